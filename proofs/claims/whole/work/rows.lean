section
-- ===== PART A: goes FIRST, ahead of the names: the tables' words, and 'selects' of the private methods out of them =====
/-- a private method of a class that the tables say can be made, by its rows of tables_1 -/
def lw_okq (q : MethodName × Nat) : Prop := (q.1.cls ≠ "java/lang/invoke/MethodHandle" ∧ q.1.cls ≠ "java/lang/invoke/VarHandle") ∧ Cond.instantiable q.1.cls q.2 ∈ tables_1 ∧ Cond.privateMethod q.1 ∈ tables_1 ∧ Cond.instanceMethod q.1 ∈ tables_1
theorem lw_p0 : lw_okq (⟨"BustRest", "found", "(I)I"⟩, 8) := ⟨⟨by decide +kernel, by decide +kernel⟩, List.mem_of_getElem? (i := 16) (by decide +kernel), List.mem_of_getElem? (i := 208) (by decide +kernel), List.mem_of_getElem? (i := 209) (by decide +kernel)⟩
theorem lw_p1 : lw_okq (⟨"BustRest$Library", "isFull", "()Z"⟩, 8) := ⟨⟨by decide +kernel, by decide +kernel⟩, List.mem_of_getElem? (i := 24) (by decide +kernel), List.mem_of_getElem? (i := 224) (by decide +kernel), List.mem_of_getElem? (i := 225) (by decide +kernel)⟩
theorem lw_p2 : lw_okq (⟨"BustRest$Library", "addBust", "(II)I"⟩, 8) := ⟨⟨by decide +kernel, by decide +kernel⟩, List.mem_of_getElem? (i := 24) (by decide +kernel), List.mem_of_getElem? (i := 229) (by decide +kernel), List.mem_of_getElem? (i := 230) (by decide +kernel)⟩
theorem lw_p3 : lw_okq (⟨"BustRest$Bust", "begin", "(II)V"⟩, 7) := ⟨⟨by decide +kernel, by decide +kernel⟩, List.mem_of_getElem? (i := 31) (by decide +kernel), List.mem_of_getElem? (i := 234) (by decide +kernel), List.mem_of_getElem? (i := 235) (by decide +kernel)⟩
theorem lw_p4 : lw_okq (⟨"BustRest", "isBust", "(I)Z"⟩, 8) := ⟨⟨by decide +kernel, by decide +kernel⟩, List.mem_of_getElem? (i := 16) (by decide +kernel), List.mem_of_getElem? (i := 242) (by decide +kernel), List.mem_of_getElem? (i := 243) (by decide +kernel)⟩
theorem lw_p5 : lw_okq (⟨"BustRest$Bust", "told", "(I)I"⟩, 7) := ⟨⟨by decide +kernel, by decide +kernel⟩, List.mem_of_getElem? (i := 31) (by decide +kernel), List.mem_of_getElem? (i := 246) (by decide +kernel), List.mem_of_getElem? (i := 247) (by decide +kernel)⟩
theorem lw_p6 : lw_okq (⟨"BustRest$Bust", "yearnsMore", "()I"⟩, 7) := ⟨⟨by decide +kernel, by decide +kernel⟩, List.mem_of_getElem? (i := 31) (by decide +kernel), List.mem_of_getElem? (i := 250) (by decide +kernel), List.mem_of_getElem? (i := 251) (by decide +kernel)⟩
theorem lw_p7 : lw_okq (⟨"BustRest$Bust", "hasPart", "(I)Z"⟩, 7) := ⟨⟨by decide +kernel, by decide +kernel⟩, List.mem_of_getElem? (i := 31) (by decide +kernel), List.mem_of_getElem? (i := 260) (by decide +kernel), List.mem_of_getElem? (i := 261) (by decide +kernel)⟩
theorem lw_p8 : lw_okq (⟨"BustRest$Bust", "leavesWith", "()I"⟩, 7) := ⟨⟨by decide +kernel, by decide +kernel⟩, List.mem_of_getElem? (i := 31) (by decide +kernel), List.mem_of_getElem? (i := 267) (by decide +kernel), List.mem_of_getElem? (i := 268) (by decide +kernel)⟩
theorem lw_p9 : lw_okq (⟨"BustRest$Bust", "stepsInADay", "()I"⟩, 7) := ⟨⟨by decide +kernel, by decide +kernel⟩, List.mem_of_getElem? (i := 31) (by decide +kernel), List.mem_of_getElem? (i := 271) (by decide +kernel), List.mem_of_getElem? (i := 272) (by decide +kernel)⟩
theorem lw_p10 : lw_okq (⟨"BustRest$Bust", "says", "()I"⟩, 7) := ⟨⟨by decide +kernel, by decide +kernel⟩, List.mem_of_getElem? (i := 31) (by decide +kernel), List.mem_of_getElem? (i := 275) (by decide +kernel), List.mem_of_getElem? (i := 276) (by decide +kernel)⟩
theorem lw_p11 : lw_okq (⟨"BustRest$Bust", "greatestPart", "()I"⟩, 7) := ⟨⟨by decide +kernel, by decide +kernel⟩, List.mem_of_getElem? (i := 31) (by decide +kernel), List.mem_of_getElem? (i := 279) (by decide +kernel), List.mem_of_getElem? (i := 280) (by decide +kernel)⟩
theorem lw_p12 : lw_okq (⟨"BustRest$Bust", "become", "(II)V"⟩, 7) := ⟨⟨by decide +kernel, by decide +kernel⟩, List.mem_of_getElem? (i := 31) (by decide +kernel), List.mem_of_getElem? (i := 289) (by decide +kernel), List.mem_of_getElem? (i := 290) (by decide +kernel)⟩
theorem lw_p13 : lw_okq (⟨"BustRest$Bust", "takes", "(I)Z"⟩, 7) := ⟨⟨by decide +kernel, by decide +kernel⟩, List.mem_of_getElem? (i := 31) (by decide +kernel), List.mem_of_getElem? (i := 297) (by decide +kernel), List.mem_of_getElem? (i := 298) (by decide +kernel)⟩
theorem lw_p14 : lw_okq (⟨"BustRest$Library", "heirOf", "(I)I"⟩, 8) := ⟨⟨by decide +kernel, by decide +kernel⟩, List.mem_of_getElem? (i := 24) (by decide +kernel), List.mem_of_getElem? (i := 305) (by decide +kernel), List.mem_of_getElem? (i := 306) (by decide +kernel)⟩
theorem lw_p15 : lw_okq (⟨"BustRest$Bust", "receive", "(I)V"⟩, 7) := ⟨⟨by decide +kernel, by decide +kernel⟩, List.mem_of_getElem? (i := 31) (by decide +kernel), List.mem_of_getElem? (i := 317) (by decide +kernel), List.mem_of_getElem? (i := 318) (by decide +kernel)⟩
def lw_privs_1 : List (MethodName × Nat) := [(⟨"BustRest", "found", "(I)I"⟩, 8), (⟨"BustRest$Library", "isFull", "()Z"⟩, 8), (⟨"BustRest$Library", "addBust", "(II)I"⟩, 8), (⟨"BustRest$Bust", "begin", "(II)V"⟩, 7), (⟨"BustRest", "isBust", "(I)Z"⟩, 8), (⟨"BustRest$Bust", "told", "(I)I"⟩, 7), (⟨"BustRest$Bust", "yearnsMore", "()I"⟩, 7), (⟨"BustRest$Bust", "hasPart", "(I)Z"⟩, 7), (⟨"BustRest$Bust", "leavesWith", "()I"⟩, 7), (⟨"BustRest$Bust", "stepsInADay", "()I"⟩, 7), (⟨"BustRest$Bust", "says", "()I"⟩, 7), (⟨"BustRest$Bust", "greatestPart", "()I"⟩, 7), (⟨"BustRest$Bust", "become", "(II)V"⟩, 7), (⟨"BustRest$Bust", "takes", "(I)Z"⟩, 7), (⟨"BustRest$Library", "heirOf", "(I)I"⟩, 8), (⟨"BustRest$Bust", "receive", "(I)V"⟩, 7)]
theorem lw_r1 : ∀ q ∈ lw_privs_1, lw_okq q := List.forall_mem_cons.mpr ⟨lw_p0, List.forall_mem_cons.mpr ⟨lw_p1, List.forall_mem_cons.mpr ⟨lw_p2, List.forall_mem_cons.mpr ⟨lw_p3, List.forall_mem_cons.mpr ⟨lw_p4, List.forall_mem_cons.mpr ⟨lw_p5, List.forall_mem_cons.mpr ⟨lw_p6, List.forall_mem_cons.mpr ⟨lw_p7, List.forall_mem_cons.mpr ⟨lw_p8, List.forall_mem_cons.mpr ⟨lw_p9, List.forall_mem_cons.mpr ⟨lw_p10, List.forall_mem_cons.mpr ⟨lw_p11, List.forall_mem_cons.mpr ⟨lw_p12, List.forall_mem_cons.mpr ⟨lw_p13, List.forall_mem_cons.mpr ⟨lw_p14, List.forall_mem_cons.mpr ⟨lw_p15, fun _ h => absurd h List.not_mem_nil⟩⟩⟩⟩⟩⟩⟩⟩⟩⟩⟩⟩⟩⟩⟩⟩
theorem lw_p16 : lw_okq (⟨"BustRest$Library", "passDays", "(I)V"⟩, 8) := ⟨⟨by decide +kernel, by decide +kernel⟩, List.mem_of_getElem? (i := 24) (by decide +kernel), List.mem_of_getElem? (i := 326) (by decide +kernel), List.mem_of_getElem? (i := 327) (by decide +kernel)⟩
theorem lw_p17 : lw_okq (⟨"BustRest$Library", "passDay", "()V"⟩, 8) := ⟨⟨by decide +kernel, by decide +kernel⟩, List.mem_of_getElem? (i := 24) (by decide +kernel), List.mem_of_getElem? (i := 330) (by decide +kernel), List.mem_of_getElem? (i := 331) (by decide +kernel)⟩
theorem lw_p18 : lw_okq (⟨"BustRest$Library", "placeToday", "()I"⟩, 8) := ⟨⟨by decide +kernel, by decide +kernel⟩, List.mem_of_getElem? (i := 24) (by decide +kernel), List.mem_of_getElem? (i := 334) (by decide +kernel), List.mem_of_getElem? (i := 335) (by decide +kernel)⟩
theorem lw_p19 : lw_okq (⟨"BustRest$Library", "bequeath", "(II)V"⟩, 8) := ⟨⟨by decide +kernel, by decide +kernel⟩, List.mem_of_getElem? (i := 24) (by decide +kernel), List.mem_of_getElem? (i := 339) (by decide +kernel), List.mem_of_getElem? (i := 340) (by decide +kernel)⟩
theorem lw_p20 : lw_okq (⟨"BustRest$Library", "passDayOf", "(LBustRest$Bust;)V"⟩, 8) := ⟨⟨by decide +kernel, by decide +kernel⟩, List.mem_of_getElem? (i := 24) (by decide +kernel), List.mem_of_getElem? (i := 347) (by decide +kernel), List.mem_of_getElem? (i := 348) (by decide +kernel)⟩
theorem lw_p21 : lw_okq (⟨"BustRest$Bust", "yearn", "(I)V"⟩, 7) := ⟨⟨by decide +kernel, by decide +kernel⟩, List.mem_of_getElem? (i := 31) (by decide +kernel), List.mem_of_getElem? (i := 352) (by decide +kernel), List.mem_of_getElem? (i := 353) (by decide +kernel)⟩
theorem lw_p22 : lw_okq (⟨"BustRest$Bust", "wouldWalk", "()Z"⟩, 7) := ⟨⟨by decide +kernel, by decide +kernel⟩, List.mem_of_getElem? (i := 31) (by decide +kernel), List.mem_of_getElem? (i := 357) (by decide +kernel), List.mem_of_getElem? (i := 358) (by decide +kernel)⟩
theorem lw_p23 : lw_okq (⟨"BustRest$Library", "storedTogether", "()I"⟩, 8) := ⟨⟨by decide +kernel, by decide +kernel⟩, List.mem_of_getElem? (i := 24) (by decide +kernel), List.mem_of_getElem? (i := 367) (by decide +kernel), List.mem_of_getElem? (i := 368) (by decide +kernel)⟩
theorem lw_p24 : lw_okq (⟨"BustRest$Library", "completeBusts", "()I"⟩, 8) := ⟨⟨by decide +kernel, by decide +kernel⟩, List.mem_of_getElem? (i := 24) (by decide +kernel), List.mem_of_getElem? (i := 371) (by decide +kernel), List.mem_of_getElem? (i := 372) (by decide +kernel)⟩
theorem lw_p25 : lw_okq (⟨"BustRest$Library", "walkers", "()I"⟩, 8) := ⟨⟨by decide +kernel, by decide +kernel⟩, List.mem_of_getElem? (i := 24) (by decide +kernel), List.mem_of_getElem? (i := 375) (by decide +kernel), List.mem_of_getElem? (i := 376) (by decide +kernel)⟩
theorem lw_p26 : lw_okq (⟨"BustRest$Library", "loudest", "()I"⟩, 8) := ⟨⟨by decide +kernel, by decide +kernel⟩, List.mem_of_getElem? (i := 24) (by decide +kernel), List.mem_of_getElem? (i := 379) (by decide +kernel), List.mem_of_getElem? (i := 380) (by decide +kernel)⟩
theorem lw_p27 : lw_okq (⟨"BustRest$Library", "yearningTogether", "()I"⟩, 8) := ⟨⟨by decide +kernel, by decide +kernel⟩, List.mem_of_getElem? (i := 24) (by decide +kernel), List.mem_of_getElem? (i := 384) (by decide +kernel), List.mem_of_getElem? (i := 385) (by decide +kernel)⟩
theorem lw_p28 : lw_okq (⟨"BustRest$Library", "goneBusts", "()I"⟩, 8) := ⟨⟨by decide +kernel, by decide +kernel⟩, List.mem_of_getElem? (i := 24) (by decide +kernel), List.mem_of_getElem? (i := 388) (by decide +kernel), List.mem_of_getElem? (i := 389) (by decide +kernel)⟩
theorem lw_p29 : lw_okq (⟨"BustRest", "beginTrial", "()V"⟩, 8) := ⟨⟨by decide +kernel, by decide +kernel⟩, List.mem_of_getElem? (i := 16) (by decide +kernel), List.mem_of_getElem? (i := 396) (by decide +kernel), List.mem_of_getElem? (i := 397) (by decide +kernel)⟩
theorem lw_p30 : lw_okq (⟨"BustRest$Library", "copyFrom", "(LBustRest$Library;)V"⟩, 8) := ⟨⟨by decide +kernel, by decide +kernel⟩, List.mem_of_getElem? (i := 24) (by decide +kernel), List.mem_of_getElem? (i := 400) (by decide +kernel), List.mem_of_getElem? (i := 401) (by decide +kernel)⟩
theorem lw_p31 : lw_okq (⟨"BustRest$Bust", "copyFrom", "(LBustRest$Bust;)V"⟩, 7) := ⟨⟨by decide +kernel, by decide +kernel⟩, List.mem_of_getElem? (i := 31) (by decide +kernel), List.mem_of_getElem? (i := 407) (by decide +kernel), List.mem_of_getElem? (i := 408) (by decide +kernel)⟩
def lw_privs_2 : List (MethodName × Nat) := [(⟨"BustRest$Library", "passDays", "(I)V"⟩, 8), (⟨"BustRest$Library", "passDay", "()V"⟩, 8), (⟨"BustRest$Library", "placeToday", "()I"⟩, 8), (⟨"BustRest$Library", "bequeath", "(II)V"⟩, 8), (⟨"BustRest$Library", "passDayOf", "(LBustRest$Bust;)V"⟩, 8), (⟨"BustRest$Bust", "yearn", "(I)V"⟩, 7), (⟨"BustRest$Bust", "wouldWalk", "()Z"⟩, 7), (⟨"BustRest$Library", "storedTogether", "()I"⟩, 8), (⟨"BustRest$Library", "completeBusts", "()I"⟩, 8), (⟨"BustRest$Library", "walkers", "()I"⟩, 8), (⟨"BustRest$Library", "loudest", "()I"⟩, 8), (⟨"BustRest$Library", "yearningTogether", "()I"⟩, 8), (⟨"BustRest$Library", "goneBusts", "()I"⟩, 8), (⟨"BustRest", "beginTrial", "()V"⟩, 8), (⟨"BustRest$Library", "copyFrom", "(LBustRest$Library;)V"⟩, 8), (⟨"BustRest$Bust", "copyFrom", "(LBustRest$Bust;)V"⟩, 7)]
theorem lw_r2 : ∀ q ∈ lw_privs_2, lw_okq q := List.forall_mem_cons.mpr ⟨lw_p16, List.forall_mem_cons.mpr ⟨lw_p17, List.forall_mem_cons.mpr ⟨lw_p18, List.forall_mem_cons.mpr ⟨lw_p19, List.forall_mem_cons.mpr ⟨lw_p20, List.forall_mem_cons.mpr ⟨lw_p21, List.forall_mem_cons.mpr ⟨lw_p22, List.forall_mem_cons.mpr ⟨lw_p23, List.forall_mem_cons.mpr ⟨lw_p24, List.forall_mem_cons.mpr ⟨lw_p25, List.forall_mem_cons.mpr ⟨lw_p26, List.forall_mem_cons.mpr ⟨lw_p27, List.forall_mem_cons.mpr ⟨lw_p28, List.forall_mem_cons.mpr ⟨lw_p29, List.forall_mem_cons.mpr ⟨lw_p30, List.forall_mem_cons.mpr ⟨lw_p31, fun _ h => absurd h List.not_mem_nil⟩⟩⟩⟩⟩⟩⟩⟩⟩⟩⟩⟩⟩⟩⟩⟩
theorem lw_p32 : lw_okq (⟨"BustRest", "daysUntil", "(III)I"⟩, 8) := ⟨⟨by decide +kernel, by decide +kernel⟩, List.mem_of_getElem? (i := 16) (by decide +kernel), List.mem_of_getElem? (i := 424) (by decide +kernel), List.mem_of_getElem? (i := 425) (by decide +kernel)⟩
theorem lw_p33 : lw_okq (⟨"BustRest$Library", "mayDifferAt", "(II)Z"⟩, 8) := ⟨⟨by decide +kernel, by decide +kernel⟩, List.mem_of_getElem? (i := 24) (by decide +kernel), List.mem_of_getElem? (i := 441) (by decide +kernel), List.mem_of_getElem? (i := 442) (by decide +kernel)⟩
theorem lw_p34 : lw_okq (⟨"BustRest", "hasByDate", "(IIII)Z"⟩, 8) := ⟨⟨by decide +kernel, by decide +kernel⟩, List.mem_of_getElem? (i := 16) (by decide +kernel), List.mem_of_getElem? (i := 445) (by decide +kernel), List.mem_of_getElem? (i := 446) (by decide +kernel)⟩
theorem lw_p35 : lw_okq (⟨"BustRest$Bust", "pathUpTo", "(I)I"⟩, 7) := ⟨⟨by decide +kernel, by decide +kernel⟩, List.mem_of_getElem? (i := 31) (by decide +kernel), List.mem_of_getElem? (i := 458) (by decide +kernel), List.mem_of_getElem? (i := 459) (by decide +kernel)⟩
theorem lw_p36 : lw_okq (⟨"BustRest$Bust", "takesBehind", "(I)Z"⟩, 7) := ⟨⟨by decide +kernel, by decide +kernel⟩, List.mem_of_getElem? (i := 31) (by decide +kernel), List.mem_of_getElem? (i := 463) (by decide +kernel), List.mem_of_getElem? (i := 464) (by decide +kernel)⟩
theorem lw_p37 : lw_okq (⟨"BustRest", "keepsAll", "(II)Z"⟩, 8) := ⟨⟨by decide +kernel, by decide +kernel⟩, List.mem_of_getElem? (i := 16) (by decide +kernel), List.mem_of_getElem? (i := 472) (by decide +kernel), List.mem_of_getElem? (i := 473) (by decide +kernel)⟩
theorem lw_p38 : lw_okq (⟨"BustRest", "findingOfVoices", "(II)I"⟩, 8) := ⟨⟨by decide +kernel, by decide +kernel⟩, List.mem_of_getElem? (i := 16) (by decide +kernel), List.mem_of_getElem? (i := 480) (by decide +kernel), List.mem_of_getElem? (i := 481) (by decide +kernel)⟩
theorem lw_p39 : lw_okq (⟨"BustRest", "findingOfSheet", "(I)I"⟩, 8) := ⟨⟨by decide +kernel, by decide +kernel⟩, List.mem_of_getElem? (i := 16) (by decide +kernel), List.mem_of_getElem? (i := 484) (by decide +kernel), List.mem_of_getElem? (i := 485) (by decide +kernel)⟩
theorem lw_p40 : lw_okq (⟨"BustRest", "isSheet", "(I)Z"⟩, 8) := ⟨⟨by decide +kernel, by decide +kernel⟩, List.mem_of_getElem? (i := 16) (by decide +kernel), List.mem_of_getElem? (i := 488) (by decide +kernel), List.mem_of_getElem? (i := 489) (by decide +kernel)⟩
theorem lw_p41 : lw_okq (⟨"BustRest$Sheet", "isMissing", "()Z"⟩, 3) := ⟨⟨by decide +kernel, by decide +kernel⟩, List.mem_of_getElem? (i := 156) (by decide +kernel), List.mem_of_getElem? (i := 492) (by decide +kernel), List.mem_of_getElem? (i := 493) (by decide +kernel)⟩
theorem lw_p42 : lw_okq (⟨"BustRest", "trialSays", "(ILBustRest$Sheet;)Z"⟩, 8) := ⟨⟨by decide +kernel, by decide +kernel⟩, List.mem_of_getElem? (i := 16) (by decide +kernel), List.mem_of_getElem? (i := 498) (by decide +kernel), List.mem_of_getElem? (i := 499) (by decide +kernel)⟩
theorem lw_p43 : lw_okq (⟨"BustRest$Library", "passDayByDraws", "()V"⟩, 8) := ⟨⟨by decide +kernel, by decide +kernel⟩, List.mem_of_getElem? (i := 24) (by decide +kernel), List.mem_of_getElem? (i := 510) (by decide +kernel), List.mem_of_getElem? (i := 511) (by decide +kernel)⟩
theorem lw_p44 : lw_okq (⟨"BustRest$Library", "draw", "()I"⟩, 8) := ⟨⟨by decide +kernel, by decide +kernel⟩, List.mem_of_getElem? (i := 24) (by decide +kernel), List.mem_of_getElem? (i := 514) (by decide +kernel), List.mem_of_getElem? (i := 515) (by decide +kernel)⟩
theorem lw_p45 : lw_okq (⟨"BustRest$Tape", "append", "(I)V"⟩, 6) := ⟨⟨by decide +kernel, by decide +kernel⟩, List.mem_of_getElem? (i := 107) (by decide +kernel), List.mem_of_getElem? (i := 534) (by decide +kernel), List.mem_of_getElem? (i := 535) (by decide +kernel)⟩
theorem lw_p46 : lw_okq (⟨"BustRest$TextReader", "readText", "()I"⟩, 4) := ⟨⟨by decide +kernel, by decide +kernel⟩, List.mem_of_getElem? (i := 136) (by decide +kernel), List.mem_of_getElem? (i := 546) (by decide +kernel), List.mem_of_getElem? (i := 547) (by decide +kernel)⟩
theorem lw_p47 : lw_okq (⟨"BustRest$Tape", "rewind", "()V"⟩, 6) := ⟨⟨by decide +kernel, by decide +kernel⟩, List.mem_of_getElem? (i := 107) (by decide +kernel), List.mem_of_getElem? (i := 550) (by decide +kernel), List.mem_of_getElem? (i := 551) (by decide +kernel)⟩
def lw_privs_3 : List (MethodName × Nat) := [(⟨"BustRest", "daysUntil", "(III)I"⟩, 8), (⟨"BustRest$Library", "mayDifferAt", "(II)Z"⟩, 8), (⟨"BustRest", "hasByDate", "(IIII)Z"⟩, 8), (⟨"BustRest$Bust", "pathUpTo", "(I)I"⟩, 7), (⟨"BustRest$Bust", "takesBehind", "(I)Z"⟩, 7), (⟨"BustRest", "keepsAll", "(II)Z"⟩, 8), (⟨"BustRest", "findingOfVoices", "(II)I"⟩, 8), (⟨"BustRest", "findingOfSheet", "(I)I"⟩, 8), (⟨"BustRest", "isSheet", "(I)Z"⟩, 8), (⟨"BustRest$Sheet", "isMissing", "()Z"⟩, 3), (⟨"BustRest", "trialSays", "(ILBustRest$Sheet;)Z"⟩, 8), (⟨"BustRest$Library", "passDayByDraws", "()V"⟩, 8), (⟨"BustRest$Library", "draw", "()I"⟩, 8), (⟨"BustRest$Tape", "append", "(I)V"⟩, 6), (⟨"BustRest$TextReader", "readText", "()I"⟩, 4), (⟨"BustRest$Tape", "rewind", "()V"⟩, 6)]
theorem lw_r3 : ∀ q ∈ lw_privs_3, lw_okq q := List.forall_mem_cons.mpr ⟨lw_p32, List.forall_mem_cons.mpr ⟨lw_p33, List.forall_mem_cons.mpr ⟨lw_p34, List.forall_mem_cons.mpr ⟨lw_p35, List.forall_mem_cons.mpr ⟨lw_p36, List.forall_mem_cons.mpr ⟨lw_p37, List.forall_mem_cons.mpr ⟨lw_p38, List.forall_mem_cons.mpr ⟨lw_p39, List.forall_mem_cons.mpr ⟨lw_p40, List.forall_mem_cons.mpr ⟨lw_p41, List.forall_mem_cons.mpr ⟨lw_p42, List.forall_mem_cons.mpr ⟨lw_p43, List.forall_mem_cons.mpr ⟨lw_p44, List.forall_mem_cons.mpr ⟨lw_p45, List.forall_mem_cons.mpr ⟨lw_p46, List.forall_mem_cons.mpr ⟨lw_p47, fun _ h => absurd h List.not_mem_nil⟩⟩⟩⟩⟩⟩⟩⟩⟩⟩⟩⟩⟩⟩⟩⟩
theorem lw_p48 : lw_okq (⟨"BustRest$Tape", "readToken", "()V"⟩, 6) := ⟨⟨by decide +kernel, by decide +kernel⟩, List.mem_of_getElem? (i := 107) (by decide +kernel), List.mem_of_getElem? (i := 554) (by decide +kernel), List.mem_of_getElem? (i := 555) (by decide +kernel)⟩
theorem lw_p49 : lw_okq (⟨"BustRest$Tape", "isLetter", "(I)Z"⟩, 6) := ⟨⟨by decide +kernel, by decide +kernel⟩, List.mem_of_getElem? (i := 107) (by decide +kernel), List.mem_of_getElem? (i := 558) (by decide +kernel), List.mem_of_getElem? (i := 559) (by decide +kernel)⟩
theorem lw_p50 : lw_okq (⟨"BustRest$Tape", "isDigit", "(I)Z"⟩, 6) := ⟨⟨by decide +kernel, by decide +kernel⟩, List.mem_of_getElem? (i := 107) (by decide +kernel), List.mem_of_getElem? (i := 562) (by decide +kernel), List.mem_of_getElem? (i := 563) (by decide +kernel)⟩
theorem lw_p51 : lw_okq (⟨"BustRest$TextReader", "readItem", "()Z"⟩, 4) := ⟨⟨by decide +kernel, by decide +kernel⟩, List.mem_of_getElem? (i := 136) (by decide +kernel), List.mem_of_getElem? (i := 567) (by decide +kernel), List.mem_of_getElem? (i := 568) (by decide +kernel)⟩
theorem lw_p52 : lw_okq (⟨"BustRest$Tape", "isWord", "(Ljava/lang/String;)Z"⟩, 6) := ⟨⟨by decide +kernel, by decide +kernel⟩, List.mem_of_getElem? (i := 107) (by decide +kernel), List.mem_of_getElem? (i := 572) (by decide +kernel), List.mem_of_getElem? (i := 573) (by decide +kernel)⟩
theorem lw_p53 : lw_okq (⟨"BustRest$TextReader", "readBequest", "()Z"⟩, 4) := ⟨⟨by decide +kernel, by decide +kernel⟩, List.mem_of_getElem? (i := 136) (by decide +kernel), List.mem_of_getElem? (i := 624) (by decide +kernel), List.mem_of_getElem? (i := 625) (by decide +kernel)⟩
theorem lw_p54 : lw_okq (⟨"BustRest$TextReader", "readTwoNumbers", "(II)Z"⟩, 4) := ⟨⟨by decide +kernel, by decide +kernel⟩, List.mem_of_getElem? (i := 136) (by decide +kernel), List.mem_of_getElem? (i := 628) (by decide +kernel), List.mem_of_getElem? (i := 629) (by decide +kernel)⟩
theorem lw_p55 : lw_okq (⟨"BustRest$Tape", "isNumber", "(I)Z"⟩, 6) := ⟨⟨by decide +kernel, by decide +kernel⟩, List.mem_of_getElem? (i := 107) (by decide +kernel), List.mem_of_getElem? (i := 633) (by decide +kernel), List.mem_of_getElem? (i := 634) (by decide +kernel)⟩
theorem lw_p56 : lw_okq (⟨"BustRest$TextReader", "readStore", "()Z"⟩, 4) := ⟨⟨by decide +kernel, by decide +kernel⟩, List.mem_of_getElem? (i := 136) (by decide +kernel), List.mem_of_getElem? (i := 638) (by decide +kernel), List.mem_of_getElem? (i := 639) (by decide +kernel)⟩
theorem lw_p57 : lw_okq (⟨"BustRest$TextReader", "readBust", "(I)Z"⟩, 4) := ⟨⟨by decide +kernel, by decide +kernel⟩, List.mem_of_getElem? (i := 136) (by decide +kernel), List.mem_of_getElem? (i := 652) (by decide +kernel), List.mem_of_getElem? (i := 653) (by decide +kernel)⟩
theorem lw_p58 : lw_okq (⟨"BustRest$TextReader", "readMore", "(LBustRest$Bust;Ljava/lang/String;I)Z"⟩, 4) := ⟨⟨by decide +kernel, by decide +kernel⟩, List.mem_of_getElem? (i := 136) (by decide +kernel), List.mem_of_getElem? (i := 659) (by decide +kernel), List.mem_of_getElem? (i := 660) (by decide +kernel)⟩
theorem lw_p59 : lw_okq (⟨"BustRest$TextReader", "readSeal", "(LBustRest$Bust;)Z"⟩, 4) := ⟨⟨by decide +kernel, by decide +kernel⟩, List.mem_of_getElem? (i := 136) (by decide +kernel), List.mem_of_getElem? (i := 666) (by decide +kernel), List.mem_of_getElem? (i := 667) (by decide +kernel)⟩
theorem lw_p60 : lw_okq (⟨"BustRest$Bust", "isA", "(I)Z"⟩, 7) := ⟨⟨by decide +kernel, by decide +kernel⟩, List.mem_of_getElem? (i := 31) (by decide +kernel), List.mem_of_getElem? (i := 680) (by decide +kernel), List.mem_of_getElem? (i := 681) (by decide +kernel)⟩
theorem lw_p61 : lw_okq (⟨"BustRest$Sheet", "begin", "(II)V"⟩, 3) := ⟨⟨by decide +kernel, by decide +kernel⟩, List.mem_of_getElem? (i := 156) (by decide +kernel), List.mem_of_getElem? (i := 692) (by decide +kernel), List.mem_of_getElem? (i := 693) (by decide +kernel)⟩
theorem lw_p62 : lw_okq (⟨"BustRest$Sheet", "put", "(II)V"⟩, 3) := ⟨⟨by decide +kernel, by decide +kernel⟩, List.mem_of_getElem? (i := 156) (by decide +kernel), List.mem_of_getElem? (i := 700) (by decide +kernel), List.mem_of_getElem? (i := 701) (by decide +kernel)⟩
theorem lw_p63 : lw_okq (⟨"BustRest$Sheet", "spans", "(II)Z"⟩, 3) := ⟨⟨by decide +kernel, by decide +kernel⟩, List.mem_of_getElem? (i := 156) (by decide +kernel), List.mem_of_getElem? (i := 708) (by decide +kernel), List.mem_of_getElem? (i := 709) (by decide +kernel)⟩
def lw_privs_4 : List (MethodName × Nat) := [(⟨"BustRest$Tape", "readToken", "()V"⟩, 6), (⟨"BustRest$Tape", "isLetter", "(I)Z"⟩, 6), (⟨"BustRest$Tape", "isDigit", "(I)Z"⟩, 6), (⟨"BustRest$TextReader", "readItem", "()Z"⟩, 4), (⟨"BustRest$Tape", "isWord", "(Ljava/lang/String;)Z"⟩, 6), (⟨"BustRest$TextReader", "readBequest", "()Z"⟩, 4), (⟨"BustRest$TextReader", "readTwoNumbers", "(II)Z"⟩, 4), (⟨"BustRest$Tape", "isNumber", "(I)Z"⟩, 6), (⟨"BustRest$TextReader", "readStore", "()Z"⟩, 4), (⟨"BustRest$TextReader", "readBust", "(I)Z"⟩, 4), (⟨"BustRest$TextReader", "readMore", "(LBustRest$Bust;Ljava/lang/String;I)Z"⟩, 4), (⟨"BustRest$TextReader", "readSeal", "(LBustRest$Bust;)Z"⟩, 4), (⟨"BustRest$Bust", "isA", "(I)Z"⟩, 7), (⟨"BustRest$Sheet", "begin", "(II)V"⟩, 3), (⟨"BustRest$Sheet", "put", "(II)V"⟩, 3), (⟨"BustRest$Sheet", "spans", "(II)Z"⟩, 3)]
theorem lw_r4 : ∀ q ∈ lw_privs_4, lw_okq q := List.forall_mem_cons.mpr ⟨lw_p48, List.forall_mem_cons.mpr ⟨lw_p49, List.forall_mem_cons.mpr ⟨lw_p50, List.forall_mem_cons.mpr ⟨lw_p51, List.forall_mem_cons.mpr ⟨lw_p52, List.forall_mem_cons.mpr ⟨lw_p53, List.forall_mem_cons.mpr ⟨lw_p54, List.forall_mem_cons.mpr ⟨lw_p55, List.forall_mem_cons.mpr ⟨lw_p56, List.forall_mem_cons.mpr ⟨lw_p57, List.forall_mem_cons.mpr ⟨lw_p58, List.forall_mem_cons.mpr ⟨lw_p59, List.forall_mem_cons.mpr ⟨lw_p60, List.forall_mem_cons.mpr ⟨lw_p61, List.forall_mem_cons.mpr ⟨lw_p62, List.forall_mem_cons.mpr ⟨lw_p63, fun _ h => absurd h List.not_mem_nil⟩⟩⟩⟩⟩⟩⟩⟩⟩⟩⟩⟩⟩⟩⟩⟩
theorem lw_p64 : lw_okq (⟨"BustRest$Library", "spotsTaken", "()I"⟩, 8) := ⟨⟨by decide +kernel, by decide +kernel⟩, List.mem_of_getElem? (i := 24) (by decide +kernel), List.mem_of_getElem? (i := 738) (by decide +kernel), List.mem_of_getElem? (i := 739) (by decide +kernel)⟩
theorem lw_p65 : lw_okq (⟨"BustRestModel", "become", "(II)I"⟩, 20) := ⟨⟨by decide +kernel, by decide +kernel⟩, List.mem_of_getElem? (i := 746) (by decide +kernel), List.mem_of_getElem? (i := 835) (by decide +kernel), List.mem_of_getElem? (i := 836) (by decide +kernel)⟩
theorem lw_p66 : lw_okq (⟨"BustRestModel", "finding", "(I)I"⟩, 20) := ⟨⟨by decide +kernel, by decide +kernel⟩, List.mem_of_getElem? (i := 746) (by decide +kernel), List.mem_of_getElem? (i := 840) (by decide +kernel), List.mem_of_getElem? (i := 841) (by decide +kernel)⟩
theorem lw_p67 : lw_okq (⟨"BustRestModel", "comes", "(II)I"⟩, 20) := ⟨⟨by decide +kernel, by decide +kernel⟩, List.mem_of_getElem? (i := 746) (by decide +kernel), List.mem_of_getElem? (i := 866) (by decide +kernel), List.mem_of_getElem? (i := 867) (by decide +kernel)⟩
theorem lw_p68 : lw_okq (⟨"BustRestModel", "isBust", "(I)Z"⟩, 20) := ⟨⟨by decide +kernel, by decide +kernel⟩, List.mem_of_getElem? (i := 746) (by decide +kernel), List.mem_of_getElem? (i := 877) (by decide +kernel), List.mem_of_getElem? (i := 878) (by decide +kernel)⟩
theorem lw_p69 : lw_okq (⟨"BustRestModel", "told", "(II)I"⟩, 20) := ⟨⟨by decide +kernel, by decide +kernel⟩, List.mem_of_getElem? (i := 746) (by decide +kernel), List.mem_of_getElem? (i := 881) (by decide +kernel), List.mem_of_getElem? (i := 882) (by decide +kernel)⟩
theorem lw_p70 : lw_okq (⟨"BustRestModel", "yearns", "(I)I"⟩, 20) := ⟨⟨by decide +kernel, by decide +kernel⟩, List.mem_of_getElem? (i := 746) (by decide +kernel), List.mem_of_getElem? (i := 885) (by decide +kernel), List.mem_of_getElem? (i := 886) (by decide +kernel)⟩
theorem lw_p71 : lw_okq (⟨"BustRestModel", "bustIs", "(II)I"⟩, 20) := ⟨⟨by decide +kernel, by decide +kernel⟩, List.mem_of_getElem? (i := 746) (by decide +kernel), List.mem_of_getElem? (i := 889) (by decide +kernel), List.mem_of_getElem? (i := 890) (by decide +kernel)⟩
theorem lw_p72 : lw_okq (⟨"BustRestModel", "has", "(II)Z"⟩, 20) := ⟨⟨by decide +kernel, by decide +kernel⟩, List.mem_of_getElem? (i := 746) (by decide +kernel), List.mem_of_getElem? (i := 896) (by decide +kernel), List.mem_of_getElem? (i := 897) (by decide +kernel)⟩
theorem lw_p73 : lw_okq (⟨"BustRestModel", "arms", "(I)I"⟩, 20) := ⟨⟨by decide +kernel, by decide +kernel⟩, List.mem_of_getElem? (i := 746) (by decide +kernel), List.mem_of_getElem? (i := 900) (by decide +kernel), List.mem_of_getElem? (i := 901) (by decide +kernel)⟩
theorem lw_p74 : lw_okq (⟨"BustRestModel", "leavesWith", "(I)I"⟩, 20) := ⟨⟨by decide +kernel, by decide +kernel⟩, List.mem_of_getElem? (i := 746) (by decide +kernel), List.mem_of_getElem? (i := 905) (by decide +kernel), List.mem_of_getElem? (i := 906) (by decide +kernel)⟩
theorem lw_p75 : lw_okq (⟨"BustRestModel", "steps", "(I)I"⟩, 20) := ⟨⟨by decide +kernel, by decide +kernel⟩, List.mem_of_getElem? (i := 746) (by decide +kernel), List.mem_of_getElem? (i := 909) (by decide +kernel), List.mem_of_getElem? (i := 910) (by decide +kernel)⟩
theorem lw_p76 : lw_okq (⟨"BustRestModel", "says", "(I)I"⟩, 20) := ⟨⟨by decide +kernel, by decide +kernel⟩, List.mem_of_getElem? (i := 746) (by decide +kernel), List.mem_of_getElem? (i := 913) (by decide +kernel), List.mem_of_getElem? (i := 914) (by decide +kernel)⟩
theorem lw_p77 : lw_okq (⟨"BustRestModel", "greatest", "(I)I"⟩, 20) := ⟨⟨by decide +kernel, by decide +kernel⟩, List.mem_of_getElem? (i := 746) (by decide +kernel), List.mem_of_getElem? (i := 917) (by decide +kernel), List.mem_of_getElem? (i := 918) (by decide +kernel)⟩
theorem lw_p78 : lw_okq (⟨"BustRestModel", "takes", "(II)Z"⟩, 20) := ⟨⟨by decide +kernel, by decide +kernel⟩, List.mem_of_getElem? (i := 746) (by decide +kernel), List.mem_of_getElem? (i := 932) (by decide +kernel), List.mem_of_getElem? (i := 933) (by decide +kernel)⟩
theorem lw_p79 : lw_okq (⟨"BustRestModel", "likes", "(II)Z"⟩, 20) := ⟨⟨by decide +kernel, by decide +kernel⟩, List.mem_of_getElem? (i := 746) (by decide +kernel), List.mem_of_getElem? (i := 936) (by decide +kernel), List.mem_of_getElem? (i := 937) (by decide +kernel)⟩
def lw_privs_5 : List (MethodName × Nat) := [(⟨"BustRest$Library", "spotsTaken", "()I"⟩, 8), (⟨"BustRestModel", "become", "(II)I"⟩, 20), (⟨"BustRestModel", "finding", "(I)I"⟩, 20), (⟨"BustRestModel", "comes", "(II)I"⟩, 20), (⟨"BustRestModel", "isBust", "(I)Z"⟩, 20), (⟨"BustRestModel", "told", "(II)I"⟩, 20), (⟨"BustRestModel", "yearns", "(I)I"⟩, 20), (⟨"BustRestModel", "bustIs", "(II)I"⟩, 20), (⟨"BustRestModel", "has", "(II)Z"⟩, 20), (⟨"BustRestModel", "arms", "(I)I"⟩, 20), (⟨"BustRestModel", "leavesWith", "(I)I"⟩, 20), (⟨"BustRestModel", "steps", "(I)I"⟩, 20), (⟨"BustRestModel", "says", "(I)I"⟩, 20), (⟨"BustRestModel", "greatest", "(I)I"⟩, 20), (⟨"BustRestModel", "takes", "(II)Z"⟩, 20), (⟨"BustRestModel", "likes", "(II)Z"⟩, 20)]
theorem lw_r5 : ∀ q ∈ lw_privs_5, lw_okq q := List.forall_mem_cons.mpr ⟨lw_p64, List.forall_mem_cons.mpr ⟨lw_p65, List.forall_mem_cons.mpr ⟨lw_p66, List.forall_mem_cons.mpr ⟨lw_p67, List.forall_mem_cons.mpr ⟨lw_p68, List.forall_mem_cons.mpr ⟨lw_p69, List.forall_mem_cons.mpr ⟨lw_p70, List.forall_mem_cons.mpr ⟨lw_p71, List.forall_mem_cons.mpr ⟨lw_p72, List.forall_mem_cons.mpr ⟨lw_p73, List.forall_mem_cons.mpr ⟨lw_p74, List.forall_mem_cons.mpr ⟨lw_p75, List.forall_mem_cons.mpr ⟨lw_p76, List.forall_mem_cons.mpr ⟨lw_p77, List.forall_mem_cons.mpr ⟨lw_p78, List.forall_mem_cons.mpr ⟨lw_p79, fun _ h => absurd h List.not_mem_nil⟩⟩⟩⟩⟩⟩⟩⟩⟩⟩⟩⟩⟩⟩⟩⟩
theorem lw_p80 : lw_okq (⟨"BustRestModel", "heirOf", "(I)I"⟩, 20) := ⟨⟨by decide +kernel, by decide +kernel⟩, List.mem_of_getElem? (i := 746) (by decide +kernel), List.mem_of_getElem? (i := 944) (by decide +kernel), List.mem_of_getElem? (i := 945) (by decide +kernel)⟩
theorem lw_p81 : lw_okq (⟨"BustRestModel", "isGone", "(I)Z"⟩, 20) := ⟨⟨by decide +kernel, by decide +kernel⟩, List.mem_of_getElem? (i := 746) (by decide +kernel), List.mem_of_getElem? (i := 948) (by decide +kernel), List.mem_of_getElem? (i := 949) (by decide +kernel)⟩
theorem lw_p82 : lw_okq (⟨"BustRestModel", "orNone", "(I)I"⟩, 20) := ⟨⟨by decide +kernel, by decide +kernel⟩, List.mem_of_getElem? (i := 746) (by decide +kernel), List.mem_of_getElem? (i := 952) (by decide +kernel), List.mem_of_getElem? (i := 953) (by decide +kernel)⟩
theorem lw_p83 : lw_okq (⟨"BustRestModel", "gets", "(II)I"⟩, 20) := ⟨⟨by decide +kernel, by decide +kernel⟩, List.mem_of_getElem? (i := 746) (by decide +kernel), List.mem_of_getElem? (i := 962) (by decide +kernel), List.mem_of_getElem? (i := 963) (by decide +kernel)⟩
theorem lw_p84 : lw_okq (⟨"BustRestModel", "daysGo", "(I)V"⟩, 20) := ⟨⟨by decide +kernel, by decide +kernel⟩, List.mem_of_getElem? (i := 746) (by decide +kernel), List.mem_of_getElem? (i := 971) (by decide +kernel), List.mem_of_getElem? (i := 972) (by decide +kernel)⟩
theorem lw_p85 : lw_okq (⟨"BustRestModel", "day", "()V"⟩, 20) := ⟨⟨by decide +kernel, by decide +kernel⟩, List.mem_of_getElem? (i := 746) (by decide +kernel), List.mem_of_getElem? (i := 975) (by decide +kernel), List.mem_of_getElem? (i := 976) (by decide +kernel)⟩
theorem lw_p86 : lw_okq (⟨"BustRestModel", "placeNow", "()I"⟩, 20) := ⟨⟨by decide +kernel, by decide +kernel⟩, List.mem_of_getElem? (i := 746) (by decide +kernel), List.mem_of_getElem? (i := 979) (by decide +kernel), List.mem_of_getElem? (i := 980) (by decide +kernel)⟩
theorem lw_p87 : lw_okq (⟨"BustRestModel", "more", "(III)V"⟩, 20) := ⟨⟨by decide +kernel, by decide +kernel⟩, List.mem_of_getElem? (i := 746) (by decide +kernel), List.mem_of_getElem? (i := 983) (by decide +kernel), List.mem_of_getElem? (i := 984) (by decide +kernel)⟩
theorem lw_p88 : lw_okq (⟨"BustRestModel", "yearnsOn", "(I)V"⟩, 20) := ⟨⟨by decide +kernel, by decide +kernel⟩, List.mem_of_getElem? (i := 746) (by decide +kernel), List.mem_of_getElem? (i := 988) (by decide +kernel), List.mem_of_getElem? (i := 989) (by decide +kernel)⟩
theorem lw_p89 : lw_okq (⟨"BustRestModel", "wouldWalk", "(I)Z"⟩, 20) := ⟨⟨by decide +kernel, by decide +kernel⟩, List.mem_of_getElem? (i := 746) (by decide +kernel), List.mem_of_getElem? (i := 992) (by decide +kernel), List.mem_of_getElem? (i := 993) (by decide +kernel)⟩
theorem lw_p90 : lw_okq (⟨"BustRestModel", "inStore", "()I"⟩, 20) := ⟨⟨by decide +kernel, by decide +kernel⟩, List.mem_of_getElem? (i := 746) (by decide +kernel), List.mem_of_getElem? (i := 1000) (by decide +kernel), List.mem_of_getElem? (i := 1001) (by decide +kernel)⟩
theorem lw_p91 : lw_okq (⟨"BustRestModel", "wholeOnes", "()I"⟩, 20) := ⟨⟨by decide +kernel, by decide +kernel⟩, List.mem_of_getElem? (i := 746) (by decide +kernel), List.mem_of_getElem? (i := 1004) (by decide +kernel), List.mem_of_getElem? (i := 1005) (by decide +kernel)⟩
theorem lw_p92 : lw_okq (⟨"BustRestModel", "walkers", "()I"⟩, 20) := ⟨⟨by decide +kernel, by decide +kernel⟩, List.mem_of_getElem? (i := 746) (by decide +kernel), List.mem_of_getElem? (i := 1008) (by decide +kernel), List.mem_of_getElem? (i := 1009) (by decide +kernel)⟩
theorem lw_p93 : lw_okq (⟨"BustRestModel", "loudest", "()I"⟩, 20) := ⟨⟨by decide +kernel, by decide +kernel⟩, List.mem_of_getElem? (i := 746) (by decide +kernel), List.mem_of_getElem? (i := 1012) (by decide +kernel), List.mem_of_getElem? (i := 1013) (by decide +kernel)⟩
theorem lw_p94 : lw_okq (⟨"BustRestModel", "yearnings", "()I"⟩, 20) := ⟨⟨by decide +kernel, by decide +kernel⟩, List.mem_of_getElem? (i := 746) (by decide +kernel), List.mem_of_getElem? (i := 1016) (by decide +kernel), List.mem_of_getElem? (i := 1017) (by decide +kernel)⟩
theorem lw_p95 : lw_okq (⟨"BustRestModel", "goneOnes", "()I"⟩, 20) := ⟨⟨by decide +kernel, by decide +kernel⟩, List.mem_of_getElem? (i := 746) (by decide +kernel), List.mem_of_getElem? (i := 1020) (by decide +kernel), List.mem_of_getElem? (i := 1021) (by decide +kernel)⟩
def lw_privs_6 : List (MethodName × Nat) := [(⟨"BustRestModel", "heirOf", "(I)I"⟩, 20), (⟨"BustRestModel", "isGone", "(I)Z"⟩, 20), (⟨"BustRestModel", "orNone", "(I)I"⟩, 20), (⟨"BustRestModel", "gets", "(II)I"⟩, 20), (⟨"BustRestModel", "daysGo", "(I)V"⟩, 20), (⟨"BustRestModel", "day", "()V"⟩, 20), (⟨"BustRestModel", "placeNow", "()I"⟩, 20), (⟨"BustRestModel", "more", "(III)V"⟩, 20), (⟨"BustRestModel", "yearnsOn", "(I)V"⟩, 20), (⟨"BustRestModel", "wouldWalk", "(I)Z"⟩, 20), (⟨"BustRestModel", "inStore", "()I"⟩, 20), (⟨"BustRestModel", "wholeOnes", "()I"⟩, 20), (⟨"BustRestModel", "walkers", "()I"⟩, 20), (⟨"BustRestModel", "loudest", "()I"⟩, 20), (⟨"BustRestModel", "yearnings", "()I"⟩, 20), (⟨"BustRestModel", "goneOnes", "()I"⟩, 20)]
theorem lw_r6 : ∀ q ∈ lw_privs_6, lw_okq q := List.forall_mem_cons.mpr ⟨lw_p80, List.forall_mem_cons.mpr ⟨lw_p81, List.forall_mem_cons.mpr ⟨lw_p82, List.forall_mem_cons.mpr ⟨lw_p83, List.forall_mem_cons.mpr ⟨lw_p84, List.forall_mem_cons.mpr ⟨lw_p85, List.forall_mem_cons.mpr ⟨lw_p86, List.forall_mem_cons.mpr ⟨lw_p87, List.forall_mem_cons.mpr ⟨lw_p88, List.forall_mem_cons.mpr ⟨lw_p89, List.forall_mem_cons.mpr ⟨lw_p90, List.forall_mem_cons.mpr ⟨lw_p91, List.forall_mem_cons.mpr ⟨lw_p92, List.forall_mem_cons.mpr ⟨lw_p93, List.forall_mem_cons.mpr ⟨lw_p94, List.forall_mem_cons.mpr ⟨lw_p95, fun _ h => absurd h List.not_mem_nil⟩⟩⟩⟩⟩⟩⟩⟩⟩⟩⟩⟩⟩⟩⟩⟩
theorem lw_p96 : lw_okq (⟨"BustRestModel", "toldBehind", "(III)I"⟩, 20) := ⟨⟨by decide +kernel, by decide +kernel⟩, List.mem_of_getElem? (i := 746) (by decide +kernel), List.mem_of_getElem? (i := 1028) (by decide +kernel), List.mem_of_getElem? (i := 1029) (by decide +kernel)⟩
theorem lw_p97 : lw_okq (⟨"BustRestModel", "putBack", "(I)I"⟩, 20) := ⟨⟨by decide +kernel, by decide +kernel⟩, List.mem_of_getElem? (i := 746) (by decide +kernel), List.mem_of_getElem? (i := 1035) (by decide +kernel), List.mem_of_getElem? (i := 1036) (by decide +kernel)⟩
theorem lw_p98 : lw_okq (⟨"BustRestModel", "behind", "(II)I"⟩, 20) := ⟨⟨by decide +kernel, by decide +kernel⟩, List.mem_of_getElem? (i := 746) (by decide +kernel), List.mem_of_getElem? (i := 1043) (by decide +kernel), List.mem_of_getElem? (i := 1044) (by decide +kernel)⟩
theorem lw_p99 : lw_okq (⟨"BustRestModel", "leadsTo", "(III)Z"⟩, 20) := ⟨⟨by decide +kernel, by decide +kernel⟩, List.mem_of_getElem? (i := 746) (by decide +kernel), List.mem_of_getElem? (i := 1078) (by decide +kernel), List.mem_of_getElem? (i := 1079) (by decide +kernel)⟩
theorem lw_p100 : lw_okq (⟨"BustRestModel", "nobodyLeaves", "(II)Z"⟩, 20) := ⟨⟨by decide +kernel, by decide +kernel⟩, List.mem_of_getElem? (i := 746) (by decide +kernel), List.mem_of_getElem? (i := 1086) (by decide +kernel), List.mem_of_getElem? (i := 1087) (by decide +kernel)⟩
theorem lw_p101 : lw_okq (⟨"BustRestModel", "lacks", "(IZ)I"⟩, 20) := ⟨⟨by decide +kernel, by decide +kernel⟩, List.mem_of_getElem? (i := 746) (by decide +kernel), List.mem_of_getElem? (i := 1094) (by decide +kernel), List.mem_of_getElem? (i := 1095) (by decide +kernel)⟩
theorem lw_p102 : lw_okq (⟨"BustRestModel", "fitting", "(IIII)I"⟩, 20) := ⟨⟨by decide +kernel, by decide +kernel⟩, List.mem_of_getElem? (i := 746) (by decide +kernel), List.mem_of_getElem? (i := 1102) (by decide +kernel), List.mem_of_getElem? (i := 1103) (by decide +kernel)⟩
theorem lw_p103 : lw_okq (⟨"BustRestModel", "isSo", "(II)Z"⟩, 20) := ⟨⟨by decide +kernel, by decide +kernel⟩, List.mem_of_getElem? (i := 746) (by decide +kernel), List.mem_of_getElem? (i := 1106) (by decide +kernel), List.mem_of_getElem? (i := 1107) (by decide +kernel)⟩
theorem lw_p104 : lw_okq (⟨"BustRestModel", "drawn", "()I"⟩, 20) := ⟨⟨by decide +kernel, by decide +kernel⟩, List.mem_of_getElem? (i := 746) (by decide +kernel), List.mem_of_getElem? (i := 1118) (by decide +kernel), List.mem_of_getElem? (i := 1119) (by decide +kernel)⟩
theorem lw_p105 : lw_okq (⟨"BustRestModel", "token", "()V"⟩, 20) := ⟨⟨by decide +kernel, by decide +kernel⟩, List.mem_of_getElem? (i := 746) (by decide +kernel), List.mem_of_getElem? (i := 1143) (by decide +kernel), List.mem_of_getElem? (i := 1144) (by decide +kernel)⟩
theorem lw_p106 : lw_okq (⟨"BustRestModel", "byteAt", "(I)I"⟩, 20) := ⟨⟨by decide +kernel, by decide +kernel⟩, List.mem_of_getElem? (i := 746) (by decide +kernel), List.mem_of_getElem? (i := 1147) (by decide +kernel), List.mem_of_getElem? (i := 1148) (by decide +kernel)⟩
theorem lw_p107 : lw_okq (⟨"BustRestModel", "readItem", "()V"⟩, 20) := ⟨⟨by decide +kernel, by decide +kernel⟩, List.mem_of_getElem? (i := 746) (by decide +kernel), List.mem_of_getElem? (i := 1151) (by decide +kernel), List.mem_of_getElem? (i := 1152) (by decide +kernel)⟩
theorem lw_p108 : lw_okq (⟨"BustRestModel", "isWord", "(Ljava/lang/String;)Z"⟩, 20) := ⟨⟨by decide +kernel, by decide +kernel⟩, List.mem_of_getElem? (i := 746) (by decide +kernel), List.mem_of_getElem? (i := 1155) (by decide +kernel), List.mem_of_getElem? (i := 1156) (by decide +kernel)⟩
theorem lw_p109 : lw_okq (⟨"BustRestModel", "readBust", "(I)V"⟩, 20) := ⟨⟨by decide +kernel, by decide +kernel⟩, List.mem_of_getElem? (i := 746) (by decide +kernel), List.mem_of_getElem? (i := 1161) (by decide +kernel), List.mem_of_getElem? (i := 1162) (by decide +kernel)⟩
theorem lw_p110 : lw_okq (⟨"BustRestModel", "must", "(Z)V"⟩, 20) := ⟨⟨by decide +kernel, by decide +kernel⟩, List.mem_of_getElem? (i := 746) (by decide +kernel), List.mem_of_getElem? (i := 1165) (by decide +kernel), List.mem_of_getElem? (i := 1166) (by decide +kernel)⟩
theorem lw_p111 : lw_okq (⟨"BustRestModel", "number", "(II)I"⟩, 20) := ⟨⟨by decide +kernel, by decide +kernel⟩, List.mem_of_getElem? (i := 746) (by decide +kernel), List.mem_of_getElem? (i := 1169) (by decide +kernel), List.mem_of_getElem? (i := 1170) (by decide +kernel)⟩
def lw_privs_7 : List (MethodName × Nat) := [(⟨"BustRestModel", "toldBehind", "(III)I"⟩, 20), (⟨"BustRestModel", "putBack", "(I)I"⟩, 20), (⟨"BustRestModel", "behind", "(II)I"⟩, 20), (⟨"BustRestModel", "leadsTo", "(III)Z"⟩, 20), (⟨"BustRestModel", "nobodyLeaves", "(II)Z"⟩, 20), (⟨"BustRestModel", "lacks", "(IZ)I"⟩, 20), (⟨"BustRestModel", "fitting", "(IIII)I"⟩, 20), (⟨"BustRestModel", "isSo", "(II)Z"⟩, 20), (⟨"BustRestModel", "drawn", "()I"⟩, 20), (⟨"BustRestModel", "token", "()V"⟩, 20), (⟨"BustRestModel", "byteAt", "(I)I"⟩, 20), (⟨"BustRestModel", "readItem", "()V"⟩, 20), (⟨"BustRestModel", "isWord", "(Ljava/lang/String;)Z"⟩, 20), (⟨"BustRestModel", "readBust", "(I)V"⟩, 20), (⟨"BustRestModel", "must", "(Z)V"⟩, 20), (⟨"BustRestModel", "number", "(II)I"⟩, 20)]
theorem lw_r7 : ∀ q ∈ lw_privs_7, lw_okq q := List.forall_mem_cons.mpr ⟨lw_p96, List.forall_mem_cons.mpr ⟨lw_p97, List.forall_mem_cons.mpr ⟨lw_p98, List.forall_mem_cons.mpr ⟨lw_p99, List.forall_mem_cons.mpr ⟨lw_p100, List.forall_mem_cons.mpr ⟨lw_p101, List.forall_mem_cons.mpr ⟨lw_p102, List.forall_mem_cons.mpr ⟨lw_p103, List.forall_mem_cons.mpr ⟨lw_p104, List.forall_mem_cons.mpr ⟨lw_p105, List.forall_mem_cons.mpr ⟨lw_p106, List.forall_mem_cons.mpr ⟨lw_p107, List.forall_mem_cons.mpr ⟨lw_p108, List.forall_mem_cons.mpr ⟨lw_p109, List.forall_mem_cons.mpr ⟨lw_p110, List.forall_mem_cons.mpr ⟨lw_p111, fun _ h => absurd h List.not_mem_nil⟩⟩⟩⟩⟩⟩⟩⟩⟩⟩⟩⟩⟩⟩⟩⟩
theorem lw_p112 : lw_okq (⟨"BustRestModel", "takesWord", "(Ljava/lang/String;)Z"⟩, 20) := ⟨⟨by decide +kernel, by decide +kernel⟩, List.mem_of_getElem? (i := 746) (by decide +kernel), List.mem_of_getElem? (i := 1174) (by decide +kernel), List.mem_of_getElem? (i := 1175) (by decide +kernel)⟩
theorem lw_p113 : lw_okq (⟨"BustRestModel", "addItem", "(IIIII)V"⟩, 20) := ⟨⟨by decide +kernel, by decide +kernel⟩, List.mem_of_getElem? (i := 746) (by decide +kernel), List.mem_of_getElem? (i := 1180) (by decide +kernel), List.mem_of_getElem? (i := 1181) (by decide +kernel)⟩
theorem lw_p114 : lw_okq (⟨"BustRestModel", "isToldSo", "(I)V"⟩, 20) := ⟨⟨by decide +kernel, by decide +kernel⟩, List.mem_of_getElem? (i := 746) (by decide +kernel), List.mem_of_getElem? (i := 1186) (by decide +kernel), List.mem_of_getElem? (i := 1187) (by decide +kernel)⟩
def lw_privs_8 : List (MethodName × Nat) := [(⟨"BustRestModel", "takesWord", "(Ljava/lang/String;)Z"⟩, 20), (⟨"BustRestModel", "addItem", "(IIIII)V"⟩, 20), (⟨"BustRestModel", "isToldSo", "(I)V"⟩, 20)]
theorem lw_r8 : ∀ q ∈ lw_privs_8, lw_okq q := List.forall_mem_cons.mpr ⟨lw_p112, List.forall_mem_cons.mpr ⟨lw_p113, List.forall_mem_cons.mpr ⟨lw_p114, fun _ h => absurd h List.not_mem_nil⟩⟩⟩
def lw_privs : List (MethodName × Nat) := lw_privs_1 ++ (lw_privs_2 ++ (lw_privs_3 ++ (lw_privs_4 ++ (lw_privs_5 ++ (lw_privs_6 ++ (lw_privs_7 ++ (lw_privs_8)))))))
def lw_tbl : List Cond := k2_sels lw_privs ++ tables_1
theorem lw_privs_ok : ∀ q ∈ lw_privs, lw_okq q := by
  show ∀ q ∈ lw_privs_1 ++ (lw_privs_2 ++ (lw_privs_3 ++ (lw_privs_4 ++ (lw_privs_5 ++ (lw_privs_6 ++ (lw_privs_7 ++ (lw_privs_8))))))), lw_okq q
  exact List.forall_mem_append.mpr ⟨lw_r1, List.forall_mem_append.mpr ⟨lw_r2, List.forall_mem_append.mpr ⟨lw_r3, List.forall_mem_append.mpr ⟨lw_r4, List.forall_mem_append.mpr ⟨lw_r5, List.forall_mem_append.mpr ⟨lw_r6, List.forall_mem_append.mpr ⟨lw_r7, lw_r8⟩⟩⟩⟩⟩⟩⟩
end
section
/-! printed: names, field tables (claim/NAMES.whole.lean.txt) -/
def RX0 : String := "BustRest$Bust"
def TX0 : u_T := fun k => match k with
  | 0 => ("BustRest$Bust", "kind", "I", false)
  | 1 => ("BustRest$Bust", "date", "I", false)
  | 2 => ("BustRest$Bust", "has", "I", false)
  | 3 => ("BustRest$Bust", "cell", "I", false)
  | 4 => ("BustRest$Bust", "yearning", "I", false)
  | 5 => ("BustRest$Bust", "sealed", "I", false)
  | _ => ("BustRest$Bust", "gone", "I", false)
def tyX0 : Nat → FieldType := fun k => match k with
  | 0 => .int
  | 1 => .int
  | 2 => .int
  | 3 => .int
  | 4 => .int
  | 5 => .int
  | _ => .int
abbrev wsX00 : List Cond := u_ws RX0 TX0 7
theorem nmX0 : ∀ a, a < 7 → ∀ b, b < 7 → a ≠ b → (TX0 a).2.1 ≠ (TX0 b).2.1 := by decide +kernel
theorem tyX0_ok : ∀ k, k < 7 → parseFieldDescriptor (TX0 k).2.2.1 = some (tyX0 k) := by decide +kernel
abbrev cX0_init : ByteArray := prog_2_method_1_code
def yX0_init : MethodName := ⟨RX0, "<init>", "()V"⟩
abbrev cX0_begin : ByteArray := prog_2_method_2_code
def yX0_begin : MethodName := ⟨RX0, "begin", "(II)V"⟩
abbrev cX0_copyFrom : ByteArray := prog_2_method_3_code
def yX0_copyFrom : MethodName := ⟨RX0, "copyFrom", "(LBustRest$Bust;)V"⟩
abbrev cX0_told : ByteArray := prog_2_method_4_code
def yX0_told : MethodName := ⟨RX0, "told", "(I)I"⟩
abbrev cX0_become : ByteArray := prog_2_method_5_code
def yX0_become : MethodName := ⟨RX0, "become", "(II)V"⟩
abbrev cX0_isA : ByteArray := prog_2_method_6_code
def yX0_isA : MethodName := ⟨RX0, "isA", "(I)Z"⟩
abbrev cX0_hasPart : ByteArray := prog_2_method_7_code
def yX0_hasPart : MethodName := ⟨RX0, "hasPart", "(I)Z"⟩
abbrev cX0_receive : ByteArray := prog_2_method_8_code
def yX0_receive : MethodName := ⟨RX0, "receive", "(I)V"⟩
abbrev cX0_greatestPart : ByteArray := prog_2_method_9_code
def yX0_greatestPart : MethodName := ⟨RX0, "greatestPart", "()I"⟩
abbrev cX0_takes : ByteArray := prog_2_method_10_code
def yX0_takes : MethodName := ⟨RX0, "takes", "(I)Z"⟩
abbrev cX0_yearnsMore : ByteArray := prog_2_method_11_code
def yX0_yearnsMore : MethodName := ⟨RX0, "yearnsMore", "()I"⟩
abbrev cX0_leavesWith : ByteArray := prog_2_method_12_code
def yX0_leavesWith : MethodName := ⟨RX0, "leavesWith", "()I"⟩
abbrev cX0_stepsInADay : ByteArray := prog_2_method_13_code
def yX0_stepsInADay : MethodName := ⟨RX0, "stepsInADay", "()I"⟩
abbrev cX0_says : ByteArray := prog_2_method_14_code
def yX0_says : MethodName := ⟨RX0, "says", "()I"⟩
abbrev cX0_wouldWalk : ByteArray := prog_2_method_15_code
def yX0_wouldWalk : MethodName := ⟨RX0, "wouldWalk", "()Z"⟩
abbrev cX0_yearn : ByteArray := prog_2_method_16_code
def yX0_yearn : MethodName := ⟨RX0, "yearn", "(I)V"⟩
abbrev cX0_pathUpTo : ByteArray := prog_2_method_17_code
def yX0_pathUpTo : MethodName := ⟨RX0, "pathUpTo", "(I)I"⟩
abbrev cX0_takesBehind : ByteArray := prog_2_method_18_code
def yX0_takesBehind : MethodName := ⟨RX0, "takesBehind", "(I)Z"⟩
def RX1 : String := "BustRest$Library"
def TX1 : u_T := fun k => match k with
  | 0 => ("BustRest$Library", "day", "I", false)
  | 1 => ("BustRest$Library", "left", "I", false)
  | 2 => ("BustRest$Library", "z", "I", false)
  | 3 => ("BustRest$Library", "number", "I", false)
  | 4 => ("BustRest$Library", "list", "[I", true)
  | 5 => ("BustRest$Library", "store", "[I", true)
  | 6 => ("BustRest$Library", "spots", "[I", true)
  | _ => ("BustRest$Library", "busts", "[LBustRest$Bust;", true)
def tyX1 : Nat → FieldType := fun k => match k with
  | 0 => .int
  | 1 => .int
  | 2 => .int
  | 3 => .int
  | 4 => .array .int
  | 5 => .array .int
  | 6 => .array .int
  | _ => .array (.object "BustRest$Bust")
abbrev wsX10 : List Cond := u_ws RX1 TX1 8
theorem nmX1 : ∀ a, a < 8 → ∀ b, b < 8 → a ≠ b → (TX1 a).2.1 ≠ (TX1 b).2.1 := by decide +kernel
theorem tyX1_ok : ∀ k, k < 8 → parseFieldDescriptor (TX1 k).2.2.1 = some (tyX1 k) := by decide +kernel
abbrev cX1_init : ByteArray := prog_3_method_1_code
def yX1_init : MethodName := ⟨RX1, "<init>", "()V"⟩
abbrev cX1_copyFrom : ByteArray := prog_3_method_2_code
def yX1_copyFrom : MethodName := ⟨RX1, "copyFrom", "(LBustRest$Library;)V"⟩
abbrev cX1_isFull : ByteArray := prog_3_method_3_code
def yX1_isFull : MethodName := ⟨RX1, "isFull", "()Z"⟩
abbrev cX1_addBust : ByteArray := prog_3_method_4_code
def yX1_addBust : MethodName := ⟨RX1, "addBust", "(II)I"⟩
abbrev cX1_heirOf : ByteArray := prog_3_method_5_code
def yX1_heirOf : MethodName := ⟨RX1, "heirOf", "(I)I"⟩
abbrev cX1_placeToday : ByteArray := prog_3_method_6_code
def yX1_placeToday : MethodName := ⟨RX1, "placeToday", "()I"⟩
abbrev cX1_passDays : ByteArray := prog_3_method_7_code
def yX1_passDays : MethodName := ⟨RX1, "passDays", "(I)V"⟩
abbrev cX1_passDay : ByteArray := prog_3_method_8_code
def yX1_passDay : MethodName := ⟨RX1, "passDay", "()V"⟩
abbrev cX1_bequeath : ByteArray := prog_3_method_9_code
def yX1_bequeath : MethodName := ⟨RX1, "bequeath", "(II)V"⟩
abbrev cX1_passDayOf : ByteArray := prog_3_method_10_code
def yX1_passDayOf : MethodName := ⟨RX1, "passDayOf", "(LBustRest$Bust;)V"⟩
abbrev cX1_draw : ByteArray := prog_3_method_11_code
def yX1_draw : MethodName := ⟨RX1, "draw", "()I"⟩
abbrev cX1_passDayByDraws : ByteArray := prog_3_method_12_code
def yX1_passDayByDraws : MethodName := ⟨RX1, "passDayByDraws", "()V"⟩
abbrev cX1_storedTogether : ByteArray := prog_3_method_13_code
def yX1_storedTogether : MethodName := ⟨RX1, "storedTogether", "()I"⟩
abbrev cX1_completeBusts : ByteArray := prog_3_method_14_code
def yX1_completeBusts : MethodName := ⟨RX1, "completeBusts", "()I"⟩
abbrev cX1_walkers : ByteArray := prog_3_method_15_code
def yX1_walkers : MethodName := ⟨RX1, "walkers", "()I"⟩
abbrev cX1_loudest : ByteArray := prog_3_method_16_code
def yX1_loudest : MethodName := ⟨RX1, "loudest", "()I"⟩
abbrev cX1_yearningTogether : ByteArray := prog_3_method_17_code
def yX1_yearningTogether : MethodName := ⟨RX1, "yearningTogether", "()I"⟩
abbrev cX1_goneBusts : ByteArray := prog_3_method_18_code
def yX1_goneBusts : MethodName := ⟨RX1, "goneBusts", "()I"⟩
abbrev cX1_spotsTaken : ByteArray := prog_3_method_19_code
def yX1_spotsTaken : MethodName := ⟨RX1, "spotsTaken", "()I"⟩
abbrev cX1_mayDifferAt : ByteArray := prog_3_method_20_code
def yX1_mayDifferAt : MethodName := ⟨RX1, "mayDifferAt", "(II)Z"⟩
def RX2 : String := "BustRest$Sheet"
def TX2 : u_T := fun k => match k with
  | 0 => ("BustRest$Sheet", "bits", "I", false)
  | 1 => ("BustRest$Sheet", "size", "I", false)
  | _ => ("BustRest$Sheet", "numbers", "[I", true)
def tyX2 : Nat → FieldType := fun k => match k with
  | 0 => .int
  | 1 => .int
  | _ => .array .int
abbrev wsX20 : List Cond := u_ws RX2 TX2 3
theorem nmX2 : ∀ a, a < 3 → ∀ b, b < 3 → a ≠ b → (TX2 a).2.1 ≠ (TX2 b).2.1 := by decide +kernel
theorem tyX2_ok : ∀ k, k < 3 → parseFieldDescriptor (TX2 k).2.2.1 = some (tyX2 k) := by decide +kernel
abbrev cX2_init : ByteArray := prog_4_method_1_code
def yX2_init : MethodName := ⟨RX2, "<init>", "()V"⟩
abbrev cX2_isMissing : ByteArray := prog_4_method_2_code
def yX2_isMissing : MethodName := ⟨RX2, "isMissing", "()Z"⟩
abbrev cX2_begin : ByteArray := prog_4_method_3_code
def yX2_begin : MethodName := ⟨RX2, "begin", "(II)V"⟩
abbrev cX2_put : ByteArray := prog_4_method_4_code
def yX2_put : MethodName := ⟨RX2, "put", "(II)V"⟩
abbrev cX2_spans : ByteArray := prog_4_method_5_code
def yX2_spans : MethodName := ⟨RX2, "spans", "(II)Z"⟩
def RX3 : String := "BustRest$Tape"
def TX3 : u_T := fun k => match k with
  | 0 => ("BustRest$Tape", "bytes", "[I", true)
  | 1 => ("BustRest$Tape", "length", "I", false)
  | 2 => ("BustRest$Tape", "token", "I", false)
  | 3 => ("BustRest$Tape", "start", "I", false)
  | 4 => ("BustRest$Tape", "stop", "I", false)
  | _ => ("BustRest$Tape", "value", "I", false)
def tyX3 : Nat → FieldType := fun k => match k with
  | 0 => .array .int
  | 1 => .int
  | 2 => .int
  | 3 => .int
  | 4 => .int
  | _ => .int
abbrev wsX30 : List Cond := u_ws RX3 TX3 6
theorem nmX3 : ∀ a, a < 6 → ∀ b, b < 6 → a ≠ b → (TX3 a).2.1 ≠ (TX3 b).2.1 := by decide +kernel
theorem tyX3_ok : ∀ k, k < 6 → parseFieldDescriptor (TX3 k).2.2.1 = some (tyX3 k) := by decide +kernel
abbrev cX3_init : ByteArray := prog_5_method_1_code
def yX3_init : MethodName := ⟨RX3, "<init>", "()V"⟩
abbrev cX3_append : ByteArray := prog_5_method_2_code
def yX3_append : MethodName := ⟨RX3, "append", "(I)V"⟩
abbrev cX3_rewind : ByteArray := prog_5_method_3_code
def yX3_rewind : MethodName := ⟨RX3, "rewind", "()V"⟩
abbrev cX3_readToken : ByteArray := prog_5_method_4_code
def yX3_readToken : MethodName := ⟨RX3, "readToken", "()V"⟩
abbrev cX3_isLetter : ByteArray := prog_5_method_5_code
def yX3_isLetter : MethodName := ⟨RX3, "isLetter", "(I)Z"⟩
abbrev cX3_isDigit : ByteArray := prog_5_method_6_code
def yX3_isDigit : MethodName := ⟨RX3, "isDigit", "(I)Z"⟩
abbrev cX3_isNumber : ByteArray := prog_5_method_7_code
def yX3_isNumber : MethodName := ⟨RX3, "isNumber", "(I)Z"⟩
abbrev cX3_isWord : ByteArray := prog_5_method_8_code
def yX3_isWord : MethodName := ⟨RX3, "isWord", "(Ljava/lang/String;)Z"⟩
def RX4 : String := "BustRest$TextReader"
def TX4 : u_T := fun k => match k with
  | 0 => ("BustRest$TextReader", "tape", "LBustRest$Tape;", true)
  | 1 => ("BustRest$TextReader", "library", "LBustRest$Library;", true)
  | 2 => ("BustRest$TextReader", "first", "I", false)
  | _ => ("BustRest$TextReader", "second", "I", false)
def tyX4 : Nat → FieldType := fun k => match k with
  | 0 => .object "BustRest$Tape"
  | 1 => .object "BustRest$Library"
  | 2 => .int
  | _ => .int
abbrev wsX40 : List Cond := u_ws RX4 TX4 4
theorem nmX4 : ∀ a, a < 4 → ∀ b, b < 4 → a ≠ b → (TX4 a).2.1 ≠ (TX4 b).2.1 := by decide +kernel
theorem tyX4_ok : ∀ k, k < 4 → parseFieldDescriptor (TX4 k).2.2.1 = some (tyX4 k) := by decide +kernel
abbrev cX4_init : ByteArray := prog_6_method_1_code
def yX4_init : MethodName := ⟨RX4, "<init>", "(LBustRest$Tape;LBustRest$Library;)V"⟩
abbrev cX4_readText : ByteArray := prog_6_method_2_code
def yX4_readText : MethodName := ⟨RX4, "readText", "()I"⟩
abbrev cX4_readItem : ByteArray := prog_6_method_3_code
def yX4_readItem : MethodName := ⟨RX4, "readItem", "()Z"⟩
abbrev cX4_wordOf : ByteArray := prog_6_method_4_code
def yX4_wordOf : MethodName := ⟨RX4, "wordOf", "(I)Ljava/lang/String;"⟩
abbrev cX4_readBequest : ByteArray := prog_6_method_5_code
def yX4_readBequest : MethodName := ⟨RX4, "readBequest", "()Z"⟩
abbrev cX4_readStore : ByteArray := prog_6_method_6_code
def yX4_readStore : MethodName := ⟨RX4, "readStore", "()Z"⟩
abbrev cX4_readTwoNumbers : ByteArray := prog_6_method_7_code
def yX4_readTwoNumbers : MethodName := ⟨RX4, "readTwoNumbers", "(II)Z"⟩
abbrev cX4_readBust : ByteArray := prog_6_method_8_code
def yX4_readBust : MethodName := ⟨RX4, "readBust", "(I)Z"⟩
abbrev cX4_readMore : ByteArray := prog_6_method_9_code
def yX4_readMore : MethodName := ⟨RX4, "readMore", "(LBustRest$Bust;Ljava/lang/String;I)Z"⟩
abbrev cX4_readSeal : ByteArray := prog_6_method_10_code
def yX4_readSeal : MethodName := ⟨RX4, "readSeal", "(LBustRest$Bust;)Z"⟩
def RX5 : String := "BustRest"
def TX5 : u_T := fun k => match k with
  | 0 => ("BustRest", "library", "LBustRest$Library;", true)
  | 1 => ("BustRest", "trial", "LBustRest$Library;", true)
  | 2 => ("BustRest", "image", "LBustRest$Library;", true)
  | 3 => ("BustRest", "imageKept", "Z", false)
  | 4 => ("BustRest", "tape", "LBustRest$Tape;", true)
  | 5 => ("BustRest", "reader", "LBustRest$TextReader;", true)
  | 6 => ("BustRest", "sheets", "[LBustRest$Sheet;", true)
  | _ => ("BustRest", "findings", "[I", true)
def tyX5 : Nat → FieldType := fun k => match k with
  | 0 => .object "BustRest$Library"
  | 1 => .object "BustRest$Library"
  | 2 => .object "BustRest$Library"
  | 3 => .boolean
  | 4 => .object "BustRest$Tape"
  | 5 => .object "BustRest$TextReader"
  | 6 => .array (.object "BustRest$Sheet")
  | _ => .array .int
abbrev wsX50 : List Cond := u_ws RX5 TX5 8
theorem nmX5 : ∀ a, a < 8 → ∀ b, b < 8 → a ≠ b → (TX5 a).2.1 ≠ (TX5 b).2.1 := by decide +kernel
theorem tyX5_ok : ∀ k, k < 8 → parseFieldDescriptor (TX5 k).2.2.1 = some (tyX5 k) := by decide +kernel
abbrev cX5_init : ByteArray := prog_1_method_1_code
def yX5_init : MethodName := ⟨RX5, "<init>", "()V"⟩
abbrev cX5_bequest : ByteArray := prog_1_method_2_code
def yX5_bequest : MethodName := ⟨RX5, "bequest", "(II)I"⟩
abbrev cX5_listed : ByteArray := prog_1_method_3_code
def yX5_listed : MethodName := ⟨RX5, "listed", "(I)I"⟩
abbrev cX5_stored : ByteArray := prog_1_method_4_code
def yX5_stored : MethodName := ⟨RX5, "stored", "(I)I"⟩
abbrev cX5_bust : ByteArray := prog_1_method_5_code
def yX5_bust : MethodName := ⟨RX5, "bust", "(II)I"⟩
abbrev cX5_of : ByteArray := prog_1_method_6_code
def yX5_of : MethodName := ⟨RX5, "of", "(II)I"⟩
abbrev cX5_change : ByteArray := prog_1_method_7_code
def yX5_change : MethodName := ⟨RX5, "change", "(III)I"⟩
abbrev cX5_accepts : ByteArray := prog_1_method_8_code
def yX5_accepts : MethodName := ⟨RX5, "accepts", "(II)I"⟩
abbrev cX5_heir : ByteArray := prog_1_method_9_code
def yX5_heir : MethodName := ⟨RX5, "heir", "(I)I"⟩
abbrev cX5_give : ByteArray := prog_1_method_10_code
def yX5_give : MethodName := ⟨RX5, "give", "(II)I"⟩
abbrev cX5_go : ByteArray := prog_1_method_11_code
def yX5_go : MethodName := ⟨RX5, "go", "(I)I"⟩
abbrev cX5_now : ByteArray := prog_1_method_12_code
def yX5_now : MethodName := ⟨RX5, "now", "(I)I"⟩
abbrev cX5_ahead : ByteArray := prog_1_method_13_code
def yX5_ahead : MethodName := ⟨RX5, "ahead", "(III)I"⟩
abbrev cX5_left : ByteArray := prog_1_method_14_code
def yX5_left : MethodName := ⟨RX5, "left", "(I)I"⟩
abbrev cX5_when : ByteArray := prog_1_method_15_code
def yX5_when : MethodName := ⟨RX5, "when", "(II)I"⟩
abbrev cX5_leaves : ByteArray := prog_1_method_16_code
def yX5_leaves : MethodName := ⟨RX5, "leaves", "(I)I"⟩
abbrev cX5_voice : ByteArray := prog_1_method_17_code
def yX5_voice : MethodName := ⟨RX5, "voice", "(II)I"⟩
abbrev cX5_orderFor : ByteArray := prog_1_method_18_code
def yX5_orderFor : MethodName := ⟨RX5, "orderFor", "(III)I"⟩
abbrev cX5_dateFor : ByteArray := prog_1_method_19_code
def yX5_dateFor : MethodName := ⟨RX5, "dateFor", "(III)I"⟩
abbrev cX5_kindFor : ByteArray := prog_1_method_20_code
def yX5_kindFor : MethodName := ⟨RX5, "kindFor", "(II)I"⟩
abbrev cX5_pathTo : ByteArray := prog_1_method_21_code
def yX5_pathTo : MethodName := ⟨RX5, "pathTo", "(II)I"⟩
abbrev cX5_seal : ByteArray := prog_1_method_22_code
def yX5_seal : MethodName := ⟨RX5, "seal", "(I)I"⟩
abbrev cX5_fits : ByteArray := prog_1_method_23_code
def yX5_fits : MethodName := ⟨RX5, "fits", "(II)I"⟩
abbrev cX5_kinds : ByteArray := prog_1_method_24_code
def yX5_kinds : MethodName := ⟨RX5, "kinds", "(II)I"⟩
abbrev cX5_chance : ByteArray := prog_1_method_25_code
def yX5_chance : MethodName := ⟨RX5, "chance", "(I)I"⟩
abbrev cX5_odds : ByteArray := prog_1_method_26_code
def yX5_odds : MethodName := ⟨RX5, "odds", "(III)J"⟩
abbrev cX5_seed : ByteArray := prog_1_method_27_code
def yX5_seed : MethodName := ⟨RX5, "seed", "(I)I"⟩
abbrev cX5_feed : ByteArray := prog_1_method_28_code
def yX5_feed : MethodName := ⟨RX5, "feed", "(II)I"⟩
abbrev cX5_wipe : ByteArray := prog_1_method_29_code
def yX5_wipe : MethodName := ⟨RX5, "wipe", "()I"⟩
abbrev cX5_text : ByteArray := prog_1_method_30_code
def yX5_text : MethodName := ⟨RX5, "text", "()I"⟩
abbrev cX5_hold : ByteArray := prog_1_method_31_code
def yX5_hold : MethodName := ⟨RX5, "hold", "(II)I"⟩
abbrev cX5_as : ByteArray := prog_1_method_32_code
def yX5_as : MethodName := ⟨RX5, "as", "(II)I"⟩
abbrev cX5_sheet : ByteArray := prog_1_method_33_code
def yX5_sheet : MethodName := ⟨RX5, "sheet", "(III)I"⟩
abbrev cX5_write : ByteArray := prog_1_method_34_code
def yX5_write : MethodName := ⟨RX5, "write", "(III)I"⟩
abbrev cX5_copy : ByteArray := prog_1_method_35_code
def yX5_copy : MethodName := ⟨RX5, "copy", "(IIIII)I"⟩
abbrev cX5_load : ByteArray := prog_1_method_36_code
def yX5_load : MethodName := ⟨RX5, "load", "(I)I"⟩
abbrev cX5_judge : ByteArray := prog_1_method_37_code
def yX5_judge : MethodName := ⟨RX5, "judge", "(I)I"⟩
abbrev cX5_image : ByteArray := prog_1_method_38_code
def yX5_image : MethodName := ⟨RX5, "image", "()I"⟩
abbrev cX5_undo : ByteArray := prog_1_method_39_code
def yX5_undo : MethodName := ⟨RX5, "undo", "()I"⟩
abbrev cX5_tear : ByteArray := prog_1_method_40_code
def yX5_tear : MethodName := ⟨RX5, "tear", "()I"⟩
abbrev cX5_count : ByteArray := prog_1_method_41_code
def yX5_count : MethodName := ⟨RX5, "count", "(I)I"⟩
abbrev cX5_status : ByteArray := prog_1_method_42_code
def yX5_status : MethodName := ⟨RX5, "status", "(I)I"⟩
abbrev cX5_within : ByteArray := prog_1_method_43_code
def yX5_within : MethodName := ⟨RX5, "within", "(II)Z"⟩
abbrev cX5_power : ByteArray := prog_1_method_44_code
def yX5_power : MethodName := ⟨RX5, "power", "(JI)J"⟩
abbrev cX5_found : ByteArray := prog_1_method_45_code
def yX5_found : MethodName := ⟨RX5, "found", "(I)I"⟩
abbrev cX5_isBust : ByteArray := prog_1_method_46_code
def yX5_isBust : MethodName := ⟨RX5, "isBust", "(I)Z"⟩
abbrev cX5_isSheet : ByteArray := prog_1_method_47_code
def yX5_isSheet : MethodName := ⟨RX5, "isSheet", "(I)Z"⟩
abbrev cX5_findingOfSheet : ByteArray := prog_1_method_48_code
def yX5_findingOfSheet : MethodName := ⟨RX5, "findingOfSheet", "(I)I"⟩
abbrev cX5_findingOfVoices : ByteArray := prog_1_method_49_code
def yX5_findingOfVoices : MethodName := ⟨RX5, "findingOfVoices", "(II)I"⟩
abbrev cX5_beginTrial : ByteArray := prog_1_method_50_code
def yX5_beginTrial : MethodName := ⟨RX5, "beginTrial", "()V"⟩
abbrev cX5_daysUntil : ByteArray := prog_1_method_51_code
def yX5_daysUntil : MethodName := ⟨RX5, "daysUntil", "(III)I"⟩
abbrev cX5_hasByDate : ByteArray := prog_1_method_52_code
def yX5_hasByDate : MethodName := ⟨RX5, "hasByDate", "(IIII)Z"⟩
abbrev cX5_keepsAll : ByteArray := prog_1_method_53_code
def yX5_keepsAll : MethodName := ⟨RX5, "keepsAll", "(II)Z"⟩
abbrev cX5_trialSays : ByteArray := prog_1_method_54_code
def yX5_trialSays : MethodName := ⟨RX5, "trialSays", "(ILBustRest$Sheet;)Z"⟩
def RX6 : String := "BustRestModel"
def TX6 : u_T := fun k => match k with
  | 0 => ("BustRestModel", "now", "[I", true)
  | 1 => ("BustRestModel", "kept", "[I", true)
  | 2 => ("BustRestModel", "aside", "[I", true)
  | 3 => ("BustRestModel", "isKept", "Z", false)
  | 4 => ("BustRestModel", "found", "[I", true)
  | 5 => ("BustRestModel", "tape", "[I", true)
  | 6 => ("BustRestModel", "taped", "I", false)
  | 7 => ("BustRestModel", "begins", "I", false)
  | 8 => ("BustRestModel", "ends", "I", false)
  | 9 => ("BustRestModel", "sort", "I", false)
  | 10 => ("BustRestModel", "value", "I", false)
  | 11 => ("BustRestModel", "isWrong", "Z", false)
  | 12 => ("BustRestModel", "kindNames", "[Ljava/lang/String;", true)
  | 13 => ("BustRestModel", "items", "[I", true)
  | 14 => ("BustRestModel", "itemMany", "I", false)
  | 15 => ("BustRestModel", "bustsThen", "I", false)
  | 16 => ("BustRestModel", "widths", "[I", true)
  | 17 => ("BustRestModel", "sizes", "[I", true)
  | 18 => ("BustRestModel", "numbers", "[I", true)
  | _ => ("BustRestModel", "moved", "[I", true)
def tyX6 : Nat → FieldType := fun k => match k with
  | 0 => .array .int
  | 1 => .array .int
  | 2 => .array .int
  | 3 => .boolean
  | 4 => .array .int
  | 5 => .array .int
  | 6 => .int
  | 7 => .int
  | 8 => .int
  | 9 => .int
  | 10 => .int
  | 11 => .boolean
  | 12 => .array (.object "java/lang/String")
  | 13 => .array .int
  | 14 => .int
  | 15 => .int
  | 16 => .array .int
  | 17 => .array .int
  | 18 => .array .int
  | _ => .array .int
abbrev wsX60 : List Cond := u_ws RX6 TX6 20
theorem nmX6 : ∀ a, a < 20 → ∀ b, b < 20 → a ≠ b → (TX6 a).2.1 ≠ (TX6 b).2.1 := by decide +kernel
theorem tyX6_ok : ∀ k, k < 20 → parseFieldDescriptor (TX6 k).2.2.1 = some (tyX6 k) := by decide +kernel
abbrev cX6_init : ByteArray := prog_8_method_1_code
def yX6_init : MethodName := ⟨RX6, "<init>", "()V"⟩
abbrev cX6_finding : ByteArray := prog_8_method_2_code
def yX6_finding : MethodName := ⟨RX6, "finding", "(I)I"⟩
abbrev cX6_within : ByteArray := prog_8_method_3_code
def yX6_within : MethodName := ⟨RX6, "within", "(III)Z"⟩
abbrev cX6_become : ByteArray := prog_8_method_4_code
def yX6_become : MethodName := ⟨RX6, "become", "(II)I"⟩
abbrev cX6_copyRow : ByteArray := prog_8_method_5_code
def yX6_copyRow : MethodName := ⟨RX6, "copyRow", "([I[I)V"⟩
abbrev cX6_putBack : ByteArray := prog_8_method_6_code
def yX6_putBack : MethodName := ⟨RX6, "putBack", "(I)I"⟩
abbrev cX6_orNone : ByteArray := prog_8_method_7_code
def yX6_orNone : MethodName := ⟨RX6, "orNone", "(I)I"⟩
abbrev cX6_bits : ByteArray := prog_8_method_8_code
def yX6_bits : MethodName := ⟨RX6, "bits", "(I)I"⟩
abbrev cX6_isPart : ByteArray := prog_8_method_9_code
def yX6_isPart : MethodName := ⟨RX6, "isPart", "(I)Z"⟩
abbrev cX6_isBequest : ByteArray := prog_8_method_10_code
def yX6_isBequest : MethodName := ⟨RX6, "isBequest", "(I)Z"⟩
abbrev cX6_isPlace : ByteArray := prog_8_method_11_code
def yX6_isPlace : MethodName := ⟨RX6, "isPlace", "(I)Z"⟩
abbrev cX6_bequest : ByteArray := prog_8_method_12_code
def yX6_bequest : MethodName := ⟨RX6, "bequest", "(II)I"⟩
abbrev cX6_listed : ByteArray := prog_8_method_13_code
def yX6_listed : MethodName := ⟨RX6, "listed", "(I)I"⟩
abbrev cX6_placeNow : ByteArray := prog_8_method_14_code
def yX6_placeNow : MethodName := ⟨RX6, "placeNow", "()I"⟩
abbrev cX6_stored : ByteArray := prog_8_method_15_code
def yX6_stored : MethodName := ⟨RX6, "stored", "(I)I"⟩
abbrev cX6_bustAt : ByteArray := prog_8_method_16_code
def yX6_bustAt : MethodName := ⟨RX6, "bustAt", "(II)I"⟩
abbrev cX6_bustIs : ByteArray := prog_8_method_17_code
def yX6_bustIs : MethodName := ⟨RX6, "bustIs", "(II)I"⟩
abbrev cX6_isBust : ByteArray := prog_8_method_18_code
def yX6_isBust : MethodName := ⟨RX6, "isBust", "(I)Z"⟩
abbrev cX6_isKind : ByteArray := prog_8_method_19_code
def yX6_isKind : MethodName := ⟨RX6, "isKind", "(I)Z"⟩
abbrev cX6_isDate : ByteArray := prog_8_method_20_code
def yX6_isDate : MethodName := ⟨RX6, "isDate", "(I)Z"⟩
abbrev cX6_comes : ByteArray := prog_8_method_21_code
def yX6_comes : MethodName := ⟨RX6, "comes", "(II)I"⟩
abbrev cX6_bust : ByteArray := prog_8_method_22_code
def yX6_bust : MethodName := ⟨RX6, "bust", "(II)I"⟩
abbrev cX6_has : ByteArray := prog_8_method_23_code
def yX6_has : MethodName := ⟨RX6, "has", "(II)Z"⟩
abbrev cX6_isGone : ByteArray := prog_8_method_24_code
def yX6_isGone : MethodName := ⟨RX6, "isGone", "(I)Z"⟩
abbrev cX6_likes : ByteArray := prog_8_method_25_code
def yX6_likes : MethodName := ⟨RX6, "likes", "(II)Z"⟩
abbrev cX6_takes : ByteArray := prog_8_method_26_code
def yX6_takes : MethodName := ⟨RX6, "takes", "(II)Z"⟩
abbrev cX6_arms : ByteArray := prog_8_method_27_code
def yX6_arms : MethodName := ⟨RX6, "arms", "(I)I"⟩
abbrev cX6_yearns : ByteArray := prog_8_method_28_code
def yX6_yearns : MethodName := ⟨RX6, "yearns", "(I)I"⟩
abbrev cX6_leavesWith : ByteArray := prog_8_method_29_code
def yX6_leavesWith : MethodName := ⟨RX6, "leavesWith", "(I)I"⟩
abbrev cX6_steps : ByteArray := prog_8_method_30_code
def yX6_steps : MethodName := ⟨RX6, "steps", "(I)I"⟩
abbrev cX6_greatest : ByteArray := prog_8_method_31_code
def yX6_greatest : MethodName := ⟨RX6, "greatest", "(I)I"⟩
abbrev cX6_says : ByteArray := prog_8_method_32_code
def yX6_says : MethodName := ⟨RX6, "says", "(I)I"⟩
abbrev cX6_told : ByteArray := prog_8_method_33_code
def yX6_told : MethodName := ⟨RX6, "told", "(II)I"⟩
abbrev cX6_of : ByteArray := prog_8_method_34_code
def yX6_of : MethodName := ⟨RX6, "of", "(II)I"⟩
abbrev cX6_isField : ByteArray := prog_8_method_35_code
def yX6_isField : MethodName := ⟨RX6, "isField", "(II)Z"⟩
abbrev cX6_change : ByteArray := prog_8_method_36_code
def yX6_change : MethodName := ⟨RX6, "change", "(III)I"⟩
abbrev cX6_accepts : ByteArray := prog_8_method_37_code
def yX6_accepts : MethodName := ⟨RX6, "accepts", "(II)I"⟩
abbrev cX6_heirOf : ByteArray := prog_8_method_38_code
def yX6_heirOf : MethodName := ⟨RX6, "heirOf", "(I)I"⟩
abbrev cX6_heir : ByteArray := prog_8_method_39_code
def yX6_heir : MethodName := ⟨RX6, "heir", "(I)I"⟩
abbrev cX6_gets : ByteArray := prog_8_method_40_code
def yX6_gets : MethodName := ⟨RX6, "gets", "(II)I"⟩
abbrev cX6_give : ByteArray := prog_8_method_41_code
def yX6_give : MethodName := ⟨RX6, "give", "(II)I"⟩
abbrev cX6_more : ByteArray := prog_8_method_42_code
def yX6_more : MethodName := ⟨RX6, "more", "(III)V"⟩
abbrev cX6_wouldWalk : ByteArray := prog_8_method_43_code
def yX6_wouldWalk : MethodName := ⟨RX6, "wouldWalk", "(I)Z"⟩
abbrev cX6_yearnsOn : ByteArray := prog_8_method_44_code
def yX6_yearnsOn : MethodName := ⟨RX6, "yearnsOn", "(I)V"⟩
abbrev cX6_day : ByteArray := prog_8_method_45_code
def yX6_day : MethodName := ⟨RX6, "day", "()V"⟩
abbrev cX6_daysGo : ByteArray := prog_8_method_46_code
def yX6_daysGo : MethodName := ⟨RX6, "daysGo", "(I)V"⟩
abbrev cX6_go : ByteArray := prog_8_method_47_code
def yX6_go : MethodName := ⟨RX6, "go", "(I)I"⟩
abbrev cX6_inStore : ByteArray := prog_8_method_48_code
def yX6_inStore : MethodName := ⟨RX6, "inStore", "()I"⟩
abbrev cX6_wholeOnes : ByteArray := prog_8_method_49_code
def yX6_wholeOnes : MethodName := ⟨RX6, "wholeOnes", "()I"⟩
abbrev cX6_walkers : ByteArray := prog_8_method_50_code
def yX6_walkers : MethodName := ⟨RX6, "walkers", "()I"⟩
abbrev cX6_loudest : ByteArray := prog_8_method_51_code
def yX6_loudest : MethodName := ⟨RX6, "loudest", "()I"⟩
abbrev cX6_yearnings : ByteArray := prog_8_method_52_code
def yX6_yearnings : MethodName := ⟨RX6, "yearnings", "()I"⟩
abbrev cX6_goneOnes : ByteArray := prog_8_method_53_code
def yX6_goneOnes : MethodName := ⟨RX6, "goneOnes", "()I"⟩
abbrev cX6_now : ByteArray := prog_8_method_54_code
def yX6_now : MethodName := ⟨RX6, "now", "(I)I"⟩
abbrev cX6_behind : ByteArray := prog_8_method_55_code
def yX6_behind : MethodName := ⟨RX6, "behind", "(II)I"⟩
abbrev cX6_toldBehind : ByteArray := prog_8_method_56_code
def yX6_toldBehind : MethodName := ⟨RX6, "toldBehind", "(III)I"⟩
abbrev cX6_ahead : ByteArray := prog_8_method_57_code
def yX6_ahead : MethodName := ⟨RX6, "ahead", "(III)I"⟩
abbrev cX6_left : ByteArray := prog_8_method_58_code
def yX6_left : MethodName := ⟨RX6, "left", "(I)I"⟩
abbrev cX6_when : ByteArray := prog_8_method_59_code
def yX6_when : MethodName := ⟨RX6, "when", "(II)I"⟩
abbrev cX6_leaves : ByteArray := prog_8_method_60_code
def yX6_leaves : MethodName := ⟨RX6, "leaves", "(I)I"⟩
abbrev cX6_voice : ByteArray := prog_8_method_61_code
def yX6_voice : MethodName := ⟨RX6, "voice", "(II)I"⟩
abbrev cX6_isThought : ByteArray := prog_8_method_62_code
def yX6_isThought : MethodName := ⟨RX6, "isThought", "(I)Z"⟩
abbrev cX6_orderFor : ByteArray := prog_8_method_63_code
def yX6_orderFor : MethodName := ⟨RX6, "orderFor", "(III)I"⟩
abbrev cX6_dateFor : ByteArray := prog_8_method_64_code
def yX6_dateFor : MethodName := ⟨RX6, "dateFor", "(III)I"⟩
abbrev cX6_kindFor : ByteArray := prog_8_method_65_code
def yX6_kindFor : MethodName := ⟨RX6, "kindFor", "(II)I"⟩
abbrev cX6_leadsTo : ByteArray := prog_8_method_66_code
def yX6_leadsTo : MethodName := ⟨RX6, "leadsTo", "(III)Z"⟩
abbrev cX6_pathTo : ByteArray := prog_8_method_67_code
def yX6_pathTo : MethodName := ⟨RX6, "pathTo", "(II)I"⟩
abbrev cX6_nobodyLeaves : ByteArray := prog_8_method_68_code
def yX6_nobodyLeaves : MethodName := ⟨RX6, "nobodyLeaves", "(II)Z"⟩
abbrev cX6_seal : ByteArray := prog_8_method_69_code
def yX6_seal : MethodName := ⟨RX6, "seal", "(I)I"⟩
abbrev cX6_lacks : ByteArray := prog_8_method_70_code
def yX6_lacks : MethodName := ⟨RX6, "lacks", "(IZ)I"⟩
abbrev cX6_isSo : ByteArray := prog_8_method_71_code
def yX6_isSo : MethodName := ⟨RX6, "isSo", "(II)Z"⟩
abbrev cX6_fitting : ByteArray := prog_8_method_72_code
def yX6_fitting : MethodName := ⟨RX6, "fitting", "(IIII)I"⟩
abbrev cX6_fits : ByteArray := prog_8_method_73_code
def yX6_fits : MethodName := ⟨RX6, "fits", "(II)I"⟩
abbrev cX6_kinds : ByteArray := prog_8_method_74_code
def yX6_kinds : MethodName := ⟨RX6, "kinds", "(II)I"⟩
abbrev cX6_drawn : ByteArray := prog_8_method_75_code
def yX6_drawn : MethodName := ⟨RX6, "drawn", "()I"⟩
abbrev cX6_chance : ByteArray := prog_8_method_76_code
def yX6_chance : MethodName := ⟨RX6, "chance", "(I)I"⟩
abbrev cX6_odds : ByteArray := prog_8_method_77_code
def yX6_odds : MethodName := ⟨RX6, "odds", "(III)J"⟩
abbrev cX6_seed : ByteArray := prog_8_method_78_code
def yX6_seed : MethodName := ⟨RX6, "seed", "(I)I"⟩
abbrev cX6_feed : ByteArray := prog_8_method_79_code
def yX6_feed : MethodName := ⟨RX6, "feed", "(II)I"⟩
abbrev cX6_wipe : ByteArray := prog_8_method_80_code
def yX6_wipe : MethodName := ⟨RX6, "wipe", "()I"⟩
abbrev cX6_byteAt : ByteArray := prog_8_method_81_code
def yX6_byteAt : MethodName := ⟨RX6, "byteAt", "(I)I"⟩
abbrev cX6_token : ByteArray := prog_8_method_82_code
def yX6_token : MethodName := ⟨RX6, "token", "()V"⟩
abbrev cX6_isWord : ByteArray := prog_8_method_83_code
def yX6_isWord : MethodName := ⟨RX6, "isWord", "(Ljava/lang/String;)Z"⟩
abbrev cX6_must : ByteArray := prog_8_method_84_code
def yX6_must : MethodName := ⟨RX6, "must", "(Z)V"⟩
abbrev cX6_number : ByteArray := prog_8_method_85_code
def yX6_number : MethodName := ⟨RX6, "number", "(II)I"⟩
abbrev cX6_addItem : ByteArray := prog_8_method_86_code
def yX6_addItem : MethodName := ⟨RX6, "addItem", "(IIIII)V"⟩
abbrev cX6_takesWord : ByteArray := prog_8_method_87_code
def yX6_takesWord : MethodName := ⟨RX6, "takesWord", "(Ljava/lang/String;)Z"⟩
abbrev cX6_readBust : ByteArray := prog_8_method_88_code
def yX6_readBust : MethodName := ⟨RX6, "readBust", "(I)V"⟩
abbrev cX6_readItem : ByteArray := prog_8_method_89_code
def yX6_readItem : MethodName := ⟨RX6, "readItem", "()V"⟩
abbrev cX6_isToldSo : ByteArray := prog_8_method_90_code
def yX6_isToldSo : MethodName := ⟨RX6, "isToldSo", "(I)V"⟩
abbrev cX6_text : ByteArray := prog_8_method_91_code
def yX6_text : MethodName := ⟨RX6, "text", "()I"⟩
abbrev cX6_isSpot : ByteArray := prog_8_method_92_code
def yX6_isSpot : MethodName := ⟨RX6, "isSpot", "(I)Z"⟩
abbrev cX6_hold : ByteArray := prog_8_method_93_code
def yX6_hold : MethodName := ⟨RX6, "hold", "(II)I"⟩
abbrev cX6_as : ByteArray := prog_8_method_94_code
def yX6_as : MethodName := ⟨RX6, "as", "(II)I"⟩
abbrev cX6_isSheet : ByteArray := prog_8_method_95_code
def yX6_isSheet : MethodName := ⟨RX6, "isSheet", "(I)Z"⟩
abbrev cX6_cutTo : ByteArray := prog_8_method_96_code
def yX6_cutTo : MethodName := ⟨RX6, "cutTo", "(II)I"⟩
abbrev cX6_sheet : ByteArray := prog_8_method_97_code
def yX6_sheet : MethodName := ⟨RX6, "sheet", "(III)I"⟩
abbrev cX6_write : ByteArray := prog_8_method_98_code
def yX6_write : MethodName := ⟨RX6, "write", "(III)I"⟩
abbrev cX6_copy : ByteArray := prog_8_method_99_code
def yX6_copy : MethodName := ⟨RX6, "copy", "(IIIII)I"⟩
abbrev cX6_above : ByteArray := prog_8_method_100_code
def yX6_above : MethodName := ⟨RX6, "above", "(I)I"⟩
abbrev cX6_isUnder : ByteArray := prog_8_method_101_code
def yX6_isUnder : MethodName := ⟨RX6, "isUnder", "(II)Z"⟩
abbrev cX6_load : ByteArray := prog_8_method_102_code
def yX6_load : MethodName := ⟨RX6, "load", "(I)I"⟩
abbrev cX6_judge : ByteArray := prog_8_method_103_code
def yX6_judge : MethodName := ⟨RX6, "judge", "(I)I"⟩
abbrev cX6_image : ByteArray := prog_8_method_104_code
def yX6_image : MethodName := ⟨RX6, "image", "()I"⟩
abbrev cX6_undo : ByteArray := prog_8_method_105_code
def yX6_undo : MethodName := ⟨RX6, "undo", "()I"⟩
abbrev cX6_tear : ByteArray := prog_8_method_106_code
def yX6_tear : MethodName := ⟨RX6, "tear", "()I"⟩
abbrev cX6_count : ByteArray := prog_8_method_107_code
def yX6_count : MethodName := ⟨RX6, "count", "(I)I"⟩
abbrev cX6_status : ByteArray := prog_8_method_108_code
def yX6_status : MethodName := ⟨RX6, "status", "(I)I"⟩
def RJ6 : String := "java/lang/Integer"
def TJ6 : u_T := fun k => match k with
  | _ => ("", "", "", false)
def tyJ6 : Nat → FieldType := fun k => match k with
  | _ => .int
abbrev cJ6_bitCount_0f7a4 : ByteArray := prog_9_method_49_code
def yJ6_bitCount_0f7a4 : MethodName := ⟨RJ6, "bitCount", "(I)I"⟩
def RJ9 : String := "java/lang/Math"
def TJ9 : u_T := fun k => match k with
  | _ => ("", "", "", false)
def tyJ9 : Nat → FieldType := fun k => match k with
  | _ => .int
abbrev cJ9_max_7cf53 : ByteArray := prog_10_method_65_code
def yJ9_max_7cf53 : MethodName := ⟨RJ9, "max", "(II)I"⟩
abbrev cJ9_min_7cf53 : ByteArray := prog_10_method_69_code
def yJ9_min_7cf53 : MethodName := ⟨RJ9, "min", "(II)I"⟩
def RJ0 : String := "java/lang/String"
def TJ0 : u_T := fun k => match k with
  | _ => ("", "", "", false)
def tyJ0 : Nat → FieldType := fun k => match k with
  | _ => .int
abbrev cJ0_length_8abf5 : ByteArray := prog_11_method_54_code
def yJ0_length_8abf5 : MethodName := ⟨RJ0, "length", "()I"⟩
abbrev cJ0_charAt_5068e : ByteArray := prog_11_method_56_code
def yJ0_charAt_5068e : MethodName := ⟨RJ0, "charAt", "(I)C"⟩
abbrev cJ0_coder_7d493 : ByteArray := prog_11_method_152_code
def yJ0_coder_7d493 : MethodName := ⟨RJ0, "coder", "()B"⟩
abbrev cJ0_isLatin1_aae02 : ByteArray := prog_11_method_154_code
def yJ0_isLatin1_aae02 : MethodName := ⟨RJ0, "isLatin1", "()Z"⟩
abbrev cJ0_checkIndex_df160 : ByteArray := prog_11_method_155_code
def yJ0_checkIndex_df160 : MethodName := ⟨RJ0, "checkIndex", "(II)V"⟩
def RJ1 : String := "java/lang/StringLatin1"
def TJ1 : u_T := fun k => match k with
  | _ => ("", "", "", false)
def tyJ1 : Nat → FieldType := fun k => match k with
  | _ => .int
abbrev cJ1_charAt_3b067 : ByteArray := prog_12_method_2_code
def yJ1_charAt_3b067 : MethodName := ⟨RJ1, "charAt", "([BI)C"⟩
def RJ2 : String := "java/lang/StringUTF16"
def TJ2 : u_T := fun k => match k with
  | _ => ("", "", "", false)
def tyJ2 : Nat → FieldType := fun k => match k with
  | _ => .int
abbrev cJ2_getChar_3b067 : ByteArray := prog_13_method_5_code
def yJ2_getChar_3b067 : MethodName := ⟨RJ2, "getChar", "([BI)C"⟩
abbrev cJ2_length_9d52b : ByteArray := prog_13_method_6_code
def yJ2_length_9d52b : MethodName := ⟨RJ2, "length", "([B)I"⟩
abbrev cJ2_charAt_3b067 : ByteArray := prog_13_method_83_code
def yJ2_charAt_3b067 : MethodName := ⟨RJ2, "charAt", "([BI)C"⟩
abbrev cJ2_checkIndex_2214a : ByteArray := prog_13_method_91_code
def yJ2_checkIndex_2214a : MethodName := ⟨RJ2, "checkIndex", "(I[B)V"⟩
def RJ10 : String := "java/lang/System"
def TJ10 : u_T := fun k => match k with
  | _ => ("", "", "", false)
def tyJ10 : Nat → FieldType := fun k => match k with
  | _ => .int
def RJ3 : String := "jdk/internal/util/Preconditions"
def TJ3 : u_T := fun k => match k with
  | _ => ("", "", "", false)
def tyJ3 : Nat → FieldType := fun k => match k with
  | _ => .int
abbrev cJ3_checkIndex_8e157 : ByteArray := prog_15_method_11_code
def yJ3_checkIndex_8e157 : MethodName := ⟨RJ3, "checkIndex", "(IILjava/util/function/BiFunction;)I"⟩
def RL : String := "BustRestLaw"
abbrev cL_law : ByteArray := code
def yL_law : MethodName := ⟨RL, "law", "([I)Z"⟩
abbrev vwCl : List vw_C := [(RX0, TX0, 7), (RX1, TX1, 8), (RX2, TX2, 3), (RX3, TX3, 6), (RX4, TX4, 4), (RX5, TX5, 8), (RX6, TX6, 20)]
end
section
/-! printed: decode rows of the class -/
theorem dX0_init_0 : decode cX0_init 0 = .ok (.aload_n 0, 1) := by decide +kernel
theorem dX0_init_1 : decode cX0_init 1 = .ok (.invokespecial 3, 3) := by decide +kernel
theorem dX0_init_4 : decode cX0_init 4 = .ok (.aload_n 0, 1) := by decide +kernel
theorem dX0_init_5 : decode cX0_init 5 = .ok (.iconst 0, 1) := by decide +kernel
theorem dX0_init_6 : decode cX0_init 6 = .ok (.putfield 9, 3) := by decide +kernel
theorem dX0_init_9 : decode cX0_init 9 = .ok (.aload_n 0, 1) := by decide +kernel
theorem dX0_init_10 : decode cX0_init 10 = .ok (.iconst 0, 1) := by decide +kernel
theorem dX0_init_11 : decode cX0_init 11 = .ok (.putfield 15, 3) := by decide +kernel
theorem dX0_init_14 : decode cX0_init 14 = .ok (.aload_n 0, 1) := by decide +kernel
theorem dX0_init_15 : decode cX0_init 15 = .ok (.iconst 3, 1) := by decide +kernel
theorem dX0_init_16 : decode cX0_init 16 = .ok (.putfield 18, 3) := by decide +kernel
theorem dX0_init_19 : decode cX0_init 19 = .ok (.aload_n 0, 1) := by decide +kernel
theorem dX0_init_20 : decode cX0_init 20 = .ok (.iconst 0, 1) := by decide +kernel
theorem dX0_init_21 : decode cX0_init 21 = .ok (.putfield 21, 3) := by decide +kernel
theorem dX0_init_24 : decode cX0_init 24 = .ok (.aload_n 0, 1) := by decide +kernel
theorem dX0_init_25 : decode cX0_init 25 = .ok (.iconst 0, 1) := by decide +kernel
theorem dX0_init_26 : decode cX0_init 26 = .ok (.putfield 24, 3) := by decide +kernel
theorem dX0_init_29 : decode cX0_init 29 = .ok (.aload_n 0, 1) := by decide +kernel
theorem dX0_init_30 : decode cX0_init 30 = .ok (.iconst 0, 1) := by decide +kernel
theorem dX0_init_31 : decode cX0_init 31 = .ok (.putfield 27, 3) := by decide +kernel
theorem dX0_init_34 : decode cX0_init 34 = .ok (.aload_n 0, 1) := by decide +kernel
theorem dX0_init_35 : decode cX0_init 35 = .ok (.iconst 0, 1) := by decide +kernel
theorem dX0_init_36 : decode cX0_init 36 = .ok (.putfield 30, 3) := by decide +kernel
theorem dX0_init_39 : decode cX0_init 39 = .ok (.return_, 1) := by decide +kernel
theorem dX0_begin_0 : decode cX0_begin 0 = .ok (.aload_n 0, 1) := by decide +kernel
theorem dX0_begin_1 : decode cX0_begin 1 = .ok (.iload_n 1, 1) := by decide +kernel
theorem dX0_begin_2 : decode cX0_begin 2 = .ok (.putfield 9, 3) := by decide +kernel
theorem dX0_begin_5 : decode cX0_begin 5 = .ok (.aload_n 0, 1) := by decide +kernel
theorem dX0_begin_6 : decode cX0_begin 6 = .ok (.iload_n 2, 1) := by decide +kernel
theorem dX0_begin_7 : decode cX0_begin 7 = .ok (.putfield 15, 3) := by decide +kernel
theorem dX0_begin_10 : decode cX0_begin 10 = .ok (.aload_n 0, 1) := by decide +kernel
theorem dX0_begin_11 : decode cX0_begin 11 = .ok (.iconst 3, 1) := by decide +kernel
theorem dX0_begin_12 : decode cX0_begin 12 = .ok (.putfield 18, 3) := by decide +kernel
theorem dX0_begin_15 : decode cX0_begin 15 = .ok (.aload_n 0, 1) := by decide +kernel
theorem dX0_begin_16 : decode cX0_begin 16 = .ok (.iconst 0, 1) := by decide +kernel
theorem dX0_begin_17 : decode cX0_begin 17 = .ok (.putfield 21, 3) := by decide +kernel
theorem dX0_begin_20 : decode cX0_begin 20 = .ok (.aload_n 0, 1) := by decide +kernel
theorem dX0_begin_21 : decode cX0_begin 21 = .ok (.iconst 0, 1) := by decide +kernel
theorem dX0_begin_22 : decode cX0_begin 22 = .ok (.putfield 24, 3) := by decide +kernel
theorem dX0_begin_25 : decode cX0_begin 25 = .ok (.aload_n 0, 1) := by decide +kernel
theorem dX0_begin_26 : decode cX0_begin 26 = .ok (.iconst 0, 1) := by decide +kernel
theorem dX0_begin_27 : decode cX0_begin 27 = .ok (.putfield 27, 3) := by decide +kernel
theorem dX0_begin_30 : decode cX0_begin 30 = .ok (.aload_n 0, 1) := by decide +kernel
theorem dX0_begin_31 : decode cX0_begin 31 = .ok (.iconst 0, 1) := by decide +kernel
theorem dX0_begin_32 : decode cX0_begin 32 = .ok (.putfield 30, 3) := by decide +kernel
theorem dX0_begin_35 : decode cX0_begin 35 = .ok (.return_, 1) := by decide +kernel
theorem dX0_copyFrom_0 : decode cX0_copyFrom 0 = .ok (.aload_n 0, 1) := by decide +kernel
theorem dX0_copyFrom_1 : decode cX0_copyFrom 1 = .ok (.aload_n 1, 1) := by decide +kernel
theorem dX0_copyFrom_2 : decode cX0_copyFrom 2 = .ok (.getfield 9, 3) := by decide +kernel
theorem dX0_copyFrom_5 : decode cX0_copyFrom 5 = .ok (.putfield 9, 3) := by decide +kernel
theorem dX0_copyFrom_8 : decode cX0_copyFrom 8 = .ok (.aload_n 0, 1) := by decide +kernel
theorem dX0_copyFrom_9 : decode cX0_copyFrom 9 = .ok (.aload_n 1, 1) := by decide +kernel
theorem dX0_copyFrom_10 : decode cX0_copyFrom 10 = .ok (.getfield 15, 3) := by decide +kernel
theorem dX0_copyFrom_13 : decode cX0_copyFrom 13 = .ok (.putfield 15, 3) := by decide +kernel
theorem dX0_copyFrom_16 : decode cX0_copyFrom 16 = .ok (.aload_n 0, 1) := by decide +kernel
theorem dX0_copyFrom_17 : decode cX0_copyFrom 17 = .ok (.aload_n 1, 1) := by decide +kernel
theorem dX0_copyFrom_18 : decode cX0_copyFrom 18 = .ok (.getfield 18, 3) := by decide +kernel
theorem dX0_copyFrom_21 : decode cX0_copyFrom 21 = .ok (.putfield 18, 3) := by decide +kernel
theorem dX0_copyFrom_24 : decode cX0_copyFrom 24 = .ok (.aload_n 0, 1) := by decide +kernel
theorem dX0_copyFrom_25 : decode cX0_copyFrom 25 = .ok (.aload_n 1, 1) := by decide +kernel
theorem dX0_copyFrom_26 : decode cX0_copyFrom 26 = .ok (.getfield 21, 3) := by decide +kernel
theorem dX0_copyFrom_29 : decode cX0_copyFrom 29 = .ok (.putfield 21, 3) := by decide +kernel
theorem dX0_copyFrom_32 : decode cX0_copyFrom 32 = .ok (.aload_n 0, 1) := by decide +kernel
theorem dX0_copyFrom_33 : decode cX0_copyFrom 33 = .ok (.aload_n 1, 1) := by decide +kernel
theorem dX0_copyFrom_34 : decode cX0_copyFrom 34 = .ok (.getfield 24, 3) := by decide +kernel
theorem dX0_copyFrom_37 : decode cX0_copyFrom 37 = .ok (.putfield 24, 3) := by decide +kernel
theorem dX0_copyFrom_40 : decode cX0_copyFrom 40 = .ok (.aload_n 0, 1) := by decide +kernel
theorem dX0_copyFrom_41 : decode cX0_copyFrom 41 = .ok (.aload_n 1, 1) := by decide +kernel
theorem dX0_copyFrom_42 : decode cX0_copyFrom 42 = .ok (.getfield 27, 3) := by decide +kernel
theorem dX0_copyFrom_45 : decode cX0_copyFrom 45 = .ok (.putfield 27, 3) := by decide +kernel
theorem dX0_copyFrom_48 : decode cX0_copyFrom 48 = .ok (.aload_n 0, 1) := by decide +kernel
theorem dX0_copyFrom_49 : decode cX0_copyFrom 49 = .ok (.aload_n 1, 1) := by decide +kernel
theorem dX0_copyFrom_50 : decode cX0_copyFrom 50 = .ok (.getfield 30, 3) := by decide +kernel
theorem dX0_copyFrom_53 : decode cX0_copyFrom 53 = .ok (.putfield 30, 3) := by decide +kernel
theorem dX0_copyFrom_56 : decode cX0_copyFrom 56 = .ok (.return_, 1) := by decide +kernel
theorem dX0_told_0 : decode cX0_told 0 = .ok (.iload_n 1, 1) := by decide +kernel
theorem dX0_told_1 : decode cX0_told 1 = .ok (.tableswitch 105 0 9 #[55, 60, 65, 70, 75, 80, 85, 90, 95, 100], 55) := by decide +kernel
theorem dX0_told_56 : decode cX0_told 56 = .ok (.aload_n 0, 1) := by decide +kernel
theorem dX0_told_57 : decode cX0_told 57 = .ok (.getfield 9, 3) := by decide +kernel
theorem dX0_told_60 : decode cX0_told 60 = .ok (.ireturn, 1) := by decide +kernel
theorem dX0_told_61 : decode cX0_told 61 = .ok (.aload_n 0, 1) := by decide +kernel
theorem dX0_told_62 : decode cX0_told 62 = .ok (.getfield 15, 3) := by decide +kernel
theorem dX0_told_65 : decode cX0_told 65 = .ok (.ireturn, 1) := by decide +kernel
theorem dX0_told_66 : decode cX0_told 66 = .ok (.aload_n 0, 1) := by decide +kernel
theorem dX0_told_67 : decode cX0_told 67 = .ok (.getfield 18, 3) := by decide +kernel
theorem dX0_told_70 : decode cX0_told 70 = .ok (.ireturn, 1) := by decide +kernel
theorem dX0_told_71 : decode cX0_told 71 = .ok (.aload_n 0, 1) := by decide +kernel
theorem dX0_told_72 : decode cX0_told 72 = .ok (.getfield 21, 3) := by decide +kernel
theorem dX0_told_75 : decode cX0_told 75 = .ok (.ireturn, 1) := by decide +kernel
theorem dX0_told_76 : decode cX0_told 76 = .ok (.aload_n 0, 1) := by decide +kernel
theorem dX0_told_77 : decode cX0_told 77 = .ok (.getfield 24, 3) := by decide +kernel
theorem dX0_told_80 : decode cX0_told 80 = .ok (.ireturn, 1) := by decide +kernel
theorem dX0_told_81 : decode cX0_told 81 = .ok (.aload_n 0, 1) := by decide +kernel
theorem dX0_told_82 : decode cX0_told 82 = .ok (.getfield 27, 3) := by decide +kernel
theorem dX0_told_85 : decode cX0_told 85 = .ok (.ireturn, 1) := by decide +kernel
theorem dX0_told_86 : decode cX0_told 86 = .ok (.aload_n 0, 1) := by decide +kernel
theorem dX0_told_87 : decode cX0_told 87 = .ok (.getfield 30, 3) := by decide +kernel
theorem dX0_told_90 : decode cX0_told 90 = .ok (.ireturn, 1) := by decide +kernel
theorem dX0_told_91 : decode cX0_told 91 = .ok (.aload_n 0, 1) := by decide +kernel
theorem dX0_told_92 : decode cX0_told 92 = .ok (.invokevirtual 33, 3) := by decide +kernel
theorem dX0_told_95 : decode cX0_told 95 = .ok (.ireturn, 1) := by decide +kernel
theorem dX0_told_96 : decode cX0_told 96 = .ok (.aload_n 0, 1) := by decide +kernel
theorem dX0_told_97 : decode cX0_told 97 = .ok (.invokevirtual 37, 3) := by decide +kernel
theorem dX0_told_100 : decode cX0_told 100 = .ok (.ireturn, 1) := by decide +kernel
theorem dX0_told_101 : decode cX0_told 101 = .ok (.aload_n 0, 1) := by decide +kernel
theorem dX0_told_102 : decode cX0_told 102 = .ok (.invokevirtual 40, 3) := by decide +kernel
theorem dX0_told_105 : decode cX0_told 105 = .ok (.ireturn, 1) := by decide +kernel
theorem dX0_told_106 : decode cX0_told 106 = .ok (.aload_n 0, 1) := by decide +kernel
theorem dX0_told_107 : decode cX0_told 107 = .ok (.invokevirtual 43, 3) := by decide +kernel
theorem dX0_told_110 : decode cX0_told 110 = .ok (.ireturn, 1) := by decide +kernel
theorem dX0_become_0 : decode cX0_become 0 = .ok (.iload_n 1, 1) := by decide +kernel
theorem dX0_become_1 : decode cX0_become 1 = .ok (.tableswitch 99 0 6 #[43, 51, 59, 67, 75, 83, 91], 43) := by decide +kernel
theorem dX0_become_44 : decode cX0_become 44 = .ok (.aload_n 0, 1) := by decide +kernel
theorem dX0_become_45 : decode cX0_become 45 = .ok (.iload_n 2, 1) := by decide +kernel
theorem dX0_become_46 : decode cX0_become 46 = .ok (.putfield 9, 3) := by decide +kernel
theorem dX0_become_49 : decode cX0_become 49 = .ok (.goto 51, 3) := by decide +kernel
theorem dX0_become_52 : decode cX0_become 52 = .ok (.aload_n 0, 1) := by decide +kernel
theorem dX0_become_53 : decode cX0_become 53 = .ok (.iload_n 2, 1) := by decide +kernel
theorem dX0_become_54 : decode cX0_become 54 = .ok (.putfield 15, 3) := by decide +kernel
theorem dX0_become_57 : decode cX0_become 57 = .ok (.goto 43, 3) := by decide +kernel
theorem dX0_become_60 : decode cX0_become 60 = .ok (.aload_n 0, 1) := by decide +kernel
theorem dX0_become_61 : decode cX0_become 61 = .ok (.iload_n 2, 1) := by decide +kernel
theorem dX0_become_62 : decode cX0_become 62 = .ok (.putfield 18, 3) := by decide +kernel
theorem dX0_become_65 : decode cX0_become 65 = .ok (.goto 35, 3) := by decide +kernel
theorem dX0_become_68 : decode cX0_become 68 = .ok (.aload_n 0, 1) := by decide +kernel
theorem dX0_become_69 : decode cX0_become 69 = .ok (.iload_n 2, 1) := by decide +kernel
theorem dX0_become_70 : decode cX0_become 70 = .ok (.putfield 21, 3) := by decide +kernel
theorem dX0_become_73 : decode cX0_become 73 = .ok (.goto 27, 3) := by decide +kernel
theorem dX0_become_76 : decode cX0_become 76 = .ok (.aload_n 0, 1) := by decide +kernel
theorem dX0_become_77 : decode cX0_become 77 = .ok (.iload_n 2, 1) := by decide +kernel
theorem dX0_become_78 : decode cX0_become 78 = .ok (.putfield 24, 3) := by decide +kernel
theorem dX0_become_81 : decode cX0_become 81 = .ok (.goto 19, 3) := by decide +kernel
theorem dX0_become_84 : decode cX0_become 84 = .ok (.aload_n 0, 1) := by decide +kernel
theorem dX0_become_85 : decode cX0_become 85 = .ok (.iload_n 2, 1) := by decide +kernel
theorem dX0_become_86 : decode cX0_become 86 = .ok (.putfield 27, 3) := by decide +kernel
theorem dX0_become_89 : decode cX0_become 89 = .ok (.goto 11, 3) := by decide +kernel
theorem dX0_become_92 : decode cX0_become 92 = .ok (.aload_n 0, 1) := by decide +kernel
theorem dX0_become_93 : decode cX0_become 93 = .ok (.iload_n 2, 1) := by decide +kernel
theorem dX0_become_94 : decode cX0_become 94 = .ok (.putfield 30, 3) := by decide +kernel
theorem dX0_become_97 : decode cX0_become 97 = .ok (.goto 3, 3) := by decide +kernel
theorem dX0_become_100 : decode cX0_become 100 = .ok (.return_, 1) := by decide +kernel
theorem dX0_isA_0 : decode cX0_isA 0 = .ok (.aload_n 0, 1) := by decide +kernel
theorem dX0_isA_1 : decode cX0_isA 1 = .ok (.getfield 9, 3) := by decide +kernel
theorem dX0_isA_4 : decode cX0_isA 4 = .ok (.istore_n 2, 1) := by decide +kernel
theorem dX0_isA_5 : decode cX0_isA 5 = .ok (.iconst 0, 1) := by decide +kernel
theorem dX0_isA_6 : decode cX0_isA 6 = .ok (.istore_n 3, 1) := by decide +kernel
theorem dX0_isA_7 : decode cX0_isA 7 = .ok (.iload_n 3, 1) := by decide +kernel
theorem dX0_isA_8 : decode cX0_isA 8 = .ok (.bipush 7, 2) := by decide +kernel
theorem dX0_isA_10 : decode cX0_isA 10 = .ok (.if_icmp .ge 22, 3) := by decide +kernel
theorem dX0_isA_13 : decode cX0_isA 13 = .ok (.iload_n 2, 1) := by decide +kernel
theorem dX0_isA_14 : decode cX0_isA 14 = .ok (.iload_n 1, 1) := by decide +kernel
theorem dX0_isA_15 : decode cX0_isA 15 = .ok (.if_icmp .ne 5, 3) := by decide +kernel
theorem dX0_isA_18 : decode cX0_isA 18 = .ok (.iconst 1, 1) := by decide +kernel
theorem dX0_isA_19 : decode cX0_isA 19 = .ok (.ireturn, 1) := by decide +kernel
theorem dX0_isA_20 : decode cX0_isA 20 = .ok (.getstatic 46, 3) := by decide +kernel
theorem dX0_isA_23 : decode cX0_isA 23 = .ok (.iload_n 2, 1) := by decide +kernel
theorem dX0_isA_24 : decode cX0_isA 24 = .ok (.iaload, 1) := by decide +kernel
theorem dX0_isA_25 : decode cX0_isA 25 = .ok (.istore_n 2, 1) := by decide +kernel
theorem dX0_isA_26 : decode cX0_isA 26 = .ok (.iinc 3 1, 3) := by decide +kernel
theorem dX0_isA_29 : decode cX0_isA 29 = .ok (.goto (-22), 3) := by decide +kernel
theorem dX0_isA_32 : decode cX0_isA 32 = .ok (.iconst 0, 1) := by decide +kernel
theorem dX0_isA_33 : decode cX0_isA 33 = .ok (.ireturn, 1) := by decide +kernel
theorem dX0_hasPart_0 : decode cX0_hasPart 0 = .ok (.aload_n 0, 1) := by decide +kernel
theorem dX0_hasPart_1 : decode cX0_hasPart 1 = .ok (.getfield 18, 3) := by decide +kernel
theorem dX0_hasPart_4 : decode cX0_hasPart 4 = .ok (.iload_n 1, 1) := by decide +kernel
theorem dX0_hasPart_5 : decode cX0_hasPart 5 = .ok (.ishr, 1) := by decide +kernel
theorem dX0_hasPart_6 : decode cX0_hasPart 6 = .ok (.iconst 1, 1) := by decide +kernel
theorem dX0_hasPart_7 : decode cX0_hasPart 7 = .ok (.iand, 1) := by decide +kernel
theorem dX0_hasPart_8 : decode cX0_hasPart 8 = .ok (.iconst 1, 1) := by decide +kernel
theorem dX0_hasPart_9 : decode cX0_hasPart 9 = .ok (.if_icmp .ne 7, 3) := by decide +kernel
theorem dX0_hasPart_12 : decode cX0_hasPart 12 = .ok (.iconst 1, 1) := by decide +kernel
theorem dX0_hasPart_13 : decode cX0_hasPart 13 = .ok (.goto 4, 3) := by decide +kernel
theorem dX0_hasPart_16 : decode cX0_hasPart 16 = .ok (.iconst 0, 1) := by decide +kernel
theorem dX0_hasPart_17 : decode cX0_hasPart 17 = .ok (.ireturn, 1) := by decide +kernel
theorem dX0_receive_0 : decode cX0_receive 0 = .ok (.aload_n 0, 1) := by decide +kernel
theorem dX0_receive_1 : decode cX0_receive 1 = .ok (.dup, 1) := by decide +kernel
theorem dX0_receive_2 : decode cX0_receive 2 = .ok (.getfield 18, 3) := by decide +kernel
theorem dX0_receive_5 : decode cX0_receive 5 = .ok (.iconst 1, 1) := by decide +kernel
theorem dX0_receive_6 : decode cX0_receive 6 = .ok (.iload_n 1, 1) := by decide +kernel
theorem dX0_receive_7 : decode cX0_receive 7 = .ok (.ishl, 1) := by decide +kernel
theorem dX0_receive_8 : decode cX0_receive 8 = .ok (.ior, 1) := by decide +kernel
theorem dX0_receive_9 : decode cX0_receive 9 = .ok (.putfield 18, 3) := by decide +kernel
theorem dX0_receive_12 : decode cX0_receive 12 = .ok (.return_, 1) := by decide +kernel
theorem dX0_greatestPart_0 : decode cX0_greatestPart 0 = .ok (.bipush 11, 2) := by decide +kernel
theorem dX0_greatestPart_2 : decode cX0_greatestPart 2 = .ok (.istore_n 1, 1) := by decide +kernel
theorem dX0_greatestPart_3 : decode cX0_greatestPart 3 = .ok (.iload_n 1, 1) := by decide +kernel
theorem dX0_greatestPart_4 : decode cX0_greatestPart 4 = .ok (.ifCond .le 19, 3) := by decide +kernel
theorem dX0_greatestPart_7 : decode cX0_greatestPart 7 = .ok (.aload_n 0, 1) := by decide +kernel
theorem dX0_greatestPart_8 : decode cX0_greatestPart 8 = .ok (.iload_n 1, 1) := by decide +kernel
theorem dX0_greatestPart_9 : decode cX0_greatestPart 9 = .ok (.invokevirtual 50, 3) := by decide +kernel
theorem dX0_greatestPart_12 : decode cX0_greatestPart 12 = .ok (.ifCond .eq 5, 3) := by decide +kernel
theorem dX0_greatestPart_15 : decode cX0_greatestPart 15 = .ok (.iload_n 1, 1) := by decide +kernel
theorem dX0_greatestPart_16 : decode cX0_greatestPart 16 = .ok (.ireturn, 1) := by decide +kernel
theorem dX0_greatestPart_17 : decode cX0_greatestPart 17 = .ok (.iinc 1 (-1), 3) := by decide +kernel
theorem dX0_greatestPart_20 : decode cX0_greatestPart 20 = .ok (.goto (-17), 3) := by decide +kernel
theorem dX0_greatestPart_23 : decode cX0_greatestPart 23 = .ok (.iconst 0, 1) := by decide +kernel
theorem dX0_greatestPart_24 : decode cX0_greatestPart 24 = .ok (.ireturn, 1) := by decide +kernel
theorem dX0_takes_0 : decode cX0_takes 0 = .ok (.aload_n 0, 1) := by decide +kernel
theorem dX0_takes_1 : decode cX0_takes 1 = .ok (.iload_n 1, 1) := by decide +kernel
theorem dX0_takes_2 : decode cX0_takes 2 = .ok (.invokevirtual 50, 3) := by decide +kernel
theorem dX0_takes_5 : decode cX0_takes 5 = .ok (.ifCond .eq 5, 3) := by decide +kernel
theorem dX0_takes_8 : decode cX0_takes 8 = .ok (.iconst 0, 1) := by decide +kernel
theorem dX0_takes_9 : decode cX0_takes 9 = .ok (.ireturn, 1) := by decide +kernel
theorem dX0_takes_10 : decode cX0_takes 10 = .ok (.iload_n 1, 1) := by decide +kernel
theorem dX0_takes_11 : decode cX0_takes 11 = .ok (.ifCond .le 17, 3) := by decide +kernel
theorem dX0_takes_14 : decode cX0_takes 14 = .ok (.aload_n 0, 1) := by decide +kernel
theorem dX0_takes_15 : decode cX0_takes 15 = .ok (.iload_n 1, 1) := by decide +kernel
theorem dX0_takes_16 : decode cX0_takes 16 = .ok (.iconst 1, 1) := by decide +kernel
theorem dX0_takes_17 : decode cX0_takes 17 = .ok (.isub, 1) := by decide +kernel
theorem dX0_takes_18 : decode cX0_takes 18 = .ok (.invokevirtual 50, 3) := by decide +kernel
theorem dX0_takes_21 : decode cX0_takes 21 = .ok (.ifCond .eq 7, 3) := by decide +kernel
theorem dX0_takes_24 : decode cX0_takes 24 = .ok (.iconst 1, 1) := by decide +kernel
theorem dX0_takes_25 : decode cX0_takes 25 = .ok (.goto 4, 3) := by decide +kernel
theorem dX0_takes_28 : decode cX0_takes 28 = .ok (.iconst 0, 1) := by decide +kernel
theorem dX0_takes_29 : decode cX0_takes 29 = .ok (.istore_n 2, 1) := by decide +kernel
theorem dX0_takes_30 : decode cX0_takes 30 = .ok (.iload_n 2, 1) := by decide +kernel
theorem dX0_takes_31 : decode cX0_takes 31 = .ok (.ifCond .ne 9, 3) := by decide +kernel
theorem dX0_takes_34 : decode cX0_takes 34 = .ok (.iload_n 1, 1) := by decide +kernel
theorem dX0_takes_35 : decode cX0_takes 35 = .ok (.iconst 2, 1) := by decide +kernel
theorem dX0_takes_36 : decode cX0_takes 36 = .ok (.irem, 1) := by decide +kernel
theorem dX0_takes_37 : decode cX0_takes 37 = .ok (.ifCond .ne 7, 3) := by decide +kernel
theorem dX0_takes_40 : decode cX0_takes 40 = .ok (.iconst 1, 1) := by decide +kernel
theorem dX0_takes_41 : decode cX0_takes 41 = .ok (.goto 4, 3) := by decide +kernel
theorem dX0_takes_44 : decode cX0_takes 44 = .ok (.iconst 0, 1) := by decide +kernel
theorem dX0_takes_45 : decode cX0_takes 45 = .ok (.istore_n 3, 1) := by decide +kernel
theorem dX0_takes_46 : decode cX0_takes 46 = .ok (.iload_n 2, 1) := by decide +kernel
theorem dX0_takes_47 : decode cX0_takes 47 = .ok (.ifCond .eq 12, 3) := by decide +kernel
theorem dX0_takes_50 : decode cX0_takes 50 = .ok (.iload_n 1, 1) := by decide +kernel
theorem dX0_takes_51 : decode cX0_takes 51 = .ok (.iconst 5, 1) := by decide +kernel
theorem dX0_takes_52 : decode cX0_takes 52 = .ok (.if_icmp .eq 7, 3) := by decide +kernel
theorem dX0_takes_55 : decode cX0_takes 55 = .ok (.iconst 1, 1) := by decide +kernel
theorem dX0_takes_56 : decode cX0_takes 56 = .ok (.goto 4, 3) := by decide +kernel
theorem dX0_takes_59 : decode cX0_takes 59 = .ok (.iconst 0, 1) := by decide +kernel
theorem dX0_takes_60 : decode cX0_takes 60 = .ok (.istore 4, 2) := by decide +kernel
theorem dX0_takes_62 : decode cX0_takes 62 = .ok (.aload_n 0, 1) := by decide +kernel
theorem dX0_takes_63 : decode cX0_takes 63 = .ok (.getfield 9, 3) := by decide +kernel
theorem dX0_takes_66 : decode cX0_takes 66 = .ok (.tableswitch 94 1 6 #[38, 40, 43, 59, 61, 78], 38) := by decide +kernel
theorem dX0_takes_104 : decode cX0_takes 104 = .ok (.iload_n 3, 1) := by decide +kernel
theorem dX0_takes_105 : decode cX0_takes 105 = .ok (.ireturn, 1) := by decide +kernel
theorem dX0_takes_106 : decode cX0_takes 106 = .ok (.iload 4, 2) := by decide +kernel
theorem dX0_takes_108 : decode cX0_takes 108 = .ok (.ireturn, 1) := by decide +kernel
theorem dX0_takes_109 : decode cX0_takes 109 = .ok (.iload 4, 2) := by decide +kernel
theorem dX0_takes_111 : decode cX0_takes 111 = .ok (.ifCond .ne 8, 3) := by decide +kernel
theorem dX0_takes_114 : decode cX0_takes 114 = .ok (.iload_n 1, 1) := by decide +kernel
theorem dX0_takes_115 : decode cX0_takes 115 = .ok (.iconst 3, 1) := by decide +kernel
theorem dX0_takes_116 : decode cX0_takes 116 = .ok (.if_icmp .ne 7, 3) := by decide +kernel
theorem dX0_takes_119 : decode cX0_takes 119 = .ok (.iconst 1, 1) := by decide +kernel
theorem dX0_takes_120 : decode cX0_takes 120 = .ok (.goto 4, 3) := by decide +kernel
theorem dX0_takes_123 : decode cX0_takes 123 = .ok (.iconst 0, 1) := by decide +kernel
theorem dX0_takes_124 : decode cX0_takes 124 = .ok (.ireturn, 1) := by decide +kernel
theorem dX0_takes_125 : decode cX0_takes 125 = .ok (.iconst 1, 1) := by decide +kernel
theorem dX0_takes_126 : decode cX0_takes 126 = .ok (.ireturn, 1) := by decide +kernel
theorem dX0_takes_127 : decode cX0_takes 127 = .ok (.iload_n 1, 1) := by decide +kernel
theorem dX0_takes_128 : decode cX0_takes 128 = .ok (.iconst 2, 1) := by decide +kernel
theorem dX0_takes_129 : decode cX0_takes 129 = .ok (.if_icmp .lt 13, 3) := by decide +kernel
theorem dX0_takes_132 : decode cX0_takes 132 = .ok (.iload_n 1, 1) := by decide +kernel
theorem dX0_takes_133 : decode cX0_takes 133 = .ok (.bipush 7, 2) := by decide +kernel
theorem dX0_takes_135 : decode cX0_takes 135 = .ok (.if_icmp .gt 7, 3) := by decide +kernel
theorem dX0_takes_138 : decode cX0_takes 138 = .ok (.iconst 1, 1) := by decide +kernel
theorem dX0_takes_139 : decode cX0_takes 139 = .ok (.goto 4, 3) := by decide +kernel
theorem dX0_takes_142 : decode cX0_takes 142 = .ok (.iconst 0, 1) := by decide +kernel
theorem dX0_takes_143 : decode cX0_takes 143 = .ok (.ireturn, 1) := by decide +kernel
theorem dX0_takes_144 : decode cX0_takes 144 = .ok (.iload_n 3, 1) := by decide +kernel
theorem dX0_takes_145 : decode cX0_takes 145 = .ok (.ifCond .eq 13, 3) := by decide +kernel
theorem dX0_takes_148 : decode cX0_takes 148 = .ok (.iload_n 1, 1) := by decide +kernel
theorem dX0_takes_149 : decode cX0_takes 149 = .ok (.bipush 6, 2) := by decide +kernel
theorem dX0_takes_151 : decode cX0_takes 151 = .ok (.if_icmp .gt 7, 3) := by decide +kernel
theorem dX0_takes_154 : decode cX0_takes 154 = .ok (.iconst 1, 1) := by decide +kernel
theorem dX0_takes_155 : decode cX0_takes 155 = .ok (.goto 4, 3) := by decide +kernel
theorem dX0_takes_158 : decode cX0_takes 158 = .ok (.iconst 0, 1) := by decide +kernel
theorem dX0_takes_159 : decode cX0_takes 159 = .ok (.ireturn, 1) := by decide +kernel
theorem dX0_takes_160 : decode cX0_takes 160 = .ok (.iload_n 2, 1) := by decide +kernel
theorem dX0_takes_161 : decode cX0_takes 161 = .ok (.ireturn, 1) := by decide +kernel
theorem dX0_yearnsMore_0 : decode cX0_yearnsMore 0 = .ok (.bipush 12, 2) := by decide +kernel
theorem dX0_yearnsMore_2 : decode cX0_yearnsMore 2 = .ok (.aload_n 0, 1) := by decide +kernel
theorem dX0_yearnsMore_3 : decode cX0_yearnsMore 3 = .ok (.getfield 18, 3) := by decide +kernel
theorem dX0_yearnsMore_6 : decode cX0_yearnsMore 6 = .ok (.invokestatic 54, 3) := by decide +kernel
theorem dX0_yearnsMore_9 : decode cX0_yearnsMore 9 = .ok (.isub, 1) := by decide +kernel
theorem dX0_yearnsMore_10 : decode cX0_yearnsMore 10 = .ok (.iconst 3, 1) := by decide +kernel
theorem dX0_yearnsMore_11 : decode cX0_yearnsMore 11 = .ok (.idiv, 1) := by decide +kernel
theorem dX0_yearnsMore_12 : decode cX0_yearnsMore 12 = .ok (.istore_n 1, 1) := by decide +kernel
theorem dX0_yearnsMore_13 : decode cX0_yearnsMore 13 = .ok (.iload_n 1, 1) := by decide +kernel
theorem dX0_yearnsMore_14 : decode cX0_yearnsMore 14 = .ok (.iconst 1, 1) := by decide +kernel
theorem dX0_yearnsMore_15 : decode cX0_yearnsMore 15 = .ok (.iadd, 1) := by decide +kernel
theorem dX0_yearnsMore_16 : decode cX0_yearnsMore 16 = .ok (.istore_n 2, 1) := by decide +kernel
theorem dX0_yearnsMore_17 : decode cX0_yearnsMore 17 = .ok (.aload_n 0, 1) := by decide +kernel
theorem dX0_yearnsMore_18 : decode cX0_yearnsMore 18 = .ok (.bipush 8, 2) := by decide +kernel
theorem dX0_yearnsMore_20 : decode cX0_yearnsMore 20 = .ok (.invokevirtual 50, 3) := by decide +kernel
theorem dX0_yearnsMore_23 : decode cX0_yearnsMore 23 = .ok (.ifCond .eq 7, 3) := by decide +kernel
theorem dX0_yearnsMore_26 : decode cX0_yearnsMore 26 = .ok (.iconst 0, 1) := by decide +kernel
theorem dX0_yearnsMore_27 : decode cX0_yearnsMore 27 = .ok (.goto 4, 3) := by decide +kernel
theorem dX0_yearnsMore_30 : decode cX0_yearnsMore 30 = .ok (.iload_n 1, 1) := by decide +kernel
theorem dX0_yearnsMore_31 : decode cX0_yearnsMore 31 = .ok (.istore_n 3, 1) := by decide +kernel
theorem dX0_yearnsMore_32 : decode cX0_yearnsMore 32 = .ok (.iload_n 3, 1) := by decide +kernel
theorem dX0_yearnsMore_33 : decode cX0_yearnsMore 33 = .ok (.iconst 1, 1) := by decide +kernel
theorem dX0_yearnsMore_34 : decode cX0_yearnsMore 34 = .ok (.iadd, 1) := by decide +kernel
theorem dX0_yearnsMore_35 : decode cX0_yearnsMore 35 = .ok (.istore 4, 2) := by decide +kernel
theorem dX0_yearnsMore_37 : decode cX0_yearnsMore 37 = .ok (.aload_n 0, 1) := by decide +kernel
theorem dX0_yearnsMore_38 : decode cX0_yearnsMore 38 = .ok (.getfield 9, 3) := by decide +kernel
theorem dX0_yearnsMore_41 : decode cX0_yearnsMore 41 = .ok (.tableswitch 70 1 6 #[39, 41, 43, 46, 64, 66], 39) := by decide +kernel
theorem dX0_yearnsMore_80 : decode cX0_yearnsMore 80 = .ok (.iload_n 2, 1) := by decide +kernel
theorem dX0_yearnsMore_81 : decode cX0_yearnsMore 81 = .ok (.ireturn, 1) := by decide +kernel
theorem dX0_yearnsMore_82 : decode cX0_yearnsMore 82 = .ok (.iload_n 3, 1) := by decide +kernel
theorem dX0_yearnsMore_83 : decode cX0_yearnsMore 83 = .ok (.ireturn, 1) := by decide +kernel
theorem dX0_yearnsMore_84 : decode cX0_yearnsMore 84 = .ok (.iload 4, 2) := by decide +kernel
theorem dX0_yearnsMore_86 : decode cX0_yearnsMore 86 = .ok (.ireturn, 1) := by decide +kernel
theorem dX0_yearnsMore_87 : decode cX0_yearnsMore 87 = .ok (.iconst 0, 1) := by decide +kernel
theorem dX0_yearnsMore_88 : decode cX0_yearnsMore 88 = .ok (.iload 4, 2) := by decide +kernel
theorem dX0_yearnsMore_90 : decode cX0_yearnsMore 90 = .ok (.aload_n 0, 1) := by decide +kernel
theorem dX0_yearnsMore_91 : decode cX0_yearnsMore 91 = .ok (.getfield 18, 3) := by decide +kernel
theorem dX0_yearnsMore_94 : decode cX0_yearnsMore 94 = .ok (.bipush 24, 2) := by decide +kernel
theorem dX0_yearnsMore_96 : decode cX0_yearnsMore 96 = .ok (.iand, 1) := by decide +kernel
theorem dX0_yearnsMore_97 : decode cX0_yearnsMore 97 = .ok (.invokestatic 54, 3) := by decide +kernel
theorem dX0_yearnsMore_100 : decode cX0_yearnsMore 100 = .ok (.isub, 1) := by decide +kernel
theorem dX0_yearnsMore_101 : decode cX0_yearnsMore 101 = .ok (.invokestatic 60, 3) := by decide +kernel
theorem dX0_yearnsMore_104 : decode cX0_yearnsMore 104 = .ok (.ireturn, 1) := by decide +kernel
theorem dX0_yearnsMore_105 : decode cX0_yearnsMore 105 = .ok (.iconst 1, 1) := by decide +kernel
theorem dX0_yearnsMore_106 : decode cX0_yearnsMore 106 = .ok (.ireturn, 1) := by decide +kernel
theorem dX0_yearnsMore_107 : decode cX0_yearnsMore 107 = .ok (.iconst 2, 1) := by decide +kernel
theorem dX0_yearnsMore_108 : decode cX0_yearnsMore 108 = .ok (.iload_n 2, 1) := by decide +kernel
theorem dX0_yearnsMore_109 : decode cX0_yearnsMore 109 = .ok (.imul, 1) := by decide +kernel
theorem dX0_yearnsMore_110 : decode cX0_yearnsMore 110 = .ok (.ireturn, 1) := by decide +kernel
theorem dX0_yearnsMore_111 : decode cX0_yearnsMore 111 = .ok (.iload_n 1, 1) := by decide +kernel
theorem dX0_yearnsMore_112 : decode cX0_yearnsMore 112 = .ok (.ireturn, 1) := by decide +kernel
theorem dX0_leavesWith_0 : decode cX0_leavesWith 0 = .ok (.bipush 50, 2) := by decide +kernel
theorem dX0_leavesWith_2 : decode cX0_leavesWith 2 = .ok (.istore_n 1, 1) := by decide +kernel
theorem dX0_leavesWith_3 : decode cX0_leavesWith 3 = .ok (.iload_n 1, 1) := by decide +kernel
theorem dX0_leavesWith_4 : decode cX0_leavesWith 4 = .ok (.bipush 10, 2) := by decide +kernel
theorem dX0_leavesWith_6 : decode cX0_leavesWith 6 = .ok (.isub, 1) := by decide +kernel
theorem dX0_leavesWith_7 : decode cX0_leavesWith 7 = .ok (.istore_n 2, 1) := by decide +kernel
theorem dX0_leavesWith_8 : decode cX0_leavesWith 8 = .ok (.iload_n 1, 1) := by decide +kernel
theorem dX0_leavesWith_9 : decode cX0_leavesWith 9 = .ok (.bipush 30, 2) := by decide +kernel
theorem dX0_leavesWith_11 : decode cX0_leavesWith 11 = .ok (.iadd, 1) := by decide +kernel
theorem dX0_leavesWith_12 : decode cX0_leavesWith 12 = .ok (.istore_n 3, 1) := by decide +kernel
theorem dX0_leavesWith_13 : decode cX0_leavesWith 13 = .ok (.aload_n 0, 1) := by decide +kernel
theorem dX0_leavesWith_14 : decode cX0_leavesWith 14 = .ok (.getfield 9, 3) := by decide +kernel
theorem dX0_leavesWith_17 : decode cX0_leavesWith 17 = .ok (.tableswitch 54 1 6 #[39, 41, 43, 45, 49, 52], 39) := by decide +kernel
theorem dX0_leavesWith_56 : decode cX0_leavesWith 56 = .ok (.iload_n 2, 1) := by decide +kernel
theorem dX0_leavesWith_57 : decode cX0_leavesWith 57 = .ok (.ireturn, 1) := by decide +kernel
theorem dX0_leavesWith_58 : decode cX0_leavesWith 58 = .ok (.iload_n 3, 1) := by decide +kernel
theorem dX0_leavesWith_59 : decode cX0_leavesWith 59 = .ok (.ireturn, 1) := by decide +kernel
theorem dX0_leavesWith_60 : decode cX0_leavesWith 60 = .ok (.iload_n 3, 1) := by decide +kernel
theorem dX0_leavesWith_61 : decode cX0_leavesWith 61 = .ok (.ireturn, 1) := by decide +kernel
theorem dX0_leavesWith_62 : decode cX0_leavesWith 62 = .ok (.iload_n 3, 1) := by decide +kernel
theorem dX0_leavesWith_63 : decode cX0_leavesWith 63 = .ok (.iconst 2, 1) := by decide +kernel
theorem dX0_leavesWith_64 : decode cX0_leavesWith 64 = .ok (.idiv, 1) := by decide +kernel
theorem dX0_leavesWith_65 : decode cX0_leavesWith 65 = .ok (.ireturn, 1) := by decide +kernel
theorem dX0_leavesWith_66 : decode cX0_leavesWith 66 = .ok (.bipush 99, 2) := by decide +kernel
theorem dX0_leavesWith_68 : decode cX0_leavesWith 68 = .ok (.ireturn, 1) := by decide +kernel
theorem dX0_leavesWith_69 : decode cX0_leavesWith 69 = .ok (.iload_n 2, 1) := by decide +kernel
theorem dX0_leavesWith_70 : decode cX0_leavesWith 70 = .ok (.ireturn, 1) := by decide +kernel
theorem dX0_leavesWith_71 : decode cX0_leavesWith 71 = .ok (.iload_n 1, 1) := by decide +kernel
theorem dX0_leavesWith_72 : decode cX0_leavesWith 72 = .ok (.ireturn, 1) := by decide +kernel
theorem dX0_stepsInADay_0 : decode cX0_stepsInADay 0 = .ok (.iconst 1, 1) := by decide +kernel
theorem dX0_stepsInADay_1 : decode cX0_stepsInADay 1 = .ok (.istore_n 1, 1) := by decide +kernel
theorem dX0_stepsInADay_2 : decode cX0_stepsInADay 2 = .ok (.iconst 2, 1) := by decide +kernel
theorem dX0_stepsInADay_3 : decode cX0_stepsInADay 3 = .ok (.iload_n 1, 1) := by decide +kernel
theorem dX0_stepsInADay_4 : decode cX0_stepsInADay 4 = .ok (.imul, 1) := by decide +kernel
theorem dX0_stepsInADay_5 : decode cX0_stepsInADay 5 = .ok (.istore_n 2, 1) := by decide +kernel
theorem dX0_stepsInADay_6 : decode cX0_stepsInADay 6 = .ok (.iload_n 1, 1) := by decide +kernel
theorem dX0_stepsInADay_7 : decode cX0_stepsInADay 7 = .ok (.iconst 1, 1) := by decide +kernel
theorem dX0_stepsInADay_8 : decode cX0_stepsInADay 8 = .ok (.iadd, 1) := by decide +kernel
theorem dX0_stepsInADay_9 : decode cX0_stepsInADay 9 = .ok (.istore_n 3, 1) := by decide +kernel
theorem dX0_stepsInADay_10 : decode cX0_stepsInADay 10 = .ok (.aload_n 0, 1) := by decide +kernel
theorem dX0_stepsInADay_11 : decode cX0_stepsInADay 11 = .ok (.getfield 9, 3) := by decide +kernel
theorem dX0_stepsInADay_14 : decode cX0_stepsInADay 14 = .ok (.tableswitch 65 1 6 #[38, 40, 42, 44, 46, 48], 38) := by decide +kernel
theorem dX0_stepsInADay_52 : decode cX0_stepsInADay 52 = .ok (.iload_n 2, 1) := by decide +kernel
theorem dX0_stepsInADay_53 : decode cX0_stepsInADay 53 = .ok (.ireturn, 1) := by decide +kernel
theorem dX0_stepsInADay_54 : decode cX0_stepsInADay 54 = .ok (.iload_n 1, 1) := by decide +kernel
theorem dX0_stepsInADay_55 : decode cX0_stepsInADay 55 = .ok (.ireturn, 1) := by decide +kernel
theorem dX0_stepsInADay_56 : decode cX0_stepsInADay 56 = .ok (.iload_n 3, 1) := by decide +kernel
theorem dX0_stepsInADay_57 : decode cX0_stepsInADay 57 = .ok (.ireturn, 1) := by decide +kernel
theorem dX0_stepsInADay_58 : decode cX0_stepsInADay 58 = .ok (.iload_n 3, 1) := by decide +kernel
theorem dX0_stepsInADay_59 : decode cX0_stepsInADay 59 = .ok (.ireturn, 1) := by decide +kernel
theorem dX0_stepsInADay_60 : decode cX0_stepsInADay 60 = .ok (.iconst 5, 1) := by decide +kernel
theorem dX0_stepsInADay_61 : decode cX0_stepsInADay 61 = .ok (.ireturn, 1) := by decide +kernel
theorem dX0_stepsInADay_62 : decode cX0_stepsInADay 62 = .ok (.iload_n 2, 1) := by decide +kernel
theorem dX0_stepsInADay_63 : decode cX0_stepsInADay 63 = .ok (.aload_n 0, 1) := by decide +kernel
theorem dX0_stepsInADay_64 : decode cX0_stepsInADay 64 = .ok (.bipush 10, 2) := by decide +kernel
theorem dX0_stepsInADay_66 : decode cX0_stepsInADay 66 = .ok (.invokevirtual 50, 3) := by decide +kernel
theorem dX0_stepsInADay_69 : decode cX0_stepsInADay 69 = .ok (.ifCond .eq 7, 3) := by decide +kernel
theorem dX0_stepsInADay_72 : decode cX0_stepsInADay 72 = .ok (.iconst 1, 1) := by decide +kernel
theorem dX0_stepsInADay_73 : decode cX0_stepsInADay 73 = .ok (.goto 4, 3) := by decide +kernel
theorem dX0_stepsInADay_76 : decode cX0_stepsInADay 76 = .ok (.iconst 0, 1) := by decide +kernel
theorem dX0_stepsInADay_77 : decode cX0_stepsInADay 77 = .ok (.iadd, 1) := by decide +kernel
theorem dX0_stepsInADay_78 : decode cX0_stepsInADay 78 = .ok (.ireturn, 1) := by decide +kernel
theorem dX0_stepsInADay_79 : decode cX0_stepsInADay 79 = .ok (.iload_n 1, 1) := by decide +kernel
theorem dX0_stepsInADay_80 : decode cX0_stepsInADay 80 = .ok (.ireturn, 1) := by decide +kernel
theorem dX0_says_0 : decode cX0_says 0 = .ok (.bipush 10, 2) := by decide +kernel
theorem dX0_says_2 : decode cX0_says 2 = .ok (.aload_n 0, 1) := by decide +kernel
theorem dX0_says_3 : decode cX0_says 3 = .ok (.getfield 18, 3) := by decide +kernel
theorem dX0_says_6 : decode cX0_says 6 = .ok (.invokestatic 54, 3) := by decide +kernel
theorem dX0_says_9 : decode cX0_says 9 = .ok (.imul, 1) := by decide +kernel
theorem dX0_says_10 : decode cX0_says 10 = .ok (.istore_n 1, 1) := by decide +kernel
theorem dX0_says_11 : decode cX0_says 11 = .ok (.iload_n 1, 1) := by decide +kernel
theorem dX0_says_12 : decode cX0_says 12 = .ok (.aload_n 0, 1) := by decide +kernel
theorem dX0_says_13 : decode cX0_says 13 = .ok (.invokevirtual 66, 3) := by decide +kernel
theorem dX0_says_16 : decode cX0_says 16 = .ok (.iadd, 1) := by decide +kernel
theorem dX0_says_17 : decode cX0_says 17 = .ok (.istore_n 2, 1) := by decide +kernel
theorem dX0_says_18 : decode cX0_says 18 = .ok (.iconst 0, 1) := by decide +kernel
theorem dX0_says_19 : decode cX0_says 19 = .ok (.iload_n 1, 1) := by decide +kernel
theorem dX0_says_20 : decode cX0_says 20 = .ok (.aload_n 0, 1) := by decide +kernel
theorem dX0_says_21 : decode cX0_says 21 = .ok (.getfield 24, 3) := by decide +kernel
theorem dX0_says_24 : decode cX0_says 24 = .ok (.isub, 1) := by decide +kernel
theorem dX0_says_25 : decode cX0_says 25 = .ok (.invokestatic 60, 3) := by decide +kernel
theorem dX0_says_28 : decode cX0_says 28 = .ok (.istore_n 3, 1) := by decide +kernel
theorem dX0_says_29 : decode cX0_says 29 = .ok (.iload_n 3, 1) := by decide +kernel
theorem dX0_says_30 : decode cX0_says 30 = .ok (.bipush 7, 2) := by decide +kernel
theorem dX0_says_32 : decode cX0_says 32 = .ok (.aload_n 0, 1) := by decide +kernel
theorem dX0_says_33 : decode cX0_says 33 = .ok (.getfield 18, 3) := by decide +kernel
theorem dX0_says_36 : decode cX0_says 36 = .ok (.bipush 24, 2) := by decide +kernel
theorem dX0_says_38 : decode cX0_says 38 = .ok (.iand, 1) := by decide +kernel
theorem dX0_says_39 : decode cX0_says 39 = .ok (.invokestatic 54, 3) := by decide +kernel
theorem dX0_says_42 : decode cX0_says 42 = .ok (.imul, 1) := by decide +kernel
theorem dX0_says_43 : decode cX0_says 43 = .ok (.iadd, 1) := by decide +kernel
theorem dX0_says_44 : decode cX0_says 44 = .ok (.istore 4, 2) := by decide +kernel
theorem dX0_says_46 : decode cX0_says 46 = .ok (.aload_n 0, 1) := by decide +kernel
theorem dX0_says_47 : decode cX0_says 47 = .ok (.getfield 9, 3) := by decide +kernel
theorem dX0_says_50 : decode cX0_says 50 = .ok (.tableswitch 74 1 6 #[38, 40, 42, 45, 56, 70], 38) := by decide +kernel
theorem dX0_says_88 : decode cX0_says 88 = .ok (.iload_n 2, 1) := by decide +kernel
theorem dX0_says_89 : decode cX0_says 89 = .ok (.ireturn, 1) := by decide +kernel
theorem dX0_says_90 : decode cX0_says 90 = .ok (.iload_n 3, 1) := by decide +kernel
theorem dX0_says_91 : decode cX0_says 91 = .ok (.ireturn, 1) := by decide +kernel
theorem dX0_says_92 : decode cX0_says 92 = .ok (.iload 4, 2) := by decide +kernel
theorem dX0_says_94 : decode cX0_says 94 = .ok (.ireturn, 1) := by decide +kernel
theorem dX0_says_95 : decode cX0_says 95 = .ok (.iload 4, 2) := by decide +kernel
theorem dX0_says_97 : decode cX0_says 97 = .ok (.aload_n 0, 1) := by decide +kernel
theorem dX0_says_98 : decode cX0_says 98 = .ok (.getfield 15, 3) := by decide +kernel
theorem dX0_says_101 : decode cX0_says 101 = .ok (.bipush 10, 2) := by decide +kernel
theorem dX0_says_103 : decode cX0_says 103 = .ok (.irem, 1) := by decide +kernel
theorem dX0_says_104 : decode cX0_says 104 = .ok (.iadd, 1) := by decide +kernel
theorem dX0_says_105 : decode cX0_says 105 = .ok (.ireturn, 1) := by decide +kernel
theorem dX0_says_106 : decode cX0_says 106 = .ok (.aload_n 0, 1) := by decide +kernel
theorem dX0_says_107 : decode cX0_says 107 = .ok (.iconst 0, 1) := by decide +kernel
theorem dX0_says_108 : decode cX0_says 108 = .ok (.invokevirtual 50, 3) := by decide +kernel
theorem dX0_says_111 : decode cX0_says 111 = .ok (.ifCond .eq 7, 3) := by decide +kernel
theorem dX0_says_114 : decode cX0_says 114 = .ok (.iload_n 1, 1) := by decide +kernel
theorem dX0_says_115 : decode cX0_says 115 = .ok (.goto 4, 3) := by decide +kernel
theorem dX0_says_118 : decode cX0_says 118 = .ok (.iconst 0, 1) := by decide +kernel
theorem dX0_says_119 : decode cX0_says 119 = .ok (.ireturn, 1) := by decide +kernel
theorem dX0_says_120 : decode cX0_says 120 = .ok (.iconst 3, 1) := by decide +kernel
theorem dX0_says_121 : decode cX0_says 121 = .ok (.iload_n 2, 1) := by decide +kernel
theorem dX0_says_122 : decode cX0_says 122 = .ok (.imul, 1) := by decide +kernel
theorem dX0_says_123 : decode cX0_says 123 = .ok (.ireturn, 1) := by decide +kernel
theorem dX0_says_124 : decode cX0_says 124 = .ok (.iload_n 1, 1) := by decide +kernel
theorem dX0_says_125 : decode cX0_says 125 = .ok (.ireturn, 1) := by decide +kernel
theorem dX0_wouldWalk_0 : decode cX0_wouldWalk 0 = .ok (.aload_n 0, 1) := by decide +kernel
theorem dX0_wouldWalk_1 : decode cX0_wouldWalk 1 = .ok (.getfield 24, 3) := by decide +kernel
theorem dX0_wouldWalk_4 : decode cX0_wouldWalk 4 = .ok (.aload_n 0, 1) := by decide +kernel
theorem dX0_wouldWalk_5 : decode cX0_wouldWalk 5 = .ok (.invokevirtual 37, 3) := by decide +kernel
theorem dX0_wouldWalk_8 : decode cX0_wouldWalk 8 = .ok (.if_icmp .lt 30, 3) := by decide +kernel
theorem dX0_wouldWalk_11 : decode cX0_wouldWalk 11 = .ok (.aload_n 0, 1) := by decide +kernel
theorem dX0_wouldWalk_12 : decode cX0_wouldWalk 12 = .ok (.bipush 11, 2) := by decide +kernel
theorem dX0_wouldWalk_14 : decode cX0_wouldWalk 14 = .ok (.invokevirtual 50, 3) := by decide +kernel
theorem dX0_wouldWalk_17 : decode cX0_wouldWalk 17 = .ok (.ifCond .eq 21, 3) := by decide +kernel
theorem dX0_wouldWalk_20 : decode cX0_wouldWalk 20 = .ok (.aload_n 0, 1) := by decide +kernel
theorem dX0_wouldWalk_21 : decode cX0_wouldWalk 21 = .ok (.getfield 27, 3) := by decide +kernel
theorem dX0_wouldWalk_24 : decode cX0_wouldWalk 24 = .ok (.ifCond .ne 14, 3) := by decide +kernel
theorem dX0_wouldWalk_27 : decode cX0_wouldWalk 27 = .ok (.aload_n 0, 1) := by decide +kernel
theorem dX0_wouldWalk_28 : decode cX0_wouldWalk 28 = .ok (.getfield 30, 3) := by decide +kernel
theorem dX0_wouldWalk_31 : decode cX0_wouldWalk 31 = .ok (.ifCond .ne 7, 3) := by decide +kernel
theorem dX0_wouldWalk_34 : decode cX0_wouldWalk 34 = .ok (.iconst 1, 1) := by decide +kernel
theorem dX0_wouldWalk_35 : decode cX0_wouldWalk 35 = .ok (.goto 4, 3) := by decide +kernel
theorem dX0_wouldWalk_38 : decode cX0_wouldWalk 38 = .ok (.iconst 0, 1) := by decide +kernel
theorem dX0_wouldWalk_39 : decode cX0_wouldWalk 39 = .ok (.ireturn, 1) := by decide +kernel
theorem dX0_yearn_0 : decode cX0_yearn 0 = .ok (.aload_n 0, 1) := by decide +kernel
theorem dX0_yearn_1 : decode cX0_yearn 1 = .ok (.bipush 99, 2) := by decide +kernel
theorem dX0_yearn_3 : decode cX0_yearn 3 = .ok (.aload_n 0, 1) := by decide +kernel
theorem dX0_yearn_4 : decode cX0_yearn 4 = .ok (.getfield 24, 3) := by decide +kernel
theorem dX0_yearn_7 : decode cX0_yearn 7 = .ok (.iload_n 1, 1) := by decide +kernel
theorem dX0_yearn_8 : decode cX0_yearn 8 = .ok (.iadd, 1) := by decide +kernel
theorem dX0_yearn_9 : decode cX0_yearn 9 = .ok (.invokestatic 69, 3) := by decide +kernel
theorem dX0_yearn_12 : decode cX0_yearn 12 = .ok (.putfield 24, 3) := by decide +kernel
theorem dX0_yearn_15 : decode cX0_yearn 15 = .ok (.return_, 1) := by decide +kernel
theorem dX0_pathUpTo_0 : decode cX0_pathUpTo 0 = .ok (.iconst 0, 1) := by decide +kernel
theorem dX0_pathUpTo_1 : decode cX0_pathUpTo 1 = .ok (.istore_n 2, 1) := by decide +kernel
theorem dX0_pathUpTo_2 : decode cX0_pathUpTo 2 = .ok (.iload_n 1, 1) := by decide +kernel
theorem dX0_pathUpTo_3 : decode cX0_pathUpTo 3 = .ok (.istore_n 3, 1) := by decide +kernel
theorem dX0_pathUpTo_4 : decode cX0_pathUpTo 4 = .ok (.iload_n 3, 1) := by decide +kernel
theorem dX0_pathUpTo_5 : decode cX0_pathUpTo 5 = .ok (.ifCond .lt 39, 3) := by decide +kernel
theorem dX0_pathUpTo_8 : decode cX0_pathUpTo 8 = .ok (.iload_n 2, 1) := by decide +kernel
theorem dX0_pathUpTo_9 : decode cX0_pathUpTo 9 = .ok (.iconst 1, 1) := by decide +kernel
theorem dX0_pathUpTo_10 : decode cX0_pathUpTo 10 = .ok (.iload_n 3, 1) := by decide +kernel
theorem dX0_pathUpTo_11 : decode cX0_pathUpTo 11 = .ok (.ishl, 1) := by decide +kernel
theorem dX0_pathUpTo_12 : decode cX0_pathUpTo 12 = .ok (.ior, 1) := by decide +kernel
theorem dX0_pathUpTo_13 : decode cX0_pathUpTo 13 = .ok (.istore_n 2, 1) := by decide +kernel
theorem dX0_pathUpTo_14 : decode cX0_pathUpTo 14 = .ok (.aload_n 0, 1) := by decide +kernel
theorem dX0_pathUpTo_15 : decode cX0_pathUpTo 15 = .ok (.iload_n 3, 1) := by decide +kernel
theorem dX0_pathUpTo_16 : decode cX0_pathUpTo 16 = .ok (.invokevirtual 72, 3) := by decide +kernel
theorem dX0_pathUpTo_19 : decode cX0_pathUpTo 19 = .ok (.ifCond .eq 5, 3) := by decide +kernel
theorem dX0_pathUpTo_22 : decode cX0_pathUpTo 22 = .ok (.iload_n 2, 1) := by decide +kernel
theorem dX0_pathUpTo_23 : decode cX0_pathUpTo 23 = .ok (.ireturn, 1) := by decide +kernel
theorem dX0_pathUpTo_24 : decode cX0_pathUpTo 24 = .ok (.iload_n 3, 1) := by decide +kernel
theorem dX0_pathUpTo_25 : decode cX0_pathUpTo 25 = .ok (.ifCond .eq 11, 3) := by decide +kernel
theorem dX0_pathUpTo_28 : decode cX0_pathUpTo 28 = .ok (.aload_n 0, 1) := by decide +kernel
theorem dX0_pathUpTo_29 : decode cX0_pathUpTo 29 = .ok (.iload_n 3, 1) := by decide +kernel
theorem dX0_pathUpTo_30 : decode cX0_pathUpTo 30 = .ok (.invokevirtual 75, 3) := by decide +kernel
theorem dX0_pathUpTo_33 : decode cX0_pathUpTo 33 = .ok (.ifCond .ne 5, 3) := by decide +kernel
theorem dX0_pathUpTo_36 : decode cX0_pathUpTo 36 = .ok (.iconst 0, 1) := by decide +kernel
theorem dX0_pathUpTo_37 : decode cX0_pathUpTo 37 = .ok (.ireturn, 1) := by decide +kernel
theorem dX0_pathUpTo_38 : decode cX0_pathUpTo 38 = .ok (.iinc 3 (-1), 3) := by decide +kernel
theorem dX0_pathUpTo_41 : decode cX0_pathUpTo 41 = .ok (.goto (-37), 3) := by decide +kernel
theorem dX0_pathUpTo_44 : decode cX0_pathUpTo 44 = .ok (.iconst 0, 1) := by decide +kernel
theorem dX0_pathUpTo_45 : decode cX0_pathUpTo 45 = .ok (.ireturn, 1) := by decide +kernel
theorem dX0_takesBehind_0 : decode cX0_takesBehind 0 = .ok (.aload_n 0, 1) := by decide +kernel
theorem dX0_takesBehind_1 : decode cX0_takesBehind 1 = .ok (.getfield 18, 3) := by decide +kernel
theorem dX0_takesBehind_4 : decode cX0_takesBehind 4 = .ok (.istore_n 2, 1) := by decide +kernel
theorem dX0_takesBehind_5 : decode cX0_takesBehind 5 = .ok (.aload_n 0, 1) := by decide +kernel
theorem dX0_takesBehind_6 : decode cX0_takesBehind 6 = .ok (.iload_n 1, 1) := by decide +kernel
theorem dX0_takesBehind_7 : decode cX0_takesBehind 7 = .ok (.iconst 1, 1) := by decide +kernel
theorem dX0_takesBehind_8 : decode cX0_takesBehind 8 = .ok (.isub, 1) := by decide +kernel
theorem dX0_takesBehind_9 : decode cX0_takesBehind 9 = .ok (.invokevirtual 78, 3) := by decide +kernel
theorem dX0_takesBehind_12 : decode cX0_takesBehind 12 = .ok (.aload_n 0, 1) := by decide +kernel
theorem dX0_takesBehind_13 : decode cX0_takesBehind 13 = .ok (.iload_n 1, 1) := by decide +kernel
theorem dX0_takesBehind_14 : decode cX0_takesBehind 14 = .ok (.invokevirtual 72, 3) := by decide +kernel
theorem dX0_takesBehind_17 : decode cX0_takesBehind 17 = .ok (.istore_n 3, 1) := by decide +kernel
theorem dX0_takesBehind_18 : decode cX0_takesBehind 18 = .ok (.aload_n 0, 1) := by decide +kernel
theorem dX0_takesBehind_19 : decode cX0_takesBehind 19 = .ok (.iload_n 2, 1) := by decide +kernel
theorem dX0_takesBehind_20 : decode cX0_takesBehind 20 = .ok (.putfield 18, 3) := by decide +kernel
theorem dX0_takesBehind_23 : decode cX0_takesBehind 23 = .ok (.iload_n 3, 1) := by decide +kernel
theorem dX0_takesBehind_24 : decode cX0_takesBehind 24 = .ok (.ireturn, 1) := by decide +kernel
theorem dX1_init_0 : decode cX1_init 0 = .ok (.aload_n 0, 1) := by decide +kernel
theorem dX1_init_1 : decode cX1_init 1 = .ok (.invokespecial 3, 3) := by decide +kernel
theorem dX1_init_4 : decode cX1_init 4 = .ok (.aload_n 0, 1) := by decide +kernel
theorem dX1_init_5 : decode cX1_init 5 = .ok (.iconst 0, 1) := by decide +kernel
theorem dX1_init_6 : decode cX1_init 6 = .ok (.putfield 9, 3) := by decide +kernel
theorem dX1_init_9 : decode cX1_init 9 = .ok (.aload_n 0, 1) := by decide +kernel
theorem dX1_init_10 : decode cX1_init 10 = .ok (.iconst 0, 1) := by decide +kernel
theorem dX1_init_11 : decode cX1_init 11 = .ok (.putfield 15, 3) := by decide +kernel
theorem dX1_init_14 : decode cX1_init 14 = .ok (.aload_n 0, 1) := by decide +kernel
theorem dX1_init_15 : decode cX1_init 15 = .ok (.iconst 1, 1) := by decide +kernel
theorem dX1_init_16 : decode cX1_init 16 = .ok (.putfield 18, 3) := by decide +kernel
theorem dX1_init_19 : decode cX1_init 19 = .ok (.aload_n 0, 1) := by decide +kernel
theorem dX1_init_20 : decode cX1_init 20 = .ok (.iconst 0, 1) := by decide +kernel
theorem dX1_init_21 : decode cX1_init 21 = .ok (.putfield 21, 3) := by decide +kernel
theorem dX1_init_24 : decode cX1_init 24 = .ok (.aload_n 0, 1) := by decide +kernel
theorem dX1_init_25 : decode cX1_init 25 = .ok (.bipush 6, 2) := by decide +kernel
theorem dX1_init_27 : decode cX1_init 27 = .ok (.newarray .int, 2) := by decide +kernel
theorem dX1_init_29 : decode cX1_init 29 = .ok (.putfield 24, 3) := by decide +kernel
theorem dX1_init_32 : decode cX1_init 32 = .ok (.aload_n 0, 1) := by decide +kernel
theorem dX1_init_33 : decode cX1_init 33 = .ok (.bipush 12, 2) := by decide +kernel
theorem dX1_init_35 : decode cX1_init 35 = .ok (.newarray .int, 2) := by decide +kernel
theorem dX1_init_37 : decode cX1_init 37 = .ok (.putfield 28, 3) := by decide +kernel
theorem dX1_init_40 : decode cX1_init 40 = .ok (.aload_n 0, 1) := by decide +kernel
theorem dX1_init_41 : decode cX1_init 41 = .ok (.bipush 10, 2) := by decide +kernel
theorem dX1_init_43 : decode cX1_init 43 = .ok (.newarray .int, 2) := by decide +kernel
theorem dX1_init_45 : decode cX1_init 45 = .ok (.putfield 31, 3) := by decide +kernel
theorem dX1_init_48 : decode cX1_init 48 = .ok (.aload_n 0, 1) := by decide +kernel
theorem dX1_init_49 : decode cX1_init 49 = .ok (.bipush 8, 2) := by decide +kernel
theorem dX1_init_51 : decode cX1_init 51 = .ok (.anewarray 34, 3) := by decide +kernel
theorem dX1_init_54 : decode cX1_init 54 = .ok (.putfield 36, 3) := by decide +kernel
theorem dX1_init_57 : decode cX1_init 57 = .ok (.iconst 0, 1) := by decide +kernel
theorem dX1_init_58 : decode cX1_init 58 = .ok (.istore_n 1, 1) := by decide +kernel
theorem dX1_init_59 : decode cX1_init 59 = .ok (.iload_n 1, 1) := by decide +kernel
theorem dX1_init_60 : decode cX1_init 60 = .ok (.bipush 6, 2) := by decide +kernel
theorem dX1_init_62 : decode cX1_init 62 = .ok (.if_icmp .ge 17, 3) := by decide +kernel
theorem dX1_init_65 : decode cX1_init 65 = .ok (.aload_n 0, 1) := by decide +kernel
theorem dX1_init_66 : decode cX1_init 66 = .ok (.getfield 24, 3) := by decide +kernel
theorem dX1_init_69 : decode cX1_init 69 = .ok (.iload_n 1, 1) := by decide +kernel
theorem dX1_init_70 : decode cX1_init 70 = .ok (.bipush 12, 2) := by decide +kernel
theorem dX1_init_72 : decode cX1_init 72 = .ok (.iastore, 1) := by decide +kernel
theorem dX1_init_73 : decode cX1_init 73 = .ok (.iinc 1 1, 3) := by decide +kernel
theorem dX1_init_76 : decode cX1_init 76 = .ok (.goto (-17), 3) := by decide +kernel
theorem dX1_init_79 : decode cX1_init 79 = .ok (.iconst 0, 1) := by decide +kernel
theorem dX1_init_80 : decode cX1_init 80 = .ok (.istore_n 1, 1) := by decide +kernel
theorem dX1_init_81 : decode cX1_init 81 = .ok (.iload_n 1, 1) := by decide +kernel
theorem dX1_init_82 : decode cX1_init 82 = .ok (.bipush 10, 2) := by decide +kernel
theorem dX1_init_84 : decode cX1_init 84 = .ok (.if_icmp .ge 16, 3) := by decide +kernel
theorem dX1_init_87 : decode cX1_init 87 = .ok (.aload_n 0, 1) := by decide +kernel
theorem dX1_init_88 : decode cX1_init 88 = .ok (.getfield 31, 3) := by decide +kernel
theorem dX1_init_91 : decode cX1_init 91 = .ok (.iload_n 1, 1) := by decide +kernel
theorem dX1_init_92 : decode cX1_init 92 = .ok (.iconst (-1), 1) := by decide +kernel
theorem dX1_init_93 : decode cX1_init 93 = .ok (.iastore, 1) := by decide +kernel
theorem dX1_init_94 : decode cX1_init 94 = .ok (.iinc 1 1, 3) := by decide +kernel
theorem dX1_init_97 : decode cX1_init 97 = .ok (.goto (-16), 3) := by decide +kernel
theorem dX1_init_100 : decode cX1_init 100 = .ok (.iconst 0, 1) := by decide +kernel
theorem dX1_init_101 : decode cX1_init 101 = .ok (.istore_n 1, 1) := by decide +kernel
theorem dX1_init_102 : decode cX1_init 102 = .ok (.iload_n 1, 1) := by decide +kernel
theorem dX1_init_103 : decode cX1_init 103 = .ok (.bipush 8, 2) := by decide +kernel
theorem dX1_init_105 : decode cX1_init 105 = .ok (.if_icmp .ge 22, 3) := by decide +kernel
theorem dX1_init_108 : decode cX1_init 108 = .ok (.aload_n 0, 1) := by decide +kernel
theorem dX1_init_109 : decode cX1_init 109 = .ok (.getfield 36, 3) := by decide +kernel
theorem dX1_init_112 : decode cX1_init 112 = .ok (.iload_n 1, 1) := by decide +kernel
theorem dX1_init_113 : decode cX1_init 113 = .ok (.new 34, 3) := by decide +kernel
theorem dX1_init_116 : decode cX1_init 116 = .ok (.dup, 1) := by decide +kernel
theorem dX1_init_117 : decode cX1_init 117 = .ok (.invokespecial 40, 3) := by decide +kernel
theorem dX1_init_120 : decode cX1_init 120 = .ok (.aastore, 1) := by decide +kernel
theorem dX1_init_121 : decode cX1_init 121 = .ok (.iinc 1 1, 3) := by decide +kernel
theorem dX1_init_124 : decode cX1_init 124 = .ok (.goto (-22), 3) := by decide +kernel
theorem dX1_init_127 : decode cX1_init 127 = .ok (.return_, 1) := by decide +kernel
theorem dX1_copyFrom_0 : decode cX1_copyFrom 0 = .ok (.aload_n 0, 1) := by decide +kernel
theorem dX1_copyFrom_1 : decode cX1_copyFrom 1 = .ok (.aload_n 1, 1) := by decide +kernel
theorem dX1_copyFrom_2 : decode cX1_copyFrom 2 = .ok (.getfield 9, 3) := by decide +kernel
theorem dX1_copyFrom_5 : decode cX1_copyFrom 5 = .ok (.putfield 9, 3) := by decide +kernel
theorem dX1_copyFrom_8 : decode cX1_copyFrom 8 = .ok (.aload_n 0, 1) := by decide +kernel
theorem dX1_copyFrom_9 : decode cX1_copyFrom 9 = .ok (.aload_n 1, 1) := by decide +kernel
theorem dX1_copyFrom_10 : decode cX1_copyFrom 10 = .ok (.getfield 15, 3) := by decide +kernel
theorem dX1_copyFrom_13 : decode cX1_copyFrom 13 = .ok (.putfield 15, 3) := by decide +kernel
theorem dX1_copyFrom_16 : decode cX1_copyFrom 16 = .ok (.aload_n 0, 1) := by decide +kernel
theorem dX1_copyFrom_17 : decode cX1_copyFrom 17 = .ok (.aload_n 1, 1) := by decide +kernel
theorem dX1_copyFrom_18 : decode cX1_copyFrom 18 = .ok (.getfield 18, 3) := by decide +kernel
theorem dX1_copyFrom_21 : decode cX1_copyFrom 21 = .ok (.putfield 18, 3) := by decide +kernel
theorem dX1_copyFrom_24 : decode cX1_copyFrom 24 = .ok (.aload_n 0, 1) := by decide +kernel
theorem dX1_copyFrom_25 : decode cX1_copyFrom 25 = .ok (.aload_n 1, 1) := by decide +kernel
theorem dX1_copyFrom_26 : decode cX1_copyFrom 26 = .ok (.getfield 21, 3) := by decide +kernel
theorem dX1_copyFrom_29 : decode cX1_copyFrom 29 = .ok (.putfield 21, 3) := by decide +kernel
theorem dX1_copyFrom_32 : decode cX1_copyFrom 32 = .ok (.aload_n 1, 1) := by decide +kernel
theorem dX1_copyFrom_33 : decode cX1_copyFrom 33 = .ok (.getfield 24, 3) := by decide +kernel
theorem dX1_copyFrom_36 : decode cX1_copyFrom 36 = .ok (.iconst 0, 1) := by decide +kernel
theorem dX1_copyFrom_37 : decode cX1_copyFrom 37 = .ok (.aload_n 0, 1) := by decide +kernel
theorem dX1_copyFrom_38 : decode cX1_copyFrom 38 = .ok (.getfield 24, 3) := by decide +kernel
theorem dX1_copyFrom_41 : decode cX1_copyFrom 41 = .ok (.iconst 0, 1) := by decide +kernel
theorem dX1_copyFrom_42 : decode cX1_copyFrom 42 = .ok (.bipush 6, 2) := by decide +kernel
theorem dX1_copyFrom_44 : decode cX1_copyFrom 44 = .ok (.invokestatic 41, 3) := by decide +kernel
theorem dX1_copyFrom_47 : decode cX1_copyFrom 47 = .ok (.aload_n 1, 1) := by decide +kernel
theorem dX1_copyFrom_48 : decode cX1_copyFrom 48 = .ok (.getfield 28, 3) := by decide +kernel
theorem dX1_copyFrom_51 : decode cX1_copyFrom 51 = .ok (.iconst 0, 1) := by decide +kernel
theorem dX1_copyFrom_52 : decode cX1_copyFrom 52 = .ok (.aload_n 0, 1) := by decide +kernel
theorem dX1_copyFrom_53 : decode cX1_copyFrom 53 = .ok (.getfield 28, 3) := by decide +kernel
theorem dX1_copyFrom_56 : decode cX1_copyFrom 56 = .ok (.iconst 0, 1) := by decide +kernel
theorem dX1_copyFrom_57 : decode cX1_copyFrom 57 = .ok (.bipush 12, 2) := by decide +kernel
theorem dX1_copyFrom_59 : decode cX1_copyFrom 59 = .ok (.invokestatic 41, 3) := by decide +kernel
theorem dX1_copyFrom_62 : decode cX1_copyFrom 62 = .ok (.aload_n 1, 1) := by decide +kernel
theorem dX1_copyFrom_63 : decode cX1_copyFrom 63 = .ok (.getfield 31, 3) := by decide +kernel
theorem dX1_copyFrom_66 : decode cX1_copyFrom 66 = .ok (.iconst 0, 1) := by decide +kernel
theorem dX1_copyFrom_67 : decode cX1_copyFrom 67 = .ok (.aload_n 0, 1) := by decide +kernel
theorem dX1_copyFrom_68 : decode cX1_copyFrom 68 = .ok (.getfield 31, 3) := by decide +kernel
theorem dX1_copyFrom_71 : decode cX1_copyFrom 71 = .ok (.iconst 0, 1) := by decide +kernel
theorem dX1_copyFrom_72 : decode cX1_copyFrom 72 = .ok (.bipush 10, 2) := by decide +kernel
theorem dX1_copyFrom_74 : decode cX1_copyFrom 74 = .ok (.invokestatic 41, 3) := by decide +kernel
theorem dX1_copyFrom_77 : decode cX1_copyFrom 77 = .ok (.iconst 0, 1) := by decide +kernel
theorem dX1_copyFrom_78 : decode cX1_copyFrom 78 = .ok (.istore_n 2, 1) := by decide +kernel
theorem dX1_copyFrom_79 : decode cX1_copyFrom 79 = .ok (.iload_n 2, 1) := by decide +kernel
theorem dX1_copyFrom_80 : decode cX1_copyFrom 80 = .ok (.aload_n 0, 1) := by decide +kernel
theorem dX1_copyFrom_81 : decode cX1_copyFrom 81 = .ok (.getfield 21, 3) := by decide +kernel
theorem dX1_copyFrom_84 : decode cX1_copyFrom 84 = .ok (.if_icmp .ge 24, 3) := by decide +kernel
theorem dX1_copyFrom_87 : decode cX1_copyFrom 87 = .ok (.aload_n 0, 1) := by decide +kernel
theorem dX1_copyFrom_88 : decode cX1_copyFrom 88 = .ok (.getfield 36, 3) := by decide +kernel
theorem dX1_copyFrom_91 : decode cX1_copyFrom 91 = .ok (.iload_n 2, 1) := by decide +kernel
theorem dX1_copyFrom_92 : decode cX1_copyFrom 92 = .ok (.aaload, 1) := by decide +kernel
theorem dX1_copyFrom_93 : decode cX1_copyFrom 93 = .ok (.aload_n 1, 1) := by decide +kernel
theorem dX1_copyFrom_94 : decode cX1_copyFrom 94 = .ok (.getfield 36, 3) := by decide +kernel
theorem dX1_copyFrom_97 : decode cX1_copyFrom 97 = .ok (.iload_n 2, 1) := by decide +kernel
theorem dX1_copyFrom_98 : decode cX1_copyFrom 98 = .ok (.aaload, 1) := by decide +kernel
theorem dX1_copyFrom_99 : decode cX1_copyFrom 99 = .ok (.invokevirtual 47, 3) := by decide +kernel
theorem dX1_copyFrom_102 : decode cX1_copyFrom 102 = .ok (.iinc 2 1, 3) := by decide +kernel
theorem dX1_copyFrom_105 : decode cX1_copyFrom 105 = .ok (.goto (-26), 3) := by decide +kernel
theorem dX1_copyFrom_108 : decode cX1_copyFrom 108 = .ok (.return_, 1) := by decide +kernel
theorem dX1_isFull_0 : decode cX1_isFull 0 = .ok (.aload_n 0, 1) := by decide +kernel
theorem dX1_isFull_1 : decode cX1_isFull 1 = .ok (.getfield 21, 3) := by decide +kernel
theorem dX1_isFull_4 : decode cX1_isFull 4 = .ok (.bipush 8, 2) := by decide +kernel
theorem dX1_isFull_6 : decode cX1_isFull 6 = .ok (.if_icmp .lt 7, 3) := by decide +kernel
theorem dX1_isFull_9 : decode cX1_isFull 9 = .ok (.iconst 1, 1) := by decide +kernel
theorem dX1_isFull_10 : decode cX1_isFull 10 = .ok (.goto 4, 3) := by decide +kernel
theorem dX1_isFull_13 : decode cX1_isFull 13 = .ok (.iconst 0, 1) := by decide +kernel
theorem dX1_isFull_14 : decode cX1_isFull 14 = .ok (.ireturn, 1) := by decide +kernel
theorem dX1_addBust_0 : decode cX1_addBust 0 = .ok (.aload_n 0, 1) := by decide +kernel
theorem dX1_addBust_1 : decode cX1_addBust 1 = .ok (.invokevirtual 51, 3) := by decide +kernel
theorem dX1_addBust_4 : decode cX1_addBust 4 = .ok (.ifCond .eq 5, 3) := by decide +kernel
theorem dX1_addBust_7 : decode cX1_addBust 7 = .ok (.iconst (-1), 1) := by decide +kernel
theorem dX1_addBust_8 : decode cX1_addBust 8 = .ok (.ireturn, 1) := by decide +kernel
theorem dX1_addBust_9 : decode cX1_addBust 9 = .ok (.aload_n 0, 1) := by decide +kernel
theorem dX1_addBust_10 : decode cX1_addBust 10 = .ok (.getfield 36, 3) := by decide +kernel
theorem dX1_addBust_13 : decode cX1_addBust 13 = .ok (.aload_n 0, 1) := by decide +kernel
theorem dX1_addBust_14 : decode cX1_addBust 14 = .ok (.getfield 21, 3) := by decide +kernel
theorem dX1_addBust_17 : decode cX1_addBust 17 = .ok (.aaload, 1) := by decide +kernel
theorem dX1_addBust_18 : decode cX1_addBust 18 = .ok (.iload_n 1, 1) := by decide +kernel
theorem dX1_addBust_19 : decode cX1_addBust 19 = .ok (.iload_n 2, 1) := by decide +kernel
theorem dX1_addBust_20 : decode cX1_addBust 20 = .ok (.invokevirtual 55, 3) := by decide +kernel
theorem dX1_addBust_23 : decode cX1_addBust 23 = .ok (.aload_n 0, 1) := by decide +kernel
theorem dX1_addBust_24 : decode cX1_addBust 24 = .ok (.dup, 1) := by decide +kernel
theorem dX1_addBust_25 : decode cX1_addBust 25 = .ok (.getfield 21, 3) := by decide +kernel
theorem dX1_addBust_28 : decode cX1_addBust 28 = .ok (.iconst 1, 1) := by decide +kernel
theorem dX1_addBust_29 : decode cX1_addBust 29 = .ok (.iadd, 1) := by decide +kernel
theorem dX1_addBust_30 : decode cX1_addBust 30 = .ok (.putfield 21, 3) := by decide +kernel
theorem dX1_addBust_33 : decode cX1_addBust 33 = .ok (.aload_n 0, 1) := by decide +kernel
theorem dX1_addBust_34 : decode cX1_addBust 34 = .ok (.getfield 21, 3) := by decide +kernel
theorem dX1_addBust_37 : decode cX1_addBust 37 = .ok (.iconst 1, 1) := by decide +kernel
theorem dX1_addBust_38 : decode cX1_addBust 38 = .ok (.isub, 1) := by decide +kernel
theorem dX1_addBust_39 : decode cX1_addBust 39 = .ok (.ireturn, 1) := by decide +kernel
theorem dX1_heirOf_0 : decode cX1_heirOf 0 = .ok (.iconst (-1), 1) := by decide +kernel
theorem dX1_heirOf_1 : decode cX1_heirOf 1 = .ok (.istore_n 2, 1) := by decide +kernel
theorem dX1_heirOf_2 : decode cX1_heirOf 2 = .ok (.iconst 0, 1) := by decide +kernel
theorem dX1_heirOf_3 : decode cX1_heirOf 3 = .ok (.istore_n 3, 1) := by decide +kernel
theorem dX1_heirOf_4 : decode cX1_heirOf 4 = .ok (.iload_n 3, 1) := by decide +kernel
theorem dX1_heirOf_5 : decode cX1_heirOf 5 = .ok (.aload_n 0, 1) := by decide +kernel
theorem dX1_heirOf_6 : decode cX1_heirOf 6 = .ok (.getfield 21, 3) := by decide +kernel
theorem dX1_heirOf_9 : decode cX1_heirOf 9 = .ok (.if_icmp .ge 73, 3) := by decide +kernel
theorem dX1_heirOf_12 : decode cX1_heirOf 12 = .ok (.iload_n 2, 1) := by decide +kernel
theorem dX1_heirOf_13 : decode cX1_heirOf 13 = .ok (.ifCond .lt 24, 3) := by decide +kernel
theorem dX1_heirOf_16 : decode cX1_heirOf 16 = .ok (.aload_n 0, 1) := by decide +kernel
theorem dX1_heirOf_17 : decode cX1_heirOf 17 = .ok (.getfield 36, 3) := by decide +kernel
theorem dX1_heirOf_20 : decode cX1_heirOf 20 = .ok (.iload_n 3, 1) := by decide +kernel
theorem dX1_heirOf_21 : decode cX1_heirOf 21 = .ok (.aaload, 1) := by decide +kernel
theorem dX1_heirOf_22 : decode cX1_heirOf 22 = .ok (.getfield 59, 3) := by decide +kernel
theorem dX1_heirOf_25 : decode cX1_heirOf 25 = .ok (.aload_n 0, 1) := by decide +kernel
theorem dX1_heirOf_26 : decode cX1_heirOf 26 = .ok (.getfield 36, 3) := by decide +kernel
theorem dX1_heirOf_29 : decode cX1_heirOf 29 = .ok (.iload_n 2, 1) := by decide +kernel
theorem dX1_heirOf_30 : decode cX1_heirOf 30 = .ok (.aaload, 1) := by decide +kernel
theorem dX1_heirOf_31 : decode cX1_heirOf 31 = .ok (.getfield 59, 3) := by decide +kernel
theorem dX1_heirOf_34 : decode cX1_heirOf 34 = .ok (.if_icmp .ge 7, 3) := by decide +kernel
theorem dX1_heirOf_37 : decode cX1_heirOf 37 = .ok (.iconst 1, 1) := by decide +kernel
theorem dX1_heirOf_38 : decode cX1_heirOf 38 = .ok (.goto 4, 3) := by decide +kernel
theorem dX1_heirOf_41 : decode cX1_heirOf 41 = .ok (.iconst 0, 1) := by decide +kernel
theorem dX1_heirOf_42 : decode cX1_heirOf 42 = .ok (.istore 4, 2) := by decide +kernel
theorem dX1_heirOf_44 : decode cX1_heirOf 44 = .ok (.iload 4, 2) := by decide +kernel
theorem dX1_heirOf_46 : decode cX1_heirOf 46 = .ok (.ifCond .eq 30, 3) := by decide +kernel
theorem dX1_heirOf_49 : decode cX1_heirOf 49 = .ok (.aload_n 0, 1) := by decide +kernel
theorem dX1_heirOf_50 : decode cX1_heirOf 50 = .ok (.getfield 36, 3) := by decide +kernel
theorem dX1_heirOf_53 : decode cX1_heirOf 53 = .ok (.iload_n 3, 1) := by decide +kernel
theorem dX1_heirOf_54 : decode cX1_heirOf 54 = .ok (.aaload, 1) := by decide +kernel
theorem dX1_heirOf_55 : decode cX1_heirOf 55 = .ok (.getfield 62, 3) := by decide +kernel
theorem dX1_heirOf_58 : decode cX1_heirOf 58 = .ok (.ifCond .ne 18, 3) := by decide +kernel
theorem dX1_heirOf_61 : decode cX1_heirOf 61 = .ok (.aload_n 0, 1) := by decide +kernel
theorem dX1_heirOf_62 : decode cX1_heirOf 62 = .ok (.getfield 36, 3) := by decide +kernel
theorem dX1_heirOf_65 : decode cX1_heirOf 65 = .ok (.iload_n 3, 1) := by decide +kernel
theorem dX1_heirOf_66 : decode cX1_heirOf 66 = .ok (.aaload, 1) := by decide +kernel
theorem dX1_heirOf_67 : decode cX1_heirOf 67 = .ok (.iload_n 1, 1) := by decide +kernel
theorem dX1_heirOf_68 : decode cX1_heirOf 68 = .ok (.invokevirtual 65, 3) := by decide +kernel
theorem dX1_heirOf_71 : decode cX1_heirOf 71 = .ok (.ifCond .eq 5, 3) := by decide +kernel
theorem dX1_heirOf_74 : decode cX1_heirOf 74 = .ok (.iload_n 3, 1) := by decide +kernel
theorem dX1_heirOf_75 : decode cX1_heirOf 75 = .ok (.istore_n 2, 1) := by decide +kernel
theorem dX1_heirOf_76 : decode cX1_heirOf 76 = .ok (.iinc 3 1, 3) := by decide +kernel
theorem dX1_heirOf_79 : decode cX1_heirOf 79 = .ok (.goto (-75), 3) := by decide +kernel
theorem dX1_heirOf_82 : decode cX1_heirOf 82 = .ok (.iload_n 2, 1) := by decide +kernel
theorem dX1_heirOf_83 : decode cX1_heirOf 83 = .ok (.ireturn, 1) := by decide +kernel
theorem dX1_placeToday_0 : decode cX1_placeToday 0 = .ok (.aload_n 0, 1) := by decide +kernel
theorem dX1_placeToday_1 : decode cX1_placeToday 1 = .ok (.getfield 9, 3) := by decide +kernel
theorem dX1_placeToday_4 : decode cX1_placeToday 4 = .ok (.bipush 6, 2) := by decide +kernel
theorem dX1_placeToday_6 : decode cX1_placeToday 6 = .ok (.irem, 1) := by decide +kernel
theorem dX1_placeToday_7 : decode cX1_placeToday 7 = .ok (.ireturn, 1) := by decide +kernel
theorem dX1_passDays_0 : decode cX1_passDays 0 = .ok (.iconst 0, 1) := by decide +kernel
theorem dX1_passDays_1 : decode cX1_passDays 1 = .ok (.istore_n 2, 1) := by decide +kernel
theorem dX1_passDays_2 : decode cX1_passDays 2 = .ok (.iload_n 2, 1) := by decide +kernel
theorem dX1_passDays_3 : decode cX1_passDays 3 = .ok (.iload_n 1, 1) := by decide +kernel
theorem dX1_passDays_4 : decode cX1_passDays 4 = .ok (.if_icmp .ge 13, 3) := by decide +kernel
theorem dX1_passDays_7 : decode cX1_passDays 7 = .ok (.aload_n 0, 1) := by decide +kernel
theorem dX1_passDays_8 : decode cX1_passDays 8 = .ok (.invokevirtual 69, 3) := by decide +kernel
theorem dX1_passDays_11 : decode cX1_passDays 11 = .ok (.iinc 2 1, 3) := by decide +kernel
theorem dX1_passDays_14 : decode cX1_passDays 14 = .ok (.goto (-12), 3) := by decide +kernel
theorem dX1_passDays_17 : decode cX1_passDays 17 = .ok (.return_, 1) := by decide +kernel
theorem dX1_passDay_0 : decode cX1_passDay 0 = .ok (.aload_n 0, 1) := by decide +kernel
theorem dX1_passDay_1 : decode cX1_passDay 1 = .ok (.getfield 24, 3) := by decide +kernel
theorem dX1_passDay_4 : decode cX1_passDay 4 = .ok (.aload_n 0, 1) := by decide +kernel
theorem dX1_passDay_5 : decode cX1_passDay 5 = .ok (.invokevirtual 72, 3) := by decide +kernel
theorem dX1_passDay_8 : decode cX1_passDay 8 = .ok (.iaload, 1) := by decide +kernel
theorem dX1_passDay_9 : decode cX1_passDay 9 = .ok (.istore_n 1, 1) := by decide +kernel
theorem dX1_passDay_10 : decode cX1_passDay 10 = .ok (.iload_n 1, 1) := by decide +kernel
theorem dX1_passDay_11 : decode cX1_passDay 11 = .ok (.bipush 12, 2) := by decide +kernel
theorem dX1_passDay_13 : decode cX1_passDay 13 = .ok (.if_icmp .ge 13, 3) := by decide +kernel
theorem dX1_passDay_16 : decode cX1_passDay 16 = .ok (.aload_n 0, 1) := by decide +kernel
theorem dX1_passDay_17 : decode cX1_passDay 17 = .ok (.iload_n 1, 1) := by decide +kernel
theorem dX1_passDay_18 : decode cX1_passDay 18 = .ok (.aload_n 0, 1) := by decide +kernel
theorem dX1_passDay_19 : decode cX1_passDay 19 = .ok (.iload_n 1, 1) := by decide +kernel
theorem dX1_passDay_20 : decode cX1_passDay 20 = .ok (.invokevirtual 76, 3) := by decide +kernel
theorem dX1_passDay_23 : decode cX1_passDay 23 = .ok (.invokevirtual 80, 3) := by decide +kernel
theorem dX1_passDay_26 : decode cX1_passDay 26 = .ok (.iconst 0, 1) := by decide +kernel
theorem dX1_passDay_27 : decode cX1_passDay 27 = .ok (.istore_n 2, 1) := by decide +kernel
theorem dX1_passDay_28 : decode cX1_passDay 28 = .ok (.iload_n 2, 1) := by decide +kernel
theorem dX1_passDay_29 : decode cX1_passDay 29 = .ok (.aload_n 0, 1) := by decide +kernel
theorem dX1_passDay_30 : decode cX1_passDay 30 = .ok (.getfield 21, 3) := by decide +kernel
theorem dX1_passDay_33 : decode cX1_passDay 33 = .ok (.if_icmp .ge 31, 3) := by decide +kernel
theorem dX1_passDay_36 : decode cX1_passDay 36 = .ok (.aload_n 0, 1) := by decide +kernel
theorem dX1_passDay_37 : decode cX1_passDay 37 = .ok (.getfield 36, 3) := by decide +kernel
theorem dX1_passDay_40 : decode cX1_passDay 40 = .ok (.iload_n 2, 1) := by decide +kernel
theorem dX1_passDay_41 : decode cX1_passDay 41 = .ok (.aaload, 1) := by decide +kernel
theorem dX1_passDay_42 : decode cX1_passDay 42 = .ok (.getfield 62, 3) := by decide +kernel
theorem dX1_passDay_45 : decode cX1_passDay 45 = .ok (.ifCond .ne 13, 3) := by decide +kernel
theorem dX1_passDay_48 : decode cX1_passDay 48 = .ok (.aload_n 0, 1) := by decide +kernel
theorem dX1_passDay_49 : decode cX1_passDay 49 = .ok (.aload_n 0, 1) := by decide +kernel
theorem dX1_passDay_50 : decode cX1_passDay 50 = .ok (.getfield 36, 3) := by decide +kernel
theorem dX1_passDay_53 : decode cX1_passDay 53 = .ok (.iload_n 2, 1) := by decide +kernel
theorem dX1_passDay_54 : decode cX1_passDay 54 = .ok (.aaload, 1) := by decide +kernel
theorem dX1_passDay_55 : decode cX1_passDay 55 = .ok (.invokevirtual 83, 3) := by decide +kernel
theorem dX1_passDay_58 : decode cX1_passDay 58 = .ok (.iinc 2 1, 3) := by decide +kernel
theorem dX1_passDay_61 : decode cX1_passDay 61 = .ok (.goto (-33), 3) := by decide +kernel
theorem dX1_passDay_64 : decode cX1_passDay 64 = .ok (.aload_n 0, 1) := by decide +kernel
theorem dX1_passDay_65 : decode cX1_passDay 65 = .ok (.ldc 86, 2) := by decide +kernel
theorem dX1_passDay_67 : decode cX1_passDay 67 = .ok (.aload_n 0, 1) := by decide +kernel
theorem dX1_passDay_68 : decode cX1_passDay 68 = .ok (.getfield 9, 3) := by decide +kernel
theorem dX1_passDay_71 : decode cX1_passDay 71 = .ok (.iconst 1, 1) := by decide +kernel
theorem dX1_passDay_72 : decode cX1_passDay 72 = .ok (.iadd, 1) := by decide +kernel
theorem dX1_passDay_73 : decode cX1_passDay 73 = .ok (.invokestatic 87, 3) := by decide +kernel
theorem dX1_passDay_76 : decode cX1_passDay 76 = .ok (.putfield 9, 3) := by decide +kernel
theorem dX1_passDay_79 : decode cX1_passDay 79 = .ok (.return_, 1) := by decide +kernel
theorem dX1_bequeath_0 : decode cX1_bequeath 0 = .ok (.iload_n 2, 1) := by decide +kernel
theorem dX1_bequeath_1 : decode cX1_bequeath 1 = .ok (.ifCond .lt 16, 3) := by decide +kernel
theorem dX1_bequeath_4 : decode cX1_bequeath 4 = .ok (.aload_n 0, 1) := by decide +kernel
theorem dX1_bequeath_5 : decode cX1_bequeath 5 = .ok (.getfield 36, 3) := by decide +kernel
theorem dX1_bequeath_8 : decode cX1_bequeath 8 = .ok (.iload_n 2, 1) := by decide +kernel
theorem dX1_bequeath_9 : decode cX1_bequeath 9 = .ok (.aaload, 1) := by decide +kernel
theorem dX1_bequeath_10 : decode cX1_bequeath 10 = .ok (.iload_n 1, 1) := by decide +kernel
theorem dX1_bequeath_11 : decode cX1_bequeath 11 = .ok (.invokevirtual 93, 3) := by decide +kernel
theorem dX1_bequeath_14 : decode cX1_bequeath 14 = .ok (.goto 22, 3) := by decide +kernel
theorem dX1_bequeath_17 : decode cX1_bequeath 17 = .ok (.aload_n 0, 1) := by decide +kernel
theorem dX1_bequeath_18 : decode cX1_bequeath 18 = .ok (.getfield 28, 3) := by decide +kernel
theorem dX1_bequeath_21 : decode cX1_bequeath 21 = .ok (.iload_n 1, 1) := by decide +kernel
theorem dX1_bequeath_22 : decode cX1_bequeath 22 = .ok (.bipush 99, 2) := by decide +kernel
theorem dX1_bequeath_24 : decode cX1_bequeath 24 = .ok (.aload_n 0, 1) := by decide +kernel
theorem dX1_bequeath_25 : decode cX1_bequeath 25 = .ok (.getfield 28, 3) := by decide +kernel
theorem dX1_bequeath_28 : decode cX1_bequeath 28 = .ok (.iload_n 1, 1) := by decide +kernel
theorem dX1_bequeath_29 : decode cX1_bequeath 29 = .ok (.iaload, 1) := by decide +kernel
theorem dX1_bequeath_30 : decode cX1_bequeath 30 = .ok (.iconst 1, 1) := by decide +kernel
theorem dX1_bequeath_31 : decode cX1_bequeath 31 = .ok (.iadd, 1) := by decide +kernel
theorem dX1_bequeath_32 : decode cX1_bequeath 32 = .ok (.invokestatic 87, 3) := by decide +kernel
theorem dX1_bequeath_35 : decode cX1_bequeath 35 = .ok (.iastore, 1) := by decide +kernel
theorem dX1_bequeath_36 : decode cX1_bequeath 36 = .ok (.return_, 1) := by decide +kernel
theorem dX1_passDayOf_0 : decode cX1_passDayOf 0 = .ok (.aload_n 1, 1) := by decide +kernel
theorem dX1_passDayOf_1 : decode cX1_passDayOf 1 = .ok (.aload_n 1, 1) := by decide +kernel
theorem dX1_passDayOf_2 : decode cX1_passDayOf 2 = .ok (.invokevirtual 97, 3) := by decide +kernel
theorem dX1_passDayOf_5 : decode cX1_passDayOf 5 = .ok (.invokevirtual 100, 3) := by decide +kernel
theorem dX1_passDayOf_8 : decode cX1_passDayOf 8 = .ok (.aload_n 1, 1) := by decide +kernel
theorem dX1_passDayOf_9 : decode cX1_passDayOf 9 = .ok (.invokevirtual 103, 3) := by decide +kernel
theorem dX1_passDayOf_12 : decode cX1_passDayOf 12 = .ok (.ifCond .ne 4, 3) := by decide +kernel
theorem dX1_passDayOf_15 : decode cX1_passDayOf 15 = .ok (.return_, 1) := by decide +kernel
theorem dX1_passDayOf_16 : decode cX1_passDayOf 16 = .ok (.aload_n 1, 1) := by decide +kernel
theorem dX1_passDayOf_17 : decode cX1_passDayOf 17 = .ok (.bipush 15, 2) := by decide +kernel
theorem dX1_passDayOf_19 : decode cX1_passDayOf 19 = .ok (.aload_n 1, 1) := by decide +kernel
theorem dX1_passDayOf_20 : decode cX1_passDayOf 20 = .ok (.getfield 106, 3) := by decide +kernel
theorem dX1_passDayOf_23 : decode cX1_passDayOf 23 = .ok (.aload_n 1, 1) := by decide +kernel
theorem dX1_passDayOf_24 : decode cX1_passDayOf 24 = .ok (.invokevirtual 109, 3) := by decide +kernel
theorem dX1_passDayOf_27 : decode cX1_passDayOf 27 = .ok (.iadd, 1) := by decide +kernel
theorem dX1_passDayOf_28 : decode cX1_passDayOf 28 = .ok (.invokestatic 87, 3) := by decide +kernel
theorem dX1_passDayOf_31 : decode cX1_passDayOf 31 = .ok (.putfield 106, 3) := by decide +kernel
theorem dX1_passDayOf_34 : decode cX1_passDayOf 34 = .ok (.aload_n 1, 1) := by decide +kernel
theorem dX1_passDayOf_35 : decode cX1_passDayOf 35 = .ok (.getfield 106, 3) := by decide +kernel
theorem dX1_passDayOf_38 : decode cX1_passDayOf 38 = .ok (.bipush 15, 2) := by decide +kernel
theorem dX1_passDayOf_40 : decode cX1_passDayOf 40 = .ok (.if_icmp .ne 24, 3) := by decide +kernel
theorem dX1_passDayOf_43 : decode cX1_passDayOf 43 = .ok (.aload_n 1, 1) := by decide +kernel
theorem dX1_passDayOf_44 : decode cX1_passDayOf 44 = .ok (.iconst 1, 1) := by decide +kernel
theorem dX1_passDayOf_45 : decode cX1_passDayOf 45 = .ok (.putfield 62, 3) := by decide +kernel
theorem dX1_passDayOf_48 : decode cX1_passDayOf 48 = .ok (.aload_n 0, 1) := by decide +kernel
theorem dX1_passDayOf_49 : decode cX1_passDayOf 49 = .ok (.sipush 9999, 3) := by decide +kernel
theorem dX1_passDayOf_52 : decode cX1_passDayOf 52 = .ok (.aload_n 0, 1) := by decide +kernel
theorem dX1_passDayOf_53 : decode cX1_passDayOf 53 = .ok (.getfield 15, 3) := by decide +kernel
theorem dX1_passDayOf_56 : decode cX1_passDayOf 56 = .ok (.iconst 1, 1) := by decide +kernel
theorem dX1_passDayOf_57 : decode cX1_passDayOf 57 = .ok (.iadd, 1) := by decide +kernel
theorem dX1_passDayOf_58 : decode cX1_passDayOf 58 = .ok (.invokestatic 87, 3) := by decide +kernel
theorem dX1_passDayOf_61 : decode cX1_passDayOf 61 = .ok (.putfield 15, 3) := by decide +kernel
theorem dX1_passDayOf_64 : decode cX1_passDayOf 64 = .ok (.return_, 1) := by decide +kernel
theorem dX1_draw_0 : decode cX1_draw 0 = .ok (.aload_n 0, 1) := by decide +kernel
theorem dX1_draw_1 : decode cX1_draw 1 = .ok (.aload_n 0, 1) := by decide +kernel
theorem dX1_draw_2 : decode cX1_draw 2 = .ok (.getfield 18, 3) := by decide +kernel
theorem dX1_draw_5 : decode cX1_draw 5 = .ok (.ldc 112, 2) := by decide +kernel
theorem dX1_draw_7 : decode cX1_draw 7 = .ok (.imul, 1) := by decide +kernel
theorem dX1_draw_8 : decode cX1_draw 8 = .ok (.sipush 12345, 3) := by decide +kernel
theorem dX1_draw_11 : decode cX1_draw 11 = .ok (.iadd, 1) := by decide +kernel
theorem dX1_draw_12 : decode cX1_draw 12 = .ok (.putfield 18, 3) := by decide +kernel
theorem dX1_draw_15 : decode cX1_draw 15 = .ok (.aload_n 0, 1) := by decide +kernel
theorem dX1_draw_16 : decode cX1_draw 16 = .ok (.getfield 18, 3) := by decide +kernel
theorem dX1_draw_19 : decode cX1_draw 19 = .ok (.bipush 8, 2) := by decide +kernel
theorem dX1_draw_21 : decode cX1_draw 21 = .ok (.iushr, 1) := by decide +kernel
theorem dX1_draw_22 : decode cX1_draw 22 = .ok (.ireturn, 1) := by decide +kernel
theorem dX1_passDayByDraws_0 : decode cX1_passDayByDraws 0 = .ok (.aload_n 0, 1) := by decide +kernel
theorem dX1_passDayByDraws_1 : decode cX1_passDayByDraws 1 = .ok (.invokevirtual 113, 3) := by decide +kernel
theorem dX1_passDayByDraws_4 : decode cX1_passDayByDraws 4 = .ok (.bipush 13, 2) := by decide +kernel
theorem dX1_passDayByDraws_6 : decode cX1_passDayByDraws 6 = .ok (.irem, 1) := by decide +kernel
theorem dX1_passDayByDraws_7 : decode cX1_passDayByDraws 7 = .ok (.istore_n 1, 1) := by decide +kernel
theorem dX1_passDayByDraws_8 : decode cX1_passDayByDraws 8 = .ok (.aload_n 0, 1) := by decide +kernel
theorem dX1_passDayByDraws_9 : decode cX1_passDayByDraws 9 = .ok (.invokevirtual 113, 3) := by decide +kernel
theorem dX1_passDayByDraws_12 : decode cX1_passDayByDraws 12 = .ok (.bipush 8, 2) := by decide +kernel
theorem dX1_passDayByDraws_14 : decode cX1_passDayByDraws 14 = .ok (.irem, 1) := by decide +kernel
theorem dX1_passDayByDraws_15 : decode cX1_passDayByDraws 15 = .ok (.istore_n 2, 1) := by decide +kernel
theorem dX1_passDayByDraws_16 : decode cX1_passDayByDraws 16 = .ok (.aload_n 0, 1) := by decide +kernel
theorem dX1_passDayByDraws_17 : decode cX1_passDayByDraws 17 = .ok (.getfield 24, 3) := by decide +kernel
theorem dX1_passDayByDraws_20 : decode cX1_passDayByDraws 20 = .ok (.aload_n 0, 1) := by decide +kernel
theorem dX1_passDayByDraws_21 : decode cX1_passDayByDraws 21 = .ok (.invokevirtual 72, 3) := by decide +kernel
theorem dX1_passDayByDraws_24 : decode cX1_passDayByDraws 24 = .ok (.iload_n 1, 1) := by decide +kernel
theorem dX1_passDayByDraws_25 : decode cX1_passDayByDraws 25 = .ok (.iastore, 1) := by decide +kernel
theorem dX1_passDayByDraws_26 : decode cX1_passDayByDraws 26 = .ok (.iload_n 2, 1) := by decide +kernel
theorem dX1_passDayByDraws_27 : decode cX1_passDayByDraws 27 = .ok (.aload_n 0, 1) := by decide +kernel
theorem dX1_passDayByDraws_28 : decode cX1_passDayByDraws 28 = .ok (.getfield 21, 3) := by decide +kernel
theorem dX1_passDayByDraws_31 : decode cX1_passDayByDraws 31 = .ok (.if_icmp .ge 14, 3) := by decide +kernel
theorem dX1_passDayByDraws_34 : decode cX1_passDayByDraws 34 = .ok (.aload_n 0, 1) := by decide +kernel
theorem dX1_passDayByDraws_35 : decode cX1_passDayByDraws 35 = .ok (.getfield 36, 3) := by decide +kernel
theorem dX1_passDayByDraws_38 : decode cX1_passDayByDraws 38 = .ok (.iload_n 2, 1) := by decide +kernel
theorem dX1_passDayByDraws_39 : decode cX1_passDayByDraws 39 = .ok (.aaload, 1) := by decide +kernel
theorem dX1_passDayByDraws_40 : decode cX1_passDayByDraws 40 = .ok (.bipush 10, 2) := by decide +kernel
theorem dX1_passDayByDraws_42 : decode cX1_passDayByDraws 42 = .ok (.invokevirtual 100, 3) := by decide +kernel
theorem dX1_passDayByDraws_45 : decode cX1_passDayByDraws 45 = .ok (.aload_n 0, 1) := by decide +kernel
theorem dX1_passDayByDraws_46 : decode cX1_passDayByDraws 46 = .ok (.invokevirtual 69, 3) := by decide +kernel
theorem dX1_passDayByDraws_49 : decode cX1_passDayByDraws 49 = .ok (.return_, 1) := by decide +kernel
theorem dX1_storedTogether_0 : decode cX1_storedTogether 0 = .ok (.iconst 0, 1) := by decide +kernel
theorem dX1_storedTogether_1 : decode cX1_storedTogether 1 = .ok (.istore_n 1, 1) := by decide +kernel
theorem dX1_storedTogether_2 : decode cX1_storedTogether 2 = .ok (.iconst 0, 1) := by decide +kernel
theorem dX1_storedTogether_3 : decode cX1_storedTogether 3 = .ok (.istore_n 2, 1) := by decide +kernel
theorem dX1_storedTogether_4 : decode cX1_storedTogether 4 = .ok (.iload_n 2, 1) := by decide +kernel
theorem dX1_storedTogether_5 : decode cX1_storedTogether 5 = .ok (.bipush 12, 2) := by decide +kernel
theorem dX1_storedTogether_7 : decode cX1_storedTogether 7 = .ok (.if_icmp .ge 18, 3) := by decide +kernel
theorem dX1_storedTogether_10 : decode cX1_storedTogether 10 = .ok (.iload_n 1, 1) := by decide +kernel
theorem dX1_storedTogether_11 : decode cX1_storedTogether 11 = .ok (.aload_n 0, 1) := by decide +kernel
theorem dX1_storedTogether_12 : decode cX1_storedTogether 12 = .ok (.getfield 28, 3) := by decide +kernel
theorem dX1_storedTogether_15 : decode cX1_storedTogether 15 = .ok (.iload_n 2, 1) := by decide +kernel
theorem dX1_storedTogether_16 : decode cX1_storedTogether 16 = .ok (.iaload, 1) := by decide +kernel
theorem dX1_storedTogether_17 : decode cX1_storedTogether 17 = .ok (.iadd, 1) := by decide +kernel
theorem dX1_storedTogether_18 : decode cX1_storedTogether 18 = .ok (.istore_n 1, 1) := by decide +kernel
theorem dX1_storedTogether_19 : decode cX1_storedTogether 19 = .ok (.iinc 2 1, 3) := by decide +kernel
theorem dX1_storedTogether_22 : decode cX1_storedTogether 22 = .ok (.goto (-18), 3) := by decide +kernel
theorem dX1_storedTogether_25 : decode cX1_storedTogether 25 = .ok (.iload_n 1, 1) := by decide +kernel
theorem dX1_storedTogether_26 : decode cX1_storedTogether 26 = .ok (.ireturn, 1) := by decide +kernel
theorem dX1_completeBusts_0 : decode cX1_completeBusts 0 = .ok (.iconst 0, 1) := by decide +kernel
theorem dX1_completeBusts_1 : decode cX1_completeBusts 1 = .ok (.istore_n 1, 1) := by decide +kernel
theorem dX1_completeBusts_2 : decode cX1_completeBusts 2 = .ok (.iconst 0, 1) := by decide +kernel
theorem dX1_completeBusts_3 : decode cX1_completeBusts 3 = .ok (.istore_n 2, 1) := by decide +kernel
theorem dX1_completeBusts_4 : decode cX1_completeBusts 4 = .ok (.iload_n 2, 1) := by decide +kernel
theorem dX1_completeBusts_5 : decode cX1_completeBusts 5 = .ok (.aload_n 0, 1) := by decide +kernel
theorem dX1_completeBusts_6 : decode cX1_completeBusts 6 = .ok (.getfield 21, 3) := by decide +kernel
theorem dX1_completeBusts_9 : decode cX1_completeBusts 9 = .ok (.if_icmp .ge 42, 3) := by decide +kernel
theorem dX1_completeBusts_12 : decode cX1_completeBusts 12 = .ok (.aload_n 0, 1) := by decide +kernel
theorem dX1_completeBusts_13 : decode cX1_completeBusts 13 = .ok (.getfield 36, 3) := by decide +kernel
theorem dX1_completeBusts_16 : decode cX1_completeBusts 16 = .ok (.iload_n 2, 1) := by decide +kernel
theorem dX1_completeBusts_17 : decode cX1_completeBusts 17 = .ok (.aaload, 1) := by decide +kernel
theorem dX1_completeBusts_18 : decode cX1_completeBusts 18 = .ok (.getfield 62, 3) := by decide +kernel
theorem dX1_completeBusts_21 : decode cX1_completeBusts 21 = .ok (.ifCond .ne 24, 3) := by decide +kernel
theorem dX1_completeBusts_24 : decode cX1_completeBusts 24 = .ok (.aload_n 0, 1) := by decide +kernel
theorem dX1_completeBusts_25 : decode cX1_completeBusts 25 = .ok (.getfield 36, 3) := by decide +kernel
theorem dX1_completeBusts_28 : decode cX1_completeBusts 28 = .ok (.iload_n 2, 1) := by decide +kernel
theorem dX1_completeBusts_29 : decode cX1_completeBusts 29 = .ok (.aaload, 1) := by decide +kernel
theorem dX1_completeBusts_30 : decode cX1_completeBusts 30 = .ok (.getfield 116, 3) := by decide +kernel
theorem dX1_completeBusts_33 : decode cX1_completeBusts 33 = .ok (.sipush 4095, 3) := by decide +kernel
theorem dX1_completeBusts_36 : decode cX1_completeBusts 36 = .ok (.if_icmp .ne 9, 3) := by decide +kernel
theorem dX1_completeBusts_39 : decode cX1_completeBusts 39 = .ok (.iload_n 1, 1) := by decide +kernel
theorem dX1_completeBusts_40 : decode cX1_completeBusts 40 = .ok (.iconst 1, 1) := by decide +kernel
theorem dX1_completeBusts_41 : decode cX1_completeBusts 41 = .ok (.iload_n 2, 1) := by decide +kernel
theorem dX1_completeBusts_42 : decode cX1_completeBusts 42 = .ok (.ishl, 1) := by decide +kernel
theorem dX1_completeBusts_43 : decode cX1_completeBusts 43 = .ok (.ior, 1) := by decide +kernel
theorem dX1_completeBusts_44 : decode cX1_completeBusts 44 = .ok (.istore_n 1, 1) := by decide +kernel
theorem dX1_completeBusts_45 : decode cX1_completeBusts 45 = .ok (.iinc 2 1, 3) := by decide +kernel
theorem dX1_completeBusts_48 : decode cX1_completeBusts 48 = .ok (.goto (-44), 3) := by decide +kernel
theorem dX1_completeBusts_51 : decode cX1_completeBusts 51 = .ok (.iload_n 1, 1) := by decide +kernel
theorem dX1_completeBusts_52 : decode cX1_completeBusts 52 = .ok (.ireturn, 1) := by decide +kernel
theorem dX1_walkers_0 : decode cX1_walkers 0 = .ok (.iconst 0, 1) := by decide +kernel
theorem dX1_walkers_1 : decode cX1_walkers 1 = .ok (.istore_n 1, 1) := by decide +kernel
theorem dX1_walkers_2 : decode cX1_walkers 2 = .ok (.iconst 0, 1) := by decide +kernel
theorem dX1_walkers_3 : decode cX1_walkers 3 = .ok (.istore_n 2, 1) := by decide +kernel
theorem dX1_walkers_4 : decode cX1_walkers 4 = .ok (.iload_n 2, 1) := by decide +kernel
theorem dX1_walkers_5 : decode cX1_walkers 5 = .ok (.aload_n 0, 1) := by decide +kernel
theorem dX1_walkers_6 : decode cX1_walkers 6 = .ok (.getfield 21, 3) := by decide +kernel
theorem dX1_walkers_9 : decode cX1_walkers 9 = .ok (.if_icmp .ge 27, 3) := by decide +kernel
theorem dX1_walkers_12 : decode cX1_walkers 12 = .ok (.aload_n 0, 1) := by decide +kernel
theorem dX1_walkers_13 : decode cX1_walkers 13 = .ok (.getfield 36, 3) := by decide +kernel
theorem dX1_walkers_16 : decode cX1_walkers 16 = .ok (.iload_n 2, 1) := by decide +kernel
theorem dX1_walkers_17 : decode cX1_walkers 17 = .ok (.aaload, 1) := by decide +kernel
theorem dX1_walkers_18 : decode cX1_walkers 18 = .ok (.invokevirtual 103, 3) := by decide +kernel
theorem dX1_walkers_21 : decode cX1_walkers 21 = .ok (.ifCond .eq 9, 3) := by decide +kernel
theorem dX1_walkers_24 : decode cX1_walkers 24 = .ok (.iload_n 1, 1) := by decide +kernel
theorem dX1_walkers_25 : decode cX1_walkers 25 = .ok (.iconst 1, 1) := by decide +kernel
theorem dX1_walkers_26 : decode cX1_walkers 26 = .ok (.iload_n 2, 1) := by decide +kernel
theorem dX1_walkers_27 : decode cX1_walkers 27 = .ok (.ishl, 1) := by decide +kernel
theorem dX1_walkers_28 : decode cX1_walkers 28 = .ok (.ior, 1) := by decide +kernel
theorem dX1_walkers_29 : decode cX1_walkers 29 = .ok (.istore_n 1, 1) := by decide +kernel
theorem dX1_walkers_30 : decode cX1_walkers 30 = .ok (.iinc 2 1, 3) := by decide +kernel
theorem dX1_walkers_33 : decode cX1_walkers 33 = .ok (.goto (-29), 3) := by decide +kernel
theorem dX1_walkers_36 : decode cX1_walkers 36 = .ok (.iload_n 1, 1) := by decide +kernel
theorem dX1_walkers_37 : decode cX1_walkers 37 = .ok (.ireturn, 1) := by decide +kernel
theorem dX1_loudest_0 : decode cX1_loudest 0 = .ok (.iconst (-1), 1) := by decide +kernel
theorem dX1_loudest_1 : decode cX1_loudest 1 = .ok (.istore_n 1, 1) := by decide +kernel
theorem dX1_loudest_2 : decode cX1_loudest 2 = .ok (.iconst 0, 1) := by decide +kernel
theorem dX1_loudest_3 : decode cX1_loudest 3 = .ok (.istore_n 2, 1) := by decide +kernel
theorem dX1_loudest_4 : decode cX1_loudest 4 = .ok (.iload_n 2, 1) := by decide +kernel
theorem dX1_loudest_5 : decode cX1_loudest 5 = .ok (.aload_n 0, 1) := by decide +kernel
theorem dX1_loudest_6 : decode cX1_loudest 6 = .ok (.getfield 21, 3) := by decide +kernel
theorem dX1_loudest_9 : decode cX1_loudest 9 = .ok (.if_icmp .ge 58, 3) := by decide +kernel
theorem dX1_loudest_12 : decode cX1_loudest 12 = .ok (.iload_n 1, 1) := by decide +kernel
theorem dX1_loudest_13 : decode cX1_loudest 13 = .ok (.ifCond .lt 24, 3) := by decide +kernel
theorem dX1_loudest_16 : decode cX1_loudest 16 = .ok (.aload_n 0, 1) := by decide +kernel
theorem dX1_loudest_17 : decode cX1_loudest 17 = .ok (.getfield 36, 3) := by decide +kernel
theorem dX1_loudest_20 : decode cX1_loudest 20 = .ok (.iload_n 2, 1) := by decide +kernel
theorem dX1_loudest_21 : decode cX1_loudest 21 = .ok (.aaload, 1) := by decide +kernel
theorem dX1_loudest_22 : decode cX1_loudest 22 = .ok (.invokevirtual 119, 3) := by decide +kernel
theorem dX1_loudest_25 : decode cX1_loudest 25 = .ok (.aload_n 0, 1) := by decide +kernel
theorem dX1_loudest_26 : decode cX1_loudest 26 = .ok (.getfield 36, 3) := by decide +kernel
theorem dX1_loudest_29 : decode cX1_loudest 29 = .ok (.iload_n 1, 1) := by decide +kernel
theorem dX1_loudest_30 : decode cX1_loudest 30 = .ok (.aaload, 1) := by decide +kernel
theorem dX1_loudest_31 : decode cX1_loudest 31 = .ok (.invokevirtual 119, 3) := by decide +kernel
theorem dX1_loudest_34 : decode cX1_loudest 34 = .ok (.if_icmp .le 7, 3) := by decide +kernel
theorem dX1_loudest_37 : decode cX1_loudest 37 = .ok (.iconst 1, 1) := by decide +kernel
theorem dX1_loudest_38 : decode cX1_loudest 38 = .ok (.goto 4, 3) := by decide +kernel
theorem dX1_loudest_41 : decode cX1_loudest 41 = .ok (.iconst 0, 1) := by decide +kernel
theorem dX1_loudest_42 : decode cX1_loudest 42 = .ok (.istore_n 3, 1) := by decide +kernel
theorem dX1_loudest_43 : decode cX1_loudest 43 = .ok (.iload_n 3, 1) := by decide +kernel
theorem dX1_loudest_44 : decode cX1_loudest 44 = .ok (.ifCond .eq 17, 3) := by decide +kernel
theorem dX1_loudest_47 : decode cX1_loudest 47 = .ok (.aload_n 0, 1) := by decide +kernel
theorem dX1_loudest_48 : decode cX1_loudest 48 = .ok (.getfield 36, 3) := by decide +kernel
theorem dX1_loudest_51 : decode cX1_loudest 51 = .ok (.iload_n 2, 1) := by decide +kernel
theorem dX1_loudest_52 : decode cX1_loudest 52 = .ok (.aaload, 1) := by decide +kernel
theorem dX1_loudest_53 : decode cX1_loudest 53 = .ok (.getfield 62, 3) := by decide +kernel
theorem dX1_loudest_56 : decode cX1_loudest 56 = .ok (.ifCond .ne 5, 3) := by decide +kernel
theorem dX1_loudest_59 : decode cX1_loudest 59 = .ok (.iload_n 2, 1) := by decide +kernel
theorem dX1_loudest_60 : decode cX1_loudest 60 = .ok (.istore_n 1, 1) := by decide +kernel
theorem dX1_loudest_61 : decode cX1_loudest 61 = .ok (.iinc 2 1, 3) := by decide +kernel
theorem dX1_loudest_64 : decode cX1_loudest 64 = .ok (.goto (-60), 3) := by decide +kernel
theorem dX1_loudest_67 : decode cX1_loudest 67 = .ok (.iload_n 1, 1) := by decide +kernel
theorem dX1_loudest_68 : decode cX1_loudest 68 = .ok (.ireturn, 1) := by decide +kernel
theorem dX1_yearningTogether_0 : decode cX1_yearningTogether 0 = .ok (.iconst 0, 1) := by decide +kernel
theorem dX1_yearningTogether_1 : decode cX1_yearningTogether 1 = .ok (.istore_n 1, 1) := by decide +kernel
theorem dX1_yearningTogether_2 : decode cX1_yearningTogether 2 = .ok (.iconst 0, 1) := by decide +kernel
theorem dX1_yearningTogether_3 : decode cX1_yearningTogether 3 = .ok (.istore_n 2, 1) := by decide +kernel
theorem dX1_yearningTogether_4 : decode cX1_yearningTogether 4 = .ok (.iload_n 2, 1) := by decide +kernel
theorem dX1_yearningTogether_5 : decode cX1_yearningTogether 5 = .ok (.aload_n 0, 1) := by decide +kernel
theorem dX1_yearningTogether_6 : decode cX1_yearningTogether 6 = .ok (.getfield 21, 3) := by decide +kernel
theorem dX1_yearningTogether_9 : decode cX1_yearningTogether 9 = .ok (.if_icmp .ge 33, 3) := by decide +kernel
theorem dX1_yearningTogether_12 : decode cX1_yearningTogether 12 = .ok (.aload_n 0, 1) := by decide +kernel
theorem dX1_yearningTogether_13 : decode cX1_yearningTogether 13 = .ok (.getfield 36, 3) := by decide +kernel
theorem dX1_yearningTogether_16 : decode cX1_yearningTogether 16 = .ok (.iload_n 2, 1) := by decide +kernel
theorem dX1_yearningTogether_17 : decode cX1_yearningTogether 17 = .ok (.aaload, 1) := by decide +kernel
theorem dX1_yearningTogether_18 : decode cX1_yearningTogether 18 = .ok (.getfield 62, 3) := by decide +kernel
theorem dX1_yearningTogether_21 : decode cX1_yearningTogether 21 = .ok (.ifCond .ne 15, 3) := by decide +kernel
theorem dX1_yearningTogether_24 : decode cX1_yearningTogether 24 = .ok (.iload_n 1, 1) := by decide +kernel
theorem dX1_yearningTogether_25 : decode cX1_yearningTogether 25 = .ok (.aload_n 0, 1) := by decide +kernel
theorem dX1_yearningTogether_26 : decode cX1_yearningTogether 26 = .ok (.getfield 36, 3) := by decide +kernel
theorem dX1_yearningTogether_29 : decode cX1_yearningTogether 29 = .ok (.iload_n 2, 1) := by decide +kernel
theorem dX1_yearningTogether_30 : decode cX1_yearningTogether 30 = .ok (.aaload, 1) := by decide +kernel
theorem dX1_yearningTogether_31 : decode cX1_yearningTogether 31 = .ok (.getfield 122, 3) := by decide +kernel
theorem dX1_yearningTogether_34 : decode cX1_yearningTogether 34 = .ok (.iadd, 1) := by decide +kernel
theorem dX1_yearningTogether_35 : decode cX1_yearningTogether 35 = .ok (.istore_n 1, 1) := by decide +kernel
theorem dX1_yearningTogether_36 : decode cX1_yearningTogether 36 = .ok (.iinc 2 1, 3) := by decide +kernel
theorem dX1_yearningTogether_39 : decode cX1_yearningTogether 39 = .ok (.goto (-35), 3) := by decide +kernel
theorem dX1_yearningTogether_42 : decode cX1_yearningTogether 42 = .ok (.iload_n 1, 1) := by decide +kernel
theorem dX1_yearningTogether_43 : decode cX1_yearningTogether 43 = .ok (.ireturn, 1) := by decide +kernel
theorem dX1_goneBusts_0 : decode cX1_goneBusts 0 = .ok (.iconst 0, 1) := by decide +kernel
theorem dX1_goneBusts_1 : decode cX1_goneBusts 1 = .ok (.istore_n 1, 1) := by decide +kernel
theorem dX1_goneBusts_2 : decode cX1_goneBusts 2 = .ok (.iconst 0, 1) := by decide +kernel
theorem dX1_goneBusts_3 : decode cX1_goneBusts 3 = .ok (.istore_n 2, 1) := by decide +kernel
theorem dX1_goneBusts_4 : decode cX1_goneBusts 4 = .ok (.iload_n 2, 1) := by decide +kernel
theorem dX1_goneBusts_5 : decode cX1_goneBusts 5 = .ok (.aload_n 0, 1) := by decide +kernel
theorem dX1_goneBusts_6 : decode cX1_goneBusts 6 = .ok (.getfield 21, 3) := by decide +kernel
theorem dX1_goneBusts_9 : decode cX1_goneBusts 9 = .ok (.if_icmp .ge 28, 3) := by decide +kernel
theorem dX1_goneBusts_12 : decode cX1_goneBusts 12 = .ok (.aload_n 0, 1) := by decide +kernel
theorem dX1_goneBusts_13 : decode cX1_goneBusts 13 = .ok (.getfield 36, 3) := by decide +kernel
theorem dX1_goneBusts_16 : decode cX1_goneBusts 16 = .ok (.iload_n 2, 1) := by decide +kernel
theorem dX1_goneBusts_17 : decode cX1_goneBusts 17 = .ok (.aaload, 1) := by decide +kernel
theorem dX1_goneBusts_18 : decode cX1_goneBusts 18 = .ok (.getfield 62, 3) := by decide +kernel
theorem dX1_goneBusts_21 : decode cX1_goneBusts 21 = .ok (.iconst 1, 1) := by decide +kernel
theorem dX1_goneBusts_22 : decode cX1_goneBusts 22 = .ok (.if_icmp .ne 9, 3) := by decide +kernel
theorem dX1_goneBusts_25 : decode cX1_goneBusts 25 = .ok (.iload_n 1, 1) := by decide +kernel
theorem dX1_goneBusts_26 : decode cX1_goneBusts 26 = .ok (.iconst 1, 1) := by decide +kernel
theorem dX1_goneBusts_27 : decode cX1_goneBusts 27 = .ok (.iload_n 2, 1) := by decide +kernel
theorem dX1_goneBusts_28 : decode cX1_goneBusts 28 = .ok (.ishl, 1) := by decide +kernel
theorem dX1_goneBusts_29 : decode cX1_goneBusts 29 = .ok (.ior, 1) := by decide +kernel
theorem dX1_goneBusts_30 : decode cX1_goneBusts 30 = .ok (.istore_n 1, 1) := by decide +kernel
theorem dX1_goneBusts_31 : decode cX1_goneBusts 31 = .ok (.iinc 2 1, 3) := by decide +kernel
theorem dX1_goneBusts_34 : decode cX1_goneBusts 34 = .ok (.goto (-30), 3) := by decide +kernel
theorem dX1_goneBusts_37 : decode cX1_goneBusts 37 = .ok (.iload_n 1, 1) := by decide +kernel
theorem dX1_goneBusts_38 : decode cX1_goneBusts 38 = .ok (.ireturn, 1) := by decide +kernel
theorem dX1_spotsTaken_0 : decode cX1_spotsTaken 0 = .ok (.iconst 0, 1) := by decide +kernel
theorem dX1_spotsTaken_1 : decode cX1_spotsTaken 1 = .ok (.istore_n 1, 1) := by decide +kernel
theorem dX1_spotsTaken_2 : decode cX1_spotsTaken 2 = .ok (.iconst 0, 1) := by decide +kernel
theorem dX1_spotsTaken_3 : decode cX1_spotsTaken 3 = .ok (.istore_n 2, 1) := by decide +kernel
theorem dX1_spotsTaken_4 : decode cX1_spotsTaken 4 = .ok (.iload_n 2, 1) := by decide +kernel
theorem dX1_spotsTaken_5 : decode cX1_spotsTaken 5 = .ok (.bipush 10, 2) := by decide +kernel
theorem dX1_spotsTaken_7 : decode cX1_spotsTaken 7 = .ok (.if_icmp .ge 21, 3) := by decide +kernel
theorem dX1_spotsTaken_10 : decode cX1_spotsTaken 10 = .ok (.aload_n 0, 1) := by decide +kernel
theorem dX1_spotsTaken_11 : decode cX1_spotsTaken 11 = .ok (.getfield 31, 3) := by decide +kernel
theorem dX1_spotsTaken_14 : decode cX1_spotsTaken 14 = .ok (.iload_n 2, 1) := by decide +kernel
theorem dX1_spotsTaken_15 : decode cX1_spotsTaken 15 = .ok (.iaload, 1) := by decide +kernel
theorem dX1_spotsTaken_16 : decode cX1_spotsTaken 16 = .ok (.ifCond .lt 6, 3) := by decide +kernel
theorem dX1_spotsTaken_19 : decode cX1_spotsTaken 19 = .ok (.iinc 1 1, 3) := by decide +kernel
theorem dX1_spotsTaken_22 : decode cX1_spotsTaken 22 = .ok (.iinc 2 1, 3) := by decide +kernel
theorem dX1_spotsTaken_25 : decode cX1_spotsTaken 25 = .ok (.goto (-21), 3) := by decide +kernel
theorem dX1_spotsTaken_28 : decode cX1_spotsTaken 28 = .ok (.iload_n 1, 1) := by decide +kernel
theorem dX1_spotsTaken_29 : decode cX1_spotsTaken 29 = .ok (.ireturn, 1) := by decide +kernel
theorem dX1_mayDifferAt_0 : decode cX1_mayDifferAt 0 = .ok (.iload_n 2, 1) := by decide +kernel
theorem dX1_mayDifferAt_1 : decode cX1_mayDifferAt 1 = .ok (.sipush 999, 3) := by decide +kernel
theorem dX1_mayDifferAt_4 : decode cX1_mayDifferAt 4 = .ok (.if_icmp .ne 5, 3) := by decide +kernel
theorem dX1_mayDifferAt_7 : decode cX1_mayDifferAt 7 = .ok (.iconst 1, 1) := by decide +kernel
theorem dX1_mayDifferAt_8 : decode cX1_mayDifferAt 8 = .ok (.ireturn, 1) := by decide +kernel
theorem dX1_mayDifferAt_9 : decode cX1_mayDifferAt 9 = .ok (.iconst 0, 1) := by decide +kernel
theorem dX1_mayDifferAt_10 : decode cX1_mayDifferAt 10 = .ok (.istore_n 3, 1) := by decide +kernel
theorem dX1_mayDifferAt_11 : decode cX1_mayDifferAt 11 = .ok (.iload_n 3, 1) := by decide +kernel
theorem dX1_mayDifferAt_12 : decode cX1_mayDifferAt 12 = .ok (.aload_n 0, 1) := by decide +kernel
theorem dX1_mayDifferAt_13 : decode cX1_mayDifferAt 13 = .ok (.getfield 21, 3) := by decide +kernel
theorem dX1_mayDifferAt_16 : decode cX1_mayDifferAt 16 = .ok (.if_icmp .ge 44, 3) := by decide +kernel
theorem dX1_mayDifferAt_19 : decode cX1_mayDifferAt 19 = .ok (.iload_n 3, 1) := by decide +kernel
theorem dX1_mayDifferAt_20 : decode cX1_mayDifferAt 20 = .ok (.iload_n 1, 1) := by decide +kernel
theorem dX1_mayDifferAt_21 : decode cX1_mayDifferAt 21 = .ok (.if_icmp .eq 33, 3) := by decide +kernel
theorem dX1_mayDifferAt_24 : decode cX1_mayDifferAt 24 = .ok (.aload_n 0, 1) := by decide +kernel
theorem dX1_mayDifferAt_25 : decode cX1_mayDifferAt 25 = .ok (.getfield 36, 3) := by decide +kernel
theorem dX1_mayDifferAt_28 : decode cX1_mayDifferAt 28 = .ok (.iload_n 3, 1) := by decide +kernel
theorem dX1_mayDifferAt_29 : decode cX1_mayDifferAt 29 = .ok (.aaload, 1) := by decide +kernel
theorem dX1_mayDifferAt_30 : decode cX1_mayDifferAt 30 = .ok (.getfield 59, 3) := by decide +kernel
theorem dX1_mayDifferAt_33 : decode cX1_mayDifferAt 33 = .ok (.iload_n 2, 1) := by decide +kernel
theorem dX1_mayDifferAt_34 : decode cX1_mayDifferAt 34 = .ok (.if_icmp .eq 18, 3) := by decide +kernel
theorem dX1_mayDifferAt_37 : decode cX1_mayDifferAt 37 = .ok (.aload_n 0, 1) := by decide +kernel
theorem dX1_mayDifferAt_38 : decode cX1_mayDifferAt 38 = .ok (.getfield 36, 3) := by decide +kernel
theorem dX1_mayDifferAt_41 : decode cX1_mayDifferAt 41 = .ok (.iload_n 3, 1) := by decide +kernel
theorem dX1_mayDifferAt_42 : decode cX1_mayDifferAt 42 = .ok (.aaload, 1) := by decide +kernel
theorem dX1_mayDifferAt_43 : decode cX1_mayDifferAt 43 = .ok (.getfield 59, 3) := by decide +kernel
theorem dX1_mayDifferAt_46 : decode cX1_mayDifferAt 46 = .ok (.iload_n 2, 1) := by decide +kernel
theorem dX1_mayDifferAt_47 : decode cX1_mayDifferAt 47 = .ok (.iconst 1, 1) := by decide +kernel
theorem dX1_mayDifferAt_48 : decode cX1_mayDifferAt 48 = .ok (.iadd, 1) := by decide +kernel
theorem dX1_mayDifferAt_49 : decode cX1_mayDifferAt 49 = .ok (.if_icmp .ne 5, 3) := by decide +kernel
theorem dX1_mayDifferAt_52 : decode cX1_mayDifferAt 52 = .ok (.iconst 1, 1) := by decide +kernel
theorem dX1_mayDifferAt_53 : decode cX1_mayDifferAt 53 = .ok (.ireturn, 1) := by decide +kernel
theorem dX1_mayDifferAt_54 : decode cX1_mayDifferAt 54 = .ok (.iinc 3 1, 3) := by decide +kernel
theorem dX1_mayDifferAt_57 : decode cX1_mayDifferAt 57 = .ok (.goto (-46), 3) := by decide +kernel
theorem dX1_mayDifferAt_60 : decode cX1_mayDifferAt 60 = .ok (.iconst 0, 1) := by decide +kernel
theorem dX1_mayDifferAt_61 : decode cX1_mayDifferAt 61 = .ok (.ireturn, 1) := by decide +kernel
theorem dX2_init_0 : decode cX2_init 0 = .ok (.aload_n 0, 1) := by decide +kernel
theorem dX2_init_1 : decode cX2_init 1 = .ok (.invokespecial 3, 3) := by decide +kernel
theorem dX2_init_4 : decode cX2_init 4 = .ok (.aload_n 0, 1) := by decide +kernel
theorem dX2_init_5 : decode cX2_init 5 = .ok (.iconst 0, 1) := by decide +kernel
theorem dX2_init_6 : decode cX2_init 6 = .ok (.putfield 9, 3) := by decide +kernel
theorem dX2_init_9 : decode cX2_init 9 = .ok (.aload_n 0, 1) := by decide +kernel
theorem dX2_init_10 : decode cX2_init 10 = .ok (.iconst 0, 1) := by decide +kernel
theorem dX2_init_11 : decode cX2_init 11 = .ok (.putfield 15, 3) := by decide +kernel
theorem dX2_init_14 : decode cX2_init 14 = .ok (.aload_n 0, 1) := by decide +kernel
theorem dX2_init_15 : decode cX2_init 15 = .ok (.bipush 40, 2) := by decide +kernel
theorem dX2_init_17 : decode cX2_init 17 = .ok (.newarray .int, 2) := by decide +kernel
theorem dX2_init_19 : decode cX2_init 19 = .ok (.putfield 18, 3) := by decide +kernel
theorem dX2_init_22 : decode cX2_init 22 = .ok (.return_, 1) := by decide +kernel
theorem dX2_isMissing_0 : decode cX2_isMissing 0 = .ok (.aload_n 0, 1) := by decide +kernel
theorem dX2_isMissing_1 : decode cX2_isMissing 1 = .ok (.getfield 9, 3) := by decide +kernel
theorem dX2_isMissing_4 : decode cX2_isMissing 4 = .ok (.ifCond .ne 7, 3) := by decide +kernel
theorem dX2_isMissing_7 : decode cX2_isMissing 7 = .ok (.iconst 1, 1) := by decide +kernel
theorem dX2_isMissing_8 : decode cX2_isMissing 8 = .ok (.goto 4, 3) := by decide +kernel
theorem dX2_isMissing_11 : decode cX2_isMissing 11 = .ok (.iconst 0, 1) := by decide +kernel
theorem dX2_isMissing_12 : decode cX2_isMissing 12 = .ok (.ireturn, 1) := by decide +kernel
theorem dX2_begin_0 : decode cX2_begin 0 = .ok (.aload_n 0, 1) := by decide +kernel
theorem dX2_begin_1 : decode cX2_begin 1 = .ok (.iload_n 1, 1) := by decide +kernel
theorem dX2_begin_2 : decode cX2_begin 2 = .ok (.putfield 9, 3) := by decide +kernel
theorem dX2_begin_5 : decode cX2_begin 5 = .ok (.aload_n 0, 1) := by decide +kernel
theorem dX2_begin_6 : decode cX2_begin 6 = .ok (.iload_n 1, 1) := by decide +kernel
theorem dX2_begin_7 : decode cX2_begin 7 = .ok (.ifCond .ne 7, 3) := by decide +kernel
theorem dX2_begin_10 : decode cX2_begin 10 = .ok (.iconst 0, 1) := by decide +kernel
theorem dX2_begin_11 : decode cX2_begin 11 = .ok (.goto 4, 3) := by decide +kernel
theorem dX2_begin_14 : decode cX2_begin 14 = .ok (.iload_n 2, 1) := by decide +kernel
theorem dX2_begin_15 : decode cX2_begin 15 = .ok (.putfield 15, 3) := by decide +kernel
theorem dX2_begin_18 : decode cX2_begin 18 = .ok (.iconst 0, 1) := by decide +kernel
theorem dX2_begin_19 : decode cX2_begin 19 = .ok (.istore_n 3, 1) := by decide +kernel
theorem dX2_begin_20 : decode cX2_begin 20 = .ok (.iload_n 3, 1) := by decide +kernel
theorem dX2_begin_21 : decode cX2_begin 21 = .ok (.bipush 40, 2) := by decide +kernel
theorem dX2_begin_23 : decode cX2_begin 23 = .ok (.if_icmp .ge 16, 3) := by decide +kernel
theorem dX2_begin_26 : decode cX2_begin 26 = .ok (.aload_n 0, 1) := by decide +kernel
theorem dX2_begin_27 : decode cX2_begin 27 = .ok (.getfield 18, 3) := by decide +kernel
theorem dX2_begin_30 : decode cX2_begin 30 = .ok (.iload_n 3, 1) := by decide +kernel
theorem dX2_begin_31 : decode cX2_begin 31 = .ok (.iconst 0, 1) := by decide +kernel
theorem dX2_begin_32 : decode cX2_begin 32 = .ok (.iastore, 1) := by decide +kernel
theorem dX2_begin_33 : decode cX2_begin 33 = .ok (.iinc 3 1, 3) := by decide +kernel
theorem dX2_begin_36 : decode cX2_begin 36 = .ok (.goto (-16), 3) := by decide +kernel
theorem dX2_begin_39 : decode cX2_begin 39 = .ok (.return_, 1) := by decide +kernel
theorem dX2_put_0 : decode cX2_put 0 = .ok (.aload_n 0, 1) := by decide +kernel
theorem dX2_put_1 : decode cX2_put 1 = .ok (.getfield 9, 3) := by decide +kernel
theorem dX2_put_4 : decode cX2_put 4 = .ok (.bipush 8, 2) := by decide +kernel
theorem dX2_put_6 : decode cX2_put 6 = .ok (.if_icmp .ne 14, 3) := by decide +kernel
theorem dX2_put_9 : decode cX2_put 9 = .ok (.aload_n 0, 1) := by decide +kernel
theorem dX2_put_10 : decode cX2_put 10 = .ok (.getfield 18, 3) := by decide +kernel
theorem dX2_put_13 : decode cX2_put 13 = .ok (.iload_n 1, 1) := by decide +kernel
theorem dX2_put_14 : decode cX2_put 14 = .ok (.iload_n 2, 1) := by decide +kernel
theorem dX2_put_15 : decode cX2_put 15 = .ok (.i2b, 1) := by decide +kernel
theorem dX2_put_16 : decode cX2_put 16 = .ok (.iastore, 1) := by decide +kernel
theorem dX2_put_17 : decode cX2_put 17 = .ok (.goto 30, 3) := by decide +kernel
theorem dX2_put_20 : decode cX2_put 20 = .ok (.aload_n 0, 1) := by decide +kernel
theorem dX2_put_21 : decode cX2_put 21 = .ok (.getfield 9, 3) := by decide +kernel
theorem dX2_put_24 : decode cX2_put 24 = .ok (.bipush 16, 2) := by decide +kernel
theorem dX2_put_26 : decode cX2_put 26 = .ok (.if_icmp .ne 14, 3) := by decide +kernel
theorem dX2_put_29 : decode cX2_put 29 = .ok (.aload_n 0, 1) := by decide +kernel
theorem dX2_put_30 : decode cX2_put 30 = .ok (.getfield 18, 3) := by decide +kernel
theorem dX2_put_33 : decode cX2_put 33 = .ok (.iload_n 1, 1) := by decide +kernel
theorem dX2_put_34 : decode cX2_put 34 = .ok (.iload_n 2, 1) := by decide +kernel
theorem dX2_put_35 : decode cX2_put 35 = .ok (.i2s, 1) := by decide +kernel
theorem dX2_put_36 : decode cX2_put 36 = .ok (.iastore, 1) := by decide +kernel
theorem dX2_put_37 : decode cX2_put 37 = .ok (.goto 10, 3) := by decide +kernel
theorem dX2_put_40 : decode cX2_put 40 = .ok (.aload_n 0, 1) := by decide +kernel
theorem dX2_put_41 : decode cX2_put 41 = .ok (.getfield 18, 3) := by decide +kernel
theorem dX2_put_44 : decode cX2_put 44 = .ok (.iload_n 1, 1) := by decide +kernel
theorem dX2_put_45 : decode cX2_put 45 = .ok (.iload_n 2, 1) := by decide +kernel
theorem dX2_put_46 : decode cX2_put 46 = .ok (.iastore, 1) := by decide +kernel
theorem dX2_put_47 : decode cX2_put 47 = .ok (.return_, 1) := by decide +kernel
theorem dX2_spans_0 : decode cX2_spans 0 = .ok (.iload_n 1, 1) := by decide +kernel
theorem dX2_spans_1 : decode cX2_spans 1 = .ok (.ifCond .lt 29, 3) := by decide +kernel
theorem dX2_spans_4 : decode cX2_spans 4 = .ok (.iload_n 2, 1) := by decide +kernel
theorem dX2_spans_5 : decode cX2_spans 5 = .ok (.ifCond .lt 25, 3) := by decide +kernel
theorem dX2_spans_8 : decode cX2_spans 8 = .ok (.iload_n 2, 1) := by decide +kernel
theorem dX2_spans_9 : decode cX2_spans 9 = .ok (.aload_n 0, 1) := by decide +kernel
theorem dX2_spans_10 : decode cX2_spans 10 = .ok (.getfield 15, 3) := by decide +kernel
theorem dX2_spans_13 : decode cX2_spans 13 = .ok (.if_icmp .gt 17, 3) := by decide +kernel
theorem dX2_spans_16 : decode cX2_spans 16 = .ok (.iload_n 1, 1) := by decide +kernel
theorem dX2_spans_17 : decode cX2_spans 17 = .ok (.aload_n 0, 1) := by decide +kernel
theorem dX2_spans_18 : decode cX2_spans 18 = .ok (.getfield 15, 3) := by decide +kernel
theorem dX2_spans_21 : decode cX2_spans 21 = .ok (.iload_n 2, 1) := by decide +kernel
theorem dX2_spans_22 : decode cX2_spans 22 = .ok (.isub, 1) := by decide +kernel
theorem dX2_spans_23 : decode cX2_spans 23 = .ok (.if_icmp .gt 7, 3) := by decide +kernel
theorem dX2_spans_26 : decode cX2_spans 26 = .ok (.iconst 1, 1) := by decide +kernel
theorem dX2_spans_27 : decode cX2_spans 27 = .ok (.goto 4, 3) := by decide +kernel
theorem dX2_spans_30 : decode cX2_spans 30 = .ok (.iconst 0, 1) := by decide +kernel
theorem dX2_spans_31 : decode cX2_spans 31 = .ok (.ireturn, 1) := by decide +kernel
theorem dX3_init_0 : decode cX3_init 0 = .ok (.aload_n 0, 1) := by decide +kernel
theorem dX3_init_1 : decode cX3_init 1 = .ok (.invokespecial 3, 3) := by decide +kernel
theorem dX3_init_4 : decode cX3_init 4 = .ok (.aload_n 0, 1) := by decide +kernel
theorem dX3_init_5 : decode cX3_init 5 = .ok (.bipush 120, 2) := by decide +kernel
theorem dX3_init_7 : decode cX3_init 7 = .ok (.newarray .int, 2) := by decide +kernel
theorem dX3_init_9 : decode cX3_init 9 = .ok (.putfield 9, 3) := by decide +kernel
theorem dX3_init_12 : decode cX3_init 12 = .ok (.aload_n 0, 1) := by decide +kernel
theorem dX3_init_13 : decode cX3_init 13 = .ok (.iconst 0, 1) := by decide +kernel
theorem dX3_init_14 : decode cX3_init 14 = .ok (.putfield 15, 3) := by decide +kernel
theorem dX3_init_17 : decode cX3_init 17 = .ok (.aload_n 0, 1) := by decide +kernel
theorem dX3_init_18 : decode cX3_init 18 = .ok (.iconst 0, 1) := by decide +kernel
theorem dX3_init_19 : decode cX3_init 19 = .ok (.putfield 19, 3) := by decide +kernel
theorem dX3_init_22 : decode cX3_init 22 = .ok (.aload_n 0, 1) := by decide +kernel
theorem dX3_init_23 : decode cX3_init 23 = .ok (.iconst 0, 1) := by decide +kernel
theorem dX3_init_24 : decode cX3_init 24 = .ok (.putfield 22, 3) := by decide +kernel
theorem dX3_init_27 : decode cX3_init 27 = .ok (.aload_n 0, 1) := by decide +kernel
theorem dX3_init_28 : decode cX3_init 28 = .ok (.iconst 0, 1) := by decide +kernel
theorem dX3_init_29 : decode cX3_init 29 = .ok (.putfield 25, 3) := by decide +kernel
theorem dX3_init_32 : decode cX3_init 32 = .ok (.aload_n 0, 1) := by decide +kernel
theorem dX3_init_33 : decode cX3_init 33 = .ok (.iconst 0, 1) := by decide +kernel
theorem dX3_init_34 : decode cX3_init 34 = .ok (.putfield 28, 3) := by decide +kernel
theorem dX3_init_37 : decode cX3_init 37 = .ok (.return_, 1) := by decide +kernel
theorem dX3_append_0 : decode cX3_append 0 = .ok (.aload_n 0, 1) := by decide +kernel
theorem dX3_append_1 : decode cX3_append 1 = .ok (.getfield 15, 3) := by decide +kernel
theorem dX3_append_4 : decode cX3_append 4 = .ok (.bipush 120, 2) := by decide +kernel
theorem dX3_append_6 : decode cX3_append 6 = .ok (.if_icmp .ge 23, 3) := by decide +kernel
theorem dX3_append_9 : decode cX3_append 9 = .ok (.aload_n 0, 1) := by decide +kernel
theorem dX3_append_10 : decode cX3_append 10 = .ok (.getfield 9, 3) := by decide +kernel
theorem dX3_append_13 : decode cX3_append 13 = .ok (.aload_n 0, 1) := by decide +kernel
theorem dX3_append_14 : decode cX3_append 14 = .ok (.getfield 15, 3) := by decide +kernel
theorem dX3_append_17 : decode cX3_append 17 = .ok (.iload_n 1, 1) := by decide +kernel
theorem dX3_append_18 : decode cX3_append 18 = .ok (.iastore, 1) := by decide +kernel
theorem dX3_append_19 : decode cX3_append 19 = .ok (.aload_n 0, 1) := by decide +kernel
theorem dX3_append_20 : decode cX3_append 20 = .ok (.dup, 1) := by decide +kernel
theorem dX3_append_21 : decode cX3_append 21 = .ok (.getfield 15, 3) := by decide +kernel
theorem dX3_append_24 : decode cX3_append 24 = .ok (.iconst 1, 1) := by decide +kernel
theorem dX3_append_25 : decode cX3_append 25 = .ok (.iadd, 1) := by decide +kernel
theorem dX3_append_26 : decode cX3_append 26 = .ok (.putfield 15, 3) := by decide +kernel
theorem dX3_append_29 : decode cX3_append 29 = .ok (.return_, 1) := by decide +kernel
theorem dX3_rewind_0 : decode cX3_rewind 0 = .ok (.aload_n 0, 1) := by decide +kernel
theorem dX3_rewind_1 : decode cX3_rewind 1 = .ok (.iconst 0, 1) := by decide +kernel
theorem dX3_rewind_2 : decode cX3_rewind 2 = .ok (.putfield 25, 3) := by decide +kernel
theorem dX3_rewind_5 : decode cX3_rewind 5 = .ok (.aload_n 0, 1) := by decide +kernel
theorem dX3_rewind_6 : decode cX3_rewind 6 = .ok (.invokevirtual 31, 3) := by decide +kernel
theorem dX3_rewind_9 : decode cX3_rewind 9 = .ok (.return_, 1) := by decide +kernel
theorem dX3_readToken_0 : decode cX3_readToken 0 = .ok (.aload_n 0, 1) := by decide +kernel
theorem dX3_readToken_1 : decode cX3_readToken 1 = .ok (.aload_n 0, 1) := by decide +kernel
theorem dX3_readToken_2 : decode cX3_readToken 2 = .ok (.getfield 25, 3) := by decide +kernel
theorem dX3_readToken_5 : decode cX3_readToken 5 = .ok (.putfield 22, 3) := by decide +kernel
theorem dX3_readToken_8 : decode cX3_readToken 8 = .ok (.aload_n 0, 1) := by decide +kernel
theorem dX3_readToken_9 : decode cX3_readToken 9 = .ok (.getfield 22, 3) := by decide +kernel
theorem dX3_readToken_12 : decode cX3_readToken 12 = .ok (.aload_n 0, 1) := by decide +kernel
theorem dX3_readToken_13 : decode cX3_readToken 13 = .ok (.getfield 15, 3) := by decide +kernel
theorem dX3_readToken_16 : decode cX3_readToken 16 = .ok (.if_icmp .ge 30, 3) := by decide +kernel
theorem dX3_readToken_19 : decode cX3_readToken 19 = .ok (.aload_n 0, 1) := by decide +kernel
theorem dX3_readToken_20 : decode cX3_readToken 20 = .ok (.getfield 9, 3) := by decide +kernel
theorem dX3_readToken_23 : decode cX3_readToken 23 = .ok (.aload_n 0, 1) := by decide +kernel
theorem dX3_readToken_24 : decode cX3_readToken 24 = .ok (.getfield 22, 3) := by decide +kernel
theorem dX3_readToken_27 : decode cX3_readToken 27 = .ok (.iaload, 1) := by decide +kernel
theorem dX3_readToken_28 : decode cX3_readToken 28 = .ok (.bipush 32, 2) := by decide +kernel
theorem dX3_readToken_30 : decode cX3_readToken 30 = .ok (.if_icmp .ne 16, 3) := by decide +kernel
theorem dX3_readToken_33 : decode cX3_readToken 33 = .ok (.aload_n 0, 1) := by decide +kernel
theorem dX3_readToken_34 : decode cX3_readToken 34 = .ok (.dup, 1) := by decide +kernel
theorem dX3_readToken_35 : decode cX3_readToken 35 = .ok (.getfield 22, 3) := by decide +kernel
theorem dX3_readToken_38 : decode cX3_readToken 38 = .ok (.iconst 1, 1) := by decide +kernel
theorem dX3_readToken_39 : decode cX3_readToken 39 = .ok (.iadd, 1) := by decide +kernel
theorem dX3_readToken_40 : decode cX3_readToken 40 = .ok (.putfield 22, 3) := by decide +kernel
theorem dX3_readToken_43 : decode cX3_readToken 43 = .ok (.goto (-35), 3) := by decide +kernel
theorem dX3_readToken_46 : decode cX3_readToken 46 = .ok (.aload_n 0, 1) := by decide +kernel
theorem dX3_readToken_47 : decode cX3_readToken 47 = .ok (.aload_n 0, 1) := by decide +kernel
theorem dX3_readToken_48 : decode cX3_readToken 48 = .ok (.getfield 22, 3) := by decide +kernel
theorem dX3_readToken_51 : decode cX3_readToken 51 = .ok (.putfield 25, 3) := by decide +kernel
theorem dX3_readToken_54 : decode cX3_readToken 54 = .ok (.aload_n 0, 1) := by decide +kernel
theorem dX3_readToken_55 : decode cX3_readToken 55 = .ok (.getfield 22, 3) := by decide +kernel
theorem dX3_readToken_58 : decode cX3_readToken 58 = .ok (.aload_n 0, 1) := by decide +kernel
theorem dX3_readToken_59 : decode cX3_readToken 59 = .ok (.getfield 15, 3) := by decide +kernel
theorem dX3_readToken_62 : decode cX3_readToken 62 = .ok (.if_icmp .lt 11, 3) := by decide +kernel
theorem dX3_readToken_65 : decode cX3_readToken 65 = .ok (.aload_n 0, 1) := by decide +kernel
theorem dX3_readToken_66 : decode cX3_readToken 66 = .ok (.iconst 0, 1) := by decide +kernel
theorem dX3_readToken_67 : decode cX3_readToken 67 = .ok (.putfield 19, 3) := by decide +kernel
theorem dX3_readToken_70 : decode cX3_readToken 70 = .ok (.goto 173, 3) := by decide +kernel
theorem dX3_readToken_73 : decode cX3_readToken 73 = .ok (.aload_n 0, 1) := by decide +kernel
theorem dX3_readToken_74 : decode cX3_readToken 74 = .ok (.aload_n 0, 1) := by decide +kernel
theorem dX3_readToken_75 : decode cX3_readToken 75 = .ok (.getfield 22, 3) := by decide +kernel
theorem dX3_readToken_78 : decode cX3_readToken 78 = .ok (.invokevirtual 34, 3) := by decide +kernel
theorem dX3_readToken_81 : decode cX3_readToken 81 = .ok (.ifCond .eq 43, 3) := by decide +kernel
theorem dX3_readToken_84 : decode cX3_readToken 84 = .ok (.aload_n 0, 1) := by decide +kernel
theorem dX3_readToken_85 : decode cX3_readToken 85 = .ok (.iconst 1, 1) := by decide +kernel
theorem dX3_readToken_86 : decode cX3_readToken 86 = .ok (.putfield 19, 3) := by decide +kernel
theorem dX3_readToken_89 : decode cX3_readToken 89 = .ok (.aload_n 0, 1) := by decide +kernel
theorem dX3_readToken_90 : decode cX3_readToken 90 = .ok (.getfield 25, 3) := by decide +kernel
theorem dX3_readToken_93 : decode cX3_readToken 93 = .ok (.aload_n 0, 1) := by decide +kernel
theorem dX3_readToken_94 : decode cX3_readToken 94 = .ok (.getfield 15, 3) := by decide +kernel
theorem dX3_readToken_97 : decode cX3_readToken 97 = .ok (.if_icmp .ge 146, 3) := by decide +kernel
theorem dX3_readToken_100 : decode cX3_readToken 100 = .ok (.aload_n 0, 1) := by decide +kernel
theorem dX3_readToken_101 : decode cX3_readToken 101 = .ok (.aload_n 0, 1) := by decide +kernel
theorem dX3_readToken_102 : decode cX3_readToken 102 = .ok (.getfield 25, 3) := by decide +kernel
theorem dX3_readToken_105 : decode cX3_readToken 105 = .ok (.invokevirtual 34, 3) := by decide +kernel
theorem dX3_readToken_108 : decode cX3_readToken 108 = .ok (.ifCond .eq 135, 3) := by decide +kernel
theorem dX3_readToken_111 : decode cX3_readToken 111 = .ok (.aload_n 0, 1) := by decide +kernel
theorem dX3_readToken_112 : decode cX3_readToken 112 = .ok (.dup, 1) := by decide +kernel
theorem dX3_readToken_113 : decode cX3_readToken 113 = .ok (.getfield 25, 3) := by decide +kernel
theorem dX3_readToken_116 : decode cX3_readToken 116 = .ok (.iconst 1, 1) := by decide +kernel
theorem dX3_readToken_117 : decode cX3_readToken 117 = .ok (.iadd, 1) := by decide +kernel
theorem dX3_readToken_118 : decode cX3_readToken 118 = .ok (.putfield 25, 3) := by decide +kernel
theorem dX3_readToken_121 : decode cX3_readToken 121 = .ok (.goto (-32), 3) := by decide +kernel
theorem dX3_readToken_124 : decode cX3_readToken 124 = .ok (.aload_n 0, 1) := by decide +kernel
theorem dX3_readToken_125 : decode cX3_readToken 125 = .ok (.aload_n 0, 1) := by decide +kernel
theorem dX3_readToken_126 : decode cX3_readToken 126 = .ok (.getfield 22, 3) := by decide +kernel
theorem dX3_readToken_129 : decode cX3_readToken 129 = .ok (.invokevirtual 38, 3) := by decide +kernel
theorem dX3_readToken_132 : decode cX3_readToken 132 = .ok (.ifCond .eq 78, 3) := by decide +kernel
theorem dX3_readToken_135 : decode cX3_readToken 135 = .ok (.aload_n 0, 1) := by decide +kernel
theorem dX3_readToken_136 : decode cX3_readToken 136 = .ok (.iconst 2, 1) := by decide +kernel
theorem dX3_readToken_137 : decode cX3_readToken 137 = .ok (.putfield 19, 3) := by decide +kernel
theorem dX3_readToken_140 : decode cX3_readToken 140 = .ok (.aload_n 0, 1) := by decide +kernel
theorem dX3_readToken_141 : decode cX3_readToken 141 = .ok (.iconst 0, 1) := by decide +kernel
theorem dX3_readToken_142 : decode cX3_readToken 142 = .ok (.putfield 28, 3) := by decide +kernel
theorem dX3_readToken_145 : decode cX3_readToken 145 = .ok (.aload_n 0, 1) := by decide +kernel
theorem dX3_readToken_146 : decode cX3_readToken 146 = .ok (.getfield 25, 3) := by decide +kernel
theorem dX3_readToken_149 : decode cX3_readToken 149 = .ok (.aload_n 0, 1) := by decide +kernel
theorem dX3_readToken_150 : decode cX3_readToken 150 = .ok (.getfield 15, 3) := by decide +kernel
theorem dX3_readToken_153 : decode cX3_readToken 153 = .ok (.if_icmp .ge 90, 3) := by decide +kernel
theorem dX3_readToken_156 : decode cX3_readToken 156 = .ok (.aload_n 0, 1) := by decide +kernel
theorem dX3_readToken_157 : decode cX3_readToken 157 = .ok (.aload_n 0, 1) := by decide +kernel
theorem dX3_readToken_158 : decode cX3_readToken 158 = .ok (.getfield 25, 3) := by decide +kernel
theorem dX3_readToken_161 : decode cX3_readToken 161 = .ok (.invokevirtual 38, 3) := by decide +kernel
theorem dX3_readToken_164 : decode cX3_readToken 164 = .ok (.ifCond .eq 79, 3) := by decide +kernel
theorem dX3_readToken_167 : decode cX3_readToken 167 = .ok (.aload_n 0, 1) := by decide +kernel
theorem dX3_readToken_168 : decode cX3_readToken 168 = .ok (.sipush 10000, 3) := by decide +kernel
theorem dX3_readToken_171 : decode cX3_readToken 171 = .ok (.bipush 10, 2) := by decide +kernel
theorem dX3_readToken_173 : decode cX3_readToken 173 = .ok (.aload_n 0, 1) := by decide +kernel
theorem dX3_readToken_174 : decode cX3_readToken 174 = .ok (.getfield 28, 3) := by decide +kernel
theorem dX3_readToken_177 : decode cX3_readToken 177 = .ok (.imul, 1) := by decide +kernel
theorem dX3_readToken_178 : decode cX3_readToken 178 = .ok (.aload_n 0, 1) := by decide +kernel
theorem dX3_readToken_179 : decode cX3_readToken 179 = .ok (.getfield 9, 3) := by decide +kernel
theorem dX3_readToken_182 : decode cX3_readToken 182 = .ok (.aload_n 0, 1) := by decide +kernel
theorem dX3_readToken_183 : decode cX3_readToken 183 = .ok (.getfield 25, 3) := by decide +kernel
theorem dX3_readToken_186 : decode cX3_readToken 186 = .ok (.iaload, 1) := by decide +kernel
theorem dX3_readToken_187 : decode cX3_readToken 187 = .ok (.iadd, 1) := by decide +kernel
theorem dX3_readToken_188 : decode cX3_readToken 188 = .ok (.bipush 48, 2) := by decide +kernel
theorem dX3_readToken_190 : decode cX3_readToken 190 = .ok (.isub, 1) := by decide +kernel
theorem dX3_readToken_191 : decode cX3_readToken 191 = .ok (.invokestatic 41, 3) := by decide +kernel
theorem dX3_readToken_194 : decode cX3_readToken 194 = .ok (.putfield 28, 3) := by decide +kernel
theorem dX3_readToken_197 : decode cX3_readToken 197 = .ok (.aload_n 0, 1) := by decide +kernel
theorem dX3_readToken_198 : decode cX3_readToken 198 = .ok (.dup, 1) := by decide +kernel
theorem dX3_readToken_199 : decode cX3_readToken 199 = .ok (.getfield 25, 3) := by decide +kernel
theorem dX3_readToken_202 : decode cX3_readToken 202 = .ok (.iconst 1, 1) := by decide +kernel
theorem dX3_readToken_203 : decode cX3_readToken 203 = .ok (.iadd, 1) := by decide +kernel
theorem dX3_readToken_204 : decode cX3_readToken 204 = .ok (.putfield 25, 3) := by decide +kernel
theorem dX3_readToken_207 : decode cX3_readToken 207 = .ok (.goto (-62), 3) := by decide +kernel
theorem dX3_readToken_210 : decode cX3_readToken 210 = .ok (.aload_n 0, 1) := by decide +kernel
theorem dX3_readToken_211 : decode cX3_readToken 211 = .ok (.aload_n 0, 1) := by decide +kernel
theorem dX3_readToken_212 : decode cX3_readToken 212 = .ok (.getfield 9, 3) := by decide +kernel
theorem dX3_readToken_215 : decode cX3_readToken 215 = .ok (.aload_n 0, 1) := by decide +kernel
theorem dX3_readToken_216 : decode cX3_readToken 216 = .ok (.getfield 22, 3) := by decide +kernel
theorem dX3_readToken_219 : decode cX3_readToken 219 = .ok (.iaload, 1) := by decide +kernel
theorem dX3_readToken_220 : decode cX3_readToken 220 = .ok (.bipush 59, 2) := by decide +kernel
theorem dX3_readToken_222 : decode cX3_readToken 222 = .ok (.if_icmp .ne 7, 3) := by decide +kernel
theorem dX3_readToken_225 : decode cX3_readToken 225 = .ok (.iconst 3, 1) := by decide +kernel
theorem dX3_readToken_226 : decode cX3_readToken 226 = .ok (.goto 4, 3) := by decide +kernel
theorem dX3_readToken_229 : decode cX3_readToken 229 = .ok (.iconst 4, 1) := by decide +kernel
theorem dX3_readToken_230 : decode cX3_readToken 230 = .ok (.putfield 19, 3) := by decide +kernel
theorem dX3_readToken_233 : decode cX3_readToken 233 = .ok (.aload_n 0, 1) := by decide +kernel
theorem dX3_readToken_234 : decode cX3_readToken 234 = .ok (.aload_n 0, 1) := by decide +kernel
theorem dX3_readToken_235 : decode cX3_readToken 235 = .ok (.getfield 22, 3) := by decide +kernel
theorem dX3_readToken_238 : decode cX3_readToken 238 = .ok (.iconst 1, 1) := by decide +kernel
theorem dX3_readToken_239 : decode cX3_readToken 239 = .ok (.iadd, 1) := by decide +kernel
theorem dX3_readToken_240 : decode cX3_readToken 240 = .ok (.putfield 25, 3) := by decide +kernel
theorem dX3_readToken_243 : decode cX3_readToken 243 = .ok (.return_, 1) := by decide +kernel
theorem dX3_isLetter_0 : decode cX3_isLetter 0 = .ok (.aload_n 0, 1) := by decide +kernel
theorem dX3_isLetter_1 : decode cX3_isLetter 1 = .ok (.getfield 9, 3) := by decide +kernel
theorem dX3_isLetter_4 : decode cX3_isLetter 4 = .ok (.iload_n 1, 1) := by decide +kernel
theorem dX3_isLetter_5 : decode cX3_isLetter 5 = .ok (.iaload, 1) := by decide +kernel
theorem dX3_isLetter_6 : decode cX3_isLetter 6 = .ok (.bipush 97, 2) := by decide +kernel
theorem dX3_isLetter_8 : decode cX3_isLetter 8 = .ok (.if_icmp .lt 18, 3) := by decide +kernel
theorem dX3_isLetter_11 : decode cX3_isLetter 11 = .ok (.aload_n 0, 1) := by decide +kernel
theorem dX3_isLetter_12 : decode cX3_isLetter 12 = .ok (.getfield 9, 3) := by decide +kernel
theorem dX3_isLetter_15 : decode cX3_isLetter 15 = .ok (.iload_n 1, 1) := by decide +kernel
theorem dX3_isLetter_16 : decode cX3_isLetter 16 = .ok (.iaload, 1) := by decide +kernel
theorem dX3_isLetter_17 : decode cX3_isLetter 17 = .ok (.bipush 122, 2) := by decide +kernel
theorem dX3_isLetter_19 : decode cX3_isLetter 19 = .ok (.if_icmp .gt 7, 3) := by decide +kernel
theorem dX3_isLetter_22 : decode cX3_isLetter 22 = .ok (.iconst 1, 1) := by decide +kernel
theorem dX3_isLetter_23 : decode cX3_isLetter 23 = .ok (.goto 4, 3) := by decide +kernel
theorem dX3_isLetter_26 : decode cX3_isLetter 26 = .ok (.iconst 0, 1) := by decide +kernel
theorem dX3_isLetter_27 : decode cX3_isLetter 27 = .ok (.ireturn, 1) := by decide +kernel
theorem dX3_isDigit_0 : decode cX3_isDigit 0 = .ok (.aload_n 0, 1) := by decide +kernel
theorem dX3_isDigit_1 : decode cX3_isDigit 1 = .ok (.getfield 9, 3) := by decide +kernel
theorem dX3_isDigit_4 : decode cX3_isDigit 4 = .ok (.iload_n 1, 1) := by decide +kernel
theorem dX3_isDigit_5 : decode cX3_isDigit 5 = .ok (.iaload, 1) := by decide +kernel
theorem dX3_isDigit_6 : decode cX3_isDigit 6 = .ok (.bipush 48, 2) := by decide +kernel
theorem dX3_isDigit_8 : decode cX3_isDigit 8 = .ok (.if_icmp .lt 18, 3) := by decide +kernel
theorem dX3_isDigit_11 : decode cX3_isDigit 11 = .ok (.aload_n 0, 1) := by decide +kernel
theorem dX3_isDigit_12 : decode cX3_isDigit 12 = .ok (.getfield 9, 3) := by decide +kernel
theorem dX3_isDigit_15 : decode cX3_isDigit 15 = .ok (.iload_n 1, 1) := by decide +kernel
theorem dX3_isDigit_16 : decode cX3_isDigit 16 = .ok (.iaload, 1) := by decide +kernel
theorem dX3_isDigit_17 : decode cX3_isDigit 17 = .ok (.bipush 57, 2) := by decide +kernel
theorem dX3_isDigit_19 : decode cX3_isDigit 19 = .ok (.if_icmp .gt 7, 3) := by decide +kernel
theorem dX3_isDigit_22 : decode cX3_isDigit 22 = .ok (.iconst 1, 1) := by decide +kernel
theorem dX3_isDigit_23 : decode cX3_isDigit 23 = .ok (.goto 4, 3) := by decide +kernel
theorem dX3_isDigit_26 : decode cX3_isDigit 26 = .ok (.iconst 0, 1) := by decide +kernel
theorem dX3_isDigit_27 : decode cX3_isDigit 27 = .ok (.ireturn, 1) := by decide +kernel
theorem dX3_isNumber_0 : decode cX3_isNumber 0 = .ok (.aload_n 0, 1) := by decide +kernel
theorem dX3_isNumber_1 : decode cX3_isNumber 1 = .ok (.getfield 19, 3) := by decide +kernel
theorem dX3_isNumber_4 : decode cX3_isNumber 4 = .ok (.iconst 2, 1) := by decide +kernel
theorem dX3_isNumber_5 : decode cX3_isNumber 5 = .ok (.if_icmp .ne 15, 3) := by decide +kernel
theorem dX3_isNumber_8 : decode cX3_isNumber 8 = .ok (.aload_n 0, 1) := by decide +kernel
theorem dX3_isNumber_9 : decode cX3_isNumber 9 = .ok (.getfield 28, 3) := by decide +kernel
theorem dX3_isNumber_12 : decode cX3_isNumber 12 = .ok (.iload_n 1, 1) := by decide +kernel
theorem dX3_isNumber_13 : decode cX3_isNumber 13 = .ok (.if_icmp .gt 7, 3) := by decide +kernel
theorem dX3_isNumber_16 : decode cX3_isNumber 16 = .ok (.iconst 1, 1) := by decide +kernel
theorem dX3_isNumber_17 : decode cX3_isNumber 17 = .ok (.goto 4, 3) := by decide +kernel
theorem dX3_isNumber_20 : decode cX3_isNumber 20 = .ok (.iconst 0, 1) := by decide +kernel
theorem dX3_isNumber_21 : decode cX3_isNumber 21 = .ok (.ireturn, 1) := by decide +kernel
theorem dX3_isWord_0 : decode cX3_isWord 0 = .ok (.aload_n 0, 1) := by decide +kernel
theorem dX3_isWord_1 : decode cX3_isWord 1 = .ok (.getfield 19, 3) := by decide +kernel
theorem dX3_isWord_4 : decode cX3_isWord 4 = .ok (.iconst 1, 1) := by decide +kernel
theorem dX3_isWord_5 : decode cX3_isWord 5 = .ok (.if_icmp .ne 19, 3) := by decide +kernel
theorem dX3_isWord_8 : decode cX3_isWord 8 = .ok (.aload_n 0, 1) := by decide +kernel
theorem dX3_isWord_9 : decode cX3_isWord 9 = .ok (.getfield 25, 3) := by decide +kernel
theorem dX3_isWord_12 : decode cX3_isWord 12 = .ok (.aload_n 0, 1) := by decide +kernel
theorem dX3_isWord_13 : decode cX3_isWord 13 = .ok (.getfield 22, 3) := by decide +kernel
theorem dX3_isWord_16 : decode cX3_isWord 16 = .ok (.isub, 1) := by decide +kernel
theorem dX3_isWord_17 : decode cX3_isWord 17 = .ok (.aload_n 1, 1) := by decide +kernel
theorem dX3_isWord_18 : decode cX3_isWord 18 = .ok (.invokevirtual 47, 3) := by decide +kernel
theorem dX3_isWord_21 : decode cX3_isWord 21 = .ok (.if_icmp .eq 5, 3) := by decide +kernel
theorem dX3_isWord_24 : decode cX3_isWord 24 = .ok (.iconst 0, 1) := by decide +kernel
theorem dX3_isWord_25 : decode cX3_isWord 25 = .ok (.ireturn, 1) := by decide +kernel
theorem dX3_isWord_26 : decode cX3_isWord 26 = .ok (.iconst 0, 1) := by decide +kernel
theorem dX3_isWord_27 : decode cX3_isWord 27 = .ok (.istore_n 2, 1) := by decide +kernel
theorem dX3_isWord_28 : decode cX3_isWord 28 = .ok (.iload_n 2, 1) := by decide +kernel
theorem dX3_isWord_29 : decode cX3_isWord 29 = .ok (.aload_n 1, 1) := by decide +kernel
theorem dX3_isWord_30 : decode cX3_isWord 30 = .ok (.invokevirtual 47, 3) := by decide +kernel
theorem dX3_isWord_33 : decode cX3_isWord 33 = .ok (.if_icmp .ge 30, 3) := by decide +kernel
theorem dX3_isWord_36 : decode cX3_isWord 36 = .ok (.aload_n 0, 1) := by decide +kernel
theorem dX3_isWord_37 : decode cX3_isWord 37 = .ok (.getfield 9, 3) := by decide +kernel
theorem dX3_isWord_40 : decode cX3_isWord 40 = .ok (.aload_n 0, 1) := by decide +kernel
theorem dX3_isWord_41 : decode cX3_isWord 41 = .ok (.getfield 22, 3) := by decide +kernel
theorem dX3_isWord_44 : decode cX3_isWord 44 = .ok (.iload_n 2, 1) := by decide +kernel
theorem dX3_isWord_45 : decode cX3_isWord 45 = .ok (.iadd, 1) := by decide +kernel
theorem dX3_isWord_46 : decode cX3_isWord 46 = .ok (.iaload, 1) := by decide +kernel
theorem dX3_isWord_47 : decode cX3_isWord 47 = .ok (.aload_n 1, 1) := by decide +kernel
theorem dX3_isWord_48 : decode cX3_isWord 48 = .ok (.iload_n 2, 1) := by decide +kernel
theorem dX3_isWord_49 : decode cX3_isWord 49 = .ok (.invokevirtual 52, 3) := by decide +kernel
theorem dX3_isWord_52 : decode cX3_isWord 52 = .ok (.if_icmp .eq 5, 3) := by decide +kernel
theorem dX3_isWord_55 : decode cX3_isWord 55 = .ok (.iconst 0, 1) := by decide +kernel
theorem dX3_isWord_56 : decode cX3_isWord 56 = .ok (.ireturn, 1) := by decide +kernel
theorem dX3_isWord_57 : decode cX3_isWord 57 = .ok (.iinc 2 1, 3) := by decide +kernel
theorem dX3_isWord_60 : decode cX3_isWord 60 = .ok (.goto (-32), 3) := by decide +kernel
theorem dX3_isWord_63 : decode cX3_isWord 63 = .ok (.iconst 1, 1) := by decide +kernel
theorem dX3_isWord_64 : decode cX3_isWord 64 = .ok (.ireturn, 1) := by decide +kernel
theorem dX4_init_0 : decode cX4_init 0 = .ok (.aload_n 0, 1) := by decide +kernel
theorem dX4_init_1 : decode cX4_init 1 = .ok (.invokespecial 3, 3) := by decide +kernel
theorem dX4_init_4 : decode cX4_init 4 = .ok (.aload_n 0, 1) := by decide +kernel
theorem dX4_init_5 : decode cX4_init 5 = .ok (.iconst 0, 1) := by decide +kernel
theorem dX4_init_6 : decode cX4_init 6 = .ok (.putfield 9, 3) := by decide +kernel
theorem dX4_init_9 : decode cX4_init 9 = .ok (.aload_n 0, 1) := by decide +kernel
theorem dX4_init_10 : decode cX4_init 10 = .ok (.iconst 0, 1) := by decide +kernel
theorem dX4_init_11 : decode cX4_init 11 = .ok (.putfield 15, 3) := by decide +kernel
theorem dX4_init_14 : decode cX4_init 14 = .ok (.aload_n 0, 1) := by decide +kernel
theorem dX4_init_15 : decode cX4_init 15 = .ok (.aload_n 1, 1) := by decide +kernel
theorem dX4_init_16 : decode cX4_init 16 = .ok (.putfield 18, 3) := by decide +kernel
theorem dX4_init_19 : decode cX4_init 19 = .ok (.aload_n 0, 1) := by decide +kernel
theorem dX4_init_20 : decode cX4_init 20 = .ok (.aload_n 2, 1) := by decide +kernel
theorem dX4_init_21 : decode cX4_init 21 = .ok (.putfield 22, 3) := by decide +kernel
theorem dX4_init_24 : decode cX4_init 24 = .ok (.return_, 1) := by decide +kernel
theorem dX4_readText_0 : decode cX4_readText 0 = .ok (.aload_n 0, 1) := by decide +kernel
theorem dX4_readText_1 : decode cX4_readText 1 = .ok (.getfield 18, 3) := by decide +kernel
theorem dX4_readText_4 : decode cX4_readText 4 = .ok (.invokevirtual 26, 3) := by decide +kernel
theorem dX4_readText_7 : decode cX4_readText 7 = .ok (.iconst 1, 1) := by decide +kernel
theorem dX4_readText_8 : decode cX4_readText 8 = .ok (.istore_n 1, 1) := by decide +kernel
theorem dX4_readText_9 : decode cX4_readText 9 = .ok (.iload_n 1, 1) := by decide +kernel
theorem dX4_readText_10 : decode cX4_readText 10 = .ok (.bipush 120, 2) := by decide +kernel
theorem dX4_readText_12 : decode cX4_readText 12 = .ok (.if_icmp .gt 52, 3) := by decide +kernel
theorem dX4_readText_15 : decode cX4_readText 15 = .ok (.aload_n 0, 1) := by decide +kernel
theorem dX4_readText_16 : decode cX4_readText 16 = .ok (.invokevirtual 31, 3) := by decide +kernel
theorem dX4_readText_19 : decode cX4_readText 19 = .ok (.ifCond .ne 6, 3) := by decide +kernel
theorem dX4_readText_22 : decode cX4_readText 22 = .ok (.goto 42, 3) := by decide +kernel
theorem dX4_readText_25 : decode cX4_readText 25 = .ok (.aload_n 0, 1) := by decide +kernel
theorem dX4_readText_26 : decode cX4_readText 26 = .ok (.getfield 18, 3) := by decide +kernel
theorem dX4_readText_29 : decode cX4_readText 29 = .ok (.getfield 35, 3) := by decide +kernel
theorem dX4_readText_32 : decode cX4_readText 32 = .ok (.ifCond .ne 5, 3) := by decide +kernel
theorem dX4_readText_35 : decode cX4_readText 35 = .ok (.iload_n 1, 1) := by decide +kernel
theorem dX4_readText_36 : decode cX4_readText 36 = .ok (.ireturn, 1) := by decide +kernel
theorem dX4_readText_37 : decode cX4_readText 37 = .ok (.aload_n 0, 1) := by decide +kernel
theorem dX4_readText_38 : decode cX4_readText 38 = .ok (.getfield 18, 3) := by decide +kernel
theorem dX4_readText_41 : decode cX4_readText 41 = .ok (.getfield 35, 3) := by decide +kernel
theorem dX4_readText_44 : decode cX4_readText 44 = .ok (.iconst 3, 1) := by decide +kernel
theorem dX4_readText_45 : decode cX4_readText 45 = .ok (.if_icmp .eq 6, 3) := by decide +kernel
theorem dX4_readText_48 : decode cX4_readText 48 = .ok (.goto 16, 3) := by decide +kernel
theorem dX4_readText_51 : decode cX4_readText 51 = .ok (.aload_n 0, 1) := by decide +kernel
theorem dX4_readText_52 : decode cX4_readText 52 = .ok (.getfield 18, 3) := by decide +kernel
theorem dX4_readText_55 : decode cX4_readText 55 = .ok (.invokevirtual 38, 3) := by decide +kernel
theorem dX4_readText_58 : decode cX4_readText 58 = .ok (.iinc 1 1, 3) := by decide +kernel
theorem dX4_readText_61 : decode cX4_readText 61 = .ok (.goto (-52), 3) := by decide +kernel
theorem dX4_readText_64 : decode cX4_readText 64 = .ok (.iconst (-1), 1) := by decide +kernel
theorem dX4_readText_65 : decode cX4_readText 65 = .ok (.aload_n 0, 1) := by decide +kernel
theorem dX4_readText_66 : decode cX4_readText 66 = .ok (.getfield 18, 3) := by decide +kernel
theorem dX4_readText_69 : decode cX4_readText 69 = .ok (.getfield 41, 3) := by decide +kernel
theorem dX4_readText_72 : decode cX4_readText 72 = .ok (.isub, 1) := by decide +kernel
theorem dX4_readText_73 : decode cX4_readText 73 = .ok (.ireturn, 1) := by decide +kernel
theorem dX4_readItem_0 : decode cX4_readItem 0 = .ok (.aload_n 0, 1) := by decide +kernel
theorem dX4_readItem_1 : decode cX4_readItem 1 = .ok (.getfield 18, 3) := by decide +kernel
theorem dX4_readItem_4 : decode cX4_readItem 4 = .ok (.ldc 44, 2) := by decide +kernel
theorem dX4_readItem_6 : decode cX4_readItem 6 = .ok (.invokevirtual 46, 3) := by decide +kernel
theorem dX4_readItem_9 : decode cX4_readItem 9 = .ok (.ifCond .eq 8, 3) := by decide +kernel
theorem dX4_readItem_12 : decode cX4_readItem 12 = .ok (.aload_n 0, 1) := by decide +kernel
theorem dX4_readItem_13 : decode cX4_readItem 13 = .ok (.invokevirtual 50, 3) := by decide +kernel
theorem dX4_readItem_16 : decode cX4_readItem 16 = .ok (.ireturn, 1) := by decide +kernel
theorem dX4_readItem_17 : decode cX4_readItem 17 = .ok (.aload_n 0, 1) := by decide +kernel
theorem dX4_readItem_18 : decode cX4_readItem 18 = .ok (.getfield 18, 3) := by decide +kernel
theorem dX4_readItem_21 : decode cX4_readItem 21 = .ok (.ldc 53, 2) := by decide +kernel
theorem dX4_readItem_23 : decode cX4_readItem 23 = .ok (.invokevirtual 46, 3) := by decide +kernel
theorem dX4_readItem_26 : decode cX4_readItem 26 = .ok (.ifCond .eq 8, 3) := by decide +kernel
theorem dX4_readItem_29 : decode cX4_readItem 29 = .ok (.aload_n 0, 1) := by decide +kernel
theorem dX4_readItem_30 : decode cX4_readItem 30 = .ok (.invokevirtual 55, 3) := by decide +kernel
theorem dX4_readItem_33 : decode cX4_readItem 33 = .ok (.ireturn, 1) := by decide +kernel
theorem dX4_readItem_34 : decode cX4_readItem 34 = .ok (.iconst 0, 1) := by decide +kernel
theorem dX4_readItem_35 : decode cX4_readItem 35 = .ok (.istore_n 1, 1) := by decide +kernel
theorem dX4_readItem_36 : decode cX4_readItem 36 = .ok (.iload_n 1, 1) := by decide +kernel
theorem dX4_readItem_37 : decode cX4_readItem 37 = .ok (.bipush 7, 2) := by decide +kernel
theorem dX4_readItem_39 : decode cX4_readItem 39 = .ok (.if_icmp .ge 29, 3) := by decide +kernel
theorem dX4_readItem_42 : decode cX4_readItem 42 = .ok (.aload_n 0, 1) := by decide +kernel
theorem dX4_readItem_43 : decode cX4_readItem 43 = .ok (.getfield 18, 3) := by decide +kernel
theorem dX4_readItem_46 : decode cX4_readItem 46 = .ok (.iload_n 1, 1) := by decide +kernel
theorem dX4_readItem_47 : decode cX4_readItem 47 = .ok (.invokestatic 58, 3) := by decide +kernel
theorem dX4_readItem_50 : decode cX4_readItem 50 = .ok (.invokevirtual 46, 3) := by decide +kernel
theorem dX4_readItem_53 : decode cX4_readItem 53 = .ok (.ifCond .eq 9, 3) := by decide +kernel
theorem dX4_readItem_56 : decode cX4_readItem 56 = .ok (.aload_n 0, 1) := by decide +kernel
theorem dX4_readItem_57 : decode cX4_readItem 57 = .ok (.iload_n 1, 1) := by decide +kernel
theorem dX4_readItem_58 : decode cX4_readItem 58 = .ok (.invokevirtual 62, 3) := by decide +kernel
theorem dX4_readItem_61 : decode cX4_readItem 61 = .ok (.ireturn, 1) := by decide +kernel
theorem dX4_readItem_62 : decode cX4_readItem 62 = .ok (.iinc 1 1, 3) := by decide +kernel
theorem dX4_readItem_65 : decode cX4_readItem 65 = .ok (.goto (-29), 3) := by decide +kernel
theorem dX4_readItem_68 : decode cX4_readItem 68 = .ok (.iconst 0, 1) := by decide +kernel
theorem dX4_readItem_69 : decode cX4_readItem 69 = .ok (.ireturn, 1) := by decide +kernel
theorem dX4_wordOf_0 : decode cX4_wordOf 0 = .ok (.iload_n 0, 1) := by decide +kernel
theorem dX4_wordOf_1 : decode cX4_wordOf 1 = .ok (.tableswitch 57 1 6 #[39, 42, 45, 48, 51, 54], 39) := by decide +kernel
theorem dX4_wordOf_40 : decode cX4_wordOf 40 = .ok (.ldc 66, 2) := by decide +kernel
theorem dX4_wordOf_42 : decode cX4_wordOf 42 = .ok (.areturn, 1) := by decide +kernel
theorem dX4_wordOf_43 : decode cX4_wordOf 43 = .ok (.ldc 68, 2) := by decide +kernel
theorem dX4_wordOf_45 : decode cX4_wordOf 45 = .ok (.areturn, 1) := by decide +kernel
theorem dX4_wordOf_46 : decode cX4_wordOf 46 = .ok (.ldc 70, 2) := by decide +kernel
theorem dX4_wordOf_48 : decode cX4_wordOf 48 = .ok (.areturn, 1) := by decide +kernel
theorem dX4_wordOf_49 : decode cX4_wordOf 49 = .ok (.ldc 72, 2) := by decide +kernel
theorem dX4_wordOf_51 : decode cX4_wordOf 51 = .ok (.areturn, 1) := by decide +kernel
theorem dX4_wordOf_52 : decode cX4_wordOf 52 = .ok (.ldc 74, 2) := by decide +kernel
theorem dX4_wordOf_54 : decode cX4_wordOf 54 = .ok (.areturn, 1) := by decide +kernel
theorem dX4_wordOf_55 : decode cX4_wordOf 55 = .ok (.ldc 76, 2) := by decide +kernel
theorem dX4_wordOf_57 : decode cX4_wordOf 57 = .ok (.areturn, 1) := by decide +kernel
theorem dX4_wordOf_58 : decode cX4_wordOf 58 = .ok (.ldc 78, 2) := by decide +kernel
theorem dX4_wordOf_60 : decode cX4_wordOf 60 = .ok (.areturn, 1) := by decide +kernel
theorem dX4_readBequest_0 : decode cX4_readBequest 0 = .ok (.aload_n 0, 1) := by decide +kernel
theorem dX4_readBequest_1 : decode cX4_readBequest 1 = .ok (.iconst 5, 1) := by decide +kernel
theorem dX4_readBequest_2 : decode cX4_readBequest 2 = .ok (.bipush 12, 2) := by decide +kernel
theorem dX4_readBequest_4 : decode cX4_readBequest 4 = .ok (.invokevirtual 80, 3) := by decide +kernel
theorem dX4_readBequest_7 : decode cX4_readBequest 7 = .ok (.ifCond .ne 5, 3) := by decide +kernel
theorem dX4_readBequest_10 : decode cX4_readBequest 10 = .ok (.iconst 0, 1) := by decide +kernel
theorem dX4_readBequest_11 : decode cX4_readBequest 11 = .ok (.ireturn, 1) := by decide +kernel
theorem dX4_readBequest_12 : decode cX4_readBequest 12 = .ok (.aload_n 0, 1) := by decide +kernel
theorem dX4_readBequest_13 : decode cX4_readBequest 13 = .ok (.getfield 22, 3) := by decide +kernel
theorem dX4_readBequest_16 : decode cX4_readBequest 16 = .ok (.getfield 84, 3) := by decide +kernel
theorem dX4_readBequest_19 : decode cX4_readBequest 19 = .ok (.aload_n 0, 1) := by decide +kernel
theorem dX4_readBequest_20 : decode cX4_readBequest 20 = .ok (.getfield 9, 3) := by decide +kernel
theorem dX4_readBequest_23 : decode cX4_readBequest 23 = .ok (.aload_n 0, 1) := by decide +kernel
theorem dX4_readBequest_24 : decode cX4_readBequest 24 = .ok (.getfield 15, 3) := by decide +kernel
theorem dX4_readBequest_27 : decode cX4_readBequest 27 = .ok (.iastore, 1) := by decide +kernel
theorem dX4_readBequest_28 : decode cX4_readBequest 28 = .ok (.iconst 1, 1) := by decide +kernel
theorem dX4_readBequest_29 : decode cX4_readBequest 29 = .ok (.ireturn, 1) := by decide +kernel
theorem dX4_readStore_0 : decode cX4_readStore 0 = .ok (.aload_n 0, 1) := by decide +kernel
theorem dX4_readStore_1 : decode cX4_readStore 1 = .ok (.bipush 11, 2) := by decide +kernel
theorem dX4_readStore_3 : decode cX4_readStore 3 = .ok (.bipush 99, 2) := by decide +kernel
theorem dX4_readStore_5 : decode cX4_readStore 5 = .ok (.invokevirtual 80, 3) := by decide +kernel
theorem dX4_readStore_8 : decode cX4_readStore 8 = .ok (.ifCond .ne 5, 3) := by decide +kernel
theorem dX4_readStore_11 : decode cX4_readStore 11 = .ok (.iconst 0, 1) := by decide +kernel
theorem dX4_readStore_12 : decode cX4_readStore 12 = .ok (.ireturn, 1) := by decide +kernel
theorem dX4_readStore_13 : decode cX4_readStore 13 = .ok (.aload_n 0, 1) := by decide +kernel
theorem dX4_readStore_14 : decode cX4_readStore 14 = .ok (.getfield 22, 3) := by decide +kernel
theorem dX4_readStore_17 : decode cX4_readStore 17 = .ok (.getfield 90, 3) := by decide +kernel
theorem dX4_readStore_20 : decode cX4_readStore 20 = .ok (.aload_n 0, 1) := by decide +kernel
theorem dX4_readStore_21 : decode cX4_readStore 21 = .ok (.getfield 9, 3) := by decide +kernel
theorem dX4_readStore_24 : decode cX4_readStore 24 = .ok (.aload_n 0, 1) := by decide +kernel
theorem dX4_readStore_25 : decode cX4_readStore 25 = .ok (.getfield 15, 3) := by decide +kernel
theorem dX4_readStore_28 : decode cX4_readStore 28 = .ok (.iastore, 1) := by decide +kernel
theorem dX4_readStore_29 : decode cX4_readStore 29 = .ok (.iconst 1, 1) := by decide +kernel
theorem dX4_readStore_30 : decode cX4_readStore 30 = .ok (.ireturn, 1) := by decide +kernel
theorem dX4_readTwoNumbers_0 : decode cX4_readTwoNumbers 0 = .ok (.aload_n 0, 1) := by decide +kernel
theorem dX4_readTwoNumbers_1 : decode cX4_readTwoNumbers 1 = .ok (.getfield 18, 3) := by decide +kernel
theorem dX4_readTwoNumbers_4 : decode cX4_readTwoNumbers 4 = .ok (.invokevirtual 38, 3) := by decide +kernel
theorem dX4_readTwoNumbers_7 : decode cX4_readTwoNumbers 7 = .ok (.aload_n 0, 1) := by decide +kernel
theorem dX4_readTwoNumbers_8 : decode cX4_readTwoNumbers 8 = .ok (.getfield 18, 3) := by decide +kernel
theorem dX4_readTwoNumbers_11 : decode cX4_readTwoNumbers 11 = .ok (.iload_n 1, 1) := by decide +kernel
theorem dX4_readTwoNumbers_12 : decode cX4_readTwoNumbers 12 = .ok (.invokevirtual 92, 3) := by decide +kernel
theorem dX4_readTwoNumbers_15 : decode cX4_readTwoNumbers 15 = .ok (.ifCond .ne 5, 3) := by decide +kernel
theorem dX4_readTwoNumbers_18 : decode cX4_readTwoNumbers 18 = .ok (.iconst 0, 1) := by decide +kernel
theorem dX4_readTwoNumbers_19 : decode cX4_readTwoNumbers 19 = .ok (.ireturn, 1) := by decide +kernel
theorem dX4_readTwoNumbers_20 : decode cX4_readTwoNumbers 20 = .ok (.aload_n 0, 1) := by decide +kernel
theorem dX4_readTwoNumbers_21 : decode cX4_readTwoNumbers 21 = .ok (.aload_n 0, 1) := by decide +kernel
theorem dX4_readTwoNumbers_22 : decode cX4_readTwoNumbers 22 = .ok (.getfield 18, 3) := by decide +kernel
theorem dX4_readTwoNumbers_25 : decode cX4_readTwoNumbers 25 = .ok (.getfield 95, 3) := by decide +kernel
theorem dX4_readTwoNumbers_28 : decode cX4_readTwoNumbers 28 = .ok (.putfield 9, 3) := by decide +kernel
theorem dX4_readTwoNumbers_31 : decode cX4_readTwoNumbers 31 = .ok (.aload_n 0, 1) := by decide +kernel
theorem dX4_readTwoNumbers_32 : decode cX4_readTwoNumbers 32 = .ok (.getfield 18, 3) := by decide +kernel
theorem dX4_readTwoNumbers_35 : decode cX4_readTwoNumbers 35 = .ok (.invokevirtual 38, 3) := by decide +kernel
theorem dX4_readTwoNumbers_38 : decode cX4_readTwoNumbers 38 = .ok (.aload_n 0, 1) := by decide +kernel
theorem dX4_readTwoNumbers_39 : decode cX4_readTwoNumbers 39 = .ok (.getfield 18, 3) := by decide +kernel
theorem dX4_readTwoNumbers_42 : decode cX4_readTwoNumbers 42 = .ok (.iload_n 2, 1) := by decide +kernel
theorem dX4_readTwoNumbers_43 : decode cX4_readTwoNumbers 43 = .ok (.invokevirtual 92, 3) := by decide +kernel
theorem dX4_readTwoNumbers_46 : decode cX4_readTwoNumbers 46 = .ok (.ifCond .ne 5, 3) := by decide +kernel
theorem dX4_readTwoNumbers_49 : decode cX4_readTwoNumbers 49 = .ok (.iconst 0, 1) := by decide +kernel
theorem dX4_readTwoNumbers_50 : decode cX4_readTwoNumbers 50 = .ok (.ireturn, 1) := by decide +kernel
theorem dX4_readTwoNumbers_51 : decode cX4_readTwoNumbers 51 = .ok (.aload_n 0, 1) := by decide +kernel
theorem dX4_readTwoNumbers_52 : decode cX4_readTwoNumbers 52 = .ok (.aload_n 0, 1) := by decide +kernel
theorem dX4_readTwoNumbers_53 : decode cX4_readTwoNumbers 53 = .ok (.getfield 18, 3) := by decide +kernel
theorem dX4_readTwoNumbers_56 : decode cX4_readTwoNumbers 56 = .ok (.getfield 95, 3) := by decide +kernel
theorem dX4_readTwoNumbers_59 : decode cX4_readTwoNumbers 59 = .ok (.putfield 15, 3) := by decide +kernel
theorem dX4_readTwoNumbers_62 : decode cX4_readTwoNumbers 62 = .ok (.aload_n 0, 1) := by decide +kernel
theorem dX4_readTwoNumbers_63 : decode cX4_readTwoNumbers 63 = .ok (.getfield 18, 3) := by decide +kernel
theorem dX4_readTwoNumbers_66 : decode cX4_readTwoNumbers 66 = .ok (.invokevirtual 38, 3) := by decide +kernel
theorem dX4_readTwoNumbers_69 : decode cX4_readTwoNumbers 69 = .ok (.iconst 1, 1) := by decide +kernel
theorem dX4_readTwoNumbers_70 : decode cX4_readTwoNumbers 70 = .ok (.ireturn, 1) := by decide +kernel
theorem dX4_readBust_0 : decode cX4_readBust 0 = .ok (.aload_n 0, 1) := by decide +kernel
theorem dX4_readBust_1 : decode cX4_readBust 1 = .ok (.getfield 22, 3) := by decide +kernel
theorem dX4_readBust_4 : decode cX4_readBust 4 = .ok (.invokevirtual 98, 3) := by decide +kernel
theorem dX4_readBust_7 : decode cX4_readBust 7 = .ok (.ifCond .eq 5, 3) := by decide +kernel
theorem dX4_readBust_10 : decode cX4_readBust 10 = .ok (.iconst 0, 1) := by decide +kernel
theorem dX4_readBust_11 : decode cX4_readBust 11 = .ok (.ireturn, 1) := by decide +kernel
theorem dX4_readBust_12 : decode cX4_readBust 12 = .ok (.aload_n 0, 1) := by decide +kernel
theorem dX4_readBust_13 : decode cX4_readBust 13 = .ok (.getfield 18, 3) := by decide +kernel
theorem dX4_readBust_16 : decode cX4_readBust 16 = .ok (.invokevirtual 38, 3) := by decide +kernel
theorem dX4_readBust_19 : decode cX4_readBust 19 = .ok (.aload_n 0, 1) := by decide +kernel
theorem dX4_readBust_20 : decode cX4_readBust 20 = .ok (.getfield 18, 3) := by decide +kernel
theorem dX4_readBust_23 : decode cX4_readBust 23 = .ok (.sipush 999, 3) := by decide +kernel
theorem dX4_readBust_26 : decode cX4_readBust 26 = .ok (.invokevirtual 92, 3) := by decide +kernel
theorem dX4_readBust_29 : decode cX4_readBust 29 = .ok (.ifCond .ne 5, 3) := by decide +kernel
theorem dX4_readBust_32 : decode cX4_readBust 32 = .ok (.iconst 0, 1) := by decide +kernel
theorem dX4_readBust_33 : decode cX4_readBust 33 = .ok (.ireturn, 1) := by decide +kernel
theorem dX4_readBust_34 : decode cX4_readBust 34 = .ok (.aload_n 0, 1) := by decide +kernel
theorem dX4_readBust_35 : decode cX4_readBust 35 = .ok (.getfield 22, 3) := by decide +kernel
theorem dX4_readBust_38 : decode cX4_readBust 38 = .ok (.getfield 101, 3) := by decide +kernel
theorem dX4_readBust_41 : decode cX4_readBust 41 = .ok (.aload_n 0, 1) := by decide +kernel
theorem dX4_readBust_42 : decode cX4_readBust 42 = .ok (.getfield 22, 3) := by decide +kernel
theorem dX4_readBust_45 : decode cX4_readBust 45 = .ok (.iload_n 1, 1) := by decide +kernel
theorem dX4_readBust_46 : decode cX4_readBust 46 = .ok (.aload_n 0, 1) := by decide +kernel
theorem dX4_readBust_47 : decode cX4_readBust 47 = .ok (.getfield 18, 3) := by decide +kernel
theorem dX4_readBust_50 : decode cX4_readBust 50 = .ok (.getfield 95, 3) := by decide +kernel
theorem dX4_readBust_53 : decode cX4_readBust 53 = .ok (.invokevirtual 105, 3) := by decide +kernel
theorem dX4_readBust_56 : decode cX4_readBust 56 = .ok (.aaload, 1) := by decide +kernel
theorem dX4_readBust_57 : decode cX4_readBust 57 = .ok (.astore_n 2, 1) := by decide +kernel
theorem dX4_readBust_58 : decode cX4_readBust 58 = .ok (.aload_n 0, 1) := by decide +kernel
theorem dX4_readBust_59 : decode cX4_readBust 59 = .ok (.getfield 18, 3) := by decide +kernel
theorem dX4_readBust_62 : decode cX4_readBust 62 = .ok (.invokevirtual 38, 3) := by decide +kernel
theorem dX4_readBust_65 : decode cX4_readBust 65 = .ok (.aload_n 0, 1) := by decide +kernel
theorem dX4_readBust_66 : decode cX4_readBust 66 = .ok (.aload_n 2, 1) := by decide +kernel
theorem dX4_readBust_67 : decode cX4_readBust 67 = .ok (.ldc 109, 2) := by decide +kernel
theorem dX4_readBust_69 : decode cX4_readBust 69 = .ok (.iconst 2, 1) := by decide +kernel
theorem dX4_readBust_70 : decode cX4_readBust 70 = .ok (.invokevirtual 111, 3) := by decide +kernel
theorem dX4_readBust_73 : decode cX4_readBust 73 = .ok (.ifCond .eq 26, 3) := by decide +kernel
theorem dX4_readBust_76 : decode cX4_readBust 76 = .ok (.aload_n 0, 1) := by decide +kernel
theorem dX4_readBust_77 : decode cX4_readBust 77 = .ok (.aload_n 2, 1) := by decide +kernel
theorem dX4_readBust_78 : decode cX4_readBust 78 = .ok (.ldc 115, 2) := by decide +kernel
theorem dX4_readBust_80 : decode cX4_readBust 80 = .ok (.iconst 3, 1) := by decide +kernel
theorem dX4_readBust_81 : decode cX4_readBust 81 = .ok (.invokevirtual 111, 3) := by decide +kernel
theorem dX4_readBust_84 : decode cX4_readBust 84 = .ok (.ifCond .eq 15, 3) := by decide +kernel
theorem dX4_readBust_87 : decode cX4_readBust 87 = .ok (.aload_n 0, 1) := by decide +kernel
theorem dX4_readBust_88 : decode cX4_readBust 88 = .ok (.aload_n 2, 1) := by decide +kernel
theorem dX4_readBust_89 : decode cX4_readBust 89 = .ok (.invokevirtual 117, 3) := by decide +kernel
theorem dX4_readBust_92 : decode cX4_readBust 92 = .ok (.ifCond .eq 7, 3) := by decide +kernel
theorem dX4_readBust_95 : decode cX4_readBust 95 = .ok (.iconst 1, 1) := by decide +kernel
theorem dX4_readBust_96 : decode cX4_readBust 96 = .ok (.goto 4, 3) := by decide +kernel
theorem dX4_readBust_99 : decode cX4_readBust 99 = .ok (.iconst 0, 1) := by decide +kernel
theorem dX4_readBust_100 : decode cX4_readBust 100 = .ok (.ireturn, 1) := by decide +kernel
theorem dX4_readMore_0 : decode cX4_readMore 0 = .ok (.aload_n 0, 1) := by decide +kernel
theorem dX4_readMore_1 : decode cX4_readMore 1 = .ok (.getfield 18, 3) := by decide +kernel
theorem dX4_readMore_4 : decode cX4_readMore 4 = .ok (.aload_n 2, 1) := by decide +kernel
theorem dX4_readMore_5 : decode cX4_readMore 5 = .ok (.invokevirtual 46, 3) := by decide +kernel
theorem dX4_readMore_8 : decode cX4_readMore 8 = .ok (.ifCond .ne 5, 3) := by decide +kernel
theorem dX4_readMore_11 : decode cX4_readMore 11 = .ok (.iconst 1, 1) := by decide +kernel
theorem dX4_readMore_12 : decode cX4_readMore 12 = .ok (.ireturn, 1) := by decide +kernel
theorem dX4_readMore_13 : decode cX4_readMore 13 = .ok (.aload_n 0, 1) := by decide +kernel
theorem dX4_readMore_14 : decode cX4_readMore 14 = .ok (.getfield 18, 3) := by decide +kernel
theorem dX4_readMore_17 : decode cX4_readMore 17 = .ok (.invokevirtual 38, 3) := by decide +kernel
theorem dX4_readMore_20 : decode cX4_readMore 20 = .ok (.aload_n 0, 1) := by decide +kernel
theorem dX4_readMore_21 : decode cX4_readMore 21 = .ok (.getfield 18, 3) := by decide +kernel
theorem dX4_readMore_24 : decode cX4_readMore 24 = .ok (.getstatic 121, 3) := by decide +kernel
theorem dX4_readMore_27 : decode cX4_readMore 27 = .ok (.iload_n 3, 1) := by decide +kernel
theorem dX4_readMore_28 : decode cX4_readMore 28 = .ok (.iaload, 1) := by decide +kernel
theorem dX4_readMore_29 : decode cX4_readMore 29 = .ok (.invokevirtual 92, 3) := by decide +kernel
theorem dX4_readMore_32 : decode cX4_readMore 32 = .ok (.ifCond .ne 5, 3) := by decide +kernel
theorem dX4_readMore_35 : decode cX4_readMore 35 = .ok (.iconst 0, 1) := by decide +kernel
theorem dX4_readMore_36 : decode cX4_readMore 36 = .ok (.ireturn, 1) := by decide +kernel
theorem dX4_readMore_37 : decode cX4_readMore 37 = .ok (.aload_n 1, 1) := by decide +kernel
theorem dX4_readMore_38 : decode cX4_readMore 38 = .ok (.iload_n 3, 1) := by decide +kernel
theorem dX4_readMore_39 : decode cX4_readMore 39 = .ok (.aload_n 0, 1) := by decide +kernel
theorem dX4_readMore_40 : decode cX4_readMore 40 = .ok (.getfield 18, 3) := by decide +kernel
theorem dX4_readMore_43 : decode cX4_readMore 43 = .ok (.getfield 95, 3) := by decide +kernel
theorem dX4_readMore_46 : decode cX4_readMore 46 = .ok (.invokevirtual 124, 3) := by decide +kernel
theorem dX4_readMore_49 : decode cX4_readMore 49 = .ok (.aload_n 0, 1) := by decide +kernel
theorem dX4_readMore_50 : decode cX4_readMore 50 = .ok (.getfield 18, 3) := by decide +kernel
theorem dX4_readMore_53 : decode cX4_readMore 53 = .ok (.invokevirtual 38, 3) := by decide +kernel
theorem dX4_readMore_56 : decode cX4_readMore 56 = .ok (.iconst 1, 1) := by decide +kernel
theorem dX4_readMore_57 : decode cX4_readMore 57 = .ok (.ireturn, 1) := by decide +kernel
theorem dX4_readSeal_0 : decode cX4_readSeal 0 = .ok (.aload_n 0, 1) := by decide +kernel
theorem dX4_readSeal_1 : decode cX4_readSeal 1 = .ok (.getfield 18, 3) := by decide +kernel
theorem dX4_readSeal_4 : decode cX4_readSeal 4 = .ok (.ldc 130, 2) := by decide +kernel
theorem dX4_readSeal_6 : decode cX4_readSeal 6 = .ok (.invokevirtual 46, 3) := by decide +kernel
theorem dX4_readSeal_9 : decode cX4_readSeal 9 = .ok (.ifCond .eq 15, 3) := by decide +kernel
theorem dX4_readSeal_12 : decode cX4_readSeal 12 = .ok (.aload_n 1, 1) := by decide +kernel
theorem dX4_readSeal_13 : decode cX4_readSeal 13 = .ok (.iconst 1, 1) := by decide +kernel
theorem dX4_readSeal_14 : decode cX4_readSeal 14 = .ok (.putfield 132, 3) := by decide +kernel
theorem dX4_readSeal_17 : decode cX4_readSeal 17 = .ok (.aload_n 0, 1) := by decide +kernel
theorem dX4_readSeal_18 : decode cX4_readSeal 18 = .ok (.getfield 18, 3) := by decide +kernel
theorem dX4_readSeal_21 : decode cX4_readSeal 21 = .ok (.invokevirtual 38, 3) := by decide +kernel
theorem dX4_readSeal_24 : decode cX4_readSeal 24 = .ok (.iconst 1, 1) := by decide +kernel
theorem dX4_readSeal_25 : decode cX4_readSeal 25 = .ok (.ireturn, 1) := by decide +kernel
theorem dX5_init_0 : decode cX5_init 0 = .ok (.aload_n 0, 1) := by decide +kernel
theorem dX5_init_1 : decode cX5_init 1 = .ok (.invokespecial 3, 3) := by decide +kernel
theorem dX5_init_4 : decode cX5_init 4 = .ok (.aload_n 0, 1) := by decide +kernel
theorem dX5_init_5 : decode cX5_init 5 = .ok (.new 9, 3) := by decide +kernel
theorem dX5_init_8 : decode cX5_init 8 = .ok (.dup, 1) := by decide +kernel
theorem dX5_init_9 : decode cX5_init 9 = .ok (.invokespecial 11, 3) := by decide +kernel
theorem dX5_init_12 : decode cX5_init 12 = .ok (.putfield 12, 3) := by decide +kernel
theorem dX5_init_15 : decode cX5_init 15 = .ok (.aload_n 0, 1) := by decide +kernel
theorem dX5_init_16 : decode cX5_init 16 = .ok (.new 9, 3) := by decide +kernel
theorem dX5_init_19 : decode cX5_init 19 = .ok (.dup, 1) := by decide +kernel
theorem dX5_init_20 : decode cX5_init 20 = .ok (.invokespecial 11, 3) := by decide +kernel
theorem dX5_init_23 : decode cX5_init 23 = .ok (.putfield 16, 3) := by decide +kernel
theorem dX5_init_26 : decode cX5_init 26 = .ok (.aload_n 0, 1) := by decide +kernel
theorem dX5_init_27 : decode cX5_init 27 = .ok (.new 9, 3) := by decide +kernel
theorem dX5_init_30 : decode cX5_init 30 = .ok (.dup, 1) := by decide +kernel
theorem dX5_init_31 : decode cX5_init 31 = .ok (.invokespecial 11, 3) := by decide +kernel
theorem dX5_init_34 : decode cX5_init 34 = .ok (.putfield 19, 3) := by decide +kernel
theorem dX5_init_37 : decode cX5_init 37 = .ok (.aload_n 0, 1) := by decide +kernel
theorem dX5_init_38 : decode cX5_init 38 = .ok (.iconst 0, 1) := by decide +kernel
theorem dX5_init_39 : decode cX5_init 39 = .ok (.putfield 22, 3) := by decide +kernel
theorem dX5_init_42 : decode cX5_init 42 = .ok (.aload_n 0, 1) := by decide +kernel
theorem dX5_init_43 : decode cX5_init 43 = .ok (.new 26, 3) := by decide +kernel
theorem dX5_init_46 : decode cX5_init 46 = .ok (.dup, 1) := by decide +kernel
theorem dX5_init_47 : decode cX5_init 47 = .ok (.invokespecial 28, 3) := by decide +kernel
theorem dX5_init_50 : decode cX5_init 50 = .ok (.putfield 29, 3) := by decide +kernel
theorem dX5_init_53 : decode cX5_init 53 = .ok (.aload_n 0, 1) := by decide +kernel
theorem dX5_init_54 : decode cX5_init 54 = .ok (.new 33, 3) := by decide +kernel
theorem dX5_init_57 : decode cX5_init 57 = .ok (.dup, 1) := by decide +kernel
theorem dX5_init_58 : decode cX5_init 58 = .ok (.aload_n 0, 1) := by decide +kernel
theorem dX5_init_59 : decode cX5_init 59 = .ok (.getfield 29, 3) := by decide +kernel
theorem dX5_init_62 : decode cX5_init 62 = .ok (.aload_n 0, 1) := by decide +kernel
theorem dX5_init_63 : decode cX5_init 63 = .ok (.getfield 16, 3) := by decide +kernel
theorem dX5_init_66 : decode cX5_init 66 = .ok (.invokespecial 35, 3) := by decide +kernel
theorem dX5_init_69 : decode cX5_init 69 = .ok (.putfield 38, 3) := by decide +kernel
theorem dX5_init_72 : decode cX5_init 72 = .ok (.aload_n 0, 1) := by decide +kernel
theorem dX5_init_73 : decode cX5_init 73 = .ok (.iconst 4, 1) := by decide +kernel
theorem dX5_init_74 : decode cX5_init 74 = .ok (.anewarray 42, 3) := by decide +kernel
theorem dX5_init_77 : decode cX5_init 77 = .ok (.putfield 44, 3) := by decide +kernel
theorem dX5_init_80 : decode cX5_init 80 = .ok (.aload_n 0, 1) := by decide +kernel
theorem dX5_init_81 : decode cX5_init 81 = .ok (.bipush 7, 2) := by decide +kernel
theorem dX5_init_83 : decode cX5_init 83 = .ok (.newarray .int, 2) := by decide +kernel
theorem dX5_init_85 : decode cX5_init 85 = .ok (.putfield 48, 3) := by decide +kernel
theorem dX5_init_88 : decode cX5_init 88 = .ok (.iconst 0, 1) := by decide +kernel
theorem dX5_init_89 : decode cX5_init 89 = .ok (.istore_n 1, 1) := by decide +kernel
theorem dX5_init_90 : decode cX5_init 90 = .ok (.iload_n 1, 1) := by decide +kernel
theorem dX5_init_91 : decode cX5_init 91 = .ok (.iconst 4, 1) := by decide +kernel
theorem dX5_init_92 : decode cX5_init 92 = .ok (.if_icmp .ge 22, 3) := by decide +kernel
theorem dX5_init_95 : decode cX5_init 95 = .ok (.aload_n 0, 1) := by decide +kernel
theorem dX5_init_96 : decode cX5_init 96 = .ok (.getfield 44, 3) := by decide +kernel
theorem dX5_init_99 : decode cX5_init 99 = .ok (.iload_n 1, 1) := by decide +kernel
theorem dX5_init_100 : decode cX5_init 100 = .ok (.new 42, 3) := by decide +kernel
theorem dX5_init_103 : decode cX5_init 103 = .ok (.dup, 1) := by decide +kernel
theorem dX5_init_104 : decode cX5_init 104 = .ok (.invokespecial 52, 3) := by decide +kernel
theorem dX5_init_107 : decode cX5_init 107 = .ok (.aastore, 1) := by decide +kernel
theorem dX5_init_108 : decode cX5_init 108 = .ok (.iinc 1 1, 3) := by decide +kernel
theorem dX5_init_111 : decode cX5_init 111 = .ok (.goto (-21), 3) := by decide +kernel
theorem dX5_init_114 : decode cX5_init 114 = .ok (.return_, 1) := by decide +kernel
theorem dX5_bequest_0 : decode cX5_bequest 0 = .ok (.iload_n 1, 1) := by decide +kernel
theorem dX5_bequest_1 : decode cX5_bequest 1 = .ok (.iconst 5, 1) := by decide +kernel
theorem dX5_bequest_2 : decode cX5_bequest 2 = .ok (.invokestatic 53, 3) := by decide +kernel
theorem dX5_bequest_5 : decode cX5_bequest 5 = .ok (.ifCond .eq 12, 3) := by decide +kernel
theorem dX5_bequest_8 : decode cX5_bequest 8 = .ok (.iload_n 2, 1) := by decide +kernel
theorem dX5_bequest_9 : decode cX5_bequest 9 = .ok (.bipush 12, 2) := by decide +kernel
theorem dX5_bequest_11 : decode cX5_bequest 11 = .ok (.invokestatic 53, 3) := by decide +kernel
theorem dX5_bequest_14 : decode cX5_bequest 14 = .ok (.ifCond .ne 10, 3) := by decide +kernel
theorem dX5_bequest_17 : decode cX5_bequest 17 = .ok (.aload_n 0, 1) := by decide +kernel
theorem dX5_bequest_18 : decode cX5_bequest 18 = .ok (.ldc 57, 2) := by decide +kernel
theorem dX5_bequest_20 : decode cX5_bequest 20 = .ok (.invokevirtual 58, 3) := by decide +kernel
theorem dX5_bequest_23 : decode cX5_bequest 23 = .ok (.ireturn, 1) := by decide +kernel
theorem dX5_bequest_24 : decode cX5_bequest 24 = .ok (.aload_n 0, 1) := by decide +kernel
theorem dX5_bequest_25 : decode cX5_bequest 25 = .ok (.getfield 12, 3) := by decide +kernel
theorem dX5_bequest_28 : decode cX5_bequest 28 = .ok (.getfield 62, 3) := by decide +kernel
theorem dX5_bequest_31 : decode cX5_bequest 31 = .ok (.iload_n 1, 1) := by decide +kernel
theorem dX5_bequest_32 : decode cX5_bequest 32 = .ok (.iaload, 1) := by decide +kernel
theorem dX5_bequest_33 : decode cX5_bequest 33 = .ok (.istore_n 3, 1) := by decide +kernel
theorem dX5_bequest_34 : decode cX5_bequest 34 = .ok (.aload_n 0, 1) := by decide +kernel
theorem dX5_bequest_35 : decode cX5_bequest 35 = .ok (.getfield 12, 3) := by decide +kernel
theorem dX5_bequest_38 : decode cX5_bequest 38 = .ok (.getfield 62, 3) := by decide +kernel
theorem dX5_bequest_41 : decode cX5_bequest 41 = .ok (.iload_n 1, 1) := by decide +kernel
theorem dX5_bequest_42 : decode cX5_bequest 42 = .ok (.iload_n 2, 1) := by decide +kernel
theorem dX5_bequest_43 : decode cX5_bequest 43 = .ok (.iastore, 1) := by decide +kernel
theorem dX5_bequest_44 : decode cX5_bequest 44 = .ok (.iload_n 3, 1) := by decide +kernel
theorem dX5_bequest_45 : decode cX5_bequest 45 = .ok (.ireturn, 1) := by decide +kernel
theorem dX5_listed_0 : decode cX5_listed 0 = .ok (.iload_n 1, 1) := by decide +kernel
theorem dX5_listed_1 : decode cX5_listed 1 = .ok (.iconst 5, 1) := by decide +kernel
theorem dX5_listed_2 : decode cX5_listed 2 = .ok (.invokestatic 53, 3) := by decide +kernel
theorem dX5_listed_5 : decode cX5_listed 5 = .ok (.ifCond .eq 15, 3) := by decide +kernel
theorem dX5_listed_8 : decode cX5_listed 8 = .ok (.aload_n 0, 1) := by decide +kernel
theorem dX5_listed_9 : decode cX5_listed 9 = .ok (.getfield 12, 3) := by decide +kernel
theorem dX5_listed_12 : decode cX5_listed 12 = .ok (.getfield 62, 3) := by decide +kernel
theorem dX5_listed_15 : decode cX5_listed 15 = .ok (.iload_n 1, 1) := by decide +kernel
theorem dX5_listed_16 : decode cX5_listed 16 = .ok (.iaload, 1) := by decide +kernel
theorem dX5_listed_17 : decode cX5_listed 17 = .ok (.goto 9, 3) := by decide +kernel
theorem dX5_listed_20 : decode cX5_listed 20 = .ok (.aload_n 0, 1) := by decide +kernel
theorem dX5_listed_21 : decode cX5_listed 21 = .ok (.ldc 57, 2) := by decide +kernel
theorem dX5_listed_23 : decode cX5_listed 23 = .ok (.invokevirtual 58, 3) := by decide +kernel
theorem dX5_listed_26 : decode cX5_listed 26 = .ok (.ireturn, 1) := by decide +kernel
theorem dX5_stored_0 : decode cX5_stored 0 = .ok (.iload_n 1, 1) := by decide +kernel
theorem dX5_stored_1 : decode cX5_stored 1 = .ok (.bipush 11, 2) := by decide +kernel
theorem dX5_stored_3 : decode cX5_stored 3 = .ok (.invokestatic 53, 3) := by decide +kernel
theorem dX5_stored_6 : decode cX5_stored 6 = .ok (.ifCond .eq 15, 3) := by decide +kernel
theorem dX5_stored_9 : decode cX5_stored 9 = .ok (.aload_n 0, 1) := by decide +kernel
theorem dX5_stored_10 : decode cX5_stored 10 = .ok (.getfield 12, 3) := by decide +kernel
theorem dX5_stored_13 : decode cX5_stored 13 = .ok (.getfield 65, 3) := by decide +kernel
theorem dX5_stored_16 : decode cX5_stored 16 = .ok (.iload_n 1, 1) := by decide +kernel
theorem dX5_stored_17 : decode cX5_stored 17 = .ok (.iaload, 1) := by decide +kernel
theorem dX5_stored_18 : decode cX5_stored 18 = .ok (.goto 9, 3) := by decide +kernel
theorem dX5_stored_21 : decode cX5_stored 21 = .ok (.aload_n 0, 1) := by decide +kernel
theorem dX5_stored_22 : decode cX5_stored 22 = .ok (.ldc 57, 2) := by decide +kernel
theorem dX5_stored_24 : decode cX5_stored 24 = .ok (.invokevirtual 58, 3) := by decide +kernel
theorem dX5_stored_27 : decode cX5_stored 27 = .ok (.ireturn, 1) := by decide +kernel
theorem dX5_bust_0 : decode cX5_bust 0 = .ok (.iload_n 1, 1) := by decide +kernel
theorem dX5_bust_1 : decode cX5_bust 1 = .ok (.bipush 6, 2) := by decide +kernel
theorem dX5_bust_3 : decode cX5_bust 3 = .ok (.invokestatic 53, 3) := by decide +kernel
theorem dX5_bust_6 : decode cX5_bust 6 = .ok (.ifCond .eq 13, 3) := by decide +kernel
theorem dX5_bust_9 : decode cX5_bust 9 = .ok (.iload_n 2, 1) := by decide +kernel
theorem dX5_bust_10 : decode cX5_bust 10 = .ok (.sipush 999, 3) := by decide +kernel
theorem dX5_bust_13 : decode cX5_bust 13 = .ok (.invokestatic 53, 3) := by decide +kernel
theorem dX5_bust_16 : decode cX5_bust 16 = .ok (.ifCond .ne 10, 3) := by decide +kernel
theorem dX5_bust_19 : decode cX5_bust 19 = .ok (.aload_n 0, 1) := by decide +kernel
theorem dX5_bust_20 : decode cX5_bust 20 = .ok (.ldc 57, 2) := by decide +kernel
theorem dX5_bust_22 : decode cX5_bust 22 = .ok (.invokevirtual 58, 3) := by decide +kernel
theorem dX5_bust_25 : decode cX5_bust 25 = .ok (.ireturn, 1) := by decide +kernel
theorem dX5_bust_26 : decode cX5_bust 26 = .ok (.aload_n 0, 1) := by decide +kernel
theorem dX5_bust_27 : decode cX5_bust 27 = .ok (.getfield 12, 3) := by decide +kernel
theorem dX5_bust_30 : decode cX5_bust 30 = .ok (.invokevirtual 68, 3) := by decide +kernel
theorem dX5_bust_33 : decode cX5_bust 33 = .ok (.ifCond .eq 10, 3) := by decide +kernel
theorem dX5_bust_36 : decode cX5_bust 36 = .ok (.aload_n 0, 1) := by decide +kernel
theorem dX5_bust_37 : decode cX5_bust 37 = .ok (.ldc 72, 2) := by decide +kernel
theorem dX5_bust_39 : decode cX5_bust 39 = .ok (.invokevirtual 58, 3) := by decide +kernel
theorem dX5_bust_42 : decode cX5_bust 42 = .ok (.ireturn, 1) := by decide +kernel
theorem dX5_bust_43 : decode cX5_bust 43 = .ok (.aload_n 0, 1) := by decide +kernel
theorem dX5_bust_44 : decode cX5_bust 44 = .ok (.getfield 12, 3) := by decide +kernel
theorem dX5_bust_47 : decode cX5_bust 47 = .ok (.iload_n 1, 1) := by decide +kernel
theorem dX5_bust_48 : decode cX5_bust 48 = .ok (.iload_n 2, 1) := by decide +kernel
theorem dX5_bust_49 : decode cX5_bust 49 = .ok (.invokevirtual 73, 3) := by decide +kernel
theorem dX5_bust_52 : decode cX5_bust 52 = .ok (.ireturn, 1) := by decide +kernel
theorem dX5_of_0 : decode cX5_of 0 = .ok (.aload_n 0, 1) := by decide +kernel
theorem dX5_of_1 : decode cX5_of 1 = .ok (.iload_n 1, 1) := by decide +kernel
theorem dX5_of_2 : decode cX5_of 2 = .ok (.invokevirtual 77, 3) := by decide +kernel
theorem dX5_of_5 : decode cX5_of 5 = .ok (.ifCond .eq 12, 3) := by decide +kernel
theorem dX5_of_8 : decode cX5_of 8 = .ok (.iload_n 2, 1) := by decide +kernel
theorem dX5_of_9 : decode cX5_of 9 = .ok (.bipush 10, 2) := by decide +kernel
theorem dX5_of_11 : decode cX5_of 11 = .ok (.invokestatic 53, 3) := by decide +kernel
theorem dX5_of_14 : decode cX5_of 14 = .ok (.ifCond .ne 10, 3) := by decide +kernel
theorem dX5_of_17 : decode cX5_of 17 = .ok (.aload_n 0, 1) := by decide +kernel
theorem dX5_of_18 : decode cX5_of 18 = .ok (.ldc 57, 2) := by decide +kernel
theorem dX5_of_20 : decode cX5_of 20 = .ok (.invokevirtual 58, 3) := by decide +kernel
theorem dX5_of_23 : decode cX5_of 23 = .ok (.ireturn, 1) := by decide +kernel
theorem dX5_of_24 : decode cX5_of 24 = .ok (.aload_n 0, 1) := by decide +kernel
theorem dX5_of_25 : decode cX5_of 25 = .ok (.getfield 12, 3) := by decide +kernel
theorem dX5_of_28 : decode cX5_of 28 = .ok (.getfield 81, 3) := by decide +kernel
theorem dX5_of_31 : decode cX5_of 31 = .ok (.iload_n 1, 1) := by decide +kernel
theorem dX5_of_32 : decode cX5_of 32 = .ok (.aaload, 1) := by decide +kernel
theorem dX5_of_33 : decode cX5_of 33 = .ok (.iload_n 2, 1) := by decide +kernel
theorem dX5_of_34 : decode cX5_of 34 = .ok (.invokevirtual 85, 3) := by decide +kernel
theorem dX5_of_37 : decode cX5_of 37 = .ok (.ireturn, 1) := by decide +kernel
theorem dX5_change_0 : decode cX5_change 0 = .ok (.aload_n 0, 1) := by decide +kernel
theorem dX5_change_1 : decode cX5_change 1 = .ok (.iload_n 1, 1) := by decide +kernel
theorem dX5_change_2 : decode cX5_change 2 = .ok (.invokevirtual 77, 3) := by decide +kernel
theorem dX5_change_5 : decode cX5_change 5 = .ok (.ifCond .eq 24, 3) := by decide +kernel
theorem dX5_change_8 : decode cX5_change 8 = .ok (.iload_n 2, 1) := by decide +kernel
theorem dX5_change_9 : decode cX5_change 9 = .ok (.bipush 6, 2) := by decide +kernel
theorem dX5_change_11 : decode cX5_change 11 = .ok (.invokestatic 53, 3) := by decide +kernel
theorem dX5_change_14 : decode cX5_change 14 = .ok (.ifCond .eq 15, 3) := by decide +kernel
theorem dX5_change_17 : decode cX5_change 17 = .ok (.iload_n 3, 1) := by decide +kernel
theorem dX5_change_18 : decode cX5_change 18 = .ok (.getstatic 90, 3) := by decide +kernel
theorem dX5_change_21 : decode cX5_change 21 = .ok (.iload_n 2, 1) := by decide +kernel
theorem dX5_change_22 : decode cX5_change 22 = .ok (.iaload, 1) := by decide +kernel
theorem dX5_change_23 : decode cX5_change 23 = .ok (.invokestatic 53, 3) := by decide +kernel
theorem dX5_change_26 : decode cX5_change 26 = .ok (.ifCond .ne 10, 3) := by decide +kernel
theorem dX5_change_29 : decode cX5_change 29 = .ok (.aload_n 0, 1) := by decide +kernel
theorem dX5_change_30 : decode cX5_change 30 = .ok (.ldc 57, 2) := by decide +kernel
theorem dX5_change_32 : decode cX5_change 32 = .ok (.invokevirtual 58, 3) := by decide +kernel
theorem dX5_change_35 : decode cX5_change 35 = .ok (.ireturn, 1) := by decide +kernel
theorem dX5_change_36 : decode cX5_change 36 = .ok (.aload_n 0, 1) := by decide +kernel
theorem dX5_change_37 : decode cX5_change 37 = .ok (.getfield 12, 3) := by decide +kernel
theorem dX5_change_40 : decode cX5_change 40 = .ok (.getfield 81, 3) := by decide +kernel
theorem dX5_change_43 : decode cX5_change 43 = .ok (.iload_n 1, 1) := by decide +kernel
theorem dX5_change_44 : decode cX5_change 44 = .ok (.aaload, 1) := by decide +kernel
theorem dX5_change_45 : decode cX5_change 45 = .ok (.iload_n 2, 1) := by decide +kernel
theorem dX5_change_46 : decode cX5_change 46 = .ok (.invokevirtual 85, 3) := by decide +kernel
theorem dX5_change_49 : decode cX5_change 49 = .ok (.istore 4, 2) := by decide +kernel
theorem dX5_change_51 : decode cX5_change 51 = .ok (.aload_n 0, 1) := by decide +kernel
theorem dX5_change_52 : decode cX5_change 52 = .ok (.getfield 12, 3) := by decide +kernel
theorem dX5_change_55 : decode cX5_change 55 = .ok (.getfield 81, 3) := by decide +kernel
theorem dX5_change_58 : decode cX5_change 58 = .ok (.iload_n 1, 1) := by decide +kernel
theorem dX5_change_59 : decode cX5_change 59 = .ok (.aaload, 1) := by decide +kernel
theorem dX5_change_60 : decode cX5_change 60 = .ok (.iload_n 2, 1) := by decide +kernel
theorem dX5_change_61 : decode cX5_change 61 = .ok (.iload_n 3, 1) := by decide +kernel
theorem dX5_change_62 : decode cX5_change 62 = .ok (.invokevirtual 93, 3) := by decide +kernel
theorem dX5_change_65 : decode cX5_change 65 = .ok (.iload 4, 2) := by decide +kernel
theorem dX5_change_67 : decode cX5_change 67 = .ok (.ireturn, 1) := by decide +kernel
theorem dX5_accepts_0 : decode cX5_accepts 0 = .ok (.aload_n 0, 1) := by decide +kernel
theorem dX5_accepts_1 : decode cX5_accepts 1 = .ok (.iload_n 1, 1) := by decide +kernel
theorem dX5_accepts_2 : decode cX5_accepts 2 = .ok (.invokevirtual 77, 3) := by decide +kernel
theorem dX5_accepts_5 : decode cX5_accepts 5 = .ok (.ifCond .eq 12, 3) := by decide +kernel
theorem dX5_accepts_8 : decode cX5_accepts 8 = .ok (.iload_n 2, 1) := by decide +kernel
theorem dX5_accepts_9 : decode cX5_accepts 9 = .ok (.bipush 11, 2) := by decide +kernel
theorem dX5_accepts_11 : decode cX5_accepts 11 = .ok (.invokestatic 53, 3) := by decide +kernel
theorem dX5_accepts_14 : decode cX5_accepts 14 = .ok (.ifCond .ne 10, 3) := by decide +kernel
theorem dX5_accepts_17 : decode cX5_accepts 17 = .ok (.aload_n 0, 1) := by decide +kernel
theorem dX5_accepts_18 : decode cX5_accepts 18 = .ok (.ldc 57, 2) := by decide +kernel
theorem dX5_accepts_20 : decode cX5_accepts 20 = .ok (.invokevirtual 58, 3) := by decide +kernel
theorem dX5_accepts_23 : decode cX5_accepts 23 = .ok (.ireturn, 1) := by decide +kernel
theorem dX5_accepts_24 : decode cX5_accepts 24 = .ok (.aload_n 0, 1) := by decide +kernel
theorem dX5_accepts_25 : decode cX5_accepts 25 = .ok (.getfield 12, 3) := by decide +kernel
theorem dX5_accepts_28 : decode cX5_accepts 28 = .ok (.getfield 81, 3) := by decide +kernel
theorem dX5_accepts_31 : decode cX5_accepts 31 = .ok (.iload_n 1, 1) := by decide +kernel
theorem dX5_accepts_32 : decode cX5_accepts 32 = .ok (.aaload, 1) := by decide +kernel
theorem dX5_accepts_33 : decode cX5_accepts 33 = .ok (.iload_n 2, 1) := by decide +kernel
theorem dX5_accepts_34 : decode cX5_accepts 34 = .ok (.invokevirtual 97, 3) := by decide +kernel
theorem dX5_accepts_37 : decode cX5_accepts 37 = .ok (.ifCond .eq 7, 3) := by decide +kernel
theorem dX5_accepts_40 : decode cX5_accepts 40 = .ok (.iconst 1, 1) := by decide +kernel
theorem dX5_accepts_41 : decode cX5_accepts 41 = .ok (.goto 4, 3) := by decide +kernel
theorem dX5_accepts_44 : decode cX5_accepts 44 = .ok (.iconst 0, 1) := by decide +kernel
theorem dX5_accepts_45 : decode cX5_accepts 45 = .ok (.ireturn, 1) := by decide +kernel
theorem dX5_heir_0 : decode cX5_heir 0 = .ok (.iload_n 1, 1) := by decide +kernel
theorem dX5_heir_1 : decode cX5_heir 1 = .ok (.bipush 11, 2) := by decide +kernel
theorem dX5_heir_3 : decode cX5_heir 3 = .ok (.invokestatic 53, 3) := by decide +kernel
theorem dX5_heir_6 : decode cX5_heir 6 = .ok (.ifCond .ne 10, 3) := by decide +kernel
theorem dX5_heir_9 : decode cX5_heir 9 = .ok (.aload_n 0, 1) := by decide +kernel
theorem dX5_heir_10 : decode cX5_heir 10 = .ok (.ldc 57, 2) := by decide +kernel
theorem dX5_heir_12 : decode cX5_heir 12 = .ok (.invokevirtual 58, 3) := by decide +kernel
theorem dX5_heir_15 : decode cX5_heir 15 = .ok (.ireturn, 1) := by decide +kernel
theorem dX5_heir_16 : decode cX5_heir 16 = .ok (.aload_n 0, 1) := by decide +kernel
theorem dX5_heir_17 : decode cX5_heir 17 = .ok (.getfield 12, 3) := by decide +kernel
theorem dX5_heir_20 : decode cX5_heir 20 = .ok (.iload_n 1, 1) := by decide +kernel
theorem dX5_heir_21 : decode cX5_heir 21 = .ok (.invokevirtual 100, 3) := by decide +kernel
theorem dX5_heir_24 : decode cX5_heir 24 = .ok (.istore_n 2, 1) := by decide +kernel
theorem dX5_heir_25 : decode cX5_heir 25 = .ok (.iload_n 2, 1) := by decide +kernel
theorem dX5_heir_26 : decode cX5_heir 26 = .ok (.ifCond .ge 12, 3) := by decide +kernel
theorem dX5_heir_29 : decode cX5_heir 29 = .ok (.aload_n 0, 1) := by decide +kernel
theorem dX5_heir_30 : decode cX5_heir 30 = .ok (.ldc 103, 2) := by decide +kernel
theorem dX5_heir_32 : decode cX5_heir 32 = .ok (.invokevirtual 58, 3) := by decide +kernel
theorem dX5_heir_35 : decode cX5_heir 35 = .ok (.goto 4, 3) := by decide +kernel
theorem dX5_heir_38 : decode cX5_heir 38 = .ok (.iload_n 2, 1) := by decide +kernel
theorem dX5_heir_39 : decode cX5_heir 39 = .ok (.ireturn, 1) := by decide +kernel
theorem dX5_give_0 : decode cX5_give 0 = .ok (.aload_n 0, 1) := by decide +kernel
theorem dX5_give_1 : decode cX5_give 1 = .ok (.iload_n 1, 1) := by decide +kernel
theorem dX5_give_2 : decode cX5_give 2 = .ok (.invokevirtual 77, 3) := by decide +kernel
theorem dX5_give_5 : decode cX5_give 5 = .ok (.ifCond .eq 12, 3) := by decide +kernel
theorem dX5_give_8 : decode cX5_give 8 = .ok (.iload_n 2, 1) := by decide +kernel
theorem dX5_give_9 : decode cX5_give 9 = .ok (.bipush 11, 2) := by decide +kernel
theorem dX5_give_11 : decode cX5_give 11 = .ok (.invokestatic 53, 3) := by decide +kernel
theorem dX5_give_14 : decode cX5_give 14 = .ok (.ifCond .ne 10, 3) := by decide +kernel
theorem dX5_give_17 : decode cX5_give 17 = .ok (.aload_n 0, 1) := by decide +kernel
theorem dX5_give_18 : decode cX5_give 18 = .ok (.ldc 57, 2) := by decide +kernel
theorem dX5_give_20 : decode cX5_give 20 = .ok (.invokevirtual 58, 3) := by decide +kernel
theorem dX5_give_23 : decode cX5_give 23 = .ok (.ireturn, 1) := by decide +kernel
theorem dX5_give_24 : decode cX5_give 24 = .ok (.aload_n 0, 1) := by decide +kernel
theorem dX5_give_25 : decode cX5_give 25 = .ok (.getfield 12, 3) := by decide +kernel
theorem dX5_give_28 : decode cX5_give 28 = .ok (.getfield 81, 3) := by decide +kernel
theorem dX5_give_31 : decode cX5_give 31 = .ok (.iload_n 1, 1) := by decide +kernel
theorem dX5_give_32 : decode cX5_give 32 = .ok (.aaload, 1) := by decide +kernel
theorem dX5_give_33 : decode cX5_give 33 = .ok (.astore_n 3, 1) := by decide +kernel
theorem dX5_give_34 : decode cX5_give 34 = .ok (.aload_n 3, 1) := by decide +kernel
theorem dX5_give_35 : decode cX5_give 35 = .ok (.iload_n 2, 1) := by decide +kernel
theorem dX5_give_36 : decode cX5_give 36 = .ok (.invokevirtual 104, 3) := by decide +kernel
theorem dX5_give_39 : decode cX5_give 39 = .ok (.ifCond .ne 23, 3) := by decide +kernel
theorem dX5_give_42 : decode cX5_give 42 = .ok (.aload_n 3, 1) := by decide +kernel
theorem dX5_give_43 : decode cX5_give 43 = .ok (.getfield 107, 3) := by decide +kernel
theorem dX5_give_46 : decode cX5_give 46 = .ok (.iconst 1, 1) := by decide +kernel
theorem dX5_give_47 : decode cX5_give 47 = .ok (.if_icmp .eq 15, 3) := by decide +kernel
theorem dX5_give_50 : decode cX5_give 50 = .ok (.aload_n 0, 1) := by decide +kernel
theorem dX5_give_51 : decode cX5_give 51 = .ok (.getfield 12, 3) := by decide +kernel
theorem dX5_give_54 : decode cX5_give 54 = .ok (.getfield 65, 3) := by decide +kernel
theorem dX5_give_57 : decode cX5_give 57 = .ok (.iload_n 2, 1) := by decide +kernel
theorem dX5_give_58 : decode cX5_give 58 = .ok (.iaload, 1) := by decide +kernel
theorem dX5_give_59 : decode cX5_give 59 = .ok (.ifCond .ne 10, 3) := by decide +kernel
theorem dX5_give_62 : decode cX5_give 62 = .ok (.aload_n 0, 1) := by decide +kernel
theorem dX5_give_63 : decode cX5_give 63 = .ok (.ldc 111, 2) := by decide +kernel
theorem dX5_give_65 : decode cX5_give 65 = .ok (.invokevirtual 58, 3) := by decide +kernel
theorem dX5_give_68 : decode cX5_give 68 = .ok (.ireturn, 1) := by decide +kernel
theorem dX5_give_69 : decode cX5_give 69 = .ok (.aload_n 0, 1) := by decide +kernel
theorem dX5_give_70 : decode cX5_give 70 = .ok (.getfield 12, 3) := by decide +kernel
theorem dX5_give_73 : decode cX5_give 73 = .ok (.getfield 65, 3) := by decide +kernel
theorem dX5_give_76 : decode cX5_give 76 = .ok (.iload_n 2, 1) := by decide +kernel
theorem dX5_give_77 : decode cX5_give 77 = .ok (.dup2, 1) := by decide +kernel
theorem dX5_give_78 : decode cX5_give 78 = .ok (.iaload, 1) := by decide +kernel
theorem dX5_give_79 : decode cX5_give 79 = .ok (.iconst 1, 1) := by decide +kernel
theorem dX5_give_80 : decode cX5_give 80 = .ok (.isub, 1) := by decide +kernel
theorem dX5_give_81 : decode cX5_give 81 = .ok (.iastore, 1) := by decide +kernel
theorem dX5_give_82 : decode cX5_give 82 = .ok (.aload_n 3, 1) := by decide +kernel
theorem dX5_give_83 : decode cX5_give 83 = .ok (.iload_n 2, 1) := by decide +kernel
theorem dX5_give_84 : decode cX5_give 84 = .ok (.invokevirtual 112, 3) := by decide +kernel
theorem dX5_give_87 : decode cX5_give 87 = .ok (.aload_n 3, 1) := by decide +kernel
theorem dX5_give_88 : decode cX5_give 88 = .ok (.getfield 116, 3) := by decide +kernel
theorem dX5_give_91 : decode cX5_give 91 = .ok (.ireturn, 1) := by decide +kernel
theorem dX5_go_0 : decode cX5_go 0 = .ok (.iload_n 1, 1) := by decide +kernel
theorem dX5_go_1 : decode cX5_go 1 = .ok (.iconst 1, 1) := by decide +kernel
theorem dX5_go_2 : decode cX5_go 2 = .ok (.if_icmp .lt 9, 3) := by decide +kernel
theorem dX5_go_5 : decode cX5_go 5 = .ok (.iload_n 1, 1) := by decide +kernel
theorem dX5_go_6 : decode cX5_go 6 = .ok (.bipush 60, 2) := by decide +kernel
theorem dX5_go_8 : decode cX5_go 8 = .ok (.if_icmp .le 10, 3) := by decide +kernel
theorem dX5_go_11 : decode cX5_go 11 = .ok (.aload_n 0, 1) := by decide +kernel
theorem dX5_go_12 : decode cX5_go 12 = .ok (.ldc 57, 2) := by decide +kernel
theorem dX5_go_14 : decode cX5_go 14 = .ok (.invokevirtual 58, 3) := by decide +kernel
theorem dX5_go_17 : decode cX5_go 17 = .ok (.ireturn, 1) := by decide +kernel
theorem dX5_go_18 : decode cX5_go 18 = .ok (.aload_n 0, 1) := by decide +kernel
theorem dX5_go_19 : decode cX5_go 19 = .ok (.getfield 12, 3) := by decide +kernel
theorem dX5_go_22 : decode cX5_go 22 = .ok (.getfield 119, 3) := by decide +kernel
theorem dX5_go_25 : decode cX5_go 25 = .ok (.iload_n 1, 1) := by decide +kernel
theorem dX5_go_26 : decode cX5_go 26 = .ok (.iadd, 1) := by decide +kernel
theorem dX5_go_27 : decode cX5_go 27 = .ok (.ldc 122, 2) := by decide +kernel
theorem dX5_go_29 : decode cX5_go 29 = .ok (.if_icmp .le 10, 3) := by decide +kernel
theorem dX5_go_32 : decode cX5_go 32 = .ok (.aload_n 0, 1) := by decide +kernel
theorem dX5_go_33 : decode cX5_go 33 = .ok (.ldc 111, 2) := by decide +kernel
theorem dX5_go_35 : decode cX5_go 35 = .ok (.invokevirtual 58, 3) := by decide +kernel
theorem dX5_go_38 : decode cX5_go 38 = .ok (.ireturn, 1) := by decide +kernel
theorem dX5_go_39 : decode cX5_go 39 = .ok (.aload_n 0, 1) := by decide +kernel
theorem dX5_go_40 : decode cX5_go 40 = .ok (.getfield 12, 3) := by decide +kernel
theorem dX5_go_43 : decode cX5_go 43 = .ok (.iload_n 1, 1) := by decide +kernel
theorem dX5_go_44 : decode cX5_go 44 = .ok (.invokevirtual 123, 3) := by decide +kernel
theorem dX5_go_47 : decode cX5_go 47 = .ok (.aload_n 0, 1) := by decide +kernel
theorem dX5_go_48 : decode cX5_go 48 = .ok (.getfield 12, 3) := by decide +kernel
theorem dX5_go_51 : decode cX5_go 51 = .ok (.getfield 126, 3) := by decide +kernel
theorem dX5_go_54 : decode cX5_go 54 = .ok (.ireturn, 1) := by decide +kernel
theorem dX5_now_0 : decode cX5_now 0 = .ok (.iload_n 1, 1) := by decide +kernel
theorem dX5_now_1 : decode cX5_now 1 = .ok (.tableswitch 111 0 7 #[47, 55, 63, 71, 79, 87, 95, 103], 47) := by decide +kernel
theorem dX5_now_48 : decode cX5_now 48 = .ok (.aload_n 0, 1) := by decide +kernel
theorem dX5_now_49 : decode cX5_now 49 = .ok (.getfield 12, 3) := by decide +kernel
theorem dX5_now_52 : decode cX5_now 52 = .ok (.getfield 119, 3) := by decide +kernel
theorem dX5_now_55 : decode cX5_now 55 = .ok (.ireturn, 1) := by decide +kernel
theorem dX5_now_56 : decode cX5_now 56 = .ok (.aload_n 0, 1) := by decide +kernel
theorem dX5_now_57 : decode cX5_now 57 = .ok (.getfield 12, 3) := by decide +kernel
theorem dX5_now_60 : decode cX5_now 60 = .ok (.getfield 126, 3) := by decide +kernel
theorem dX5_now_63 : decode cX5_now 63 = .ok (.ireturn, 1) := by decide +kernel
theorem dX5_now_64 : decode cX5_now 64 = .ok (.aload_n 0, 1) := by decide +kernel
theorem dX5_now_65 : decode cX5_now 65 = .ok (.getfield 12, 3) := by decide +kernel
theorem dX5_now_68 : decode cX5_now 68 = .ok (.invokevirtual 129, 3) := by decide +kernel
theorem dX5_now_71 : decode cX5_now 71 = .ok (.ireturn, 1) := by decide +kernel
theorem dX5_now_72 : decode cX5_now 72 = .ok (.aload_n 0, 1) := by decide +kernel
theorem dX5_now_73 : decode cX5_now 73 = .ok (.getfield 12, 3) := by decide +kernel
theorem dX5_now_76 : decode cX5_now 76 = .ok (.invokevirtual 133, 3) := by decide +kernel
theorem dX5_now_79 : decode cX5_now 79 = .ok (.ireturn, 1) := by decide +kernel
theorem dX5_now_80 : decode cX5_now 80 = .ok (.aload_n 0, 1) := by decide +kernel
theorem dX5_now_81 : decode cX5_now 81 = .ok (.getfield 12, 3) := by decide +kernel
theorem dX5_now_84 : decode cX5_now 84 = .ok (.invokevirtual 136, 3) := by decide +kernel
theorem dX5_now_87 : decode cX5_now 87 = .ok (.ireturn, 1) := by decide +kernel
theorem dX5_now_88 : decode cX5_now 88 = .ok (.aload_n 0, 1) := by decide +kernel
theorem dX5_now_89 : decode cX5_now 89 = .ok (.getfield 12, 3) := by decide +kernel
theorem dX5_now_92 : decode cX5_now 92 = .ok (.invokevirtual 139, 3) := by decide +kernel
theorem dX5_now_95 : decode cX5_now 95 = .ok (.ireturn, 1) := by decide +kernel
theorem dX5_now_96 : decode cX5_now 96 = .ok (.aload_n 0, 1) := by decide +kernel
theorem dX5_now_97 : decode cX5_now 97 = .ok (.getfield 12, 3) := by decide +kernel
theorem dX5_now_100 : decode cX5_now 100 = .ok (.invokevirtual 142, 3) := by decide +kernel
theorem dX5_now_103 : decode cX5_now 103 = .ok (.ireturn, 1) := by decide +kernel
theorem dX5_now_104 : decode cX5_now 104 = .ok (.aload_n 0, 1) := by decide +kernel
theorem dX5_now_105 : decode cX5_now 105 = .ok (.getfield 12, 3) := by decide +kernel
theorem dX5_now_108 : decode cX5_now 108 = .ok (.invokevirtual 145, 3) := by decide +kernel
theorem dX5_now_111 : decode cX5_now 111 = .ok (.ireturn, 1) := by decide +kernel
theorem dX5_now_112 : decode cX5_now 112 = .ok (.aload_n 0, 1) := by decide +kernel
theorem dX5_now_113 : decode cX5_now 113 = .ok (.ldc 57, 2) := by decide +kernel
theorem dX5_now_115 : decode cX5_now 115 = .ok (.invokevirtual 58, 3) := by decide +kernel
theorem dX5_now_118 : decode cX5_now 118 = .ok (.ireturn, 1) := by decide +kernel
theorem dX5_ahead_0 : decode cX5_ahead 0 = .ok (.iload_n 2, 1) := by decide +kernel
theorem dX5_ahead_1 : decode cX5_ahead 1 = .ok (.iconst 2, 1) := by decide +kernel
theorem dX5_ahead_2 : decode cX5_ahead 2 = .ok (.if_icmp .eq 25, 3) := by decide +kernel
theorem dX5_ahead_5 : decode cX5_ahead 5 = .ok (.iload_n 2, 1) := by decide +kernel
theorem dX5_ahead_6 : decode cX5_ahead 6 = .ok (.iconst 3, 1) := by decide +kernel
theorem dX5_ahead_7 : decode cX5_ahead 7 = .ok (.if_icmp .eq 20, 3) := by decide +kernel
theorem dX5_ahead_10 : decode cX5_ahead 10 = .ok (.iload_n 2, 1) := by decide +kernel
theorem dX5_ahead_11 : decode cX5_ahead 11 = .ok (.iconst 4, 1) := by decide +kernel
theorem dX5_ahead_12 : decode cX5_ahead 12 = .ok (.if_icmp .eq 15, 3) := by decide +kernel
theorem dX5_ahead_15 : decode cX5_ahead 15 = .ok (.iload_n 2, 1) := by decide +kernel
theorem dX5_ahead_16 : decode cX5_ahead 16 = .ok (.bipush 6, 2) := by decide +kernel
theorem dX5_ahead_18 : decode cX5_ahead 18 = .ok (.if_icmp .eq 9, 3) := by decide +kernel
theorem dX5_ahead_21 : decode cX5_ahead 21 = .ok (.iload_n 2, 1) := by decide +kernel
theorem dX5_ahead_22 : decode cX5_ahead 22 = .ok (.bipush 10, 2) := by decide +kernel
theorem dX5_ahead_24 : decode cX5_ahead 24 = .ok (.if_icmp .ne 7, 3) := by decide +kernel
theorem dX5_ahead_27 : decode cX5_ahead 27 = .ok (.iconst 1, 1) := by decide +kernel
theorem dX5_ahead_28 : decode cX5_ahead 28 = .ok (.goto 4, 3) := by decide +kernel
theorem dX5_ahead_31 : decode cX5_ahead 31 = .ok (.iconst 0, 1) := by decide +kernel
theorem dX5_ahead_32 : decode cX5_ahead 32 = .ok (.istore 4, 2) := by decide +kernel
theorem dX5_ahead_34 : decode cX5_ahead 34 = .ok (.aload_n 0, 1) := by decide +kernel
theorem dX5_ahead_35 : decode cX5_ahead 35 = .ok (.iload_n 1, 1) := by decide +kernel
theorem dX5_ahead_36 : decode cX5_ahead 36 = .ok (.invokevirtual 77, 3) := by decide +kernel
theorem dX5_ahead_39 : decode cX5_ahead 39 = .ok (.ifCond .eq 17, 3) := by decide +kernel
theorem dX5_ahead_42 : decode cX5_ahead 42 = .ok (.iload 4, 2) := by decide +kernel
theorem dX5_ahead_44 : decode cX5_ahead 44 = .ok (.ifCond .eq 12, 3) := by decide +kernel
theorem dX5_ahead_47 : decode cX5_ahead 47 = .ok (.iload_n 3, 1) := by decide +kernel
theorem dX5_ahead_48 : decode cX5_ahead 48 = .ok (.bipush 100, 2) := by decide +kernel
theorem dX5_ahead_50 : decode cX5_ahead 50 = .ok (.invokestatic 53, 3) := by decide +kernel
theorem dX5_ahead_53 : decode cX5_ahead 53 = .ok (.ifCond .ne 10, 3) := by decide +kernel
theorem dX5_ahead_56 : decode cX5_ahead 56 = .ok (.aload_n 0, 1) := by decide +kernel
theorem dX5_ahead_57 : decode cX5_ahead 57 = .ok (.ldc 57, 2) := by decide +kernel
theorem dX5_ahead_59 : decode cX5_ahead 59 = .ok (.invokevirtual 58, 3) := by decide +kernel
theorem dX5_ahead_62 : decode cX5_ahead 62 = .ok (.ireturn, 1) := by decide +kernel
theorem dX5_ahead_63 : decode cX5_ahead 63 = .ok (.aload_n 0, 1) := by decide +kernel
theorem dX5_ahead_64 : decode cX5_ahead 64 = .ok (.invokevirtual 148, 3) := by decide +kernel
theorem dX5_ahead_67 : decode cX5_ahead 67 = .ok (.aload_n 0, 1) := by decide +kernel
theorem dX5_ahead_68 : decode cX5_ahead 68 = .ok (.getfield 16, 3) := by decide +kernel
theorem dX5_ahead_71 : decode cX5_ahead 71 = .ok (.iload_n 3, 1) := by decide +kernel
theorem dX5_ahead_72 : decode cX5_ahead 72 = .ok (.invokevirtual 123, 3) := by decide +kernel
theorem dX5_ahead_75 : decode cX5_ahead 75 = .ok (.aload_n 0, 1) := by decide +kernel
theorem dX5_ahead_76 : decode cX5_ahead 76 = .ok (.getfield 16, 3) := by decide +kernel
theorem dX5_ahead_79 : decode cX5_ahead 79 = .ok (.getfield 81, 3) := by decide +kernel
theorem dX5_ahead_82 : decode cX5_ahead 82 = .ok (.iload_n 1, 1) := by decide +kernel
theorem dX5_ahead_83 : decode cX5_ahead 83 = .ok (.aaload, 1) := by decide +kernel
theorem dX5_ahead_84 : decode cX5_ahead 84 = .ok (.iload_n 2, 1) := by decide +kernel
theorem dX5_ahead_85 : decode cX5_ahead 85 = .ok (.invokevirtual 85, 3) := by decide +kernel
theorem dX5_ahead_88 : decode cX5_ahead 88 = .ok (.ireturn, 1) := by decide +kernel
theorem dX5_left_0 : decode cX5_left 0 = .ok (.iload_n 1, 1) := by decide +kernel
theorem dX5_left_1 : decode cX5_left 1 = .ok (.bipush 100, 2) := by decide +kernel
theorem dX5_left_3 : decode cX5_left 3 = .ok (.invokestatic 53, 3) := by decide +kernel
theorem dX5_left_6 : decode cX5_left 6 = .ok (.ifCond .ne 10, 3) := by decide +kernel
theorem dX5_left_9 : decode cX5_left 9 = .ok (.aload_n 0, 1) := by decide +kernel
theorem dX5_left_10 : decode cX5_left 10 = .ok (.ldc 57, 2) := by decide +kernel
theorem dX5_left_12 : decode cX5_left 12 = .ok (.invokevirtual 58, 3) := by decide +kernel
theorem dX5_left_15 : decode cX5_left 15 = .ok (.ireturn, 1) := by decide +kernel
theorem dX5_left_16 : decode cX5_left 16 = .ok (.aload_n 0, 1) := by decide +kernel
theorem dX5_left_17 : decode cX5_left 17 = .ok (.invokevirtual 148, 3) := by decide +kernel
theorem dX5_left_20 : decode cX5_left 20 = .ok (.aload_n 0, 1) := by decide +kernel
theorem dX5_left_21 : decode cX5_left 21 = .ok (.getfield 16, 3) := by decide +kernel
theorem dX5_left_24 : decode cX5_left 24 = .ok (.iload_n 1, 1) := by decide +kernel
theorem dX5_left_25 : decode cX5_left 25 = .ok (.invokevirtual 123, 3) := by decide +kernel
theorem dX5_left_28 : decode cX5_left 28 = .ok (.aload_n 0, 1) := by decide +kernel
theorem dX5_left_29 : decode cX5_left 29 = .ok (.getfield 16, 3) := by decide +kernel
theorem dX5_left_32 : decode cX5_left 32 = .ok (.getfield 126, 3) := by decide +kernel
theorem dX5_left_35 : decode cX5_left 35 = .ok (.ireturn, 1) := by decide +kernel
theorem dX5_when_0 : decode cX5_when 0 = .ok (.aload_n 0, 1) := by decide +kernel
theorem dX5_when_1 : decode cX5_when 1 = .ok (.iload_n 1, 1) := by decide +kernel
theorem dX5_when_2 : decode cX5_when 2 = .ok (.invokevirtual 77, 3) := by decide +kernel
theorem dX5_when_5 : decode cX5_when 5 = .ok (.ifCond .eq 12, 3) := by decide +kernel
theorem dX5_when_8 : decode cX5_when 8 = .ok (.iload_n 2, 1) := by decide +kernel
theorem dX5_when_9 : decode cX5_when 9 = .ok (.bipush 11, 2) := by decide +kernel
theorem dX5_when_11 : decode cX5_when 11 = .ok (.invokestatic 53, 3) := by decide +kernel
theorem dX5_when_14 : decode cX5_when 14 = .ok (.ifCond .ne 10, 3) := by decide +kernel
theorem dX5_when_17 : decode cX5_when 17 = .ok (.aload_n 0, 1) := by decide +kernel
theorem dX5_when_18 : decode cX5_when 18 = .ok (.ldc 57, 2) := by decide +kernel
theorem dX5_when_20 : decode cX5_when 20 = .ok (.invokevirtual 58, 3) := by decide +kernel
theorem dX5_when_23 : decode cX5_when 23 = .ok (.ireturn, 1) := by decide +kernel
theorem dX5_when_24 : decode cX5_when 24 = .ok (.aload_n 0, 1) := by decide +kernel
theorem dX5_when_25 : decode cX5_when 25 = .ok (.invokevirtual 148, 3) := by decide +kernel
theorem dX5_when_28 : decode cX5_when 28 = .ok (.iconst 0, 1) := by decide +kernel
theorem dX5_when_29 : decode cX5_when 29 = .ok (.istore_n 3, 1) := by decide +kernel
theorem dX5_when_30 : decode cX5_when 30 = .ok (.iload_n 3, 1) := by decide +kernel
theorem dX5_when_31 : decode cX5_when 31 = .ok (.sipush 200, 3) := by decide +kernel
theorem dX5_when_34 : decode cX5_when 34 = .ok (.if_icmp .gt 34, 3) := by decide +kernel
theorem dX5_when_37 : decode cX5_when 37 = .ok (.aload_n 0, 1) := by decide +kernel
theorem dX5_when_38 : decode cX5_when 38 = .ok (.getfield 16, 3) := by decide +kernel
theorem dX5_when_41 : decode cX5_when 41 = .ok (.getfield 81, 3) := by decide +kernel
theorem dX5_when_44 : decode cX5_when 44 = .ok (.iload_n 1, 1) := by decide +kernel
theorem dX5_when_45 : decode cX5_when 45 = .ok (.aaload, 1) := by decide +kernel
theorem dX5_when_46 : decode cX5_when 46 = .ok (.iload_n 2, 1) := by decide +kernel
theorem dX5_when_47 : decode cX5_when 47 = .ok (.invokevirtual 104, 3) := by decide +kernel
theorem dX5_when_50 : decode cX5_when 50 = .ok (.ifCond .eq 5, 3) := by decide +kernel
theorem dX5_when_53 : decode cX5_when 53 = .ok (.iload_n 3, 1) := by decide +kernel
theorem dX5_when_54 : decode cX5_when 54 = .ok (.ireturn, 1) := by decide +kernel
theorem dX5_when_55 : decode cX5_when 55 = .ok (.aload_n 0, 1) := by decide +kernel
theorem dX5_when_56 : decode cX5_when 56 = .ok (.getfield 16, 3) := by decide +kernel
theorem dX5_when_59 : decode cX5_when 59 = .ok (.invokevirtual 151, 3) := by decide +kernel
theorem dX5_when_62 : decode cX5_when 62 = .ok (.iinc 3 1, 3) := by decide +kernel
theorem dX5_when_65 : decode cX5_when 65 = .ok (.goto (-35), 3) := by decide +kernel
theorem dX5_when_68 : decode cX5_when 68 = .ok (.aload_n 0, 1) := by decide +kernel
theorem dX5_when_69 : decode cX5_when 69 = .ok (.ldc 103, 2) := by decide +kernel
theorem dX5_when_71 : decode cX5_when 71 = .ok (.invokevirtual 58, 3) := by decide +kernel
theorem dX5_when_74 : decode cX5_when 74 = .ok (.ireturn, 1) := by decide +kernel
theorem dX5_leaves_0 : decode cX5_leaves 0 = .ok (.aload_n 0, 1) := by decide +kernel
theorem dX5_leaves_1 : decode cX5_leaves 1 = .ok (.iload_n 1, 1) := by decide +kernel
theorem dX5_leaves_2 : decode cX5_leaves 2 = .ok (.invokevirtual 77, 3) := by decide +kernel
theorem dX5_leaves_5 : decode cX5_leaves 5 = .ok (.ifCond .ne 10, 3) := by decide +kernel
theorem dX5_leaves_8 : decode cX5_leaves 8 = .ok (.aload_n 0, 1) := by decide +kernel
theorem dX5_leaves_9 : decode cX5_leaves 9 = .ok (.ldc 57, 2) := by decide +kernel
theorem dX5_leaves_11 : decode cX5_leaves 11 = .ok (.invokevirtual 58, 3) := by decide +kernel
theorem dX5_leaves_14 : decode cX5_leaves 14 = .ok (.ireturn, 1) := by decide +kernel
theorem dX5_leaves_15 : decode cX5_leaves 15 = .ok (.aload_n 0, 1) := by decide +kernel
theorem dX5_leaves_16 : decode cX5_leaves 16 = .ok (.iload_n 1, 1) := by decide +kernel
theorem dX5_leaves_17 : decode cX5_leaves 17 = .ok (.bipush 6, 2) := by decide +kernel
theorem dX5_leaves_19 : decode cX5_leaves 19 = .ok (.iconst 1, 1) := by decide +kernel
theorem dX5_leaves_20 : decode cX5_leaves 20 = .ok (.invokevirtual 154, 3) := by decide +kernel
theorem dX5_leaves_23 : decode cX5_leaves 23 = .ok (.ireturn, 1) := by decide +kernel
theorem dX5_voice_0 : decode cX5_voice 0 = .ok (.aload_n 0, 1) := by decide +kernel
theorem dX5_voice_1 : decode cX5_voice 1 = .ok (.iload_n 1, 1) := by decide +kernel
theorem dX5_voice_2 : decode cX5_voice 2 = .ok (.invokevirtual 77, 3) := by decide +kernel
theorem dX5_voice_5 : decode cX5_voice 5 = .ok (.ifCond .eq 13, 3) := by decide +kernel
theorem dX5_voice_8 : decode cX5_voice 8 = .ok (.iload_n 2, 1) := by decide +kernel
theorem dX5_voice_9 : decode cX5_voice 9 = .ok (.sipush 9999, 3) := by decide +kernel
theorem dX5_voice_12 : decode cX5_voice 12 = .ok (.invokestatic 53, 3) := by decide +kernel
theorem dX5_voice_15 : decode cX5_voice 15 = .ok (.ifCond .ne 10, 3) := by decide +kernel
theorem dX5_voice_18 : decode cX5_voice 18 = .ok (.aload_n 0, 1) := by decide +kernel
theorem dX5_voice_19 : decode cX5_voice 19 = .ok (.ldc 57, 2) := by decide +kernel
theorem dX5_voice_21 : decode cX5_voice 21 = .ok (.invokevirtual 58, 3) := by decide +kernel
theorem dX5_voice_24 : decode cX5_voice 24 = .ok (.ireturn, 1) := by decide +kernel
theorem dX5_voice_25 : decode cX5_voice 25 = .ok (.aload_n 0, 1) := by decide +kernel
theorem dX5_voice_26 : decode cX5_voice 26 = .ok (.iload_n 1, 1) := by decide +kernel
theorem dX5_voice_27 : decode cX5_voice 27 = .ok (.bipush 10, 2) := by decide +kernel
theorem dX5_voice_29 : decode cX5_voice 29 = .ok (.iload_n 2, 1) := by decide +kernel
theorem dX5_voice_30 : decode cX5_voice 30 = .ok (.invokevirtual 154, 3) := by decide +kernel
theorem dX5_voice_33 : decode cX5_voice 33 = .ok (.ireturn, 1) := by decide +kernel
theorem dX5_orderFor_0 : decode cX5_orderFor 0 = .ok (.iload_n 1, 1) := by decide +kernel
theorem dX5_orderFor_1 : decode cX5_orderFor 1 = .ok (.iconst 5, 1) := by decide +kernel
theorem dX5_orderFor_2 : decode cX5_orderFor 2 = .ok (.invokestatic 53, 3) := by decide +kernel
theorem dX5_orderFor_5 : decode cX5_orderFor 5 = .ok (.ifCond .eq 20, 3) := by decide +kernel
theorem dX5_orderFor_8 : decode cX5_orderFor 8 = .ok (.aload_n 0, 1) := by decide +kernel
theorem dX5_orderFor_9 : decode cX5_orderFor 9 = .ok (.iload_n 2, 1) := by decide +kernel
theorem dX5_orderFor_10 : decode cX5_orderFor 10 = .ok (.invokevirtual 77, 3) := by decide +kernel
theorem dX5_orderFor_13 : decode cX5_orderFor 13 = .ok (.ifCond .eq 12, 3) := by decide +kernel
theorem dX5_orderFor_16 : decode cX5_orderFor 16 = .ok (.iload_n 3, 1) := by decide +kernel
theorem dX5_orderFor_17 : decode cX5_orderFor 17 = .ok (.bipush 60, 2) := by decide +kernel
theorem dX5_orderFor_19 : decode cX5_orderFor 19 = .ok (.invokestatic 53, 3) := by decide +kernel
theorem dX5_orderFor_22 : decode cX5_orderFor 22 = .ok (.ifCond .ne 10, 3) := by decide +kernel
theorem dX5_orderFor_25 : decode cX5_orderFor 25 = .ok (.aload_n 0, 1) := by decide +kernel
theorem dX5_orderFor_26 : decode cX5_orderFor 26 = .ok (.ldc 57, 2) := by decide +kernel
theorem dX5_orderFor_28 : decode cX5_orderFor 28 = .ok (.invokevirtual 58, 3) := by decide +kernel
theorem dX5_orderFor_31 : decode cX5_orderFor 31 = .ok (.ireturn, 1) := by decide +kernel
theorem dX5_orderFor_32 : decode cX5_orderFor 32 = .ok (.iconst 0, 1) := by decide +kernel
theorem dX5_orderFor_33 : decode cX5_orderFor 33 = .ok (.istore 4, 2) := by decide +kernel
theorem dX5_orderFor_35 : decode cX5_orderFor 35 = .ok (.iconst (-1), 1) := by decide +kernel
theorem dX5_orderFor_36 : decode cX5_orderFor 36 = .ok (.istore 5, 2) := by decide +kernel
theorem dX5_orderFor_38 : decode cX5_orderFor 38 = .ok (.iconst 0, 1) := by decide +kernel
theorem dX5_orderFor_39 : decode cX5_orderFor 39 = .ok (.istore 6, 2) := by decide +kernel
theorem dX5_orderFor_41 : decode cX5_orderFor 41 = .ok (.iload 6, 2) := by decide +kernel
theorem dX5_orderFor_43 : decode cX5_orderFor 43 = .ok (.bipush 12, 2) := by decide +kernel
theorem dX5_orderFor_45 : decode cX5_orderFor 45 = .ok (.if_icmp .ge 64, 3) := by decide +kernel
theorem dX5_orderFor_48 : decode cX5_orderFor 48 = .ok (.aload_n 0, 1) := by decide +kernel
theorem dX5_orderFor_49 : decode cX5_orderFor 49 = .ok (.invokevirtual 148, 3) := by decide +kernel
theorem dX5_orderFor_52 : decode cX5_orderFor 52 = .ok (.aload_n 0, 1) := by decide +kernel
theorem dX5_orderFor_53 : decode cX5_orderFor 53 = .ok (.getfield 16, 3) := by decide +kernel
theorem dX5_orderFor_56 : decode cX5_orderFor 56 = .ok (.getfield 62, 3) := by decide +kernel
theorem dX5_orderFor_59 : decode cX5_orderFor 59 = .ok (.iload_n 1, 1) := by decide +kernel
theorem dX5_orderFor_60 : decode cX5_orderFor 60 = .ok (.iload 6, 2) := by decide +kernel
theorem dX5_orderFor_62 : decode cX5_orderFor 62 = .ok (.iastore, 1) := by decide +kernel
theorem dX5_orderFor_63 : decode cX5_orderFor 63 = .ok (.aload_n 0, 1) := by decide +kernel
theorem dX5_orderFor_64 : decode cX5_orderFor 64 = .ok (.getfield 16, 3) := by decide +kernel
theorem dX5_orderFor_67 : decode cX5_orderFor 67 = .ok (.iload_n 3, 1) := by decide +kernel
theorem dX5_orderFor_68 : decode cX5_orderFor 68 = .ok (.invokevirtual 123, 3) := by decide +kernel
theorem dX5_orderFor_71 : decode cX5_orderFor 71 = .ok (.aload_n 0, 1) := by decide +kernel
theorem dX5_orderFor_72 : decode cX5_orderFor 72 = .ok (.getfield 16, 3) := by decide +kernel
theorem dX5_orderFor_75 : decode cX5_orderFor 75 = .ok (.getfield 81, 3) := by decide +kernel
theorem dX5_orderFor_78 : decode cX5_orderFor 78 = .ok (.iload_n 2, 1) := by decide +kernel
theorem dX5_orderFor_79 : decode cX5_orderFor 79 = .ok (.aaload, 1) := by decide +kernel
theorem dX5_orderFor_80 : decode cX5_orderFor 80 = .ok (.getfield 116, 3) := by decide +kernel
theorem dX5_orderFor_83 : decode cX5_orderFor 83 = .ok (.invokestatic 158, 3) := by decide +kernel
theorem dX5_orderFor_86 : decode cX5_orderFor 86 = .ok (.istore 7, 2) := by decide +kernel
theorem dX5_orderFor_88 : decode cX5_orderFor 88 = .ok (.iload 7, 2) := by decide +kernel
theorem dX5_orderFor_90 : decode cX5_orderFor 90 = .ok (.iload 5, 2) := by decide +kernel
theorem dX5_orderFor_92 : decode cX5_orderFor 92 = .ok (.if_icmp .le 11, 3) := by decide +kernel
theorem dX5_orderFor_95 : decode cX5_orderFor 95 = .ok (.iload 6, 2) := by decide +kernel
theorem dX5_orderFor_97 : decode cX5_orderFor 97 = .ok (.istore 4, 2) := by decide +kernel
theorem dX5_orderFor_99 : decode cX5_orderFor 99 = .ok (.iload 7, 2) := by decide +kernel
theorem dX5_orderFor_101 : decode cX5_orderFor 101 = .ok (.istore 5, 2) := by decide +kernel
theorem dX5_orderFor_103 : decode cX5_orderFor 103 = .ok (.iinc 6 1, 3) := by decide +kernel
theorem dX5_orderFor_106 : decode cX5_orderFor 106 = .ok (.goto (-65), 3) := by decide +kernel
theorem dX5_orderFor_109 : decode cX5_orderFor 109 = .ok (.iload 4, 2) := by decide +kernel
theorem dX5_orderFor_111 : decode cX5_orderFor 111 = .ok (.ireturn, 1) := by decide +kernel
theorem dX5_dateFor_0 : decode cX5_dateFor 0 = .ok (.aload_n 0, 1) := by decide +kernel
theorem dX5_dateFor_1 : decode cX5_dateFor 1 = .ok (.iload_n 1, 1) := by decide +kernel
theorem dX5_dateFor_2 : decode cX5_dateFor 2 = .ok (.invokevirtual 77, 3) := by decide +kernel
theorem dX5_dateFor_5 : decode cX5_dateFor 5 = .ok (.ifCond .eq 21, 3) := by decide +kernel
theorem dX5_dateFor_8 : decode cX5_dateFor 8 = .ok (.iload_n 2, 1) := by decide +kernel
theorem dX5_dateFor_9 : decode cX5_dateFor 9 = .ok (.bipush 11, 2) := by decide +kernel
theorem dX5_dateFor_11 : decode cX5_dateFor 11 = .ok (.invokestatic 53, 3) := by decide +kernel
theorem dX5_dateFor_14 : decode cX5_dateFor 14 = .ok (.ifCond .eq 12, 3) := by decide +kernel
theorem dX5_dateFor_17 : decode cX5_dateFor 17 = .ok (.iload_n 3, 1) := by decide +kernel
theorem dX5_dateFor_18 : decode cX5_dateFor 18 = .ok (.bipush 12, 2) := by decide +kernel
theorem dX5_dateFor_20 : decode cX5_dateFor 20 = .ok (.invokestatic 53, 3) := by decide +kernel
theorem dX5_dateFor_23 : decode cX5_dateFor 23 = .ok (.ifCond .ne 10, 3) := by decide +kernel
theorem dX5_dateFor_26 : decode cX5_dateFor 26 = .ok (.aload_n 0, 1) := by decide +kernel
theorem dX5_dateFor_27 : decode cX5_dateFor 27 = .ok (.ldc 57, 2) := by decide +kernel
theorem dX5_dateFor_29 : decode cX5_dateFor 29 = .ok (.invokevirtual 58, 3) := by decide +kernel
theorem dX5_dateFor_32 : decode cX5_dateFor 32 = .ok (.ireturn, 1) := by decide +kernel
theorem dX5_dateFor_33 : decode cX5_dateFor 33 = .ok (.sipush 999, 3) := by decide +kernel
theorem dX5_dateFor_36 : decode cX5_dateFor 36 = .ok (.istore 4, 2) := by decide +kernel
theorem dX5_dateFor_38 : decode cX5_dateFor 38 = .ok (.iload 4, 2) := by decide +kernel
theorem dX5_dateFor_40 : decode cX5_dateFor 40 = .ok (.ifCond .lt 37, 3) := by decide +kernel
theorem dX5_dateFor_43 : decode cX5_dateFor 43 = .ok (.aload_n 0, 1) := by decide +kernel
theorem dX5_dateFor_44 : decode cX5_dateFor 44 = .ok (.getfield 12, 3) := by decide +kernel
theorem dX5_dateFor_47 : decode cX5_dateFor 47 = .ok (.iload_n 1, 1) := by decide +kernel
theorem dX5_dateFor_48 : decode cX5_dateFor 48 = .ok (.iload 4, 2) := by decide +kernel
theorem dX5_dateFor_50 : decode cX5_dateFor 50 = .ok (.invokevirtual 163, 3) := by decide +kernel
theorem dX5_dateFor_53 : decode cX5_dateFor 53 = .ok (.ifCond .eq 18, 3) := by decide +kernel
theorem dX5_dateFor_56 : decode cX5_dateFor 56 = .ok (.aload_n 0, 1) := by decide +kernel
theorem dX5_dateFor_57 : decode cX5_dateFor 57 = .ok (.iload_n 1, 1) := by decide +kernel
theorem dX5_dateFor_58 : decode cX5_dateFor 58 = .ok (.iload 4, 2) := by decide +kernel
theorem dX5_dateFor_60 : decode cX5_dateFor 60 = .ok (.iload_n 2, 1) := by decide +kernel
theorem dX5_dateFor_61 : decode cX5_dateFor 61 = .ok (.iload_n 3, 1) := by decide +kernel
theorem dX5_dateFor_62 : decode cX5_dateFor 62 = .ok (.invokevirtual 166, 3) := by decide +kernel
theorem dX5_dateFor_65 : decode cX5_dateFor 65 = .ok (.ifCond .eq 6, 3) := by decide +kernel
theorem dX5_dateFor_68 : decode cX5_dateFor 68 = .ok (.iload 4, 2) := by decide +kernel
theorem dX5_dateFor_70 : decode cX5_dateFor 70 = .ok (.ireturn, 1) := by decide +kernel
theorem dX5_dateFor_71 : decode cX5_dateFor 71 = .ok (.iinc 4 (-1), 3) := by decide +kernel
theorem dX5_dateFor_74 : decode cX5_dateFor 74 = .ok (.goto (-36), 3) := by decide +kernel
theorem dX5_dateFor_77 : decode cX5_dateFor 77 = .ok (.aload_n 0, 1) := by decide +kernel
theorem dX5_dateFor_78 : decode cX5_dateFor 78 = .ok (.ldc 103, 2) := by decide +kernel
theorem dX5_dateFor_80 : decode cX5_dateFor 80 = .ok (.invokevirtual 58, 3) := by decide +kernel
theorem dX5_dateFor_83 : decode cX5_dateFor 83 = .ok (.ireturn, 1) := by decide +kernel
theorem dX5_kindFor_0 : decode cX5_kindFor 0 = .ok (.aload_n 0, 1) := by decide +kernel
theorem dX5_kindFor_1 : decode cX5_kindFor 1 = .ok (.iload_n 1, 1) := by decide +kernel
theorem dX5_kindFor_2 : decode cX5_kindFor 2 = .ok (.invokevirtual 77, 3) := by decide +kernel
theorem dX5_kindFor_5 : decode cX5_kindFor 5 = .ok (.ifCond .eq 12, 3) := by decide +kernel
theorem dX5_kindFor_8 : decode cX5_kindFor 8 = .ok (.iload_n 2, 1) := by decide +kernel
theorem dX5_kindFor_9 : decode cX5_kindFor 9 = .ok (.bipush 60, 2) := by decide +kernel
theorem dX5_kindFor_11 : decode cX5_kindFor 11 = .ok (.invokestatic 53, 3) := by decide +kernel
theorem dX5_kindFor_14 : decode cX5_kindFor 14 = .ok (.ifCond .ne 10, 3) := by decide +kernel
theorem dX5_kindFor_17 : decode cX5_kindFor 17 = .ok (.aload_n 0, 1) := by decide +kernel
theorem dX5_kindFor_18 : decode cX5_kindFor 18 = .ok (.ldc 57, 2) := by decide +kernel
theorem dX5_kindFor_20 : decode cX5_kindFor 20 = .ok (.invokevirtual 58, 3) := by decide +kernel
theorem dX5_kindFor_23 : decode cX5_kindFor 23 = .ok (.ireturn, 1) := by decide +kernel
theorem dX5_kindFor_24 : decode cX5_kindFor 24 = .ok (.iconst 0, 1) := by decide +kernel
theorem dX5_kindFor_25 : decode cX5_kindFor 25 = .ok (.istore_n 3, 1) := by decide +kernel
theorem dX5_kindFor_26 : decode cX5_kindFor 26 = .ok (.iconst (-1), 1) := by decide +kernel
theorem dX5_kindFor_27 : decode cX5_kindFor 27 = .ok (.istore 4, 2) := by decide +kernel
theorem dX5_kindFor_29 : decode cX5_kindFor 29 = .ok (.iconst 0, 1) := by decide +kernel
theorem dX5_kindFor_30 : decode cX5_kindFor 30 = .ok (.istore 5, 2) := by decide +kernel
theorem dX5_kindFor_32 : decode cX5_kindFor 32 = .ok (.iload 5, 2) := by decide +kernel
theorem dX5_kindFor_34 : decode cX5_kindFor 34 = .ok (.bipush 7, 2) := by decide +kernel
theorem dX5_kindFor_36 : decode cX5_kindFor 36 = .ok (.if_icmp .ge 63, 3) := by decide +kernel
theorem dX5_kindFor_39 : decode cX5_kindFor 39 = .ok (.aload_n 0, 1) := by decide +kernel
theorem dX5_kindFor_40 : decode cX5_kindFor 40 = .ok (.invokevirtual 148, 3) := by decide +kernel
theorem dX5_kindFor_43 : decode cX5_kindFor 43 = .ok (.aload_n 0, 1) := by decide +kernel
theorem dX5_kindFor_44 : decode cX5_kindFor 44 = .ok (.getfield 16, 3) := by decide +kernel
theorem dX5_kindFor_47 : decode cX5_kindFor 47 = .ok (.getfield 81, 3) := by decide +kernel
theorem dX5_kindFor_50 : decode cX5_kindFor 50 = .ok (.iload_n 1, 1) := by decide +kernel
theorem dX5_kindFor_51 : decode cX5_kindFor 51 = .ok (.aaload, 1) := by decide +kernel
theorem dX5_kindFor_52 : decode cX5_kindFor 52 = .ok (.iload 5, 2) := by decide +kernel
theorem dX5_kindFor_54 : decode cX5_kindFor 54 = .ok (.putfield 170, 3) := by decide +kernel
theorem dX5_kindFor_57 : decode cX5_kindFor 57 = .ok (.aload_n 0, 1) := by decide +kernel
theorem dX5_kindFor_58 : decode cX5_kindFor 58 = .ok (.getfield 16, 3) := by decide +kernel
theorem dX5_kindFor_61 : decode cX5_kindFor 61 = .ok (.iload_n 2, 1) := by decide +kernel
theorem dX5_kindFor_62 : decode cX5_kindFor 62 = .ok (.invokevirtual 123, 3) := by decide +kernel
theorem dX5_kindFor_65 : decode cX5_kindFor 65 = .ok (.aload_n 0, 1) := by decide +kernel
theorem dX5_kindFor_66 : decode cX5_kindFor 66 = .ok (.getfield 16, 3) := by decide +kernel
theorem dX5_kindFor_69 : decode cX5_kindFor 69 = .ok (.getfield 81, 3) := by decide +kernel
theorem dX5_kindFor_72 : decode cX5_kindFor 72 = .ok (.iload_n 1, 1) := by decide +kernel
theorem dX5_kindFor_73 : decode cX5_kindFor 73 = .ok (.aaload, 1) := by decide +kernel
theorem dX5_kindFor_74 : decode cX5_kindFor 74 = .ok (.invokevirtual 173, 3) := by decide +kernel
theorem dX5_kindFor_77 : decode cX5_kindFor 77 = .ok (.istore 6, 2) := by decide +kernel
theorem dX5_kindFor_79 : decode cX5_kindFor 79 = .ok (.iload 6, 2) := by decide +kernel
theorem dX5_kindFor_81 : decode cX5_kindFor 81 = .ok (.iload 4, 2) := by decide +kernel
theorem dX5_kindFor_83 : decode cX5_kindFor 83 = .ok (.if_icmp .le 10, 3) := by decide +kernel
theorem dX5_kindFor_86 : decode cX5_kindFor 86 = .ok (.iload 5, 2) := by decide +kernel
theorem dX5_kindFor_88 : decode cX5_kindFor 88 = .ok (.istore_n 3, 1) := by decide +kernel
theorem dX5_kindFor_89 : decode cX5_kindFor 89 = .ok (.iload 6, 2) := by decide +kernel
theorem dX5_kindFor_91 : decode cX5_kindFor 91 = .ok (.istore 4, 2) := by decide +kernel
theorem dX5_kindFor_93 : decode cX5_kindFor 93 = .ok (.iinc 5 1, 3) := by decide +kernel
theorem dX5_kindFor_96 : decode cX5_kindFor 96 = .ok (.goto (-64), 3) := by decide +kernel
theorem dX5_kindFor_99 : decode cX5_kindFor 99 = .ok (.iload_n 3, 1) := by decide +kernel
theorem dX5_kindFor_100 : decode cX5_kindFor 100 = .ok (.ireturn, 1) := by decide +kernel
theorem dX5_pathTo_0 : decode cX5_pathTo 0 = .ok (.aload_n 0, 1) := by decide +kernel
theorem dX5_pathTo_1 : decode cX5_pathTo 1 = .ok (.iload_n 1, 1) := by decide +kernel
theorem dX5_pathTo_2 : decode cX5_pathTo 2 = .ok (.invokevirtual 77, 3) := by decide +kernel
theorem dX5_pathTo_5 : decode cX5_pathTo 5 = .ok (.ifCond .eq 12, 3) := by decide +kernel
theorem dX5_pathTo_8 : decode cX5_pathTo 8 = .ok (.iload_n 2, 1) := by decide +kernel
theorem dX5_pathTo_9 : decode cX5_pathTo 9 = .ok (.bipush 11, 2) := by decide +kernel
theorem dX5_pathTo_11 : decode cX5_pathTo 11 = .ok (.invokestatic 53, 3) := by decide +kernel
theorem dX5_pathTo_14 : decode cX5_pathTo 14 = .ok (.ifCond .ne 10, 3) := by decide +kernel
theorem dX5_pathTo_17 : decode cX5_pathTo 17 = .ok (.aload_n 0, 1) := by decide +kernel
theorem dX5_pathTo_18 : decode cX5_pathTo 18 = .ok (.ldc 57, 2) := by decide +kernel
theorem dX5_pathTo_20 : decode cX5_pathTo 20 = .ok (.invokevirtual 58, 3) := by decide +kernel
theorem dX5_pathTo_23 : decode cX5_pathTo 23 = .ok (.ireturn, 1) := by decide +kernel
theorem dX5_pathTo_24 : decode cX5_pathTo 24 = .ok (.aload_n 0, 1) := by decide +kernel
theorem dX5_pathTo_25 : decode cX5_pathTo 25 = .ok (.getfield 12, 3) := by decide +kernel
theorem dX5_pathTo_28 : decode cX5_pathTo 28 = .ok (.getfield 81, 3) := by decide +kernel
theorem dX5_pathTo_31 : decode cX5_pathTo 31 = .ok (.iload_n 1, 1) := by decide +kernel
theorem dX5_pathTo_32 : decode cX5_pathTo 32 = .ok (.aaload, 1) := by decide +kernel
theorem dX5_pathTo_33 : decode cX5_pathTo 33 = .ok (.iload_n 2, 1) := by decide +kernel
theorem dX5_pathTo_34 : decode cX5_pathTo 34 = .ok (.invokevirtual 104, 3) := by decide +kernel
theorem dX5_pathTo_37 : decode cX5_pathTo 37 = .ok (.ifCond .eq 5, 3) := by decide +kernel
theorem dX5_pathTo_40 : decode cX5_pathTo 40 = .ok (.iconst 0, 1) := by decide +kernel
theorem dX5_pathTo_41 : decode cX5_pathTo 41 = .ok (.ireturn, 1) := by decide +kernel
theorem dX5_pathTo_42 : decode cX5_pathTo 42 = .ok (.aload_n 0, 1) := by decide +kernel
theorem dX5_pathTo_43 : decode cX5_pathTo 43 = .ok (.invokevirtual 148, 3) := by decide +kernel
theorem dX5_pathTo_46 : decode cX5_pathTo 46 = .ok (.aload_n 0, 1) := by decide +kernel
theorem dX5_pathTo_47 : decode cX5_pathTo 47 = .ok (.getfield 16, 3) := by decide +kernel
theorem dX5_pathTo_50 : decode cX5_pathTo 50 = .ok (.getfield 81, 3) := by decide +kernel
theorem dX5_pathTo_53 : decode cX5_pathTo 53 = .ok (.iload_n 1, 1) := by decide +kernel
theorem dX5_pathTo_54 : decode cX5_pathTo 54 = .ok (.aaload, 1) := by decide +kernel
theorem dX5_pathTo_55 : decode cX5_pathTo 55 = .ok (.iload_n 2, 1) := by decide +kernel
theorem dX5_pathTo_56 : decode cX5_pathTo 56 = .ok (.invokevirtual 176, 3) := by decide +kernel
theorem dX5_pathTo_59 : decode cX5_pathTo 59 = .ok (.istore_n 3, 1) := by decide +kernel
theorem dX5_pathTo_60 : decode cX5_pathTo 60 = .ok (.iload_n 3, 1) := by decide +kernel
theorem dX5_pathTo_61 : decode cX5_pathTo 61 = .ok (.ifCond .ne 12, 3) := by decide +kernel
theorem dX5_pathTo_64 : decode cX5_pathTo 64 = .ok (.aload_n 0, 1) := by decide +kernel
theorem dX5_pathTo_65 : decode cX5_pathTo 65 = .ok (.ldc 103, 2) := by decide +kernel
theorem dX5_pathTo_67 : decode cX5_pathTo 67 = .ok (.invokevirtual 58, 3) := by decide +kernel
theorem dX5_pathTo_70 : decode cX5_pathTo 70 = .ok (.goto 4, 3) := by decide +kernel
theorem dX5_pathTo_73 : decode cX5_pathTo 73 = .ok (.iload_n 3, 1) := by decide +kernel
theorem dX5_pathTo_74 : decode cX5_pathTo 74 = .ok (.ireturn, 1) := by decide +kernel
theorem dX5_seal_0 : decode cX5_seal 0 = .ok (.iload_n 1, 1) := by decide +kernel
theorem dX5_seal_1 : decode cX5_seal 1 = .ok (.bipush 20, 2) := by decide +kernel
theorem dX5_seal_3 : decode cX5_seal 3 = .ok (.invokestatic 53, 3) := by decide +kernel
theorem dX5_seal_6 : decode cX5_seal 6 = .ok (.ifCond .ne 10, 3) := by decide +kernel
theorem dX5_seal_9 : decode cX5_seal 9 = .ok (.aload_n 0, 1) := by decide +kernel
theorem dX5_seal_10 : decode cX5_seal 10 = .ok (.ldc 57, 2) := by decide +kernel
theorem dX5_seal_12 : decode cX5_seal 12 = .ok (.invokevirtual 58, 3) := by decide +kernel
theorem dX5_seal_15 : decode cX5_seal 15 = .ok (.ireturn, 1) := by decide +kernel
theorem dX5_seal_16 : decode cX5_seal 16 = .ok (.iconst 1, 1) := by decide +kernel
theorem dX5_seal_17 : decode cX5_seal 17 = .ok (.aload_n 0, 1) := by decide +kernel
theorem dX5_seal_18 : decode cX5_seal 18 = .ok (.getfield 12, 3) := by decide +kernel
theorem dX5_seal_21 : decode cX5_seal 21 = .ok (.getfield 179, 3) := by decide +kernel
theorem dX5_seal_24 : decode cX5_seal 24 = .ok (.ishl, 1) := by decide +kernel
theorem dX5_seal_25 : decode cX5_seal 25 = .ok (.istore_n 2, 1) := by decide +kernel
theorem dX5_seal_26 : decode cX5_seal 26 = .ok (.iconst 0, 1) := by decide +kernel
theorem dX5_seal_27 : decode cX5_seal 27 = .ok (.istore_n 3, 1) := by decide +kernel
theorem dX5_seal_28 : decode cX5_seal 28 = .ok (.iload_n 3, 1) := by decide +kernel
theorem dX5_seal_29 : decode cX5_seal 29 = .ok (.aload_n 0, 1) := by decide +kernel
theorem dX5_seal_30 : decode cX5_seal 30 = .ok (.getfield 12, 3) := by decide +kernel
theorem dX5_seal_33 : decode cX5_seal 33 = .ok (.getfield 179, 3) := by decide +kernel
theorem dX5_seal_36 : decode cX5_seal 36 = .ok (.if_icmp .gt 46, 3) := by decide +kernel
theorem dX5_seal_39 : decode cX5_seal 39 = .ok (.iconst 0, 1) := by decide +kernel
theorem dX5_seal_40 : decode cX5_seal 40 = .ok (.istore 4, 2) := by decide +kernel
theorem dX5_seal_42 : decode cX5_seal 42 = .ok (.iload 4, 2) := by decide +kernel
theorem dX5_seal_44 : decode cX5_seal 44 = .ok (.iload_n 2, 1) := by decide +kernel
theorem dX5_seal_45 : decode cX5_seal 45 = .ok (.if_icmp .ge 31, 3) := by decide +kernel
theorem dX5_seal_48 : decode cX5_seal 48 = .ok (.iload 4, 2) := by decide +kernel
theorem dX5_seal_50 : decode cX5_seal 50 = .ok (.invokestatic 158, 3) := by decide +kernel
theorem dX5_seal_53 : decode cX5_seal 53 = .ok (.iload_n 3, 1) := by decide +kernel
theorem dX5_seal_54 : decode cX5_seal 54 = .ok (.if_icmp .ne 16, 3) := by decide +kernel
theorem dX5_seal_57 : decode cX5_seal 57 = .ok (.aload_n 0, 1) := by decide +kernel
theorem dX5_seal_58 : decode cX5_seal 58 = .ok (.iload 4, 2) := by decide +kernel
theorem dX5_seal_60 : decode cX5_seal 60 = .ok (.iload_n 1, 1) := by decide +kernel
theorem dX5_seal_61 : decode cX5_seal 61 = .ok (.invokevirtual 182, 3) := by decide +kernel
theorem dX5_seal_64 : decode cX5_seal 64 = .ok (.ifCond .eq 6, 3) := by decide +kernel
theorem dX5_seal_67 : decode cX5_seal 67 = .ok (.iload 4, 2) := by decide +kernel
theorem dX5_seal_69 : decode cX5_seal 69 = .ok (.ireturn, 1) := by decide +kernel
theorem dX5_seal_70 : decode cX5_seal 70 = .ok (.iinc 4 1, 3) := by decide +kernel
theorem dX5_seal_73 : decode cX5_seal 73 = .ok (.goto (-31), 3) := by decide +kernel
theorem dX5_seal_76 : decode cX5_seal 76 = .ok (.iinc 3 1, 3) := by decide +kernel
theorem dX5_seal_79 : decode cX5_seal 79 = .ok (.goto (-51), 3) := by decide +kernel
theorem dX5_seal_82 : decode cX5_seal 82 = .ok (.aload_n 0, 1) := by decide +kernel
theorem dX5_seal_83 : decode cX5_seal 83 = .ok (.ldc 103, 2) := by decide +kernel
theorem dX5_seal_85 : decode cX5_seal 85 = .ok (.invokevirtual 58, 3) := by decide +kernel
theorem dX5_seal_88 : decode cX5_seal 88 = .ok (.ireturn, 1) := by decide +kernel
theorem dX5_fits_0 : decode cX5_fits 0 = .ok (.aload_n 0, 1) := by decide +kernel
theorem dX5_fits_1 : decode cX5_fits 1 = .ok (.iload_n 1, 1) := by decide +kernel
theorem dX5_fits_2 : decode cX5_fits 2 = .ok (.iload_n 2, 1) := by decide +kernel
theorem dX5_fits_3 : decode cX5_fits 3 = .ok (.invokevirtual 185, 3) := by decide +kernel
theorem dX5_fits_6 : decode cX5_fits 6 = .ok (.istore_n 3, 1) := by decide +kernel
theorem dX5_fits_7 : decode cX5_fits 7 = .ok (.iload_n 3, 1) := by decide +kernel
theorem dX5_fits_8 : decode cX5_fits 8 = .ok (.ifCond .eq 9, 3) := by decide +kernel
theorem dX5_fits_11 : decode cX5_fits 11 = .ok (.aload_n 0, 1) := by decide +kernel
theorem dX5_fits_12 : decode cX5_fits 12 = .ok (.iload_n 3, 1) := by decide +kernel
theorem dX5_fits_13 : decode cX5_fits 13 = .ok (.invokevirtual 58, 3) := by decide +kernel
theorem dX5_fits_16 : decode cX5_fits 16 = .ok (.ireturn, 1) := by decide +kernel
theorem dX5_fits_17 : decode cX5_fits 17 = .ok (.iconst 0, 1) := by decide +kernel
theorem dX5_fits_18 : decode cX5_fits 18 = .ok (.istore 4, 2) := by decide +kernel
theorem dX5_fits_20 : decode cX5_fits 20 = .ok (.iconst 0, 1) := by decide +kernel
theorem dX5_fits_21 : decode cX5_fits 21 = .ok (.istore 5, 2) := by decide +kernel
theorem dX5_fits_23 : decode cX5_fits 23 = .ok (.iload 5, 2) := by decide +kernel
theorem dX5_fits_25 : decode cX5_fits 25 = .ok (.bipush 13, 2) := by decide +kernel
theorem dX5_fits_27 : decode cX5_fits 27 = .ok (.if_icmp .ge 47, 3) := by decide +kernel
theorem dX5_fits_30 : decode cX5_fits 30 = .ok (.aload_n 0, 1) := by decide +kernel
theorem dX5_fits_31 : decode cX5_fits 31 = .ok (.invokevirtual 148, 3) := by decide +kernel
theorem dX5_fits_34 : decode cX5_fits 34 = .ok (.aload_n 0, 1) := by decide +kernel
theorem dX5_fits_35 : decode cX5_fits 35 = .ok (.getfield 16, 3) := by decide +kernel
theorem dX5_fits_38 : decode cX5_fits 38 = .ok (.getfield 62, 3) := by decide +kernel
theorem dX5_fits_41 : decode cX5_fits 41 = .ok (.aload_n 0, 1) := by decide +kernel
theorem dX5_fits_42 : decode cX5_fits 42 = .ok (.getfield 16, 3) := by decide +kernel
theorem dX5_fits_45 : decode cX5_fits 45 = .ok (.invokevirtual 188, 3) := by decide +kernel
theorem dX5_fits_48 : decode cX5_fits 48 = .ok (.iload 5, 2) := by decide +kernel
theorem dX5_fits_50 : decode cX5_fits 50 = .ok (.iastore, 1) := by decide +kernel
theorem dX5_fits_51 : decode cX5_fits 51 = .ok (.aload_n 0, 1) := by decide +kernel
theorem dX5_fits_52 : decode cX5_fits 52 = .ok (.iload_n 2, 1) := by decide +kernel
theorem dX5_fits_53 : decode cX5_fits 53 = .ok (.aload_n 0, 1) := by decide +kernel
theorem dX5_fits_54 : decode cX5_fits 54 = .ok (.getfield 44, 3) := by decide +kernel
theorem dX5_fits_57 : decode cX5_fits 57 = .ok (.iload_n 1, 1) := by decide +kernel
theorem dX5_fits_58 : decode cX5_fits 58 = .ok (.aaload, 1) := by decide +kernel
theorem dX5_fits_59 : decode cX5_fits 59 = .ok (.invokevirtual 191, 3) := by decide +kernel
theorem dX5_fits_62 : decode cX5_fits 62 = .ok (.ifCond .eq 6, 3) := by decide +kernel
theorem dX5_fits_65 : decode cX5_fits 65 = .ok (.iinc 4 1, 3) := by decide +kernel
theorem dX5_fits_68 : decode cX5_fits 68 = .ok (.iinc 5 1, 3) := by decide +kernel
theorem dX5_fits_71 : decode cX5_fits 71 = .ok (.goto (-48), 3) := by decide +kernel
theorem dX5_fits_74 : decode cX5_fits 74 = .ok (.iload 4, 2) := by decide +kernel
theorem dX5_fits_76 : decode cX5_fits 76 = .ok (.ireturn, 1) := by decide +kernel
theorem dX5_kinds_0 : decode cX5_kinds 0 = .ok (.aload_n 0, 1) := by decide +kernel
theorem dX5_kinds_1 : decode cX5_kinds 1 = .ok (.iload_n 1, 1) := by decide +kernel
theorem dX5_kinds_2 : decode cX5_kinds 2 = .ok (.iload_n 2, 1) := by decide +kernel
theorem dX5_kinds_3 : decode cX5_kinds 3 = .ok (.invokevirtual 185, 3) := by decide +kernel
theorem dX5_kinds_6 : decode cX5_kinds 6 = .ok (.istore_n 3, 1) := by decide +kernel
theorem dX5_kinds_7 : decode cX5_kinds 7 = .ok (.iload_n 3, 1) := by decide +kernel
theorem dX5_kinds_8 : decode cX5_kinds 8 = .ok (.ifCond .eq 9, 3) := by decide +kernel
theorem dX5_kinds_11 : decode cX5_kinds 11 = .ok (.aload_n 0, 1) := by decide +kernel
theorem dX5_kinds_12 : decode cX5_kinds 12 = .ok (.iload_n 3, 1) := by decide +kernel
theorem dX5_kinds_13 : decode cX5_kinds 13 = .ok (.invokevirtual 58, 3) := by decide +kernel
theorem dX5_kinds_16 : decode cX5_kinds 16 = .ok (.ireturn, 1) := by decide +kernel
theorem dX5_kinds_17 : decode cX5_kinds 17 = .ok (.iconst 0, 1) := by decide +kernel
theorem dX5_kinds_18 : decode cX5_kinds 18 = .ok (.istore 4, 2) := by decide +kernel
theorem dX5_kinds_20 : decode cX5_kinds 20 = .ok (.iconst 0, 1) := by decide +kernel
theorem dX5_kinds_21 : decode cX5_kinds 21 = .ok (.istore 5, 2) := by decide +kernel
theorem dX5_kinds_23 : decode cX5_kinds 23 = .ok (.iload 5, 2) := by decide +kernel
theorem dX5_kinds_25 : decode cX5_kinds 25 = .ok (.bipush 7, 2) := by decide +kernel
theorem dX5_kinds_27 : decode cX5_kinds 27 = .ok (.if_icmp .ge 50, 3) := by decide +kernel
theorem dX5_kinds_30 : decode cX5_kinds 30 = .ok (.aload_n 0, 1) := by decide +kernel
theorem dX5_kinds_31 : decode cX5_kinds 31 = .ok (.invokevirtual 148, 3) := by decide +kernel
theorem dX5_kinds_34 : decode cX5_kinds 34 = .ok (.aload_n 0, 1) := by decide +kernel
theorem dX5_kinds_35 : decode cX5_kinds 35 = .ok (.getfield 16, 3) := by decide +kernel
theorem dX5_kinds_38 : decode cX5_kinds 38 = .ok (.getfield 81, 3) := by decide +kernel
theorem dX5_kinds_41 : decode cX5_kinds 41 = .ok (.iload_n 2, 1) := by decide +kernel
theorem dX5_kinds_42 : decode cX5_kinds 42 = .ok (.aaload, 1) := by decide +kernel
theorem dX5_kinds_43 : decode cX5_kinds 43 = .ok (.iload 5, 2) := by decide +kernel
theorem dX5_kinds_45 : decode cX5_kinds 45 = .ok (.putfield 170, 3) := by decide +kernel
theorem dX5_kinds_48 : decode cX5_kinds 48 = .ok (.aload_n 0, 1) := by decide +kernel
theorem dX5_kinds_49 : decode cX5_kinds 49 = .ok (.iload_n 2, 1) := by decide +kernel
theorem dX5_kinds_50 : decode cX5_kinds 50 = .ok (.aload_n 0, 1) := by decide +kernel
theorem dX5_kinds_51 : decode cX5_kinds 51 = .ok (.getfield 44, 3) := by decide +kernel
theorem dX5_kinds_54 : decode cX5_kinds 54 = .ok (.iload_n 1, 1) := by decide +kernel
theorem dX5_kinds_55 : decode cX5_kinds 55 = .ok (.aaload, 1) := by decide +kernel
theorem dX5_kinds_56 : decode cX5_kinds 56 = .ok (.invokevirtual 191, 3) := by decide +kernel
theorem dX5_kinds_59 : decode cX5_kinds 59 = .ok (.ifCond .eq 12, 3) := by decide +kernel
theorem dX5_kinds_62 : decode cX5_kinds 62 = .ok (.iload 4, 2) := by decide +kernel
theorem dX5_kinds_64 : decode cX5_kinds 64 = .ok (.iconst 1, 1) := by decide +kernel
theorem dX5_kinds_65 : decode cX5_kinds 65 = .ok (.iload 5, 2) := by decide +kernel
theorem dX5_kinds_67 : decode cX5_kinds 67 = .ok (.ishl, 1) := by decide +kernel
theorem dX5_kinds_68 : decode cX5_kinds 68 = .ok (.ior, 1) := by decide +kernel
theorem dX5_kinds_69 : decode cX5_kinds 69 = .ok (.istore 4, 2) := by decide +kernel
theorem dX5_kinds_71 : decode cX5_kinds 71 = .ok (.iinc 5 1, 3) := by decide +kernel
theorem dX5_kinds_74 : decode cX5_kinds 74 = .ok (.goto (-51), 3) := by decide +kernel
theorem dX5_kinds_77 : decode cX5_kinds 77 = .ok (.iload 4, 2) := by decide +kernel
theorem dX5_kinds_79 : decode cX5_kinds 79 = .ok (.ireturn, 1) := by decide +kernel
theorem dX5_chance_0 : decode cX5_chance 0 = .ok (.iload_n 1, 1) := by decide +kernel
theorem dX5_chance_1 : decode cX5_chance 1 = .ok (.iconst 1, 1) := by decide +kernel
theorem dX5_chance_2 : decode cX5_chance 2 = .ok (.if_icmp .lt 9, 3) := by decide +kernel
theorem dX5_chance_5 : decode cX5_chance 5 = .ok (.iload_n 1, 1) := by decide +kernel
theorem dX5_chance_6 : decode cX5_chance 6 = .ok (.bipush 20, 2) := by decide +kernel
theorem dX5_chance_8 : decode cX5_chance 8 = .ok (.if_icmp .le 10, 3) := by decide +kernel
theorem dX5_chance_11 : decode cX5_chance 11 = .ok (.aload_n 0, 1) := by decide +kernel
theorem dX5_chance_12 : decode cX5_chance 12 = .ok (.ldc 57, 2) := by decide +kernel
theorem dX5_chance_14 : decode cX5_chance 14 = .ok (.invokevirtual 58, 3) := by decide +kernel
theorem dX5_chance_17 : decode cX5_chance 17 = .ok (.ireturn, 1) := by decide +kernel
theorem dX5_chance_18 : decode cX5_chance 18 = .ok (.aload_n 0, 1) := by decide +kernel
theorem dX5_chance_19 : decode cX5_chance 19 = .ok (.getfield 12, 3) := by decide +kernel
theorem dX5_chance_22 : decode cX5_chance 22 = .ok (.getfield 119, 3) := by decide +kernel
theorem dX5_chance_25 : decode cX5_chance 25 = .ok (.iload_n 1, 1) := by decide +kernel
theorem dX5_chance_26 : decode cX5_chance 26 = .ok (.iadd, 1) := by decide +kernel
theorem dX5_chance_27 : decode cX5_chance 27 = .ok (.ldc 122, 2) := by decide +kernel
theorem dX5_chance_29 : decode cX5_chance 29 = .ok (.if_icmp .le 10, 3) := by decide +kernel
theorem dX5_chance_32 : decode cX5_chance 32 = .ok (.aload_n 0, 1) := by decide +kernel
theorem dX5_chance_33 : decode cX5_chance 33 = .ok (.ldc 111, 2) := by decide +kernel
theorem dX5_chance_35 : decode cX5_chance 35 = .ok (.invokevirtual 58, 3) := by decide +kernel
theorem dX5_chance_38 : decode cX5_chance 38 = .ok (.ireturn, 1) := by decide +kernel
theorem dX5_chance_39 : decode cX5_chance 39 = .ok (.iconst 0, 1) := by decide +kernel
theorem dX5_chance_40 : decode cX5_chance 40 = .ok (.istore_n 2, 1) := by decide +kernel
theorem dX5_chance_41 : decode cX5_chance 41 = .ok (.iload_n 2, 1) := by decide +kernel
theorem dX5_chance_42 : decode cX5_chance 42 = .ok (.iload_n 1, 1) := by decide +kernel
theorem dX5_chance_43 : decode cX5_chance 43 = .ok (.if_icmp .ge 16, 3) := by decide +kernel
theorem dX5_chance_46 : decode cX5_chance 46 = .ok (.aload_n 0, 1) := by decide +kernel
theorem dX5_chance_47 : decode cX5_chance 47 = .ok (.getfield 12, 3) := by decide +kernel
theorem dX5_chance_50 : decode cX5_chance 50 = .ok (.invokevirtual 195, 3) := by decide +kernel
theorem dX5_chance_53 : decode cX5_chance 53 = .ok (.iinc 2 1, 3) := by decide +kernel
theorem dX5_chance_56 : decode cX5_chance 56 = .ok (.goto (-15), 3) := by decide +kernel
theorem dX5_chance_59 : decode cX5_chance 59 = .ok (.aload_n 0, 1) := by decide +kernel
theorem dX5_chance_60 : decode cX5_chance 60 = .ok (.getfield 12, 3) := by decide +kernel
theorem dX5_chance_63 : decode cX5_chance 63 = .ok (.getfield 126, 3) := by decide +kernel
theorem dX5_chance_66 : decode cX5_chance 66 = .ok (.ireturn, 1) := by decide +kernel
theorem dX5_odds_0 : decode cX5_odds 0 = .ok (.aload_n 0, 1) := by decide +kernel
theorem dX5_odds_1 : decode cX5_odds 1 = .ok (.iload_n 1, 1) := by decide +kernel
theorem dX5_odds_2 : decode cX5_odds 2 = .ok (.invokevirtual 77, 3) := by decide +kernel
theorem dX5_odds_5 : decode cX5_odds 5 = .ok (.ifCond .eq 20, 3) := by decide +kernel
theorem dX5_odds_8 : decode cX5_odds 8 = .ok (.iload_n 2, 1) := by decide +kernel
theorem dX5_odds_9 : decode cX5_odds 9 = .ok (.bipush 17, 2) := by decide +kernel
theorem dX5_odds_11 : decode cX5_odds 11 = .ok (.invokestatic 53, 3) := by decide +kernel
theorem dX5_odds_14 : decode cX5_odds 14 = .ok (.ifCond .eq 11, 3) := by decide +kernel
theorem dX5_odds_17 : decode cX5_odds 17 = .ok (.iload_n 3, 1) := by decide +kernel
theorem dX5_odds_18 : decode cX5_odds 18 = .ok (.iconst 1, 1) := by decide +kernel
theorem dX5_odds_19 : decode cX5_odds 19 = .ok (.invokestatic 53, 3) := by decide +kernel
theorem dX5_odds_22 : decode cX5_odds 22 = .ok (.ifCond .ne 11, 3) := by decide +kernel
theorem dX5_odds_25 : decode cX5_odds 25 = .ok (.aload_n 0, 1) := by decide +kernel
theorem dX5_odds_26 : decode cX5_odds 26 = .ok (.ldc 57, 2) := by decide +kernel
theorem dX5_odds_28 : decode cX5_odds 28 = .ok (.invokevirtual 58, 3) := by decide +kernel
theorem dX5_odds_31 : decode cX5_odds 31 = .ok (.i2l, 1) := by decide +kernel
theorem dX5_odds_32 : decode cX5_odds 32 = .ok (.lreturn, 1) := by decide +kernel
theorem dX5_odds_33 : decode cX5_odds 33 = .ok (.aload_n 0, 1) := by decide +kernel
theorem dX5_odds_34 : decode cX5_odds 34 = .ok (.getfield 12, 3) := by decide +kernel
theorem dX5_odds_37 : decode cX5_odds 37 = .ok (.getfield 81, 3) := by decide +kernel
theorem dX5_odds_40 : decode cX5_odds 40 = .ok (.iload_n 1, 1) := by decide +kernel
theorem dX5_odds_41 : decode cX5_odds 41 = .ok (.aaload, 1) := by decide +kernel
theorem dX5_odds_42 : decode cX5_odds 42 = .ok (.getfield 116, 3) := by decide +kernel
theorem dX5_odds_45 : decode cX5_odds 45 = .ok (.invokestatic 158, 3) := by decide +kernel
theorem dX5_odds_48 : decode cX5_odds 48 = .ok (.istore 4, 2) := by decide +kernel
theorem dX5_odds_50 : decode cX5_odds 50 = .ok (.iload 4, 2) := by decide +kernel
theorem dX5_odds_52 : decode cX5_odds 52 = .ok (.istore 5, 2) := by decide +kernel
theorem dX5_odds_54 : decode cX5_odds 54 = .ok (.bipush 12, 2) := by decide +kernel
theorem dX5_odds_56 : decode cX5_odds 56 = .ok (.istore 6, 2) := by decide +kernel
theorem dX5_odds_58 : decode cX5_odds 58 = .ok (.bipush 12, 2) := by decide +kernel
theorem dX5_odds_60 : decode cX5_odds 60 = .ok (.istore 7, 2) := by decide +kernel
theorem dX5_odds_62 : decode cX5_odds 62 = .ok (.iload 7, 2) := by decide +kernel
theorem dX5_odds_64 : decode cX5_odds 64 = .ok (.iconst 1, 1) := by decide +kernel
theorem dX5_odds_65 : decode cX5_odds 65 = .ok (.if_icmp .le 39, 3) := by decide +kernel
theorem dX5_odds_68 : decode cX5_odds 68 = .ok (.iload 5, 2) := by decide +kernel
theorem dX5_odds_70 : decode cX5_odds 70 = .ok (.iload 7, 2) := by decide +kernel
theorem dX5_odds_72 : decode cX5_odds 72 = .ok (.irem, 1) := by decide +kernel
theorem dX5_odds_73 : decode cX5_odds 73 = .ok (.ifCond .ne 25, 3) := by decide +kernel
theorem dX5_odds_76 : decode cX5_odds 76 = .ok (.iload 6, 2) := by decide +kernel
theorem dX5_odds_78 : decode cX5_odds 78 = .ok (.iload 7, 2) := by decide +kernel
theorem dX5_odds_80 : decode cX5_odds 80 = .ok (.irem, 1) := by decide +kernel
theorem dX5_odds_81 : decode cX5_odds 81 = .ok (.ifCond .ne 17, 3) := by decide +kernel
theorem dX5_odds_84 : decode cX5_odds 84 = .ok (.iload 5, 2) := by decide +kernel
theorem dX5_odds_86 : decode cX5_odds 86 = .ok (.iload 7, 2) := by decide +kernel
theorem dX5_odds_88 : decode cX5_odds 88 = .ok (.idiv, 1) := by decide +kernel
theorem dX5_odds_89 : decode cX5_odds 89 = .ok (.istore 5, 2) := by decide +kernel
theorem dX5_odds_91 : decode cX5_odds 91 = .ok (.iload 6, 2) := by decide +kernel
theorem dX5_odds_93 : decode cX5_odds 93 = .ok (.iload 7, 2) := by decide +kernel
theorem dX5_odds_95 : decode cX5_odds 95 = .ok (.idiv, 1) := by decide +kernel
theorem dX5_odds_96 : decode cX5_odds 96 = .ok (.istore 6, 2) := by decide +kernel
theorem dX5_odds_98 : decode cX5_odds 98 = .ok (.iinc 7 (-1), 3) := by decide +kernel
theorem dX5_odds_101 : decode cX5_odds 101 = .ok (.goto (-39), 3) := by decide +kernel
theorem dX5_odds_104 : decode cX5_odds 104 = .ok (.iload_n 3, 1) := by decide +kernel
theorem dX5_odds_105 : decode cX5_odds 105 = .ok (.ifCond .ne 9, 3) := by decide +kernel
theorem dX5_odds_108 : decode cX5_odds 108 = .ok (.iload 5, 2) := by decide +kernel
theorem dX5_odds_110 : decode cX5_odds 110 = .ok (.i2l, 1) := by decide +kernel
theorem dX5_odds_111 : decode cX5_odds 111 = .ok (.goto 6, 3) := by decide +kernel
theorem dX5_odds_114 : decode cX5_odds 114 = .ok (.iload 6, 2) := by decide +kernel
theorem dX5_odds_116 : decode cX5_odds 116 = .ok (.i2l, 1) := by decide +kernel
theorem dX5_odds_117 : decode cX5_odds 117 = .ok (.iload_n 2, 1) := by decide +kernel
theorem dX5_odds_118 : decode cX5_odds 118 = .ok (.invokestatic 198, 3) := by decide +kernel
theorem dX5_odds_121 : decode cX5_odds 121 = .ok (.lreturn, 1) := by decide +kernel
theorem dX5_seed_0 : decode cX5_seed 0 = .ok (.aload_n 0, 1) := by decide +kernel
theorem dX5_seed_1 : decode cX5_seed 1 = .ok (.getfield 12, 3) := by decide +kernel
theorem dX5_seed_4 : decode cX5_seed 4 = .ok (.getfield 202, 3) := by decide +kernel
theorem dX5_seed_7 : decode cX5_seed 7 = .ok (.istore_n 2, 1) := by decide +kernel
theorem dX5_seed_8 : decode cX5_seed 8 = .ok (.aload_n 0, 1) := by decide +kernel
theorem dX5_seed_9 : decode cX5_seed 9 = .ok (.getfield 12, 3) := by decide +kernel
theorem dX5_seed_12 : decode cX5_seed 12 = .ok (.iload_n 1, 1) := by decide +kernel
theorem dX5_seed_13 : decode cX5_seed 13 = .ok (.putfield 202, 3) := by decide +kernel
theorem dX5_seed_16 : decode cX5_seed 16 = .ok (.iload_n 2, 1) := by decide +kernel
theorem dX5_seed_17 : decode cX5_seed 17 = .ok (.ireturn, 1) := by decide +kernel
theorem dX5_feed_0 : decode cX5_feed 0 = .ok (.iload_n 2, 1) := by decide +kernel
theorem dX5_feed_1 : decode cX5_feed 1 = .ok (.iconst 1, 1) := by decide +kernel
theorem dX5_feed_2 : decode cX5_feed 2 = .ok (.if_icmp .lt 8, 3) := by decide +kernel
theorem dX5_feed_5 : decode cX5_feed 5 = .ok (.iload_n 2, 1) := by decide +kernel
theorem dX5_feed_6 : decode cX5_feed 6 = .ok (.iconst 4, 1) := by decide +kernel
theorem dX5_feed_7 : decode cX5_feed 7 = .ok (.if_icmp .le 10, 3) := by decide +kernel
theorem dX5_feed_10 : decode cX5_feed 10 = .ok (.aload_n 0, 1) := by decide +kernel
theorem dX5_feed_11 : decode cX5_feed 11 = .ok (.ldc 57, 2) := by decide +kernel
theorem dX5_feed_13 : decode cX5_feed 13 = .ok (.invokevirtual 58, 3) := by decide +kernel
theorem dX5_feed_16 : decode cX5_feed 16 = .ok (.ireturn, 1) := by decide +kernel
theorem dX5_feed_17 : decode cX5_feed 17 = .ok (.aload_n 0, 1) := by decide +kernel
theorem dX5_feed_18 : decode cX5_feed 18 = .ok (.getfield 29, 3) := by decide +kernel
theorem dX5_feed_21 : decode cX5_feed 21 = .ok (.getfield 205, 3) := by decide +kernel
theorem dX5_feed_24 : decode cX5_feed 24 = .ok (.iload_n 2, 1) := by decide +kernel
theorem dX5_feed_25 : decode cX5_feed 25 = .ok (.iadd, 1) := by decide +kernel
theorem dX5_feed_26 : decode cX5_feed 26 = .ok (.bipush 120, 2) := by decide +kernel
theorem dX5_feed_28 : decode cX5_feed 28 = .ok (.if_icmp .le 10, 3) := by decide +kernel
theorem dX5_feed_31 : decode cX5_feed 31 = .ok (.aload_n 0, 1) := by decide +kernel
theorem dX5_feed_32 : decode cX5_feed 32 = .ok (.ldc 72, 2) := by decide +kernel
theorem dX5_feed_34 : decode cX5_feed 34 = .ok (.invokevirtual 58, 3) := by decide +kernel
theorem dX5_feed_37 : decode cX5_feed 37 = .ok (.ireturn, 1) := by decide +kernel
theorem dX5_feed_38 : decode cX5_feed 38 = .ok (.iload_n 2, 1) := by decide +kernel
theorem dX5_feed_39 : decode cX5_feed 39 = .ok (.iconst 1, 1) := by decide +kernel
theorem dX5_feed_40 : decode cX5_feed 40 = .ok (.isub, 1) := by decide +kernel
theorem dX5_feed_41 : decode cX5_feed 41 = .ok (.istore_n 3, 1) := by decide +kernel
theorem dX5_feed_42 : decode cX5_feed 42 = .ok (.iload_n 3, 1) := by decide +kernel
theorem dX5_feed_43 : decode cX5_feed 43 = .ok (.ifCond .lt 26, 3) := by decide +kernel
theorem dX5_feed_46 : decode cX5_feed 46 = .ok (.aload_n 0, 1) := by decide +kernel
theorem dX5_feed_47 : decode cX5_feed 47 = .ok (.getfield 29, 3) := by decide +kernel
theorem dX5_feed_50 : decode cX5_feed 50 = .ok (.iload_n 1, 1) := by decide +kernel
theorem dX5_feed_51 : decode cX5_feed 51 = .ok (.bipush 8, 2) := by decide +kernel
theorem dX5_feed_53 : decode cX5_feed 53 = .ok (.iload_n 3, 1) := by decide +kernel
theorem dX5_feed_54 : decode cX5_feed 54 = .ok (.imul, 1) := by decide +kernel
theorem dX5_feed_55 : decode cX5_feed 55 = .ok (.iushr, 1) := by decide +kernel
theorem dX5_feed_56 : decode cX5_feed 56 = .ok (.sipush 255, 3) := by decide +kernel
theorem dX5_feed_59 : decode cX5_feed 59 = .ok (.iand, 1) := by decide +kernel
theorem dX5_feed_60 : decode cX5_feed 60 = .ok (.invokevirtual 208, 3) := by decide +kernel
theorem dX5_feed_63 : decode cX5_feed 63 = .ok (.iinc 3 (-1), 3) := by decide +kernel
theorem dX5_feed_66 : decode cX5_feed 66 = .ok (.goto (-24), 3) := by decide +kernel
theorem dX5_feed_69 : decode cX5_feed 69 = .ok (.aload_n 0, 1) := by decide +kernel
theorem dX5_feed_70 : decode cX5_feed 70 = .ok (.getfield 29, 3) := by decide +kernel
theorem dX5_feed_73 : decode cX5_feed 73 = .ok (.getfield 205, 3) := by decide +kernel
theorem dX5_feed_76 : decode cX5_feed 76 = .ok (.ireturn, 1) := by decide +kernel
theorem dX5_wipe_0 : decode cX5_wipe 0 = .ok (.aload_n 0, 1) := by decide +kernel
theorem dX5_wipe_1 : decode cX5_wipe 1 = .ok (.getfield 29, 3) := by decide +kernel
theorem dX5_wipe_4 : decode cX5_wipe 4 = .ok (.getfield 205, 3) := by decide +kernel
theorem dX5_wipe_7 : decode cX5_wipe 7 = .ok (.istore_n 1, 1) := by decide +kernel
theorem dX5_wipe_8 : decode cX5_wipe 8 = .ok (.aload_n 0, 1) := by decide +kernel
theorem dX5_wipe_9 : decode cX5_wipe 9 = .ok (.getfield 29, 3) := by decide +kernel
theorem dX5_wipe_12 : decode cX5_wipe 12 = .ok (.iconst 0, 1) := by decide +kernel
theorem dX5_wipe_13 : decode cX5_wipe 13 = .ok (.putfield 205, 3) := by decide +kernel
theorem dX5_wipe_16 : decode cX5_wipe 16 = .ok (.iload_n 1, 1) := by decide +kernel
theorem dX5_wipe_17 : decode cX5_wipe 17 = .ok (.ireturn, 1) := by decide +kernel
theorem dX5_text_0 : decode cX5_text 0 = .ok (.aload_n 0, 1) := by decide +kernel
theorem dX5_text_1 : decode cX5_text 1 = .ok (.invokevirtual 148, 3) := by decide +kernel
theorem dX5_text_4 : decode cX5_text 4 = .ok (.aload_n 0, 1) := by decide +kernel
theorem dX5_text_5 : decode cX5_text 5 = .ok (.getfield 38, 3) := by decide +kernel
theorem dX5_text_8 : decode cX5_text 8 = .ok (.invokevirtual 211, 3) := by decide +kernel
theorem dX5_text_11 : decode cX5_text 11 = .ok (.istore_n 1, 1) := by decide +kernel
theorem dX5_text_12 : decode cX5_text 12 = .ok (.aload_n 0, 1) := by decide +kernel
theorem dX5_text_13 : decode cX5_text 13 = .ok (.getfield 29, 3) := by decide +kernel
theorem dX5_text_16 : decode cX5_text 16 = .ok (.iconst 0, 1) := by decide +kernel
theorem dX5_text_17 : decode cX5_text 17 = .ok (.putfield 205, 3) := by decide +kernel
theorem dX5_text_20 : decode cX5_text 20 = .ok (.iload_n 1, 1) := by decide +kernel
theorem dX5_text_21 : decode cX5_text 21 = .ok (.ifCond .le 14, 3) := by decide +kernel
theorem dX5_text_24 : decode cX5_text 24 = .ok (.aload_n 0, 1) := by decide +kernel
theorem dX5_text_25 : decode cX5_text 25 = .ok (.getfield 12, 3) := by decide +kernel
theorem dX5_text_28 : decode cX5_text 28 = .ok (.aload_n 0, 1) := by decide +kernel
theorem dX5_text_29 : decode cX5_text 29 = .ok (.getfield 16, 3) := by decide +kernel
theorem dX5_text_32 : decode cX5_text 32 = .ok (.invokevirtual 214, 3) := by decide +kernel
theorem dX5_text_35 : decode cX5_text 35 = .ok (.iload_n 1, 1) := by decide +kernel
theorem dX5_text_36 : decode cX5_text 36 = .ok (.ireturn, 1) := by decide +kernel
theorem dX5_hold_0 : decode cX5_hold 0 = .ok (.iload_n 1, 1) := by decide +kernel
theorem dX5_hold_1 : decode cX5_hold 1 = .ok (.bipush 9, 2) := by decide +kernel
theorem dX5_hold_3 : decode cX5_hold 3 = .ok (.invokestatic 53, 3) := by decide +kernel
theorem dX5_hold_6 : decode cX5_hold 6 = .ok (.ifCond .eq 16, 3) := by decide +kernel
theorem dX5_hold_9 : decode cX5_hold 9 = .ok (.iload_n 2, 1) := by decide +kernel
theorem dX5_hold_10 : decode cX5_hold 10 = .ok (.iconst (-1), 1) := by decide +kernel
theorem dX5_hold_11 : decode cX5_hold 11 = .ok (.if_icmp .eq 18, 3) := by decide +kernel
theorem dX5_hold_14 : decode cX5_hold 14 = .ok (.aload_n 0, 1) := by decide +kernel
theorem dX5_hold_15 : decode cX5_hold 15 = .ok (.iload_n 2, 1) := by decide +kernel
theorem dX5_hold_16 : decode cX5_hold 16 = .ok (.invokevirtual 77, 3) := by decide +kernel
theorem dX5_hold_19 : decode cX5_hold 19 = .ok (.ifCond .ne 10, 3) := by decide +kernel
theorem dX5_hold_22 : decode cX5_hold 22 = .ok (.aload_n 0, 1) := by decide +kernel
theorem dX5_hold_23 : decode cX5_hold 23 = .ok (.ldc 57, 2) := by decide +kernel
theorem dX5_hold_25 : decode cX5_hold 25 = .ok (.invokevirtual 58, 3) := by decide +kernel
theorem dX5_hold_28 : decode cX5_hold 28 = .ok (.ireturn, 1) := by decide +kernel
theorem dX5_hold_29 : decode cX5_hold 29 = .ok (.aload_n 0, 1) := by decide +kernel
theorem dX5_hold_30 : decode cX5_hold 30 = .ok (.getfield 12, 3) := by decide +kernel
theorem dX5_hold_33 : decode cX5_hold 33 = .ok (.getfield 218, 3) := by decide +kernel
theorem dX5_hold_36 : decode cX5_hold 36 = .ok (.iload_n 1, 1) := by decide +kernel
theorem dX5_hold_37 : decode cX5_hold 37 = .ok (.iload_n 2, 1) := by decide +kernel
theorem dX5_hold_38 : decode cX5_hold 38 = .ok (.iastore, 1) := by decide +kernel
theorem dX5_hold_39 : decode cX5_hold 39 = .ok (.iconst 1, 1) := by decide +kernel
theorem dX5_hold_40 : decode cX5_hold 40 = .ok (.ireturn, 1) := by decide +kernel
theorem dX5_as_0 : decode cX5_as 0 = .ok (.iload_n 1, 1) := by decide +kernel
theorem dX5_as_1 : decode cX5_as 1 = .ok (.bipush 9, 2) := by decide +kernel
theorem dX5_as_3 : decode cX5_as 3 = .ok (.invokestatic 53, 3) := by decide +kernel
theorem dX5_as_6 : decode cX5_as 6 = .ok (.ifCond .eq 12, 3) := by decide +kernel
theorem dX5_as_9 : decode cX5_as 9 = .ok (.iload_n 2, 1) := by decide +kernel
theorem dX5_as_10 : decode cX5_as 10 = .ok (.bipush 6, 2) := by decide +kernel
theorem dX5_as_12 : decode cX5_as 12 = .ok (.invokestatic 53, 3) := by decide +kernel
theorem dX5_as_15 : decode cX5_as 15 = .ok (.ifCond .ne 10, 3) := by decide +kernel
theorem dX5_as_18 : decode cX5_as 18 = .ok (.aload_n 0, 1) := by decide +kernel
theorem dX5_as_19 : decode cX5_as 19 = .ok (.ldc 57, 2) := by decide +kernel
theorem dX5_as_21 : decode cX5_as 21 = .ok (.invokevirtual 58, 3) := by decide +kernel
theorem dX5_as_24 : decode cX5_as 24 = .ok (.ireturn, 1) := by decide +kernel
theorem dX5_as_25 : decode cX5_as 25 = .ok (.aload_n 0, 1) := by decide +kernel
theorem dX5_as_26 : decode cX5_as 26 = .ok (.getfield 12, 3) := by decide +kernel
theorem dX5_as_29 : decode cX5_as 29 = .ok (.getfield 218, 3) := by decide +kernel
theorem dX5_as_32 : decode cX5_as 32 = .ok (.iload_n 1, 1) := by decide +kernel
theorem dX5_as_33 : decode cX5_as 33 = .ok (.iaload, 1) := by decide +kernel
theorem dX5_as_34 : decode cX5_as 34 = .ok (.istore_n 3, 1) := by decide +kernel
theorem dX5_as_35 : decode cX5_as 35 = .ok (.aload_n 0, 1) := by decide +kernel
theorem dX5_as_36 : decode cX5_as 36 = .ok (.iload_n 3, 1) := by decide +kernel
theorem dX5_as_37 : decode cX5_as 37 = .ok (.invokevirtual 77, 3) := by decide +kernel
theorem dX5_as_40 : decode cX5_as 40 = .ok (.ifCond .ne 10, 3) := by decide +kernel
theorem dX5_as_43 : decode cX5_as 43 = .ok (.aload_n 0, 1) := by decide +kernel
theorem dX5_as_44 : decode cX5_as 44 = .ok (.ldc 221, 2) := by decide +kernel
theorem dX5_as_46 : decode cX5_as 46 = .ok (.invokevirtual 58, 3) := by decide +kernel
theorem dX5_as_49 : decode cX5_as 49 = .ok (.ireturn, 1) := by decide +kernel
theorem dX5_as_50 : decode cX5_as 50 = .ok (.aload_n 0, 1) := by decide +kernel
theorem dX5_as_51 : decode cX5_as 51 = .ok (.getfield 12, 3) := by decide +kernel
theorem dX5_as_54 : decode cX5_as 54 = .ok (.getfield 81, 3) := by decide +kernel
theorem dX5_as_57 : decode cX5_as 57 = .ok (.iload_n 3, 1) := by decide +kernel
theorem dX5_as_58 : decode cX5_as 58 = .ok (.aaload, 1) := by decide +kernel
theorem dX5_as_59 : decode cX5_as 59 = .ok (.iload_n 2, 1) := by decide +kernel
theorem dX5_as_60 : decode cX5_as 60 = .ok (.invokevirtual 222, 3) := by decide +kernel
theorem dX5_as_63 : decode cX5_as 63 = .ok (.ifCond .eq 7, 3) := by decide +kernel
theorem dX5_as_66 : decode cX5_as 66 = .ok (.iload_n 3, 1) := by decide +kernel
theorem dX5_as_67 : decode cX5_as 67 = .ok (.goto 9, 3) := by decide +kernel
theorem dX5_as_70 : decode cX5_as 70 = .ok (.aload_n 0, 1) := by decide +kernel
theorem dX5_as_71 : decode cX5_as 71 = .ok (.ldc 225, 2) := by decide +kernel
theorem dX5_as_73 : decode cX5_as 73 = .ok (.invokevirtual 58, 3) := by decide +kernel
theorem dX5_as_76 : decode cX5_as 76 = .ok (.ireturn, 1) := by decide +kernel
theorem dX5_sheet_0 : decode cX5_sheet 0 = .ok (.aload_n 0, 1) := by decide +kernel
theorem dX5_sheet_1 : decode cX5_sheet 1 = .ok (.iload_n 1, 1) := by decide +kernel
theorem dX5_sheet_2 : decode cX5_sheet 2 = .ok (.invokevirtual 226, 3) := by decide +kernel
theorem dX5_sheet_5 : decode cX5_sheet 5 = .ok (.ifCond .eq 25, 3) := by decide +kernel
theorem dX5_sheet_8 : decode cX5_sheet 8 = .ok (.iload_n 2, 1) := by decide +kernel
theorem dX5_sheet_9 : decode cX5_sheet 9 = .ok (.ifCond .eq 28, 3) := by decide +kernel
theorem dX5_sheet_12 : decode cX5_sheet 12 = .ok (.iload_n 2, 1) := by decide +kernel
theorem dX5_sheet_13 : decode cX5_sheet 13 = .ok (.bipush 8, 2) := by decide +kernel
theorem dX5_sheet_15 : decode cX5_sheet 15 = .ok (.if_icmp .eq 22, 3) := by decide +kernel
theorem dX5_sheet_18 : decode cX5_sheet 18 = .ok (.iload_n 2, 1) := by decide +kernel
theorem dX5_sheet_19 : decode cX5_sheet 19 = .ok (.bipush 16, 2) := by decide +kernel
theorem dX5_sheet_21 : decode cX5_sheet 21 = .ok (.if_icmp .eq 16, 3) := by decide +kernel
theorem dX5_sheet_24 : decode cX5_sheet 24 = .ok (.iload_n 2, 1) := by decide +kernel
theorem dX5_sheet_25 : decode cX5_sheet 25 = .ok (.bipush 32, 2) := by decide +kernel
theorem dX5_sheet_27 : decode cX5_sheet 27 = .ok (.if_icmp .eq 10, 3) := by decide +kernel
theorem dX5_sheet_30 : decode cX5_sheet 30 = .ok (.aload_n 0, 1) := by decide +kernel
theorem dX5_sheet_31 : decode cX5_sheet 31 = .ok (.ldc 57, 2) := by decide +kernel
theorem dX5_sheet_33 : decode cX5_sheet 33 = .ok (.invokevirtual 58, 3) := by decide +kernel
theorem dX5_sheet_36 : decode cX5_sheet 36 = .ok (.ireturn, 1) := by decide +kernel
theorem dX5_sheet_37 : decode cX5_sheet 37 = .ok (.iload_n 3, 1) := by decide +kernel
theorem dX5_sheet_38 : decode cX5_sheet 38 = .ok (.ifCond .ge 10, 3) := by decide +kernel
theorem dX5_sheet_41 : decode cX5_sheet 41 = .ok (.aload_n 0, 1) := by decide +kernel
theorem dX5_sheet_42 : decode cX5_sheet 42 = .ok (.ldc 229, 2) := by decide +kernel
theorem dX5_sheet_44 : decode cX5_sheet 44 = .ok (.invokevirtual 58, 3) := by decide +kernel
theorem dX5_sheet_47 : decode cX5_sheet 47 = .ok (.ireturn, 1) := by decide +kernel
theorem dX5_sheet_48 : decode cX5_sheet 48 = .ok (.iload_n 3, 1) := by decide +kernel
theorem dX5_sheet_49 : decode cX5_sheet 49 = .ok (.bipush 40, 2) := by decide +kernel
theorem dX5_sheet_51 : decode cX5_sheet 51 = .ok (.if_icmp .le 10, 3) := by decide +kernel
theorem dX5_sheet_54 : decode cX5_sheet 54 = .ok (.aload_n 0, 1) := by decide +kernel
theorem dX5_sheet_55 : decode cX5_sheet 55 = .ok (.ldc 57, 2) := by decide +kernel
theorem dX5_sheet_57 : decode cX5_sheet 57 = .ok (.invokevirtual 58, 3) := by decide +kernel
theorem dX5_sheet_60 : decode cX5_sheet 60 = .ok (.ireturn, 1) := by decide +kernel
theorem dX5_sheet_61 : decode cX5_sheet 61 = .ok (.aload_n 0, 1) := by decide +kernel
theorem dX5_sheet_62 : decode cX5_sheet 62 = .ok (.getfield 44, 3) := by decide +kernel
theorem dX5_sheet_65 : decode cX5_sheet 65 = .ok (.iload_n 1, 1) := by decide +kernel
theorem dX5_sheet_66 : decode cX5_sheet 66 = .ok (.aaload, 1) := by decide +kernel
theorem dX5_sheet_67 : decode cX5_sheet 67 = .ok (.iload_n 2, 1) := by decide +kernel
theorem dX5_sheet_68 : decode cX5_sheet 68 = .ok (.iload_n 3, 1) := by decide +kernel
theorem dX5_sheet_69 : decode cX5_sheet 69 = .ok (.invokevirtual 230, 3) := by decide +kernel
theorem dX5_sheet_72 : decode cX5_sheet 72 = .ok (.aload_n 0, 1) := by decide +kernel
theorem dX5_sheet_73 : decode cX5_sheet 73 = .ok (.getfield 44, 3) := by decide +kernel
theorem dX5_sheet_76 : decode cX5_sheet 76 = .ok (.iload_n 1, 1) := by decide +kernel
theorem dX5_sheet_77 : decode cX5_sheet 77 = .ok (.aaload, 1) := by decide +kernel
theorem dX5_sheet_78 : decode cX5_sheet 78 = .ok (.getfield 233, 3) := by decide +kernel
theorem dX5_sheet_81 : decode cX5_sheet 81 = .ok (.ireturn, 1) := by decide +kernel
theorem dX5_write_0 : decode cX5_write 0 = .ok (.aload_n 0, 1) := by decide +kernel
theorem dX5_write_1 : decode cX5_write 1 = .ok (.iload_n 1, 1) := by decide +kernel
theorem dX5_write_2 : decode cX5_write 2 = .ok (.invokevirtual 236, 3) := by decide +kernel
theorem dX5_write_5 : decode cX5_write 5 = .ok (.istore 4, 2) := by decide +kernel
theorem dX5_write_7 : decode cX5_write 7 = .ok (.iload 4, 2) := by decide +kernel
theorem dX5_write_9 : decode cX5_write 9 = .ok (.ifCond .eq 10, 3) := by decide +kernel
theorem dX5_write_12 : decode cX5_write 12 = .ok (.aload_n 0, 1) := by decide +kernel
theorem dX5_write_13 : decode cX5_write 13 = .ok (.iload 4, 2) := by decide +kernel
theorem dX5_write_15 : decode cX5_write 15 = .ok (.invokevirtual 58, 3) := by decide +kernel
theorem dX5_write_18 : decode cX5_write 18 = .ok (.ireturn, 1) := by decide +kernel
theorem dX5_write_19 : decode cX5_write 19 = .ok (.iload_n 2, 1) := by decide +kernel
theorem dX5_write_20 : decode cX5_write 20 = .ok (.aload_n 0, 1) := by decide +kernel
theorem dX5_write_21 : decode cX5_write 21 = .ok (.getfield 44, 3) := by decide +kernel
theorem dX5_write_24 : decode cX5_write 24 = .ok (.iload_n 1, 1) := by decide +kernel
theorem dX5_write_25 : decode cX5_write 25 = .ok (.aaload, 1) := by decide +kernel
theorem dX5_write_26 : decode cX5_write 26 = .ok (.getfield 233, 3) := by decide +kernel
theorem dX5_write_29 : decode cX5_write 29 = .ok (.iconst 1, 1) := by decide +kernel
theorem dX5_write_30 : decode cX5_write 30 = .ok (.isub, 1) := by decide +kernel
theorem dX5_write_31 : decode cX5_write 31 = .ok (.invokestatic 53, 3) := by decide +kernel
theorem dX5_write_34 : decode cX5_write 34 = .ok (.ifCond .ne 10, 3) := by decide +kernel
theorem dX5_write_37 : decode cX5_write 37 = .ok (.aload_n 0, 1) := by decide +kernel
theorem dX5_write_38 : decode cX5_write 38 = .ok (.ldc 57, 2) := by decide +kernel
theorem dX5_write_40 : decode cX5_write 40 = .ok (.invokevirtual 58, 3) := by decide +kernel
theorem dX5_write_43 : decode cX5_write 43 = .ok (.ireturn, 1) := by decide +kernel
theorem dX5_write_44 : decode cX5_write 44 = .ok (.aload_n 0, 1) := by decide +kernel
theorem dX5_write_45 : decode cX5_write 45 = .ok (.getfield 44, 3) := by decide +kernel
theorem dX5_write_48 : decode cX5_write 48 = .ok (.iload_n 1, 1) := by decide +kernel
theorem dX5_write_49 : decode cX5_write 49 = .ok (.aaload, 1) := by decide +kernel
theorem dX5_write_50 : decode cX5_write 50 = .ok (.iload_n 2, 1) := by decide +kernel
theorem dX5_write_51 : decode cX5_write 51 = .ok (.iload_n 3, 1) := by decide +kernel
theorem dX5_write_52 : decode cX5_write 52 = .ok (.invokevirtual 239, 3) := by decide +kernel
theorem dX5_write_55 : decode cX5_write 55 = .ok (.iconst 1, 1) := by decide +kernel
theorem dX5_write_56 : decode cX5_write 56 = .ok (.ireturn, 1) := by decide +kernel
theorem dX5_copy_0 : decode cX5_copy 0 = .ok (.aload_n 0, 1) := by decide +kernel
theorem dX5_copy_1 : decode cX5_copy 1 = .ok (.iload_n 1, 1) := by decide +kernel
theorem dX5_copy_2 : decode cX5_copy 2 = .ok (.invokevirtual 226, 3) := by decide +kernel
theorem dX5_copy_5 : decode cX5_copy 5 = .ok (.ifCond .eq 11, 3) := by decide +kernel
theorem dX5_copy_8 : decode cX5_copy 8 = .ok (.aload_n 0, 1) := by decide +kernel
theorem dX5_copy_9 : decode cX5_copy 9 = .ok (.iload_n 3, 1) := by decide +kernel
theorem dX5_copy_10 : decode cX5_copy 10 = .ok (.invokevirtual 226, 3) := by decide +kernel
theorem dX5_copy_13 : decode cX5_copy 13 = .ok (.ifCond .ne 10, 3) := by decide +kernel
theorem dX5_copy_16 : decode cX5_copy 16 = .ok (.aload_n 0, 1) := by decide +kernel
theorem dX5_copy_17 : decode cX5_copy 17 = .ok (.ldc 57, 2) := by decide +kernel
theorem dX5_copy_19 : decode cX5_copy 19 = .ok (.invokevirtual 58, 3) := by decide +kernel
theorem dX5_copy_22 : decode cX5_copy 22 = .ok (.ireturn, 1) := by decide +kernel
theorem dX5_copy_23 : decode cX5_copy 23 = .ok (.aload_n 0, 1) := by decide +kernel
theorem dX5_copy_24 : decode cX5_copy 24 = .ok (.getfield 44, 3) := by decide +kernel
theorem dX5_copy_27 : decode cX5_copy 27 = .ok (.iload_n 1, 1) := by decide +kernel
theorem dX5_copy_28 : decode cX5_copy 28 = .ok (.aaload, 1) := by decide +kernel
theorem dX5_copy_29 : decode cX5_copy 29 = .ok (.invokevirtual 242, 3) := by decide +kernel
theorem dX5_copy_32 : decode cX5_copy 32 = .ok (.ifCond .ne 15, 3) := by decide +kernel
theorem dX5_copy_35 : decode cX5_copy 35 = .ok (.aload_n 0, 1) := by decide +kernel
theorem dX5_copy_36 : decode cX5_copy 36 = .ok (.getfield 44, 3) := by decide +kernel
theorem dX5_copy_39 : decode cX5_copy 39 = .ok (.iload_n 3, 1) := by decide +kernel
theorem dX5_copy_40 : decode cX5_copy 40 = .ok (.aaload, 1) := by decide +kernel
theorem dX5_copy_41 : decode cX5_copy 41 = .ok (.invokevirtual 242, 3) := by decide +kernel
theorem dX5_copy_44 : decode cX5_copy 44 = .ok (.ifCond .eq 10, 3) := by decide +kernel
theorem dX5_copy_47 : decode cX5_copy 47 = .ok (.aload_n 0, 1) := by decide +kernel
theorem dX5_copy_48 : decode cX5_copy 48 = .ok (.ldc 221, 2) := by decide +kernel
theorem dX5_copy_50 : decode cX5_copy 50 = .ok (.invokevirtual 58, 3) := by decide +kernel
theorem dX5_copy_53 : decode cX5_copy 53 = .ok (.ireturn, 1) := by decide +kernel
theorem dX5_copy_54 : decode cX5_copy 54 = .ok (.aload_n 0, 1) := by decide +kernel
theorem dX5_copy_55 : decode cX5_copy 55 = .ok (.getfield 44, 3) := by decide +kernel
theorem dX5_copy_58 : decode cX5_copy 58 = .ok (.iload_n 1, 1) := by decide +kernel
theorem dX5_copy_59 : decode cX5_copy 59 = .ok (.aaload, 1) := by decide +kernel
theorem dX5_copy_60 : decode cX5_copy 60 = .ok (.getfield 245, 3) := by decide +kernel
theorem dX5_copy_63 : decode cX5_copy 63 = .ok (.aload_n 0, 1) := by decide +kernel
theorem dX5_copy_64 : decode cX5_copy 64 = .ok (.getfield 44, 3) := by decide +kernel
theorem dX5_copy_67 : decode cX5_copy 67 = .ok (.iload_n 3, 1) := by decide +kernel
theorem dX5_copy_68 : decode cX5_copy 68 = .ok (.aaload, 1) := by decide +kernel
theorem dX5_copy_69 : decode cX5_copy 69 = .ok (.getfield 245, 3) := by decide +kernel
theorem dX5_copy_72 : decode cX5_copy 72 = .ok (.if_icmp .eq 10, 3) := by decide +kernel
theorem dX5_copy_75 : decode cX5_copy 75 = .ok (.aload_n 0, 1) := by decide +kernel
theorem dX5_copy_76 : decode cX5_copy 76 = .ok (.ldc 225, 2) := by decide +kernel
theorem dX5_copy_78 : decode cX5_copy 78 = .ok (.invokevirtual 58, 3) := by decide +kernel
theorem dX5_copy_81 : decode cX5_copy 81 = .ok (.ireturn, 1) := by decide +kernel
theorem dX5_copy_82 : decode cX5_copy 82 = .ok (.aload_n 0, 1) := by decide +kernel
theorem dX5_copy_83 : decode cX5_copy 83 = .ok (.getfield 44, 3) := by decide +kernel
theorem dX5_copy_86 : decode cX5_copy 86 = .ok (.iload_n 1, 1) := by decide +kernel
theorem dX5_copy_87 : decode cX5_copy 87 = .ok (.aaload, 1) := by decide +kernel
theorem dX5_copy_88 : decode cX5_copy 88 = .ok (.iload_n 2, 1) := by decide +kernel
theorem dX5_copy_89 : decode cX5_copy 89 = .ok (.iload 5, 2) := by decide +kernel
theorem dX5_copy_91 : decode cX5_copy 91 = .ok (.invokevirtual 248, 3) := by decide +kernel
theorem dX5_copy_94 : decode cX5_copy 94 = .ok (.ifCond .eq 19, 3) := by decide +kernel
theorem dX5_copy_97 : decode cX5_copy 97 = .ok (.aload_n 0, 1) := by decide +kernel
theorem dX5_copy_98 : decode cX5_copy 98 = .ok (.getfield 44, 3) := by decide +kernel
theorem dX5_copy_101 : decode cX5_copy 101 = .ok (.iload_n 3, 1) := by decide +kernel
theorem dX5_copy_102 : decode cX5_copy 102 = .ok (.aaload, 1) := by decide +kernel
theorem dX5_copy_103 : decode cX5_copy 103 = .ok (.iload 4, 2) := by decide +kernel
theorem dX5_copy_105 : decode cX5_copy 105 = .ok (.iload 5, 2) := by decide +kernel
theorem dX5_copy_107 : decode cX5_copy 107 = .ok (.invokevirtual 248, 3) := by decide +kernel
theorem dX5_copy_110 : decode cX5_copy 110 = .ok (.ifCond .ne 10, 3) := by decide +kernel
theorem dX5_copy_113 : decode cX5_copy 113 = .ok (.aload_n 0, 1) := by decide +kernel
theorem dX5_copy_114 : decode cX5_copy 114 = .ok (.ldc 57, 2) := by decide +kernel
theorem dX5_copy_116 : decode cX5_copy 116 = .ok (.invokevirtual 58, 3) := by decide +kernel
theorem dX5_copy_119 : decode cX5_copy 119 = .ok (.ireturn, 1) := by decide +kernel
theorem dX5_copy_120 : decode cX5_copy 120 = .ok (.aload_n 0, 1) := by decide +kernel
theorem dX5_copy_121 : decode cX5_copy 121 = .ok (.getfield 44, 3) := by decide +kernel
theorem dX5_copy_124 : decode cX5_copy 124 = .ok (.iload_n 1, 1) := by decide +kernel
theorem dX5_copy_125 : decode cX5_copy 125 = .ok (.aaload, 1) := by decide +kernel
theorem dX5_copy_126 : decode cX5_copy 126 = .ok (.getfield 251, 3) := by decide +kernel
theorem dX5_copy_129 : decode cX5_copy 129 = .ok (.iload_n 2, 1) := by decide +kernel
theorem dX5_copy_130 : decode cX5_copy 130 = .ok (.aload_n 0, 1) := by decide +kernel
theorem dX5_copy_131 : decode cX5_copy 131 = .ok (.getfield 44, 3) := by decide +kernel
theorem dX5_copy_134 : decode cX5_copy 134 = .ok (.iload_n 3, 1) := by decide +kernel
theorem dX5_copy_135 : decode cX5_copy 135 = .ok (.aaload, 1) := by decide +kernel
theorem dX5_copy_136 : decode cX5_copy 136 = .ok (.getfield 251, 3) := by decide +kernel
theorem dX5_copy_139 : decode cX5_copy 139 = .ok (.iload 4, 2) := by decide +kernel
theorem dX5_copy_141 : decode cX5_copy 141 = .ok (.iload 5, 2) := by decide +kernel
theorem dX5_copy_143 : decode cX5_copy 143 = .ok (.invokestatic 254, 3) := by decide +kernel
theorem dX5_copy_146 : decode cX5_copy 146 = .ok (.iload 5, 2) := by decide +kernel
theorem dX5_copy_148 : decode cX5_copy 148 = .ok (.ireturn, 1) := by decide +kernel
theorem dX5_load_0 : decode cX5_load 0 = .ok (.aload_n 0, 1) := by decide +kernel
theorem dX5_load_1 : decode cX5_load 1 = .ok (.iload_n 1, 1) := by decide +kernel
theorem dX5_load_2 : decode cX5_load 2 = .ok (.invokevirtual 236, 3) := by decide +kernel
theorem dX5_load_5 : decode cX5_load 5 = .ok (.istore_n 2, 1) := by decide +kernel
theorem dX5_load_6 : decode cX5_load 6 = .ok (.iload_n 2, 1) := by decide +kernel
theorem dX5_load_7 : decode cX5_load 7 = .ok (.ifCond .eq 9, 3) := by decide +kernel
theorem dX5_load_10 : decode cX5_load 10 = .ok (.aload_n 0, 1) := by decide +kernel
theorem dX5_load_11 : decode cX5_load 11 = .ok (.iload_n 2, 1) := by decide +kernel
theorem dX5_load_12 : decode cX5_load 12 = .ok (.invokevirtual 58, 3) := by decide +kernel
theorem dX5_load_15 : decode cX5_load 15 = .ok (.ireturn, 1) := by decide +kernel
theorem dX5_load_16 : decode cX5_load 16 = .ok (.aload_n 0, 1) := by decide +kernel
theorem dX5_load_17 : decode cX5_load 17 = .ok (.getfield 44, 3) := by decide +kernel
theorem dX5_load_20 : decode cX5_load 20 = .ok (.iload_n 1, 1) := by decide +kernel
theorem dX5_load_21 : decode cX5_load 21 = .ok (.aaload, 1) := by decide +kernel
theorem dX5_load_22 : decode cX5_load 22 = .ok (.getfield 233, 3) := by decide +kernel
theorem dX5_load_25 : decode cX5_load 25 = .ok (.bipush 6, 2) := by decide +kernel
theorem dX5_load_27 : decode cX5_load 27 = .ok (.invokestatic 260, 3) := by decide +kernel
theorem dX5_load_30 : decode cX5_load 30 = .ok (.istore_n 3, 1) := by decide +kernel
theorem dX5_load_31 : decode cX5_load 31 = .ok (.iconst 0, 1) := by decide +kernel
theorem dX5_load_32 : decode cX5_load 32 = .ok (.istore 4, 2) := by decide +kernel
theorem dX5_load_34 : decode cX5_load 34 = .ok (.iload 4, 2) := by decide +kernel
theorem dX5_load_36 : decode cX5_load 36 = .ok (.iload_n 3, 1) := by decide +kernel
theorem dX5_load_37 : decode cX5_load 37 = .ok (.if_icmp .ge 48, 3) := by decide +kernel
theorem dX5_load_40 : decode cX5_load 40 = .ok (.aload_n 0, 1) := by decide +kernel
theorem dX5_load_41 : decode cX5_load 41 = .ok (.getfield 44, 3) := by decide +kernel
theorem dX5_load_44 : decode cX5_load 44 = .ok (.iload_n 1, 1) := by decide +kernel
theorem dX5_load_45 : decode cX5_load 45 = .ok (.aaload, 1) := by decide +kernel
theorem dX5_load_46 : decode cX5_load 46 = .ok (.getfield 251, 3) := by decide +kernel
theorem dX5_load_49 : decode cX5_load 49 = .ok (.iload 4, 2) := by decide +kernel
theorem dX5_load_51 : decode cX5_load 51 = .ok (.iaload, 1) := by decide +kernel
theorem dX5_load_52 : decode cX5_load 52 = .ok (.istore 5, 2) := by decide +kernel
theorem dX5_load_54 : decode cX5_load 54 = .ok (.iload 5, 2) := by decide +kernel
theorem dX5_load_56 : decode cX5_load 56 = .ok (.bipush 12, 2) := by decide +kernel
theorem dX5_load_58 : decode cX5_load 58 = .ok (.invokestatic 53, 3) := by decide +kernel
theorem dX5_load_61 : decode cX5_load 61 = .ok (.ifCond .ne 6, 3) := by decide +kernel
theorem dX5_load_64 : decode cX5_load 64 = .ok (.iload 4, 2) := by decide +kernel
theorem dX5_load_66 : decode cX5_load 66 = .ok (.ireturn, 1) := by decide +kernel
theorem dX5_load_67 : decode cX5_load 67 = .ok (.aload_n 0, 1) := by decide +kernel
theorem dX5_load_68 : decode cX5_load 68 = .ok (.getfield 12, 3) := by decide +kernel
theorem dX5_load_71 : decode cX5_load 71 = .ok (.getfield 62, 3) := by decide +kernel
theorem dX5_load_74 : decode cX5_load 74 = .ok (.iload 4, 2) := by decide +kernel
theorem dX5_load_76 : decode cX5_load 76 = .ok (.iload 5, 2) := by decide +kernel
theorem dX5_load_78 : decode cX5_load 78 = .ok (.iastore, 1) := by decide +kernel
theorem dX5_load_79 : decode cX5_load 79 = .ok (.iinc 4 1, 3) := by decide +kernel
theorem dX5_load_82 : decode cX5_load 82 = .ok (.goto (-48), 3) := by decide +kernel
theorem dX5_load_85 : decode cX5_load 85 = .ok (.iload_n 3, 1) := by decide +kernel
theorem dX5_load_86 : decode cX5_load 86 = .ok (.ireturn, 1) := by decide +kernel
theorem dX5_judge_0 : decode cX5_judge 0 = .ok (.aload_n 0, 1) := by decide +kernel
theorem dX5_judge_1 : decode cX5_judge 1 = .ok (.iload_n 1, 1) := by decide +kernel
theorem dX5_judge_2 : decode cX5_judge 2 = .ok (.invokevirtual 236, 3) := by decide +kernel
theorem dX5_judge_5 : decode cX5_judge 5 = .ok (.istore_n 2, 1) := by decide +kernel
theorem dX5_judge_6 : decode cX5_judge 6 = .ok (.iload_n 2, 1) := by decide +kernel
theorem dX5_judge_7 : decode cX5_judge 7 = .ok (.ifCond .eq 9, 3) := by decide +kernel
theorem dX5_judge_10 : decode cX5_judge 10 = .ok (.aload_n 0, 1) := by decide +kernel
theorem dX5_judge_11 : decode cX5_judge 11 = .ok (.iload_n 2, 1) := by decide +kernel
theorem dX5_judge_12 : decode cX5_judge 12 = .ok (.invokevirtual 58, 3) := by decide +kernel
theorem dX5_judge_15 : decode cX5_judge 15 = .ok (.ireturn, 1) := by decide +kernel
theorem dX5_judge_16 : decode cX5_judge 16 = .ok (.iconst 0, 1) := by decide +kernel
theorem dX5_judge_17 : decode cX5_judge 17 = .ok (.istore_n 3, 1) := by decide +kernel
theorem dX5_judge_18 : decode cX5_judge 18 = .ok (.iload_n 3, 1) := by decide +kernel
theorem dX5_judge_19 : decode cX5_judge 19 = .ok (.aload_n 0, 1) := by decide +kernel
theorem dX5_judge_20 : decode cX5_judge 20 = .ok (.getfield 44, 3) := by decide +kernel
theorem dX5_judge_23 : decode cX5_judge 23 = .ok (.iload_n 1, 1) := by decide +kernel
theorem dX5_judge_24 : decode cX5_judge 24 = .ok (.aaload, 1) := by decide +kernel
theorem dX5_judge_25 : decode cX5_judge 25 = .ok (.getfield 233, 3) := by decide +kernel
theorem dX5_judge_28 : decode cX5_judge 28 = .ok (.if_icmp .ge 47, 3) := by decide +kernel
theorem dX5_judge_31 : decode cX5_judge 31 = .ok (.aload_n 0, 1) := by decide +kernel
theorem dX5_judge_32 : decode cX5_judge 32 = .ok (.iload_n 3, 1) := by decide +kernel
theorem dX5_judge_33 : decode cX5_judge 33 = .ok (.invokevirtual 77, 3) := by decide +kernel
theorem dX5_judge_36 : decode cX5_judge 36 = .ok (.ifCond .eq 29, 3) := by decide +kernel
theorem dX5_judge_39 : decode cX5_judge 39 = .ok (.aload_n 0, 1) := by decide +kernel
theorem dX5_judge_40 : decode cX5_judge 40 = .ok (.getfield 12, 3) := by decide +kernel
theorem dX5_judge_43 : decode cX5_judge 43 = .ok (.getfield 81, 3) := by decide +kernel
theorem dX5_judge_46 : decode cX5_judge 46 = .ok (.iload_n 3, 1) := by decide +kernel
theorem dX5_judge_47 : decode cX5_judge 47 = .ok (.aaload, 1) := by decide +kernel
theorem dX5_judge_48 : decode cX5_judge 48 = .ok (.invokevirtual 173, 3) := by decide +kernel
theorem dX5_judge_51 : decode cX5_judge 51 = .ok (.aload_n 0, 1) := by decide +kernel
theorem dX5_judge_52 : decode cX5_judge 52 = .ok (.getfield 44, 3) := by decide +kernel
theorem dX5_judge_55 : decode cX5_judge 55 = .ok (.iload_n 1, 1) := by decide +kernel
theorem dX5_judge_56 : decode cX5_judge 56 = .ok (.aaload, 1) := by decide +kernel
theorem dX5_judge_57 : decode cX5_judge 57 = .ok (.getfield 251, 3) := by decide +kernel
theorem dX5_judge_60 : decode cX5_judge 60 = .ok (.iload_n 3, 1) := by decide +kernel
theorem dX5_judge_61 : decode cX5_judge 61 = .ok (.iaload, 1) := by decide +kernel
theorem dX5_judge_62 : decode cX5_judge 62 = .ok (.if_icmp .eq 7, 3) := by decide +kernel
theorem dX5_judge_65 : decode cX5_judge 65 = .ok (.iconst 1, 1) := by decide +kernel
theorem dX5_judge_66 : decode cX5_judge 66 = .ok (.iload_n 3, 1) := by decide +kernel
theorem dX5_judge_67 : decode cX5_judge 67 = .ok (.iadd, 1) := by decide +kernel
theorem dX5_judge_68 : decode cX5_judge 68 = .ok (.ireturn, 1) := by decide +kernel
theorem dX5_judge_69 : decode cX5_judge 69 = .ok (.iinc 3 1, 3) := by decide +kernel
theorem dX5_judge_72 : decode cX5_judge 72 = .ok (.goto (-54), 3) := by decide +kernel
theorem dX5_judge_75 : decode cX5_judge 75 = .ok (.iconst 0, 1) := by decide +kernel
theorem dX5_judge_76 : decode cX5_judge 76 = .ok (.ireturn, 1) := by decide +kernel
theorem dX5_image_0 : decode cX5_image 0 = .ok (.aload_n 0, 1) := by decide +kernel
theorem dX5_image_1 : decode cX5_image 1 = .ok (.getfield 19, 3) := by decide +kernel
theorem dX5_image_4 : decode cX5_image 4 = .ok (.aload_n 0, 1) := by decide +kernel
theorem dX5_image_5 : decode cX5_image 5 = .ok (.getfield 12, 3) := by decide +kernel
theorem dX5_image_8 : decode cX5_image 8 = .ok (.invokevirtual 214, 3) := by decide +kernel
theorem dX5_image_11 : decode cX5_image 11 = .ok (.aload_n 0, 1) := by decide +kernel
theorem dX5_image_12 : decode cX5_image 12 = .ok (.iconst 1, 1) := by decide +kernel
theorem dX5_image_13 : decode cX5_image 13 = .ok (.putfield 22, 3) := by decide +kernel
theorem dX5_image_16 : decode cX5_image 16 = .ok (.iconst 1, 1) := by decide +kernel
theorem dX5_image_17 : decode cX5_image 17 = .ok (.ireturn, 1) := by decide +kernel
theorem dX5_undo_0 : decode cX5_undo 0 = .ok (.aload_n 0, 1) := by decide +kernel
theorem dX5_undo_1 : decode cX5_undo 1 = .ok (.getfield 22, 3) := by decide +kernel
theorem dX5_undo_4 : decode cX5_undo 4 = .ok (.ifCond .ne 10, 3) := by decide +kernel
theorem dX5_undo_7 : decode cX5_undo 7 = .ok (.aload_n 0, 1) := by decide +kernel
theorem dX5_undo_8 : decode cX5_undo 8 = .ok (.ldc 103, 2) := by decide +kernel
theorem dX5_undo_10 : decode cX5_undo 10 = .ok (.invokevirtual 58, 3) := by decide +kernel
theorem dX5_undo_13 : decode cX5_undo 13 = .ok (.ireturn, 1) := by decide +kernel
theorem dX5_undo_14 : decode cX5_undo 14 = .ok (.aload_n 0, 1) := by decide +kernel
theorem dX5_undo_15 : decode cX5_undo 15 = .ok (.getfield 12, 3) := by decide +kernel
theorem dX5_undo_18 : decode cX5_undo 18 = .ok (.aload_n 0, 1) := by decide +kernel
theorem dX5_undo_19 : decode cX5_undo 19 = .ok (.getfield 19, 3) := by decide +kernel
theorem dX5_undo_22 : decode cX5_undo 22 = .ok (.invokevirtual 214, 3) := by decide +kernel
theorem dX5_undo_25 : decode cX5_undo 25 = .ok (.aload_n 0, 1) := by decide +kernel
theorem dX5_undo_26 : decode cX5_undo 26 = .ok (.getfield 12, 3) := by decide +kernel
theorem dX5_undo_29 : decode cX5_undo 29 = .ok (.getfield 119, 3) := by decide +kernel
theorem dX5_undo_32 : decode cX5_undo 32 = .ok (.ireturn, 1) := by decide +kernel
theorem dX5_tear_0 : decode cX5_tear 0 = .ok (.aload_n 0, 1) := by decide +kernel
theorem dX5_tear_1 : decode cX5_tear 1 = .ok (.getfield 22, 3) := by decide +kernel
theorem dX5_tear_4 : decode cX5_tear 4 = .ok (.ifCond .eq 7, 3) := by decide +kernel
theorem dX5_tear_7 : decode cX5_tear 7 = .ok (.iconst 1, 1) := by decide +kernel
theorem dX5_tear_8 : decode cX5_tear 8 = .ok (.goto 4, 3) := by decide +kernel
theorem dX5_tear_11 : decode cX5_tear 11 = .ok (.iconst 0, 1) := by decide +kernel
theorem dX5_tear_12 : decode cX5_tear 12 = .ok (.istore_n 1, 1) := by decide +kernel
theorem dX5_tear_13 : decode cX5_tear 13 = .ok (.aload_n 0, 1) := by decide +kernel
theorem dX5_tear_14 : decode cX5_tear 14 = .ok (.iconst 0, 1) := by decide +kernel
theorem dX5_tear_15 : decode cX5_tear 15 = .ok (.putfield 22, 3) := by decide +kernel
theorem dX5_tear_18 : decode cX5_tear 18 = .ok (.iload_n 1, 1) := by decide +kernel
theorem dX5_tear_19 : decode cX5_tear 19 = .ok (.ireturn, 1) := by decide +kernel
theorem dX5_count_0 : decode cX5_count 0 = .ok (.iload_n 1, 1) := by decide +kernel
theorem dX5_count_1 : decode cX5_count 1 = .ok (.tableswitch 114 0 7 #[47, 55, 63, 71, 79, 90, 98, 106], 47) := by decide +kernel
theorem dX5_count_48 : decode cX5_count 48 = .ok (.aload_n 0, 1) := by decide +kernel
theorem dX5_count_49 : decode cX5_count 49 = .ok (.getfield 12, 3) := by decide +kernel
theorem dX5_count_52 : decode cX5_count 52 = .ok (.getfield 119, 3) := by decide +kernel
theorem dX5_count_55 : decode cX5_count 55 = .ok (.ireturn, 1) := by decide +kernel
theorem dX5_count_56 : decode cX5_count 56 = .ok (.aload_n 0, 1) := by decide +kernel
theorem dX5_count_57 : decode cX5_count 57 = .ok (.getfield 12, 3) := by decide +kernel
theorem dX5_count_60 : decode cX5_count 60 = .ok (.getfield 179, 3) := by decide +kernel
theorem dX5_count_63 : decode cX5_count 63 = .ok (.ireturn, 1) := by decide +kernel
theorem dX5_count_64 : decode cX5_count 64 = .ok (.aload_n 0, 1) := by decide +kernel
theorem dX5_count_65 : decode cX5_count 65 = .ok (.getfield 12, 3) := by decide +kernel
theorem dX5_count_68 : decode cX5_count 68 = .ok (.getfield 126, 3) := by decide +kernel
theorem dX5_count_71 : decode cX5_count 71 = .ok (.ireturn, 1) := by decide +kernel
theorem dX5_count_72 : decode cX5_count 72 = .ok (.aload_n 0, 1) := by decide +kernel
theorem dX5_count_73 : decode cX5_count 73 = .ok (.getfield 12, 3) := by decide +kernel
theorem dX5_count_76 : decode cX5_count 76 = .ok (.invokevirtual 129, 3) := by decide +kernel
theorem dX5_count_79 : decode cX5_count 79 = .ok (.ireturn, 1) := by decide +kernel
theorem dX5_count_80 : decode cX5_count 80 = .ok (.aload_n 0, 1) := by decide +kernel
theorem dX5_count_81 : decode cX5_count 81 = .ok (.getfield 12, 3) := by decide +kernel
theorem dX5_count_84 : decode cX5_count 84 = .ok (.invokevirtual 145, 3) := by decide +kernel
theorem dX5_count_87 : decode cX5_count 87 = .ok (.invokestatic 158, 3) := by decide +kernel
theorem dX5_count_90 : decode cX5_count 90 = .ok (.ireturn, 1) := by decide +kernel
theorem dX5_count_91 : decode cX5_count 91 = .ok (.aload_n 0, 1) := by decide +kernel
theorem dX5_count_92 : decode cX5_count 92 = .ok (.getfield 29, 3) := by decide +kernel
theorem dX5_count_95 : decode cX5_count 95 = .ok (.getfield 205, 3) := by decide +kernel
theorem dX5_count_98 : decode cX5_count 98 = .ok (.ireturn, 1) := by decide +kernel
theorem dX5_count_99 : decode cX5_count 99 = .ok (.aload_n 0, 1) := by decide +kernel
theorem dX5_count_100 : decode cX5_count 100 = .ok (.getfield 12, 3) := by decide +kernel
theorem dX5_count_103 : decode cX5_count 103 = .ok (.getfield 202, 3) := by decide +kernel
theorem dX5_count_106 : decode cX5_count 106 = .ok (.ireturn, 1) := by decide +kernel
theorem dX5_count_107 : decode cX5_count 107 = .ok (.aload_n 0, 1) := by decide +kernel
theorem dX5_count_108 : decode cX5_count 108 = .ok (.getfield 12, 3) := by decide +kernel
theorem dX5_count_111 : decode cX5_count 111 = .ok (.invokevirtual 265, 3) := by decide +kernel
theorem dX5_count_114 : decode cX5_count 114 = .ok (.ireturn, 1) := by decide +kernel
theorem dX5_count_115 : decode cX5_count 115 = .ok (.aload_n 0, 1) := by decide +kernel
theorem dX5_count_116 : decode cX5_count 116 = .ok (.ldc 57, 2) := by decide +kernel
theorem dX5_count_118 : decode cX5_count 118 = .ok (.invokevirtual 58, 3) := by decide +kernel
theorem dX5_count_121 : decode cX5_count 121 = .ok (.ireturn, 1) := by decide +kernel
theorem dX5_status_0 : decode cX5_status 0 = .ok (.iload_n 1, 1) := by decide +kernel
theorem dX5_status_1 : decode cX5_status 1 = .ok (.iconst (-1), 1) := by decide +kernel
theorem dX5_status_2 : decode cX5_status 2 = .ok (.if_icmp .lt 9, 3) := by decide +kernel
theorem dX5_status_5 : decode cX5_status 5 = .ok (.iload_n 1, 1) := by decide +kernel
theorem dX5_status_6 : decode cX5_status 6 = .ok (.bipush 7, 2) := by decide +kernel
theorem dX5_status_8 : decode cX5_status 8 = .ok (.if_icmp .lt 10, 3) := by decide +kernel
theorem dX5_status_11 : decode cX5_status 11 = .ok (.aload_n 0, 1) := by decide +kernel
theorem dX5_status_12 : decode cX5_status 12 = .ok (.ldc 57, 2) := by decide +kernel
theorem dX5_status_14 : decode cX5_status 14 = .ok (.invokevirtual 58, 3) := by decide +kernel
theorem dX5_status_17 : decode cX5_status 17 = .ok (.ireturn, 1) := by decide +kernel
theorem dX5_status_18 : decode cX5_status 18 = .ok (.iload_n 1, 1) := by decide +kernel
theorem dX5_status_19 : decode cX5_status 19 = .ok (.ifCond .lt 10, 3) := by decide +kernel
theorem dX5_status_22 : decode cX5_status 22 = .ok (.aload_n 0, 1) := by decide +kernel
theorem dX5_status_23 : decode cX5_status 23 = .ok (.getfield 48, 3) := by decide +kernel
theorem dX5_status_26 : decode cX5_status 26 = .ok (.iload_n 1, 1) := by decide +kernel
theorem dX5_status_27 : decode cX5_status 27 = .ok (.iaload, 1) := by decide +kernel
theorem dX5_status_28 : decode cX5_status 28 = .ok (.ireturn, 1) := by decide +kernel
theorem dX5_status_29 : decode cX5_status 29 = .ok (.iconst 0, 1) := by decide +kernel
theorem dX5_status_30 : decode cX5_status 30 = .ok (.istore_n 2, 1) := by decide +kernel
theorem dX5_status_31 : decode cX5_status 31 = .ok (.iconst 0, 1) := by decide +kernel
theorem dX5_status_32 : decode cX5_status 32 = .ok (.istore_n 3, 1) := by decide +kernel
theorem dX5_status_33 : decode cX5_status 33 = .ok (.iload_n 3, 1) := by decide +kernel
theorem dX5_status_34 : decode cX5_status 34 = .ok (.bipush 7, 2) := by decide +kernel
theorem dX5_status_36 : decode cX5_status 36 = .ok (.if_icmp .ge 18, 3) := by decide +kernel
theorem dX5_status_39 : decode cX5_status 39 = .ok (.iload_n 2, 1) := by decide +kernel
theorem dX5_status_40 : decode cX5_status 40 = .ok (.aload_n 0, 1) := by decide +kernel
theorem dX5_status_41 : decode cX5_status 41 = .ok (.getfield 48, 3) := by decide +kernel
theorem dX5_status_44 : decode cX5_status 44 = .ok (.iload_n 3, 1) := by decide +kernel
theorem dX5_status_45 : decode cX5_status 45 = .ok (.iaload, 1) := by decide +kernel
theorem dX5_status_46 : decode cX5_status 46 = .ok (.iadd, 1) := by decide +kernel
theorem dX5_status_47 : decode cX5_status 47 = .ok (.istore_n 2, 1) := by decide +kernel
theorem dX5_status_48 : decode cX5_status 48 = .ok (.iinc 3 1, 3) := by decide +kernel
theorem dX5_status_51 : decode cX5_status 51 = .ok (.goto (-18), 3) := by decide +kernel
theorem dX5_status_54 : decode cX5_status 54 = .ok (.iload_n 2, 1) := by decide +kernel
theorem dX5_status_55 : decode cX5_status 55 = .ok (.ireturn, 1) := by decide +kernel
theorem dX5_within_0 : decode cX5_within 0 = .ok (.iload_n 0, 1) := by decide +kernel
theorem dX5_within_1 : decode cX5_within 1 = .ok (.ifCond .lt 12, 3) := by decide +kernel
theorem dX5_within_4 : decode cX5_within 4 = .ok (.iload_n 0, 1) := by decide +kernel
theorem dX5_within_5 : decode cX5_within 5 = .ok (.iload_n 1, 1) := by decide +kernel
theorem dX5_within_6 : decode cX5_within 6 = .ok (.if_icmp .gt 7, 3) := by decide +kernel
theorem dX5_within_9 : decode cX5_within 9 = .ok (.iconst 1, 1) := by decide +kernel
theorem dX5_within_10 : decode cX5_within 10 = .ok (.goto 4, 3) := by decide +kernel
theorem dX5_within_13 : decode cX5_within 13 = .ok (.iconst 0, 1) := by decide +kernel
theorem dX5_within_14 : decode cX5_within 14 = .ok (.ireturn, 1) := by decide +kernel
theorem dX5_power_0 : decode cX5_power 0 = .ok (.lconst 1, 1) := by decide +kernel
theorem dX5_power_1 : decode cX5_power 1 = .ok (.lstore_n 3, 1) := by decide +kernel
theorem dX5_power_2 : decode cX5_power 2 = .ok (.iconst 0, 1) := by decide +kernel
theorem dX5_power_3 : decode cX5_power 3 = .ok (.istore 5, 2) := by decide +kernel
theorem dX5_power_5 : decode cX5_power 5 = .ok (.iload 5, 2) := by decide +kernel
theorem dX5_power_7 : decode cX5_power 7 = .ok (.iload_n 2, 1) := by decide +kernel
theorem dX5_power_8 : decode cX5_power 8 = .ok (.if_icmp .ge 13, 3) := by decide +kernel
theorem dX5_power_11 : decode cX5_power 11 = .ok (.lload_n 3, 1) := by decide +kernel
theorem dX5_power_12 : decode cX5_power 12 = .ok (.lload_n 0, 1) := by decide +kernel
theorem dX5_power_13 : decode cX5_power 13 = .ok (.lmul, 1) := by decide +kernel
theorem dX5_power_14 : decode cX5_power 14 = .ok (.lstore_n 3, 1) := by decide +kernel
theorem dX5_power_15 : decode cX5_power 15 = .ok (.iinc 5 1, 3) := by decide +kernel
theorem dX5_power_18 : decode cX5_power 18 = .ok (.goto (-13), 3) := by decide +kernel
theorem dX5_power_21 : decode cX5_power 21 = .ok (.lload_n 3, 1) := by decide +kernel
theorem dX5_power_22 : decode cX5_power 22 = .ok (.lreturn, 1) := by decide +kernel
theorem dX5_found_0 : decode cX5_found 0 = .ok (.ldc 57, 2) := by decide +kernel
theorem dX5_found_2 : decode cX5_found 2 = .ok (.iload_n 1, 1) := by decide +kernel
theorem dX5_found_3 : decode cX5_found 3 = .ok (.isub, 1) := by decide +kernel
theorem dX5_found_4 : decode cX5_found 4 = .ok (.istore_n 2, 1) := by decide +kernel
theorem dX5_found_5 : decode cX5_found 5 = .ok (.iload_n 2, 1) := by decide +kernel
theorem dX5_found_6 : decode cX5_found 6 = .ok (.bipush 6, 2) := by decide +kernel
theorem dX5_found_8 : decode cX5_found 8 = .ok (.invokestatic 53, 3) := by decide +kernel
theorem dX5_found_11 : decode cX5_found 11 = .ok (.ifCond .eq 13, 3) := by decide +kernel
theorem dX5_found_14 : decode cX5_found 14 = .ok (.aload_n 0, 1) := by decide +kernel
theorem dX5_found_15 : decode cX5_found 15 = .ok (.getfield 48, 3) := by decide +kernel
theorem dX5_found_18 : decode cX5_found 18 = .ok (.iload_n 2, 1) := by decide +kernel
theorem dX5_found_19 : decode cX5_found 19 = .ok (.dup2, 1) := by decide +kernel
theorem dX5_found_20 : decode cX5_found 20 = .ok (.iaload, 1) := by decide +kernel
theorem dX5_found_21 : decode cX5_found 21 = .ok (.iconst 1, 1) := by decide +kernel
theorem dX5_found_22 : decode cX5_found 22 = .ok (.iadd, 1) := by decide +kernel
theorem dX5_found_23 : decode cX5_found 23 = .ok (.iastore, 1) := by decide +kernel
theorem dX5_found_24 : decode cX5_found 24 = .ok (.iload_n 1, 1) := by decide +kernel
theorem dX5_found_25 : decode cX5_found 25 = .ok (.ireturn, 1) := by decide +kernel
theorem dX5_isBust_0 : decode cX5_isBust 0 = .ok (.iload_n 1, 1) := by decide +kernel
theorem dX5_isBust_1 : decode cX5_isBust 1 = .ok (.ifCond .lt 18, 3) := by decide +kernel
theorem dX5_isBust_4 : decode cX5_isBust 4 = .ok (.iload_n 1, 1) := by decide +kernel
theorem dX5_isBust_5 : decode cX5_isBust 5 = .ok (.aload_n 0, 1) := by decide +kernel
theorem dX5_isBust_6 : decode cX5_isBust 6 = .ok (.getfield 12, 3) := by decide +kernel
theorem dX5_isBust_9 : decode cX5_isBust 9 = .ok (.getfield 179, 3) := by decide +kernel
theorem dX5_isBust_12 : decode cX5_isBust 12 = .ok (.if_icmp .ge 7, 3) := by decide +kernel
theorem dX5_isBust_15 : decode cX5_isBust 15 = .ok (.iconst 1, 1) := by decide +kernel
theorem dX5_isBust_16 : decode cX5_isBust 16 = .ok (.goto 4, 3) := by decide +kernel
theorem dX5_isBust_19 : decode cX5_isBust 19 = .ok (.iconst 0, 1) := by decide +kernel
theorem dX5_isBust_20 : decode cX5_isBust 20 = .ok (.ireturn, 1) := by decide +kernel
theorem dX5_isSheet_0 : decode cX5_isSheet 0 = .ok (.iload_n 1, 1) := by decide +kernel
theorem dX5_isSheet_1 : decode cX5_isSheet 1 = .ok (.iconst 3, 1) := by decide +kernel
theorem dX5_isSheet_2 : decode cX5_isSheet 2 = .ok (.invokestatic 53, 3) := by decide +kernel
theorem dX5_isSheet_5 : decode cX5_isSheet 5 = .ok (.ireturn, 1) := by decide +kernel
theorem dX5_findingOfSheet_0 : decode cX5_findingOfSheet 0 = .ok (.aload_n 0, 1) := by decide +kernel
theorem dX5_findingOfSheet_1 : decode cX5_findingOfSheet 1 = .ok (.iload_n 1, 1) := by decide +kernel
theorem dX5_findingOfSheet_2 : decode cX5_findingOfSheet 2 = .ok (.invokevirtual 226, 3) := by decide +kernel
theorem dX5_findingOfSheet_5 : decode cX5_findingOfSheet 5 = .ok (.ifCond .ne 6, 3) := by decide +kernel
theorem dX5_findingOfSheet_8 : decode cX5_findingOfSheet 8 = .ok (.ldc 57, 2) := by decide +kernel
theorem dX5_findingOfSheet_10 : decode cX5_findingOfSheet 10 = .ok (.ireturn, 1) := by decide +kernel
theorem dX5_findingOfSheet_11 : decode cX5_findingOfSheet 11 = .ok (.aload_n 0, 1) := by decide +kernel
theorem dX5_findingOfSheet_12 : decode cX5_findingOfSheet 12 = .ok (.getfield 44, 3) := by decide +kernel
theorem dX5_findingOfSheet_15 : decode cX5_findingOfSheet 15 = .ok (.iload_n 1, 1) := by decide +kernel
theorem dX5_findingOfSheet_16 : decode cX5_findingOfSheet 16 = .ok (.aaload, 1) := by decide +kernel
theorem dX5_findingOfSheet_17 : decode cX5_findingOfSheet 17 = .ok (.invokevirtual 242, 3) := by decide +kernel
theorem dX5_findingOfSheet_20 : decode cX5_findingOfSheet 20 = .ok (.ifCond .eq 8, 3) := by decide +kernel
theorem dX5_findingOfSheet_23 : decode cX5_findingOfSheet 23 = .ok (.ldc 221, 2) := by decide +kernel
theorem dX5_findingOfSheet_25 : decode cX5_findingOfSheet 25 = .ok (.goto 4, 3) := by decide +kernel
theorem dX5_findingOfSheet_28 : decode cX5_findingOfSheet 28 = .ok (.iconst 0, 1) := by decide +kernel
theorem dX5_findingOfSheet_29 : decode cX5_findingOfSheet 29 = .ok (.ireturn, 1) := by decide +kernel
theorem dX5_findingOfVoices_0 : decode cX5_findingOfVoices 0 = .ok (.aload_n 0, 1) := by decide +kernel
theorem dX5_findingOfVoices_1 : decode cX5_findingOfVoices 1 = .ok (.iload_n 1, 1) := by decide +kernel
theorem dX5_findingOfVoices_2 : decode cX5_findingOfVoices 2 = .ok (.invokevirtual 236, 3) := by decide +kernel
theorem dX5_findingOfVoices_5 : decode cX5_findingOfVoices 5 = .ok (.istore_n 3, 1) := by decide +kernel
theorem dX5_findingOfVoices_6 : decode cX5_findingOfVoices 6 = .ok (.iload_n 3, 1) := by decide +kernel
theorem dX5_findingOfVoices_7 : decode cX5_findingOfVoices 7 = .ok (.ifCond .eq 5, 3) := by decide +kernel
theorem dX5_findingOfVoices_10 : decode cX5_findingOfVoices 10 = .ok (.iload_n 3, 1) := by decide +kernel
theorem dX5_findingOfVoices_11 : decode cX5_findingOfVoices 11 = .ok (.ireturn, 1) := by decide +kernel
theorem dX5_findingOfVoices_12 : decode cX5_findingOfVoices 12 = .ok (.aload_n 0, 1) := by decide +kernel
theorem dX5_findingOfVoices_13 : decode cX5_findingOfVoices 13 = .ok (.iload_n 2, 1) := by decide +kernel
theorem dX5_findingOfVoices_14 : decode cX5_findingOfVoices 14 = .ok (.invokevirtual 77, 3) := by decide +kernel
theorem dX5_findingOfVoices_17 : decode cX5_findingOfVoices 17 = .ok (.ifCond .eq 7, 3) := by decide +kernel
theorem dX5_findingOfVoices_20 : decode cX5_findingOfVoices 20 = .ok (.iconst 0, 1) := by decide +kernel
theorem dX5_findingOfVoices_21 : decode cX5_findingOfVoices 21 = .ok (.goto 5, 3) := by decide +kernel
theorem dX5_findingOfVoices_24 : decode cX5_findingOfVoices 24 = .ok (.ldc 57, 2) := by decide +kernel
theorem dX5_findingOfVoices_26 : decode cX5_findingOfVoices 26 = .ok (.ireturn, 1) := by decide +kernel
theorem dX5_beginTrial_0 : decode cX5_beginTrial 0 = .ok (.aload_n 0, 1) := by decide +kernel
theorem dX5_beginTrial_1 : decode cX5_beginTrial 1 = .ok (.getfield 16, 3) := by decide +kernel
theorem dX5_beginTrial_4 : decode cX5_beginTrial 4 = .ok (.aload_n 0, 1) := by decide +kernel
theorem dX5_beginTrial_5 : decode cX5_beginTrial 5 = .ok (.getfield 12, 3) := by decide +kernel
theorem dX5_beginTrial_8 : decode cX5_beginTrial 8 = .ok (.invokevirtual 214, 3) := by decide +kernel
theorem dX5_beginTrial_11 : decode cX5_beginTrial 11 = .ok (.return_, 1) := by decide +kernel
theorem dX5_daysUntil_0 : decode cX5_daysUntil 0 = .ok (.aload_n 0, 1) := by decide +kernel
theorem dX5_daysUntil_1 : decode cX5_daysUntil 1 = .ok (.invokevirtual 148, 3) := by decide +kernel
theorem dX5_daysUntil_4 : decode cX5_daysUntil 4 = .ok (.iconst 0, 1) := by decide +kernel
theorem dX5_daysUntil_5 : decode cX5_daysUntil 5 = .ok (.istore 4, 2) := by decide +kernel
theorem dX5_daysUntil_7 : decode cX5_daysUntil 7 = .ok (.iload 4, 2) := by decide +kernel
theorem dX5_daysUntil_9 : decode cX5_daysUntil 9 = .ok (.sipush 200, 3) := by decide +kernel
theorem dX5_daysUntil_12 : decode cX5_daysUntil 12 = .ok (.if_icmp .gt 36, 3) := by decide +kernel
theorem dX5_daysUntil_15 : decode cX5_daysUntil 15 = .ok (.aload_n 0, 1) := by decide +kernel
theorem dX5_daysUntil_16 : decode cX5_daysUntil 16 = .ok (.getfield 16, 3) := by decide +kernel
theorem dX5_daysUntil_19 : decode cX5_daysUntil 19 = .ok (.getfield 81, 3) := by decide +kernel
theorem dX5_daysUntil_22 : decode cX5_daysUntil 22 = .ok (.iload_n 1, 1) := by decide +kernel
theorem dX5_daysUntil_23 : decode cX5_daysUntil 23 = .ok (.aaload, 1) := by decide +kernel
theorem dX5_daysUntil_24 : decode cX5_daysUntil 24 = .ok (.iload_n 2, 1) := by decide +kernel
theorem dX5_daysUntil_25 : decode cX5_daysUntil 25 = .ok (.invokevirtual 85, 3) := by decide +kernel
theorem dX5_daysUntil_28 : decode cX5_daysUntil 28 = .ok (.iload_n 3, 1) := by decide +kernel
theorem dX5_daysUntil_29 : decode cX5_daysUntil 29 = .ok (.if_icmp .lt 6, 3) := by decide +kernel
theorem dX5_daysUntil_32 : decode cX5_daysUntil 32 = .ok (.iload 4, 2) := by decide +kernel
theorem dX5_daysUntil_34 : decode cX5_daysUntil 34 = .ok (.ireturn, 1) := by decide +kernel
theorem dX5_daysUntil_35 : decode cX5_daysUntil 35 = .ok (.aload_n 0, 1) := by decide +kernel
theorem dX5_daysUntil_36 : decode cX5_daysUntil 36 = .ok (.getfield 16, 3) := by decide +kernel
theorem dX5_daysUntil_39 : decode cX5_daysUntil 39 = .ok (.invokevirtual 151, 3) := by decide +kernel
theorem dX5_daysUntil_42 : decode cX5_daysUntil 42 = .ok (.iinc 4 1, 3) := by decide +kernel
theorem dX5_daysUntil_45 : decode cX5_daysUntil 45 = .ok (.goto (-38), 3) := by decide +kernel
theorem dX5_daysUntil_48 : decode cX5_daysUntil 48 = .ok (.aload_n 0, 1) := by decide +kernel
theorem dX5_daysUntil_49 : decode cX5_daysUntil 49 = .ok (.ldc 103, 2) := by decide +kernel
theorem dX5_daysUntil_51 : decode cX5_daysUntil 51 = .ok (.invokevirtual 58, 3) := by decide +kernel
theorem dX5_daysUntil_54 : decode cX5_daysUntil 54 = .ok (.ireturn, 1) := by decide +kernel
theorem dX5_hasByDate_0 : decode cX5_hasByDate 0 = .ok (.aload_n 0, 1) := by decide +kernel
theorem dX5_hasByDate_1 : decode cX5_hasByDate 1 = .ok (.invokevirtual 148, 3) := by decide +kernel
theorem dX5_hasByDate_4 : decode cX5_hasByDate 4 = .ok (.aload_n 0, 1) := by decide +kernel
theorem dX5_hasByDate_5 : decode cX5_hasByDate 5 = .ok (.getfield 16, 3) := by decide +kernel
theorem dX5_hasByDate_8 : decode cX5_hasByDate 8 = .ok (.getfield 81, 3) := by decide +kernel
theorem dX5_hasByDate_11 : decode cX5_hasByDate 11 = .ok (.iload_n 1, 1) := by decide +kernel
theorem dX5_hasByDate_12 : decode cX5_hasByDate 12 = .ok (.aaload, 1) := by decide +kernel
theorem dX5_hasByDate_13 : decode cX5_hasByDate 13 = .ok (.iload_n 2, 1) := by decide +kernel
theorem dX5_hasByDate_14 : decode cX5_hasByDate 14 = .ok (.putfield 268, 3) := by decide +kernel
theorem dX5_hasByDate_17 : decode cX5_hasByDate 17 = .ok (.aload_n 0, 1) := by decide +kernel
theorem dX5_hasByDate_18 : decode cX5_hasByDate 18 = .ok (.getfield 16, 3) := by decide +kernel
theorem dX5_hasByDate_21 : decode cX5_hasByDate 21 = .ok (.iload 4, 2) := by decide +kernel
theorem dX5_hasByDate_23 : decode cX5_hasByDate 23 = .ok (.invokevirtual 123, 3) := by decide +kernel
theorem dX5_hasByDate_26 : decode cX5_hasByDate 26 = .ok (.aload_n 0, 1) := by decide +kernel
theorem dX5_hasByDate_27 : decode cX5_hasByDate 27 = .ok (.getfield 16, 3) := by decide +kernel
theorem dX5_hasByDate_30 : decode cX5_hasByDate 30 = .ok (.getfield 81, 3) := by decide +kernel
theorem dX5_hasByDate_33 : decode cX5_hasByDate 33 = .ok (.iload_n 1, 1) := by decide +kernel
theorem dX5_hasByDate_34 : decode cX5_hasByDate 34 = .ok (.aaload, 1) := by decide +kernel
theorem dX5_hasByDate_35 : decode cX5_hasByDate 35 = .ok (.iload_n 3, 1) := by decide +kernel
theorem dX5_hasByDate_36 : decode cX5_hasByDate 36 = .ok (.invokevirtual 104, 3) := by decide +kernel
theorem dX5_hasByDate_39 : decode cX5_hasByDate 39 = .ok (.ireturn, 1) := by decide +kernel
theorem dX5_keepsAll_0 : decode cX5_keepsAll 0 = .ok (.aload_n 0, 1) := by decide +kernel
theorem dX5_keepsAll_1 : decode cX5_keepsAll 1 = .ok (.invokevirtual 148, 3) := by decide +kernel
theorem dX5_keepsAll_4 : decode cX5_keepsAll 4 = .ok (.iconst 0, 1) := by decide +kernel
theorem dX5_keepsAll_5 : decode cX5_keepsAll 5 = .ok (.istore_n 3, 1) := by decide +kernel
theorem dX5_keepsAll_6 : decode cX5_keepsAll 6 = .ok (.iload_n 3, 1) := by decide +kernel
theorem dX5_keepsAll_7 : decode cX5_keepsAll 7 = .ok (.aload_n 0, 1) := by decide +kernel
theorem dX5_keepsAll_8 : decode cX5_keepsAll 8 = .ok (.getfield 16, 3) := by decide +kernel
theorem dX5_keepsAll_11 : decode cX5_keepsAll 11 = .ok (.getfield 179, 3) := by decide +kernel
theorem dX5_keepsAll_14 : decode cX5_keepsAll 14 = .ok (.if_icmp .ge 31, 3) := by decide +kernel
theorem dX5_keepsAll_17 : decode cX5_keepsAll 17 = .ok (.iload_n 1, 1) := by decide +kernel
theorem dX5_keepsAll_18 : decode cX5_keepsAll 18 = .ok (.iload_n 3, 1) := by decide +kernel
theorem dX5_keepsAll_19 : decode cX5_keepsAll 19 = .ok (.ishr, 1) := by decide +kernel
theorem dX5_keepsAll_20 : decode cX5_keepsAll 20 = .ok (.iconst 1, 1) := by decide +kernel
theorem dX5_keepsAll_21 : decode cX5_keepsAll 21 = .ok (.iand, 1) := by decide +kernel
theorem dX5_keepsAll_22 : decode cX5_keepsAll 22 = .ok (.iconst 1, 1) := by decide +kernel
theorem dX5_keepsAll_23 : decode cX5_keepsAll 23 = .ok (.if_icmp .ne 16, 3) := by decide +kernel
theorem dX5_keepsAll_26 : decode cX5_keepsAll 26 = .ok (.aload_n 0, 1) := by decide +kernel
theorem dX5_keepsAll_27 : decode cX5_keepsAll 27 = .ok (.getfield 16, 3) := by decide +kernel
theorem dX5_keepsAll_30 : decode cX5_keepsAll 30 = .ok (.getfield 81, 3) := by decide +kernel
theorem dX5_keepsAll_33 : decode cX5_keepsAll 33 = .ok (.iload_n 3, 1) := by decide +kernel
theorem dX5_keepsAll_34 : decode cX5_keepsAll 34 = .ok (.aaload, 1) := by decide +kernel
theorem dX5_keepsAll_35 : decode cX5_keepsAll 35 = .ok (.iconst 1, 1) := by decide +kernel
theorem dX5_keepsAll_36 : decode cX5_keepsAll 36 = .ok (.putfield 271, 3) := by decide +kernel
theorem dX5_keepsAll_39 : decode cX5_keepsAll 39 = .ok (.iinc 3 1, 3) := by decide +kernel
theorem dX5_keepsAll_42 : decode cX5_keepsAll 42 = .ok (.goto (-36), 3) := by decide +kernel
theorem dX5_keepsAll_45 : decode cX5_keepsAll 45 = .ok (.aload_n 0, 1) := by decide +kernel
theorem dX5_keepsAll_46 : decode cX5_keepsAll 46 = .ok (.getfield 16, 3) := by decide +kernel
theorem dX5_keepsAll_49 : decode cX5_keepsAll 49 = .ok (.iload_n 2, 1) := by decide +kernel
theorem dX5_keepsAll_50 : decode cX5_keepsAll 50 = .ok (.invokevirtual 123, 3) := by decide +kernel
theorem dX5_keepsAll_53 : decode cX5_keepsAll 53 = .ok (.aload_n 0, 1) := by decide +kernel
theorem dX5_keepsAll_54 : decode cX5_keepsAll 54 = .ok (.getfield 16, 3) := by decide +kernel
theorem dX5_keepsAll_57 : decode cX5_keepsAll 57 = .ok (.getfield 126, 3) := by decide +kernel
theorem dX5_keepsAll_60 : decode cX5_keepsAll 60 = .ok (.aload_n 0, 1) := by decide +kernel
theorem dX5_keepsAll_61 : decode cX5_keepsAll 61 = .ok (.getfield 12, 3) := by decide +kernel
theorem dX5_keepsAll_64 : decode cX5_keepsAll 64 = .ok (.getfield 126, 3) := by decide +kernel
theorem dX5_keepsAll_67 : decode cX5_keepsAll 67 = .ok (.if_icmp .ne 7, 3) := by decide +kernel
theorem dX5_keepsAll_70 : decode cX5_keepsAll 70 = .ok (.iconst 1, 1) := by decide +kernel
theorem dX5_keepsAll_71 : decode cX5_keepsAll 71 = .ok (.goto 4, 3) := by decide +kernel
theorem dX5_keepsAll_74 : decode cX5_keepsAll 74 = .ok (.iconst 0, 1) := by decide +kernel
theorem dX5_keepsAll_75 : decode cX5_keepsAll 75 = .ok (.ireturn, 1) := by decide +kernel
theorem dX5_trialSays_0 : decode cX5_trialSays 0 = .ok (.iconst 0, 1) := by decide +kernel
theorem dX5_trialSays_1 : decode cX5_trialSays 1 = .ok (.istore_n 3, 1) := by decide +kernel
theorem dX5_trialSays_2 : decode cX5_trialSays 2 = .ok (.iload_n 3, 1) := by decide +kernel
theorem dX5_trialSays_3 : decode cX5_trialSays 3 = .ok (.aload_n 2, 1) := by decide +kernel
theorem dX5_trialSays_4 : decode cX5_trialSays 4 = .ok (.getfield 233, 3) := by decide +kernel
theorem dX5_trialSays_7 : decode cX5_trialSays 7 = .ok (.if_icmp .ge 53, 3) := by decide +kernel
theorem dX5_trialSays_10 : decode cX5_trialSays 10 = .ok (.iload_n 3, 1) := by decide +kernel
theorem dX5_trialSays_11 : decode cX5_trialSays 11 = .ok (.ifCond .le 10, 3) := by decide +kernel
theorem dX5_trialSays_14 : decode cX5_trialSays 14 = .ok (.aload_n 0, 1) := by decide +kernel
theorem dX5_trialSays_15 : decode cX5_trialSays 15 = .ok (.getfield 16, 3) := by decide +kernel
theorem dX5_trialSays_18 : decode cX5_trialSays 18 = .ok (.invokevirtual 151, 3) := by decide +kernel
theorem dX5_trialSays_21 : decode cX5_trialSays 21 = .ok (.aload_n 2, 1) := by decide +kernel
theorem dX5_trialSays_22 : decode cX5_trialSays 22 = .ok (.getfield 251, 3) := by decide +kernel
theorem dX5_trialSays_25 : decode cX5_trialSays 25 = .ok (.iload_n 3, 1) := by decide +kernel
theorem dX5_trialSays_26 : decode cX5_trialSays 26 = .ok (.iaload, 1) := by decide +kernel
theorem dX5_trialSays_27 : decode cX5_trialSays 27 = .ok (.istore 4, 2) := by decide +kernel
theorem dX5_trialSays_29 : decode cX5_trialSays 29 = .ok (.iload 4, 2) := by decide +kernel
theorem dX5_trialSays_31 : decode cX5_trialSays 31 = .ok (.iconst (-1), 1) := by decide +kernel
theorem dX5_trialSays_32 : decode cX5_trialSays 32 = .ok (.if_icmp .eq 22, 3) := by decide +kernel
theorem dX5_trialSays_35 : decode cX5_trialSays 35 = .ok (.iload 4, 2) := by decide +kernel
theorem dX5_trialSays_37 : decode cX5_trialSays 37 = .ok (.aload_n 0, 1) := by decide +kernel
theorem dX5_trialSays_38 : decode cX5_trialSays 38 = .ok (.getfield 16, 3) := by decide +kernel
theorem dX5_trialSays_41 : decode cX5_trialSays 41 = .ok (.getfield 81, 3) := by decide +kernel
theorem dX5_trialSays_44 : decode cX5_trialSays 44 = .ok (.iload_n 1, 1) := by decide +kernel
theorem dX5_trialSays_45 : decode cX5_trialSays 45 = .ok (.aaload, 1) := by decide +kernel
theorem dX5_trialSays_46 : decode cX5_trialSays 46 = .ok (.invokevirtual 173, 3) := by decide +kernel
theorem dX5_trialSays_49 : decode cX5_trialSays 49 = .ok (.if_icmp .eq 5, 3) := by decide +kernel
theorem dX5_trialSays_52 : decode cX5_trialSays 52 = .ok (.iconst 0, 1) := by decide +kernel
theorem dX5_trialSays_53 : decode cX5_trialSays 53 = .ok (.ireturn, 1) := by decide +kernel
theorem dX5_trialSays_54 : decode cX5_trialSays 54 = .ok (.iinc 3 1, 3) := by decide +kernel
theorem dX5_trialSays_57 : decode cX5_trialSays 57 = .ok (.goto (-55), 3) := by decide +kernel
theorem dX5_trialSays_60 : decode cX5_trialSays 60 = .ok (.iconst 1, 1) := by decide +kernel
theorem dX5_trialSays_61 : decode cX5_trialSays 61 = .ok (.ireturn, 1) := by decide +kernel
end
section
/-! printed: decode rows of the reference, the library, the law -/
theorem dX6_init_0 : decode cX6_init 0 = .ok (.aload_n 0, 1) := by decide +kernel
theorem dX6_init_1 : decode cX6_init 1 = .ok (.invokespecial 1, 3) := by decide +kernel
theorem dX6_init_4 : decode cX6_init 4 = .ok (.aload_n 0, 1) := by decide +kernel
theorem dX6_init_5 : decode cX6_init 5 = .ok (.bipush 88, 2) := by decide +kernel
theorem dX6_init_7 : decode cX6_init 7 = .ok (.newarray .int, 2) := by decide +kernel
theorem dX6_init_9 : decode cX6_init 9 = .ok (.putfield 9, 3) := by decide +kernel
theorem dX6_init_12 : decode cX6_init 12 = .ok (.aload_n 0, 1) := by decide +kernel
theorem dX6_init_13 : decode cX6_init 13 = .ok (.bipush 88, 2) := by decide +kernel
theorem dX6_init_15 : decode cX6_init 15 = .ok (.newarray .int, 2) := by decide +kernel
theorem dX6_init_17 : decode cX6_init 17 = .ok (.putfield 13, 3) := by decide +kernel
theorem dX6_init_20 : decode cX6_init 20 = .ok (.aload_n 0, 1) := by decide +kernel
theorem dX6_init_21 : decode cX6_init 21 = .ok (.bipush 88, 2) := by decide +kernel
theorem dX6_init_23 : decode cX6_init 23 = .ok (.newarray .int, 2) := by decide +kernel
theorem dX6_init_25 : decode cX6_init 25 = .ok (.putfield 16, 3) := by decide +kernel
theorem dX6_init_28 : decode cX6_init 28 = .ok (.aload_n 0, 1) := by decide +kernel
theorem dX6_init_29 : decode cX6_init 29 = .ok (.bipush 8, 2) := by decide +kernel
theorem dX6_init_31 : decode cX6_init 31 = .ok (.newarray .int, 2) := by decide +kernel
theorem dX6_init_33 : decode cX6_init 33 = .ok (.putfield 19, 3) := by decide +kernel
theorem dX6_init_36 : decode cX6_init 36 = .ok (.aload_n 0, 1) := by decide +kernel
theorem dX6_init_37 : decode cX6_init 37 = .ok (.bipush 120, 2) := by decide +kernel
theorem dX6_init_39 : decode cX6_init 39 = .ok (.newarray .int, 2) := by decide +kernel
theorem dX6_init_41 : decode cX6_init 41 = .ok (.putfield 22, 3) := by decide +kernel
theorem dX6_init_44 : decode cX6_init 44 = .ok (.aload_n 0, 1) := by decide +kernel
theorem dX6_init_45 : decode cX6_init 45 = .ok (.bipush 7, 2) := by decide +kernel
theorem dX6_init_47 : decode cX6_init 47 = .ok (.anewarray 25, 3) := by decide +kernel
theorem dX6_init_50 : decode cX6_init 50 = .ok (.dup, 1) := by decide +kernel
theorem dX6_init_51 : decode cX6_init 51 = .ok (.iconst 0, 1) := by decide +kernel
theorem dX6_init_52 : decode cX6_init 52 = .ok (.ldc 27, 2) := by decide +kernel
theorem dX6_init_54 : decode cX6_init 54 = .ok (.aastore, 1) := by decide +kernel
theorem dX6_init_55 : decode cX6_init 55 = .ok (.dup, 1) := by decide +kernel
theorem dX6_init_56 : decode cX6_init 56 = .ok (.iconst 1, 1) := by decide +kernel
theorem dX6_init_57 : decode cX6_init 57 = .ok (.ldc 29, 2) := by decide +kernel
theorem dX6_init_59 : decode cX6_init 59 = .ok (.aastore, 1) := by decide +kernel
theorem dX6_init_60 : decode cX6_init 60 = .ok (.dup, 1) := by decide +kernel
theorem dX6_init_61 : decode cX6_init 61 = .ok (.iconst 2, 1) := by decide +kernel
theorem dX6_init_62 : decode cX6_init 62 = .ok (.ldc 31, 2) := by decide +kernel
theorem dX6_init_64 : decode cX6_init 64 = .ok (.aastore, 1) := by decide +kernel
theorem dX6_init_65 : decode cX6_init 65 = .ok (.dup, 1) := by decide +kernel
theorem dX6_init_66 : decode cX6_init 66 = .ok (.iconst 3, 1) := by decide +kernel
theorem dX6_init_67 : decode cX6_init 67 = .ok (.ldc 33, 2) := by decide +kernel
theorem dX6_init_69 : decode cX6_init 69 = .ok (.aastore, 1) := by decide +kernel
theorem dX6_init_70 : decode cX6_init 70 = .ok (.dup, 1) := by decide +kernel
theorem dX6_init_71 : decode cX6_init 71 = .ok (.iconst 4, 1) := by decide +kernel
theorem dX6_init_72 : decode cX6_init 72 = .ok (.ldc 35, 2) := by decide +kernel
theorem dX6_init_74 : decode cX6_init 74 = .ok (.aastore, 1) := by decide +kernel
theorem dX6_init_75 : decode cX6_init 75 = .ok (.dup, 1) := by decide +kernel
theorem dX6_init_76 : decode cX6_init 76 = .ok (.iconst 5, 1) := by decide +kernel
theorem dX6_init_77 : decode cX6_init 77 = .ok (.ldc 37, 2) := by decide +kernel
theorem dX6_init_79 : decode cX6_init 79 = .ok (.aastore, 1) := by decide +kernel
theorem dX6_init_80 : decode cX6_init 80 = .ok (.dup, 1) := by decide +kernel
theorem dX6_init_81 : decode cX6_init 81 = .ok (.bipush 6, 2) := by decide +kernel
theorem dX6_init_83 : decode cX6_init 83 = .ok (.ldc 39, 2) := by decide +kernel
theorem dX6_init_85 : decode cX6_init 85 = .ok (.aastore, 1) := by decide +kernel
theorem dX6_init_86 : decode cX6_init 86 = .ok (.putfield 41, 3) := by decide +kernel
theorem dX6_init_89 : decode cX6_init 89 = .ok (.aload_n 0, 1) := by decide +kernel
theorem dX6_init_90 : decode cX6_init 90 = .ok (.sipush 600, 3) := by decide +kernel
theorem dX6_init_93 : decode cX6_init 93 = .ok (.newarray .int, 2) := by decide +kernel
theorem dX6_init_95 : decode cX6_init 95 = .ok (.putfield 45, 3) := by decide +kernel
theorem dX6_init_98 : decode cX6_init 98 = .ok (.aload_n 0, 1) := by decide +kernel
theorem dX6_init_99 : decode cX6_init 99 = .ok (.iconst 4, 1) := by decide +kernel
theorem dX6_init_100 : decode cX6_init 100 = .ok (.newarray .int, 2) := by decide +kernel
theorem dX6_init_102 : decode cX6_init 102 = .ok (.putfield 48, 3) := by decide +kernel
theorem dX6_init_105 : decode cX6_init 105 = .ok (.aload_n 0, 1) := by decide +kernel
theorem dX6_init_106 : decode cX6_init 106 = .ok (.iconst 4, 1) := by decide +kernel
theorem dX6_init_107 : decode cX6_init 107 = .ok (.newarray .int, 2) := by decide +kernel
theorem dX6_init_109 : decode cX6_init 109 = .ok (.putfield 51, 3) := by decide +kernel
theorem dX6_init_112 : decode cX6_init 112 = .ok (.aload_n 0, 1) := by decide +kernel
theorem dX6_init_113 : decode cX6_init 113 = .ok (.sipush 160, 3) := by decide +kernel
theorem dX6_init_116 : decode cX6_init 116 = .ok (.newarray .int, 2) := by decide +kernel
theorem dX6_init_118 : decode cX6_init 118 = .ok (.putfield 54, 3) := by decide +kernel
theorem dX6_init_121 : decode cX6_init 121 = .ok (.aload_n 0, 1) := by decide +kernel
theorem dX6_init_122 : decode cX6_init 122 = .ok (.bipush 40, 2) := by decide +kernel
theorem dX6_init_124 : decode cX6_init 124 = .ok (.newarray .int, 2) := by decide +kernel
theorem dX6_init_126 : decode cX6_init 126 = .ok (.putfield 57, 3) := by decide +kernel
theorem dX6_init_129 : decode cX6_init 129 = .ok (.aload_n 0, 1) := by decide +kernel
theorem dX6_init_130 : decode cX6_init 130 = .ok (.getfield 9, 3) := by decide +kernel
theorem dX6_init_133 : decode cX6_init 133 = .ok (.iconst 2, 1) := by decide +kernel
theorem dX6_init_134 : decode cX6_init 134 = .ok (.iconst 1, 1) := by decide +kernel
theorem dX6_init_135 : decode cX6_init 135 = .ok (.iastore, 1) := by decide +kernel
theorem dX6_init_136 : decode cX6_init 136 = .ok (.iconst 0, 1) := by decide +kernel
theorem dX6_init_137 : decode cX6_init 137 = .ok (.istore_n 1, 1) := by decide +kernel
theorem dX6_init_138 : decode cX6_init 138 = .ok (.iload_n 1, 1) := by decide +kernel
theorem dX6_init_139 : decode cX6_init 139 = .ok (.bipush 6, 2) := by decide +kernel
theorem dX6_init_141 : decode cX6_init 141 = .ok (.if_icmp .ge 19, 3) := by decide +kernel
theorem dX6_init_144 : decode cX6_init 144 = .ok (.aload_n 0, 1) := by decide +kernel
theorem dX6_init_145 : decode cX6_init 145 = .ok (.getfield 9, 3) := by decide +kernel
theorem dX6_init_148 : decode cX6_init 148 = .ok (.iconst 4, 1) := by decide +kernel
theorem dX6_init_149 : decode cX6_init 149 = .ok (.iload_n 1, 1) := by decide +kernel
theorem dX6_init_150 : decode cX6_init 150 = .ok (.iadd, 1) := by decide +kernel
theorem dX6_init_151 : decode cX6_init 151 = .ok (.bipush 12, 2) := by decide +kernel
theorem dX6_init_153 : decode cX6_init 153 = .ok (.iastore, 1) := by decide +kernel
theorem dX6_init_154 : decode cX6_init 154 = .ok (.iinc 1 1, 3) := by decide +kernel
theorem dX6_init_157 : decode cX6_init 157 = .ok (.goto (-19), 3) := by decide +kernel
theorem dX6_init_160 : decode cX6_init 160 = .ok (.iconst 0, 1) := by decide +kernel
theorem dX6_init_161 : decode cX6_init 161 = .ok (.istore_n 1, 1) := by decide +kernel
theorem dX6_init_162 : decode cX6_init 162 = .ok (.iload_n 1, 1) := by decide +kernel
theorem dX6_init_163 : decode cX6_init 163 = .ok (.bipush 10, 2) := by decide +kernel
theorem dX6_init_165 : decode cX6_init 165 = .ok (.if_icmp .ge 19, 3) := by decide +kernel
theorem dX6_init_168 : decode cX6_init 168 = .ok (.aload_n 0, 1) := by decide +kernel
theorem dX6_init_169 : decode cX6_init 169 = .ok (.getfield 9, 3) := by decide +kernel
theorem dX6_init_172 : decode cX6_init 172 = .ok (.bipush 22, 2) := by decide +kernel
theorem dX6_init_174 : decode cX6_init 174 = .ok (.iload_n 1, 1) := by decide +kernel
theorem dX6_init_175 : decode cX6_init 175 = .ok (.iadd, 1) := by decide +kernel
theorem dX6_init_176 : decode cX6_init 176 = .ok (.iconst (-1), 1) := by decide +kernel
theorem dX6_init_177 : decode cX6_init 177 = .ok (.iastore, 1) := by decide +kernel
theorem dX6_init_178 : decode cX6_init 178 = .ok (.iinc 1 1, 3) := by decide +kernel
theorem dX6_init_181 : decode cX6_init 181 = .ok (.goto (-19), 3) := by decide +kernel
theorem dX6_init_184 : decode cX6_init 184 = .ok (.return_, 1) := by decide +kernel
theorem dX6_finding_0 : decode cX6_finding 0 = .ok (.aload_n 0, 1) := by decide +kernel
theorem dX6_finding_1 : decode cX6_finding 1 = .ok (.getfield 19, 3) := by decide +kernel
theorem dX6_finding_4 : decode cX6_finding 4 = .ok (.ldc 60, 2) := by decide +kernel
theorem dX6_finding_6 : decode cX6_finding 6 = .ok (.iload_n 1, 1) := by decide +kernel
theorem dX6_finding_7 : decode cX6_finding 7 = .ok (.isub, 1) := by decide +kernel
theorem dX6_finding_8 : decode cX6_finding 8 = .ok (.iconst 1, 1) := by decide +kernel
theorem dX6_finding_9 : decode cX6_finding 9 = .ok (.iadd, 1) := by decide +kernel
theorem dX6_finding_10 : decode cX6_finding 10 = .ok (.dup2, 1) := by decide +kernel
theorem dX6_finding_11 : decode cX6_finding 11 = .ok (.iaload, 1) := by decide +kernel
theorem dX6_finding_12 : decode cX6_finding 12 = .ok (.iconst 1, 1) := by decide +kernel
theorem dX6_finding_13 : decode cX6_finding 13 = .ok (.iadd, 1) := by decide +kernel
theorem dX6_finding_14 : decode cX6_finding 14 = .ok (.iastore, 1) := by decide +kernel
theorem dX6_finding_15 : decode cX6_finding 15 = .ok (.aload_n 0, 1) := by decide +kernel
theorem dX6_finding_16 : decode cX6_finding 16 = .ok (.getfield 19, 3) := by decide +kernel
theorem dX6_finding_19 : decode cX6_finding 19 = .ok (.iconst 0, 1) := by decide +kernel
theorem dX6_finding_20 : decode cX6_finding 20 = .ok (.dup2, 1) := by decide +kernel
theorem dX6_finding_21 : decode cX6_finding 21 = .ok (.iaload, 1) := by decide +kernel
theorem dX6_finding_22 : decode cX6_finding 22 = .ok (.iconst 1, 1) := by decide +kernel
theorem dX6_finding_23 : decode cX6_finding 23 = .ok (.iadd, 1) := by decide +kernel
theorem dX6_finding_24 : decode cX6_finding 24 = .ok (.iastore, 1) := by decide +kernel
theorem dX6_finding_25 : decode cX6_finding 25 = .ok (.iload_n 1, 1) := by decide +kernel
theorem dX6_finding_26 : decode cX6_finding 26 = .ok (.ireturn, 1) := by decide +kernel
theorem dX6_within_0 : decode cX6_within 0 = .ok (.iload_n 0, 1) := by decide +kernel
theorem dX6_within_1 : decode cX6_within 1 = .ok (.iload_n 1, 1) := by decide +kernel
theorem dX6_within_2 : decode cX6_within 2 = .ok (.if_icmp .lt 12, 3) := by decide +kernel
theorem dX6_within_5 : decode cX6_within 5 = .ok (.iload_n 0, 1) := by decide +kernel
theorem dX6_within_6 : decode cX6_within 6 = .ok (.iload_n 2, 1) := by decide +kernel
theorem dX6_within_7 : decode cX6_within 7 = .ok (.if_icmp .gt 7, 3) := by decide +kernel
theorem dX6_within_10 : decode cX6_within 10 = .ok (.iconst 1, 1) := by decide +kernel
theorem dX6_within_11 : decode cX6_within 11 = .ok (.goto 4, 3) := by decide +kernel
theorem dX6_within_14 : decode cX6_within 14 = .ok (.iconst 0, 1) := by decide +kernel
theorem dX6_within_15 : decode cX6_within 15 = .ok (.ireturn, 1) := by decide +kernel
theorem dX6_become_0 : decode cX6_become 0 = .ok (.aload_n 0, 1) := by decide +kernel
theorem dX6_become_1 : decode cX6_become 1 = .ok (.getfield 9, 3) := by decide +kernel
theorem dX6_become_4 : decode cX6_become 4 = .ok (.iload_n 1, 1) := by decide +kernel
theorem dX6_become_5 : decode cX6_become 5 = .ok (.iaload, 1) := by decide +kernel
theorem dX6_become_6 : decode cX6_become 6 = .ok (.istore_n 3, 1) := by decide +kernel
theorem dX6_become_7 : decode cX6_become 7 = .ok (.aload_n 0, 1) := by decide +kernel
theorem dX6_become_8 : decode cX6_become 8 = .ok (.getfield 9, 3) := by decide +kernel
theorem dX6_become_11 : decode cX6_become 11 = .ok (.iload_n 1, 1) := by decide +kernel
theorem dX6_become_12 : decode cX6_become 12 = .ok (.iload_n 2, 1) := by decide +kernel
theorem dX6_become_13 : decode cX6_become 13 = .ok (.iastore, 1) := by decide +kernel
theorem dX6_become_14 : decode cX6_become 14 = .ok (.iload_n 3, 1) := by decide +kernel
theorem dX6_become_15 : decode cX6_become 15 = .ok (.ireturn, 1) := by decide +kernel
theorem dX6_copyRow_0 : decode cX6_copyRow 0 = .ok (.iconst 0, 1) := by decide +kernel
theorem dX6_copyRow_1 : decode cX6_copyRow 1 = .ok (.istore_n 2, 1) := by decide +kernel
theorem dX6_copyRow_2 : decode cX6_copyRow 2 = .ok (.iload_n 2, 1) := by decide +kernel
theorem dX6_copyRow_3 : decode cX6_copyRow 3 = .ok (.bipush 88, 2) := by decide +kernel
theorem dX6_copyRow_5 : decode cX6_copyRow 5 = .ok (.if_icmp .ge 15, 3) := by decide +kernel
theorem dX6_copyRow_8 : decode cX6_copyRow 8 = .ok (.aload_n 1, 1) := by decide +kernel
theorem dX6_copyRow_9 : decode cX6_copyRow 9 = .ok (.iload_n 2, 1) := by decide +kernel
theorem dX6_copyRow_10 : decode cX6_copyRow 10 = .ok (.aload_n 0, 1) := by decide +kernel
theorem dX6_copyRow_11 : decode cX6_copyRow 11 = .ok (.iload_n 2, 1) := by decide +kernel
theorem dX6_copyRow_12 : decode cX6_copyRow 12 = .ok (.iaload, 1) := by decide +kernel
theorem dX6_copyRow_13 : decode cX6_copyRow 13 = .ok (.iastore, 1) := by decide +kernel
theorem dX6_copyRow_14 : decode cX6_copyRow 14 = .ok (.iinc 2 1, 3) := by decide +kernel
theorem dX6_copyRow_17 : decode cX6_copyRow 17 = .ok (.goto (-15), 3) := by decide +kernel
theorem dX6_copyRow_20 : decode cX6_copyRow 20 = .ok (.return_, 1) := by decide +kernel
theorem dX6_putBack_0 : decode cX6_putBack 0 = .ok (.aload_n 0, 1) := by decide +kernel
theorem dX6_putBack_1 : decode cX6_putBack 1 = .ok (.getfield 16, 3) := by decide +kernel
theorem dX6_putBack_4 : decode cX6_putBack 4 = .ok (.aload_n 0, 1) := by decide +kernel
theorem dX6_putBack_5 : decode cX6_putBack 5 = .ok (.getfield 9, 3) := by decide +kernel
theorem dX6_putBack_8 : decode cX6_putBack 8 = .ok (.invokestatic 61, 3) := by decide +kernel
theorem dX6_putBack_11 : decode cX6_putBack 11 = .ok (.iload_n 1, 1) := by decide +kernel
theorem dX6_putBack_12 : decode cX6_putBack 12 = .ok (.ireturn, 1) := by decide +kernel
theorem dX6_orNone_0 : decode cX6_orNone 0 = .ok (.iload_n 1, 1) := by decide +kernel
theorem dX6_orNone_1 : decode cX6_orNone 1 = .ok (.ifCond .ge 12, 3) := by decide +kernel
theorem dX6_orNone_4 : decode cX6_orNone 4 = .ok (.aload_n 0, 1) := by decide +kernel
theorem dX6_orNone_5 : decode cX6_orNone 5 = .ok (.ldc 65, 2) := by decide +kernel
theorem dX6_orNone_7 : decode cX6_orNone 7 = .ok (.invokevirtual 66, 3) := by decide +kernel
theorem dX6_orNone_10 : decode cX6_orNone 10 = .ok (.goto 4, 3) := by decide +kernel
theorem dX6_orNone_13 : decode cX6_orNone 13 = .ok (.iload_n 1, 1) := by decide +kernel
theorem dX6_orNone_14 : decode cX6_orNone 14 = .ok (.ireturn, 1) := by decide +kernel
theorem dX6_bits_0 : decode cX6_bits 0 = .ok (.iconst 0, 1) := by decide +kernel
theorem dX6_bits_1 : decode cX6_bits 1 = .ok (.istore_n 1, 1) := by decide +kernel
theorem dX6_bits_2 : decode cX6_bits 2 = .ok (.iload_n 0, 1) := by decide +kernel
theorem dX6_bits_3 : decode cX6_bits 3 = .ok (.istore_n 2, 1) := by decide +kernel
theorem dX6_bits_4 : decode cX6_bits 4 = .ok (.iload_n 2, 1) := by decide +kernel
theorem dX6_bits_5 : decode cX6_bits 5 = .ok (.ifCond .eq 15, 3) := by decide +kernel
theorem dX6_bits_8 : decode cX6_bits 8 = .ok (.iinc 1 1, 3) := by decide +kernel
theorem dX6_bits_11 : decode cX6_bits 11 = .ok (.iload_n 2, 1) := by decide +kernel
theorem dX6_bits_12 : decode cX6_bits 12 = .ok (.iload_n 2, 1) := by decide +kernel
theorem dX6_bits_13 : decode cX6_bits 13 = .ok (.iconst 1, 1) := by decide +kernel
theorem dX6_bits_14 : decode cX6_bits 14 = .ok (.isub, 1) := by decide +kernel
theorem dX6_bits_15 : decode cX6_bits 15 = .ok (.iand, 1) := by decide +kernel
theorem dX6_bits_16 : decode cX6_bits 16 = .ok (.istore_n 2, 1) := by decide +kernel
theorem dX6_bits_17 : decode cX6_bits 17 = .ok (.goto (-13), 3) := by decide +kernel
theorem dX6_bits_20 : decode cX6_bits 20 = .ok (.iload_n 1, 1) := by decide +kernel
theorem dX6_bits_21 : decode cX6_bits 21 = .ok (.ireturn, 1) := by decide +kernel
theorem dX6_isPart_0 : decode cX6_isPart 0 = .ok (.iload_n 0, 1) := by decide +kernel
theorem dX6_isPart_1 : decode cX6_isPart 1 = .ok (.iconst 0, 1) := by decide +kernel
theorem dX6_isPart_2 : decode cX6_isPart 2 = .ok (.bipush 11, 2) := by decide +kernel
theorem dX6_isPart_4 : decode cX6_isPart 4 = .ok (.invokestatic 70, 3) := by decide +kernel
theorem dX6_isPart_7 : decode cX6_isPart 7 = .ok (.ireturn, 1) := by decide +kernel
theorem dX6_isBequest_0 : decode cX6_isBequest 0 = .ok (.iload_n 0, 1) := by decide +kernel
theorem dX6_isBequest_1 : decode cX6_isBequest 1 = .ok (.iconst 0, 1) := by decide +kernel
theorem dX6_isBequest_2 : decode cX6_isBequest 2 = .ok (.bipush 12, 2) := by decide +kernel
theorem dX6_isBequest_4 : decode cX6_isBequest 4 = .ok (.invokestatic 70, 3) := by decide +kernel
theorem dX6_isBequest_7 : decode cX6_isBequest 7 = .ok (.ireturn, 1) := by decide +kernel
theorem dX6_isPlace_0 : decode cX6_isPlace 0 = .ok (.iload_n 0, 1) := by decide +kernel
theorem dX6_isPlace_1 : decode cX6_isPlace 1 = .ok (.iconst 0, 1) := by decide +kernel
theorem dX6_isPlace_2 : decode cX6_isPlace 2 = .ok (.iconst 5, 1) := by decide +kernel
theorem dX6_isPlace_3 : decode cX6_isPlace 3 = .ok (.invokestatic 70, 3) := by decide +kernel
theorem dX6_isPlace_6 : decode cX6_isPlace 6 = .ok (.ireturn, 1) := by decide +kernel
theorem dX6_bequest_0 : decode cX6_bequest 0 = .ok (.iload_n 1, 1) := by decide +kernel
theorem dX6_bequest_1 : decode cX6_bequest 1 = .ok (.invokestatic 74, 3) := by decide +kernel
theorem dX6_bequest_4 : decode cX6_bequest 4 = .ok (.ifCond .eq 21, 3) := by decide +kernel
theorem dX6_bequest_7 : decode cX6_bequest 7 = .ok (.iload_n 2, 1) := by decide +kernel
theorem dX6_bequest_8 : decode cX6_bequest 8 = .ok (.invokestatic 78, 3) := by decide +kernel
theorem dX6_bequest_11 : decode cX6_bequest 11 = .ok (.ifCond .eq 14, 3) := by decide +kernel
theorem dX6_bequest_14 : decode cX6_bequest 14 = .ok (.aload_n 0, 1) := by decide +kernel
theorem dX6_bequest_15 : decode cX6_bequest 15 = .ok (.iconst 4, 1) := by decide +kernel
theorem dX6_bequest_16 : decode cX6_bequest 16 = .ok (.iload_n 1, 1) := by decide +kernel
theorem dX6_bequest_17 : decode cX6_bequest 17 = .ok (.iadd, 1) := by decide +kernel
theorem dX6_bequest_18 : decode cX6_bequest 18 = .ok (.iload_n 2, 1) := by decide +kernel
theorem dX6_bequest_19 : decode cX6_bequest 19 = .ok (.invokevirtual 81, 3) := by decide +kernel
theorem dX6_bequest_22 : decode cX6_bequest 22 = .ok (.goto 9, 3) := by decide +kernel
theorem dX6_bequest_25 : decode cX6_bequest 25 = .ok (.aload_n 0, 1) := by decide +kernel
theorem dX6_bequest_26 : decode cX6_bequest 26 = .ok (.ldc 60, 2) := by decide +kernel
theorem dX6_bequest_28 : decode cX6_bequest 28 = .ok (.invokevirtual 66, 3) := by decide +kernel
theorem dX6_bequest_31 : decode cX6_bequest 31 = .ok (.ireturn, 1) := by decide +kernel
theorem dX6_listed_0 : decode cX6_listed 0 = .ok (.iload_n 1, 1) := by decide +kernel
theorem dX6_listed_1 : decode cX6_listed 1 = .ok (.invokestatic 74, 3) := by decide +kernel
theorem dX6_listed_4 : decode cX6_listed 4 = .ok (.ifCond .eq 14, 3) := by decide +kernel
theorem dX6_listed_7 : decode cX6_listed 7 = .ok (.aload_n 0, 1) := by decide +kernel
theorem dX6_listed_8 : decode cX6_listed 8 = .ok (.getfield 9, 3) := by decide +kernel
theorem dX6_listed_11 : decode cX6_listed 11 = .ok (.iconst 4, 1) := by decide +kernel
theorem dX6_listed_12 : decode cX6_listed 12 = .ok (.iload_n 1, 1) := by decide +kernel
theorem dX6_listed_13 : decode cX6_listed 13 = .ok (.iadd, 1) := by decide +kernel
theorem dX6_listed_14 : decode cX6_listed 14 = .ok (.iaload, 1) := by decide +kernel
theorem dX6_listed_15 : decode cX6_listed 15 = .ok (.goto 9, 3) := by decide +kernel
theorem dX6_listed_18 : decode cX6_listed 18 = .ok (.aload_n 0, 1) := by decide +kernel
theorem dX6_listed_19 : decode cX6_listed 19 = .ok (.ldc 60, 2) := by decide +kernel
theorem dX6_listed_21 : decode cX6_listed 21 = .ok (.invokevirtual 66, 3) := by decide +kernel
theorem dX6_listed_24 : decode cX6_listed 24 = .ok (.ireturn, 1) := by decide +kernel
theorem dX6_placeNow_0 : decode cX6_placeNow 0 = .ok (.iconst 4, 1) := by decide +kernel
theorem dX6_placeNow_1 : decode cX6_placeNow 1 = .ok (.aload_n 0, 1) := by decide +kernel
theorem dX6_placeNow_2 : decode cX6_placeNow 2 = .ok (.getfield 9, 3) := by decide +kernel
theorem dX6_placeNow_5 : decode cX6_placeNow 5 = .ok (.iconst 0, 1) := by decide +kernel
theorem dX6_placeNow_6 : decode cX6_placeNow 6 = .ok (.iaload, 1) := by decide +kernel
theorem dX6_placeNow_7 : decode cX6_placeNow 7 = .ok (.bipush 6, 2) := by decide +kernel
theorem dX6_placeNow_9 : decode cX6_placeNow 9 = .ok (.irem, 1) := by decide +kernel
theorem dX6_placeNow_10 : decode cX6_placeNow 10 = .ok (.iadd, 1) := by decide +kernel
theorem dX6_placeNow_11 : decode cX6_placeNow 11 = .ok (.ireturn, 1) := by decide +kernel
theorem dX6_stored_0 : decode cX6_stored 0 = .ok (.iload_n 1, 1) := by decide +kernel
theorem dX6_stored_1 : decode cX6_stored 1 = .ok (.invokestatic 85, 3) := by decide +kernel
theorem dX6_stored_4 : decode cX6_stored 4 = .ok (.ifCond .eq 15, 3) := by decide +kernel
theorem dX6_stored_7 : decode cX6_stored 7 = .ok (.aload_n 0, 1) := by decide +kernel
theorem dX6_stored_8 : decode cX6_stored 8 = .ok (.getfield 9, 3) := by decide +kernel
theorem dX6_stored_11 : decode cX6_stored 11 = .ok (.bipush 10, 2) := by decide +kernel
theorem dX6_stored_13 : decode cX6_stored 13 = .ok (.iload_n 1, 1) := by decide +kernel
theorem dX6_stored_14 : decode cX6_stored 14 = .ok (.iadd, 1) := by decide +kernel
theorem dX6_stored_15 : decode cX6_stored 15 = .ok (.iaload, 1) := by decide +kernel
theorem dX6_stored_16 : decode cX6_stored 16 = .ok (.goto 9, 3) := by decide +kernel
theorem dX6_stored_19 : decode cX6_stored 19 = .ok (.aload_n 0, 1) := by decide +kernel
theorem dX6_stored_20 : decode cX6_stored 20 = .ok (.ldc 60, 2) := by decide +kernel
theorem dX6_stored_22 : decode cX6_stored 22 = .ok (.invokevirtual 66, 3) := by decide +kernel
theorem dX6_stored_25 : decode cX6_stored 25 = .ok (.ireturn, 1) := by decide +kernel
theorem dX6_bustAt_0 : decode cX6_bustAt 0 = .ok (.bipush 32, 2) := by decide +kernel
theorem dX6_bustAt_2 : decode cX6_bustAt 2 = .ok (.bipush 7, 2) := by decide +kernel
theorem dX6_bustAt_4 : decode cX6_bustAt 4 = .ok (.iload_n 0, 1) := by decide +kernel
theorem dX6_bustAt_5 : decode cX6_bustAt 5 = .ok (.imul, 1) := by decide +kernel
theorem dX6_bustAt_6 : decode cX6_bustAt 6 = .ok (.iadd, 1) := by decide +kernel
theorem dX6_bustAt_7 : decode cX6_bustAt 7 = .ok (.iload_n 1, 1) := by decide +kernel
theorem dX6_bustAt_8 : decode cX6_bustAt 8 = .ok (.iadd, 1) := by decide +kernel
theorem dX6_bustAt_9 : decode cX6_bustAt 9 = .ok (.ireturn, 1) := by decide +kernel
theorem dX6_bustIs_0 : decode cX6_bustIs 0 = .ok (.aload_n 0, 1) := by decide +kernel
theorem dX6_bustIs_1 : decode cX6_bustIs 1 = .ok (.getfield 9, 3) := by decide +kernel
theorem dX6_bustIs_4 : decode cX6_bustIs 4 = .ok (.iload_n 1, 1) := by decide +kernel
theorem dX6_bustIs_5 : decode cX6_bustIs 5 = .ok (.iload_n 2, 1) := by decide +kernel
theorem dX6_bustIs_6 : decode cX6_bustIs 6 = .ok (.invokestatic 88, 3) := by decide +kernel
theorem dX6_bustIs_9 : decode cX6_bustIs 9 = .ok (.iaload, 1) := by decide +kernel
theorem dX6_bustIs_10 : decode cX6_bustIs 10 = .ok (.ireturn, 1) := by decide +kernel
theorem dX6_isBust_0 : decode cX6_isBust 0 = .ok (.iload_n 1, 1) := by decide +kernel
theorem dX6_isBust_1 : decode cX6_isBust 1 = .ok (.iconst 0, 1) := by decide +kernel
theorem dX6_isBust_2 : decode cX6_isBust 2 = .ok (.aload_n 0, 1) := by decide +kernel
theorem dX6_isBust_3 : decode cX6_isBust 3 = .ok (.getfield 9, 3) := by decide +kernel
theorem dX6_isBust_6 : decode cX6_isBust 6 = .ok (.iconst 1, 1) := by decide +kernel
theorem dX6_isBust_7 : decode cX6_isBust 7 = .ok (.iaload, 1) := by decide +kernel
theorem dX6_isBust_8 : decode cX6_isBust 8 = .ok (.iconst 1, 1) := by decide +kernel
theorem dX6_isBust_9 : decode cX6_isBust 9 = .ok (.isub, 1) := by decide +kernel
theorem dX6_isBust_10 : decode cX6_isBust 10 = .ok (.invokestatic 70, 3) := by decide +kernel
theorem dX6_isBust_13 : decode cX6_isBust 13 = .ok (.ireturn, 1) := by decide +kernel
theorem dX6_isKind_0 : decode cX6_isKind 0 = .ok (.iload_n 0, 1) := by decide +kernel
theorem dX6_isKind_1 : decode cX6_isKind 1 = .ok (.iconst 0, 1) := by decide +kernel
theorem dX6_isKind_2 : decode cX6_isKind 2 = .ok (.bipush 6, 2) := by decide +kernel
theorem dX6_isKind_4 : decode cX6_isKind 4 = .ok (.invokestatic 70, 3) := by decide +kernel
theorem dX6_isKind_7 : decode cX6_isKind 7 = .ok (.ireturn, 1) := by decide +kernel
theorem dX6_isDate_0 : decode cX6_isDate 0 = .ok (.iload_n 0, 1) := by decide +kernel
theorem dX6_isDate_1 : decode cX6_isDate 1 = .ok (.iconst 0, 1) := by decide +kernel
theorem dX6_isDate_2 : decode cX6_isDate 2 = .ok (.sipush 999, 3) := by decide +kernel
theorem dX6_isDate_5 : decode cX6_isDate 5 = .ok (.invokestatic 70, 3) := by decide +kernel
theorem dX6_isDate_8 : decode cX6_isDate 8 = .ok (.ireturn, 1) := by decide +kernel
theorem dX6_comes_0 : decode cX6_comes 0 = .ok (.aload_n 0, 1) := by decide +kernel
theorem dX6_comes_1 : decode cX6_comes 1 = .ok (.getfield 9, 3) := by decide +kernel
theorem dX6_comes_4 : decode cX6_comes 4 = .ok (.iconst 1, 1) := by decide +kernel
theorem dX6_comes_5 : decode cX6_comes 5 = .ok (.iaload, 1) := by decide +kernel
theorem dX6_comes_6 : decode cX6_comes 6 = .ok (.istore_n 3, 1) := by decide +kernel
theorem dX6_comes_7 : decode cX6_comes 7 = .ok (.iconst 0, 1) := by decide +kernel
theorem dX6_comes_8 : decode cX6_comes 8 = .ok (.istore 4, 2) := by decide +kernel
theorem dX6_comes_10 : decode cX6_comes 10 = .ok (.iload 4, 2) := by decide +kernel
theorem dX6_comes_12 : decode cX6_comes 12 = .ok (.bipush 7, 2) := by decide +kernel
theorem dX6_comes_14 : decode cX6_comes 14 = .ok (.if_icmp .ge 21, 3) := by decide +kernel
theorem dX6_comes_17 : decode cX6_comes 17 = .ok (.aload_n 0, 1) := by decide +kernel
theorem dX6_comes_18 : decode cX6_comes 18 = .ok (.getfield 9, 3) := by decide +kernel
theorem dX6_comes_21 : decode cX6_comes 21 = .ok (.iload_n 3, 1) := by decide +kernel
theorem dX6_comes_22 : decode cX6_comes 22 = .ok (.iload 4, 2) := by decide +kernel
theorem dX6_comes_24 : decode cX6_comes 24 = .ok (.invokestatic 88, 3) := by decide +kernel
theorem dX6_comes_27 : decode cX6_comes 27 = .ok (.iconst 0, 1) := by decide +kernel
theorem dX6_comes_28 : decode cX6_comes 28 = .ok (.iastore, 1) := by decide +kernel
theorem dX6_comes_29 : decode cX6_comes 29 = .ok (.iinc 4 1, 3) := by decide +kernel
theorem dX6_comes_32 : decode cX6_comes 32 = .ok (.goto (-22), 3) := by decide +kernel
theorem dX6_comes_35 : decode cX6_comes 35 = .ok (.aload_n 0, 1) := by decide +kernel
theorem dX6_comes_36 : decode cX6_comes 36 = .ok (.getfield 9, 3) := by decide +kernel
theorem dX6_comes_39 : decode cX6_comes 39 = .ok (.iload_n 3, 1) := by decide +kernel
theorem dX6_comes_40 : decode cX6_comes 40 = .ok (.iconst 0, 1) := by decide +kernel
theorem dX6_comes_41 : decode cX6_comes 41 = .ok (.invokestatic 88, 3) := by decide +kernel
theorem dX6_comes_44 : decode cX6_comes 44 = .ok (.iload_n 1, 1) := by decide +kernel
theorem dX6_comes_45 : decode cX6_comes 45 = .ok (.iastore, 1) := by decide +kernel
theorem dX6_comes_46 : decode cX6_comes 46 = .ok (.aload_n 0, 1) := by decide +kernel
theorem dX6_comes_47 : decode cX6_comes 47 = .ok (.getfield 9, 3) := by decide +kernel
theorem dX6_comes_50 : decode cX6_comes 50 = .ok (.iload_n 3, 1) := by decide +kernel
theorem dX6_comes_51 : decode cX6_comes 51 = .ok (.iconst 1, 1) := by decide +kernel
theorem dX6_comes_52 : decode cX6_comes 52 = .ok (.invokestatic 88, 3) := by decide +kernel
theorem dX6_comes_55 : decode cX6_comes 55 = .ok (.iload_n 2, 1) := by decide +kernel
theorem dX6_comes_56 : decode cX6_comes 56 = .ok (.iastore, 1) := by decide +kernel
theorem dX6_comes_57 : decode cX6_comes 57 = .ok (.aload_n 0, 1) := by decide +kernel
theorem dX6_comes_58 : decode cX6_comes 58 = .ok (.getfield 9, 3) := by decide +kernel
theorem dX6_comes_61 : decode cX6_comes 61 = .ok (.iload_n 3, 1) := by decide +kernel
theorem dX6_comes_62 : decode cX6_comes 62 = .ok (.iconst 2, 1) := by decide +kernel
theorem dX6_comes_63 : decode cX6_comes 63 = .ok (.invokestatic 88, 3) := by decide +kernel
theorem dX6_comes_66 : decode cX6_comes 66 = .ok (.iconst 3, 1) := by decide +kernel
theorem dX6_comes_67 : decode cX6_comes 67 = .ok (.iastore, 1) := by decide +kernel
theorem dX6_comes_68 : decode cX6_comes 68 = .ok (.aload_n 0, 1) := by decide +kernel
theorem dX6_comes_69 : decode cX6_comes 69 = .ok (.getfield 9, 3) := by decide +kernel
theorem dX6_comes_72 : decode cX6_comes 72 = .ok (.iconst 1, 1) := by decide +kernel
theorem dX6_comes_73 : decode cX6_comes 73 = .ok (.dup2, 1) := by decide +kernel
theorem dX6_comes_74 : decode cX6_comes 74 = .ok (.iaload, 1) := by decide +kernel
theorem dX6_comes_75 : decode cX6_comes 75 = .ok (.iconst 1, 1) := by decide +kernel
theorem dX6_comes_76 : decode cX6_comes 76 = .ok (.iadd, 1) := by decide +kernel
theorem dX6_comes_77 : decode cX6_comes 77 = .ok (.iastore, 1) := by decide +kernel
theorem dX6_comes_78 : decode cX6_comes 78 = .ok (.iload_n 3, 1) := by decide +kernel
theorem dX6_comes_79 : decode cX6_comes 79 = .ok (.ireturn, 1) := by decide +kernel
theorem dX6_bust_0 : decode cX6_bust 0 = .ok (.iload_n 1, 1) := by decide +kernel
theorem dX6_bust_1 : decode cX6_bust 1 = .ok (.invokestatic 91, 3) := by decide +kernel
theorem dX6_bust_4 : decode cX6_bust 4 = .ok (.ifCond .eq 10, 3) := by decide +kernel
theorem dX6_bust_7 : decode cX6_bust 7 = .ok (.iload_n 2, 1) := by decide +kernel
theorem dX6_bust_8 : decode cX6_bust 8 = .ok (.invokestatic 94, 3) := by decide +kernel
theorem dX6_bust_11 : decode cX6_bust 11 = .ok (.ifCond .ne 10, 3) := by decide +kernel
theorem dX6_bust_14 : decode cX6_bust 14 = .ok (.aload_n 0, 1) := by decide +kernel
theorem dX6_bust_15 : decode cX6_bust 15 = .ok (.ldc 60, 2) := by decide +kernel
theorem dX6_bust_17 : decode cX6_bust 17 = .ok (.invokevirtual 66, 3) := by decide +kernel
theorem dX6_bust_20 : decode cX6_bust 20 = .ok (.ireturn, 1) := by decide +kernel
theorem dX6_bust_21 : decode cX6_bust 21 = .ok (.aload_n 0, 1) := by decide +kernel
theorem dX6_bust_22 : decode cX6_bust 22 = .ok (.getfield 9, 3) := by decide +kernel
theorem dX6_bust_25 : decode cX6_bust 25 = .ok (.iconst 1, 1) := by decide +kernel
theorem dX6_bust_26 : decode cX6_bust 26 = .ok (.iaload, 1) := by decide +kernel
theorem dX6_bust_27 : decode cX6_bust 27 = .ok (.bipush 8, 2) := by decide +kernel
theorem dX6_bust_29 : decode cX6_bust 29 = .ok (.if_icmp .ne 12, 3) := by decide +kernel
theorem dX6_bust_32 : decode cX6_bust 32 = .ok (.aload_n 0, 1) := by decide +kernel
theorem dX6_bust_33 : decode cX6_bust 33 = .ok (.ldc 97, 2) := by decide +kernel
theorem dX6_bust_35 : decode cX6_bust 35 = .ok (.invokevirtual 66, 3) := by decide +kernel
theorem dX6_bust_38 : decode cX6_bust 38 = .ok (.goto 9, 3) := by decide +kernel
theorem dX6_bust_41 : decode cX6_bust 41 = .ok (.aload_n 0, 1) := by decide +kernel
theorem dX6_bust_42 : decode cX6_bust 42 = .ok (.iload_n 1, 1) := by decide +kernel
theorem dX6_bust_43 : decode cX6_bust 43 = .ok (.iload_n 2, 1) := by decide +kernel
theorem dX6_bust_44 : decode cX6_bust 44 = .ok (.invokevirtual 98, 3) := by decide +kernel
theorem dX6_bust_47 : decode cX6_bust 47 = .ok (.ireturn, 1) := by decide +kernel
theorem dX6_has_0 : decode cX6_has 0 = .ok (.aload_n 0, 1) := by decide +kernel
theorem dX6_has_1 : decode cX6_has 1 = .ok (.iload_n 1, 1) := by decide +kernel
theorem dX6_has_2 : decode cX6_has 2 = .ok (.iconst 2, 1) := by decide +kernel
theorem dX6_has_3 : decode cX6_has 3 = .ok (.invokevirtual 101, 3) := by decide +kernel
theorem dX6_has_6 : decode cX6_has 6 = .ok (.iload_n 2, 1) := by decide +kernel
theorem dX6_has_7 : decode cX6_has 7 = .ok (.ishr, 1) := by decide +kernel
theorem dX6_has_8 : decode cX6_has 8 = .ok (.iconst 1, 1) := by decide +kernel
theorem dX6_has_9 : decode cX6_has 9 = .ok (.iand, 1) := by decide +kernel
theorem dX6_has_10 : decode cX6_has 10 = .ok (.iconst 1, 1) := by decide +kernel
theorem dX6_has_11 : decode cX6_has 11 = .ok (.if_icmp .ne 7, 3) := by decide +kernel
theorem dX6_has_14 : decode cX6_has 14 = .ok (.iconst 1, 1) := by decide +kernel
theorem dX6_has_15 : decode cX6_has 15 = .ok (.goto 4, 3) := by decide +kernel
theorem dX6_has_18 : decode cX6_has 18 = .ok (.iconst 0, 1) := by decide +kernel
theorem dX6_has_19 : decode cX6_has 19 = .ok (.ireturn, 1) := by decide +kernel
theorem dX6_isGone_0 : decode cX6_isGone 0 = .ok (.aload_n 0, 1) := by decide +kernel
theorem dX6_isGone_1 : decode cX6_isGone 1 = .ok (.iload_n 1, 1) := by decide +kernel
theorem dX6_isGone_2 : decode cX6_isGone 2 = .ok (.bipush 6, 2) := by decide +kernel
theorem dX6_isGone_4 : decode cX6_isGone 4 = .ok (.invokevirtual 101, 3) := by decide +kernel
theorem dX6_isGone_7 : decode cX6_isGone 7 = .ok (.iconst 1, 1) := by decide +kernel
theorem dX6_isGone_8 : decode cX6_isGone 8 = .ok (.if_icmp .ne 7, 3) := by decide +kernel
theorem dX6_isGone_11 : decode cX6_isGone 11 = .ok (.iconst 1, 1) := by decide +kernel
theorem dX6_isGone_12 : decode cX6_isGone 12 = .ok (.goto 4, 3) := by decide +kernel
theorem dX6_isGone_15 : decode cX6_isGone 15 = .ok (.iconst 0, 1) := by decide +kernel
theorem dX6_isGone_16 : decode cX6_isGone 16 = .ok (.ireturn, 1) := by decide +kernel
theorem dX6_likes_0 : decode cX6_likes 0 = .ok (.iload_n 2, 1) := by decide +kernel
theorem dX6_likes_1 : decode cX6_likes 1 = .ok (.ifCond .le 18, 3) := by decide +kernel
theorem dX6_likes_4 : decode cX6_likes 4 = .ok (.aload_n 0, 1) := by decide +kernel
theorem dX6_likes_5 : decode cX6_likes 5 = .ok (.iload_n 1, 1) := by decide +kernel
theorem dX6_likes_6 : decode cX6_likes 6 = .ok (.iload_n 2, 1) := by decide +kernel
theorem dX6_likes_7 : decode cX6_likes 7 = .ok (.iconst 1, 1) := by decide +kernel
theorem dX6_likes_8 : decode cX6_likes 8 = .ok (.isub, 1) := by decide +kernel
theorem dX6_likes_9 : decode cX6_likes 9 = .ok (.invokevirtual 104, 3) := by decide +kernel
theorem dX6_likes_12 : decode cX6_likes 12 = .ok (.ifCond .eq 7, 3) := by decide +kernel
theorem dX6_likes_15 : decode cX6_likes 15 = .ok (.iconst 1, 1) := by decide +kernel
theorem dX6_likes_16 : decode cX6_likes 16 = .ok (.goto 4, 3) := by decide +kernel
theorem dX6_likes_19 : decode cX6_likes 19 = .ok (.iconst 0, 1) := by decide +kernel
theorem dX6_likes_20 : decode cX6_likes 20 = .ok (.istore_n 3, 1) := by decide +kernel
theorem dX6_likes_21 : decode cX6_likes 21 = .ok (.aload_n 0, 1) := by decide +kernel
theorem dX6_likes_22 : decode cX6_likes 22 = .ok (.iload_n 1, 1) := by decide +kernel
theorem dX6_likes_23 : decode cX6_likes 23 = .ok (.iconst 0, 1) := by decide +kernel
theorem dX6_likes_24 : decode cX6_likes 24 = .ok (.invokevirtual 101, 3) := by decide +kernel
theorem dX6_likes_27 : decode cX6_likes 27 = .ok (.tableswitch 120 1 6 #[37, 75, 90, 110, 112, 53], 37) := by decide +kernel
theorem dX6_likes_64 : decode cX6_likes 64 = .ok (.iload_n 3, 1) := by decide +kernel
theorem dX6_likes_65 : decode cX6_likes 65 = .ok (.ifCond .ne 9, 3) := by decide +kernel
theorem dX6_likes_68 : decode cX6_likes 68 = .ok (.iload_n 2, 1) := by decide +kernel
theorem dX6_likes_69 : decode cX6_likes 69 = .ok (.iconst 2, 1) := by decide +kernel
theorem dX6_likes_70 : decode cX6_likes 70 = .ok (.irem, 1) := by decide +kernel
theorem dX6_likes_71 : decode cX6_likes 71 = .ok (.ifCond .ne 7, 3) := by decide +kernel
theorem dX6_likes_74 : decode cX6_likes 74 = .ok (.iconst 1, 1) := by decide +kernel
theorem dX6_likes_75 : decode cX6_likes 75 = .ok (.goto 4, 3) := by decide +kernel
theorem dX6_likes_78 : decode cX6_likes 78 = .ok (.iconst 0, 1) := by decide +kernel
theorem dX6_likes_79 : decode cX6_likes 79 = .ok (.ireturn, 1) := by decide +kernel
theorem dX6_likes_80 : decode cX6_likes 80 = .ok (.iload_n 3, 1) := by decide +kernel
theorem dX6_likes_81 : decode cX6_likes 81 = .ok (.ifCond .ne 9, 3) := by decide +kernel
theorem dX6_likes_84 : decode cX6_likes 84 = .ok (.iload_n 2, 1) := by decide +kernel
theorem dX6_likes_85 : decode cX6_likes 85 = .ok (.iconst 2, 1) := by decide +kernel
theorem dX6_likes_86 : decode cX6_likes 86 = .ok (.irem, 1) := by decide +kernel
theorem dX6_likes_87 : decode cX6_likes 87 = .ok (.ifCond .ne 13, 3) := by decide +kernel
theorem dX6_likes_90 : decode cX6_likes 90 = .ok (.iload_n 2, 1) := by decide +kernel
theorem dX6_likes_91 : decode cX6_likes 91 = .ok (.bipush 6, 2) := by decide +kernel
theorem dX6_likes_93 : decode cX6_likes 93 = .ok (.if_icmp .gt 7, 3) := by decide +kernel
theorem dX6_likes_96 : decode cX6_likes 96 = .ok (.iconst 1, 1) := by decide +kernel
theorem dX6_likes_97 : decode cX6_likes 97 = .ok (.goto 4, 3) := by decide +kernel
theorem dX6_likes_100 : decode cX6_likes 100 = .ok (.iconst 0, 1) := by decide +kernel
theorem dX6_likes_101 : decode cX6_likes 101 = .ok (.ireturn, 1) := by decide +kernel
theorem dX6_likes_102 : decode cX6_likes 102 = .ok (.iload_n 3, 1) := by decide +kernel
theorem dX6_likes_103 : decode cX6_likes 103 = .ok (.ifCond .eq 12, 3) := by decide +kernel
theorem dX6_likes_106 : decode cX6_likes 106 = .ok (.iload_n 2, 1) := by decide +kernel
theorem dX6_likes_107 : decode cX6_likes 107 = .ok (.iconst 5, 1) := by decide +kernel
theorem dX6_likes_108 : decode cX6_likes 108 = .ok (.if_icmp .eq 7, 3) := by decide +kernel
theorem dX6_likes_111 : decode cX6_likes 111 = .ok (.iconst 1, 1) := by decide +kernel
theorem dX6_likes_112 : decode cX6_likes 112 = .ok (.goto 4, 3) := by decide +kernel
theorem dX6_likes_115 : decode cX6_likes 115 = .ok (.iconst 0, 1) := by decide +kernel
theorem dX6_likes_116 : decode cX6_likes 116 = .ok (.ireturn, 1) := by decide +kernel
theorem dX6_likes_117 : decode cX6_likes 117 = .ok (.iload_n 3, 1) := by decide +kernel
theorem dX6_likes_118 : decode cX6_likes 118 = .ok (.ifCond .eq 8, 3) := by decide +kernel
theorem dX6_likes_121 : decode cX6_likes 121 = .ok (.iload_n 2, 1) := by decide +kernel
theorem dX6_likes_122 : decode cX6_likes 122 = .ok (.iconst 5, 1) := by decide +kernel
theorem dX6_likes_123 : decode cX6_likes 123 = .ok (.if_icmp .ne 8, 3) := by decide +kernel
theorem dX6_likes_126 : decode cX6_likes 126 = .ok (.iload_n 2, 1) := by decide +kernel
theorem dX6_likes_127 : decode cX6_likes 127 = .ok (.iconst 3, 1) := by decide +kernel
theorem dX6_likes_128 : decode cX6_likes 128 = .ok (.if_icmp .ne 7, 3) := by decide +kernel
theorem dX6_likes_131 : decode cX6_likes 131 = .ok (.iconst 1, 1) := by decide +kernel
theorem dX6_likes_132 : decode cX6_likes 132 = .ok (.goto 4, 3) := by decide +kernel
theorem dX6_likes_135 : decode cX6_likes 135 = .ok (.iconst 0, 1) := by decide +kernel
theorem dX6_likes_136 : decode cX6_likes 136 = .ok (.ireturn, 1) := by decide +kernel
theorem dX6_likes_137 : decode cX6_likes 137 = .ok (.iconst 1, 1) := by decide +kernel
theorem dX6_likes_138 : decode cX6_likes 138 = .ok (.ireturn, 1) := by decide +kernel
theorem dX6_likes_139 : decode cX6_likes 139 = .ok (.iload_n 2, 1) := by decide +kernel
theorem dX6_likes_140 : decode cX6_likes 140 = .ok (.iconst 2, 1) := by decide +kernel
theorem dX6_likes_141 : decode cX6_likes 141 = .ok (.bipush 7, 2) := by decide +kernel
theorem dX6_likes_143 : decode cX6_likes 143 = .ok (.invokestatic 70, 3) := by decide +kernel
theorem dX6_likes_146 : decode cX6_likes 146 = .ok (.ireturn, 1) := by decide +kernel
theorem dX6_likes_147 : decode cX6_likes 147 = .ok (.iload_n 3, 1) := by decide +kernel
theorem dX6_likes_148 : decode cX6_likes 148 = .ok (.ireturn, 1) := by decide +kernel
theorem dX6_takes_0 : decode cX6_takes 0 = .ok (.aload_n 0, 1) := by decide +kernel
theorem dX6_takes_1 : decode cX6_takes 1 = .ok (.iload_n 1, 1) := by decide +kernel
theorem dX6_takes_2 : decode cX6_takes 2 = .ok (.iload_n 2, 1) := by decide +kernel
theorem dX6_takes_3 : decode cX6_takes 3 = .ok (.invokevirtual 104, 3) := by decide +kernel
theorem dX6_takes_6 : decode cX6_takes 6 = .ok (.ifCond .ne 16, 3) := by decide +kernel
theorem dX6_takes_9 : decode cX6_takes 9 = .ok (.aload_n 0, 1) := by decide +kernel
theorem dX6_takes_10 : decode cX6_takes 10 = .ok (.iload_n 1, 1) := by decide +kernel
theorem dX6_takes_11 : decode cX6_takes 11 = .ok (.iload_n 2, 1) := by decide +kernel
theorem dX6_takes_12 : decode cX6_takes 12 = .ok (.invokevirtual 108, 3) := by decide +kernel
theorem dX6_takes_15 : decode cX6_takes 15 = .ok (.ifCond .eq 7, 3) := by decide +kernel
theorem dX6_takes_18 : decode cX6_takes 18 = .ok (.iconst 1, 1) := by decide +kernel
theorem dX6_takes_19 : decode cX6_takes 19 = .ok (.goto 4, 3) := by decide +kernel
theorem dX6_takes_22 : decode cX6_takes 22 = .ok (.iconst 0, 1) := by decide +kernel
theorem dX6_takes_23 : decode cX6_takes 23 = .ok (.ireturn, 1) := by decide +kernel
theorem dX6_arms_0 : decode cX6_arms 0 = .ok (.aload_n 0, 1) := by decide +kernel
theorem dX6_arms_1 : decode cX6_arms 1 = .ok (.iload_n 1, 1) := by decide +kernel
theorem dX6_arms_2 : decode cX6_arms 2 = .ok (.iconst 3, 1) := by decide +kernel
theorem dX6_arms_3 : decode cX6_arms 3 = .ok (.invokevirtual 104, 3) := by decide +kernel
theorem dX6_arms_6 : decode cX6_arms 6 = .ok (.ifCond .eq 7, 3) := by decide +kernel
theorem dX6_arms_9 : decode cX6_arms 9 = .ok (.iconst 1, 1) := by decide +kernel
theorem dX6_arms_10 : decode cX6_arms 10 = .ok (.goto 4, 3) := by decide +kernel
theorem dX6_arms_13 : decode cX6_arms 13 = .ok (.iconst 0, 1) := by decide +kernel
theorem dX6_arms_14 : decode cX6_arms 14 = .ok (.aload_n 0, 1) := by decide +kernel
theorem dX6_arms_15 : decode cX6_arms 15 = .ok (.iload_n 1, 1) := by decide +kernel
theorem dX6_arms_16 : decode cX6_arms 16 = .ok (.iconst 4, 1) := by decide +kernel
theorem dX6_arms_17 : decode cX6_arms 17 = .ok (.invokevirtual 104, 3) := by decide +kernel
theorem dX6_arms_20 : decode cX6_arms 20 = .ok (.ifCond .eq 7, 3) := by decide +kernel
theorem dX6_arms_23 : decode cX6_arms 23 = .ok (.iconst 1, 1) := by decide +kernel
theorem dX6_arms_24 : decode cX6_arms 24 = .ok (.goto 4, 3) := by decide +kernel
theorem dX6_arms_27 : decode cX6_arms 27 = .ok (.iconst 0, 1) := by decide +kernel
theorem dX6_arms_28 : decode cX6_arms 28 = .ok (.iadd, 1) := by decide +kernel
theorem dX6_arms_29 : decode cX6_arms 29 = .ok (.ireturn, 1) := by decide +kernel
theorem dX6_yearns_0 : decode cX6_yearns 0 = .ok (.bipush 12, 2) := by decide +kernel
theorem dX6_yearns_2 : decode cX6_yearns 2 = .ok (.aload_n 0, 1) := by decide +kernel
theorem dX6_yearns_3 : decode cX6_yearns 3 = .ok (.iload_n 1, 1) := by decide +kernel
theorem dX6_yearns_4 : decode cX6_yearns 4 = .ok (.iconst 2, 1) := by decide +kernel
theorem dX6_yearns_5 : decode cX6_yearns 5 = .ok (.invokevirtual 101, 3) := by decide +kernel
theorem dX6_yearns_8 : decode cX6_yearns 8 = .ok (.invokestatic 111, 3) := by decide +kernel
theorem dX6_yearns_11 : decode cX6_yearns 11 = .ok (.isub, 1) := by decide +kernel
theorem dX6_yearns_12 : decode cX6_yearns 12 = .ok (.iconst 3, 1) := by decide +kernel
theorem dX6_yearns_13 : decode cX6_yearns 13 = .ok (.idiv, 1) := by decide +kernel
theorem dX6_yearns_14 : decode cX6_yearns 14 = .ok (.istore_n 2, 1) := by decide +kernel
theorem dX6_yearns_15 : decode cX6_yearns 15 = .ok (.aload_n 0, 1) := by decide +kernel
theorem dX6_yearns_16 : decode cX6_yearns 16 = .ok (.iload_n 1, 1) := by decide +kernel
theorem dX6_yearns_17 : decode cX6_yearns 17 = .ok (.bipush 8, 2) := by decide +kernel
theorem dX6_yearns_19 : decode cX6_yearns 19 = .ok (.invokevirtual 104, 3) := by decide +kernel
theorem dX6_yearns_22 : decode cX6_yearns 22 = .ok (.ifCond .eq 7, 3) := by decide +kernel
theorem dX6_yearns_25 : decode cX6_yearns 25 = .ok (.iconst 0, 1) := by decide +kernel
theorem dX6_yearns_26 : decode cX6_yearns 26 = .ok (.goto 4, 3) := by decide +kernel
theorem dX6_yearns_29 : decode cX6_yearns 29 = .ok (.iload_n 2, 1) := by decide +kernel
theorem dX6_yearns_30 : decode cX6_yearns 30 = .ok (.istore_n 3, 1) := by decide +kernel
theorem dX6_yearns_31 : decode cX6_yearns 31 = .ok (.aload_n 0, 1) := by decide +kernel
theorem dX6_yearns_32 : decode cX6_yearns 32 = .ok (.iload_n 1, 1) := by decide +kernel
theorem dX6_yearns_33 : decode cX6_yearns 33 = .ok (.iconst 0, 1) := by decide +kernel
theorem dX6_yearns_34 : decode cX6_yearns 34 = .ok (.invokevirtual 101, 3) := by decide +kernel
theorem dX6_yearns_37 : decode cX6_yearns 37 = .ok (.tableswitch 71 1 6 #[39, 49, 51, 55, 69, 43], 39) := by decide +kernel
theorem dX6_yearns_76 : decode cX6_yearns 76 = .ok (.iload_n 2, 1) := by decide +kernel
theorem dX6_yearns_77 : decode cX6_yearns 77 = .ok (.iconst 1, 1) := by decide +kernel
theorem dX6_yearns_78 : decode cX6_yearns 78 = .ok (.iadd, 1) := by decide +kernel
theorem dX6_yearns_79 : decode cX6_yearns 79 = .ok (.ireturn, 1) := by decide +kernel
theorem dX6_yearns_80 : decode cX6_yearns 80 = .ok (.iconst 2, 1) := by decide +kernel
theorem dX6_yearns_81 : decode cX6_yearns 81 = .ok (.iload_n 2, 1) := by decide +kernel
theorem dX6_yearns_82 : decode cX6_yearns 82 = .ok (.iconst 1, 1) := by decide +kernel
theorem dX6_yearns_83 : decode cX6_yearns 83 = .ok (.iadd, 1) := by decide +kernel
theorem dX6_yearns_84 : decode cX6_yearns 84 = .ok (.imul, 1) := by decide +kernel
theorem dX6_yearns_85 : decode cX6_yearns 85 = .ok (.ireturn, 1) := by decide +kernel
theorem dX6_yearns_86 : decode cX6_yearns 86 = .ok (.iload_n 3, 1) := by decide +kernel
theorem dX6_yearns_87 : decode cX6_yearns 87 = .ok (.ireturn, 1) := by decide +kernel
theorem dX6_yearns_88 : decode cX6_yearns 88 = .ok (.iload_n 3, 1) := by decide +kernel
theorem dX6_yearns_89 : decode cX6_yearns 89 = .ok (.iconst 1, 1) := by decide +kernel
theorem dX6_yearns_90 : decode cX6_yearns 90 = .ok (.iadd, 1) := by decide +kernel
theorem dX6_yearns_91 : decode cX6_yearns 91 = .ok (.ireturn, 1) := by decide +kernel
theorem dX6_yearns_92 : decode cX6_yearns 92 = .ok (.iconst 0, 1) := by decide +kernel
theorem dX6_yearns_93 : decode cX6_yearns 93 = .ok (.iload_n 3, 1) := by decide +kernel
theorem dX6_yearns_94 : decode cX6_yearns 94 = .ok (.iconst 1, 1) := by decide +kernel
theorem dX6_yearns_95 : decode cX6_yearns 95 = .ok (.iadd, 1) := by decide +kernel
theorem dX6_yearns_96 : decode cX6_yearns 96 = .ok (.aload_n 0, 1) := by decide +kernel
theorem dX6_yearns_97 : decode cX6_yearns 97 = .ok (.iload_n 1, 1) := by decide +kernel
theorem dX6_yearns_98 : decode cX6_yearns 98 = .ok (.invokevirtual 114, 3) := by decide +kernel
theorem dX6_yearns_101 : decode cX6_yearns 101 = .ok (.isub, 1) := by decide +kernel
theorem dX6_yearns_102 : decode cX6_yearns 102 = .ok (.invokestatic 117, 3) := by decide +kernel
theorem dX6_yearns_105 : decode cX6_yearns 105 = .ok (.ireturn, 1) := by decide +kernel
theorem dX6_yearns_106 : decode cX6_yearns 106 = .ok (.iconst 1, 1) := by decide +kernel
theorem dX6_yearns_107 : decode cX6_yearns 107 = .ok (.ireturn, 1) := by decide +kernel
theorem dX6_yearns_108 : decode cX6_yearns 108 = .ok (.iload_n 2, 1) := by decide +kernel
theorem dX6_yearns_109 : decode cX6_yearns 109 = .ok (.ireturn, 1) := by decide +kernel
theorem dX6_leavesWith_0 : decode cX6_leavesWith 0 = .ok (.aload_n 0, 1) := by decide +kernel
theorem dX6_leavesWith_1 : decode cX6_leavesWith 1 = .ok (.iload_n 1, 1) := by decide +kernel
theorem dX6_leavesWith_2 : decode cX6_leavesWith 2 = .ok (.iconst 0, 1) := by decide +kernel
theorem dX6_leavesWith_3 : decode cX6_leavesWith 3 = .ok (.invokevirtual 101, 3) := by decide +kernel
theorem dX6_leavesWith_6 : decode cX6_leavesWith 6 = .ok (.tableswitch 47 1 6 #[38, 41, 41, 38, 44, 38], 38) := by decide +kernel
theorem dX6_leavesWith_44 : decode cX6_leavesWith 44 = .ok (.bipush 40, 2) := by decide +kernel
theorem dX6_leavesWith_46 : decode cX6_leavesWith 46 = .ok (.ireturn, 1) := by decide +kernel
theorem dX6_leavesWith_47 : decode cX6_leavesWith 47 = .ok (.bipush 80, 2) := by decide +kernel
theorem dX6_leavesWith_49 : decode cX6_leavesWith 49 = .ok (.ireturn, 1) := by decide +kernel
theorem dX6_leavesWith_50 : decode cX6_leavesWith 50 = .ok (.bipush 99, 2) := by decide +kernel
theorem dX6_leavesWith_52 : decode cX6_leavesWith 52 = .ok (.ireturn, 1) := by decide +kernel
theorem dX6_leavesWith_53 : decode cX6_leavesWith 53 = .ok (.bipush 50, 2) := by decide +kernel
theorem dX6_leavesWith_55 : decode cX6_leavesWith 55 = .ok (.ireturn, 1) := by decide +kernel
theorem dX6_steps_0 : decode cX6_steps 0 = .ok (.aload_n 0, 1) := by decide +kernel
theorem dX6_steps_1 : decode cX6_steps 1 = .ok (.iload_n 1, 1) := by decide +kernel
theorem dX6_steps_2 : decode cX6_steps 2 = .ok (.iconst 0, 1) := by decide +kernel
theorem dX6_steps_3 : decode cX6_steps 3 = .ok (.invokevirtual 101, 3) := by decide +kernel
theorem dX6_steps_6 : decode cX6_steps 6 = .ok (.tableswitch 58 1 6 #[38, 58, 38, 38, 56, 40], 38) := by decide +kernel
theorem dX6_steps_44 : decode cX6_steps 44 = .ok (.iconst 2, 1) := by decide +kernel
theorem dX6_steps_45 : decode cX6_steps 45 = .ok (.ireturn, 1) := by decide +kernel
theorem dX6_steps_46 : decode cX6_steps 46 = .ok (.aload_n 0, 1) := by decide +kernel
theorem dX6_steps_47 : decode cX6_steps 47 = .ok (.iload_n 1, 1) := by decide +kernel
theorem dX6_steps_48 : decode cX6_steps 48 = .ok (.bipush 10, 2) := by decide +kernel
theorem dX6_steps_50 : decode cX6_steps 50 = .ok (.invokevirtual 104, 3) := by decide +kernel
theorem dX6_steps_53 : decode cX6_steps 53 = .ok (.ifCond .eq 7, 3) := by decide +kernel
theorem dX6_steps_56 : decode cX6_steps 56 = .ok (.iconst 3, 1) := by decide +kernel
theorem dX6_steps_57 : decode cX6_steps 57 = .ok (.goto 4, 3) := by decide +kernel
theorem dX6_steps_60 : decode cX6_steps 60 = .ok (.iconst 2, 1) := by decide +kernel
theorem dX6_steps_61 : decode cX6_steps 61 = .ok (.ireturn, 1) := by decide +kernel
theorem dX6_steps_62 : decode cX6_steps 62 = .ok (.iconst 5, 1) := by decide +kernel
theorem dX6_steps_63 : decode cX6_steps 63 = .ok (.ireturn, 1) := by decide +kernel
theorem dX6_steps_64 : decode cX6_steps 64 = .ok (.iconst 1, 1) := by decide +kernel
theorem dX6_steps_65 : decode cX6_steps 65 = .ok (.ireturn, 1) := by decide +kernel
theorem dX6_greatest_0 : decode cX6_greatest 0 = .ok (.bipush 11, 2) := by decide +kernel
theorem dX6_greatest_2 : decode cX6_greatest 2 = .ok (.istore_n 2, 1) := by decide +kernel
theorem dX6_greatest_3 : decode cX6_greatest 3 = .ok (.iload_n 2, 1) := by decide +kernel
theorem dX6_greatest_4 : decode cX6_greatest 4 = .ok (.ifCond .le 18, 3) := by decide +kernel
theorem dX6_greatest_7 : decode cX6_greatest 7 = .ok (.aload_n 0, 1) := by decide +kernel
theorem dX6_greatest_8 : decode cX6_greatest 8 = .ok (.iload_n 1, 1) := by decide +kernel
theorem dX6_greatest_9 : decode cX6_greatest 9 = .ok (.iload_n 2, 1) := by decide +kernel
theorem dX6_greatest_10 : decode cX6_greatest 10 = .ok (.invokevirtual 104, 3) := by decide +kernel
theorem dX6_greatest_13 : decode cX6_greatest 13 = .ok (.ifCond .ne 9, 3) := by decide +kernel
theorem dX6_greatest_16 : decode cX6_greatest 16 = .ok (.iinc 2 (-1), 3) := by decide +kernel
theorem dX6_greatest_19 : decode cX6_greatest 19 = .ok (.goto (-16), 3) := by decide +kernel
theorem dX6_greatest_22 : decode cX6_greatest 22 = .ok (.iload_n 2, 1) := by decide +kernel
theorem dX6_greatest_23 : decode cX6_greatest 23 = .ok (.ireturn, 1) := by decide +kernel
theorem dX6_says_0 : decode cX6_says 0 = .ok (.bipush 10, 2) := by decide +kernel
theorem dX6_says_2 : decode cX6_says 2 = .ok (.aload_n 0, 1) := by decide +kernel
theorem dX6_says_3 : decode cX6_says 3 = .ok (.iload_n 1, 1) := by decide +kernel
theorem dX6_says_4 : decode cX6_says 4 = .ok (.iconst 2, 1) := by decide +kernel
theorem dX6_says_5 : decode cX6_says 5 = .ok (.invokevirtual 101, 3) := by decide +kernel
theorem dX6_says_8 : decode cX6_says 8 = .ok (.invokestatic 111, 3) := by decide +kernel
theorem dX6_says_11 : decode cX6_says 11 = .ok (.imul, 1) := by decide +kernel
theorem dX6_says_12 : decode cX6_says 12 = .ok (.istore_n 2, 1) := by decide +kernel
theorem dX6_says_13 : decode cX6_says 13 = .ok (.iconst 0, 1) := by decide +kernel
theorem dX6_says_14 : decode cX6_says 14 = .ok (.iload_n 2, 1) := by decide +kernel
theorem dX6_says_15 : decode cX6_says 15 = .ok (.aload_n 0, 1) := by decide +kernel
theorem dX6_says_16 : decode cX6_says 16 = .ok (.iload_n 1, 1) := by decide +kernel
theorem dX6_says_17 : decode cX6_says 17 = .ok (.iconst 4, 1) := by decide +kernel
theorem dX6_says_18 : decode cX6_says 18 = .ok (.invokevirtual 101, 3) := by decide +kernel
theorem dX6_says_21 : decode cX6_says 21 = .ok (.isub, 1) := by decide +kernel
theorem dX6_says_22 : decode cX6_says 22 = .ok (.invokestatic 117, 3) := by decide +kernel
theorem dX6_says_25 : decode cX6_says 25 = .ok (.istore_n 3, 1) := by decide +kernel
theorem dX6_says_26 : decode cX6_says 26 = .ok (.aload_n 0, 1) := by decide +kernel
theorem dX6_says_27 : decode cX6_says 27 = .ok (.iload_n 1, 1) := by decide +kernel
theorem dX6_says_28 : decode cX6_says 28 = .ok (.iconst 0, 1) := by decide +kernel
theorem dX6_says_29 : decode cX6_says 29 = .ok (.invokevirtual 101, 3) := by decide +kernel
theorem dX6_says_32 : decode cX6_says 32 = .ok (.tableswitch 107 1 6 #[40, 58, 60, 71, 92, 48], 40) := by decide +kernel
theorem dX6_says_72 : decode cX6_says 72 = .ok (.iload_n 2, 1) := by decide +kernel
theorem dX6_says_73 : decode cX6_says 73 = .ok (.aload_n 0, 1) := by decide +kernel
theorem dX6_says_74 : decode cX6_says 74 = .ok (.iload_n 1, 1) := by decide +kernel
theorem dX6_says_75 : decode cX6_says 75 = .ok (.invokevirtual 122, 3) := by decide +kernel
theorem dX6_says_78 : decode cX6_says 78 = .ok (.iadd, 1) := by decide +kernel
theorem dX6_says_79 : decode cX6_says 79 = .ok (.ireturn, 1) := by decide +kernel
theorem dX6_says_80 : decode cX6_says 80 = .ok (.iconst 3, 1) := by decide +kernel
theorem dX6_says_81 : decode cX6_says 81 = .ok (.iload_n 2, 1) := by decide +kernel
theorem dX6_says_82 : decode cX6_says 82 = .ok (.aload_n 0, 1) := by decide +kernel
theorem dX6_says_83 : decode cX6_says 83 = .ok (.iload_n 1, 1) := by decide +kernel
theorem dX6_says_84 : decode cX6_says 84 = .ok (.invokevirtual 122, 3) := by decide +kernel
theorem dX6_says_87 : decode cX6_says 87 = .ok (.iadd, 1) := by decide +kernel
theorem dX6_says_88 : decode cX6_says 88 = .ok (.imul, 1) := by decide +kernel
theorem dX6_says_89 : decode cX6_says 89 = .ok (.ireturn, 1) := by decide +kernel
theorem dX6_says_90 : decode cX6_says 90 = .ok (.iload_n 3, 1) := by decide +kernel
theorem dX6_says_91 : decode cX6_says 91 = .ok (.ireturn, 1) := by decide +kernel
theorem dX6_says_92 : decode cX6_says 92 = .ok (.iload_n 3, 1) := by decide +kernel
theorem dX6_says_93 : decode cX6_says 93 = .ok (.bipush 7, 2) := by decide +kernel
theorem dX6_says_95 : decode cX6_says 95 = .ok (.aload_n 0, 1) := by decide +kernel
theorem dX6_says_96 : decode cX6_says 96 = .ok (.iload_n 1, 1) := by decide +kernel
theorem dX6_says_97 : decode cX6_says 97 = .ok (.invokevirtual 114, 3) := by decide +kernel
theorem dX6_says_100 : decode cX6_says 100 = .ok (.imul, 1) := by decide +kernel
theorem dX6_says_101 : decode cX6_says 101 = .ok (.iadd, 1) := by decide +kernel
theorem dX6_says_102 : decode cX6_says 102 = .ok (.ireturn, 1) := by decide +kernel
theorem dX6_says_103 : decode cX6_says 103 = .ok (.iload_n 3, 1) := by decide +kernel
theorem dX6_says_104 : decode cX6_says 104 = .ok (.bipush 7, 2) := by decide +kernel
theorem dX6_says_106 : decode cX6_says 106 = .ok (.aload_n 0, 1) := by decide +kernel
theorem dX6_says_107 : decode cX6_says 107 = .ok (.iload_n 1, 1) := by decide +kernel
theorem dX6_says_108 : decode cX6_says 108 = .ok (.invokevirtual 114, 3) := by decide +kernel
theorem dX6_says_111 : decode cX6_says 111 = .ok (.imul, 1) := by decide +kernel
theorem dX6_says_112 : decode cX6_says 112 = .ok (.iadd, 1) := by decide +kernel
theorem dX6_says_113 : decode cX6_says 113 = .ok (.aload_n 0, 1) := by decide +kernel
theorem dX6_says_114 : decode cX6_says 114 = .ok (.iload_n 1, 1) := by decide +kernel
theorem dX6_says_115 : decode cX6_says 115 = .ok (.iconst 1, 1) := by decide +kernel
theorem dX6_says_116 : decode cX6_says 116 = .ok (.invokevirtual 101, 3) := by decide +kernel
theorem dX6_says_119 : decode cX6_says 119 = .ok (.bipush 10, 2) := by decide +kernel
theorem dX6_says_121 : decode cX6_says 121 = .ok (.irem, 1) := by decide +kernel
theorem dX6_says_122 : decode cX6_says 122 = .ok (.iadd, 1) := by decide +kernel
theorem dX6_says_123 : decode cX6_says 123 = .ok (.ireturn, 1) := by decide +kernel
theorem dX6_says_124 : decode cX6_says 124 = .ok (.aload_n 0, 1) := by decide +kernel
theorem dX6_says_125 : decode cX6_says 125 = .ok (.iload_n 1, 1) := by decide +kernel
theorem dX6_says_126 : decode cX6_says 126 = .ok (.iconst 0, 1) := by decide +kernel
theorem dX6_says_127 : decode cX6_says 127 = .ok (.invokevirtual 104, 3) := by decide +kernel
theorem dX6_says_130 : decode cX6_says 130 = .ok (.ifCond .eq 7, 3) := by decide +kernel
theorem dX6_says_133 : decode cX6_says 133 = .ok (.iload_n 2, 1) := by decide +kernel
theorem dX6_says_134 : decode cX6_says 134 = .ok (.goto 4, 3) := by decide +kernel
theorem dX6_says_137 : decode cX6_says 137 = .ok (.iconst 0, 1) := by decide +kernel
theorem dX6_says_138 : decode cX6_says 138 = .ok (.ireturn, 1) := by decide +kernel
theorem dX6_says_139 : decode cX6_says 139 = .ok (.iload_n 2, 1) := by decide +kernel
theorem dX6_says_140 : decode cX6_says 140 = .ok (.ireturn, 1) := by decide +kernel
theorem dX6_told_0 : decode cX6_told 0 = .ok (.iload_n 2, 1) := by decide +kernel
theorem dX6_told_1 : decode cX6_told 1 = .ok (.tableswitch 55 7 10 #[31, 37, 43, 49], 31) := by decide +kernel
theorem dX6_told_32 : decode cX6_told 32 = .ok (.aload_n 0, 1) := by decide +kernel
theorem dX6_told_33 : decode cX6_told 33 = .ok (.iload_n 1, 1) := by decide +kernel
theorem dX6_told_34 : decode cX6_told 34 = .ok (.invokevirtual 125, 3) := by decide +kernel
theorem dX6_told_37 : decode cX6_told 37 = .ok (.ireturn, 1) := by decide +kernel
theorem dX6_told_38 : decode cX6_told 38 = .ok (.aload_n 0, 1) := by decide +kernel
theorem dX6_told_39 : decode cX6_told 39 = .ok (.iload_n 1, 1) := by decide +kernel
theorem dX6_told_40 : decode cX6_told 40 = .ok (.invokevirtual 128, 3) := by decide +kernel
theorem dX6_told_43 : decode cX6_told 43 = .ok (.ireturn, 1) := by decide +kernel
theorem dX6_told_44 : decode cX6_told 44 = .ok (.aload_n 0, 1) := by decide +kernel
theorem dX6_told_45 : decode cX6_told 45 = .ok (.iload_n 1, 1) := by decide +kernel
theorem dX6_told_46 : decode cX6_told 46 = .ok (.invokevirtual 131, 3) := by decide +kernel
theorem dX6_told_49 : decode cX6_told 49 = .ok (.ireturn, 1) := by decide +kernel
theorem dX6_told_50 : decode cX6_told 50 = .ok (.aload_n 0, 1) := by decide +kernel
theorem dX6_told_51 : decode cX6_told 51 = .ok (.iload_n 1, 1) := by decide +kernel
theorem dX6_told_52 : decode cX6_told 52 = .ok (.invokevirtual 134, 3) := by decide +kernel
theorem dX6_told_55 : decode cX6_told 55 = .ok (.ireturn, 1) := by decide +kernel
theorem dX6_told_56 : decode cX6_told 56 = .ok (.aload_n 0, 1) := by decide +kernel
theorem dX6_told_57 : decode cX6_told 57 = .ok (.iload_n 1, 1) := by decide +kernel
theorem dX6_told_58 : decode cX6_told 58 = .ok (.iload_n 2, 1) := by decide +kernel
theorem dX6_told_59 : decode cX6_told 59 = .ok (.invokevirtual 101, 3) := by decide +kernel
theorem dX6_told_62 : decode cX6_told 62 = .ok (.ireturn, 1) := by decide +kernel
theorem dX6_of_0 : decode cX6_of 0 = .ok (.aload_n 0, 1) := by decide +kernel
theorem dX6_of_1 : decode cX6_of 1 = .ok (.iload_n 1, 1) := by decide +kernel
theorem dX6_of_2 : decode cX6_of 2 = .ok (.invokevirtual 137, 3) := by decide +kernel
theorem dX6_of_5 : decode cX6_of 5 = .ok (.ifCond .eq 22, 3) := by decide +kernel
theorem dX6_of_8 : decode cX6_of 8 = .ok (.iload_n 2, 1) := by decide +kernel
theorem dX6_of_9 : decode cX6_of 9 = .ok (.iconst 0, 1) := by decide +kernel
theorem dX6_of_10 : decode cX6_of 10 = .ok (.bipush 10, 2) := by decide +kernel
theorem dX6_of_12 : decode cX6_of 12 = .ok (.invokestatic 70, 3) := by decide +kernel
theorem dX6_of_15 : decode cX6_of 15 = .ok (.ifCond .eq 12, 3) := by decide +kernel
theorem dX6_of_18 : decode cX6_of 18 = .ok (.aload_n 0, 1) := by decide +kernel
theorem dX6_of_19 : decode cX6_of 19 = .ok (.iload_n 1, 1) := by decide +kernel
theorem dX6_of_20 : decode cX6_of 20 = .ok (.iload_n 2, 1) := by decide +kernel
theorem dX6_of_21 : decode cX6_of 21 = .ok (.invokevirtual 140, 3) := by decide +kernel
theorem dX6_of_24 : decode cX6_of 24 = .ok (.goto 9, 3) := by decide +kernel
theorem dX6_of_27 : decode cX6_of 27 = .ok (.aload_n 0, 1) := by decide +kernel
theorem dX6_of_28 : decode cX6_of 28 = .ok (.ldc 60, 2) := by decide +kernel
theorem dX6_of_30 : decode cX6_of 30 = .ok (.invokevirtual 66, 3) := by decide +kernel
theorem dX6_of_33 : decode cX6_of 33 = .ok (.ireturn, 1) := by decide +kernel
theorem dX6_isField_0 : decode cX6_isField 0 = .ok (.iload_n 0, 1) := by decide +kernel
theorem dX6_isField_1 : decode cX6_isField 1 = .ok (.tableswitch 85 0 6 #[43, 48, 53, 62, 70, 78, 78], 43) := by decide +kernel
theorem dX6_isField_44 : decode cX6_isField 44 = .ok (.iload_n 1, 1) := by decide +kernel
theorem dX6_isField_45 : decode cX6_isField 45 = .ok (.invokestatic 91, 3) := by decide +kernel
theorem dX6_isField_48 : decode cX6_isField 48 = .ok (.ireturn, 1) := by decide +kernel
theorem dX6_isField_49 : decode cX6_isField 49 = .ok (.iload_n 1, 1) := by decide +kernel
theorem dX6_isField_50 : decode cX6_isField 50 = .ok (.invokestatic 94, 3) := by decide +kernel
theorem dX6_isField_53 : decode cX6_isField 53 = .ok (.ireturn, 1) := by decide +kernel
theorem dX6_isField_54 : decode cX6_isField 54 = .ok (.iload_n 1, 1) := by decide +kernel
theorem dX6_isField_55 : decode cX6_isField 55 = .ok (.iconst 0, 1) := by decide +kernel
theorem dX6_isField_56 : decode cX6_isField 56 = .ok (.sipush 4095, 3) := by decide +kernel
theorem dX6_isField_59 : decode cX6_isField 59 = .ok (.invokestatic 70, 3) := by decide +kernel
theorem dX6_isField_62 : decode cX6_isField 62 = .ok (.ireturn, 1) := by decide +kernel
theorem dX6_isField_63 : decode cX6_isField 63 = .ok (.iload_n 1, 1) := by decide +kernel
theorem dX6_isField_64 : decode cX6_isField 64 = .ok (.iconst 0, 1) := by decide +kernel
theorem dX6_isField_65 : decode cX6_isField 65 = .ok (.bipush 15, 2) := by decide +kernel
theorem dX6_isField_67 : decode cX6_isField 67 = .ok (.invokestatic 70, 3) := by decide +kernel
theorem dX6_isField_70 : decode cX6_isField 70 = .ok (.ireturn, 1) := by decide +kernel
theorem dX6_isField_71 : decode cX6_isField 71 = .ok (.iload_n 1, 1) := by decide +kernel
theorem dX6_isField_72 : decode cX6_isField 72 = .ok (.iconst 0, 1) := by decide +kernel
theorem dX6_isField_73 : decode cX6_isField 73 = .ok (.bipush 99, 2) := by decide +kernel
theorem dX6_isField_75 : decode cX6_isField 75 = .ok (.invokestatic 70, 3) := by decide +kernel
theorem dX6_isField_78 : decode cX6_isField 78 = .ok (.ireturn, 1) := by decide +kernel
theorem dX6_isField_79 : decode cX6_isField 79 = .ok (.iload_n 1, 1) := by decide +kernel
theorem dX6_isField_80 : decode cX6_isField 80 = .ok (.iconst 0, 1) := by decide +kernel
theorem dX6_isField_81 : decode cX6_isField 81 = .ok (.iconst 1, 1) := by decide +kernel
theorem dX6_isField_82 : decode cX6_isField 82 = .ok (.invokestatic 70, 3) := by decide +kernel
theorem dX6_isField_85 : decode cX6_isField 85 = .ok (.ireturn, 1) := by decide +kernel
theorem dX6_isField_86 : decode cX6_isField 86 = .ok (.iconst 0, 1) := by decide +kernel
theorem dX6_isField_87 : decode cX6_isField 87 = .ok (.ireturn, 1) := by decide +kernel
theorem dX6_change_0 : decode cX6_change 0 = .ok (.aload_n 0, 1) := by decide +kernel
theorem dX6_change_1 : decode cX6_change 1 = .ok (.iload_n 1, 1) := by decide +kernel
theorem dX6_change_2 : decode cX6_change 2 = .ok (.invokevirtual 137, 3) := by decide +kernel
theorem dX6_change_5 : decode cX6_change 5 = .ok (.ifCond .eq 24, 3) := by decide +kernel
theorem dX6_change_8 : decode cX6_change 8 = .ok (.iload_n 2, 1) := by decide +kernel
theorem dX6_change_9 : decode cX6_change 9 = .ok (.iload_n 3, 1) := by decide +kernel
theorem dX6_change_10 : decode cX6_change 10 = .ok (.invokestatic 143, 3) := by decide +kernel
theorem dX6_change_13 : decode cX6_change 13 = .ok (.ifCond .eq 16, 3) := by decide +kernel
theorem dX6_change_16 : decode cX6_change 16 = .ok (.aload_n 0, 1) := by decide +kernel
theorem dX6_change_17 : decode cX6_change 17 = .ok (.iload_n 1, 1) := by decide +kernel
theorem dX6_change_18 : decode cX6_change 18 = .ok (.iload_n 2, 1) := by decide +kernel
theorem dX6_change_19 : decode cX6_change 19 = .ok (.invokestatic 88, 3) := by decide +kernel
theorem dX6_change_22 : decode cX6_change 22 = .ok (.iload_n 3, 1) := by decide +kernel
theorem dX6_change_23 : decode cX6_change 23 = .ok (.invokevirtual 81, 3) := by decide +kernel
theorem dX6_change_26 : decode cX6_change 26 = .ok (.goto 9, 3) := by decide +kernel
theorem dX6_change_29 : decode cX6_change 29 = .ok (.aload_n 0, 1) := by decide +kernel
theorem dX6_change_30 : decode cX6_change 30 = .ok (.ldc 60, 2) := by decide +kernel
theorem dX6_change_32 : decode cX6_change 32 = .ok (.invokevirtual 66, 3) := by decide +kernel
theorem dX6_change_35 : decode cX6_change 35 = .ok (.ireturn, 1) := by decide +kernel
theorem dX6_accepts_0 : decode cX6_accepts 0 = .ok (.aload_n 0, 1) := by decide +kernel
theorem dX6_accepts_1 : decode cX6_accepts 1 = .ok (.iload_n 1, 1) := by decide +kernel
theorem dX6_accepts_2 : decode cX6_accepts 2 = .ok (.invokevirtual 137, 3) := by decide +kernel
theorem dX6_accepts_5 : decode cX6_accepts 5 = .ok (.ifCond .eq 27, 3) := by decide +kernel
theorem dX6_accepts_8 : decode cX6_accepts 8 = .ok (.iload_n 2, 1) := by decide +kernel
theorem dX6_accepts_9 : decode cX6_accepts 9 = .ok (.invokestatic 85, 3) := by decide +kernel
theorem dX6_accepts_12 : decode cX6_accepts 12 = .ok (.ifCond .eq 20, 3) := by decide +kernel
theorem dX6_accepts_15 : decode cX6_accepts 15 = .ok (.aload_n 0, 1) := by decide +kernel
theorem dX6_accepts_16 : decode cX6_accepts 16 = .ok (.iload_n 1, 1) := by decide +kernel
theorem dX6_accepts_17 : decode cX6_accepts 17 = .ok (.iload_n 2, 1) := by decide +kernel
theorem dX6_accepts_18 : decode cX6_accepts 18 = .ok (.invokevirtual 146, 3) := by decide +kernel
theorem dX6_accepts_21 : decode cX6_accepts 21 = .ok (.ifCond .eq 7, 3) := by decide +kernel
theorem dX6_accepts_24 : decode cX6_accepts 24 = .ok (.iconst 1, 1) := by decide +kernel
theorem dX6_accepts_25 : decode cX6_accepts 25 = .ok (.goto 13, 3) := by decide +kernel
theorem dX6_accepts_28 : decode cX6_accepts 28 = .ok (.iconst 0, 1) := by decide +kernel
theorem dX6_accepts_29 : decode cX6_accepts 29 = .ok (.goto 9, 3) := by decide +kernel
theorem dX6_accepts_32 : decode cX6_accepts 32 = .ok (.aload_n 0, 1) := by decide +kernel
theorem dX6_accepts_33 : decode cX6_accepts 33 = .ok (.ldc 60, 2) := by decide +kernel
theorem dX6_accepts_35 : decode cX6_accepts 35 = .ok (.invokevirtual 66, 3) := by decide +kernel
theorem dX6_accepts_38 : decode cX6_accepts 38 = .ok (.ireturn, 1) := by decide +kernel
theorem dX6_heirOf_0 : decode cX6_heirOf 0 = .ok (.iconst (-1), 1) := by decide +kernel
theorem dX6_heirOf_1 : decode cX6_heirOf 1 = .ok (.istore_n 2, 1) := by decide +kernel
theorem dX6_heirOf_2 : decode cX6_heirOf 2 = .ok (.iconst 0, 1) := by decide +kernel
theorem dX6_heirOf_3 : decode cX6_heirOf 3 = .ok (.istore_n 3, 1) := by decide +kernel
theorem dX6_heirOf_4 : decode cX6_heirOf 4 = .ok (.iload_n 3, 1) := by decide +kernel
theorem dX6_heirOf_5 : decode cX6_heirOf 5 = .ok (.aload_n 0, 1) := by decide +kernel
theorem dX6_heirOf_6 : decode cX6_heirOf 6 = .ok (.getfield 9, 3) := by decide +kernel
theorem dX6_heirOf_9 : decode cX6_heirOf 9 = .ok (.iconst 1, 1) := by decide +kernel
theorem dX6_heirOf_10 : decode cX6_heirOf 10 = .ok (.iaload, 1) := by decide +kernel
theorem dX6_heirOf_11 : decode cX6_heirOf 11 = .ok (.if_icmp .ge 47, 3) := by decide +kernel
theorem dX6_heirOf_14 : decode cX6_heirOf 14 = .ok (.aload_n 0, 1) := by decide +kernel
theorem dX6_heirOf_15 : decode cX6_heirOf 15 = .ok (.iload_n 3, 1) := by decide +kernel
theorem dX6_heirOf_16 : decode cX6_heirOf 16 = .ok (.invokevirtual 149, 3) := by decide +kernel
theorem dX6_heirOf_19 : decode cX6_heirOf 19 = .ok (.ifCond .ne 33, 3) := by decide +kernel
theorem dX6_heirOf_22 : decode cX6_heirOf 22 = .ok (.aload_n 0, 1) := by decide +kernel
theorem dX6_heirOf_23 : decode cX6_heirOf 23 = .ok (.iload_n 3, 1) := by decide +kernel
theorem dX6_heirOf_24 : decode cX6_heirOf 24 = .ok (.iload_n 1, 1) := by decide +kernel
theorem dX6_heirOf_25 : decode cX6_heirOf 25 = .ok (.invokevirtual 146, 3) := by decide +kernel
theorem dX6_heirOf_28 : decode cX6_heirOf 28 = .ok (.ifCond .eq 24, 3) := by decide +kernel
theorem dX6_heirOf_31 : decode cX6_heirOf 31 = .ok (.iload_n 2, 1) := by decide +kernel
theorem dX6_heirOf_32 : decode cX6_heirOf 32 = .ok (.ifCond .lt 18, 3) := by decide +kernel
theorem dX6_heirOf_35 : decode cX6_heirOf 35 = .ok (.aload_n 0, 1) := by decide +kernel
theorem dX6_heirOf_36 : decode cX6_heirOf 36 = .ok (.iload_n 3, 1) := by decide +kernel
theorem dX6_heirOf_37 : decode cX6_heirOf 37 = .ok (.iconst 1, 1) := by decide +kernel
theorem dX6_heirOf_38 : decode cX6_heirOf 38 = .ok (.invokevirtual 101, 3) := by decide +kernel
theorem dX6_heirOf_41 : decode cX6_heirOf 41 = .ok (.aload_n 0, 1) := by decide +kernel
theorem dX6_heirOf_42 : decode cX6_heirOf 42 = .ok (.iload_n 2, 1) := by decide +kernel
theorem dX6_heirOf_43 : decode cX6_heirOf 43 = .ok (.iconst 1, 1) := by decide +kernel
theorem dX6_heirOf_44 : decode cX6_heirOf 44 = .ok (.invokevirtual 101, 3) := by decide +kernel
theorem dX6_heirOf_47 : decode cX6_heirOf 47 = .ok (.if_icmp .ge 5, 3) := by decide +kernel
theorem dX6_heirOf_50 : decode cX6_heirOf 50 = .ok (.iload_n 3, 1) := by decide +kernel
theorem dX6_heirOf_51 : decode cX6_heirOf 51 = .ok (.istore_n 2, 1) := by decide +kernel
theorem dX6_heirOf_52 : decode cX6_heirOf 52 = .ok (.iinc 3 1, 3) := by decide +kernel
theorem dX6_heirOf_55 : decode cX6_heirOf 55 = .ok (.goto (-51), 3) := by decide +kernel
theorem dX6_heirOf_58 : decode cX6_heirOf 58 = .ok (.iload_n 2, 1) := by decide +kernel
theorem dX6_heirOf_59 : decode cX6_heirOf 59 = .ok (.ireturn, 1) := by decide +kernel
theorem dX6_heir_0 : decode cX6_heir 0 = .ok (.iload_n 1, 1) := by decide +kernel
theorem dX6_heir_1 : decode cX6_heir 1 = .ok (.invokestatic 85, 3) := by decide +kernel
theorem dX6_heir_4 : decode cX6_heir 4 = .ok (.ifCond .eq 15, 3) := by decide +kernel
theorem dX6_heir_7 : decode cX6_heir 7 = .ok (.aload_n 0, 1) := by decide +kernel
theorem dX6_heir_8 : decode cX6_heir 8 = .ok (.aload_n 0, 1) := by decide +kernel
theorem dX6_heir_9 : decode cX6_heir 9 = .ok (.iload_n 1, 1) := by decide +kernel
theorem dX6_heir_10 : decode cX6_heir 10 = .ok (.invokevirtual 152, 3) := by decide +kernel
theorem dX6_heir_13 : decode cX6_heir 13 = .ok (.invokevirtual 155, 3) := by decide +kernel
theorem dX6_heir_16 : decode cX6_heir 16 = .ok (.goto 9, 3) := by decide +kernel
theorem dX6_heir_19 : decode cX6_heir 19 = .ok (.aload_n 0, 1) := by decide +kernel
theorem dX6_heir_20 : decode cX6_heir 20 = .ok (.ldc 60, 2) := by decide +kernel
theorem dX6_heir_22 : decode cX6_heir 22 = .ok (.invokevirtual 66, 3) := by decide +kernel
theorem dX6_heir_25 : decode cX6_heir 25 = .ok (.ireturn, 1) := by decide +kernel
theorem dX6_gets_0 : decode cX6_gets 0 = .ok (.aload_n 0, 1) := by decide +kernel
theorem dX6_gets_1 : decode cX6_gets 1 = .ok (.getfield 9, 3) := by decide +kernel
theorem dX6_gets_4 : decode cX6_gets 4 = .ok (.iload_n 1, 1) := by decide +kernel
theorem dX6_gets_5 : decode cX6_gets 5 = .ok (.iconst 2, 1) := by decide +kernel
theorem dX6_gets_6 : decode cX6_gets 6 = .ok (.invokestatic 88, 3) := by decide +kernel
theorem dX6_gets_9 : decode cX6_gets 9 = .ok (.dup2, 1) := by decide +kernel
theorem dX6_gets_10 : decode cX6_gets 10 = .ok (.iaload, 1) := by decide +kernel
theorem dX6_gets_11 : decode cX6_gets 11 = .ok (.iconst 1, 1) := by decide +kernel
theorem dX6_gets_12 : decode cX6_gets 12 = .ok (.iload_n 2, 1) := by decide +kernel
theorem dX6_gets_13 : decode cX6_gets 13 = .ok (.ishl, 1) := by decide +kernel
theorem dX6_gets_14 : decode cX6_gets 14 = .ok (.ior, 1) := by decide +kernel
theorem dX6_gets_15 : decode cX6_gets 15 = .ok (.iastore, 1) := by decide +kernel
theorem dX6_gets_16 : decode cX6_gets 16 = .ok (.aload_n 0, 1) := by decide +kernel
theorem dX6_gets_17 : decode cX6_gets 17 = .ok (.iload_n 1, 1) := by decide +kernel
theorem dX6_gets_18 : decode cX6_gets 18 = .ok (.iconst 2, 1) := by decide +kernel
theorem dX6_gets_19 : decode cX6_gets 19 = .ok (.invokevirtual 101, 3) := by decide +kernel
theorem dX6_gets_22 : decode cX6_gets 22 = .ok (.ireturn, 1) := by decide +kernel
theorem dX6_give_0 : decode cX6_give 0 = .ok (.aload_n 0, 1) := by decide +kernel
theorem dX6_give_1 : decode cX6_give 1 = .ok (.iload_n 1, 1) := by decide +kernel
theorem dX6_give_2 : decode cX6_give 2 = .ok (.invokevirtual 137, 3) := by decide +kernel
theorem dX6_give_5 : decode cX6_give 5 = .ok (.ifCond .eq 10, 3) := by decide +kernel
theorem dX6_give_8 : decode cX6_give 8 = .ok (.iload_n 2, 1) := by decide +kernel
theorem dX6_give_9 : decode cX6_give 9 = .ok (.invokestatic 85, 3) := by decide +kernel
theorem dX6_give_12 : decode cX6_give 12 = .ok (.ifCond .ne 10, 3) := by decide +kernel
theorem dX6_give_15 : decode cX6_give 15 = .ok (.aload_n 0, 1) := by decide +kernel
theorem dX6_give_16 : decode cX6_give 16 = .ok (.ldc 60, 2) := by decide +kernel
theorem dX6_give_18 : decode cX6_give 18 = .ok (.invokevirtual 66, 3) := by decide +kernel
theorem dX6_give_21 : decode cX6_give 21 = .ok (.ireturn, 1) := by decide +kernel
theorem dX6_give_22 : decode cX6_give 22 = .ok (.aload_n 0, 1) := by decide +kernel
theorem dX6_give_23 : decode cX6_give 23 = .ok (.iload_n 1, 1) := by decide +kernel
theorem dX6_give_24 : decode cX6_give 24 = .ok (.iload_n 2, 1) := by decide +kernel
theorem dX6_give_25 : decode cX6_give 25 = .ok (.invokevirtual 104, 3) := by decide +kernel
theorem dX6_give_28 : decode cX6_give 28 = .ok (.ifCond .ne 23, 3) := by decide +kernel
theorem dX6_give_31 : decode cX6_give 31 = .ok (.aload_n 0, 1) := by decide +kernel
theorem dX6_give_32 : decode cX6_give 32 = .ok (.iload_n 1, 1) := by decide +kernel
theorem dX6_give_33 : decode cX6_give 33 = .ok (.invokevirtual 149, 3) := by decide +kernel
theorem dX6_give_36 : decode cX6_give 36 = .ok (.ifCond .ne 15, 3) := by decide +kernel
theorem dX6_give_39 : decode cX6_give 39 = .ok (.aload_n 0, 1) := by decide +kernel
theorem dX6_give_40 : decode cX6_give 40 = .ok (.getfield 9, 3) := by decide +kernel
theorem dX6_give_43 : decode cX6_give 43 = .ok (.bipush 10, 2) := by decide +kernel
theorem dX6_give_45 : decode cX6_give 45 = .ok (.iload_n 2, 1) := by decide +kernel
theorem dX6_give_46 : decode cX6_give 46 = .ok (.iadd, 1) := by decide +kernel
theorem dX6_give_47 : decode cX6_give 47 = .ok (.iaload, 1) := by decide +kernel
theorem dX6_give_48 : decode cX6_give 48 = .ok (.ifCond .ne 10, 3) := by decide +kernel
theorem dX6_give_51 : decode cX6_give 51 = .ok (.aload_n 0, 1) := by decide +kernel
theorem dX6_give_52 : decode cX6_give 52 = .ok (.ldc 158, 2) := by decide +kernel
theorem dX6_give_54 : decode cX6_give 54 = .ok (.invokevirtual 66, 3) := by decide +kernel
theorem dX6_give_57 : decode cX6_give 57 = .ok (.ireturn, 1) := by decide +kernel
theorem dX6_give_58 : decode cX6_give 58 = .ok (.aload_n 0, 1) := by decide +kernel
theorem dX6_give_59 : decode cX6_give 59 = .ok (.getfield 9, 3) := by decide +kernel
theorem dX6_give_62 : decode cX6_give 62 = .ok (.bipush 10, 2) := by decide +kernel
theorem dX6_give_64 : decode cX6_give 64 = .ok (.iload_n 2, 1) := by decide +kernel
theorem dX6_give_65 : decode cX6_give 65 = .ok (.iadd, 1) := by decide +kernel
theorem dX6_give_66 : decode cX6_give 66 = .ok (.dup2, 1) := by decide +kernel
theorem dX6_give_67 : decode cX6_give 67 = .ok (.iaload, 1) := by decide +kernel
theorem dX6_give_68 : decode cX6_give 68 = .ok (.iconst 1, 1) := by decide +kernel
theorem dX6_give_69 : decode cX6_give 69 = .ok (.isub, 1) := by decide +kernel
theorem dX6_give_70 : decode cX6_give 70 = .ok (.iastore, 1) := by decide +kernel
theorem dX6_give_71 : decode cX6_give 71 = .ok (.aload_n 0, 1) := by decide +kernel
theorem dX6_give_72 : decode cX6_give 72 = .ok (.iload_n 1, 1) := by decide +kernel
theorem dX6_give_73 : decode cX6_give 73 = .ok (.iload_n 2, 1) := by decide +kernel
theorem dX6_give_74 : decode cX6_give 74 = .ok (.invokevirtual 159, 3) := by decide +kernel
theorem dX6_give_77 : decode cX6_give 77 = .ok (.ireturn, 1) := by decide +kernel
theorem dX6_more_0 : decode cX6_more 0 = .ok (.aload_n 0, 1) := by decide +kernel
theorem dX6_more_1 : decode cX6_more 1 = .ok (.getfield 9, 3) := by decide +kernel
theorem dX6_more_4 : decode cX6_more 4 = .ok (.iload_n 1, 1) := by decide +kernel
theorem dX6_more_5 : decode cX6_more 5 = .ok (.iload_n 3, 1) := by decide +kernel
theorem dX6_more_6 : decode cX6_more 6 = .ok (.aload_n 0, 1) := by decide +kernel
theorem dX6_more_7 : decode cX6_more 7 = .ok (.getfield 9, 3) := by decide +kernel
theorem dX6_more_10 : decode cX6_more 10 = .ok (.iload_n 1, 1) := by decide +kernel
theorem dX6_more_11 : decode cX6_more 11 = .ok (.iaload, 1) := by decide +kernel
theorem dX6_more_12 : decode cX6_more 12 = .ok (.iload_n 2, 1) := by decide +kernel
theorem dX6_more_13 : decode cX6_more 13 = .ok (.iadd, 1) := by decide +kernel
theorem dX6_more_14 : decode cX6_more 14 = .ok (.invokestatic 162, 3) := by decide +kernel
theorem dX6_more_17 : decode cX6_more 17 = .ok (.iastore, 1) := by decide +kernel
theorem dX6_more_18 : decode cX6_more 18 = .ok (.return_, 1) := by decide +kernel
theorem dX6_wouldWalk_0 : decode cX6_wouldWalk 0 = .ok (.aload_n 0, 1) := by decide +kernel
theorem dX6_wouldWalk_1 : decode cX6_wouldWalk 1 = .ok (.iload_n 1, 1) := by decide +kernel
theorem dX6_wouldWalk_2 : decode cX6_wouldWalk 2 = .ok (.invokevirtual 149, 3) := by decide +kernel
theorem dX6_wouldWalk_5 : decode cX6_wouldWalk 5 = .ok (.ifCond .ne 40, 3) := by decide +kernel
theorem dX6_wouldWalk_8 : decode cX6_wouldWalk 8 = .ok (.aload_n 0, 1) := by decide +kernel
theorem dX6_wouldWalk_9 : decode cX6_wouldWalk 9 = .ok (.iload_n 1, 1) := by decide +kernel
theorem dX6_wouldWalk_10 : decode cX6_wouldWalk 10 = .ok (.iconst 4, 1) := by decide +kernel
theorem dX6_wouldWalk_11 : decode cX6_wouldWalk 11 = .ok (.invokevirtual 101, 3) := by decide +kernel
theorem dX6_wouldWalk_14 : decode cX6_wouldWalk 14 = .ok (.aload_n 0, 1) := by decide +kernel
theorem dX6_wouldWalk_15 : decode cX6_wouldWalk 15 = .ok (.iload_n 1, 1) := by decide +kernel
theorem dX6_wouldWalk_16 : decode cX6_wouldWalk 16 = .ok (.invokevirtual 128, 3) := by decide +kernel
theorem dX6_wouldWalk_19 : decode cX6_wouldWalk 19 = .ok (.if_icmp .lt 26, 3) := by decide +kernel
theorem dX6_wouldWalk_22 : decode cX6_wouldWalk 22 = .ok (.aload_n 0, 1) := by decide +kernel
theorem dX6_wouldWalk_23 : decode cX6_wouldWalk 23 = .ok (.iload_n 1, 1) := by decide +kernel
theorem dX6_wouldWalk_24 : decode cX6_wouldWalk 24 = .ok (.bipush 11, 2) := by decide +kernel
theorem dX6_wouldWalk_26 : decode cX6_wouldWalk 26 = .ok (.invokevirtual 104, 3) := by decide +kernel
theorem dX6_wouldWalk_29 : decode cX6_wouldWalk 29 = .ok (.ifCond .eq 16, 3) := by decide +kernel
theorem dX6_wouldWalk_32 : decode cX6_wouldWalk 32 = .ok (.aload_n 0, 1) := by decide +kernel
theorem dX6_wouldWalk_33 : decode cX6_wouldWalk 33 = .ok (.iload_n 1, 1) := by decide +kernel
theorem dX6_wouldWalk_34 : decode cX6_wouldWalk 34 = .ok (.iconst 5, 1) := by decide +kernel
theorem dX6_wouldWalk_35 : decode cX6_wouldWalk 35 = .ok (.invokevirtual 101, 3) := by decide +kernel
theorem dX6_wouldWalk_38 : decode cX6_wouldWalk 38 = .ok (.ifCond .ne 7, 3) := by decide +kernel
theorem dX6_wouldWalk_41 : decode cX6_wouldWalk 41 = .ok (.iconst 1, 1) := by decide +kernel
theorem dX6_wouldWalk_42 : decode cX6_wouldWalk 42 = .ok (.goto 4, 3) := by decide +kernel
theorem dX6_wouldWalk_45 : decode cX6_wouldWalk 45 = .ok (.iconst 0, 1) := by decide +kernel
theorem dX6_wouldWalk_46 : decode cX6_wouldWalk 46 = .ok (.ireturn, 1) := by decide +kernel
theorem dX6_yearnsOn_0 : decode cX6_yearnsOn 0 = .ok (.aload_n 0, 1) := by decide +kernel
theorem dX6_yearnsOn_1 : decode cX6_yearnsOn 1 = .ok (.iload_n 1, 1) := by decide +kernel
theorem dX6_yearnsOn_2 : decode cX6_yearnsOn 2 = .ok (.iconst 4, 1) := by decide +kernel
theorem dX6_yearnsOn_3 : decode cX6_yearnsOn 3 = .ok (.invokestatic 88, 3) := by decide +kernel
theorem dX6_yearnsOn_6 : decode cX6_yearnsOn 6 = .ok (.aload_n 0, 1) := by decide +kernel
theorem dX6_yearnsOn_7 : decode cX6_yearnsOn 7 = .ok (.iload_n 1, 1) := by decide +kernel
theorem dX6_yearnsOn_8 : decode cX6_yearnsOn 8 = .ok (.invokevirtual 125, 3) := by decide +kernel
theorem dX6_yearnsOn_11 : decode cX6_yearnsOn 11 = .ok (.bipush 99, 2) := by decide +kernel
theorem dX6_yearnsOn_13 : decode cX6_yearnsOn 13 = .ok (.invokevirtual 165, 3) := by decide +kernel
theorem dX6_yearnsOn_16 : decode cX6_yearnsOn 16 = .ok (.aload_n 0, 1) := by decide +kernel
theorem dX6_yearnsOn_17 : decode cX6_yearnsOn 17 = .ok (.iload_n 1, 1) := by decide +kernel
theorem dX6_yearnsOn_18 : decode cX6_yearnsOn 18 = .ok (.invokevirtual 169, 3) := by decide +kernel
theorem dX6_yearnsOn_21 : decode cX6_yearnsOn 21 = .ok (.ifCond .eq 51, 3) := by decide +kernel
theorem dX6_yearnsOn_24 : decode cX6_yearnsOn 24 = .ok (.aload_n 0, 1) := by decide +kernel
theorem dX6_yearnsOn_25 : decode cX6_yearnsOn 25 = .ok (.iload_n 1, 1) := by decide +kernel
theorem dX6_yearnsOn_26 : decode cX6_yearnsOn 26 = .ok (.iconst 3, 1) := by decide +kernel
theorem dX6_yearnsOn_27 : decode cX6_yearnsOn 27 = .ok (.invokestatic 88, 3) := by decide +kernel
theorem dX6_yearnsOn_30 : decode cX6_yearnsOn 30 = .ok (.aload_n 0, 1) := by decide +kernel
theorem dX6_yearnsOn_31 : decode cX6_yearnsOn 31 = .ok (.iload_n 1, 1) := by decide +kernel
theorem dX6_yearnsOn_32 : decode cX6_yearnsOn 32 = .ok (.invokevirtual 131, 3) := by decide +kernel
theorem dX6_yearnsOn_35 : decode cX6_yearnsOn 35 = .ok (.bipush 15, 2) := by decide +kernel
theorem dX6_yearnsOn_37 : decode cX6_yearnsOn 37 = .ok (.invokevirtual 165, 3) := by decide +kernel
theorem dX6_yearnsOn_40 : decode cX6_yearnsOn 40 = .ok (.aload_n 0, 1) := by decide +kernel
theorem dX6_yearnsOn_41 : decode cX6_yearnsOn 41 = .ok (.iload_n 1, 1) := by decide +kernel
theorem dX6_yearnsOn_42 : decode cX6_yearnsOn 42 = .ok (.iconst 3, 1) := by decide +kernel
theorem dX6_yearnsOn_43 : decode cX6_yearnsOn 43 = .ok (.invokevirtual 101, 3) := by decide +kernel
theorem dX6_yearnsOn_46 : decode cX6_yearnsOn 46 = .ok (.bipush 15, 2) := by decide +kernel
theorem dX6_yearnsOn_48 : decode cX6_yearnsOn 48 = .ok (.if_icmp .ne 24, 3) := by decide +kernel
theorem dX6_yearnsOn_51 : decode cX6_yearnsOn 51 = .ok (.aload_n 0, 1) := by decide +kernel
theorem dX6_yearnsOn_52 : decode cX6_yearnsOn 52 = .ok (.getfield 9, 3) := by decide +kernel
theorem dX6_yearnsOn_55 : decode cX6_yearnsOn 55 = .ok (.iload_n 1, 1) := by decide +kernel
theorem dX6_yearnsOn_56 : decode cX6_yearnsOn 56 = .ok (.bipush 6, 2) := by decide +kernel
theorem dX6_yearnsOn_58 : decode cX6_yearnsOn 58 = .ok (.invokestatic 88, 3) := by decide +kernel
theorem dX6_yearnsOn_61 : decode cX6_yearnsOn 61 = .ok (.iconst 1, 1) := by decide +kernel
theorem dX6_yearnsOn_62 : decode cX6_yearnsOn 62 = .ok (.iastore, 1) := by decide +kernel
theorem dX6_yearnsOn_63 : decode cX6_yearnsOn 63 = .ok (.aload_n 0, 1) := by decide +kernel
theorem dX6_yearnsOn_64 : decode cX6_yearnsOn 64 = .ok (.iconst 3, 1) := by decide +kernel
theorem dX6_yearnsOn_65 : decode cX6_yearnsOn 65 = .ok (.iconst 1, 1) := by decide +kernel
theorem dX6_yearnsOn_66 : decode cX6_yearnsOn 66 = .ok (.sipush 9999, 3) := by decide +kernel
theorem dX6_yearnsOn_69 : decode cX6_yearnsOn 69 = .ok (.invokevirtual 165, 3) := by decide +kernel
theorem dX6_yearnsOn_72 : decode cX6_yearnsOn 72 = .ok (.return_, 1) := by decide +kernel
theorem dX6_day_0 : decode cX6_day 0 = .ok (.aload_n 0, 1) := by decide +kernel
theorem dX6_day_1 : decode cX6_day 1 = .ok (.getfield 9, 3) := by decide +kernel
theorem dX6_day_4 : decode cX6_day 4 = .ok (.aload_n 0, 1) := by decide +kernel
theorem dX6_day_5 : decode cX6_day 5 = .ok (.invokevirtual 172, 3) := by decide +kernel
theorem dX6_day_8 : decode cX6_day 8 = .ok (.iaload, 1) := by decide +kernel
theorem dX6_day_9 : decode cX6_day 9 = .ok (.istore_n 1, 1) := by decide +kernel
theorem dX6_day_10 : decode cX6_day 10 = .ok (.iload_n 1, 1) := by decide +kernel
theorem dX6_day_11 : decode cX6_day 11 = .ok (.bipush 12, 2) := by decide +kernel
theorem dX6_day_13 : decode cX6_day 13 = .ok (.if_icmp .ge 34, 3) := by decide +kernel
theorem dX6_day_16 : decode cX6_day 16 = .ok (.aload_n 0, 1) := by decide +kernel
theorem dX6_day_17 : decode cX6_day 17 = .ok (.iload_n 1, 1) := by decide +kernel
theorem dX6_day_18 : decode cX6_day 18 = .ok (.invokevirtual 152, 3) := by decide +kernel
theorem dX6_day_21 : decode cX6_day 21 = .ok (.istore_n 2, 1) := by decide +kernel
theorem dX6_day_22 : decode cX6_day 22 = .ok (.iload_n 2, 1) := by decide +kernel
theorem dX6_day_23 : decode cX6_day 23 = .ok (.ifCond .ge 17, 3) := by decide +kernel
theorem dX6_day_26 : decode cX6_day 26 = .ok (.aload_n 0, 1) := by decide +kernel
theorem dX6_day_27 : decode cX6_day 27 = .ok (.bipush 10, 2) := by decide +kernel
theorem dX6_day_29 : decode cX6_day 29 = .ok (.iload_n 1, 1) := by decide +kernel
theorem dX6_day_30 : decode cX6_day 30 = .ok (.iadd, 1) := by decide +kernel
theorem dX6_day_31 : decode cX6_day 31 = .ok (.iconst 1, 1) := by decide +kernel
theorem dX6_day_32 : decode cX6_day 32 = .ok (.bipush 99, 2) := by decide +kernel
theorem dX6_day_34 : decode cX6_day 34 = .ok (.invokevirtual 165, 3) := by decide +kernel
theorem dX6_day_37 : decode cX6_day 37 = .ok (.goto 10, 3) := by decide +kernel
theorem dX6_day_40 : decode cX6_day 40 = .ok (.aload_n 0, 1) := by decide +kernel
theorem dX6_day_41 : decode cX6_day 41 = .ok (.iload_n 2, 1) := by decide +kernel
theorem dX6_day_42 : decode cX6_day 42 = .ok (.iload_n 1, 1) := by decide +kernel
theorem dX6_day_43 : decode cX6_day 43 = .ok (.invokevirtual 159, 3) := by decide +kernel
theorem dX6_day_46 : decode cX6_day 46 = .ok (.pop, 1) := by decide +kernel
theorem dX6_day_47 : decode cX6_day 47 = .ok (.iconst 0, 1) := by decide +kernel
theorem dX6_day_48 : decode cX6_day 48 = .ok (.istore_n 2, 1) := by decide +kernel
theorem dX6_day_49 : decode cX6_day 49 = .ok (.iload_n 2, 1) := by decide +kernel
theorem dX6_day_50 : decode cX6_day 50 = .ok (.aload_n 0, 1) := by decide +kernel
theorem dX6_day_51 : decode cX6_day 51 = .ok (.getfield 9, 3) := by decide +kernel
theorem dX6_day_54 : decode cX6_day 54 = .ok (.iconst 1, 1) := by decide +kernel
theorem dX6_day_55 : decode cX6_day 55 = .ok (.iaload, 1) := by decide +kernel
theorem dX6_day_56 : decode cX6_day 56 = .ok (.if_icmp .ge 22, 3) := by decide +kernel
theorem dX6_day_59 : decode cX6_day 59 = .ok (.aload_n 0, 1) := by decide +kernel
theorem dX6_day_60 : decode cX6_day 60 = .ok (.iload_n 2, 1) := by decide +kernel
theorem dX6_day_61 : decode cX6_day 61 = .ok (.invokevirtual 149, 3) := by decide +kernel
theorem dX6_day_64 : decode cX6_day 64 = .ok (.ifCond .ne 8, 3) := by decide +kernel
theorem dX6_day_67 : decode cX6_day 67 = .ok (.aload_n 0, 1) := by decide +kernel
theorem dX6_day_68 : decode cX6_day 68 = .ok (.iload_n 2, 1) := by decide +kernel
theorem dX6_day_69 : decode cX6_day 69 = .ok (.invokevirtual 176, 3) := by decide +kernel
theorem dX6_day_72 : decode cX6_day 72 = .ok (.iinc 2 1, 3) := by decide +kernel
theorem dX6_day_75 : decode cX6_day 75 = .ok (.goto (-26), 3) := by decide +kernel
theorem dX6_day_78 : decode cX6_day 78 = .ok (.aload_n 0, 1) := by decide +kernel
theorem dX6_day_79 : decode cX6_day 79 = .ok (.iconst 0, 1) := by decide +kernel
theorem dX6_day_80 : decode cX6_day 80 = .ok (.iconst 1, 1) := by decide +kernel
theorem dX6_day_81 : decode cX6_day 81 = .ok (.ldc 180, 2) := by decide +kernel
theorem dX6_day_83 : decode cX6_day 83 = .ok (.invokevirtual 165, 3) := by decide +kernel
theorem dX6_day_86 : decode cX6_day 86 = .ok (.return_, 1) := by decide +kernel
theorem dX6_daysGo_0 : decode cX6_daysGo 0 = .ok (.iconst 0, 1) := by decide +kernel
theorem dX6_daysGo_1 : decode cX6_daysGo 1 = .ok (.istore_n 2, 1) := by decide +kernel
theorem dX6_daysGo_2 : decode cX6_daysGo 2 = .ok (.iload_n 2, 1) := by decide +kernel
theorem dX6_daysGo_3 : decode cX6_daysGo 3 = .ok (.iload_n 1, 1) := by decide +kernel
theorem dX6_daysGo_4 : decode cX6_daysGo 4 = .ok (.if_icmp .ge 13, 3) := by decide +kernel
theorem dX6_daysGo_7 : decode cX6_daysGo 7 = .ok (.aload_n 0, 1) := by decide +kernel
theorem dX6_daysGo_8 : decode cX6_daysGo 8 = .ok (.invokevirtual 181, 3) := by decide +kernel
theorem dX6_daysGo_11 : decode cX6_daysGo 11 = .ok (.iinc 2 1, 3) := by decide +kernel
theorem dX6_daysGo_14 : decode cX6_daysGo 14 = .ok (.goto (-12), 3) := by decide +kernel
theorem dX6_daysGo_17 : decode cX6_daysGo 17 = .ok (.return_, 1) := by decide +kernel
theorem dX6_go_0 : decode cX6_go 0 = .ok (.iload_n 1, 1) := by decide +kernel
theorem dX6_go_1 : decode cX6_go 1 = .ok (.iconst 1, 1) := by decide +kernel
theorem dX6_go_2 : decode cX6_go 2 = .ok (.bipush 60, 2) := by decide +kernel
theorem dX6_go_4 : decode cX6_go 4 = .ok (.invokestatic 70, 3) := by decide +kernel
theorem dX6_go_7 : decode cX6_go 7 = .ok (.ifCond .ne 10, 3) := by decide +kernel
theorem dX6_go_10 : decode cX6_go 10 = .ok (.aload_n 0, 1) := by decide +kernel
theorem dX6_go_11 : decode cX6_go 11 = .ok (.ldc 60, 2) := by decide +kernel
theorem dX6_go_13 : decode cX6_go 13 = .ok (.invokevirtual 66, 3) := by decide +kernel
theorem dX6_go_16 : decode cX6_go 16 = .ok (.ireturn, 1) := by decide +kernel
theorem dX6_go_17 : decode cX6_go 17 = .ok (.aload_n 0, 1) := by decide +kernel
theorem dX6_go_18 : decode cX6_go 18 = .ok (.getfield 9, 3) := by decide +kernel
theorem dX6_go_21 : decode cX6_go 21 = .ok (.iconst 0, 1) := by decide +kernel
theorem dX6_go_22 : decode cX6_go 22 = .ok (.iaload, 1) := by decide +kernel
theorem dX6_go_23 : decode cX6_go 23 = .ok (.iload_n 1, 1) := by decide +kernel
theorem dX6_go_24 : decode cX6_go 24 = .ok (.iadd, 1) := by decide +kernel
theorem dX6_go_25 : decode cX6_go 25 = .ok (.ldc 180, 2) := by decide +kernel
theorem dX6_go_27 : decode cX6_go 27 = .ok (.if_icmp .le 10, 3) := by decide +kernel
theorem dX6_go_30 : decode cX6_go 30 = .ok (.aload_n 0, 1) := by decide +kernel
theorem dX6_go_31 : decode cX6_go 31 = .ok (.ldc 158, 2) := by decide +kernel
theorem dX6_go_33 : decode cX6_go 33 = .ok (.invokevirtual 66, 3) := by decide +kernel
theorem dX6_go_36 : decode cX6_go 36 = .ok (.ireturn, 1) := by decide +kernel
theorem dX6_go_37 : decode cX6_go 37 = .ok (.aload_n 0, 1) := by decide +kernel
theorem dX6_go_38 : decode cX6_go 38 = .ok (.iload_n 1, 1) := by decide +kernel
theorem dX6_go_39 : decode cX6_go 39 = .ok (.invokevirtual 184, 3) := by decide +kernel
theorem dX6_go_42 : decode cX6_go 42 = .ok (.aload_n 0, 1) := by decide +kernel
theorem dX6_go_43 : decode cX6_go 43 = .ok (.getfield 9, 3) := by decide +kernel
theorem dX6_go_46 : decode cX6_go 46 = .ok (.iconst 3, 1) := by decide +kernel
theorem dX6_go_47 : decode cX6_go 47 = .ok (.iaload, 1) := by decide +kernel
theorem dX6_go_48 : decode cX6_go 48 = .ok (.ireturn, 1) := by decide +kernel
theorem dX6_inStore_0 : decode cX6_inStore 0 = .ok (.iconst 0, 1) := by decide +kernel
theorem dX6_inStore_1 : decode cX6_inStore 1 = .ok (.istore_n 1, 1) := by decide +kernel
theorem dX6_inStore_2 : decode cX6_inStore 2 = .ok (.iconst 0, 1) := by decide +kernel
theorem dX6_inStore_3 : decode cX6_inStore 3 = .ok (.istore_n 2, 1) := by decide +kernel
theorem dX6_inStore_4 : decode cX6_inStore 4 = .ok (.iload_n 2, 1) := by decide +kernel
theorem dX6_inStore_5 : decode cX6_inStore 5 = .ok (.bipush 12, 2) := by decide +kernel
theorem dX6_inStore_7 : decode cX6_inStore 7 = .ok (.if_icmp .ge 21, 3) := by decide +kernel
theorem dX6_inStore_10 : decode cX6_inStore 10 = .ok (.iload_n 1, 1) := by decide +kernel
theorem dX6_inStore_11 : decode cX6_inStore 11 = .ok (.aload_n 0, 1) := by decide +kernel
theorem dX6_inStore_12 : decode cX6_inStore 12 = .ok (.getfield 9, 3) := by decide +kernel
theorem dX6_inStore_15 : decode cX6_inStore 15 = .ok (.bipush 10, 2) := by decide +kernel
theorem dX6_inStore_17 : decode cX6_inStore 17 = .ok (.iload_n 2, 1) := by decide +kernel
theorem dX6_inStore_18 : decode cX6_inStore 18 = .ok (.iadd, 1) := by decide +kernel
theorem dX6_inStore_19 : decode cX6_inStore 19 = .ok (.iaload, 1) := by decide +kernel
theorem dX6_inStore_20 : decode cX6_inStore 20 = .ok (.iadd, 1) := by decide +kernel
theorem dX6_inStore_21 : decode cX6_inStore 21 = .ok (.istore_n 1, 1) := by decide +kernel
theorem dX6_inStore_22 : decode cX6_inStore 22 = .ok (.iinc 2 1, 3) := by decide +kernel
theorem dX6_inStore_25 : decode cX6_inStore 25 = .ok (.goto (-21), 3) := by decide +kernel
theorem dX6_inStore_28 : decode cX6_inStore 28 = .ok (.iload_n 1, 1) := by decide +kernel
theorem dX6_inStore_29 : decode cX6_inStore 29 = .ok (.ireturn, 1) := by decide +kernel
theorem dX6_wholeOnes_0 : decode cX6_wholeOnes 0 = .ok (.iconst 0, 1) := by decide +kernel
theorem dX6_wholeOnes_1 : decode cX6_wholeOnes 1 = .ok (.istore_n 1, 1) := by decide +kernel
theorem dX6_wholeOnes_2 : decode cX6_wholeOnes 2 = .ok (.iconst 0, 1) := by decide +kernel
theorem dX6_wholeOnes_3 : decode cX6_wholeOnes 3 = .ok (.istore_n 2, 1) := by decide +kernel
theorem dX6_wholeOnes_4 : decode cX6_wholeOnes 4 = .ok (.iload_n 2, 1) := by decide +kernel
theorem dX6_wholeOnes_5 : decode cX6_wholeOnes 5 = .ok (.aload_n 0, 1) := by decide +kernel
theorem dX6_wholeOnes_6 : decode cX6_wholeOnes 6 = .ok (.getfield 9, 3) := by decide +kernel
theorem dX6_wholeOnes_9 : decode cX6_wholeOnes 9 = .ok (.iconst 1, 1) := by decide +kernel
theorem dX6_wholeOnes_10 : decode cX6_wholeOnes 10 = .ok (.iaload, 1) := by decide +kernel
theorem dX6_wholeOnes_11 : decode cX6_wholeOnes 11 = .ok (.if_icmp .ge 39, 3) := by decide +kernel
theorem dX6_wholeOnes_14 : decode cX6_wholeOnes 14 = .ok (.iload_n 1, 1) := by decide +kernel
theorem dX6_wholeOnes_15 : decode cX6_wholeOnes 15 = .ok (.aload_n 0, 1) := by decide +kernel
theorem dX6_wholeOnes_16 : decode cX6_wholeOnes 16 = .ok (.iload_n 2, 1) := by decide +kernel
theorem dX6_wholeOnes_17 : decode cX6_wholeOnes 17 = .ok (.invokevirtual 149, 3) := by decide +kernel
theorem dX6_wholeOnes_20 : decode cX6_wholeOnes 20 = .ok (.ifCond .ne 21, 3) := by decide +kernel
theorem dX6_wholeOnes_23 : decode cX6_wholeOnes 23 = .ok (.aload_n 0, 1) := by decide +kernel
theorem dX6_wholeOnes_24 : decode cX6_wholeOnes 24 = .ok (.iload_n 2, 1) := by decide +kernel
theorem dX6_wholeOnes_25 : decode cX6_wholeOnes 25 = .ok (.iconst 2, 1) := by decide +kernel
theorem dX6_wholeOnes_26 : decode cX6_wholeOnes 26 = .ok (.invokevirtual 101, 3) := by decide +kernel
theorem dX6_wholeOnes_29 : decode cX6_wholeOnes 29 = .ok (.sipush 4095, 3) := by decide +kernel
theorem dX6_wholeOnes_32 : decode cX6_wholeOnes 32 = .ok (.if_icmp .ne 9, 3) := by decide +kernel
theorem dX6_wholeOnes_35 : decode cX6_wholeOnes 35 = .ok (.iconst 1, 1) := by decide +kernel
theorem dX6_wholeOnes_36 : decode cX6_wholeOnes 36 = .ok (.iload_n 2, 1) := by decide +kernel
theorem dX6_wholeOnes_37 : decode cX6_wholeOnes 37 = .ok (.ishl, 1) := by decide +kernel
theorem dX6_wholeOnes_38 : decode cX6_wholeOnes 38 = .ok (.goto 4, 3) := by decide +kernel
theorem dX6_wholeOnes_41 : decode cX6_wholeOnes 41 = .ok (.iconst 0, 1) := by decide +kernel
theorem dX6_wholeOnes_42 : decode cX6_wholeOnes 42 = .ok (.ior, 1) := by decide +kernel
theorem dX6_wholeOnes_43 : decode cX6_wholeOnes 43 = .ok (.istore_n 1, 1) := by decide +kernel
theorem dX6_wholeOnes_44 : decode cX6_wholeOnes 44 = .ok (.iinc 2 1, 3) := by decide +kernel
theorem dX6_wholeOnes_47 : decode cX6_wholeOnes 47 = .ok (.goto (-43), 3) := by decide +kernel
theorem dX6_wholeOnes_50 : decode cX6_wholeOnes 50 = .ok (.iload_n 1, 1) := by decide +kernel
theorem dX6_wholeOnes_51 : decode cX6_wholeOnes 51 = .ok (.ireturn, 1) := by decide +kernel
theorem dX6_walkers_0 : decode cX6_walkers 0 = .ok (.iconst 0, 1) := by decide +kernel
theorem dX6_walkers_1 : decode cX6_walkers 1 = .ok (.istore_n 1, 1) := by decide +kernel
theorem dX6_walkers_2 : decode cX6_walkers 2 = .ok (.iconst 0, 1) := by decide +kernel
theorem dX6_walkers_3 : decode cX6_walkers 3 = .ok (.istore_n 2, 1) := by decide +kernel
theorem dX6_walkers_4 : decode cX6_walkers 4 = .ok (.iload_n 2, 1) := by decide +kernel
theorem dX6_walkers_5 : decode cX6_walkers 5 = .ok (.aload_n 0, 1) := by decide +kernel
theorem dX6_walkers_6 : decode cX6_walkers 6 = .ok (.getfield 9, 3) := by decide +kernel
theorem dX6_walkers_9 : decode cX6_walkers 9 = .ok (.iconst 1, 1) := by decide +kernel
theorem dX6_walkers_10 : decode cX6_walkers 10 = .ok (.iaload, 1) := by decide +kernel
theorem dX6_walkers_11 : decode cX6_walkers 11 = .ok (.if_icmp .ge 27, 3) := by decide +kernel
theorem dX6_walkers_14 : decode cX6_walkers 14 = .ok (.iload_n 1, 1) := by decide +kernel
theorem dX6_walkers_15 : decode cX6_walkers 15 = .ok (.aload_n 0, 1) := by decide +kernel
theorem dX6_walkers_16 : decode cX6_walkers 16 = .ok (.iload_n 2, 1) := by decide +kernel
theorem dX6_walkers_17 : decode cX6_walkers 17 = .ok (.invokevirtual 169, 3) := by decide +kernel
theorem dX6_walkers_20 : decode cX6_walkers 20 = .ok (.ifCond .eq 9, 3) := by decide +kernel
theorem dX6_walkers_23 : decode cX6_walkers 23 = .ok (.iconst 1, 1) := by decide +kernel
theorem dX6_walkers_24 : decode cX6_walkers 24 = .ok (.iload_n 2, 1) := by decide +kernel
theorem dX6_walkers_25 : decode cX6_walkers 25 = .ok (.ishl, 1) := by decide +kernel
theorem dX6_walkers_26 : decode cX6_walkers 26 = .ok (.goto 4, 3) := by decide +kernel
theorem dX6_walkers_29 : decode cX6_walkers 29 = .ok (.iconst 0, 1) := by decide +kernel
theorem dX6_walkers_30 : decode cX6_walkers 30 = .ok (.ior, 1) := by decide +kernel
theorem dX6_walkers_31 : decode cX6_walkers 31 = .ok (.istore_n 1, 1) := by decide +kernel
theorem dX6_walkers_32 : decode cX6_walkers 32 = .ok (.iinc 2 1, 3) := by decide +kernel
theorem dX6_walkers_35 : decode cX6_walkers 35 = .ok (.goto (-31), 3) := by decide +kernel
theorem dX6_walkers_38 : decode cX6_walkers 38 = .ok (.iload_n 1, 1) := by decide +kernel
theorem dX6_walkers_39 : decode cX6_walkers 39 = .ok (.ireturn, 1) := by decide +kernel
theorem dX6_loudest_0 : decode cX6_loudest 0 = .ok (.iconst (-1), 1) := by decide +kernel
theorem dX6_loudest_1 : decode cX6_loudest 1 = .ok (.istore_n 1, 1) := by decide +kernel
theorem dX6_loudest_2 : decode cX6_loudest 2 = .ok (.iconst 0, 1) := by decide +kernel
theorem dX6_loudest_3 : decode cX6_loudest 3 = .ok (.istore_n 2, 1) := by decide +kernel
theorem dX6_loudest_4 : decode cX6_loudest 4 = .ok (.iload_n 2, 1) := by decide +kernel
theorem dX6_loudest_5 : decode cX6_loudest 5 = .ok (.aload_n 0, 1) := by decide +kernel
theorem dX6_loudest_6 : decode cX6_loudest 6 = .ok (.getfield 9, 3) := by decide +kernel
theorem dX6_loudest_9 : decode cX6_loudest 9 = .ok (.iconst 1, 1) := by decide +kernel
theorem dX6_loudest_10 : decode cX6_loudest 10 = .ok (.iaload, 1) := by decide +kernel
theorem dX6_loudest_11 : decode cX6_loudest 11 = .ok (.if_icmp .ge 36, 3) := by decide +kernel
theorem dX6_loudest_14 : decode cX6_loudest 14 = .ok (.aload_n 0, 1) := by decide +kernel
theorem dX6_loudest_15 : decode cX6_loudest 15 = .ok (.iload_n 2, 1) := by decide +kernel
theorem dX6_loudest_16 : decode cX6_loudest 16 = .ok (.invokevirtual 149, 3) := by decide +kernel
theorem dX6_loudest_19 : decode cX6_loudest 19 = .ok (.ifCond .ne 22, 3) := by decide +kernel
theorem dX6_loudest_22 : decode cX6_loudest 22 = .ok (.iload_n 1, 1) := by decide +kernel
theorem dX6_loudest_23 : decode cX6_loudest 23 = .ok (.ifCond .lt 16, 3) := by decide +kernel
theorem dX6_loudest_26 : decode cX6_loudest 26 = .ok (.aload_n 0, 1) := by decide +kernel
theorem dX6_loudest_27 : decode cX6_loudest 27 = .ok (.iload_n 2, 1) := by decide +kernel
theorem dX6_loudest_28 : decode cX6_loudest 28 = .ok (.invokevirtual 134, 3) := by decide +kernel
theorem dX6_loudest_31 : decode cX6_loudest 31 = .ok (.aload_n 0, 1) := by decide +kernel
theorem dX6_loudest_32 : decode cX6_loudest 32 = .ok (.iload_n 1, 1) := by decide +kernel
theorem dX6_loudest_33 : decode cX6_loudest 33 = .ok (.invokevirtual 134, 3) := by decide +kernel
theorem dX6_loudest_36 : decode cX6_loudest 36 = .ok (.if_icmp .le 5, 3) := by decide +kernel
theorem dX6_loudest_39 : decode cX6_loudest 39 = .ok (.iload_n 2, 1) := by decide +kernel
theorem dX6_loudest_40 : decode cX6_loudest 40 = .ok (.istore_n 1, 1) := by decide +kernel
theorem dX6_loudest_41 : decode cX6_loudest 41 = .ok (.iinc 2 1, 3) := by decide +kernel
theorem dX6_loudest_44 : decode cX6_loudest 44 = .ok (.goto (-40), 3) := by decide +kernel
theorem dX6_loudest_47 : decode cX6_loudest 47 = .ok (.iload_n 1, 1) := by decide +kernel
theorem dX6_loudest_48 : decode cX6_loudest 48 = .ok (.ireturn, 1) := by decide +kernel
theorem dX6_yearnings_0 : decode cX6_yearnings 0 = .ok (.iconst 0, 1) := by decide +kernel
theorem dX6_yearnings_1 : decode cX6_yearnings 1 = .ok (.istore_n 1, 1) := by decide +kernel
theorem dX6_yearnings_2 : decode cX6_yearnings 2 = .ok (.iconst 0, 1) := by decide +kernel
theorem dX6_yearnings_3 : decode cX6_yearnings 3 = .ok (.istore_n 2, 1) := by decide +kernel
theorem dX6_yearnings_4 : decode cX6_yearnings 4 = .ok (.iload_n 2, 1) := by decide +kernel
theorem dX6_yearnings_5 : decode cX6_yearnings 5 = .ok (.aload_n 0, 1) := by decide +kernel
theorem dX6_yearnings_6 : decode cX6_yearnings 6 = .ok (.getfield 9, 3) := by decide +kernel
theorem dX6_yearnings_9 : decode cX6_yearnings 9 = .ok (.iconst 1, 1) := by decide +kernel
theorem dX6_yearnings_10 : decode cX6_yearnings 10 = .ok (.iaload, 1) := by decide +kernel
theorem dX6_yearnings_11 : decode cX6_yearnings 11 = .ok (.if_icmp .ge 30, 3) := by decide +kernel
theorem dX6_yearnings_14 : decode cX6_yearnings 14 = .ok (.iload_n 1, 1) := by decide +kernel
theorem dX6_yearnings_15 : decode cX6_yearnings 15 = .ok (.aload_n 0, 1) := by decide +kernel
theorem dX6_yearnings_16 : decode cX6_yearnings 16 = .ok (.iload_n 2, 1) := by decide +kernel
theorem dX6_yearnings_17 : decode cX6_yearnings 17 = .ok (.invokevirtual 149, 3) := by decide +kernel
theorem dX6_yearnings_20 : decode cX6_yearnings 20 = .ok (.ifCond .eq 7, 3) := by decide +kernel
theorem dX6_yearnings_23 : decode cX6_yearnings 23 = .ok (.iconst 0, 1) := by decide +kernel
theorem dX6_yearnings_24 : decode cX6_yearnings 24 = .ok (.goto 9, 3) := by decide +kernel
theorem dX6_yearnings_27 : decode cX6_yearnings 27 = .ok (.aload_n 0, 1) := by decide +kernel
theorem dX6_yearnings_28 : decode cX6_yearnings 28 = .ok (.iload_n 2, 1) := by decide +kernel
theorem dX6_yearnings_29 : decode cX6_yearnings 29 = .ok (.iconst 4, 1) := by decide +kernel
theorem dX6_yearnings_30 : decode cX6_yearnings 30 = .ok (.invokevirtual 101, 3) := by decide +kernel
theorem dX6_yearnings_33 : decode cX6_yearnings 33 = .ok (.iadd, 1) := by decide +kernel
theorem dX6_yearnings_34 : decode cX6_yearnings 34 = .ok (.istore_n 1, 1) := by decide +kernel
theorem dX6_yearnings_35 : decode cX6_yearnings 35 = .ok (.iinc 2 1, 3) := by decide +kernel
theorem dX6_yearnings_38 : decode cX6_yearnings 38 = .ok (.goto (-34), 3) := by decide +kernel
theorem dX6_yearnings_41 : decode cX6_yearnings 41 = .ok (.iload_n 1, 1) := by decide +kernel
theorem dX6_yearnings_42 : decode cX6_yearnings 42 = .ok (.ireturn, 1) := by decide +kernel
theorem dX6_goneOnes_0 : decode cX6_goneOnes 0 = .ok (.iconst 0, 1) := by decide +kernel
theorem dX6_goneOnes_1 : decode cX6_goneOnes 1 = .ok (.istore_n 1, 1) := by decide +kernel
theorem dX6_goneOnes_2 : decode cX6_goneOnes 2 = .ok (.iconst 0, 1) := by decide +kernel
theorem dX6_goneOnes_3 : decode cX6_goneOnes 3 = .ok (.istore_n 2, 1) := by decide +kernel
theorem dX6_goneOnes_4 : decode cX6_goneOnes 4 = .ok (.iload_n 2, 1) := by decide +kernel
theorem dX6_goneOnes_5 : decode cX6_goneOnes 5 = .ok (.aload_n 0, 1) := by decide +kernel
theorem dX6_goneOnes_6 : decode cX6_goneOnes 6 = .ok (.getfield 9, 3) := by decide +kernel
theorem dX6_goneOnes_9 : decode cX6_goneOnes 9 = .ok (.iconst 1, 1) := by decide +kernel
theorem dX6_goneOnes_10 : decode cX6_goneOnes 10 = .ok (.iaload, 1) := by decide +kernel
theorem dX6_goneOnes_11 : decode cX6_goneOnes 11 = .ok (.if_icmp .ge 21, 3) := by decide +kernel
theorem dX6_goneOnes_14 : decode cX6_goneOnes 14 = .ok (.iload_n 1, 1) := by decide +kernel
theorem dX6_goneOnes_15 : decode cX6_goneOnes 15 = .ok (.aload_n 0, 1) := by decide +kernel
theorem dX6_goneOnes_16 : decode cX6_goneOnes 16 = .ok (.iload_n 2, 1) := by decide +kernel
theorem dX6_goneOnes_17 : decode cX6_goneOnes 17 = .ok (.bipush 6, 2) := by decide +kernel
theorem dX6_goneOnes_19 : decode cX6_goneOnes 19 = .ok (.invokevirtual 101, 3) := by decide +kernel
theorem dX6_goneOnes_22 : decode cX6_goneOnes 22 = .ok (.iload_n 2, 1) := by decide +kernel
theorem dX6_goneOnes_23 : decode cX6_goneOnes 23 = .ok (.ishl, 1) := by decide +kernel
theorem dX6_goneOnes_24 : decode cX6_goneOnes 24 = .ok (.ior, 1) := by decide +kernel
theorem dX6_goneOnes_25 : decode cX6_goneOnes 25 = .ok (.istore_n 1, 1) := by decide +kernel
theorem dX6_goneOnes_26 : decode cX6_goneOnes 26 = .ok (.iinc 2 1, 3) := by decide +kernel
theorem dX6_goneOnes_29 : decode cX6_goneOnes 29 = .ok (.goto (-25), 3) := by decide +kernel
theorem dX6_goneOnes_32 : decode cX6_goneOnes 32 = .ok (.iload_n 1, 1) := by decide +kernel
theorem dX6_goneOnes_33 : decode cX6_goneOnes 33 = .ok (.ireturn, 1) := by decide +kernel
theorem dX6_now_0 : decode cX6_now 0 = .ok (.iload_n 1, 1) := by decide +kernel
theorem dX6_now_1 : decode cX6_now 1 = .ok (.tableswitch 91 0 7 #[47, 54, 61, 66, 71, 76, 81, 86], 47) := by decide +kernel
theorem dX6_now_48 : decode cX6_now 48 = .ok (.aload_n 0, 1) := by decide +kernel
theorem dX6_now_49 : decode cX6_now 49 = .ok (.getfield 9, 3) := by decide +kernel
theorem dX6_now_52 : decode cX6_now 52 = .ok (.iconst 0, 1) := by decide +kernel
theorem dX6_now_53 : decode cX6_now 53 = .ok (.iaload, 1) := by decide +kernel
theorem dX6_now_54 : decode cX6_now 54 = .ok (.ireturn, 1) := by decide +kernel
theorem dX6_now_55 : decode cX6_now 55 = .ok (.aload_n 0, 1) := by decide +kernel
theorem dX6_now_56 : decode cX6_now 56 = .ok (.getfield 9, 3) := by decide +kernel
theorem dX6_now_59 : decode cX6_now 59 = .ok (.iconst 3, 1) := by decide +kernel
theorem dX6_now_60 : decode cX6_now 60 = .ok (.iaload, 1) := by decide +kernel
theorem dX6_now_61 : decode cX6_now 61 = .ok (.ireturn, 1) := by decide +kernel
theorem dX6_now_62 : decode cX6_now 62 = .ok (.aload_n 0, 1) := by decide +kernel
theorem dX6_now_63 : decode cX6_now 63 = .ok (.invokevirtual 187, 3) := by decide +kernel
theorem dX6_now_66 : decode cX6_now 66 = .ok (.ireturn, 1) := by decide +kernel
theorem dX6_now_67 : decode cX6_now 67 = .ok (.aload_n 0, 1) := by decide +kernel
theorem dX6_now_68 : decode cX6_now 68 = .ok (.invokevirtual 190, 3) := by decide +kernel
theorem dX6_now_71 : decode cX6_now 71 = .ok (.ireturn, 1) := by decide +kernel
theorem dX6_now_72 : decode cX6_now 72 = .ok (.aload_n 0, 1) := by decide +kernel
theorem dX6_now_73 : decode cX6_now 73 = .ok (.invokevirtual 193, 3) := by decide +kernel
theorem dX6_now_76 : decode cX6_now 76 = .ok (.ireturn, 1) := by decide +kernel
theorem dX6_now_77 : decode cX6_now 77 = .ok (.aload_n 0, 1) := by decide +kernel
theorem dX6_now_78 : decode cX6_now 78 = .ok (.invokevirtual 196, 3) := by decide +kernel
theorem dX6_now_81 : decode cX6_now 81 = .ok (.ireturn, 1) := by decide +kernel
theorem dX6_now_82 : decode cX6_now 82 = .ok (.aload_n 0, 1) := by decide +kernel
theorem dX6_now_83 : decode cX6_now 83 = .ok (.invokevirtual 199, 3) := by decide +kernel
theorem dX6_now_86 : decode cX6_now 86 = .ok (.ireturn, 1) := by decide +kernel
theorem dX6_now_87 : decode cX6_now 87 = .ok (.aload_n 0, 1) := by decide +kernel
theorem dX6_now_88 : decode cX6_now 88 = .ok (.invokevirtual 202, 3) := by decide +kernel
theorem dX6_now_91 : decode cX6_now 91 = .ok (.ireturn, 1) := by decide +kernel
theorem dX6_now_92 : decode cX6_now 92 = .ok (.aload_n 0, 1) := by decide +kernel
theorem dX6_now_93 : decode cX6_now 93 = .ok (.ldc 60, 2) := by decide +kernel
theorem dX6_now_95 : decode cX6_now 95 = .ok (.invokevirtual 66, 3) := by decide +kernel
theorem dX6_now_98 : decode cX6_now 98 = .ok (.ireturn, 1) := by decide +kernel
theorem dX6_behind_0 : decode cX6_behind 0 = .ok (.aload_n 0, 1) := by decide +kernel
theorem dX6_behind_1 : decode cX6_behind 1 = .ok (.getfield 9, 3) := by decide +kernel
theorem dX6_behind_4 : decode cX6_behind 4 = .ok (.aload_n 0, 1) := by decide +kernel
theorem dX6_behind_5 : decode cX6_behind 5 = .ok (.getfield 16, 3) := by decide +kernel
theorem dX6_behind_8 : decode cX6_behind 8 = .ok (.invokestatic 61, 3) := by decide +kernel
theorem dX6_behind_11 : decode cX6_behind 11 = .ok (.aload_n 0, 1) := by decide +kernel
theorem dX6_behind_12 : decode cX6_behind 12 = .ok (.iload_n 2, 1) := by decide +kernel
theorem dX6_behind_13 : decode cX6_behind 13 = .ok (.invokevirtual 184, 3) := by decide +kernel
theorem dX6_behind_16 : decode cX6_behind 16 = .ok (.aload_n 0, 1) := by decide +kernel
theorem dX6_behind_17 : decode cX6_behind 17 = .ok (.aload_n 0, 1) := by decide +kernel
theorem dX6_behind_18 : decode cX6_behind 18 = .ok (.getfield 9, 3) := by decide +kernel
theorem dX6_behind_21 : decode cX6_behind 21 = .ok (.iload_n 1, 1) := by decide +kernel
theorem dX6_behind_22 : decode cX6_behind 22 = .ok (.iaload, 1) := by decide +kernel
theorem dX6_behind_23 : decode cX6_behind 23 = .ok (.invokevirtual 205, 3) := by decide +kernel
theorem dX6_behind_26 : decode cX6_behind 26 = .ok (.ireturn, 1) := by decide +kernel
theorem dX6_toldBehind_0 : decode cX6_toldBehind 0 = .ok (.aload_n 0, 1) := by decide +kernel
theorem dX6_toldBehind_1 : decode cX6_toldBehind 1 = .ok (.getfield 9, 3) := by decide +kernel
theorem dX6_toldBehind_4 : decode cX6_toldBehind 4 = .ok (.aload_n 0, 1) := by decide +kernel
theorem dX6_toldBehind_5 : decode cX6_toldBehind 5 = .ok (.getfield 16, 3) := by decide +kernel
theorem dX6_toldBehind_8 : decode cX6_toldBehind 8 = .ok (.invokestatic 61, 3) := by decide +kernel
theorem dX6_toldBehind_11 : decode cX6_toldBehind 11 = .ok (.aload_n 0, 1) := by decide +kernel
theorem dX6_toldBehind_12 : decode cX6_toldBehind 12 = .ok (.iload_n 3, 1) := by decide +kernel
theorem dX6_toldBehind_13 : decode cX6_toldBehind 13 = .ok (.invokevirtual 184, 3) := by decide +kernel
theorem dX6_toldBehind_16 : decode cX6_toldBehind 16 = .ok (.aload_n 0, 1) := by decide +kernel
theorem dX6_toldBehind_17 : decode cX6_toldBehind 17 = .ok (.aload_n 0, 1) := by decide +kernel
theorem dX6_toldBehind_18 : decode cX6_toldBehind 18 = .ok (.iload_n 1, 1) := by decide +kernel
theorem dX6_toldBehind_19 : decode cX6_toldBehind 19 = .ok (.iload_n 2, 1) := by decide +kernel
theorem dX6_toldBehind_20 : decode cX6_toldBehind 20 = .ok (.invokevirtual 140, 3) := by decide +kernel
theorem dX6_toldBehind_23 : decode cX6_toldBehind 23 = .ok (.invokevirtual 205, 3) := by decide +kernel
theorem dX6_toldBehind_26 : decode cX6_toldBehind 26 = .ok (.ireturn, 1) := by decide +kernel
theorem dX6_ahead_0 : decode cX6_ahead 0 = .ok (.iload_n 2, 1) := by decide +kernel
theorem dX6_ahead_1 : decode cX6_ahead 1 = .ok (.iconst 2, 1) := by decide +kernel
theorem dX6_ahead_2 : decode cX6_ahead 2 = .ok (.iconst 4, 1) := by decide +kernel
theorem dX6_ahead_3 : decode cX6_ahead 3 = .ok (.invokestatic 70, 3) := by decide +kernel
theorem dX6_ahead_6 : decode cX6_ahead 6 = .ok (.ifCond .ne 15, 3) := by decide +kernel
theorem dX6_ahead_9 : decode cX6_ahead 9 = .ok (.iload_n 2, 1) := by decide +kernel
theorem dX6_ahead_10 : decode cX6_ahead 10 = .ok (.bipush 6, 2) := by decide +kernel
theorem dX6_ahead_12 : decode cX6_ahead 12 = .ok (.if_icmp .eq 9, 3) := by decide +kernel
theorem dX6_ahead_15 : decode cX6_ahead 15 = .ok (.iload_n 2, 1) := by decide +kernel
theorem dX6_ahead_16 : decode cX6_ahead 16 = .ok (.bipush 10, 2) := by decide +kernel
theorem dX6_ahead_18 : decode cX6_ahead 18 = .ok (.if_icmp .ne 7, 3) := by decide +kernel
theorem dX6_ahead_21 : decode cX6_ahead 21 = .ok (.iconst 1, 1) := by decide +kernel
theorem dX6_ahead_22 : decode cX6_ahead 22 = .ok (.goto 4, 3) := by decide +kernel
theorem dX6_ahead_25 : decode cX6_ahead 25 = .ok (.iconst 0, 1) := by decide +kernel
theorem dX6_ahead_26 : decode cX6_ahead 26 = .ok (.istore 4, 2) := by decide +kernel
theorem dX6_ahead_28 : decode cX6_ahead 28 = .ok (.aload_n 0, 1) := by decide +kernel
theorem dX6_ahead_29 : decode cX6_ahead 29 = .ok (.iload_n 1, 1) := by decide +kernel
theorem dX6_ahead_30 : decode cX6_ahead 30 = .ok (.invokevirtual 137, 3) := by decide +kernel
theorem dX6_ahead_33 : decode cX6_ahead 33 = .ok (.ifCond .eq 28, 3) := by decide +kernel
theorem dX6_ahead_36 : decode cX6_ahead 36 = .ok (.iload 4, 2) := by decide +kernel
theorem dX6_ahead_38 : decode cX6_ahead 38 = .ok (.ifCond .eq 23, 3) := by decide +kernel
theorem dX6_ahead_41 : decode cX6_ahead 41 = .ok (.iload_n 3, 1) := by decide +kernel
theorem dX6_ahead_42 : decode cX6_ahead 42 = .ok (.iconst 0, 1) := by decide +kernel
theorem dX6_ahead_43 : decode cX6_ahead 43 = .ok (.bipush 100, 2) := by decide +kernel
theorem dX6_ahead_45 : decode cX6_ahead 45 = .ok (.invokestatic 70, 3) := by decide +kernel
theorem dX6_ahead_48 : decode cX6_ahead 48 = .ok (.ifCond .eq 13, 3) := by decide +kernel
theorem dX6_ahead_51 : decode cX6_ahead 51 = .ok (.aload_n 0, 1) := by decide +kernel
theorem dX6_ahead_52 : decode cX6_ahead 52 = .ok (.iload_n 1, 1) := by decide +kernel
theorem dX6_ahead_53 : decode cX6_ahead 53 = .ok (.iload_n 2, 1) := by decide +kernel
theorem dX6_ahead_54 : decode cX6_ahead 54 = .ok (.iload_n 3, 1) := by decide +kernel
theorem dX6_ahead_55 : decode cX6_ahead 55 = .ok (.invokevirtual 208, 3) := by decide +kernel
theorem dX6_ahead_58 : decode cX6_ahead 58 = .ok (.goto 9, 3) := by decide +kernel
theorem dX6_ahead_61 : decode cX6_ahead 61 = .ok (.aload_n 0, 1) := by decide +kernel
theorem dX6_ahead_62 : decode cX6_ahead 62 = .ok (.ldc 60, 2) := by decide +kernel
theorem dX6_ahead_64 : decode cX6_ahead 64 = .ok (.invokevirtual 66, 3) := by decide +kernel
theorem dX6_ahead_67 : decode cX6_ahead 67 = .ok (.ireturn, 1) := by decide +kernel
theorem dX6_left_0 : decode cX6_left 0 = .ok (.iload_n 1, 1) := by decide +kernel
theorem dX6_left_1 : decode cX6_left 1 = .ok (.iconst 0, 1) := by decide +kernel
theorem dX6_left_2 : decode cX6_left 2 = .ok (.bipush 100, 2) := by decide +kernel
theorem dX6_left_4 : decode cX6_left 4 = .ok (.invokestatic 70, 3) := by decide +kernel
theorem dX6_left_7 : decode cX6_left 7 = .ok (.ifCond .eq 12, 3) := by decide +kernel
theorem dX6_left_10 : decode cX6_left 10 = .ok (.aload_n 0, 1) := by decide +kernel
theorem dX6_left_11 : decode cX6_left 11 = .ok (.iconst 3, 1) := by decide +kernel
theorem dX6_left_12 : decode cX6_left 12 = .ok (.iload_n 1, 1) := by decide +kernel
theorem dX6_left_13 : decode cX6_left 13 = .ok (.invokevirtual 212, 3) := by decide +kernel
theorem dX6_left_16 : decode cX6_left 16 = .ok (.goto 9, 3) := by decide +kernel
theorem dX6_left_19 : decode cX6_left 19 = .ok (.aload_n 0, 1) := by decide +kernel
theorem dX6_left_20 : decode cX6_left 20 = .ok (.ldc 60, 2) := by decide +kernel
theorem dX6_left_22 : decode cX6_left 22 = .ok (.invokevirtual 66, 3) := by decide +kernel
theorem dX6_left_25 : decode cX6_left 25 = .ok (.ireturn, 1) := by decide +kernel
theorem dX6_when_0 : decode cX6_when 0 = .ok (.aload_n 0, 1) := by decide +kernel
theorem dX6_when_1 : decode cX6_when 1 = .ok (.iload_n 1, 1) := by decide +kernel
theorem dX6_when_2 : decode cX6_when 2 = .ok (.invokevirtual 137, 3) := by decide +kernel
theorem dX6_when_5 : decode cX6_when 5 = .ok (.ifCond .eq 10, 3) := by decide +kernel
theorem dX6_when_8 : decode cX6_when 8 = .ok (.iload_n 2, 1) := by decide +kernel
theorem dX6_when_9 : decode cX6_when 9 = .ok (.invokestatic 85, 3) := by decide +kernel
theorem dX6_when_12 : decode cX6_when 12 = .ok (.ifCond .ne 10, 3) := by decide +kernel
theorem dX6_when_15 : decode cX6_when 15 = .ok (.aload_n 0, 1) := by decide +kernel
theorem dX6_when_16 : decode cX6_when 16 = .ok (.ldc 60, 2) := by decide +kernel
theorem dX6_when_18 : decode cX6_when 18 = .ok (.invokevirtual 66, 3) := by decide +kernel
theorem dX6_when_21 : decode cX6_when 21 = .ok (.ireturn, 1) := by decide +kernel
theorem dX6_when_22 : decode cX6_when 22 = .ok (.aload_n 0, 1) := by decide +kernel
theorem dX6_when_23 : decode cX6_when 23 = .ok (.getfield 9, 3) := by decide +kernel
theorem dX6_when_26 : decode cX6_when 26 = .ok (.aload_n 0, 1) := by decide +kernel
theorem dX6_when_27 : decode cX6_when 27 = .ok (.getfield 16, 3) := by decide +kernel
theorem dX6_when_30 : decode cX6_when 30 = .ok (.invokestatic 61, 3) := by decide +kernel
theorem dX6_when_33 : decode cX6_when 33 = .ok (.iconst 0, 1) := by decide +kernel
theorem dX6_when_34 : decode cX6_when 34 = .ok (.istore_n 3, 1) := by decide +kernel
theorem dX6_when_35 : decode cX6_when 35 = .ok (.iload_n 3, 1) := by decide +kernel
theorem dX6_when_36 : decode cX6_when 36 = .ok (.sipush 200, 3) := by decide +kernel
theorem dX6_when_39 : decode cX6_when 39 = .ok (.if_icmp .ge 22, 3) := by decide +kernel
theorem dX6_when_42 : decode cX6_when 42 = .ok (.aload_n 0, 1) := by decide +kernel
theorem dX6_when_43 : decode cX6_when 43 = .ok (.iload_n 1, 1) := by decide +kernel
theorem dX6_when_44 : decode cX6_when 44 = .ok (.iload_n 2, 1) := by decide +kernel
theorem dX6_when_45 : decode cX6_when 45 = .ok (.invokevirtual 104, 3) := by decide +kernel
theorem dX6_when_48 : decode cX6_when 48 = .ok (.ifCond .ne 13, 3) := by decide +kernel
theorem dX6_when_51 : decode cX6_when 51 = .ok (.aload_n 0, 1) := by decide +kernel
theorem dX6_when_52 : decode cX6_when 52 = .ok (.invokevirtual 181, 3) := by decide +kernel
theorem dX6_when_55 : decode cX6_when 55 = .ok (.iinc 3 1, 3) := by decide +kernel
theorem dX6_when_58 : decode cX6_when 58 = .ok (.goto (-23), 3) := by decide +kernel
theorem dX6_when_61 : decode cX6_when 61 = .ok (.aload_n 0, 1) := by decide +kernel
theorem dX6_when_62 : decode cX6_when 62 = .ok (.aload_n 0, 1) := by decide +kernel
theorem dX6_when_63 : decode cX6_when 63 = .ok (.aload_n 0, 1) := by decide +kernel
theorem dX6_when_64 : decode cX6_when 64 = .ok (.iload_n 1, 1) := by decide +kernel
theorem dX6_when_65 : decode cX6_when 65 = .ok (.iload_n 2, 1) := by decide +kernel
theorem dX6_when_66 : decode cX6_when 66 = .ok (.invokevirtual 104, 3) := by decide +kernel
theorem dX6_when_69 : decode cX6_when 69 = .ok (.ifCond .eq 7, 3) := by decide +kernel
theorem dX6_when_72 : decode cX6_when 72 = .ok (.iload_n 3, 1) := by decide +kernel
theorem dX6_when_73 : decode cX6_when 73 = .ok (.goto 4, 3) := by decide +kernel
theorem dX6_when_76 : decode cX6_when 76 = .ok (.iconst (-1), 1) := by decide +kernel
theorem dX6_when_77 : decode cX6_when 77 = .ok (.invokevirtual 205, 3) := by decide +kernel
theorem dX6_when_80 : decode cX6_when 80 = .ok (.invokevirtual 155, 3) := by decide +kernel
theorem dX6_when_83 : decode cX6_when 83 = .ok (.ireturn, 1) := by decide +kernel
theorem dX6_leaves_0 : decode cX6_leaves 0 = .ok (.aload_n 0, 1) := by decide +kernel
theorem dX6_leaves_1 : decode cX6_leaves 1 = .ok (.iload_n 1, 1) := by decide +kernel
theorem dX6_leaves_2 : decode cX6_leaves 2 = .ok (.invokevirtual 137, 3) := by decide +kernel
theorem dX6_leaves_5 : decode cX6_leaves 5 = .ok (.ifCond .ne 10, 3) := by decide +kernel
theorem dX6_leaves_8 : decode cX6_leaves 8 = .ok (.aload_n 0, 1) := by decide +kernel
theorem dX6_leaves_9 : decode cX6_leaves 9 = .ok (.ldc 60, 2) := by decide +kernel
theorem dX6_leaves_11 : decode cX6_leaves 11 = .ok (.invokevirtual 66, 3) := by decide +kernel
theorem dX6_leaves_14 : decode cX6_leaves 14 = .ok (.ireturn, 1) := by decide +kernel
theorem dX6_leaves_15 : decode cX6_leaves 15 = .ok (.aload_n 0, 1) := by decide +kernel
theorem dX6_leaves_16 : decode cX6_leaves 16 = .ok (.getfield 9, 3) := by decide +kernel
theorem dX6_leaves_19 : decode cX6_leaves 19 = .ok (.aload_n 0, 1) := by decide +kernel
theorem dX6_leaves_20 : decode cX6_leaves 20 = .ok (.getfield 16, 3) := by decide +kernel
theorem dX6_leaves_23 : decode cX6_leaves 23 = .ok (.invokestatic 61, 3) := by decide +kernel
theorem dX6_leaves_26 : decode cX6_leaves 26 = .ok (.iconst 0, 1) := by decide +kernel
theorem dX6_leaves_27 : decode cX6_leaves 27 = .ok (.istore_n 2, 1) := by decide +kernel
theorem dX6_leaves_28 : decode cX6_leaves 28 = .ok (.iload_n 2, 1) := by decide +kernel
theorem dX6_leaves_29 : decode cX6_leaves 29 = .ok (.sipush 200, 3) := by decide +kernel
theorem dX6_leaves_32 : decode cX6_leaves 32 = .ok (.if_icmp .ge 21, 3) := by decide +kernel
theorem dX6_leaves_35 : decode cX6_leaves 35 = .ok (.aload_n 0, 1) := by decide +kernel
theorem dX6_leaves_36 : decode cX6_leaves 36 = .ok (.iload_n 1, 1) := by decide +kernel
theorem dX6_leaves_37 : decode cX6_leaves 37 = .ok (.invokevirtual 149, 3) := by decide +kernel
theorem dX6_leaves_40 : decode cX6_leaves 40 = .ok (.ifCond .ne 13, 3) := by decide +kernel
theorem dX6_leaves_43 : decode cX6_leaves 43 = .ok (.aload_n 0, 1) := by decide +kernel
theorem dX6_leaves_44 : decode cX6_leaves 44 = .ok (.invokevirtual 181, 3) := by decide +kernel
theorem dX6_leaves_47 : decode cX6_leaves 47 = .ok (.iinc 2 1, 3) := by decide +kernel
theorem dX6_leaves_50 : decode cX6_leaves 50 = .ok (.goto (-22), 3) := by decide +kernel
theorem dX6_leaves_53 : decode cX6_leaves 53 = .ok (.aload_n 0, 1) := by decide +kernel
theorem dX6_leaves_54 : decode cX6_leaves 54 = .ok (.aload_n 0, 1) := by decide +kernel
theorem dX6_leaves_55 : decode cX6_leaves 55 = .ok (.aload_n 0, 1) := by decide +kernel
theorem dX6_leaves_56 : decode cX6_leaves 56 = .ok (.iload_n 1, 1) := by decide +kernel
theorem dX6_leaves_57 : decode cX6_leaves 57 = .ok (.invokevirtual 149, 3) := by decide +kernel
theorem dX6_leaves_60 : decode cX6_leaves 60 = .ok (.ifCond .eq 7, 3) := by decide +kernel
theorem dX6_leaves_63 : decode cX6_leaves 63 = .ok (.iload_n 2, 1) := by decide +kernel
theorem dX6_leaves_64 : decode cX6_leaves 64 = .ok (.goto 4, 3) := by decide +kernel
theorem dX6_leaves_67 : decode cX6_leaves 67 = .ok (.iconst (-1), 1) := by decide +kernel
theorem dX6_leaves_68 : decode cX6_leaves 68 = .ok (.invokevirtual 205, 3) := by decide +kernel
theorem dX6_leaves_71 : decode cX6_leaves 71 = .ok (.invokevirtual 155, 3) := by decide +kernel
theorem dX6_leaves_74 : decode cX6_leaves 74 = .ok (.ireturn, 1) := by decide +kernel
theorem dX6_voice_0 : decode cX6_voice 0 = .ok (.aload_n 0, 1) := by decide +kernel
theorem dX6_voice_1 : decode cX6_voice 1 = .ok (.iload_n 1, 1) := by decide +kernel
theorem dX6_voice_2 : decode cX6_voice 2 = .ok (.invokevirtual 137, 3) := by decide +kernel
theorem dX6_voice_5 : decode cX6_voice 5 = .ok (.ifCond .eq 14, 3) := by decide +kernel
theorem dX6_voice_8 : decode cX6_voice 8 = .ok (.iload_n 2, 1) := by decide +kernel
theorem dX6_voice_9 : decode cX6_voice 9 = .ok (.iconst 0, 1) := by decide +kernel
theorem dX6_voice_10 : decode cX6_voice 10 = .ok (.sipush 9999, 3) := by decide +kernel
theorem dX6_voice_13 : decode cX6_voice 13 = .ok (.invokestatic 70, 3) := by decide +kernel
theorem dX6_voice_16 : decode cX6_voice 16 = .ok (.ifCond .ne 10, 3) := by decide +kernel
theorem dX6_voice_19 : decode cX6_voice 19 = .ok (.aload_n 0, 1) := by decide +kernel
theorem dX6_voice_20 : decode cX6_voice 20 = .ok (.ldc 60, 2) := by decide +kernel
theorem dX6_voice_22 : decode cX6_voice 22 = .ok (.invokevirtual 66, 3) := by decide +kernel
theorem dX6_voice_25 : decode cX6_voice 25 = .ok (.ireturn, 1) := by decide +kernel
theorem dX6_voice_26 : decode cX6_voice 26 = .ok (.aload_n 0, 1) := by decide +kernel
theorem dX6_voice_27 : decode cX6_voice 27 = .ok (.getfield 9, 3) := by decide +kernel
theorem dX6_voice_30 : decode cX6_voice 30 = .ok (.aload_n 0, 1) := by decide +kernel
theorem dX6_voice_31 : decode cX6_voice 31 = .ok (.getfield 16, 3) := by decide +kernel
theorem dX6_voice_34 : decode cX6_voice 34 = .ok (.invokestatic 61, 3) := by decide +kernel
theorem dX6_voice_37 : decode cX6_voice 37 = .ok (.iconst 0, 1) := by decide +kernel
theorem dX6_voice_38 : decode cX6_voice 38 = .ok (.istore_n 3, 1) := by decide +kernel
theorem dX6_voice_39 : decode cX6_voice 39 = .ok (.iload_n 3, 1) := by decide +kernel
theorem dX6_voice_40 : decode cX6_voice 40 = .ok (.sipush 200, 3) := by decide +kernel
theorem dX6_voice_43 : decode cX6_voice 43 = .ok (.if_icmp .ge 22, 3) := by decide +kernel
theorem dX6_voice_46 : decode cX6_voice 46 = .ok (.aload_n 0, 1) := by decide +kernel
theorem dX6_voice_47 : decode cX6_voice 47 = .ok (.iload_n 1, 1) := by decide +kernel
theorem dX6_voice_48 : decode cX6_voice 48 = .ok (.invokevirtual 134, 3) := by decide +kernel
theorem dX6_voice_51 : decode cX6_voice 51 = .ok (.iload_n 2, 1) := by decide +kernel
theorem dX6_voice_52 : decode cX6_voice 52 = .ok (.if_icmp .ge 13, 3) := by decide +kernel
theorem dX6_voice_55 : decode cX6_voice 55 = .ok (.aload_n 0, 1) := by decide +kernel
theorem dX6_voice_56 : decode cX6_voice 56 = .ok (.invokevirtual 181, 3) := by decide +kernel
theorem dX6_voice_59 : decode cX6_voice 59 = .ok (.iinc 3 1, 3) := by decide +kernel
theorem dX6_voice_62 : decode cX6_voice 62 = .ok (.goto (-23), 3) := by decide +kernel
theorem dX6_voice_65 : decode cX6_voice 65 = .ok (.aload_n 0, 1) := by decide +kernel
theorem dX6_voice_66 : decode cX6_voice 66 = .ok (.aload_n 0, 1) := by decide +kernel
theorem dX6_voice_67 : decode cX6_voice 67 = .ok (.aload_n 0, 1) := by decide +kernel
theorem dX6_voice_68 : decode cX6_voice 68 = .ok (.iload_n 1, 1) := by decide +kernel
theorem dX6_voice_69 : decode cX6_voice 69 = .ok (.invokevirtual 134, 3) := by decide +kernel
theorem dX6_voice_72 : decode cX6_voice 72 = .ok (.iload_n 2, 1) := by decide +kernel
theorem dX6_voice_73 : decode cX6_voice 73 = .ok (.if_icmp .ge 7, 3) := by decide +kernel
theorem dX6_voice_76 : decode cX6_voice 76 = .ok (.iconst (-1), 1) := by decide +kernel
theorem dX6_voice_77 : decode cX6_voice 77 = .ok (.goto 4, 3) := by decide +kernel
theorem dX6_voice_80 : decode cX6_voice 80 = .ok (.iload_n 3, 1) := by decide +kernel
theorem dX6_voice_81 : decode cX6_voice 81 = .ok (.invokevirtual 205, 3) := by decide +kernel
theorem dX6_voice_84 : decode cX6_voice 84 = .ok (.invokevirtual 155, 3) := by decide +kernel
theorem dX6_voice_87 : decode cX6_voice 87 = .ok (.ireturn, 1) := by decide +kernel
theorem dX6_isThought_0 : decode cX6_isThought 0 = .ok (.iload_n 0, 1) := by decide +kernel
theorem dX6_isThought_1 : decode cX6_isThought 1 = .ok (.iconst 0, 1) := by decide +kernel
theorem dX6_isThought_2 : decode cX6_isThought 2 = .ok (.bipush 60, 2) := by decide +kernel
theorem dX6_isThought_4 : decode cX6_isThought 4 = .ok (.invokestatic 70, 3) := by decide +kernel
theorem dX6_isThought_7 : decode cX6_isThought 7 = .ok (.ireturn, 1) := by decide +kernel
theorem dX6_orderFor_0 : decode cX6_orderFor 0 = .ok (.iload_n 1, 1) := by decide +kernel
theorem dX6_orderFor_1 : decode cX6_orderFor 1 = .ok (.invokestatic 74, 3) := by decide +kernel
theorem dX6_orderFor_4 : decode cX6_orderFor 4 = .ok (.ifCond .eq 18, 3) := by decide +kernel
theorem dX6_orderFor_7 : decode cX6_orderFor 7 = .ok (.aload_n 0, 1) := by decide +kernel
theorem dX6_orderFor_8 : decode cX6_orderFor 8 = .ok (.iload_n 2, 1) := by decide +kernel
theorem dX6_orderFor_9 : decode cX6_orderFor 9 = .ok (.invokevirtual 137, 3) := by decide +kernel
theorem dX6_orderFor_12 : decode cX6_orderFor 12 = .ok (.ifCond .eq 10, 3) := by decide +kernel
theorem dX6_orderFor_15 : decode cX6_orderFor 15 = .ok (.iload_n 3, 1) := by decide +kernel
theorem dX6_orderFor_16 : decode cX6_orderFor 16 = .ok (.invokestatic 215, 3) := by decide +kernel
theorem dX6_orderFor_19 : decode cX6_orderFor 19 = .ok (.ifCond .ne 10, 3) := by decide +kernel
theorem dX6_orderFor_22 : decode cX6_orderFor 22 = .ok (.aload_n 0, 1) := by decide +kernel
theorem dX6_orderFor_23 : decode cX6_orderFor 23 = .ok (.ldc 60, 2) := by decide +kernel
theorem dX6_orderFor_25 : decode cX6_orderFor 25 = .ok (.invokevirtual 66, 3) := by decide +kernel
theorem dX6_orderFor_28 : decode cX6_orderFor 28 = .ok (.ireturn, 1) := by decide +kernel
theorem dX6_orderFor_29 : decode cX6_orderFor 29 = .ok (.aload_n 0, 1) := by decide +kernel
theorem dX6_orderFor_30 : decode cX6_orderFor 30 = .ok (.getfield 9, 3) := by decide +kernel
theorem dX6_orderFor_33 : decode cX6_orderFor 33 = .ok (.iconst 4, 1) := by decide +kernel
theorem dX6_orderFor_34 : decode cX6_orderFor 34 = .ok (.iload_n 1, 1) := by decide +kernel
theorem dX6_orderFor_35 : decode cX6_orderFor 35 = .ok (.iadd, 1) := by decide +kernel
theorem dX6_orderFor_36 : decode cX6_orderFor 36 = .ok (.iaload, 1) := by decide +kernel
theorem dX6_orderFor_37 : decode cX6_orderFor 37 = .ok (.istore 4, 2) := by decide +kernel
theorem dX6_orderFor_39 : decode cX6_orderFor 39 = .ok (.iconst 0, 1) := by decide +kernel
theorem dX6_orderFor_40 : decode cX6_orderFor 40 = .ok (.istore 5, 2) := by decide +kernel
theorem dX6_orderFor_42 : decode cX6_orderFor 42 = .ok (.iconst (-1), 1) := by decide +kernel
theorem dX6_orderFor_43 : decode cX6_orderFor 43 = .ok (.istore 6, 2) := by decide +kernel
theorem dX6_orderFor_45 : decode cX6_orderFor 45 = .ok (.iconst 0, 1) := by decide +kernel
theorem dX6_orderFor_46 : decode cX6_orderFor 46 = .ok (.istore 7, 2) := by decide +kernel
theorem dX6_orderFor_48 : decode cX6_orderFor 48 = .ok (.iload 7, 2) := by decide +kernel
theorem dX6_orderFor_50 : decode cX6_orderFor 50 = .ok (.bipush 12, 2) := by decide +kernel
theorem dX6_orderFor_52 : decode cX6_orderFor 52 = .ok (.if_icmp .ge 49, 3) := by decide +kernel
theorem dX6_orderFor_55 : decode cX6_orderFor 55 = .ok (.aload_n 0, 1) := by decide +kernel
theorem dX6_orderFor_56 : decode cX6_orderFor 56 = .ok (.getfield 9, 3) := by decide +kernel
theorem dX6_orderFor_59 : decode cX6_orderFor 59 = .ok (.iconst 4, 1) := by decide +kernel
theorem dX6_orderFor_60 : decode cX6_orderFor 60 = .ok (.iload_n 1, 1) := by decide +kernel
theorem dX6_orderFor_61 : decode cX6_orderFor 61 = .ok (.iadd, 1) := by decide +kernel
theorem dX6_orderFor_62 : decode cX6_orderFor 62 = .ok (.iload 7, 2) := by decide +kernel
theorem dX6_orderFor_64 : decode cX6_orderFor 64 = .ok (.iastore, 1) := by decide +kernel
theorem dX6_orderFor_65 : decode cX6_orderFor 65 = .ok (.aload_n 0, 1) := by decide +kernel
theorem dX6_orderFor_66 : decode cX6_orderFor 66 = .ok (.iload_n 2, 1) := by decide +kernel
theorem dX6_orderFor_67 : decode cX6_orderFor 67 = .ok (.iconst 2, 1) := by decide +kernel
theorem dX6_orderFor_68 : decode cX6_orderFor 68 = .ok (.invokestatic 88, 3) := by decide +kernel
theorem dX6_orderFor_71 : decode cX6_orderFor 71 = .ok (.iload_n 3, 1) := by decide +kernel
theorem dX6_orderFor_72 : decode cX6_orderFor 72 = .ok (.invokevirtual 212, 3) := by decide +kernel
theorem dX6_orderFor_75 : decode cX6_orderFor 75 = .ok (.invokestatic 111, 3) := by decide +kernel
theorem dX6_orderFor_78 : decode cX6_orderFor 78 = .ok (.istore 8, 2) := by decide +kernel
theorem dX6_orderFor_80 : decode cX6_orderFor 80 = .ok (.iload 8, 2) := by decide +kernel
theorem dX6_orderFor_82 : decode cX6_orderFor 82 = .ok (.iload 6, 2) := by decide +kernel
theorem dX6_orderFor_84 : decode cX6_orderFor 84 = .ok (.if_icmp .le 11, 3) := by decide +kernel
theorem dX6_orderFor_87 : decode cX6_orderFor 87 = .ok (.iload 7, 2) := by decide +kernel
theorem dX6_orderFor_89 : decode cX6_orderFor 89 = .ok (.istore 5, 2) := by decide +kernel
theorem dX6_orderFor_91 : decode cX6_orderFor 91 = .ok (.iload 8, 2) := by decide +kernel
theorem dX6_orderFor_93 : decode cX6_orderFor 93 = .ok (.istore 6, 2) := by decide +kernel
theorem dX6_orderFor_95 : decode cX6_orderFor 95 = .ok (.iinc 7 1, 3) := by decide +kernel
theorem dX6_orderFor_98 : decode cX6_orderFor 98 = .ok (.goto (-50), 3) := by decide +kernel
theorem dX6_orderFor_101 : decode cX6_orderFor 101 = .ok (.aload_n 0, 1) := by decide +kernel
theorem dX6_orderFor_102 : decode cX6_orderFor 102 = .ok (.getfield 9, 3) := by decide +kernel
theorem dX6_orderFor_105 : decode cX6_orderFor 105 = .ok (.iconst 4, 1) := by decide +kernel
theorem dX6_orderFor_106 : decode cX6_orderFor 106 = .ok (.iload_n 1, 1) := by decide +kernel
theorem dX6_orderFor_107 : decode cX6_orderFor 107 = .ok (.iadd, 1) := by decide +kernel
theorem dX6_orderFor_108 : decode cX6_orderFor 108 = .ok (.iload 4, 2) := by decide +kernel
theorem dX6_orderFor_110 : decode cX6_orderFor 110 = .ok (.iastore, 1) := by decide +kernel
theorem dX6_orderFor_111 : decode cX6_orderFor 111 = .ok (.iload 5, 2) := by decide +kernel
theorem dX6_orderFor_113 : decode cX6_orderFor 113 = .ok (.ireturn, 1) := by decide +kernel
theorem dX6_dateFor_0 : decode cX6_dateFor 0 = .ok (.aload_n 0, 1) := by decide +kernel
theorem dX6_dateFor_1 : decode cX6_dateFor 1 = .ok (.iload_n 1, 1) := by decide +kernel
theorem dX6_dateFor_2 : decode cX6_dateFor 2 = .ok (.invokevirtual 137, 3) := by decide +kernel
theorem dX6_dateFor_5 : decode cX6_dateFor 5 = .ok (.ifCond .eq 20, 3) := by decide +kernel
theorem dX6_dateFor_8 : decode cX6_dateFor 8 = .ok (.iload_n 2, 1) := by decide +kernel
theorem dX6_dateFor_9 : decode cX6_dateFor 9 = .ok (.invokestatic 85, 3) := by decide +kernel
theorem dX6_dateFor_12 : decode cX6_dateFor 12 = .ok (.ifCond .eq 13, 3) := by decide +kernel
theorem dX6_dateFor_15 : decode cX6_dateFor 15 = .ok (.iload_n 3, 1) := by decide +kernel
theorem dX6_dateFor_16 : decode cX6_dateFor 16 = .ok (.iconst 0, 1) := by decide +kernel
theorem dX6_dateFor_17 : decode cX6_dateFor 17 = .ok (.bipush 12, 2) := by decide +kernel
theorem dX6_dateFor_19 : decode cX6_dateFor 19 = .ok (.invokestatic 70, 3) := by decide +kernel
theorem dX6_dateFor_22 : decode cX6_dateFor 22 = .ok (.ifCond .ne 10, 3) := by decide +kernel
theorem dX6_dateFor_25 : decode cX6_dateFor 25 = .ok (.aload_n 0, 1) := by decide +kernel
theorem dX6_dateFor_26 : decode cX6_dateFor 26 = .ok (.ldc 60, 2) := by decide +kernel
theorem dX6_dateFor_28 : decode cX6_dateFor 28 = .ok (.invokevirtual 66, 3) := by decide +kernel
theorem dX6_dateFor_31 : decode cX6_dateFor 31 = .ok (.ireturn, 1) := by decide +kernel
theorem dX6_dateFor_32 : decode cX6_dateFor 32 = .ok (.iload_n 1, 1) := by decide +kernel
theorem dX6_dateFor_33 : decode cX6_dateFor 33 = .ok (.iconst 1, 1) := by decide +kernel
theorem dX6_dateFor_34 : decode cX6_dateFor 34 = .ok (.invokestatic 88, 3) := by decide +kernel
theorem dX6_dateFor_37 : decode cX6_dateFor 37 = .ok (.istore 4, 2) := by decide +kernel
theorem dX6_dateFor_39 : decode cX6_dateFor 39 = .ok (.aload_n 0, 1) := by decide +kernel
theorem dX6_dateFor_40 : decode cX6_dateFor 40 = .ok (.getfield 9, 3) := by decide +kernel
theorem dX6_dateFor_43 : decode cX6_dateFor 43 = .ok (.iload 4, 2) := by decide +kernel
theorem dX6_dateFor_45 : decode cX6_dateFor 45 = .ok (.iaload, 1) := by decide +kernel
theorem dX6_dateFor_46 : decode cX6_dateFor 46 = .ok (.istore 5, 2) := by decide +kernel
theorem dX6_dateFor_48 : decode cX6_dateFor 48 = .ok (.iconst (-1), 1) := by decide +kernel
theorem dX6_dateFor_49 : decode cX6_dateFor 49 = .ok (.istore 6, 2) := by decide +kernel
theorem dX6_dateFor_51 : decode cX6_dateFor 51 = .ok (.sipush 999, 3) := by decide +kernel
theorem dX6_dateFor_54 : decode cX6_dateFor 54 = .ok (.istore 7, 2) := by decide +kernel
theorem dX6_dateFor_56 : decode cX6_dateFor 56 = .ok (.iload 7, 2) := by decide +kernel
theorem dX6_dateFor_58 : decode cX6_dateFor 58 = .ok (.ifCond .lt 49, 3) := by decide +kernel
theorem dX6_dateFor_61 : decode cX6_dateFor 61 = .ok (.iload 6, 2) := by decide +kernel
theorem dX6_dateFor_63 : decode cX6_dateFor 63 = .ok (.ifCond .ge 44, 3) := by decide +kernel
theorem dX6_dateFor_66 : decode cX6_dateFor 66 = .ok (.aload_n 0, 1) := by decide +kernel
theorem dX6_dateFor_67 : decode cX6_dateFor 67 = .ok (.getfield 9, 3) := by decide +kernel
theorem dX6_dateFor_70 : decode cX6_dateFor 70 = .ok (.iload 4, 2) := by decide +kernel
theorem dX6_dateFor_72 : decode cX6_dateFor 72 = .ok (.iload 7, 2) := by decide +kernel
theorem dX6_dateFor_74 : decode cX6_dateFor 74 = .ok (.iastore, 1) := by decide +kernel
theorem dX6_dateFor_75 : decode cX6_dateFor 75 = .ok (.aload_n 0, 1) := by decide +kernel
theorem dX6_dateFor_76 : decode cX6_dateFor 76 = .ok (.iload_n 1, 1) := by decide +kernel
theorem dX6_dateFor_77 : decode cX6_dateFor 77 = .ok (.iconst 2, 1) := by decide +kernel
theorem dX6_dateFor_78 : decode cX6_dateFor 78 = .ok (.invokestatic 88, 3) := by decide +kernel
theorem dX6_dateFor_81 : decode cX6_dateFor 81 = .ok (.iload_n 3, 1) := by decide +kernel
theorem dX6_dateFor_82 : decode cX6_dateFor 82 = .ok (.invokevirtual 212, 3) := by decide +kernel
theorem dX6_dateFor_85 : decode cX6_dateFor 85 = .ok (.iload_n 2, 1) := by decide +kernel
theorem dX6_dateFor_86 : decode cX6_dateFor 86 = .ok (.ishr, 1) := by decide +kernel
theorem dX6_dateFor_87 : decode cX6_dateFor 87 = .ok (.iconst 1, 1) := by decide +kernel
theorem dX6_dateFor_88 : decode cX6_dateFor 88 = .ok (.iand, 1) := by decide +kernel
theorem dX6_dateFor_89 : decode cX6_dateFor 89 = .ok (.iconst 1, 1) := by decide +kernel
theorem dX6_dateFor_90 : decode cX6_dateFor 90 = .ok (.if_icmp .ne 8, 3) := by decide +kernel
theorem dX6_dateFor_93 : decode cX6_dateFor 93 = .ok (.iload 7, 2) := by decide +kernel
theorem dX6_dateFor_95 : decode cX6_dateFor 95 = .ok (.goto 4, 3) := by decide +kernel
theorem dX6_dateFor_98 : decode cX6_dateFor 98 = .ok (.iconst (-1), 1) := by decide +kernel
theorem dX6_dateFor_99 : decode cX6_dateFor 99 = .ok (.istore 6, 2) := by decide +kernel
theorem dX6_dateFor_101 : decode cX6_dateFor 101 = .ok (.iinc 7 (-1), 3) := by decide +kernel
theorem dX6_dateFor_104 : decode cX6_dateFor 104 = .ok (.goto (-48), 3) := by decide +kernel
theorem dX6_dateFor_107 : decode cX6_dateFor 107 = .ok (.aload_n 0, 1) := by decide +kernel
theorem dX6_dateFor_108 : decode cX6_dateFor 108 = .ok (.getfield 9, 3) := by decide +kernel
theorem dX6_dateFor_111 : decode cX6_dateFor 111 = .ok (.iload 4, 2) := by decide +kernel
theorem dX6_dateFor_113 : decode cX6_dateFor 113 = .ok (.iload 5, 2) := by decide +kernel
theorem dX6_dateFor_115 : decode cX6_dateFor 115 = .ok (.iastore, 1) := by decide +kernel
theorem dX6_dateFor_116 : decode cX6_dateFor 116 = .ok (.aload_n 0, 1) := by decide +kernel
theorem dX6_dateFor_117 : decode cX6_dateFor 117 = .ok (.iload 6, 2) := by decide +kernel
theorem dX6_dateFor_119 : decode cX6_dateFor 119 = .ok (.invokevirtual 155, 3) := by decide +kernel
theorem dX6_dateFor_122 : decode cX6_dateFor 122 = .ok (.ireturn, 1) := by decide +kernel
theorem dX6_kindFor_0 : decode cX6_kindFor 0 = .ok (.aload_n 0, 1) := by decide +kernel
theorem dX6_kindFor_1 : decode cX6_kindFor 1 = .ok (.iload_n 1, 1) := by decide +kernel
theorem dX6_kindFor_2 : decode cX6_kindFor 2 = .ok (.invokevirtual 137, 3) := by decide +kernel
theorem dX6_kindFor_5 : decode cX6_kindFor 5 = .ok (.ifCond .eq 10, 3) := by decide +kernel
theorem dX6_kindFor_8 : decode cX6_kindFor 8 = .ok (.iload_n 2, 1) := by decide +kernel
theorem dX6_kindFor_9 : decode cX6_kindFor 9 = .ok (.invokestatic 215, 3) := by decide +kernel
theorem dX6_kindFor_12 : decode cX6_kindFor 12 = .ok (.ifCond .ne 10, 3) := by decide +kernel
theorem dX6_kindFor_15 : decode cX6_kindFor 15 = .ok (.aload_n 0, 1) := by decide +kernel
theorem dX6_kindFor_16 : decode cX6_kindFor 16 = .ok (.ldc 60, 2) := by decide +kernel
theorem dX6_kindFor_18 : decode cX6_kindFor 18 = .ok (.invokevirtual 66, 3) := by decide +kernel
theorem dX6_kindFor_21 : decode cX6_kindFor 21 = .ok (.ireturn, 1) := by decide +kernel
theorem dX6_kindFor_22 : decode cX6_kindFor 22 = .ok (.iload_n 1, 1) := by decide +kernel
theorem dX6_kindFor_23 : decode cX6_kindFor 23 = .ok (.iconst 0, 1) := by decide +kernel
theorem dX6_kindFor_24 : decode cX6_kindFor 24 = .ok (.invokestatic 88, 3) := by decide +kernel
theorem dX6_kindFor_27 : decode cX6_kindFor 27 = .ok (.istore_n 3, 1) := by decide +kernel
theorem dX6_kindFor_28 : decode cX6_kindFor 28 = .ok (.aload_n 0, 1) := by decide +kernel
theorem dX6_kindFor_29 : decode cX6_kindFor 29 = .ok (.getfield 9, 3) := by decide +kernel
theorem dX6_kindFor_32 : decode cX6_kindFor 32 = .ok (.iload_n 3, 1) := by decide +kernel
theorem dX6_kindFor_33 : decode cX6_kindFor 33 = .ok (.iaload, 1) := by decide +kernel
theorem dX6_kindFor_34 : decode cX6_kindFor 34 = .ok (.istore 4, 2) := by decide +kernel
theorem dX6_kindFor_36 : decode cX6_kindFor 36 = .ok (.iconst 0, 1) := by decide +kernel
theorem dX6_kindFor_37 : decode cX6_kindFor 37 = .ok (.istore 5, 2) := by decide +kernel
theorem dX6_kindFor_39 : decode cX6_kindFor 39 = .ok (.iconst (-1), 1) := by decide +kernel
theorem dX6_kindFor_40 : decode cX6_kindFor 40 = .ok (.istore 6, 2) := by decide +kernel
theorem dX6_kindFor_42 : decode cX6_kindFor 42 = .ok (.iconst 0, 1) := by decide +kernel
theorem dX6_kindFor_43 : decode cX6_kindFor 43 = .ok (.istore 7, 2) := by decide +kernel
theorem dX6_kindFor_45 : decode cX6_kindFor 45 = .ok (.iload 7, 2) := by decide +kernel
theorem dX6_kindFor_47 : decode cX6_kindFor 47 = .ok (.bipush 6, 2) := by decide +kernel
theorem dX6_kindFor_49 : decode cX6_kindFor 49 = .ok (.if_icmp .gt 42, 3) := by decide +kernel
theorem dX6_kindFor_52 : decode cX6_kindFor 52 = .ok (.aload_n 0, 1) := by decide +kernel
theorem dX6_kindFor_53 : decode cX6_kindFor 53 = .ok (.getfield 9, 3) := by decide +kernel
theorem dX6_kindFor_56 : decode cX6_kindFor 56 = .ok (.iload_n 3, 1) := by decide +kernel
theorem dX6_kindFor_57 : decode cX6_kindFor 57 = .ok (.iload 7, 2) := by decide +kernel
theorem dX6_kindFor_59 : decode cX6_kindFor 59 = .ok (.iastore, 1) := by decide +kernel
theorem dX6_kindFor_60 : decode cX6_kindFor 60 = .ok (.aload_n 0, 1) := by decide +kernel
theorem dX6_kindFor_61 : decode cX6_kindFor 61 = .ok (.iload_n 1, 1) := by decide +kernel
theorem dX6_kindFor_62 : decode cX6_kindFor 62 = .ok (.bipush 10, 2) := by decide +kernel
theorem dX6_kindFor_64 : decode cX6_kindFor 64 = .ok (.iload_n 2, 1) := by decide +kernel
theorem dX6_kindFor_65 : decode cX6_kindFor 65 = .ok (.invokevirtual 208, 3) := by decide +kernel
theorem dX6_kindFor_68 : decode cX6_kindFor 68 = .ok (.istore 8, 2) := by decide +kernel
theorem dX6_kindFor_70 : decode cX6_kindFor 70 = .ok (.iload 8, 2) := by decide +kernel
theorem dX6_kindFor_72 : decode cX6_kindFor 72 = .ok (.iload 6, 2) := by decide +kernel
theorem dX6_kindFor_74 : decode cX6_kindFor 74 = .ok (.if_icmp .le 11, 3) := by decide +kernel
theorem dX6_kindFor_77 : decode cX6_kindFor 77 = .ok (.iload 7, 2) := by decide +kernel
theorem dX6_kindFor_79 : decode cX6_kindFor 79 = .ok (.istore 5, 2) := by decide +kernel
theorem dX6_kindFor_81 : decode cX6_kindFor 81 = .ok (.iload 8, 2) := by decide +kernel
theorem dX6_kindFor_83 : decode cX6_kindFor 83 = .ok (.istore 6, 2) := by decide +kernel
theorem dX6_kindFor_85 : decode cX6_kindFor 85 = .ok (.iinc 7 1, 3) := by decide +kernel
theorem dX6_kindFor_88 : decode cX6_kindFor 88 = .ok (.goto (-43), 3) := by decide +kernel
theorem dX6_kindFor_91 : decode cX6_kindFor 91 = .ok (.aload_n 0, 1) := by decide +kernel
theorem dX6_kindFor_92 : decode cX6_kindFor 92 = .ok (.getfield 9, 3) := by decide +kernel
theorem dX6_kindFor_95 : decode cX6_kindFor 95 = .ok (.iload_n 3, 1) := by decide +kernel
theorem dX6_kindFor_96 : decode cX6_kindFor 96 = .ok (.iload 4, 2) := by decide +kernel
theorem dX6_kindFor_98 : decode cX6_kindFor 98 = .ok (.iastore, 1) := by decide +kernel
theorem dX6_kindFor_99 : decode cX6_kindFor 99 = .ok (.iload 5, 2) := by decide +kernel
theorem dX6_kindFor_101 : decode cX6_kindFor 101 = .ok (.ireturn, 1) := by decide +kernel
theorem dX6_leadsTo_0 : decode cX6_leadsTo 0 = .ok (.iload_n 2, 1) := by decide +kernel
theorem dX6_leadsTo_1 : decode cX6_leadsTo 1 = .ok (.iconst 2, 1) := by decide +kernel
theorem dX6_leadsTo_2 : decode cX6_leadsTo 2 = .ok (.invokestatic 88, 3) := by decide +kernel
theorem dX6_leadsTo_5 : decode cX6_leadsTo 5 = .ok (.istore 4, 2) := by decide +kernel
theorem dX6_leadsTo_7 : decode cX6_leadsTo 7 = .ok (.aload_n 0, 1) := by decide +kernel
theorem dX6_leadsTo_8 : decode cX6_leadsTo 8 = .ok (.getfield 9, 3) := by decide +kernel
theorem dX6_leadsTo_11 : decode cX6_leadsTo 11 = .ok (.iload 4, 2) := by decide +kernel
theorem dX6_leadsTo_13 : decode cX6_leadsTo 13 = .ok (.iaload, 1) := by decide +kernel
theorem dX6_leadsTo_14 : decode cX6_leadsTo 14 = .ok (.istore 5, 2) := by decide +kernel
theorem dX6_leadsTo_16 : decode cX6_leadsTo 16 = .ok (.iconst 0, 1) := by decide +kernel
theorem dX6_leadsTo_17 : decode cX6_leadsTo 17 = .ok (.istore 6, 2) := by decide +kernel
theorem dX6_leadsTo_19 : decode cX6_leadsTo 19 = .ok (.iload 6, 2) := by decide +kernel
theorem dX6_leadsTo_21 : decode cX6_leadsTo 21 = .ok (.bipush 12, 2) := by decide +kernel
theorem dX6_leadsTo_23 : decode cX6_leadsTo 23 = .ok (.if_icmp .ge 37, 3) := by decide +kernel
theorem dX6_leadsTo_26 : decode cX6_leadsTo 26 = .ok (.iload_n 1, 1) := by decide +kernel
theorem dX6_leadsTo_27 : decode cX6_leadsTo 27 = .ok (.iload 6, 2) := by decide +kernel
theorem dX6_leadsTo_29 : decode cX6_leadsTo 29 = .ok (.ishr, 1) := by decide +kernel
theorem dX6_leadsTo_30 : decode cX6_leadsTo 30 = .ok (.iconst 1, 1) := by decide +kernel
theorem dX6_leadsTo_31 : decode cX6_leadsTo 31 = .ok (.iand, 1) := by decide +kernel
theorem dX6_leadsTo_32 : decode cX6_leadsTo 32 = .ok (.iconst 1, 1) := by decide +kernel
theorem dX6_leadsTo_33 : decode cX6_leadsTo 33 = .ok (.if_icmp .ne 21, 3) := by decide +kernel
theorem dX6_leadsTo_36 : decode cX6_leadsTo 36 = .ok (.aload_n 0, 1) := by decide +kernel
theorem dX6_leadsTo_37 : decode cX6_leadsTo 37 = .ok (.iload_n 2, 1) := by decide +kernel
theorem dX6_leadsTo_38 : decode cX6_leadsTo 38 = .ok (.iload 6, 2) := by decide +kernel
theorem dX6_leadsTo_40 : decode cX6_leadsTo 40 = .ok (.invokevirtual 146, 3) := by decide +kernel
theorem dX6_leadsTo_43 : decode cX6_leadsTo 43 = .ok (.ifCond .eq 11, 3) := by decide +kernel
theorem dX6_leadsTo_46 : decode cX6_leadsTo 46 = .ok (.aload_n 0, 1) := by decide +kernel
theorem dX6_leadsTo_47 : decode cX6_leadsTo 47 = .ok (.iload_n 2, 1) := by decide +kernel
theorem dX6_leadsTo_48 : decode cX6_leadsTo 48 = .ok (.iload 6, 2) := by decide +kernel
theorem dX6_leadsTo_50 : decode cX6_leadsTo 50 = .ok (.invokevirtual 159, 3) := by decide +kernel
theorem dX6_leadsTo_53 : decode cX6_leadsTo 53 = .ok (.pop, 1) := by decide +kernel
theorem dX6_leadsTo_54 : decode cX6_leadsTo 54 = .ok (.iinc 6 1, 3) := by decide +kernel
theorem dX6_leadsTo_57 : decode cX6_leadsTo 57 = .ok (.goto (-38), 3) := by decide +kernel
theorem dX6_leadsTo_60 : decode cX6_leadsTo 60 = .ok (.aload_n 0, 1) := by decide +kernel
theorem dX6_leadsTo_61 : decode cX6_leadsTo 61 = .ok (.iload_n 2, 1) := by decide +kernel
theorem dX6_leadsTo_62 : decode cX6_leadsTo 62 = .ok (.iload_n 3, 1) := by decide +kernel
theorem dX6_leadsTo_63 : decode cX6_leadsTo 63 = .ok (.invokevirtual 104, 3) := by decide +kernel
theorem dX6_leadsTo_66 : decode cX6_leadsTo 66 = .ok (.istore 6, 2) := by decide +kernel
theorem dX6_leadsTo_68 : decode cX6_leadsTo 68 = .ok (.aload_n 0, 1) := by decide +kernel
theorem dX6_leadsTo_69 : decode cX6_leadsTo 69 = .ok (.getfield 9, 3) := by decide +kernel
theorem dX6_leadsTo_72 : decode cX6_leadsTo 72 = .ok (.iload 4, 2) := by decide +kernel
theorem dX6_leadsTo_74 : decode cX6_leadsTo 74 = .ok (.iload 5, 2) := by decide +kernel
theorem dX6_leadsTo_76 : decode cX6_leadsTo 76 = .ok (.iastore, 1) := by decide +kernel
theorem dX6_leadsTo_77 : decode cX6_leadsTo 77 = .ok (.iload 6, 2) := by decide +kernel
theorem dX6_leadsTo_79 : decode cX6_leadsTo 79 = .ok (.ireturn, 1) := by decide +kernel
theorem dX6_pathTo_0 : decode cX6_pathTo 0 = .ok (.aload_n 0, 1) := by decide +kernel
theorem dX6_pathTo_1 : decode cX6_pathTo 1 = .ok (.iload_n 1, 1) := by decide +kernel
theorem dX6_pathTo_2 : decode cX6_pathTo 2 = .ok (.invokevirtual 137, 3) := by decide +kernel
theorem dX6_pathTo_5 : decode cX6_pathTo 5 = .ok (.ifCond .eq 10, 3) := by decide +kernel
theorem dX6_pathTo_8 : decode cX6_pathTo 8 = .ok (.iload_n 2, 1) := by decide +kernel
theorem dX6_pathTo_9 : decode cX6_pathTo 9 = .ok (.invokestatic 85, 3) := by decide +kernel
theorem dX6_pathTo_12 : decode cX6_pathTo 12 = .ok (.ifCond .ne 10, 3) := by decide +kernel
theorem dX6_pathTo_15 : decode cX6_pathTo 15 = .ok (.aload_n 0, 1) := by decide +kernel
theorem dX6_pathTo_16 : decode cX6_pathTo 16 = .ok (.ldc 60, 2) := by decide +kernel
theorem dX6_pathTo_18 : decode cX6_pathTo 18 = .ok (.invokevirtual 66, 3) := by decide +kernel
theorem dX6_pathTo_21 : decode cX6_pathTo 21 = .ok (.ireturn, 1) := by decide +kernel
theorem dX6_pathTo_22 : decode cX6_pathTo 22 = .ok (.iconst (-1), 1) := by decide +kernel
theorem dX6_pathTo_23 : decode cX6_pathTo 23 = .ok (.istore_n 3, 1) := by decide +kernel
theorem dX6_pathTo_24 : decode cX6_pathTo 24 = .ok (.sipush 4095, 3) := by decide +kernel
theorem dX6_pathTo_27 : decode cX6_pathTo 27 = .ok (.istore 4, 2) := by decide +kernel
theorem dX6_pathTo_29 : decode cX6_pathTo 29 = .ok (.iload 4, 2) := by decide +kernel
theorem dX6_pathTo_31 : decode cX6_pathTo 31 = .ok (.ifCond .lt 43, 3) := by decide +kernel
theorem dX6_pathTo_34 : decode cX6_pathTo 34 = .ok (.iload_n 3, 1) := by decide +kernel
theorem dX6_pathTo_35 : decode cX6_pathTo 35 = .ok (.ifCond .lt 15, 3) := by decide +kernel
theorem dX6_pathTo_38 : decode cX6_pathTo 38 = .ok (.iload 4, 2) := by decide +kernel
theorem dX6_pathTo_40 : decode cX6_pathTo 40 = .ok (.invokestatic 111, 3) := by decide +kernel
theorem dX6_pathTo_43 : decode cX6_pathTo 43 = .ok (.iload_n 3, 1) := by decide +kernel
theorem dX6_pathTo_44 : decode cX6_pathTo 44 = .ok (.invokestatic 111, 3) := by decide +kernel
theorem dX6_pathTo_47 : decode cX6_pathTo 47 = .ok (.if_icmp .gt 19, 3) := by decide +kernel
theorem dX6_pathTo_50 : decode cX6_pathTo 50 = .ok (.aload_n 0, 1) := by decide +kernel
theorem dX6_pathTo_51 : decode cX6_pathTo 51 = .ok (.iload 4, 2) := by decide +kernel
theorem dX6_pathTo_53 : decode cX6_pathTo 53 = .ok (.iload_n 1, 1) := by decide +kernel
theorem dX6_pathTo_54 : decode cX6_pathTo 54 = .ok (.iload_n 2, 1) := by decide +kernel
theorem dX6_pathTo_55 : decode cX6_pathTo 55 = .ok (.invokevirtual 218, 3) := by decide +kernel
theorem dX6_pathTo_58 : decode cX6_pathTo 58 = .ok (.ifCond .eq 8, 3) := by decide +kernel
theorem dX6_pathTo_61 : decode cX6_pathTo 61 = .ok (.iload 4, 2) := by decide +kernel
theorem dX6_pathTo_63 : decode cX6_pathTo 63 = .ok (.goto 4, 3) := by decide +kernel
theorem dX6_pathTo_66 : decode cX6_pathTo 66 = .ok (.iload_n 3, 1) := by decide +kernel
theorem dX6_pathTo_67 : decode cX6_pathTo 67 = .ok (.istore_n 3, 1) := by decide +kernel
theorem dX6_pathTo_68 : decode cX6_pathTo 68 = .ok (.iinc 4 (-1), 3) := by decide +kernel
theorem dX6_pathTo_71 : decode cX6_pathTo 71 = .ok (.goto (-42), 3) := by decide +kernel
theorem dX6_pathTo_74 : decode cX6_pathTo 74 = .ok (.aload_n 0, 1) := by decide +kernel
theorem dX6_pathTo_75 : decode cX6_pathTo 75 = .ok (.iload_n 3, 1) := by decide +kernel
theorem dX6_pathTo_76 : decode cX6_pathTo 76 = .ok (.invokevirtual 155, 3) := by decide +kernel
theorem dX6_pathTo_79 : decode cX6_pathTo 79 = .ok (.ireturn, 1) := by decide +kernel
theorem dX6_nobodyLeaves_0 : decode cX6_nobodyLeaves 0 = .ok (.aload_n 0, 1) := by decide +kernel
theorem dX6_nobodyLeaves_1 : decode cX6_nobodyLeaves 1 = .ok (.getfield 9, 3) := by decide +kernel
theorem dX6_nobodyLeaves_4 : decode cX6_nobodyLeaves 4 = .ok (.iconst 3, 1) := by decide +kernel
theorem dX6_nobodyLeaves_5 : decode cX6_nobodyLeaves 5 = .ok (.iaload, 1) := by decide +kernel
theorem dX6_nobodyLeaves_6 : decode cX6_nobodyLeaves 6 = .ok (.istore_n 3, 1) := by decide +kernel
theorem dX6_nobodyLeaves_7 : decode cX6_nobodyLeaves 7 = .ok (.aload_n 0, 1) := by decide +kernel
theorem dX6_nobodyLeaves_8 : decode cX6_nobodyLeaves 8 = .ok (.getfield 9, 3) := by decide +kernel
theorem dX6_nobodyLeaves_11 : decode cX6_nobodyLeaves 11 = .ok (.aload_n 0, 1) := by decide +kernel
theorem dX6_nobodyLeaves_12 : decode cX6_nobodyLeaves 12 = .ok (.getfield 16, 3) := by decide +kernel
theorem dX6_nobodyLeaves_15 : decode cX6_nobodyLeaves 15 = .ok (.invokestatic 61, 3) := by decide +kernel
theorem dX6_nobodyLeaves_18 : decode cX6_nobodyLeaves 18 = .ok (.iconst 0, 1) := by decide +kernel
theorem dX6_nobodyLeaves_19 : decode cX6_nobodyLeaves 19 = .ok (.istore 4, 2) := by decide +kernel
theorem dX6_nobodyLeaves_21 : decode cX6_nobodyLeaves 21 = .ok (.iload 4, 2) := by decide +kernel
theorem dX6_nobodyLeaves_23 : decode cX6_nobodyLeaves 23 = .ok (.aload_n 0, 1) := by decide +kernel
theorem dX6_nobodyLeaves_24 : decode cX6_nobodyLeaves 24 = .ok (.getfield 9, 3) := by decide +kernel
theorem dX6_nobodyLeaves_27 : decode cX6_nobodyLeaves 27 = .ok (.iconst 1, 1) := by decide +kernel
theorem dX6_nobodyLeaves_28 : decode cX6_nobodyLeaves 28 = .ok (.iaload, 1) := by decide +kernel
theorem dX6_nobodyLeaves_29 : decode cX6_nobodyLeaves 29 = .ok (.if_icmp .ge 31, 3) := by decide +kernel
theorem dX6_nobodyLeaves_32 : decode cX6_nobodyLeaves 32 = .ok (.iload_n 1, 1) := by decide +kernel
theorem dX6_nobodyLeaves_33 : decode cX6_nobodyLeaves 33 = .ok (.iload 4, 2) := by decide +kernel
theorem dX6_nobodyLeaves_35 : decode cX6_nobodyLeaves 35 = .ok (.ishr, 1) := by decide +kernel
theorem dX6_nobodyLeaves_36 : decode cX6_nobodyLeaves 36 = .ok (.iconst 1, 1) := by decide +kernel
theorem dX6_nobodyLeaves_37 : decode cX6_nobodyLeaves 37 = .ok (.iand, 1) := by decide +kernel
theorem dX6_nobodyLeaves_38 : decode cX6_nobodyLeaves 38 = .ok (.iconst 1, 1) := by decide +kernel
theorem dX6_nobodyLeaves_39 : decode cX6_nobodyLeaves 39 = .ok (.if_icmp .ne 15, 3) := by decide +kernel
theorem dX6_nobodyLeaves_42 : decode cX6_nobodyLeaves 42 = .ok (.aload_n 0, 1) := by decide +kernel
theorem dX6_nobodyLeaves_43 : decode cX6_nobodyLeaves 43 = .ok (.getfield 9, 3) := by decide +kernel
theorem dX6_nobodyLeaves_46 : decode cX6_nobodyLeaves 46 = .ok (.iload 4, 2) := by decide +kernel
theorem dX6_nobodyLeaves_48 : decode cX6_nobodyLeaves 48 = .ok (.iconst 5, 1) := by decide +kernel
theorem dX6_nobodyLeaves_49 : decode cX6_nobodyLeaves 49 = .ok (.invokestatic 88, 3) := by decide +kernel
theorem dX6_nobodyLeaves_52 : decode cX6_nobodyLeaves 52 = .ok (.iconst 1, 1) := by decide +kernel
theorem dX6_nobodyLeaves_53 : decode cX6_nobodyLeaves 53 = .ok (.iastore, 1) := by decide +kernel
theorem dX6_nobodyLeaves_54 : decode cX6_nobodyLeaves 54 = .ok (.iinc 4 1, 3) := by decide +kernel
theorem dX6_nobodyLeaves_57 : decode cX6_nobodyLeaves 57 = .ok (.goto (-36), 3) := by decide +kernel
theorem dX6_nobodyLeaves_60 : decode cX6_nobodyLeaves 60 = .ok (.aload_n 0, 1) := by decide +kernel
theorem dX6_nobodyLeaves_61 : decode cX6_nobodyLeaves 61 = .ok (.iload_n 2, 1) := by decide +kernel
theorem dX6_nobodyLeaves_62 : decode cX6_nobodyLeaves 62 = .ok (.invokevirtual 184, 3) := by decide +kernel
theorem dX6_nobodyLeaves_65 : decode cX6_nobodyLeaves 65 = .ok (.aload_n 0, 1) := by decide +kernel
theorem dX6_nobodyLeaves_66 : decode cX6_nobodyLeaves 66 = .ok (.getfield 9, 3) := by decide +kernel
theorem dX6_nobodyLeaves_69 : decode cX6_nobodyLeaves 69 = .ok (.iconst 3, 1) := by decide +kernel
theorem dX6_nobodyLeaves_70 : decode cX6_nobodyLeaves 70 = .ok (.iaload, 1) := by decide +kernel
theorem dX6_nobodyLeaves_71 : decode cX6_nobodyLeaves 71 = .ok (.iload_n 3, 1) := by decide +kernel
theorem dX6_nobodyLeaves_72 : decode cX6_nobodyLeaves 72 = .ok (.if_icmp .ne 7, 3) := by decide +kernel
theorem dX6_nobodyLeaves_75 : decode cX6_nobodyLeaves 75 = .ok (.iconst 1, 1) := by decide +kernel
theorem dX6_nobodyLeaves_76 : decode cX6_nobodyLeaves 76 = .ok (.goto 4, 3) := by decide +kernel
theorem dX6_nobodyLeaves_79 : decode cX6_nobodyLeaves 79 = .ok (.iconst 0, 1) := by decide +kernel
theorem dX6_nobodyLeaves_80 : decode cX6_nobodyLeaves 80 = .ok (.istore 4, 2) := by decide +kernel
theorem dX6_nobodyLeaves_82 : decode cX6_nobodyLeaves 82 = .ok (.aload_n 0, 1) := by decide +kernel
theorem dX6_nobodyLeaves_83 : decode cX6_nobodyLeaves 83 = .ok (.getfield 16, 3) := by decide +kernel
theorem dX6_nobodyLeaves_86 : decode cX6_nobodyLeaves 86 = .ok (.aload_n 0, 1) := by decide +kernel
theorem dX6_nobodyLeaves_87 : decode cX6_nobodyLeaves 87 = .ok (.getfield 9, 3) := by decide +kernel
theorem dX6_nobodyLeaves_90 : decode cX6_nobodyLeaves 90 = .ok (.invokestatic 61, 3) := by decide +kernel
theorem dX6_nobodyLeaves_93 : decode cX6_nobodyLeaves 93 = .ok (.iload 4, 2) := by decide +kernel
theorem dX6_nobodyLeaves_95 : decode cX6_nobodyLeaves 95 = .ok (.ireturn, 1) := by decide +kernel
theorem dX6_seal_0 : decode cX6_seal 0 = .ok (.iload_n 1, 1) := by decide +kernel
theorem dX6_seal_1 : decode cX6_seal 1 = .ok (.iconst 0, 1) := by decide +kernel
theorem dX6_seal_2 : decode cX6_seal 2 = .ok (.bipush 20, 2) := by decide +kernel
theorem dX6_seal_4 : decode cX6_seal 4 = .ok (.invokestatic 70, 3) := by decide +kernel
theorem dX6_seal_7 : decode cX6_seal 7 = .ok (.ifCond .ne 10, 3) := by decide +kernel
theorem dX6_seal_10 : decode cX6_seal 10 = .ok (.aload_n 0, 1) := by decide +kernel
theorem dX6_seal_11 : decode cX6_seal 11 = .ok (.ldc 60, 2) := by decide +kernel
theorem dX6_seal_13 : decode cX6_seal 13 = .ok (.invokevirtual 66, 3) := by decide +kernel
theorem dX6_seal_16 : decode cX6_seal 16 = .ok (.ireturn, 1) := by decide +kernel
theorem dX6_seal_17 : decode cX6_seal 17 = .ok (.iconst (-1), 1) := by decide +kernel
theorem dX6_seal_18 : decode cX6_seal 18 = .ok (.istore_n 2, 1) := by decide +kernel
theorem dX6_seal_19 : decode cX6_seal 19 = .ok (.iconst 1, 1) := by decide +kernel
theorem dX6_seal_20 : decode cX6_seal 20 = .ok (.aload_n 0, 1) := by decide +kernel
theorem dX6_seal_21 : decode cX6_seal 21 = .ok (.getfield 9, 3) := by decide +kernel
theorem dX6_seal_24 : decode cX6_seal 24 = .ok (.iconst 1, 1) := by decide +kernel
theorem dX6_seal_25 : decode cX6_seal 25 = .ok (.iaload, 1) := by decide +kernel
theorem dX6_seal_26 : decode cX6_seal 26 = .ok (.ishl, 1) := by decide +kernel
theorem dX6_seal_27 : decode cX6_seal 27 = .ok (.iconst 1, 1) := by decide +kernel
theorem dX6_seal_28 : decode cX6_seal 28 = .ok (.isub, 1) := by decide +kernel
theorem dX6_seal_29 : decode cX6_seal 29 = .ok (.istore_n 3, 1) := by decide +kernel
theorem dX6_seal_30 : decode cX6_seal 30 = .ok (.iload_n 3, 1) := by decide +kernel
theorem dX6_seal_31 : decode cX6_seal 31 = .ok (.ifCond .lt 39, 3) := by decide +kernel
theorem dX6_seal_34 : decode cX6_seal 34 = .ok (.iload_n 2, 1) := by decide +kernel
theorem dX6_seal_35 : decode cX6_seal 35 = .ok (.ifCond .lt 14, 3) := by decide +kernel
theorem dX6_seal_38 : decode cX6_seal 38 = .ok (.iload_n 3, 1) := by decide +kernel
theorem dX6_seal_39 : decode cX6_seal 39 = .ok (.invokestatic 111, 3) := by decide +kernel
theorem dX6_seal_42 : decode cX6_seal 42 = .ok (.iload_n 2, 1) := by decide +kernel
theorem dX6_seal_43 : decode cX6_seal 43 = .ok (.invokestatic 111, 3) := by decide +kernel
theorem dX6_seal_46 : decode cX6_seal 46 = .ok (.if_icmp .gt 16, 3) := by decide +kernel
theorem dX6_seal_49 : decode cX6_seal 49 = .ok (.aload_n 0, 1) := by decide +kernel
theorem dX6_seal_50 : decode cX6_seal 50 = .ok (.iload_n 3, 1) := by decide +kernel
theorem dX6_seal_51 : decode cX6_seal 51 = .ok (.iload_n 1, 1) := by decide +kernel
theorem dX6_seal_52 : decode cX6_seal 52 = .ok (.invokevirtual 221, 3) := by decide +kernel
theorem dX6_seal_55 : decode cX6_seal 55 = .ok (.ifCond .eq 7, 3) := by decide +kernel
theorem dX6_seal_58 : decode cX6_seal 58 = .ok (.iload_n 3, 1) := by decide +kernel
theorem dX6_seal_59 : decode cX6_seal 59 = .ok (.goto 4, 3) := by decide +kernel
theorem dX6_seal_62 : decode cX6_seal 62 = .ok (.iload_n 2, 1) := by decide +kernel
theorem dX6_seal_63 : decode cX6_seal 63 = .ok (.istore_n 2, 1) := by decide +kernel
theorem dX6_seal_64 : decode cX6_seal 64 = .ok (.iinc 3 (-1), 3) := by decide +kernel
theorem dX6_seal_67 : decode cX6_seal 67 = .ok (.goto (-37), 3) := by decide +kernel
theorem dX6_seal_70 : decode cX6_seal 70 = .ok (.aload_n 0, 1) := by decide +kernel
theorem dX6_seal_71 : decode cX6_seal 71 = .ok (.iload_n 2, 1) := by decide +kernel
theorem dX6_seal_72 : decode cX6_seal 72 = .ok (.invokevirtual 155, 3) := by decide +kernel
theorem dX6_seal_75 : decode cX6_seal 75 = .ok (.ireturn, 1) := by decide +kernel
theorem dX6_lacks_0 : decode cX6_lacks 0 = .ok (.iload_n 1, 1) := by decide +kernel
theorem dX6_lacks_1 : decode cX6_lacks 1 = .ok (.invokestatic 224, 3) := by decide +kernel
theorem dX6_lacks_4 : decode cX6_lacks 4 = .ok (.ifCond .ne 8, 3) := by decide +kernel
theorem dX6_lacks_7 : decode cX6_lacks 7 = .ok (.ldc 60, 2) := by decide +kernel
theorem dX6_lacks_9 : decode cX6_lacks 9 = .ok (.goto 27, 3) := by decide +kernel
theorem dX6_lacks_12 : decode cX6_lacks 12 = .ok (.aload_n 0, 1) := by decide +kernel
theorem dX6_lacks_13 : decode cX6_lacks 13 = .ok (.getfield 48, 3) := by decide +kernel
theorem dX6_lacks_16 : decode cX6_lacks 16 = .ok (.iload_n 1, 1) := by decide +kernel
theorem dX6_lacks_17 : decode cX6_lacks 17 = .ok (.iaload, 1) := by decide +kernel
theorem dX6_lacks_18 : decode cX6_lacks 18 = .ok (.ifCond .ne 8, 3) := by decide +kernel
theorem dX6_lacks_21 : decode cX6_lacks 21 = .ok (.ldc 227, 2) := by decide +kernel
theorem dX6_lacks_23 : decode cX6_lacks 23 = .ok (.goto 13, 3) := by decide +kernel
theorem dX6_lacks_26 : decode cX6_lacks 26 = .ok (.iload_n 2, 1) := by decide +kernel
theorem dX6_lacks_27 : decode cX6_lacks 27 = .ok (.ifCond .eq 7, 3) := by decide +kernel
theorem dX6_lacks_30 : decode cX6_lacks 30 = .ok (.iconst 0, 1) := by decide +kernel
theorem dX6_lacks_31 : decode cX6_lacks 31 = .ok (.goto 5, 3) := by decide +kernel
theorem dX6_lacks_34 : decode cX6_lacks 34 = .ok (.ldc 60, 2) := by decide +kernel
theorem dX6_lacks_36 : decode cX6_lacks 36 = .ok (.ireturn, 1) := by decide +kernel
theorem dX6_isSo_0 : decode cX6_isSo 0 = .ok (.aload_n 0, 1) := by decide +kernel
theorem dX6_isSo_1 : decode cX6_isSo 1 = .ok (.getfield 9, 3) := by decide +kernel
theorem dX6_isSo_4 : decode cX6_isSo 4 = .ok (.aload_n 0, 1) := by decide +kernel
theorem dX6_isSo_5 : decode cX6_isSo 5 = .ok (.getfield 16, 3) := by decide +kernel
theorem dX6_isSo_8 : decode cX6_isSo 8 = .ok (.invokestatic 61, 3) := by decide +kernel
theorem dX6_isSo_11 : decode cX6_isSo 11 = .ok (.iconst 1, 1) := by decide +kernel
theorem dX6_isSo_12 : decode cX6_isSo 12 = .ok (.istore_n 3, 1) := by decide +kernel
theorem dX6_isSo_13 : decode cX6_isSo 13 = .ok (.iconst 0, 1) := by decide +kernel
theorem dX6_isSo_14 : decode cX6_isSo 14 = .ok (.istore 4, 2) := by decide +kernel
theorem dX6_isSo_16 : decode cX6_isSo 16 = .ok (.iload 4, 2) := by decide +kernel
theorem dX6_isSo_18 : decode cX6_isSo 18 = .ok (.aload_n 0, 1) := by decide +kernel
theorem dX6_isSo_19 : decode cX6_isSo 19 = .ok (.getfield 51, 3) := by decide +kernel
theorem dX6_isSo_22 : decode cX6_isSo 22 = .ok (.iload_n 1, 1) := by decide +kernel
theorem dX6_isSo_23 : decode cX6_isSo 23 = .ok (.iaload, 1) := by decide +kernel
theorem dX6_isSo_24 : decode cX6_isSo 24 = .ok (.if_icmp .ge 53, 3) := by decide +kernel
theorem dX6_isSo_27 : decode cX6_isSo 27 = .ok (.iload_n 3, 1) := by decide +kernel
theorem dX6_isSo_28 : decode cX6_isSo 28 = .ok (.ifCond .eq 49, 3) := by decide +kernel
theorem dX6_isSo_31 : decode cX6_isSo 31 = .ok (.aload_n 0, 1) := by decide +kernel
theorem dX6_isSo_32 : decode cX6_isSo 32 = .ok (.getfield 54, 3) := by decide +kernel
theorem dX6_isSo_35 : decode cX6_isSo 35 = .ok (.bipush 40, 2) := by decide +kernel
theorem dX6_isSo_37 : decode cX6_isSo 37 = .ok (.iload_n 1, 1) := by decide +kernel
theorem dX6_isSo_38 : decode cX6_isSo 38 = .ok (.imul, 1) := by decide +kernel
theorem dX6_isSo_39 : decode cX6_isSo 39 = .ok (.iload 4, 2) := by decide +kernel
theorem dX6_isSo_41 : decode cX6_isSo 41 = .ok (.iadd, 1) := by decide +kernel
theorem dX6_isSo_42 : decode cX6_isSo 42 = .ok (.iaload, 1) := by decide +kernel
theorem dX6_isSo_43 : decode cX6_isSo 43 = .ok (.istore 5, 2) := by decide +kernel
theorem dX6_isSo_45 : decode cX6_isSo 45 = .ok (.iload 5, 2) := by decide +kernel
theorem dX6_isSo_47 : decode cX6_isSo 47 = .ok (.iconst (-1), 1) := by decide +kernel
theorem dX6_isSo_48 : decode cX6_isSo 48 = .ok (.if_icmp .eq 13, 3) := by decide +kernel
theorem dX6_isSo_51 : decode cX6_isSo 51 = .ok (.iload 5, 2) := by decide +kernel
theorem dX6_isSo_53 : decode cX6_isSo 53 = .ok (.aload_n 0, 1) := by decide +kernel
theorem dX6_isSo_54 : decode cX6_isSo 54 = .ok (.iload_n 2, 1) := by decide +kernel
theorem dX6_isSo_55 : decode cX6_isSo 55 = .ok (.invokevirtual 134, 3) := by decide +kernel
theorem dX6_isSo_58 : decode cX6_isSo 58 = .ok (.if_icmp .ne 7, 3) := by decide +kernel
theorem dX6_isSo_61 : decode cX6_isSo 61 = .ok (.iconst 1, 1) := by decide +kernel
theorem dX6_isSo_62 : decode cX6_isSo 62 = .ok (.goto 4, 3) := by decide +kernel
theorem dX6_isSo_65 : decode cX6_isSo 65 = .ok (.iconst 0, 1) := by decide +kernel
theorem dX6_isSo_66 : decode cX6_isSo 66 = .ok (.istore_n 3, 1) := by decide +kernel
theorem dX6_isSo_67 : decode cX6_isSo 67 = .ok (.aload_n 0, 1) := by decide +kernel
theorem dX6_isSo_68 : decode cX6_isSo 68 = .ok (.invokevirtual 181, 3) := by decide +kernel
theorem dX6_isSo_71 : decode cX6_isSo 71 = .ok (.iinc 4 1, 3) := by decide +kernel
theorem dX6_isSo_74 : decode cX6_isSo 74 = .ok (.goto (-58), 3) := by decide +kernel
theorem dX6_isSo_77 : decode cX6_isSo 77 = .ok (.aload_n 0, 1) := by decide +kernel
theorem dX6_isSo_78 : decode cX6_isSo 78 = .ok (.getfield 16, 3) := by decide +kernel
theorem dX6_isSo_81 : decode cX6_isSo 81 = .ok (.aload_n 0, 1) := by decide +kernel
theorem dX6_isSo_82 : decode cX6_isSo 82 = .ok (.getfield 9, 3) := by decide +kernel
theorem dX6_isSo_85 : decode cX6_isSo 85 = .ok (.invokestatic 61, 3) := by decide +kernel
theorem dX6_isSo_88 : decode cX6_isSo 88 = .ok (.iload_n 3, 1) := by decide +kernel
theorem dX6_isSo_89 : decode cX6_isSo 89 = .ok (.ireturn, 1) := by decide +kernel
theorem dX6_fitting_0 : decode cX6_fitting 0 = .ok (.aload_n 0, 1) := by decide +kernel
theorem dX6_fitting_1 : decode cX6_fitting 1 = .ok (.getfield 9, 3) := by decide +kernel
theorem dX6_fitting_4 : decode cX6_fitting 4 = .ok (.iload_n 3, 1) := by decide +kernel
theorem dX6_fitting_5 : decode cX6_fitting 5 = .ok (.iaload, 1) := by decide +kernel
theorem dX6_fitting_6 : decode cX6_fitting 6 = .ok (.istore 5, 2) := by decide +kernel
theorem dX6_fitting_8 : decode cX6_fitting 8 = .ok (.iconst 0, 1) := by decide +kernel
theorem dX6_fitting_9 : decode cX6_fitting 9 = .ok (.istore 6, 2) := by decide +kernel
theorem dX6_fitting_11 : decode cX6_fitting 11 = .ok (.iconst 0, 1) := by decide +kernel
theorem dX6_fitting_12 : decode cX6_fitting 12 = .ok (.istore 7, 2) := by decide +kernel
theorem dX6_fitting_14 : decode cX6_fitting 14 = .ok (.iload 7, 2) := by decide +kernel
theorem dX6_fitting_16 : decode cX6_fitting 16 = .ok (.iload 4, 2) := by decide +kernel
theorem dX6_fitting_18 : decode cX6_fitting 18 = .ok (.if_icmp .ge 39, 3) := by decide +kernel
theorem dX6_fitting_21 : decode cX6_fitting 21 = .ok (.aload_n 0, 1) := by decide +kernel
theorem dX6_fitting_22 : decode cX6_fitting 22 = .ok (.getfield 9, 3) := by decide +kernel
theorem dX6_fitting_25 : decode cX6_fitting 25 = .ok (.iload_n 3, 1) := by decide +kernel
theorem dX6_fitting_26 : decode cX6_fitting 26 = .ok (.iload 7, 2) := by decide +kernel
theorem dX6_fitting_28 : decode cX6_fitting 28 = .ok (.iastore, 1) := by decide +kernel
theorem dX6_fitting_29 : decode cX6_fitting 29 = .ok (.iload 6, 2) := by decide +kernel
theorem dX6_fitting_31 : decode cX6_fitting 31 = .ok (.aload_n 0, 1) := by decide +kernel
theorem dX6_fitting_32 : decode cX6_fitting 32 = .ok (.iload_n 1, 1) := by decide +kernel
theorem dX6_fitting_33 : decode cX6_fitting 33 = .ok (.iload_n 2, 1) := by decide +kernel
theorem dX6_fitting_34 : decode cX6_fitting 34 = .ok (.invokevirtual 228, 3) := by decide +kernel
theorem dX6_fitting_37 : decode cX6_fitting 37 = .ok (.ifCond .eq 10, 3) := by decide +kernel
theorem dX6_fitting_40 : decode cX6_fitting 40 = .ok (.iconst 1, 1) := by decide +kernel
theorem dX6_fitting_41 : decode cX6_fitting 41 = .ok (.iload 7, 2) := by decide +kernel
theorem dX6_fitting_43 : decode cX6_fitting 43 = .ok (.ishl, 1) := by decide +kernel
theorem dX6_fitting_44 : decode cX6_fitting 44 = .ok (.goto 4, 3) := by decide +kernel
theorem dX6_fitting_47 : decode cX6_fitting 47 = .ok (.iconst 0, 1) := by decide +kernel
theorem dX6_fitting_48 : decode cX6_fitting 48 = .ok (.ior, 1) := by decide +kernel
theorem dX6_fitting_49 : decode cX6_fitting 49 = .ok (.istore 6, 2) := by decide +kernel
theorem dX6_fitting_51 : decode cX6_fitting 51 = .ok (.iinc 7 1, 3) := by decide +kernel
theorem dX6_fitting_54 : decode cX6_fitting 54 = .ok (.goto (-40), 3) := by decide +kernel
theorem dX6_fitting_57 : decode cX6_fitting 57 = .ok (.aload_n 0, 1) := by decide +kernel
theorem dX6_fitting_58 : decode cX6_fitting 58 = .ok (.getfield 9, 3) := by decide +kernel
theorem dX6_fitting_61 : decode cX6_fitting 61 = .ok (.iload_n 3, 1) := by decide +kernel
theorem dX6_fitting_62 : decode cX6_fitting 62 = .ok (.iload 5, 2) := by decide +kernel
theorem dX6_fitting_64 : decode cX6_fitting 64 = .ok (.iastore, 1) := by decide +kernel
theorem dX6_fitting_65 : decode cX6_fitting 65 = .ok (.iload 6, 2) := by decide +kernel
theorem dX6_fitting_67 : decode cX6_fitting 67 = .ok (.ireturn, 1) := by decide +kernel
theorem dX6_fits_0 : decode cX6_fits 0 = .ok (.aload_n 0, 1) := by decide +kernel
theorem dX6_fits_1 : decode cX6_fits 1 = .ok (.iload_n 1, 1) := by decide +kernel
theorem dX6_fits_2 : decode cX6_fits 2 = .ok (.aload_n 0, 1) := by decide +kernel
theorem dX6_fits_3 : decode cX6_fits 3 = .ok (.iload_n 2, 1) := by decide +kernel
theorem dX6_fits_4 : decode cX6_fits 4 = .ok (.invokevirtual 137, 3) := by decide +kernel
theorem dX6_fits_7 : decode cX6_fits 7 = .ok (.invokevirtual 231, 3) := by decide +kernel
theorem dX6_fits_10 : decode cX6_fits 10 = .ok (.istore_n 3, 1) := by decide +kernel
theorem dX6_fits_11 : decode cX6_fits 11 = .ok (.iload_n 3, 1) := by decide +kernel
theorem dX6_fits_12 : decode cX6_fits 12 = .ok (.ifCond .eq 11, 3) := by decide +kernel
theorem dX6_fits_15 : decode cX6_fits 15 = .ok (.aload_n 0, 1) := by decide +kernel
theorem dX6_fits_16 : decode cX6_fits 16 = .ok (.iload_n 3, 1) := by decide +kernel
theorem dX6_fits_17 : decode cX6_fits 17 = .ok (.invokevirtual 66, 3) := by decide +kernel
theorem dX6_fits_20 : decode cX6_fits 20 = .ok (.goto 18, 3) := by decide +kernel
theorem dX6_fits_23 : decode cX6_fits 23 = .ok (.aload_n 0, 1) := by decide +kernel
theorem dX6_fits_24 : decode cX6_fits 24 = .ok (.iload_n 1, 1) := by decide +kernel
theorem dX6_fits_25 : decode cX6_fits 25 = .ok (.iload_n 2, 1) := by decide +kernel
theorem dX6_fits_26 : decode cX6_fits 26 = .ok (.aload_n 0, 1) := by decide +kernel
theorem dX6_fits_27 : decode cX6_fits 27 = .ok (.invokevirtual 172, 3) := by decide +kernel
theorem dX6_fits_30 : decode cX6_fits 30 = .ok (.bipush 13, 2) := by decide +kernel
theorem dX6_fits_32 : decode cX6_fits 32 = .ok (.invokevirtual 235, 3) := by decide +kernel
theorem dX6_fits_35 : decode cX6_fits 35 = .ok (.invokestatic 111, 3) := by decide +kernel
theorem dX6_fits_38 : decode cX6_fits 38 = .ok (.ireturn, 1) := by decide +kernel
theorem dX6_kinds_0 : decode cX6_kinds 0 = .ok (.aload_n 0, 1) := by decide +kernel
theorem dX6_kinds_1 : decode cX6_kinds 1 = .ok (.iload_n 1, 1) := by decide +kernel
theorem dX6_kinds_2 : decode cX6_kinds 2 = .ok (.aload_n 0, 1) := by decide +kernel
theorem dX6_kinds_3 : decode cX6_kinds 3 = .ok (.iload_n 2, 1) := by decide +kernel
theorem dX6_kinds_4 : decode cX6_kinds 4 = .ok (.invokevirtual 137, 3) := by decide +kernel
theorem dX6_kinds_7 : decode cX6_kinds 7 = .ok (.invokevirtual 231, 3) := by decide +kernel
theorem dX6_kinds_10 : decode cX6_kinds 10 = .ok (.istore_n 3, 1) := by decide +kernel
theorem dX6_kinds_11 : decode cX6_kinds 11 = .ok (.iload_n 3, 1) := by decide +kernel
theorem dX6_kinds_12 : decode cX6_kinds 12 = .ok (.ifCond .eq 11, 3) := by decide +kernel
theorem dX6_kinds_15 : decode cX6_kinds 15 = .ok (.aload_n 0, 1) := by decide +kernel
theorem dX6_kinds_16 : decode cX6_kinds 16 = .ok (.iload_n 3, 1) := by decide +kernel
theorem dX6_kinds_17 : decode cX6_kinds 17 = .ok (.invokevirtual 66, 3) := by decide +kernel
theorem dX6_kinds_20 : decode cX6_kinds 20 = .ok (.goto 16, 3) := by decide +kernel
theorem dX6_kinds_23 : decode cX6_kinds 23 = .ok (.aload_n 0, 1) := by decide +kernel
theorem dX6_kinds_24 : decode cX6_kinds 24 = .ok (.iload_n 1, 1) := by decide +kernel
theorem dX6_kinds_25 : decode cX6_kinds 25 = .ok (.iload_n 2, 1) := by decide +kernel
theorem dX6_kinds_26 : decode cX6_kinds 26 = .ok (.iload_n 2, 1) := by decide +kernel
theorem dX6_kinds_27 : decode cX6_kinds 27 = .ok (.iconst 0, 1) := by decide +kernel
theorem dX6_kinds_28 : decode cX6_kinds 28 = .ok (.invokestatic 88, 3) := by decide +kernel
theorem dX6_kinds_31 : decode cX6_kinds 31 = .ok (.bipush 7, 2) := by decide +kernel
theorem dX6_kinds_33 : decode cX6_kinds 33 = .ok (.invokevirtual 235, 3) := by decide +kernel
theorem dX6_kinds_36 : decode cX6_kinds 36 = .ok (.ireturn, 1) := by decide +kernel
theorem dX6_drawn_0 : decode cX6_drawn 0 = .ok (.aload_n 0, 1) := by decide +kernel
theorem dX6_drawn_1 : decode cX6_drawn 1 = .ok (.getfield 9, 3) := by decide +kernel
theorem dX6_drawn_4 : decode cX6_drawn 4 = .ok (.iconst 2, 1) := by decide +kernel
theorem dX6_drawn_5 : decode cX6_drawn 5 = .ok (.aload_n 0, 1) := by decide +kernel
theorem dX6_drawn_6 : decode cX6_drawn 6 = .ok (.getfield 9, 3) := by decide +kernel
theorem dX6_drawn_9 : decode cX6_drawn 9 = .ok (.iconst 2, 1) := by decide +kernel
theorem dX6_drawn_10 : decode cX6_drawn 10 = .ok (.iaload, 1) := by decide +kernel
theorem dX6_drawn_11 : decode cX6_drawn 11 = .ok (.ldc 239, 2) := by decide +kernel
theorem dX6_drawn_13 : decode cX6_drawn 13 = .ok (.imul, 1) := by decide +kernel
theorem dX6_drawn_14 : decode cX6_drawn 14 = .ok (.sipush 12345, 3) := by decide +kernel
theorem dX6_drawn_17 : decode cX6_drawn 17 = .ok (.iadd, 1) := by decide +kernel
theorem dX6_drawn_18 : decode cX6_drawn 18 = .ok (.iastore, 1) := by decide +kernel
theorem dX6_drawn_19 : decode cX6_drawn 19 = .ok (.aload_n 0, 1) := by decide +kernel
theorem dX6_drawn_20 : decode cX6_drawn 20 = .ok (.getfield 9, 3) := by decide +kernel
theorem dX6_drawn_23 : decode cX6_drawn 23 = .ok (.iconst 2, 1) := by decide +kernel
theorem dX6_drawn_24 : decode cX6_drawn 24 = .ok (.iaload, 1) := by decide +kernel
theorem dX6_drawn_25 : decode cX6_drawn 25 = .ok (.bipush 8, 2) := by decide +kernel
theorem dX6_drawn_27 : decode cX6_drawn 27 = .ok (.iushr, 1) := by decide +kernel
theorem dX6_drawn_28 : decode cX6_drawn 28 = .ok (.ireturn, 1) := by decide +kernel
theorem dX6_chance_0 : decode cX6_chance 0 = .ok (.iload_n 1, 1) := by decide +kernel
theorem dX6_chance_1 : decode cX6_chance 1 = .ok (.iconst 1, 1) := by decide +kernel
theorem dX6_chance_2 : decode cX6_chance 2 = .ok (.bipush 20, 2) := by decide +kernel
theorem dX6_chance_4 : decode cX6_chance 4 = .ok (.invokestatic 70, 3) := by decide +kernel
theorem dX6_chance_7 : decode cX6_chance 7 = .ok (.ifCond .ne 10, 3) := by decide +kernel
theorem dX6_chance_10 : decode cX6_chance 10 = .ok (.aload_n 0, 1) := by decide +kernel
theorem dX6_chance_11 : decode cX6_chance 11 = .ok (.ldc 60, 2) := by decide +kernel
theorem dX6_chance_13 : decode cX6_chance 13 = .ok (.invokevirtual 66, 3) := by decide +kernel
theorem dX6_chance_16 : decode cX6_chance 16 = .ok (.ireturn, 1) := by decide +kernel
theorem dX6_chance_17 : decode cX6_chance 17 = .ok (.aload_n 0, 1) := by decide +kernel
theorem dX6_chance_18 : decode cX6_chance 18 = .ok (.getfield 9, 3) := by decide +kernel
theorem dX6_chance_21 : decode cX6_chance 21 = .ok (.iconst 0, 1) := by decide +kernel
theorem dX6_chance_22 : decode cX6_chance 22 = .ok (.iaload, 1) := by decide +kernel
theorem dX6_chance_23 : decode cX6_chance 23 = .ok (.iload_n 1, 1) := by decide +kernel
theorem dX6_chance_24 : decode cX6_chance 24 = .ok (.iadd, 1) := by decide +kernel
theorem dX6_chance_25 : decode cX6_chance 25 = .ok (.ldc 180, 2) := by decide +kernel
theorem dX6_chance_27 : decode cX6_chance 27 = .ok (.if_icmp .le 10, 3) := by decide +kernel
theorem dX6_chance_30 : decode cX6_chance 30 = .ok (.aload_n 0, 1) := by decide +kernel
theorem dX6_chance_31 : decode cX6_chance 31 = .ok (.ldc 158, 2) := by decide +kernel
theorem dX6_chance_33 : decode cX6_chance 33 = .ok (.invokevirtual 66, 3) := by decide +kernel
theorem dX6_chance_36 : decode cX6_chance 36 = .ok (.ireturn, 1) := by decide +kernel
theorem dX6_chance_37 : decode cX6_chance 37 = .ok (.iconst 0, 1) := by decide +kernel
theorem dX6_chance_38 : decode cX6_chance 38 = .ok (.istore_n 2, 1) := by decide +kernel
theorem dX6_chance_39 : decode cX6_chance 39 = .ok (.iload_n 2, 1) := by decide +kernel
theorem dX6_chance_40 : decode cX6_chance 40 = .ok (.iload_n 1, 1) := by decide +kernel
theorem dX6_chance_41 : decode cX6_chance 41 = .ok (.if_icmp .ge 63, 3) := by decide +kernel
theorem dX6_chance_44 : decode cX6_chance 44 = .ok (.aload_n 0, 1) := by decide +kernel
theorem dX6_chance_45 : decode cX6_chance 45 = .ok (.invokevirtual 240, 3) := by decide +kernel
theorem dX6_chance_48 : decode cX6_chance 48 = .ok (.bipush 13, 2) := by decide +kernel
theorem dX6_chance_50 : decode cX6_chance 50 = .ok (.irem, 1) := by decide +kernel
theorem dX6_chance_51 : decode cX6_chance 51 = .ok (.istore_n 3, 1) := by decide +kernel
theorem dX6_chance_52 : decode cX6_chance 52 = .ok (.aload_n 0, 1) := by decide +kernel
theorem dX6_chance_53 : decode cX6_chance 53 = .ok (.getfield 9, 3) := by decide +kernel
theorem dX6_chance_56 : decode cX6_chance 56 = .ok (.aload_n 0, 1) := by decide +kernel
theorem dX6_chance_57 : decode cX6_chance 57 = .ok (.invokevirtual 172, 3) := by decide +kernel
theorem dX6_chance_60 : decode cX6_chance 60 = .ok (.iload_n 3, 1) := by decide +kernel
theorem dX6_chance_61 : decode cX6_chance 61 = .ok (.iastore, 1) := by decide +kernel
theorem dX6_chance_62 : decode cX6_chance 62 = .ok (.aload_n 0, 1) := by decide +kernel
theorem dX6_chance_63 : decode cX6_chance 63 = .ok (.invokevirtual 240, 3) := by decide +kernel
theorem dX6_chance_66 : decode cX6_chance 66 = .ok (.bipush 8, 2) := by decide +kernel
theorem dX6_chance_68 : decode cX6_chance 68 = .ok (.irem, 1) := by decide +kernel
theorem dX6_chance_69 : decode cX6_chance 69 = .ok (.istore 4, 2) := by decide +kernel
theorem dX6_chance_71 : decode cX6_chance 71 = .ok (.aload_n 0, 1) := by decide +kernel
theorem dX6_chance_72 : decode cX6_chance 72 = .ok (.iload 4, 2) := by decide +kernel
theorem dX6_chance_74 : decode cX6_chance 74 = .ok (.invokevirtual 137, 3) := by decide +kernel
theorem dX6_chance_77 : decode cX6_chance 77 = .ok (.ifCond .eq 17, 3) := by decide +kernel
theorem dX6_chance_80 : decode cX6_chance 80 = .ok (.aload_n 0, 1) := by decide +kernel
theorem dX6_chance_81 : decode cX6_chance 81 = .ok (.iload 4, 2) := by decide +kernel
theorem dX6_chance_83 : decode cX6_chance 83 = .ok (.iconst 4, 1) := by decide +kernel
theorem dX6_chance_84 : decode cX6_chance 84 = .ok (.invokestatic 88, 3) := by decide +kernel
theorem dX6_chance_87 : decode cX6_chance 87 = .ok (.bipush 10, 2) := by decide +kernel
theorem dX6_chance_89 : decode cX6_chance 89 = .ok (.bipush 99, 2) := by decide +kernel
theorem dX6_chance_91 : decode cX6_chance 91 = .ok (.invokevirtual 165, 3) := by decide +kernel
theorem dX6_chance_94 : decode cX6_chance 94 = .ok (.aload_n 0, 1) := by decide +kernel
theorem dX6_chance_95 : decode cX6_chance 95 = .ok (.invokevirtual 181, 3) := by decide +kernel
theorem dX6_chance_98 : decode cX6_chance 98 = .ok (.iinc 2 1, 3) := by decide +kernel
theorem dX6_chance_101 : decode cX6_chance 101 = .ok (.goto (-62), 3) := by decide +kernel
theorem dX6_chance_104 : decode cX6_chance 104 = .ok (.aload_n 0, 1) := by decide +kernel
theorem dX6_chance_105 : decode cX6_chance 105 = .ok (.getfield 9, 3) := by decide +kernel
theorem dX6_chance_108 : decode cX6_chance 108 = .ok (.iconst 3, 1) := by decide +kernel
theorem dX6_chance_109 : decode cX6_chance 109 = .ok (.iaload, 1) := by decide +kernel
theorem dX6_chance_110 : decode cX6_chance 110 = .ok (.ireturn, 1) := by decide +kernel
theorem dX6_odds_0 : decode cX6_odds 0 = .ok (.aload_n 0, 1) := by decide +kernel
theorem dX6_odds_1 : decode cX6_odds 1 = .ok (.iload_n 1, 1) := by decide +kernel
theorem dX6_odds_2 : decode cX6_odds 2 = .ok (.invokevirtual 137, 3) := by decide +kernel
theorem dX6_odds_5 : decode cX6_odds 5 = .ok (.ifCond .eq 22, 3) := by decide +kernel
theorem dX6_odds_8 : decode cX6_odds 8 = .ok (.iload_n 2, 1) := by decide +kernel
theorem dX6_odds_9 : decode cX6_odds 9 = .ok (.iconst 0, 1) := by decide +kernel
theorem dX6_odds_10 : decode cX6_odds 10 = .ok (.bipush 17, 2) := by decide +kernel
theorem dX6_odds_12 : decode cX6_odds 12 = .ok (.invokestatic 70, 3) := by decide +kernel
theorem dX6_odds_15 : decode cX6_odds 15 = .ok (.ifCond .eq 12, 3) := by decide +kernel
theorem dX6_odds_18 : decode cX6_odds 18 = .ok (.iload_n 3, 1) := by decide +kernel
theorem dX6_odds_19 : decode cX6_odds 19 = .ok (.iconst 0, 1) := by decide +kernel
theorem dX6_odds_20 : decode cX6_odds 20 = .ok (.iconst 1, 1) := by decide +kernel
theorem dX6_odds_21 : decode cX6_odds 21 = .ok (.invokestatic 70, 3) := by decide +kernel
theorem dX6_odds_24 : decode cX6_odds 24 = .ok (.ifCond .ne 11, 3) := by decide +kernel
theorem dX6_odds_27 : decode cX6_odds 27 = .ok (.aload_n 0, 1) := by decide +kernel
theorem dX6_odds_28 : decode cX6_odds 28 = .ok (.ldc 60, 2) := by decide +kernel
theorem dX6_odds_30 : decode cX6_odds 30 = .ok (.invokevirtual 66, 3) := by decide +kernel
theorem dX6_odds_33 : decode cX6_odds 33 = .ok (.i2l, 1) := by decide +kernel
theorem dX6_odds_34 : decode cX6_odds 34 = .ok (.lreturn, 1) := by decide +kernel
theorem dX6_odds_35 : decode cX6_odds 35 = .ok (.aload_n 0, 1) := by decide +kernel
theorem dX6_odds_36 : decode cX6_odds 36 = .ok (.iload_n 1, 1) := by decide +kernel
theorem dX6_odds_37 : decode cX6_odds 37 = .ok (.iconst 2, 1) := by decide +kernel
theorem dX6_odds_38 : decode cX6_odds 38 = .ok (.invokevirtual 101, 3) := by decide +kernel
theorem dX6_odds_41 : decode cX6_odds 41 = .ok (.invokestatic 111, 3) := by decide +kernel
theorem dX6_odds_44 : decode cX6_odds 44 = .ok (.istore 4, 2) := by decide +kernel
theorem dX6_odds_46 : decode cX6_odds 46 = .ok (.bipush 12, 2) := by decide +kernel
theorem dX6_odds_48 : decode cX6_odds 48 = .ok (.istore 5, 2) := by decide +kernel
theorem dX6_odds_50 : decode cX6_odds 50 = .ok (.iload 4, 2) := by decide +kernel
theorem dX6_odds_52 : decode cX6_odds 52 = .ok (.istore 6, 2) := by decide +kernel
theorem dX6_odds_54 : decode cX6_odds 54 = .ok (.iload 6, 2) := by decide +kernel
theorem dX6_odds_56 : decode cX6_odds 56 = .ok (.ifCond .eq 21, 3) := by decide +kernel
theorem dX6_odds_59 : decode cX6_odds 59 = .ok (.iload 5, 2) := by decide +kernel
theorem dX6_odds_61 : decode cX6_odds 61 = .ok (.iload 6, 2) := by decide +kernel
theorem dX6_odds_63 : decode cX6_odds 63 = .ok (.irem, 1) := by decide +kernel
theorem dX6_odds_64 : decode cX6_odds 64 = .ok (.istore 7, 2) := by decide +kernel
theorem dX6_odds_66 : decode cX6_odds 66 = .ok (.iload 6, 2) := by decide +kernel
theorem dX6_odds_68 : decode cX6_odds 68 = .ok (.istore 5, 2) := by decide +kernel
theorem dX6_odds_70 : decode cX6_odds 70 = .ok (.iload 7, 2) := by decide +kernel
theorem dX6_odds_72 : decode cX6_odds 72 = .ok (.istore 6, 2) := by decide +kernel
theorem dX6_odds_74 : decode cX6_odds 74 = .ok (.goto (-20), 3) := by decide +kernel
theorem dX6_odds_77 : decode cX6_odds 77 = .ok (.lconst 1, 1) := by decide +kernel
theorem dX6_odds_78 : decode cX6_odds 78 = .ok (.lstore 7, 2) := by decide +kernel
theorem dX6_odds_80 : decode cX6_odds 80 = .ok (.iconst 0, 1) := by decide +kernel
theorem dX6_odds_81 : decode cX6_odds 81 = .ok (.istore 9, 2) := by decide +kernel
theorem dX6_odds_83 : decode cX6_odds 83 = .ok (.iload 9, 2) := by decide +kernel
theorem dX6_odds_85 : decode cX6_odds 85 = .ok (.iload_n 2, 1) := by decide +kernel
theorem dX6_odds_86 : decode cX6_odds 86 = .ok (.if_icmp .ge 29, 3) := by decide +kernel
theorem dX6_odds_89 : decode cX6_odds 89 = .ok (.lload 7, 2) := by decide +kernel
theorem dX6_odds_91 : decode cX6_odds 91 = .ok (.iload_n 3, 1) := by decide +kernel
theorem dX6_odds_92 : decode cX6_odds 92 = .ok (.ifCond .ne 8, 3) := by decide +kernel
theorem dX6_odds_95 : decode cX6_odds 95 = .ok (.iload 4, 2) := by decide +kernel
theorem dX6_odds_97 : decode cX6_odds 97 = .ok (.goto 5, 3) := by decide +kernel
theorem dX6_odds_100 : decode cX6_odds 100 = .ok (.bipush 12, 2) := by decide +kernel
theorem dX6_odds_102 : decode cX6_odds 102 = .ok (.iload 5, 2) := by decide +kernel
theorem dX6_odds_104 : decode cX6_odds 104 = .ok (.idiv, 1) := by decide +kernel
theorem dX6_odds_105 : decode cX6_odds 105 = .ok (.i2l, 1) := by decide +kernel
theorem dX6_odds_106 : decode cX6_odds 106 = .ok (.lmul, 1) := by decide +kernel
theorem dX6_odds_107 : decode cX6_odds 107 = .ok (.lstore 7, 2) := by decide +kernel
theorem dX6_odds_109 : decode cX6_odds 109 = .ok (.iinc 9 1, 3) := by decide +kernel
theorem dX6_odds_112 : decode cX6_odds 112 = .ok (.goto (-29), 3) := by decide +kernel
theorem dX6_odds_115 : decode cX6_odds 115 = .ok (.lload 7, 2) := by decide +kernel
theorem dX6_odds_117 : decode cX6_odds 117 = .ok (.lreturn, 1) := by decide +kernel
theorem dX6_seed_0 : decode cX6_seed 0 = .ok (.aload_n 0, 1) := by decide +kernel
theorem dX6_seed_1 : decode cX6_seed 1 = .ok (.iconst 2, 1) := by decide +kernel
theorem dX6_seed_2 : decode cX6_seed 2 = .ok (.iload_n 1, 1) := by decide +kernel
theorem dX6_seed_3 : decode cX6_seed 3 = .ok (.invokevirtual 81, 3) := by decide +kernel
theorem dX6_seed_6 : decode cX6_seed 6 = .ok (.ireturn, 1) := by decide +kernel
theorem dX6_feed_0 : decode cX6_feed 0 = .ok (.iload_n 2, 1) := by decide +kernel
theorem dX6_feed_1 : decode cX6_feed 1 = .ok (.iconst 1, 1) := by decide +kernel
theorem dX6_feed_2 : decode cX6_feed 2 = .ok (.iconst 4, 1) := by decide +kernel
theorem dX6_feed_3 : decode cX6_feed 3 = .ok (.invokestatic 70, 3) := by decide +kernel
theorem dX6_feed_6 : decode cX6_feed 6 = .ok (.ifCond .ne 10, 3) := by decide +kernel
theorem dX6_feed_9 : decode cX6_feed 9 = .ok (.aload_n 0, 1) := by decide +kernel
theorem dX6_feed_10 : decode cX6_feed 10 = .ok (.ldc 60, 2) := by decide +kernel
theorem dX6_feed_12 : decode cX6_feed 12 = .ok (.invokevirtual 66, 3) := by decide +kernel
theorem dX6_feed_15 : decode cX6_feed 15 = .ok (.ireturn, 1) := by decide +kernel
theorem dX6_feed_16 : decode cX6_feed 16 = .ok (.aload_n 0, 1) := by decide +kernel
theorem dX6_feed_17 : decode cX6_feed 17 = .ok (.getfield 243, 3) := by decide +kernel
theorem dX6_feed_20 : decode cX6_feed 20 = .ok (.iload_n 2, 1) := by decide +kernel
theorem dX6_feed_21 : decode cX6_feed 21 = .ok (.iadd, 1) := by decide +kernel
theorem dX6_feed_22 : decode cX6_feed 22 = .ok (.bipush 120, 2) := by decide +kernel
theorem dX6_feed_24 : decode cX6_feed 24 = .ok (.if_icmp .le 10, 3) := by decide +kernel
theorem dX6_feed_27 : decode cX6_feed 27 = .ok (.aload_n 0, 1) := by decide +kernel
theorem dX6_feed_28 : decode cX6_feed 28 = .ok (.ldc 97, 2) := by decide +kernel
theorem dX6_feed_30 : decode cX6_feed 30 = .ok (.invokevirtual 66, 3) := by decide +kernel
theorem dX6_feed_33 : decode cX6_feed 33 = .ok (.ireturn, 1) := by decide +kernel
theorem dX6_feed_34 : decode cX6_feed 34 = .ok (.iload_n 2, 1) := by decide +kernel
theorem dX6_feed_35 : decode cX6_feed 35 = .ok (.iconst 1, 1) := by decide +kernel
theorem dX6_feed_36 : decode cX6_feed 36 = .ok (.isub, 1) := by decide +kernel
theorem dX6_feed_37 : decode cX6_feed 37 = .ok (.istore_n 3, 1) := by decide +kernel
theorem dX6_feed_38 : decode cX6_feed 38 = .ok (.iload_n 3, 1) := by decide +kernel
theorem dX6_feed_39 : decode cX6_feed 39 = .ok (.ifCond .lt 38, 3) := by decide +kernel
theorem dX6_feed_42 : decode cX6_feed 42 = .ok (.aload_n 0, 1) := by decide +kernel
theorem dX6_feed_43 : decode cX6_feed 43 = .ok (.getfield 22, 3) := by decide +kernel
theorem dX6_feed_46 : decode cX6_feed 46 = .ok (.aload_n 0, 1) := by decide +kernel
theorem dX6_feed_47 : decode cX6_feed 47 = .ok (.getfield 243, 3) := by decide +kernel
theorem dX6_feed_50 : decode cX6_feed 50 = .ok (.iload_n 1, 1) := by decide +kernel
theorem dX6_feed_51 : decode cX6_feed 51 = .ok (.bipush 8, 2) := by decide +kernel
theorem dX6_feed_53 : decode cX6_feed 53 = .ok (.iload_n 3, 1) := by decide +kernel
theorem dX6_feed_54 : decode cX6_feed 54 = .ok (.imul, 1) := by decide +kernel
theorem dX6_feed_55 : decode cX6_feed 55 = .ok (.ishr, 1) := by decide +kernel
theorem dX6_feed_56 : decode cX6_feed 56 = .ok (.sipush 255, 3) := by decide +kernel
theorem dX6_feed_59 : decode cX6_feed 59 = .ok (.iand, 1) := by decide +kernel
theorem dX6_feed_60 : decode cX6_feed 60 = .ok (.iastore, 1) := by decide +kernel
theorem dX6_feed_61 : decode cX6_feed 61 = .ok (.aload_n 0, 1) := by decide +kernel
theorem dX6_feed_62 : decode cX6_feed 62 = .ok (.dup, 1) := by decide +kernel
theorem dX6_feed_63 : decode cX6_feed 63 = .ok (.getfield 243, 3) := by decide +kernel
theorem dX6_feed_66 : decode cX6_feed 66 = .ok (.iconst 1, 1) := by decide +kernel
theorem dX6_feed_67 : decode cX6_feed 67 = .ok (.iadd, 1) := by decide +kernel
theorem dX6_feed_68 : decode cX6_feed 68 = .ok (.putfield 243, 3) := by decide +kernel
theorem dX6_feed_71 : decode cX6_feed 71 = .ok (.iinc 3 (-1), 3) := by decide +kernel
theorem dX6_feed_74 : decode cX6_feed 74 = .ok (.goto (-36), 3) := by decide +kernel
theorem dX6_feed_77 : decode cX6_feed 77 = .ok (.aload_n 0, 1) := by decide +kernel
theorem dX6_feed_78 : decode cX6_feed 78 = .ok (.getfield 243, 3) := by decide +kernel
theorem dX6_feed_81 : decode cX6_feed 81 = .ok (.ireturn, 1) := by decide +kernel
theorem dX6_wipe_0 : decode cX6_wipe 0 = .ok (.aload_n 0, 1) := by decide +kernel
theorem dX6_wipe_1 : decode cX6_wipe 1 = .ok (.getfield 243, 3) := by decide +kernel
theorem dX6_wipe_4 : decode cX6_wipe 4 = .ok (.istore_n 1, 1) := by decide +kernel
theorem dX6_wipe_5 : decode cX6_wipe 5 = .ok (.aload_n 0, 1) := by decide +kernel
theorem dX6_wipe_6 : decode cX6_wipe 6 = .ok (.iconst 0, 1) := by decide +kernel
theorem dX6_wipe_7 : decode cX6_wipe 7 = .ok (.putfield 243, 3) := by decide +kernel
theorem dX6_wipe_10 : decode cX6_wipe 10 = .ok (.iload_n 1, 1) := by decide +kernel
theorem dX6_wipe_11 : decode cX6_wipe 11 = .ok (.ireturn, 1) := by decide +kernel
theorem dX6_byteAt_0 : decode cX6_byteAt 0 = .ok (.iload_n 1, 1) := by decide +kernel
theorem dX6_byteAt_1 : decode cX6_byteAt 1 = .ok (.aload_n 0, 1) := by decide +kernel
theorem dX6_byteAt_2 : decode cX6_byteAt 2 = .ok (.getfield 243, 3) := by decide +kernel
theorem dX6_byteAt_5 : decode cX6_byteAt 5 = .ok (.if_icmp .ge 12, 3) := by decide +kernel
theorem dX6_byteAt_8 : decode cX6_byteAt 8 = .ok (.aload_n 0, 1) := by decide +kernel
theorem dX6_byteAt_9 : decode cX6_byteAt 9 = .ok (.getfield 22, 3) := by decide +kernel
theorem dX6_byteAt_12 : decode cX6_byteAt 12 = .ok (.iload_n 1, 1) := by decide +kernel
theorem dX6_byteAt_13 : decode cX6_byteAt 13 = .ok (.iaload, 1) := by decide +kernel
theorem dX6_byteAt_14 : decode cX6_byteAt 14 = .ok (.goto 4, 3) := by decide +kernel
theorem dX6_byteAt_17 : decode cX6_byteAt 17 = .ok (.iconst (-1), 1) := by decide +kernel
theorem dX6_byteAt_18 : decode cX6_byteAt 18 = .ok (.ireturn, 1) := by decide +kernel
theorem dX6_token_0 : decode cX6_token 0 = .ok (.aload_n 0, 1) := by decide +kernel
theorem dX6_token_1 : decode cX6_token 1 = .ok (.aload_n 0, 1) := by decide +kernel
theorem dX6_token_2 : decode cX6_token 2 = .ok (.getfield 247, 3) := by decide +kernel
theorem dX6_token_5 : decode cX6_token 5 = .ok (.putfield 250, 3) := by decide +kernel
theorem dX6_token_8 : decode cX6_token 8 = .ok (.aload_n 0, 1) := by decide +kernel
theorem dX6_token_9 : decode cX6_token 9 = .ok (.aload_n 0, 1) := by decide +kernel
theorem dX6_token_10 : decode cX6_token 10 = .ok (.getfield 250, 3) := by decide +kernel
theorem dX6_token_13 : decode cX6_token 13 = .ok (.invokevirtual 253, 3) := by decide +kernel
theorem dX6_token_16 : decode cX6_token 16 = .ok (.bipush 32, 2) := by decide +kernel
theorem dX6_token_18 : decode cX6_token 18 = .ok (.if_icmp .ne 16, 3) := by decide +kernel
theorem dX6_token_21 : decode cX6_token 21 = .ok (.aload_n 0, 1) := by decide +kernel
theorem dX6_token_22 : decode cX6_token 22 = .ok (.dup, 1) := by decide +kernel
theorem dX6_token_23 : decode cX6_token 23 = .ok (.getfield 250, 3) := by decide +kernel
theorem dX6_token_26 : decode cX6_token 26 = .ok (.iconst 1, 1) := by decide +kernel
theorem dX6_token_27 : decode cX6_token 27 = .ok (.iadd, 1) := by decide +kernel
theorem dX6_token_28 : decode cX6_token 28 = .ok (.putfield 250, 3) := by decide +kernel
theorem dX6_token_31 : decode cX6_token 31 = .ok (.goto (-23), 3) := by decide +kernel
theorem dX6_token_34 : decode cX6_token 34 = .ok (.aload_n 0, 1) := by decide +kernel
theorem dX6_token_35 : decode cX6_token 35 = .ok (.aload_n 0, 1) := by decide +kernel
theorem dX6_token_36 : decode cX6_token 36 = .ok (.getfield 250, 3) := by decide +kernel
theorem dX6_token_39 : decode cX6_token 39 = .ok (.invokevirtual 253, 3) := by decide +kernel
theorem dX6_token_42 : decode cX6_token 42 = .ok (.istore_n 1, 1) := by decide +kernel
theorem dX6_token_43 : decode cX6_token 43 = .ok (.aload_n 0, 1) := by decide +kernel
theorem dX6_token_44 : decode cX6_token 44 = .ok (.aload_n 0, 1) := by decide +kernel
theorem dX6_token_45 : decode cX6_token 45 = .ok (.getfield 250, 3) := by decide +kernel
theorem dX6_token_48 : decode cX6_token 48 = .ok (.putfield 247, 3) := by decide +kernel
theorem dX6_token_51 : decode cX6_token 51 = .ok (.aload_n 0, 1) := by decide +kernel
theorem dX6_token_52 : decode cX6_token 52 = .ok (.iconst 0, 1) := by decide +kernel
theorem dX6_token_53 : decode cX6_token 53 = .ok (.putfield 256, 3) := by decide +kernel
theorem dX6_token_56 : decode cX6_token 56 = .ok (.iload_n 1, 1) := by decide +kernel
theorem dX6_token_57 : decode cX6_token 57 = .ok (.ifCond .ge 11, 3) := by decide +kernel
theorem dX6_token_60 : decode cX6_token 60 = .ok (.aload_n 0, 1) := by decide +kernel
theorem dX6_token_61 : decode cX6_token 61 = .ok (.iconst 0, 1) := by decide +kernel
theorem dX6_token_62 : decode cX6_token 62 = .ok (.putfield 259, 3) := by decide +kernel
theorem dX6_token_65 : decode cX6_token 65 = .ok (.goto 141, 3) := by decide +kernel
theorem dX6_token_68 : decode cX6_token 68 = .ok (.iload_n 1, 1) := by decide +kernel
theorem dX6_token_69 : decode cX6_token 69 = .ok (.bipush 97, 2) := by decide +kernel
theorem dX6_token_71 : decode cX6_token 71 = .ok (.bipush 122, 2) := by decide +kernel
theorem dX6_token_73 : decode cX6_token 73 = .ok (.invokestatic 70, 3) := by decide +kernel
theorem dX6_token_76 : decode cX6_token 76 = .ok (.ifCond .eq 39, 3) := by decide +kernel
theorem dX6_token_79 : decode cX6_token 79 = .ok (.aload_n 0, 1) := by decide +kernel
theorem dX6_token_80 : decode cX6_token 80 = .ok (.iconst 1, 1) := by decide +kernel
theorem dX6_token_81 : decode cX6_token 81 = .ok (.putfield 259, 3) := by decide +kernel
theorem dX6_token_84 : decode cX6_token 84 = .ok (.aload_n 0, 1) := by decide +kernel
theorem dX6_token_85 : decode cX6_token 85 = .ok (.aload_n 0, 1) := by decide +kernel
theorem dX6_token_86 : decode cX6_token 86 = .ok (.getfield 247, 3) := by decide +kernel
theorem dX6_token_89 : decode cX6_token 89 = .ok (.invokevirtual 253, 3) := by decide +kernel
theorem dX6_token_92 : decode cX6_token 92 = .ok (.bipush 97, 2) := by decide +kernel
theorem dX6_token_94 : decode cX6_token 94 = .ok (.bipush 122, 2) := by decide +kernel
theorem dX6_token_96 : decode cX6_token 96 = .ok (.invokestatic 70, 3) := by decide +kernel
theorem dX6_token_99 : decode cX6_token 99 = .ok (.ifCond .eq 107, 3) := by decide +kernel
theorem dX6_token_102 : decode cX6_token 102 = .ok (.aload_n 0, 1) := by decide +kernel
theorem dX6_token_103 : decode cX6_token 103 = .ok (.dup, 1) := by decide +kernel
theorem dX6_token_104 : decode cX6_token 104 = .ok (.getfield 247, 3) := by decide +kernel
theorem dX6_token_107 : decode cX6_token 107 = .ok (.iconst 1, 1) := by decide +kernel
theorem dX6_token_108 : decode cX6_token 108 = .ok (.iadd, 1) := by decide +kernel
theorem dX6_token_109 : decode cX6_token 109 = .ok (.putfield 247, 3) := by decide +kernel
theorem dX6_token_112 : decode cX6_token 112 = .ok (.goto (-28), 3) := by decide +kernel
theorem dX6_token_115 : decode cX6_token 115 = .ok (.iload_n 1, 1) := by decide +kernel
theorem dX6_token_116 : decode cX6_token 116 = .ok (.bipush 48, 2) := by decide +kernel
theorem dX6_token_118 : decode cX6_token 118 = .ok (.bipush 57, 2) := by decide +kernel
theorem dX6_token_120 : decode cX6_token 120 = .ok (.invokestatic 70, 3) := by decide +kernel
theorem dX6_token_123 : decode cX6_token 123 = .ok (.ifCond .eq 68, 3) := by decide +kernel
theorem dX6_token_126 : decode cX6_token 126 = .ok (.aload_n 0, 1) := by decide +kernel
theorem dX6_token_127 : decode cX6_token 127 = .ok (.iconst 2, 1) := by decide +kernel
theorem dX6_token_128 : decode cX6_token 128 = .ok (.putfield 259, 3) := by decide +kernel
theorem dX6_token_131 : decode cX6_token 131 = .ok (.aload_n 0, 1) := by decide +kernel
theorem dX6_token_132 : decode cX6_token 132 = .ok (.aload_n 0, 1) := by decide +kernel
theorem dX6_token_133 : decode cX6_token 133 = .ok (.getfield 247, 3) := by decide +kernel
theorem dX6_token_136 : decode cX6_token 136 = .ok (.invokevirtual 253, 3) := by decide +kernel
theorem dX6_token_139 : decode cX6_token 139 = .ok (.bipush 48, 2) := by decide +kernel
theorem dX6_token_141 : decode cX6_token 141 = .ok (.bipush 57, 2) := by decide +kernel
theorem dX6_token_143 : decode cX6_token 143 = .ok (.invokestatic 70, 3) := by decide +kernel
theorem dX6_token_146 : decode cX6_token 146 = .ok (.ifCond .eq 60, 3) := by decide +kernel
theorem dX6_token_149 : decode cX6_token 149 = .ok (.aload_n 0, 1) := by decide +kernel
theorem dX6_token_150 : decode cX6_token 150 = .ok (.sipush 10000, 3) := by decide +kernel
theorem dX6_token_153 : decode cX6_token 153 = .ok (.bipush 10, 2) := by decide +kernel
theorem dX6_token_155 : decode cX6_token 155 = .ok (.aload_n 0, 1) := by decide +kernel
theorem dX6_token_156 : decode cX6_token 156 = .ok (.getfield 256, 3) := by decide +kernel
theorem dX6_token_159 : decode cX6_token 159 = .ok (.imul, 1) := by decide +kernel
theorem dX6_token_160 : decode cX6_token 160 = .ok (.aload_n 0, 1) := by decide +kernel
theorem dX6_token_161 : decode cX6_token 161 = .ok (.aload_n 0, 1) := by decide +kernel
theorem dX6_token_162 : decode cX6_token 162 = .ok (.getfield 247, 3) := by decide +kernel
theorem dX6_token_165 : decode cX6_token 165 = .ok (.invokevirtual 253, 3) := by decide +kernel
theorem dX6_token_168 : decode cX6_token 168 = .ok (.iadd, 1) := by decide +kernel
theorem dX6_token_169 : decode cX6_token 169 = .ok (.bipush 48, 2) := by decide +kernel
theorem dX6_token_171 : decode cX6_token 171 = .ok (.isub, 1) := by decide +kernel
theorem dX6_token_172 : decode cX6_token 172 = .ok (.invokestatic 162, 3) := by decide +kernel
theorem dX6_token_175 : decode cX6_token 175 = .ok (.putfield 256, 3) := by decide +kernel
theorem dX6_token_178 : decode cX6_token 178 = .ok (.aload_n 0, 1) := by decide +kernel
theorem dX6_token_179 : decode cX6_token 179 = .ok (.dup, 1) := by decide +kernel
theorem dX6_token_180 : decode cX6_token 180 = .ok (.getfield 247, 3) := by decide +kernel
theorem dX6_token_183 : decode cX6_token 183 = .ok (.iconst 1, 1) := by decide +kernel
theorem dX6_token_184 : decode cX6_token 184 = .ok (.iadd, 1) := by decide +kernel
theorem dX6_token_185 : decode cX6_token 185 = .ok (.putfield 247, 3) := by decide +kernel
theorem dX6_token_188 : decode cX6_token 188 = .ok (.goto (-57), 3) := by decide +kernel
theorem dX6_token_191 : decode cX6_token 191 = .ok (.aload_n 0, 1) := by decide +kernel
theorem dX6_token_192 : decode cX6_token 192 = .ok (.iconst 3, 1) := by decide +kernel
theorem dX6_token_193 : decode cX6_token 193 = .ok (.putfield 259, 3) := by decide +kernel
theorem dX6_token_196 : decode cX6_token 196 = .ok (.aload_n 0, 1) := by decide +kernel
theorem dX6_token_197 : decode cX6_token 197 = .ok (.dup, 1) := by decide +kernel
theorem dX6_token_198 : decode cX6_token 198 = .ok (.getfield 247, 3) := by decide +kernel
theorem dX6_token_201 : decode cX6_token 201 = .ok (.iconst 1, 1) := by decide +kernel
theorem dX6_token_202 : decode cX6_token 202 = .ok (.iadd, 1) := by decide +kernel
theorem dX6_token_203 : decode cX6_token 203 = .ok (.putfield 247, 3) := by decide +kernel
theorem dX6_token_206 : decode cX6_token 206 = .ok (.return_, 1) := by decide +kernel
theorem dX6_isWord_0 : decode cX6_isWord 0 = .ok (.aload_n 0, 1) := by decide +kernel
theorem dX6_isWord_1 : decode cX6_isWord 1 = .ok (.getfield 259, 3) := by decide +kernel
theorem dX6_isWord_4 : decode cX6_isWord 4 = .ok (.iconst 1, 1) := by decide +kernel
theorem dX6_isWord_5 : decode cX6_isWord 5 = .ok (.if_icmp .ne 23, 3) := by decide +kernel
theorem dX6_isWord_8 : decode cX6_isWord 8 = .ok (.aload_n 0, 1) := by decide +kernel
theorem dX6_isWord_9 : decode cX6_isWord 9 = .ok (.getfield 247, 3) := by decide +kernel
theorem dX6_isWord_12 : decode cX6_isWord 12 = .ok (.aload_n 0, 1) := by decide +kernel
theorem dX6_isWord_13 : decode cX6_isWord 13 = .ok (.getfield 250, 3) := by decide +kernel
theorem dX6_isWord_16 : decode cX6_isWord 16 = .ok (.isub, 1) := by decide +kernel
theorem dX6_isWord_17 : decode cX6_isWord 17 = .ok (.aload_n 1, 1) := by decide +kernel
theorem dX6_isWord_18 : decode cX6_isWord 18 = .ok (.invokevirtual 262, 3) := by decide +kernel
theorem dX6_isWord_21 : decode cX6_isWord 21 = .ok (.if_icmp .ne 7, 3) := by decide +kernel
theorem dX6_isWord_24 : decode cX6_isWord 24 = .ok (.iconst 1, 1) := by decide +kernel
theorem dX6_isWord_25 : decode cX6_isWord 25 = .ok (.goto 4, 3) := by decide +kernel
theorem dX6_isWord_28 : decode cX6_isWord 28 = .ok (.iconst 0, 1) := by decide +kernel
theorem dX6_isWord_29 : decode cX6_isWord 29 = .ok (.istore_n 2, 1) := by decide +kernel
theorem dX6_isWord_30 : decode cX6_isWord 30 = .ok (.iconst 0, 1) := by decide +kernel
theorem dX6_isWord_31 : decode cX6_isWord 31 = .ok (.istore_n 3, 1) := by decide +kernel
theorem dX6_isWord_32 : decode cX6_isWord 32 = .ok (.iload_n 3, 1) := by decide +kernel
theorem dX6_isWord_33 : decode cX6_isWord 33 = .ok (.aload_n 1, 1) := by decide +kernel
theorem dX6_isWord_34 : decode cX6_isWord 34 = .ok (.invokevirtual 262, 3) := by decide +kernel
theorem dX6_isWord_37 : decode cX6_isWord 37 = .ok (.if_icmp .ge 38, 3) := by decide +kernel
theorem dX6_isWord_40 : decode cX6_isWord 40 = .ok (.iload_n 2, 1) := by decide +kernel
theorem dX6_isWord_41 : decode cX6_isWord 41 = .ok (.ifCond .eq 34, 3) := by decide +kernel
theorem dX6_isWord_44 : decode cX6_isWord 44 = .ok (.aload_n 0, 1) := by decide +kernel
theorem dX6_isWord_45 : decode cX6_isWord 45 = .ok (.getfield 22, 3) := by decide +kernel
theorem dX6_isWord_48 : decode cX6_isWord 48 = .ok (.aload_n 0, 1) := by decide +kernel
theorem dX6_isWord_49 : decode cX6_isWord 49 = .ok (.getfield 250, 3) := by decide +kernel
theorem dX6_isWord_52 : decode cX6_isWord 52 = .ok (.iload_n 3, 1) := by decide +kernel
theorem dX6_isWord_53 : decode cX6_isWord 53 = .ok (.iadd, 1) := by decide +kernel
theorem dX6_isWord_54 : decode cX6_isWord 54 = .ok (.iaload, 1) := by decide +kernel
theorem dX6_isWord_55 : decode cX6_isWord 55 = .ok (.aload_n 1, 1) := by decide +kernel
theorem dX6_isWord_56 : decode cX6_isWord 56 = .ok (.iload_n 3, 1) := by decide +kernel
theorem dX6_isWord_57 : decode cX6_isWord 57 = .ok (.invokevirtual 265, 3) := by decide +kernel
theorem dX6_isWord_60 : decode cX6_isWord 60 = .ok (.if_icmp .ne 7, 3) := by decide +kernel
theorem dX6_isWord_63 : decode cX6_isWord 63 = .ok (.iconst 1, 1) := by decide +kernel
theorem dX6_isWord_64 : decode cX6_isWord 64 = .ok (.goto 4, 3) := by decide +kernel
theorem dX6_isWord_67 : decode cX6_isWord 67 = .ok (.iconst 0, 1) := by decide +kernel
theorem dX6_isWord_68 : decode cX6_isWord 68 = .ok (.istore_n 2, 1) := by decide +kernel
theorem dX6_isWord_69 : decode cX6_isWord 69 = .ok (.iinc 3 1, 3) := by decide +kernel
theorem dX6_isWord_72 : decode cX6_isWord 72 = .ok (.goto (-40), 3) := by decide +kernel
theorem dX6_isWord_75 : decode cX6_isWord 75 = .ok (.iload_n 2, 1) := by decide +kernel
theorem dX6_isWord_76 : decode cX6_isWord 76 = .ok (.ireturn, 1) := by decide +kernel
theorem dX6_must_0 : decode cX6_must 0 = .ok (.aload_n 0, 1) := by decide +kernel
theorem dX6_must_1 : decode cX6_must 1 = .ok (.aload_n 0, 1) := by decide +kernel
theorem dX6_must_2 : decode cX6_must 2 = .ok (.getfield 269, 3) := by decide +kernel
theorem dX6_must_5 : decode cX6_must 5 = .ok (.ifCond .ne 7, 3) := by decide +kernel
theorem dX6_must_8 : decode cX6_must 8 = .ok (.iload_n 1, 1) := by decide +kernel
theorem dX6_must_9 : decode cX6_must 9 = .ok (.ifCond .ne 7, 3) := by decide +kernel
theorem dX6_must_12 : decode cX6_must 12 = .ok (.iconst 1, 1) := by decide +kernel
theorem dX6_must_13 : decode cX6_must 13 = .ok (.goto 4, 3) := by decide +kernel
theorem dX6_must_16 : decode cX6_must 16 = .ok (.iconst 0, 1) := by decide +kernel
theorem dX6_must_17 : decode cX6_must 17 = .ok (.putfield 269, 3) := by decide +kernel
theorem dX6_must_20 : decode cX6_must 20 = .ok (.aload_n 0, 1) := by decide +kernel
theorem dX6_must_21 : decode cX6_must 21 = .ok (.getfield 269, 3) := by decide +kernel
theorem dX6_must_24 : decode cX6_must 24 = .ok (.ifCond .ne 7, 3) := by decide +kernel
theorem dX6_must_27 : decode cX6_must 27 = .ok (.aload_n 0, 1) := by decide +kernel
theorem dX6_must_28 : decode cX6_must 28 = .ok (.invokevirtual 273, 3) := by decide +kernel
theorem dX6_must_31 : decode cX6_must 31 = .ok (.return_, 1) := by decide +kernel
theorem dX6_number_0 : decode cX6_number 0 = .ok (.aload_n 0, 1) := by decide +kernel
theorem dX6_number_1 : decode cX6_number 1 = .ok (.getfield 256, 3) := by decide +kernel
theorem dX6_number_4 : decode cX6_number 4 = .ok (.istore_n 3, 1) := by decide +kernel
theorem dX6_number_5 : decode cX6_number 5 = .ok (.aload_n 0, 1) := by decide +kernel
theorem dX6_number_6 : decode cX6_number 6 = .ok (.aload_n 0, 1) := by decide +kernel
theorem dX6_number_7 : decode cX6_number 7 = .ok (.getfield 259, 3) := by decide +kernel
theorem dX6_number_10 : decode cX6_number 10 = .ok (.iconst 2, 1) := by decide +kernel
theorem dX6_number_11 : decode cX6_number 11 = .ok (.if_icmp .ne 16, 3) := by decide +kernel
theorem dX6_number_14 : decode cX6_number 14 = .ok (.iload_n 3, 1) := by decide +kernel
theorem dX6_number_15 : decode cX6_number 15 = .ok (.iload_n 1, 1) := by decide +kernel
theorem dX6_number_16 : decode cX6_number 16 = .ok (.iload_n 2, 1) := by decide +kernel
theorem dX6_number_17 : decode cX6_number 17 = .ok (.invokestatic 70, 3) := by decide +kernel
theorem dX6_number_20 : decode cX6_number 20 = .ok (.ifCond .eq 7, 3) := by decide +kernel
theorem dX6_number_23 : decode cX6_number 23 = .ok (.iconst 1, 1) := by decide +kernel
theorem dX6_number_24 : decode cX6_number 24 = .ok (.goto 4, 3) := by decide +kernel
theorem dX6_number_27 : decode cX6_number 27 = .ok (.iconst 0, 1) := by decide +kernel
theorem dX6_number_28 : decode cX6_number 28 = .ok (.invokevirtual 276, 3) := by decide +kernel
theorem dX6_number_31 : decode cX6_number 31 = .ok (.iload_n 3, 1) := by decide +kernel
theorem dX6_number_32 : decode cX6_number 32 = .ok (.ireturn, 1) := by decide +kernel
theorem dX6_addItem_0 : decode cX6_addItem 0 = .ok (.iconst 5, 1) := by decide +kernel
theorem dX6_addItem_1 : decode cX6_addItem 1 = .ok (.aload_n 0, 1) := by decide +kernel
theorem dX6_addItem_2 : decode cX6_addItem 2 = .ok (.getfield 280, 3) := by decide +kernel
theorem dX6_addItem_5 : decode cX6_addItem 5 = .ok (.imul, 1) := by decide +kernel
theorem dX6_addItem_6 : decode cX6_addItem 6 = .ok (.istore 6, 2) := by decide +kernel
theorem dX6_addItem_8 : decode cX6_addItem 8 = .ok (.aload_n 0, 1) := by decide +kernel
theorem dX6_addItem_9 : decode cX6_addItem 9 = .ok (.getfield 45, 3) := by decide +kernel
theorem dX6_addItem_12 : decode cX6_addItem 12 = .ok (.iload 6, 2) := by decide +kernel
theorem dX6_addItem_14 : decode cX6_addItem 14 = .ok (.iload_n 1, 1) := by decide +kernel
theorem dX6_addItem_15 : decode cX6_addItem 15 = .ok (.iastore, 1) := by decide +kernel
theorem dX6_addItem_16 : decode cX6_addItem 16 = .ok (.aload_n 0, 1) := by decide +kernel
theorem dX6_addItem_17 : decode cX6_addItem 17 = .ok (.getfield 45, 3) := by decide +kernel
theorem dX6_addItem_20 : decode cX6_addItem 20 = .ok (.iload 6, 2) := by decide +kernel
theorem dX6_addItem_22 : decode cX6_addItem 22 = .ok (.iconst 1, 1) := by decide +kernel
theorem dX6_addItem_23 : decode cX6_addItem 23 = .ok (.iadd, 1) := by decide +kernel
theorem dX6_addItem_24 : decode cX6_addItem 24 = .ok (.iload_n 2, 1) := by decide +kernel
theorem dX6_addItem_25 : decode cX6_addItem 25 = .ok (.iastore, 1) := by decide +kernel
theorem dX6_addItem_26 : decode cX6_addItem 26 = .ok (.aload_n 0, 1) := by decide +kernel
theorem dX6_addItem_27 : decode cX6_addItem 27 = .ok (.getfield 45, 3) := by decide +kernel
theorem dX6_addItem_30 : decode cX6_addItem 30 = .ok (.iload 6, 2) := by decide +kernel
theorem dX6_addItem_32 : decode cX6_addItem 32 = .ok (.iconst 2, 1) := by decide +kernel
theorem dX6_addItem_33 : decode cX6_addItem 33 = .ok (.iadd, 1) := by decide +kernel
theorem dX6_addItem_34 : decode cX6_addItem 34 = .ok (.iload_n 3, 1) := by decide +kernel
theorem dX6_addItem_35 : decode cX6_addItem 35 = .ok (.iastore, 1) := by decide +kernel
theorem dX6_addItem_36 : decode cX6_addItem 36 = .ok (.aload_n 0, 1) := by decide +kernel
theorem dX6_addItem_37 : decode cX6_addItem 37 = .ok (.getfield 45, 3) := by decide +kernel
theorem dX6_addItem_40 : decode cX6_addItem 40 = .ok (.iload 6, 2) := by decide +kernel
theorem dX6_addItem_42 : decode cX6_addItem 42 = .ok (.iconst 3, 1) := by decide +kernel
theorem dX6_addItem_43 : decode cX6_addItem 43 = .ok (.iadd, 1) := by decide +kernel
theorem dX6_addItem_44 : decode cX6_addItem 44 = .ok (.iload 4, 2) := by decide +kernel
theorem dX6_addItem_46 : decode cX6_addItem 46 = .ok (.iastore, 1) := by decide +kernel
theorem dX6_addItem_47 : decode cX6_addItem 47 = .ok (.aload_n 0, 1) := by decide +kernel
theorem dX6_addItem_48 : decode cX6_addItem 48 = .ok (.getfield 45, 3) := by decide +kernel
theorem dX6_addItem_51 : decode cX6_addItem 51 = .ok (.iload 6, 2) := by decide +kernel
theorem dX6_addItem_53 : decode cX6_addItem 53 = .ok (.iconst 4, 1) := by decide +kernel
theorem dX6_addItem_54 : decode cX6_addItem 54 = .ok (.iadd, 1) := by decide +kernel
theorem dX6_addItem_55 : decode cX6_addItem 55 = .ok (.iload 5, 2) := by decide +kernel
theorem dX6_addItem_57 : decode cX6_addItem 57 = .ok (.iastore, 1) := by decide +kernel
theorem dX6_addItem_58 : decode cX6_addItem 58 = .ok (.aload_n 0, 1) := by decide +kernel
theorem dX6_addItem_59 : decode cX6_addItem 59 = .ok (.dup, 1) := by decide +kernel
theorem dX6_addItem_60 : decode cX6_addItem 60 = .ok (.getfield 280, 3) := by decide +kernel
theorem dX6_addItem_63 : decode cX6_addItem 63 = .ok (.iconst 1, 1) := by decide +kernel
theorem dX6_addItem_64 : decode cX6_addItem 64 = .ok (.iadd, 1) := by decide +kernel
theorem dX6_addItem_65 : decode cX6_addItem 65 = .ok (.putfield 280, 3) := by decide +kernel
theorem dX6_addItem_68 : decode cX6_addItem 68 = .ok (.return_, 1) := by decide +kernel
theorem dX6_takesWord_0 : decode cX6_takesWord 0 = .ok (.aload_n 0, 1) := by decide +kernel
theorem dX6_takesWord_1 : decode cX6_takesWord 1 = .ok (.getfield 269, 3) := by decide +kernel
theorem dX6_takesWord_4 : decode cX6_takesWord 4 = .ok (.ifCond .ne 15, 3) := by decide +kernel
theorem dX6_takesWord_7 : decode cX6_takesWord 7 = .ok (.aload_n 0, 1) := by decide +kernel
theorem dX6_takesWord_8 : decode cX6_takesWord 8 = .ok (.aload_n 1, 1) := by decide +kernel
theorem dX6_takesWord_9 : decode cX6_takesWord 9 = .ok (.invokevirtual 283, 3) := by decide +kernel
theorem dX6_takesWord_12 : decode cX6_takesWord 12 = .ok (.ifCond .eq 7, 3) := by decide +kernel
theorem dX6_takesWord_15 : decode cX6_takesWord 15 = .ok (.iconst 1, 1) := by decide +kernel
theorem dX6_takesWord_16 : decode cX6_takesWord 16 = .ok (.goto 4, 3) := by decide +kernel
theorem dX6_takesWord_19 : decode cX6_takesWord 19 = .ok (.iconst 0, 1) := by decide +kernel
theorem dX6_takesWord_20 : decode cX6_takesWord 20 = .ok (.istore_n 2, 1) := by decide +kernel
theorem dX6_takesWord_21 : decode cX6_takesWord 21 = .ok (.iload_n 2, 1) := by decide +kernel
theorem dX6_takesWord_22 : decode cX6_takesWord 22 = .ok (.ifCond .eq 8, 3) := by decide +kernel
theorem dX6_takesWord_25 : decode cX6_takesWord 25 = .ok (.aload_n 0, 1) := by decide +kernel
theorem dX6_takesWord_26 : decode cX6_takesWord 26 = .ok (.iconst 1, 1) := by decide +kernel
theorem dX6_takesWord_27 : decode cX6_takesWord 27 = .ok (.invokevirtual 276, 3) := by decide +kernel
theorem dX6_takesWord_30 : decode cX6_takesWord 30 = .ok (.iload_n 2, 1) := by decide +kernel
theorem dX6_takesWord_31 : decode cX6_takesWord 31 = .ok (.ireturn, 1) := by decide +kernel
theorem dX6_readBust_0 : decode cX6_readBust 0 = .ok (.aload_n 0, 1) := by decide +kernel
theorem dX6_readBust_1 : decode cX6_readBust 1 = .ok (.aload_n 0, 1) := by decide +kernel
theorem dX6_readBust_2 : decode cX6_readBust 2 = .ok (.getfield 287, 3) := by decide +kernel
theorem dX6_readBust_5 : decode cX6_readBust 5 = .ok (.bipush 8, 2) := by decide +kernel
theorem dX6_readBust_7 : decode cX6_readBust 7 = .ok (.if_icmp .ge 7, 3) := by decide +kernel
theorem dX6_readBust_10 : decode cX6_readBust 10 = .ok (.iconst 1, 1) := by decide +kernel
theorem dX6_readBust_11 : decode cX6_readBust 11 = .ok (.goto 4, 3) := by decide +kernel
theorem dX6_readBust_14 : decode cX6_readBust 14 = .ok (.iconst 0, 1) := by decide +kernel
theorem dX6_readBust_15 : decode cX6_readBust 15 = .ok (.invokevirtual 276, 3) := by decide +kernel
theorem dX6_readBust_18 : decode cX6_readBust 18 = .ok (.aload_n 0, 1) := by decide +kernel
theorem dX6_readBust_19 : decode cX6_readBust 19 = .ok (.iconst 0, 1) := by decide +kernel
theorem dX6_readBust_20 : decode cX6_readBust 20 = .ok (.sipush 999, 3) := by decide +kernel
theorem dX6_readBust_23 : decode cX6_readBust 23 = .ok (.invokevirtual 290, 3) := by decide +kernel
theorem dX6_readBust_26 : decode cX6_readBust 26 = .ok (.istore_n 2, 1) := by decide +kernel
theorem dX6_readBust_27 : decode cX6_readBust 27 = .ok (.aload_n 0, 1) := by decide +kernel
theorem dX6_readBust_28 : decode cX6_readBust 28 = .ok (.ldc_w 293, 3) := by decide +kernel
theorem dX6_readBust_31 : decode cX6_readBust 31 = .ok (.invokevirtual 294, 3) := by decide +kernel
theorem dX6_readBust_34 : decode cX6_readBust 34 = .ok (.ifCond .eq 14, 3) := by decide +kernel
theorem dX6_readBust_37 : decode cX6_readBust 37 = .ok (.aload_n 0, 1) := by decide +kernel
theorem dX6_readBust_38 : decode cX6_readBust 38 = .ok (.iconst 0, 1) := by decide +kernel
theorem dX6_readBust_39 : decode cX6_readBust 39 = .ok (.sipush 4095, 3) := by decide +kernel
theorem dX6_readBust_42 : decode cX6_readBust 42 = .ok (.invokevirtual 290, 3) := by decide +kernel
theorem dX6_readBust_45 : decode cX6_readBust 45 = .ok (.goto 4, 3) := by decide +kernel
theorem dX6_readBust_48 : decode cX6_readBust 48 = .ok (.iconst 3, 1) := by decide +kernel
theorem dX6_readBust_49 : decode cX6_readBust 49 = .ok (.istore_n 3, 1) := by decide +kernel
theorem dX6_readBust_50 : decode cX6_readBust 50 = .ok (.aload_n 0, 1) := by decide +kernel
theorem dX6_readBust_51 : decode cX6_readBust 51 = .ok (.ldc_w 297, 3) := by decide +kernel
theorem dX6_readBust_54 : decode cX6_readBust 54 = .ok (.invokevirtual 294, 3) := by decide +kernel
theorem dX6_readBust_57 : decode cX6_readBust 57 = .ok (.ifCond .eq 13, 3) := by decide +kernel
theorem dX6_readBust_60 : decode cX6_readBust 60 = .ok (.aload_n 0, 1) := by decide +kernel
theorem dX6_readBust_61 : decode cX6_readBust 61 = .ok (.iconst 0, 1) := by decide +kernel
theorem dX6_readBust_62 : decode cX6_readBust 62 = .ok (.bipush 15, 2) := by decide +kernel
theorem dX6_readBust_64 : decode cX6_readBust 64 = .ok (.invokevirtual 290, 3) := by decide +kernel
theorem dX6_readBust_67 : decode cX6_readBust 67 = .ok (.goto 4, 3) := by decide +kernel
theorem dX6_readBust_70 : decode cX6_readBust 70 = .ok (.iconst 0, 1) := by decide +kernel
theorem dX6_readBust_71 : decode cX6_readBust 71 = .ok (.istore 4, 2) := by decide +kernel
theorem dX6_readBust_73 : decode cX6_readBust 73 = .ok (.aload_n 0, 1) := by decide +kernel
theorem dX6_readBust_74 : decode cX6_readBust 74 = .ok (.iload_n 1, 1) := by decide +kernel
theorem dX6_readBust_75 : decode cX6_readBust 75 = .ok (.iload_n 2, 1) := by decide +kernel
theorem dX6_readBust_76 : decode cX6_readBust 76 = .ok (.iload_n 3, 1) := by decide +kernel
theorem dX6_readBust_77 : decode cX6_readBust 77 = .ok (.iload 4, 2) := by decide +kernel
theorem dX6_readBust_79 : decode cX6_readBust 79 = .ok (.aload_n 0, 1) := by decide +kernel
theorem dX6_readBust_80 : decode cX6_readBust 80 = .ok (.ldc_w 299, 3) := by decide +kernel
theorem dX6_readBust_83 : decode cX6_readBust 83 = .ok (.invokevirtual 294, 3) := by decide +kernel
theorem dX6_readBust_86 : decode cX6_readBust 86 = .ok (.ifCond .eq 7, 3) := by decide +kernel
theorem dX6_readBust_89 : decode cX6_readBust 89 = .ok (.iconst 1, 1) := by decide +kernel
theorem dX6_readBust_90 : decode cX6_readBust 90 = .ok (.goto 4, 3) := by decide +kernel
theorem dX6_readBust_93 : decode cX6_readBust 93 = .ok (.iconst 0, 1) := by decide +kernel
theorem dX6_readBust_94 : decode cX6_readBust 94 = .ok (.invokevirtual 301, 3) := by decide +kernel
theorem dX6_readBust_97 : decode cX6_readBust 97 = .ok (.aload_n 0, 1) := by decide +kernel
theorem dX6_readBust_98 : decode cX6_readBust 98 = .ok (.dup, 1) := by decide +kernel
theorem dX6_readBust_99 : decode cX6_readBust 99 = .ok (.getfield 287, 3) := by decide +kernel
theorem dX6_readBust_102 : decode cX6_readBust 102 = .ok (.iconst 1, 1) := by decide +kernel
theorem dX6_readBust_103 : decode cX6_readBust 103 = .ok (.iadd, 1) := by decide +kernel
theorem dX6_readBust_104 : decode cX6_readBust 104 = .ok (.putfield 287, 3) := by decide +kernel
theorem dX6_readBust_107 : decode cX6_readBust 107 = .ok (.return_, 1) := by decide +kernel
theorem dX6_readItem_0 : decode cX6_readItem 0 = .ok (.iconst (-1), 1) := by decide +kernel
theorem dX6_readItem_1 : decode cX6_readItem 1 = .ok (.istore_n 1, 1) := by decide +kernel
theorem dX6_readItem_2 : decode cX6_readItem 2 = .ok (.iconst 0, 1) := by decide +kernel
theorem dX6_readItem_3 : decode cX6_readItem 3 = .ok (.istore_n 2, 1) := by decide +kernel
theorem dX6_readItem_4 : decode cX6_readItem 4 = .ok (.iload_n 2, 1) := by decide +kernel
theorem dX6_readItem_5 : decode cX6_readItem 5 = .ok (.aload_n 0, 1) := by decide +kernel
theorem dX6_readItem_6 : decode cX6_readItem 6 = .ok (.getfield 41, 3) := by decide +kernel
theorem dX6_readItem_9 : decode cX6_readItem 9 = .ok (.arraylength, 1) := by decide +kernel
theorem dX6_readItem_10 : decode cX6_readItem 10 = .ok (.if_icmp .ge 28, 3) := by decide +kernel
theorem dX6_readItem_13 : decode cX6_readItem 13 = .ok (.aload_n 0, 1) := by decide +kernel
theorem dX6_readItem_14 : decode cX6_readItem 14 = .ok (.aload_n 0, 1) := by decide +kernel
theorem dX6_readItem_15 : decode cX6_readItem 15 = .ok (.getfield 41, 3) := by decide +kernel
theorem dX6_readItem_18 : decode cX6_readItem 18 = .ok (.iload_n 2, 1) := by decide +kernel
theorem dX6_readItem_19 : decode cX6_readItem 19 = .ok (.aaload, 1) := by decide +kernel
theorem dX6_readItem_20 : decode cX6_readItem 20 = .ok (.invokevirtual 283, 3) := by decide +kernel
theorem dX6_readItem_23 : decode cX6_readItem 23 = .ok (.ifCond .eq 7, 3) := by decide +kernel
theorem dX6_readItem_26 : decode cX6_readItem 26 = .ok (.iload_n 2, 1) := by decide +kernel
theorem dX6_readItem_27 : decode cX6_readItem 27 = .ok (.goto 4, 3) := by decide +kernel
theorem dX6_readItem_30 : decode cX6_readItem 30 = .ok (.iload_n 1, 1) := by decide +kernel
theorem dX6_readItem_31 : decode cX6_readItem 31 = .ok (.istore_n 1, 1) := by decide +kernel
theorem dX6_readItem_32 : decode cX6_readItem 32 = .ok (.iinc 2 1, 3) := by decide +kernel
theorem dX6_readItem_35 : decode cX6_readItem 35 = .ok (.goto (-31), 3) := by decide +kernel
theorem dX6_readItem_38 : decode cX6_readItem 38 = .ok (.iload_n 1, 1) := by decide +kernel
theorem dX6_readItem_39 : decode cX6_readItem 39 = .ok (.ifCond .lt 11, 3) := by decide +kernel
theorem dX6_readItem_42 : decode cX6_readItem 42 = .ok (.aload_n 0, 1) := by decide +kernel
theorem dX6_readItem_43 : decode cX6_readItem 43 = .ok (.iload_n 1, 1) := by decide +kernel
theorem dX6_readItem_44 : decode cX6_readItem 44 = .ok (.invokevirtual 305, 3) := by decide +kernel
theorem dX6_readItem_47 : decode cX6_readItem 47 = .ok (.goto 81, 3) := by decide +kernel
theorem dX6_readItem_50 : decode cX6_readItem 50 = .ok (.aload_n 0, 1) := by decide +kernel
theorem dX6_readItem_51 : decode cX6_readItem 51 = .ok (.ldc_w 308, 3) := by decide +kernel
theorem dX6_readItem_54 : decode cX6_readItem 54 = .ok (.invokevirtual 294, 3) := by decide +kernel
theorem dX6_readItem_57 : decode cX6_readItem 57 = .ok (.ifCond .eq 29, 3) := by decide +kernel
theorem dX6_readItem_60 : decode cX6_readItem 60 = .ok (.aload_n 0, 1) := by decide +kernel
theorem dX6_readItem_61 : decode cX6_readItem 61 = .ok (.iconst 0, 1) := by decide +kernel
theorem dX6_readItem_62 : decode cX6_readItem 62 = .ok (.iconst 5, 1) := by decide +kernel
theorem dX6_readItem_63 : decode cX6_readItem 63 = .ok (.invokevirtual 290, 3) := by decide +kernel
theorem dX6_readItem_66 : decode cX6_readItem 66 = .ok (.istore_n 2, 1) := by decide +kernel
theorem dX6_readItem_67 : decode cX6_readItem 67 = .ok (.aload_n 0, 1) := by decide +kernel
theorem dX6_readItem_68 : decode cX6_readItem 68 = .ok (.bipush 10, 2) := by decide +kernel
theorem dX6_readItem_70 : decode cX6_readItem 70 = .ok (.iload_n 2, 1) := by decide +kernel
theorem dX6_readItem_71 : decode cX6_readItem 71 = .ok (.aload_n 0, 1) := by decide +kernel
theorem dX6_readItem_72 : decode cX6_readItem 72 = .ok (.iconst 0, 1) := by decide +kernel
theorem dX6_readItem_73 : decode cX6_readItem 73 = .ok (.bipush 12, 2) := by decide +kernel
theorem dX6_readItem_75 : decode cX6_readItem 75 = .ok (.invokevirtual 290, 3) := by decide +kernel
theorem dX6_readItem_78 : decode cX6_readItem 78 = .ok (.iconst 0, 1) := by decide +kernel
theorem dX6_readItem_79 : decode cX6_readItem 79 = .ok (.iconst 0, 1) := by decide +kernel
theorem dX6_readItem_80 : decode cX6_readItem 80 = .ok (.invokevirtual 301, 3) := by decide +kernel
theorem dX6_readItem_83 : decode cX6_readItem 83 = .ok (.goto 45, 3) := by decide +kernel
theorem dX6_readItem_86 : decode cX6_readItem 86 = .ok (.aload_n 0, 1) := by decide +kernel
theorem dX6_readItem_87 : decode cX6_readItem 87 = .ok (.ldc_w 310, 3) := by decide +kernel
theorem dX6_readItem_90 : decode cX6_readItem 90 = .ok (.invokevirtual 294, 3) := by decide +kernel
theorem dX6_readItem_93 : decode cX6_readItem 93 = .ok (.ifCond .eq 30, 3) := by decide +kernel
theorem dX6_readItem_96 : decode cX6_readItem 96 = .ok (.aload_n 0, 1) := by decide +kernel
theorem dX6_readItem_97 : decode cX6_readItem 97 = .ok (.iconst 0, 1) := by decide +kernel
theorem dX6_readItem_98 : decode cX6_readItem 98 = .ok (.bipush 11, 2) := by decide +kernel
theorem dX6_readItem_100 : decode cX6_readItem 100 = .ok (.invokevirtual 290, 3) := by decide +kernel
theorem dX6_readItem_103 : decode cX6_readItem 103 = .ok (.istore_n 2, 1) := by decide +kernel
theorem dX6_readItem_104 : decode cX6_readItem 104 = .ok (.aload_n 0, 1) := by decide +kernel
theorem dX6_readItem_105 : decode cX6_readItem 105 = .ok (.bipush 11, 2) := by decide +kernel
theorem dX6_readItem_107 : decode cX6_readItem 107 = .ok (.iload_n 2, 1) := by decide +kernel
theorem dX6_readItem_108 : decode cX6_readItem 108 = .ok (.aload_n 0, 1) := by decide +kernel
theorem dX6_readItem_109 : decode cX6_readItem 109 = .ok (.iconst 0, 1) := by decide +kernel
theorem dX6_readItem_110 : decode cX6_readItem 110 = .ok (.bipush 99, 2) := by decide +kernel
theorem dX6_readItem_112 : decode cX6_readItem 112 = .ok (.invokevirtual 290, 3) := by decide +kernel
theorem dX6_readItem_115 : decode cX6_readItem 115 = .ok (.iconst 0, 1) := by decide +kernel
theorem dX6_readItem_116 : decode cX6_readItem 116 = .ok (.iconst 0, 1) := by decide +kernel
theorem dX6_readItem_117 : decode cX6_readItem 117 = .ok (.invokevirtual 301, 3) := by decide +kernel
theorem dX6_readItem_120 : decode cX6_readItem 120 = .ok (.goto 8, 3) := by decide +kernel
theorem dX6_readItem_123 : decode cX6_readItem 123 = .ok (.aload_n 0, 1) := by decide +kernel
theorem dX6_readItem_124 : decode cX6_readItem 124 = .ok (.iconst 0, 1) := by decide +kernel
theorem dX6_readItem_125 : decode cX6_readItem 125 = .ok (.invokevirtual 276, 3) := by decide +kernel
theorem dX6_readItem_128 : decode cX6_readItem 128 = .ok (.return_, 1) := by decide +kernel
theorem dX6_isToldSo_0 : decode cX6_isToldSo 0 = .ok (.aload_n 0, 1) := by decide +kernel
theorem dX6_isToldSo_1 : decode cX6_isToldSo 1 = .ok (.getfield 45, 3) := by decide +kernel
theorem dX6_isToldSo_4 : decode cX6_isToldSo 4 = .ok (.iload_n 1, 1) := by decide +kernel
theorem dX6_isToldSo_5 : decode cX6_isToldSo 5 = .ok (.iconst 1, 1) := by decide +kernel
theorem dX6_isToldSo_6 : decode cX6_isToldSo 6 = .ok (.iadd, 1) := by decide +kernel
theorem dX6_isToldSo_7 : decode cX6_isToldSo 7 = .ok (.iaload, 1) := by decide +kernel
theorem dX6_isToldSo_8 : decode cX6_isToldSo 8 = .ok (.istore_n 2, 1) := by decide +kernel
theorem dX6_isToldSo_9 : decode cX6_isToldSo 9 = .ok (.aload_n 0, 1) := by decide +kernel
theorem dX6_isToldSo_10 : decode cX6_isToldSo 10 = .ok (.getfield 45, 3) := by decide +kernel
theorem dX6_isToldSo_13 : decode cX6_isToldSo 13 = .ok (.iload_n 1, 1) := by decide +kernel
theorem dX6_isToldSo_14 : decode cX6_isToldSo 14 = .ok (.iconst 2, 1) := by decide +kernel
theorem dX6_isToldSo_15 : decode cX6_isToldSo 15 = .ok (.iadd, 1) := by decide +kernel
theorem dX6_isToldSo_16 : decode cX6_isToldSo 16 = .ok (.iaload, 1) := by decide +kernel
theorem dX6_isToldSo_17 : decode cX6_isToldSo 17 = .ok (.istore_n 3, 1) := by decide +kernel
theorem dX6_isToldSo_18 : decode cX6_isToldSo 18 = .ok (.aload_n 0, 1) := by decide +kernel
theorem dX6_isToldSo_19 : decode cX6_isToldSo 19 = .ok (.getfield 45, 3) := by decide +kernel
theorem dX6_isToldSo_22 : decode cX6_isToldSo 22 = .ok (.iload_n 1, 1) := by decide +kernel
theorem dX6_isToldSo_23 : decode cX6_isToldSo 23 = .ok (.iaload, 1) := by decide +kernel
theorem dX6_isToldSo_24 : decode cX6_isToldSo 24 = .ok (.lookupswitch 53 #[(10, 28), (11, 40)], 28) := by decide +kernel
theorem dX6_isToldSo_52 : decode cX6_isToldSo 52 = .ok (.aload_n 0, 1) := by decide +kernel
theorem dX6_isToldSo_53 : decode cX6_isToldSo 53 = .ok (.getfield 9, 3) := by decide +kernel
theorem dX6_isToldSo_56 : decode cX6_isToldSo 56 = .ok (.iconst 4, 1) := by decide +kernel
theorem dX6_isToldSo_57 : decode cX6_isToldSo 57 = .ok (.iload_n 2, 1) := by decide +kernel
theorem dX6_isToldSo_58 : decode cX6_isToldSo 58 = .ok (.iadd, 1) := by decide +kernel
theorem dX6_isToldSo_59 : decode cX6_isToldSo 59 = .ok (.iload_n 3, 1) := by decide +kernel
theorem dX6_isToldSo_60 : decode cX6_isToldSo 60 = .ok (.iastore, 1) := by decide +kernel
theorem dX6_isToldSo_61 : decode cX6_isToldSo 61 = .ok (.goto 79, 3) := by decide +kernel
theorem dX6_isToldSo_64 : decode cX6_isToldSo 64 = .ok (.aload_n 0, 1) := by decide +kernel
theorem dX6_isToldSo_65 : decode cX6_isToldSo 65 = .ok (.getfield 9, 3) := by decide +kernel
theorem dX6_isToldSo_68 : decode cX6_isToldSo 68 = .ok (.bipush 10, 2) := by decide +kernel
theorem dX6_isToldSo_70 : decode cX6_isToldSo 70 = .ok (.iload_n 2, 1) := by decide +kernel
theorem dX6_isToldSo_71 : decode cX6_isToldSo 71 = .ok (.iadd, 1) := by decide +kernel
theorem dX6_isToldSo_72 : decode cX6_isToldSo 72 = .ok (.iload_n 3, 1) := by decide +kernel
theorem dX6_isToldSo_73 : decode cX6_isToldSo 73 = .ok (.iastore, 1) := by decide +kernel
theorem dX6_isToldSo_74 : decode cX6_isToldSo 74 = .ok (.goto 66, 3) := by decide +kernel
theorem dX6_isToldSo_77 : decode cX6_isToldSo 77 = .ok (.aload_n 0, 1) := by decide +kernel
theorem dX6_isToldSo_78 : decode cX6_isToldSo 78 = .ok (.aload_n 0, 1) := by decide +kernel
theorem dX6_isToldSo_79 : decode cX6_isToldSo 79 = .ok (.getfield 45, 3) := by decide +kernel
theorem dX6_isToldSo_82 : decode cX6_isToldSo 82 = .ok (.iload_n 1, 1) := by decide +kernel
theorem dX6_isToldSo_83 : decode cX6_isToldSo 83 = .ok (.iaload, 1) := by decide +kernel
theorem dX6_isToldSo_84 : decode cX6_isToldSo 84 = .ok (.iload_n 2, 1) := by decide +kernel
theorem dX6_isToldSo_85 : decode cX6_isToldSo 85 = .ok (.invokevirtual 98, 3) := by decide +kernel
theorem dX6_isToldSo_88 : decode cX6_isToldSo 88 = .ok (.istore 4, 2) := by decide +kernel
theorem dX6_isToldSo_90 : decode cX6_isToldSo 90 = .ok (.aload_n 0, 1) := by decide +kernel
theorem dX6_isToldSo_91 : decode cX6_isToldSo 91 = .ok (.getfield 9, 3) := by decide +kernel
theorem dX6_isToldSo_94 : decode cX6_isToldSo 94 = .ok (.iload 4, 2) := by decide +kernel
theorem dX6_isToldSo_96 : decode cX6_isToldSo 96 = .ok (.iconst 2, 1) := by decide +kernel
theorem dX6_isToldSo_97 : decode cX6_isToldSo 97 = .ok (.invokestatic 88, 3) := by decide +kernel
theorem dX6_isToldSo_100 : decode cX6_isToldSo 100 = .ok (.iload_n 3, 1) := by decide +kernel
theorem dX6_isToldSo_101 : decode cX6_isToldSo 101 = .ok (.iastore, 1) := by decide +kernel
theorem dX6_isToldSo_102 : decode cX6_isToldSo 102 = .ok (.aload_n 0, 1) := by decide +kernel
theorem dX6_isToldSo_103 : decode cX6_isToldSo 103 = .ok (.getfield 9, 3) := by decide +kernel
theorem dX6_isToldSo_106 : decode cX6_isToldSo 106 = .ok (.iload 4, 2) := by decide +kernel
theorem dX6_isToldSo_108 : decode cX6_isToldSo 108 = .ok (.iconst 3, 1) := by decide +kernel
theorem dX6_isToldSo_109 : decode cX6_isToldSo 109 = .ok (.invokestatic 88, 3) := by decide +kernel
theorem dX6_isToldSo_112 : decode cX6_isToldSo 112 = .ok (.aload_n 0, 1) := by decide +kernel
theorem dX6_isToldSo_113 : decode cX6_isToldSo 113 = .ok (.getfield 45, 3) := by decide +kernel
theorem dX6_isToldSo_116 : decode cX6_isToldSo 116 = .ok (.iload_n 1, 1) := by decide +kernel
theorem dX6_isToldSo_117 : decode cX6_isToldSo 117 = .ok (.iconst 3, 1) := by decide +kernel
theorem dX6_isToldSo_118 : decode cX6_isToldSo 118 = .ok (.iadd, 1) := by decide +kernel
theorem dX6_isToldSo_119 : decode cX6_isToldSo 119 = .ok (.iaload, 1) := by decide +kernel
theorem dX6_isToldSo_120 : decode cX6_isToldSo 120 = .ok (.iastore, 1) := by decide +kernel
theorem dX6_isToldSo_121 : decode cX6_isToldSo 121 = .ok (.aload_n 0, 1) := by decide +kernel
theorem dX6_isToldSo_122 : decode cX6_isToldSo 122 = .ok (.getfield 9, 3) := by decide +kernel
theorem dX6_isToldSo_125 : decode cX6_isToldSo 125 = .ok (.iload 4, 2) := by decide +kernel
theorem dX6_isToldSo_127 : decode cX6_isToldSo 127 = .ok (.iconst 5, 1) := by decide +kernel
theorem dX6_isToldSo_128 : decode cX6_isToldSo 128 = .ok (.invokestatic 88, 3) := by decide +kernel
theorem dX6_isToldSo_131 : decode cX6_isToldSo 131 = .ok (.aload_n 0, 1) := by decide +kernel
theorem dX6_isToldSo_132 : decode cX6_isToldSo 132 = .ok (.getfield 45, 3) := by decide +kernel
theorem dX6_isToldSo_135 : decode cX6_isToldSo 135 = .ok (.iload_n 1, 1) := by decide +kernel
theorem dX6_isToldSo_136 : decode cX6_isToldSo 136 = .ok (.iconst 4, 1) := by decide +kernel
theorem dX6_isToldSo_137 : decode cX6_isToldSo 137 = .ok (.iadd, 1) := by decide +kernel
theorem dX6_isToldSo_138 : decode cX6_isToldSo 138 = .ok (.iaload, 1) := by decide +kernel
theorem dX6_isToldSo_139 : decode cX6_isToldSo 139 = .ok (.iastore, 1) := by decide +kernel
theorem dX6_isToldSo_140 : decode cX6_isToldSo 140 = .ok (.return_, 1) := by decide +kernel
theorem dX6_text_0 : decode cX6_text 0 = .ok (.aload_n 0, 1) := by decide +kernel
theorem dX6_text_1 : decode cX6_text 1 = .ok (.iconst 0, 1) := by decide +kernel
theorem dX6_text_2 : decode cX6_text 2 = .ok (.putfield 247, 3) := by decide +kernel
theorem dX6_text_5 : decode cX6_text 5 = .ok (.aload_n 0, 1) := by decide +kernel
theorem dX6_text_6 : decode cX6_text 6 = .ok (.iconst 0, 1) := by decide +kernel
theorem dX6_text_7 : decode cX6_text 7 = .ok (.putfield 269, 3) := by decide +kernel
theorem dX6_text_10 : decode cX6_text 10 = .ok (.aload_n 0, 1) := by decide +kernel
theorem dX6_text_11 : decode cX6_text 11 = .ok (.iconst 0, 1) := by decide +kernel
theorem dX6_text_12 : decode cX6_text 12 = .ok (.putfield 280, 3) := by decide +kernel
theorem dX6_text_15 : decode cX6_text 15 = .ok (.aload_n 0, 1) := by decide +kernel
theorem dX6_text_16 : decode cX6_text 16 = .ok (.aload_n 0, 1) := by decide +kernel
theorem dX6_text_17 : decode cX6_text 17 = .ok (.getfield 9, 3) := by decide +kernel
theorem dX6_text_20 : decode cX6_text 20 = .ok (.iconst 1, 1) := by decide +kernel
theorem dX6_text_21 : decode cX6_text 21 = .ok (.iaload, 1) := by decide +kernel
theorem dX6_text_22 : decode cX6_text 22 = .ok (.putfield 287, 3) := by decide +kernel
theorem dX6_text_25 : decode cX6_text 25 = .ok (.aload_n 0, 1) := by decide +kernel
theorem dX6_text_26 : decode cX6_text 26 = .ok (.invokevirtual 273, 3) := by decide +kernel
theorem dX6_text_29 : decode cX6_text 29 = .ok (.aload_n 0, 1) := by decide +kernel
theorem dX6_text_30 : decode cX6_text 30 = .ok (.invokevirtual 312, 3) := by decide +kernel
theorem dX6_text_33 : decode cX6_text 33 = .ok (.aload_n 0, 1) := by decide +kernel
theorem dX6_text_34 : decode cX6_text 34 = .ok (.getfield 269, 3) := by decide +kernel
theorem dX6_text_37 : decode cX6_text 37 = .ok (.ifCond .ne 37, 3) := by decide +kernel
theorem dX6_text_40 : decode cX6_text 40 = .ok (.aload_n 0, 1) := by decide +kernel
theorem dX6_text_41 : decode cX6_text 41 = .ok (.getfield 259, 3) := by decide +kernel
theorem dX6_text_44 : decode cX6_text 44 = .ok (.iconst 3, 1) := by decide +kernel
theorem dX6_text_45 : decode cX6_text 45 = .ok (.if_icmp .ne 29, 3) := by decide +kernel
theorem dX6_text_48 : decode cX6_text 48 = .ok (.aload_n 0, 1) := by decide +kernel
theorem dX6_text_49 : decode cX6_text 49 = .ok (.getfield 22, 3) := by decide +kernel
theorem dX6_text_52 : decode cX6_text 52 = .ok (.aload_n 0, 1) := by decide +kernel
theorem dX6_text_53 : decode cX6_text 53 = .ok (.getfield 250, 3) := by decide +kernel
theorem dX6_text_56 : decode cX6_text 56 = .ok (.iaload, 1) := by decide +kernel
theorem dX6_text_57 : decode cX6_text 57 = .ok (.bipush 59, 2) := by decide +kernel
theorem dX6_text_59 : decode cX6_text 59 = .ok (.if_icmp .ne 15, 3) := by decide +kernel
theorem dX6_text_62 : decode cX6_text 62 = .ok (.aload_n 0, 1) := by decide +kernel
theorem dX6_text_63 : decode cX6_text 63 = .ok (.iconst 1, 1) := by decide +kernel
theorem dX6_text_64 : decode cX6_text 64 = .ok (.invokevirtual 276, 3) := by decide +kernel
theorem dX6_text_67 : decode cX6_text 67 = .ok (.aload_n 0, 1) := by decide +kernel
theorem dX6_text_68 : decode cX6_text 68 = .ok (.invokevirtual 312, 3) := by decide +kernel
theorem dX6_text_71 : decode cX6_text 71 = .ok (.goto (-38), 3) := by decide +kernel
theorem dX6_text_74 : decode cX6_text 74 = .ok (.aload_n 0, 1) := by decide +kernel
theorem dX6_text_75 : decode cX6_text 75 = .ok (.aload_n 0, 1) := by decide +kernel
theorem dX6_text_76 : decode cX6_text 76 = .ok (.getfield 259, 3) := by decide +kernel
theorem dX6_text_79 : decode cX6_text 79 = .ok (.ifCond .ne 7, 3) := by decide +kernel
theorem dX6_text_82 : decode cX6_text 82 = .ok (.iconst 1, 1) := by decide +kernel
theorem dX6_text_83 : decode cX6_text 83 = .ok (.goto 4, 3) := by decide +kernel
theorem dX6_text_86 : decode cX6_text 86 = .ok (.iconst 0, 1) := by decide +kernel
theorem dX6_text_87 : decode cX6_text 87 = .ok (.invokevirtual 276, 3) := by decide +kernel
theorem dX6_text_90 : decode cX6_text 90 = .ok (.aload_n 0, 1) := by decide +kernel
theorem dX6_text_91 : decode cX6_text 91 = .ok (.iconst 0, 1) := by decide +kernel
theorem dX6_text_92 : decode cX6_text 92 = .ok (.putfield 243, 3) := by decide +kernel
theorem dX6_text_95 : decode cX6_text 95 = .ok (.aload_n 0, 1) := by decide +kernel
theorem dX6_text_96 : decode cX6_text 96 = .ok (.getfield 269, 3) := by decide +kernel
theorem dX6_text_99 : decode cX6_text 99 = .ok (.ifCond .eq 10, 3) := by decide +kernel
theorem dX6_text_102 : decode cX6_text 102 = .ok (.iconst (-1), 1) := by decide +kernel
theorem dX6_text_103 : decode cX6_text 103 = .ok (.aload_n 0, 1) := by decide +kernel
theorem dX6_text_104 : decode cX6_text 104 = .ok (.getfield 250, 3) := by decide +kernel
theorem dX6_text_107 : decode cX6_text 107 = .ok (.isub, 1) := by decide +kernel
theorem dX6_text_108 : decode cX6_text 108 = .ok (.ireturn, 1) := by decide +kernel
theorem dX6_text_109 : decode cX6_text 109 = .ok (.iconst 0, 1) := by decide +kernel
theorem dX6_text_110 : decode cX6_text 110 = .ok (.istore_n 1, 1) := by decide +kernel
theorem dX6_text_111 : decode cX6_text 111 = .ok (.iload_n 1, 1) := by decide +kernel
theorem dX6_text_112 : decode cX6_text 112 = .ok (.aload_n 0, 1) := by decide +kernel
theorem dX6_text_113 : decode cX6_text 113 = .ok (.getfield 280, 3) := by decide +kernel
theorem dX6_text_116 : decode cX6_text 116 = .ok (.if_icmp .ge 16, 3) := by decide +kernel
theorem dX6_text_119 : decode cX6_text 119 = .ok (.aload_n 0, 1) := by decide +kernel
theorem dX6_text_120 : decode cX6_text 120 = .ok (.iconst 5, 1) := by decide +kernel
theorem dX6_text_121 : decode cX6_text 121 = .ok (.iload_n 1, 1) := by decide +kernel
theorem dX6_text_122 : decode cX6_text 122 = .ok (.imul, 1) := by decide +kernel
theorem dX6_text_123 : decode cX6_text 123 = .ok (.invokevirtual 315, 3) := by decide +kernel
theorem dX6_text_126 : decode cX6_text 126 = .ok (.iinc 1 1, 3) := by decide +kernel
theorem dX6_text_129 : decode cX6_text 129 = .ok (.goto (-18), 3) := by decide +kernel
theorem dX6_text_132 : decode cX6_text 132 = .ok (.aload_n 0, 1) := by decide +kernel
theorem dX6_text_133 : decode cX6_text 133 = .ok (.getfield 280, 3) := by decide +kernel
theorem dX6_text_136 : decode cX6_text 136 = .ok (.ireturn, 1) := by decide +kernel
theorem dX6_isSpot_0 : decode cX6_isSpot 0 = .ok (.iload_n 0, 1) := by decide +kernel
theorem dX6_isSpot_1 : decode cX6_isSpot 1 = .ok (.iconst 0, 1) := by decide +kernel
theorem dX6_isSpot_2 : decode cX6_isSpot 2 = .ok (.bipush 9, 2) := by decide +kernel
theorem dX6_isSpot_4 : decode cX6_isSpot 4 = .ok (.invokestatic 70, 3) := by decide +kernel
theorem dX6_isSpot_7 : decode cX6_isSpot 7 = .ok (.ireturn, 1) := by decide +kernel
theorem dX6_hold_0 : decode cX6_hold 0 = .ok (.iload_n 1, 1) := by decide +kernel
theorem dX6_hold_1 : decode cX6_hold 1 = .ok (.invokestatic 318, 3) := by decide +kernel
theorem dX6_hold_4 : decode cX6_hold 4 = .ok (.ifCond .eq 16, 3) := by decide +kernel
theorem dX6_hold_7 : decode cX6_hold 7 = .ok (.iload_n 2, 1) := by decide +kernel
theorem dX6_hold_8 : decode cX6_hold 8 = .ok (.iconst (-1), 1) := by decide +kernel
theorem dX6_hold_9 : decode cX6_hold 9 = .ok (.if_icmp .eq 18, 3) := by decide +kernel
theorem dX6_hold_12 : decode cX6_hold 12 = .ok (.aload_n 0, 1) := by decide +kernel
theorem dX6_hold_13 : decode cX6_hold 13 = .ok (.iload_n 2, 1) := by decide +kernel
theorem dX6_hold_14 : decode cX6_hold 14 = .ok (.invokevirtual 137, 3) := by decide +kernel
theorem dX6_hold_17 : decode cX6_hold 17 = .ok (.ifCond .ne 10, 3) := by decide +kernel
theorem dX6_hold_20 : decode cX6_hold 20 = .ok (.aload_n 0, 1) := by decide +kernel
theorem dX6_hold_21 : decode cX6_hold 21 = .ok (.ldc 60, 2) := by decide +kernel
theorem dX6_hold_23 : decode cX6_hold 23 = .ok (.invokevirtual 66, 3) := by decide +kernel
theorem dX6_hold_26 : decode cX6_hold 26 = .ok (.ireturn, 1) := by decide +kernel
theorem dX6_hold_27 : decode cX6_hold 27 = .ok (.aload_n 0, 1) := by decide +kernel
theorem dX6_hold_28 : decode cX6_hold 28 = .ok (.getfield 9, 3) := by decide +kernel
theorem dX6_hold_31 : decode cX6_hold 31 = .ok (.bipush 22, 2) := by decide +kernel
theorem dX6_hold_33 : decode cX6_hold 33 = .ok (.iload_n 1, 1) := by decide +kernel
theorem dX6_hold_34 : decode cX6_hold 34 = .ok (.iadd, 1) := by decide +kernel
theorem dX6_hold_35 : decode cX6_hold 35 = .ok (.iload_n 2, 1) := by decide +kernel
theorem dX6_hold_36 : decode cX6_hold 36 = .ok (.iastore, 1) := by decide +kernel
theorem dX6_hold_37 : decode cX6_hold 37 = .ok (.iconst 1, 1) := by decide +kernel
theorem dX6_hold_38 : decode cX6_hold 38 = .ok (.ireturn, 1) := by decide +kernel
theorem dX6_as_0 : decode cX6_as 0 = .ok (.iload_n 1, 1) := by decide +kernel
theorem dX6_as_1 : decode cX6_as 1 = .ok (.invokestatic 318, 3) := by decide +kernel
theorem dX6_as_4 : decode cX6_as 4 = .ok (.ifCond .eq 10, 3) := by decide +kernel
theorem dX6_as_7 : decode cX6_as 7 = .ok (.iload_n 2, 1) := by decide +kernel
theorem dX6_as_8 : decode cX6_as 8 = .ok (.invokestatic 91, 3) := by decide +kernel
theorem dX6_as_11 : decode cX6_as 11 = .ok (.ifCond .ne 10, 3) := by decide +kernel
theorem dX6_as_14 : decode cX6_as 14 = .ok (.aload_n 0, 1) := by decide +kernel
theorem dX6_as_15 : decode cX6_as 15 = .ok (.ldc 60, 2) := by decide +kernel
theorem dX6_as_17 : decode cX6_as 17 = .ok (.invokevirtual 66, 3) := by decide +kernel
theorem dX6_as_20 : decode cX6_as 20 = .ok (.ireturn, 1) := by decide +kernel
theorem dX6_as_21 : decode cX6_as 21 = .ok (.aload_n 0, 1) := by decide +kernel
theorem dX6_as_22 : decode cX6_as 22 = .ok (.getfield 9, 3) := by decide +kernel
theorem dX6_as_25 : decode cX6_as 25 = .ok (.bipush 22, 2) := by decide +kernel
theorem dX6_as_27 : decode cX6_as 27 = .ok (.iload_n 1, 1) := by decide +kernel
theorem dX6_as_28 : decode cX6_as 28 = .ok (.iadd, 1) := by decide +kernel
theorem dX6_as_29 : decode cX6_as 29 = .ok (.iaload, 1) := by decide +kernel
theorem dX6_as_30 : decode cX6_as 30 = .ok (.istore_n 3, 1) := by decide +kernel
theorem dX6_as_31 : decode cX6_as 31 = .ok (.iload_n 3, 1) := by decide +kernel
theorem dX6_as_32 : decode cX6_as 32 = .ok (.ifCond .ge 10, 3) := by decide +kernel
theorem dX6_as_35 : decode cX6_as 35 = .ok (.aload_n 0, 1) := by decide +kernel
theorem dX6_as_36 : decode cX6_as 36 = .ok (.ldc 227, 2) := by decide +kernel
theorem dX6_as_38 : decode cX6_as 38 = .ok (.invokevirtual 66, 3) := by decide +kernel
theorem dX6_as_41 : decode cX6_as 41 = .ok (.ireturn, 1) := by decide +kernel
theorem dX6_as_42 : decode cX6_as 42 = .ok (.aload_n 0, 1) := by decide +kernel
theorem dX6_as_43 : decode cX6_as 43 = .ok (.iload_n 3, 1) := by decide +kernel
theorem dX6_as_44 : decode cX6_as 44 = .ok (.iconst 0, 1) := by decide +kernel
theorem dX6_as_45 : decode cX6_as 45 = .ok (.invokevirtual 101, 3) := by decide +kernel
theorem dX6_as_48 : decode cX6_as 48 = .ok (.iload_n 2, 1) := by decide +kernel
theorem dX6_as_49 : decode cX6_as 49 = .ok (.invokestatic 321, 3) := by decide +kernel
theorem dX6_as_52 : decode cX6_as 52 = .ok (.ifCond .eq 7, 3) := by decide +kernel
theorem dX6_as_55 : decode cX6_as 55 = .ok (.iload_n 3, 1) := by decide +kernel
theorem dX6_as_56 : decode cX6_as 56 = .ok (.goto 10, 3) := by decide +kernel
theorem dX6_as_59 : decode cX6_as 59 = .ok (.aload_n 0, 1) := by decide +kernel
theorem dX6_as_60 : decode cX6_as 60 = .ok (.ldc_w 324, 3) := by decide +kernel
theorem dX6_as_63 : decode cX6_as 63 = .ok (.invokevirtual 66, 3) := by decide +kernel
theorem dX6_as_66 : decode cX6_as 66 = .ok (.ireturn, 1) := by decide +kernel
theorem dX6_isSheet_0 : decode cX6_isSheet 0 = .ok (.iload_n 0, 1) := by decide +kernel
theorem dX6_isSheet_1 : decode cX6_isSheet 1 = .ok (.iconst 0, 1) := by decide +kernel
theorem dX6_isSheet_2 : decode cX6_isSheet 2 = .ok (.iconst 3, 1) := by decide +kernel
theorem dX6_isSheet_3 : decode cX6_isSheet 3 = .ok (.invokestatic 70, 3) := by decide +kernel
theorem dX6_isSheet_6 : decode cX6_isSheet 6 = .ok (.ireturn, 1) := by decide +kernel
theorem dX6_cutTo_0 : decode cX6_cutTo 0 = .ok (.iload_n 1, 1) := by decide +kernel
theorem dX6_cutTo_1 : decode cX6_cutTo 1 = .ok (.bipush 8, 2) := by decide +kernel
theorem dX6_cutTo_3 : decode cX6_cutTo 3 = .ok (.if_icmp .ne 8, 3) := by decide +kernel
theorem dX6_cutTo_6 : decode cX6_cutTo 6 = .ok (.iload_n 0, 1) := by decide +kernel
theorem dX6_cutTo_7 : decode cX6_cutTo 7 = .ok (.i2b, 1) := by decide +kernel
theorem dX6_cutTo_8 : decode cX6_cutTo 8 = .ok (.goto 15, 3) := by decide +kernel
theorem dX6_cutTo_11 : decode cX6_cutTo 11 = .ok (.iload_n 1, 1) := by decide +kernel
theorem dX6_cutTo_12 : decode cX6_cutTo 12 = .ok (.bipush 16, 2) := by decide +kernel
theorem dX6_cutTo_14 : decode cX6_cutTo 14 = .ok (.if_icmp .ne 8, 3) := by decide +kernel
theorem dX6_cutTo_17 : decode cX6_cutTo 17 = .ok (.iload_n 0, 1) := by decide +kernel
theorem dX6_cutTo_18 : decode cX6_cutTo 18 = .ok (.i2s, 1) := by decide +kernel
theorem dX6_cutTo_19 : decode cX6_cutTo 19 = .ok (.goto 4, 3) := by decide +kernel
theorem dX6_cutTo_22 : decode cX6_cutTo 22 = .ok (.iload_n 0, 1) := by decide +kernel
theorem dX6_cutTo_23 : decode cX6_cutTo 23 = .ok (.ireturn, 1) := by decide +kernel
theorem dX6_sheet_0 : decode cX6_sheet 0 = .ok (.iload_n 1, 1) := by decide +kernel
theorem dX6_sheet_1 : decode cX6_sheet 1 = .ok (.invokestatic 224, 3) := by decide +kernel
theorem dX6_sheet_4 : decode cX6_sheet 4 = .ok (.ifCond .eq 25, 3) := by decide +kernel
theorem dX6_sheet_7 : decode cX6_sheet 7 = .ok (.iload_n 2, 1) := by decide +kernel
theorem dX6_sheet_8 : decode cX6_sheet 8 = .ok (.ifCond .eq 28, 3) := by decide +kernel
theorem dX6_sheet_11 : decode cX6_sheet 11 = .ok (.iload_n 2, 1) := by decide +kernel
theorem dX6_sheet_12 : decode cX6_sheet 12 = .ok (.bipush 8, 2) := by decide +kernel
theorem dX6_sheet_14 : decode cX6_sheet 14 = .ok (.if_icmp .eq 22, 3) := by decide +kernel
theorem dX6_sheet_17 : decode cX6_sheet 17 = .ok (.iload_n 2, 1) := by decide +kernel
theorem dX6_sheet_18 : decode cX6_sheet 18 = .ok (.bipush 16, 2) := by decide +kernel
theorem dX6_sheet_20 : decode cX6_sheet 20 = .ok (.if_icmp .eq 16, 3) := by decide +kernel
theorem dX6_sheet_23 : decode cX6_sheet 23 = .ok (.iload_n 2, 1) := by decide +kernel
theorem dX6_sheet_24 : decode cX6_sheet 24 = .ok (.bipush 32, 2) := by decide +kernel
theorem dX6_sheet_26 : decode cX6_sheet 26 = .ok (.if_icmp .eq 10, 3) := by decide +kernel
theorem dX6_sheet_29 : decode cX6_sheet 29 = .ok (.aload_n 0, 1) := by decide +kernel
theorem dX6_sheet_30 : decode cX6_sheet 30 = .ok (.ldc 60, 2) := by decide +kernel
theorem dX6_sheet_32 : decode cX6_sheet 32 = .ok (.invokevirtual 66, 3) := by decide +kernel
theorem dX6_sheet_35 : decode cX6_sheet 35 = .ok (.ireturn, 1) := by decide +kernel
theorem dX6_sheet_36 : decode cX6_sheet 36 = .ok (.iload_n 3, 1) := by decide +kernel
theorem dX6_sheet_37 : decode cX6_sheet 37 = .ok (.ifCond .ge 11, 3) := by decide +kernel
theorem dX6_sheet_40 : decode cX6_sheet 40 = .ok (.aload_n 0, 1) := by decide +kernel
theorem dX6_sheet_41 : decode cX6_sheet 41 = .ok (.ldc_w 325, 3) := by decide +kernel
theorem dX6_sheet_44 : decode cX6_sheet 44 = .ok (.invokevirtual 66, 3) := by decide +kernel
theorem dX6_sheet_47 : decode cX6_sheet 47 = .ok (.ireturn, 1) := by decide +kernel
theorem dX6_sheet_48 : decode cX6_sheet 48 = .ok (.iload_n 3, 1) := by decide +kernel
theorem dX6_sheet_49 : decode cX6_sheet 49 = .ok (.bipush 40, 2) := by decide +kernel
theorem dX6_sheet_51 : decode cX6_sheet 51 = .ok (.if_icmp .le 10, 3) := by decide +kernel
theorem dX6_sheet_54 : decode cX6_sheet 54 = .ok (.aload_n 0, 1) := by decide +kernel
theorem dX6_sheet_55 : decode cX6_sheet 55 = .ok (.ldc 60, 2) := by decide +kernel
theorem dX6_sheet_57 : decode cX6_sheet 57 = .ok (.invokevirtual 66, 3) := by decide +kernel
theorem dX6_sheet_60 : decode cX6_sheet 60 = .ok (.ireturn, 1) := by decide +kernel
theorem dX6_sheet_61 : decode cX6_sheet 61 = .ok (.aload_n 0, 1) := by decide +kernel
theorem dX6_sheet_62 : decode cX6_sheet 62 = .ok (.getfield 48, 3) := by decide +kernel
theorem dX6_sheet_65 : decode cX6_sheet 65 = .ok (.iload_n 1, 1) := by decide +kernel
theorem dX6_sheet_66 : decode cX6_sheet 66 = .ok (.iload_n 2, 1) := by decide +kernel
theorem dX6_sheet_67 : decode cX6_sheet 67 = .ok (.iastore, 1) := by decide +kernel
theorem dX6_sheet_68 : decode cX6_sheet 68 = .ok (.aload_n 0, 1) := by decide +kernel
theorem dX6_sheet_69 : decode cX6_sheet 69 = .ok (.getfield 51, 3) := by decide +kernel
theorem dX6_sheet_72 : decode cX6_sheet 72 = .ok (.iload_n 1, 1) := by decide +kernel
theorem dX6_sheet_73 : decode cX6_sheet 73 = .ok (.iload_n 2, 1) := by decide +kernel
theorem dX6_sheet_74 : decode cX6_sheet 74 = .ok (.ifCond .ne 7, 3) := by decide +kernel
theorem dX6_sheet_77 : decode cX6_sheet 77 = .ok (.iconst 0, 1) := by decide +kernel
theorem dX6_sheet_78 : decode cX6_sheet 78 = .ok (.goto 4, 3) := by decide +kernel
theorem dX6_sheet_81 : decode cX6_sheet 81 = .ok (.iload_n 3, 1) := by decide +kernel
theorem dX6_sheet_82 : decode cX6_sheet 82 = .ok (.iastore, 1) := by decide +kernel
theorem dX6_sheet_83 : decode cX6_sheet 83 = .ok (.iconst 0, 1) := by decide +kernel
theorem dX6_sheet_84 : decode cX6_sheet 84 = .ok (.istore 4, 2) := by decide +kernel
theorem dX6_sheet_86 : decode cX6_sheet 86 = .ok (.iload 4, 2) := by decide +kernel
theorem dX6_sheet_88 : decode cX6_sheet 88 = .ok (.bipush 40, 2) := by decide +kernel
theorem dX6_sheet_90 : decode cX6_sheet 90 = .ok (.if_icmp .ge 22, 3) := by decide +kernel
theorem dX6_sheet_93 : decode cX6_sheet 93 = .ok (.aload_n 0, 1) := by decide +kernel
theorem dX6_sheet_94 : decode cX6_sheet 94 = .ok (.getfield 54, 3) := by decide +kernel
theorem dX6_sheet_97 : decode cX6_sheet 97 = .ok (.bipush 40, 2) := by decide +kernel
theorem dX6_sheet_99 : decode cX6_sheet 99 = .ok (.iload_n 1, 1) := by decide +kernel
theorem dX6_sheet_100 : decode cX6_sheet 100 = .ok (.imul, 1) := by decide +kernel
theorem dX6_sheet_101 : decode cX6_sheet 101 = .ok (.iload 4, 2) := by decide +kernel
theorem dX6_sheet_103 : decode cX6_sheet 103 = .ok (.iadd, 1) := by decide +kernel
theorem dX6_sheet_104 : decode cX6_sheet 104 = .ok (.iconst 0, 1) := by decide +kernel
theorem dX6_sheet_105 : decode cX6_sheet 105 = .ok (.iastore, 1) := by decide +kernel
theorem dX6_sheet_106 : decode cX6_sheet 106 = .ok (.iinc 4 1, 3) := by decide +kernel
theorem dX6_sheet_109 : decode cX6_sheet 109 = .ok (.goto (-23), 3) := by decide +kernel
theorem dX6_sheet_112 : decode cX6_sheet 112 = .ok (.aload_n 0, 1) := by decide +kernel
theorem dX6_sheet_113 : decode cX6_sheet 113 = .ok (.getfield 51, 3) := by decide +kernel
theorem dX6_sheet_116 : decode cX6_sheet 116 = .ok (.iload_n 1, 1) := by decide +kernel
theorem dX6_sheet_117 : decode cX6_sheet 117 = .ok (.iaload, 1) := by decide +kernel
theorem dX6_sheet_118 : decode cX6_sheet 118 = .ok (.ireturn, 1) := by decide +kernel
theorem dX6_write_0 : decode cX6_write 0 = .ok (.iload_n 1, 1) := by decide +kernel
theorem dX6_write_1 : decode cX6_write 1 = .ok (.invokestatic 224, 3) := by decide +kernel
theorem dX6_write_4 : decode cX6_write 4 = .ok (.ifCond .ne 10, 3) := by decide +kernel
theorem dX6_write_7 : decode cX6_write 7 = .ok (.aload_n 0, 1) := by decide +kernel
theorem dX6_write_8 : decode cX6_write 8 = .ok (.ldc 60, 2) := by decide +kernel
theorem dX6_write_10 : decode cX6_write 10 = .ok (.invokevirtual 66, 3) := by decide +kernel
theorem dX6_write_13 : decode cX6_write 13 = .ok (.ireturn, 1) := by decide +kernel
theorem dX6_write_14 : decode cX6_write 14 = .ok (.aload_n 0, 1) := by decide +kernel
theorem dX6_write_15 : decode cX6_write 15 = .ok (.getfield 48, 3) := by decide +kernel
theorem dX6_write_18 : decode cX6_write 18 = .ok (.iload_n 1, 1) := by decide +kernel
theorem dX6_write_19 : decode cX6_write 19 = .ok (.iaload, 1) := by decide +kernel
theorem dX6_write_20 : decode cX6_write 20 = .ok (.ifCond .ne 10, 3) := by decide +kernel
theorem dX6_write_23 : decode cX6_write 23 = .ok (.aload_n 0, 1) := by decide +kernel
theorem dX6_write_24 : decode cX6_write 24 = .ok (.ldc 227, 2) := by decide +kernel
theorem dX6_write_26 : decode cX6_write 26 = .ok (.invokevirtual 66, 3) := by decide +kernel
theorem dX6_write_29 : decode cX6_write 29 = .ok (.ireturn, 1) := by decide +kernel
theorem dX6_write_30 : decode cX6_write 30 = .ok (.iload_n 2, 1) := by decide +kernel
theorem dX6_write_31 : decode cX6_write 31 = .ok (.iconst 0, 1) := by decide +kernel
theorem dX6_write_32 : decode cX6_write 32 = .ok (.aload_n 0, 1) := by decide +kernel
theorem dX6_write_33 : decode cX6_write 33 = .ok (.getfield 51, 3) := by decide +kernel
theorem dX6_write_36 : decode cX6_write 36 = .ok (.iload_n 1, 1) := by decide +kernel
theorem dX6_write_37 : decode cX6_write 37 = .ok (.iaload, 1) := by decide +kernel
theorem dX6_write_38 : decode cX6_write 38 = .ok (.iconst 1, 1) := by decide +kernel
theorem dX6_write_39 : decode cX6_write 39 = .ok (.isub, 1) := by decide +kernel
theorem dX6_write_40 : decode cX6_write 40 = .ok (.invokestatic 70, 3) := by decide +kernel
theorem dX6_write_43 : decode cX6_write 43 = .ok (.ifCond .ne 10, 3) := by decide +kernel
theorem dX6_write_46 : decode cX6_write 46 = .ok (.aload_n 0, 1) := by decide +kernel
theorem dX6_write_47 : decode cX6_write 47 = .ok (.ldc 60, 2) := by decide +kernel
theorem dX6_write_49 : decode cX6_write 49 = .ok (.invokevirtual 66, 3) := by decide +kernel
theorem dX6_write_52 : decode cX6_write 52 = .ok (.ireturn, 1) := by decide +kernel
theorem dX6_write_53 : decode cX6_write 53 = .ok (.aload_n 0, 1) := by decide +kernel
theorem dX6_write_54 : decode cX6_write 54 = .ok (.getfield 54, 3) := by decide +kernel
theorem dX6_write_57 : decode cX6_write 57 = .ok (.bipush 40, 2) := by decide +kernel
theorem dX6_write_59 : decode cX6_write 59 = .ok (.iload_n 1, 1) := by decide +kernel
theorem dX6_write_60 : decode cX6_write 60 = .ok (.imul, 1) := by decide +kernel
theorem dX6_write_61 : decode cX6_write 61 = .ok (.iload_n 2, 1) := by decide +kernel
theorem dX6_write_62 : decode cX6_write 62 = .ok (.iadd, 1) := by decide +kernel
theorem dX6_write_63 : decode cX6_write 63 = .ok (.iload_n 3, 1) := by decide +kernel
theorem dX6_write_64 : decode cX6_write 64 = .ok (.aload_n 0, 1) := by decide +kernel
theorem dX6_write_65 : decode cX6_write 65 = .ok (.getfield 48, 3) := by decide +kernel
theorem dX6_write_68 : decode cX6_write 68 = .ok (.iload_n 1, 1) := by decide +kernel
theorem dX6_write_69 : decode cX6_write 69 = .ok (.iaload, 1) := by decide +kernel
theorem dX6_write_70 : decode cX6_write 70 = .ok (.invokestatic 326, 3) := by decide +kernel
theorem dX6_write_73 : decode cX6_write 73 = .ok (.iastore, 1) := by decide +kernel
theorem dX6_write_74 : decode cX6_write 74 = .ok (.iconst 1, 1) := by decide +kernel
theorem dX6_write_75 : decode cX6_write 75 = .ok (.ireturn, 1) := by decide +kernel
theorem dX6_copy_0 : decode cX6_copy 0 = .ok (.iload_n 1, 1) := by decide +kernel
theorem dX6_copy_1 : decode cX6_copy 1 = .ok (.invokestatic 224, 3) := by decide +kernel
theorem dX6_copy_4 : decode cX6_copy 4 = .ok (.ifCond .eq 10, 3) := by decide +kernel
theorem dX6_copy_7 : decode cX6_copy 7 = .ok (.iload_n 3, 1) := by decide +kernel
theorem dX6_copy_8 : decode cX6_copy 8 = .ok (.invokestatic 224, 3) := by decide +kernel
theorem dX6_copy_11 : decode cX6_copy 11 = .ok (.ifCond .ne 10, 3) := by decide +kernel
theorem dX6_copy_14 : decode cX6_copy 14 = .ok (.aload_n 0, 1) := by decide +kernel
theorem dX6_copy_15 : decode cX6_copy 15 = .ok (.ldc 60, 2) := by decide +kernel
theorem dX6_copy_17 : decode cX6_copy 17 = .ok (.invokevirtual 66, 3) := by decide +kernel
theorem dX6_copy_20 : decode cX6_copy 20 = .ok (.ireturn, 1) := by decide +kernel
theorem dX6_copy_21 : decode cX6_copy 21 = .ok (.aload_n 0, 1) := by decide +kernel
theorem dX6_copy_22 : decode cX6_copy 22 = .ok (.getfield 48, 3) := by decide +kernel
theorem dX6_copy_25 : decode cX6_copy 25 = .ok (.iload_n 1, 1) := by decide +kernel
theorem dX6_copy_26 : decode cX6_copy 26 = .ok (.iaload, 1) := by decide +kernel
theorem dX6_copy_27 : decode cX6_copy 27 = .ok (.ifCond .eq 12, 3) := by decide +kernel
theorem dX6_copy_30 : decode cX6_copy 30 = .ok (.aload_n 0, 1) := by decide +kernel
theorem dX6_copy_31 : decode cX6_copy 31 = .ok (.getfield 48, 3) := by decide +kernel
theorem dX6_copy_34 : decode cX6_copy 34 = .ok (.iload_n 3, 1) := by decide +kernel
theorem dX6_copy_35 : decode cX6_copy 35 = .ok (.iaload, 1) := by decide +kernel
theorem dX6_copy_36 : decode cX6_copy 36 = .ok (.ifCond .ne 10, 3) := by decide +kernel
theorem dX6_copy_39 : decode cX6_copy 39 = .ok (.aload_n 0, 1) := by decide +kernel
theorem dX6_copy_40 : decode cX6_copy 40 = .ok (.ldc 227, 2) := by decide +kernel
theorem dX6_copy_42 : decode cX6_copy 42 = .ok (.invokevirtual 66, 3) := by decide +kernel
theorem dX6_copy_45 : decode cX6_copy 45 = .ok (.ireturn, 1) := by decide +kernel
theorem dX6_copy_46 : decode cX6_copy 46 = .ok (.aload_n 0, 1) := by decide +kernel
theorem dX6_copy_47 : decode cX6_copy 47 = .ok (.getfield 48, 3) := by decide +kernel
theorem dX6_copy_50 : decode cX6_copy 50 = .ok (.iload_n 1, 1) := by decide +kernel
theorem dX6_copy_51 : decode cX6_copy 51 = .ok (.iaload, 1) := by decide +kernel
theorem dX6_copy_52 : decode cX6_copy 52 = .ok (.aload_n 0, 1) := by decide +kernel
theorem dX6_copy_53 : decode cX6_copy 53 = .ok (.getfield 48, 3) := by decide +kernel
theorem dX6_copy_56 : decode cX6_copy 56 = .ok (.iload_n 3, 1) := by decide +kernel
theorem dX6_copy_57 : decode cX6_copy 57 = .ok (.iaload, 1) := by decide +kernel
theorem dX6_copy_58 : decode cX6_copy 58 = .ok (.if_icmp .eq 11, 3) := by decide +kernel
theorem dX6_copy_61 : decode cX6_copy 61 = .ok (.aload_n 0, 1) := by decide +kernel
theorem dX6_copy_62 : decode cX6_copy 62 = .ok (.ldc_w 324, 3) := by decide +kernel
theorem dX6_copy_65 : decode cX6_copy 65 = .ok (.invokevirtual 66, 3) := by decide +kernel
theorem dX6_copy_68 : decode cX6_copy 68 = .ok (.ireturn, 1) := by decide +kernel
theorem dX6_copy_69 : decode cX6_copy 69 = .ok (.iload_n 2, 1) := by decide +kernel
theorem dX6_copy_70 : decode cX6_copy 70 = .ok (.ifCond .lt 48, 3) := by decide +kernel
theorem dX6_copy_73 : decode cX6_copy 73 = .ok (.iload 4, 2) := by decide +kernel
theorem dX6_copy_75 : decode cX6_copy 75 = .ok (.ifCond .lt 43, 3) := by decide +kernel
theorem dX6_copy_78 : decode cX6_copy 78 = .ok (.iload 5, 2) := by decide +kernel
theorem dX6_copy_80 : decode cX6_copy 80 = .ok (.ifCond .lt 38, 3) := by decide +kernel
theorem dX6_copy_83 : decode cX6_copy 83 = .ok (.iload_n 2, 1) := by decide +kernel
theorem dX6_copy_84 : decode cX6_copy 84 = .ok (.i2l, 1) := by decide +kernel
theorem dX6_copy_85 : decode cX6_copy 85 = .ok (.iload 5, 2) := by decide +kernel
theorem dX6_copy_87 : decode cX6_copy 87 = .ok (.i2l, 1) := by decide +kernel
theorem dX6_copy_88 : decode cX6_copy 88 = .ok (.ladd, 1) := by decide +kernel
theorem dX6_copy_89 : decode cX6_copy 89 = .ok (.aload_n 0, 1) := by decide +kernel
theorem dX6_copy_90 : decode cX6_copy 90 = .ok (.getfield 51, 3) := by decide +kernel
theorem dX6_copy_93 : decode cX6_copy 93 = .ok (.iload_n 1, 1) := by decide +kernel
theorem dX6_copy_94 : decode cX6_copy 94 = .ok (.iaload, 1) := by decide +kernel
theorem dX6_copy_95 : decode cX6_copy 95 = .ok (.i2l, 1) := by decide +kernel
theorem dX6_copy_96 : decode cX6_copy 96 = .ok (.lcmp, 1) := by decide +kernel
theorem dX6_copy_97 : decode cX6_copy 97 = .ok (.ifCond .gt 21, 3) := by decide +kernel
theorem dX6_copy_100 : decode cX6_copy 100 = .ok (.iload 4, 2) := by decide +kernel
theorem dX6_copy_102 : decode cX6_copy 102 = .ok (.i2l, 1) := by decide +kernel
theorem dX6_copy_103 : decode cX6_copy 103 = .ok (.iload 5, 2) := by decide +kernel
theorem dX6_copy_105 : decode cX6_copy 105 = .ok (.i2l, 1) := by decide +kernel
theorem dX6_copy_106 : decode cX6_copy 106 = .ok (.ladd, 1) := by decide +kernel
theorem dX6_copy_107 : decode cX6_copy 107 = .ok (.aload_n 0, 1) := by decide +kernel
theorem dX6_copy_108 : decode cX6_copy 108 = .ok (.getfield 51, 3) := by decide +kernel
theorem dX6_copy_111 : decode cX6_copy 111 = .ok (.iload_n 3, 1) := by decide +kernel
theorem dX6_copy_112 : decode cX6_copy 112 = .ok (.iaload, 1) := by decide +kernel
theorem dX6_copy_113 : decode cX6_copy 113 = .ok (.i2l, 1) := by decide +kernel
theorem dX6_copy_114 : decode cX6_copy 114 = .ok (.lcmp, 1) := by decide +kernel
theorem dX6_copy_115 : decode cX6_copy 115 = .ok (.ifCond .le 10, 3) := by decide +kernel
theorem dX6_copy_118 : decode cX6_copy 118 = .ok (.aload_n 0, 1) := by decide +kernel
theorem dX6_copy_119 : decode cX6_copy 119 = .ok (.ldc 60, 2) := by decide +kernel
theorem dX6_copy_121 : decode cX6_copy 121 = .ok (.invokevirtual 66, 3) := by decide +kernel
theorem dX6_copy_124 : decode cX6_copy 124 = .ok (.ireturn, 1) := by decide +kernel
theorem dX6_copy_125 : decode cX6_copy 125 = .ok (.iconst 0, 1) := by decide +kernel
theorem dX6_copy_126 : decode cX6_copy 126 = .ok (.istore 6, 2) := by decide +kernel
theorem dX6_copy_128 : decode cX6_copy 128 = .ok (.iload 6, 2) := by decide +kernel
theorem dX6_copy_130 : decode cX6_copy 130 = .ok (.iload 5, 2) := by decide +kernel
theorem dX6_copy_132 : decode cX6_copy 132 = .ok (.if_icmp .ge 30, 3) := by decide +kernel
theorem dX6_copy_135 : decode cX6_copy 135 = .ok (.aload_n 0, 1) := by decide +kernel
theorem dX6_copy_136 : decode cX6_copy 136 = .ok (.getfield 57, 3) := by decide +kernel
theorem dX6_copy_139 : decode cX6_copy 139 = .ok (.iload 6, 2) := by decide +kernel
theorem dX6_copy_141 : decode cX6_copy 141 = .ok (.aload_n 0, 1) := by decide +kernel
theorem dX6_copy_142 : decode cX6_copy 142 = .ok (.getfield 54, 3) := by decide +kernel
theorem dX6_copy_145 : decode cX6_copy 145 = .ok (.bipush 40, 2) := by decide +kernel
theorem dX6_copy_147 : decode cX6_copy 147 = .ok (.iload_n 1, 1) := by decide +kernel
theorem dX6_copy_148 : decode cX6_copy 148 = .ok (.imul, 1) := by decide +kernel
theorem dX6_copy_149 : decode cX6_copy 149 = .ok (.iload_n 2, 1) := by decide +kernel
theorem dX6_copy_150 : decode cX6_copy 150 = .ok (.iadd, 1) := by decide +kernel
theorem dX6_copy_151 : decode cX6_copy 151 = .ok (.iload 6, 2) := by decide +kernel
theorem dX6_copy_153 : decode cX6_copy 153 = .ok (.iadd, 1) := by decide +kernel
theorem dX6_copy_154 : decode cX6_copy 154 = .ok (.iaload, 1) := by decide +kernel
theorem dX6_copy_155 : decode cX6_copy 155 = .ok (.iastore, 1) := by decide +kernel
theorem dX6_copy_156 : decode cX6_copy 156 = .ok (.iinc 6 1, 3) := by decide +kernel
theorem dX6_copy_159 : decode cX6_copy 159 = .ok (.goto (-31), 3) := by decide +kernel
theorem dX6_copy_162 : decode cX6_copy 162 = .ok (.iconst 0, 1) := by decide +kernel
theorem dX6_copy_163 : decode cX6_copy 163 = .ok (.istore 6, 2) := by decide +kernel
theorem dX6_copy_165 : decode cX6_copy 165 = .ok (.iload 6, 2) := by decide +kernel
theorem dX6_copy_167 : decode cX6_copy 167 = .ok (.iload 5, 2) := by decide +kernel
theorem dX6_copy_169 : decode cX6_copy 169 = .ok (.if_icmp .ge 31, 3) := by decide +kernel
theorem dX6_copy_172 : decode cX6_copy 172 = .ok (.aload_n 0, 1) := by decide +kernel
theorem dX6_copy_173 : decode cX6_copy 173 = .ok (.getfield 54, 3) := by decide +kernel
theorem dX6_copy_176 : decode cX6_copy 176 = .ok (.bipush 40, 2) := by decide +kernel
theorem dX6_copy_178 : decode cX6_copy 178 = .ok (.iload_n 3, 1) := by decide +kernel
theorem dX6_copy_179 : decode cX6_copy 179 = .ok (.imul, 1) := by decide +kernel
theorem dX6_copy_180 : decode cX6_copy 180 = .ok (.iload 4, 2) := by decide +kernel
theorem dX6_copy_182 : decode cX6_copy 182 = .ok (.iadd, 1) := by decide +kernel
theorem dX6_copy_183 : decode cX6_copy 183 = .ok (.iload 6, 2) := by decide +kernel
theorem dX6_copy_185 : decode cX6_copy 185 = .ok (.iadd, 1) := by decide +kernel
theorem dX6_copy_186 : decode cX6_copy 186 = .ok (.aload_n 0, 1) := by decide +kernel
theorem dX6_copy_187 : decode cX6_copy 187 = .ok (.getfield 57, 3) := by decide +kernel
theorem dX6_copy_190 : decode cX6_copy 190 = .ok (.iload 6, 2) := by decide +kernel
theorem dX6_copy_192 : decode cX6_copy 192 = .ok (.iaload, 1) := by decide +kernel
theorem dX6_copy_193 : decode cX6_copy 193 = .ok (.iastore, 1) := by decide +kernel
theorem dX6_copy_194 : decode cX6_copy 194 = .ok (.iinc 6 1, 3) := by decide +kernel
theorem dX6_copy_197 : decode cX6_copy 197 = .ok (.goto (-32), 3) := by decide +kernel
theorem dX6_copy_200 : decode cX6_copy 200 = .ok (.iload 5, 2) := by decide +kernel
theorem dX6_copy_202 : decode cX6_copy 202 = .ok (.ireturn, 1) := by decide +kernel
theorem dX6_above_0 : decode cX6_above 0 = .ok (.iload_n 0, 1) := by decide +kernel
theorem dX6_above_1 : decode cX6_above 1 = .ok (.ifCond .ne 7, 3) := by decide +kernel
theorem dX6_above_4 : decode cX6_above 4 = .ok (.iconst (-1), 1) := by decide +kernel
theorem dX6_above_5 : decode cX6_above 5 = .ok (.goto 32, 3) := by decide +kernel
theorem dX6_above_8 : decode cX6_above 8 = .ok (.iload_n 0, 1) := by decide +kernel
theorem dX6_above_9 : decode cX6_above 9 = .ok (.iconst 3, 1) := by decide +kernel
theorem dX6_above_10 : decode cX6_above 10 = .ok (.if_icmp .ne 7, 3) := by decide +kernel
theorem dX6_above_13 : decode cX6_above 13 = .ok (.iconst 2, 1) := by decide +kernel
theorem dX6_above_14 : decode cX6_above 14 = .ok (.goto 23, 3) := by decide +kernel
theorem dX6_above_17 : decode cX6_above 17 = .ok (.iload_n 0, 1) := by decide +kernel
theorem dX6_above_18 : decode cX6_above 18 = .ok (.iconst 4, 1) := by decide +kernel
theorem dX6_above_19 : decode cX6_above 19 = .ok (.if_icmp .ne 7, 3) := by decide +kernel
theorem dX6_above_22 : decode cX6_above 22 = .ok (.iconst 3, 1) := by decide +kernel
theorem dX6_above_23 : decode cX6_above 23 = .ok (.goto 14, 3) := by decide +kernel
theorem dX6_above_26 : decode cX6_above 26 = .ok (.iload_n 0, 1) := by decide +kernel
theorem dX6_above_27 : decode cX6_above 27 = .ok (.bipush 6, 2) := by decide +kernel
theorem dX6_above_29 : decode cX6_above 29 = .ok (.if_icmp .ne 7, 3) := by decide +kernel
theorem dX6_above_32 : decode cX6_above 32 = .ok (.iconst 1, 1) := by decide +kernel
theorem dX6_above_33 : decode cX6_above 33 = .ok (.goto 4, 3) := by decide +kernel
theorem dX6_above_36 : decode cX6_above 36 = .ok (.iconst 0, 1) := by decide +kernel
theorem dX6_above_37 : decode cX6_above 37 = .ok (.ireturn, 1) := by decide +kernel
theorem dX6_isUnder_0 : decode cX6_isUnder 0 = .ok (.iload_n 0, 1) := by decide +kernel
theorem dX6_isUnder_1 : decode cX6_isUnder 1 = .ok (.istore_n 2, 1) := by decide +kernel
theorem dX6_isUnder_2 : decode cX6_isUnder 2 = .ok (.iload_n 2, 1) := by decide +kernel
theorem dX6_isUnder_3 : decode cX6_isUnder 3 = .ok (.ifCond .lt 16, 3) := by decide +kernel
theorem dX6_isUnder_6 : decode cX6_isUnder 6 = .ok (.iload_n 2, 1) := by decide +kernel
theorem dX6_isUnder_7 : decode cX6_isUnder 7 = .ok (.iload_n 1, 1) := by decide +kernel
theorem dX6_isUnder_8 : decode cX6_isUnder 8 = .ok (.if_icmp .eq 11, 3) := by decide +kernel
theorem dX6_isUnder_11 : decode cX6_isUnder 11 = .ok (.iload_n 2, 1) := by decide +kernel
theorem dX6_isUnder_12 : decode cX6_isUnder 12 = .ok (.invokestatic 329, 3) := by decide +kernel
theorem dX6_isUnder_15 : decode cX6_isUnder 15 = .ok (.istore_n 2, 1) := by decide +kernel
theorem dX6_isUnder_16 : decode cX6_isUnder 16 = .ok (.goto (-14), 3) := by decide +kernel
theorem dX6_isUnder_19 : decode cX6_isUnder 19 = .ok (.iload_n 2, 1) := by decide +kernel
theorem dX6_isUnder_20 : decode cX6_isUnder 20 = .ok (.ifCond .lt 7, 3) := by decide +kernel
theorem dX6_isUnder_23 : decode cX6_isUnder 23 = .ok (.iconst 1, 1) := by decide +kernel
theorem dX6_isUnder_24 : decode cX6_isUnder 24 = .ok (.goto 4, 3) := by decide +kernel
theorem dX6_isUnder_27 : decode cX6_isUnder 27 = .ok (.iconst 0, 1) := by decide +kernel
theorem dX6_isUnder_28 : decode cX6_isUnder 28 = .ok (.ireturn, 1) := by decide +kernel
theorem dX6_load_0 : decode cX6_load 0 = .ok (.aload_n 0, 1) := by decide +kernel
theorem dX6_load_1 : decode cX6_load 1 = .ok (.iload_n 1, 1) := by decide +kernel
theorem dX6_load_2 : decode cX6_load 2 = .ok (.iconst 1, 1) := by decide +kernel
theorem dX6_load_3 : decode cX6_load 3 = .ok (.invokevirtual 231, 3) := by decide +kernel
theorem dX6_load_6 : decode cX6_load 6 = .ok (.ifCond .eq 14, 3) := by decide +kernel
theorem dX6_load_9 : decode cX6_load 9 = .ok (.aload_n 0, 1) := by decide +kernel
theorem dX6_load_10 : decode cX6_load 10 = .ok (.aload_n 0, 1) := by decide +kernel
theorem dX6_load_11 : decode cX6_load 11 = .ok (.iload_n 1, 1) := by decide +kernel
theorem dX6_load_12 : decode cX6_load 12 = .ok (.iconst 1, 1) := by decide +kernel
theorem dX6_load_13 : decode cX6_load 13 = .ok (.invokevirtual 231, 3) := by decide +kernel
theorem dX6_load_16 : decode cX6_load 16 = .ok (.invokevirtual 66, 3) := by decide +kernel
theorem dX6_load_19 : decode cX6_load 19 = .ok (.ireturn, 1) := by decide +kernel
theorem dX6_load_20 : decode cX6_load 20 = .ok (.iconst 0, 1) := by decide +kernel
theorem dX6_load_21 : decode cX6_load 21 = .ok (.istore_n 2, 1) := by decide +kernel
theorem dX6_load_22 : decode cX6_load 22 = .ok (.iload_n 2, 1) := by decide +kernel
theorem dX6_load_23 : decode cX6_load 23 = .ok (.aload_n 0, 1) := by decide +kernel
theorem dX6_load_24 : decode cX6_load 24 = .ok (.getfield 51, 3) := by decide +kernel
theorem dX6_load_27 : decode cX6_load 27 = .ok (.iload_n 1, 1) := by decide +kernel
theorem dX6_load_28 : decode cX6_load 28 = .ok (.iaload, 1) := by decide +kernel
theorem dX6_load_29 : decode cX6_load 29 = .ok (.if_icmp .ge 52, 3) := by decide +kernel
theorem dX6_load_32 : decode cX6_load 32 = .ok (.iload_n 2, 1) := by decide +kernel
theorem dX6_load_33 : decode cX6_load 33 = .ok (.invokestatic 74, 3) := by decide +kernel
theorem dX6_load_36 : decode cX6_load 36 = .ok (.ifCond .eq 45, 3) := by decide +kernel
theorem dX6_load_39 : decode cX6_load 39 = .ok (.aload_n 0, 1) := by decide +kernel
theorem dX6_load_40 : decode cX6_load 40 = .ok (.getfield 54, 3) := by decide +kernel
theorem dX6_load_43 : decode cX6_load 43 = .ok (.bipush 40, 2) := by decide +kernel
theorem dX6_load_45 : decode cX6_load 45 = .ok (.iload_n 1, 1) := by decide +kernel
theorem dX6_load_46 : decode cX6_load 46 = .ok (.imul, 1) := by decide +kernel
theorem dX6_load_47 : decode cX6_load 47 = .ok (.iload_n 2, 1) := by decide +kernel
theorem dX6_load_48 : decode cX6_load 48 = .ok (.iadd, 1) := by decide +kernel
theorem dX6_load_49 : decode cX6_load 49 = .ok (.iaload, 1) := by decide +kernel
theorem dX6_load_50 : decode cX6_load 50 = .ok (.invokestatic 78, 3) := by decide +kernel
theorem dX6_load_53 : decode cX6_load 53 = .ok (.ifCond .eq 28, 3) := by decide +kernel
theorem dX6_load_56 : decode cX6_load 56 = .ok (.aload_n 0, 1) := by decide +kernel
theorem dX6_load_57 : decode cX6_load 57 = .ok (.getfield 9, 3) := by decide +kernel
theorem dX6_load_60 : decode cX6_load 60 = .ok (.iconst 4, 1) := by decide +kernel
theorem dX6_load_61 : decode cX6_load 61 = .ok (.iload_n 2, 1) := by decide +kernel
theorem dX6_load_62 : decode cX6_load 62 = .ok (.iadd, 1) := by decide +kernel
theorem dX6_load_63 : decode cX6_load 63 = .ok (.aload_n 0, 1) := by decide +kernel
theorem dX6_load_64 : decode cX6_load 64 = .ok (.getfield 54, 3) := by decide +kernel
theorem dX6_load_67 : decode cX6_load 67 = .ok (.bipush 40, 2) := by decide +kernel
theorem dX6_load_69 : decode cX6_load 69 = .ok (.iload_n 1, 1) := by decide +kernel
theorem dX6_load_70 : decode cX6_load 70 = .ok (.imul, 1) := by decide +kernel
theorem dX6_load_71 : decode cX6_load 71 = .ok (.iload_n 2, 1) := by decide +kernel
theorem dX6_load_72 : decode cX6_load 72 = .ok (.iadd, 1) := by decide +kernel
theorem dX6_load_73 : decode cX6_load 73 = .ok (.iaload, 1) := by decide +kernel
theorem dX6_load_74 : decode cX6_load 74 = .ok (.iastore, 1) := by decide +kernel
theorem dX6_load_75 : decode cX6_load 75 = .ok (.iinc 2 1, 3) := by decide +kernel
theorem dX6_load_78 : decode cX6_load 78 = .ok (.goto (-56), 3) := by decide +kernel
theorem dX6_load_81 : decode cX6_load 81 = .ok (.iload_n 2, 1) := by decide +kernel
theorem dX6_load_82 : decode cX6_load 82 = .ok (.ireturn, 1) := by decide +kernel
theorem dX6_judge_0 : decode cX6_judge 0 = .ok (.aload_n 0, 1) := by decide +kernel
theorem dX6_judge_1 : decode cX6_judge 1 = .ok (.iload_n 1, 1) := by decide +kernel
theorem dX6_judge_2 : decode cX6_judge 2 = .ok (.iconst 1, 1) := by decide +kernel
theorem dX6_judge_3 : decode cX6_judge 3 = .ok (.invokevirtual 231, 3) := by decide +kernel
theorem dX6_judge_6 : decode cX6_judge 6 = .ok (.ifCond .eq 14, 3) := by decide +kernel
theorem dX6_judge_9 : decode cX6_judge 9 = .ok (.aload_n 0, 1) := by decide +kernel
theorem dX6_judge_10 : decode cX6_judge 10 = .ok (.aload_n 0, 1) := by decide +kernel
theorem dX6_judge_11 : decode cX6_judge 11 = .ok (.iload_n 1, 1) := by decide +kernel
theorem dX6_judge_12 : decode cX6_judge 12 = .ok (.iconst 1, 1) := by decide +kernel
theorem dX6_judge_13 : decode cX6_judge 13 = .ok (.invokevirtual 231, 3) := by decide +kernel
theorem dX6_judge_16 : decode cX6_judge 16 = .ok (.invokevirtual 66, 3) := by decide +kernel
theorem dX6_judge_19 : decode cX6_judge 19 = .ok (.ireturn, 1) := by decide +kernel
theorem dX6_judge_20 : decode cX6_judge 20 = .ok (.iconst 0, 1) := by decide +kernel
theorem dX6_judge_21 : decode cX6_judge 21 = .ok (.istore_n 2, 1) := by decide +kernel
theorem dX6_judge_22 : decode cX6_judge 22 = .ok (.iload_n 2, 1) := by decide +kernel
theorem dX6_judge_23 : decode cX6_judge 23 = .ok (.aload_n 0, 1) := by decide +kernel
theorem dX6_judge_24 : decode cX6_judge 24 = .ok (.getfield 51, 3) := by decide +kernel
theorem dX6_judge_27 : decode cX6_judge 27 = .ok (.iload_n 1, 1) := by decide +kernel
theorem dX6_judge_28 : decode cX6_judge 28 = .ok (.iaload, 1) := by decide +kernel
theorem dX6_judge_29 : decode cX6_judge 29 = .ok (.if_icmp .ge 36, 3) := by decide +kernel
theorem dX6_judge_32 : decode cX6_judge 32 = .ok (.aload_n 0, 1) := by decide +kernel
theorem dX6_judge_33 : decode cX6_judge 33 = .ok (.iload_n 2, 1) := by decide +kernel
theorem dX6_judge_34 : decode cX6_judge 34 = .ok (.invokevirtual 137, 3) := by decide +kernel
theorem dX6_judge_37 : decode cX6_judge 37 = .ok (.ifCond .eq 28, 3) := by decide +kernel
theorem dX6_judge_40 : decode cX6_judge 40 = .ok (.aload_n 0, 1) := by decide +kernel
theorem dX6_judge_41 : decode cX6_judge 41 = .ok (.getfield 54, 3) := by decide +kernel
theorem dX6_judge_44 : decode cX6_judge 44 = .ok (.bipush 40, 2) := by decide +kernel
theorem dX6_judge_46 : decode cX6_judge 46 = .ok (.iload_n 1, 1) := by decide +kernel
theorem dX6_judge_47 : decode cX6_judge 47 = .ok (.imul, 1) := by decide +kernel
theorem dX6_judge_48 : decode cX6_judge 48 = .ok (.iload_n 2, 1) := by decide +kernel
theorem dX6_judge_49 : decode cX6_judge 49 = .ok (.iadd, 1) := by decide +kernel
theorem dX6_judge_50 : decode cX6_judge 50 = .ok (.iaload, 1) := by decide +kernel
theorem dX6_judge_51 : decode cX6_judge 51 = .ok (.aload_n 0, 1) := by decide +kernel
theorem dX6_judge_52 : decode cX6_judge 52 = .ok (.iload_n 2, 1) := by decide +kernel
theorem dX6_judge_53 : decode cX6_judge 53 = .ok (.invokevirtual 134, 3) := by decide +kernel
theorem dX6_judge_56 : decode cX6_judge 56 = .ok (.if_icmp .ne 9, 3) := by decide +kernel
theorem dX6_judge_59 : decode cX6_judge 59 = .ok (.iinc 2 1, 3) := by decide +kernel
theorem dX6_judge_62 : decode cX6_judge 62 = .ok (.goto (-40), 3) := by decide +kernel
theorem dX6_judge_65 : decode cX6_judge 65 = .ok (.iload_n 2, 1) := by decide +kernel
theorem dX6_judge_66 : decode cX6_judge 66 = .ok (.aload_n 0, 1) := by decide +kernel
theorem dX6_judge_67 : decode cX6_judge 67 = .ok (.getfield 51, 3) := by decide +kernel
theorem dX6_judge_70 : decode cX6_judge 70 = .ok (.iload_n 1, 1) := by decide +kernel
theorem dX6_judge_71 : decode cX6_judge 71 = .ok (.iaload, 1) := by decide +kernel
theorem dX6_judge_72 : decode cX6_judge 72 = .ok (.if_icmp .ne 7, 3) := by decide +kernel
theorem dX6_judge_75 : decode cX6_judge 75 = .ok (.iconst 0, 1) := by decide +kernel
theorem dX6_judge_76 : decode cX6_judge 76 = .ok (.goto 6, 3) := by decide +kernel
theorem dX6_judge_79 : decode cX6_judge 79 = .ok (.iconst 1, 1) := by decide +kernel
theorem dX6_judge_80 : decode cX6_judge 80 = .ok (.iload_n 2, 1) := by decide +kernel
theorem dX6_judge_81 : decode cX6_judge 81 = .ok (.iadd, 1) := by decide +kernel
theorem dX6_judge_82 : decode cX6_judge 82 = .ok (.ireturn, 1) := by decide +kernel
theorem dX6_image_0 : decode cX6_image 0 = .ok (.aload_n 0, 1) := by decide +kernel
theorem dX6_image_1 : decode cX6_image 1 = .ok (.getfield 9, 3) := by decide +kernel
theorem dX6_image_4 : decode cX6_image 4 = .ok (.aload_n 0, 1) := by decide +kernel
theorem dX6_image_5 : decode cX6_image 5 = .ok (.getfield 13, 3) := by decide +kernel
theorem dX6_image_8 : decode cX6_image 8 = .ok (.invokestatic 61, 3) := by decide +kernel
theorem dX6_image_11 : decode cX6_image 11 = .ok (.aload_n 0, 1) := by decide +kernel
theorem dX6_image_12 : decode cX6_image 12 = .ok (.iconst 1, 1) := by decide +kernel
theorem dX6_image_13 : decode cX6_image 13 = .ok (.putfield 332, 3) := by decide +kernel
theorem dX6_image_16 : decode cX6_image 16 = .ok (.iconst 1, 1) := by decide +kernel
theorem dX6_image_17 : decode cX6_image 17 = .ok (.ireturn, 1) := by decide +kernel
theorem dX6_undo_0 : decode cX6_undo 0 = .ok (.aload_n 0, 1) := by decide +kernel
theorem dX6_undo_1 : decode cX6_undo 1 = .ok (.getfield 332, 3) := by decide +kernel
theorem dX6_undo_4 : decode cX6_undo 4 = .ok (.ifCond .ne 10, 3) := by decide +kernel
theorem dX6_undo_7 : decode cX6_undo 7 = .ok (.aload_n 0, 1) := by decide +kernel
theorem dX6_undo_8 : decode cX6_undo 8 = .ok (.ldc 65, 2) := by decide +kernel
theorem dX6_undo_10 : decode cX6_undo 10 = .ok (.invokevirtual 66, 3) := by decide +kernel
theorem dX6_undo_13 : decode cX6_undo 13 = .ok (.ireturn, 1) := by decide +kernel
theorem dX6_undo_14 : decode cX6_undo 14 = .ok (.aload_n 0, 1) := by decide +kernel
theorem dX6_undo_15 : decode cX6_undo 15 = .ok (.getfield 13, 3) := by decide +kernel
theorem dX6_undo_18 : decode cX6_undo 18 = .ok (.aload_n 0, 1) := by decide +kernel
theorem dX6_undo_19 : decode cX6_undo 19 = .ok (.getfield 9, 3) := by decide +kernel
theorem dX6_undo_22 : decode cX6_undo 22 = .ok (.invokestatic 61, 3) := by decide +kernel
theorem dX6_undo_25 : decode cX6_undo 25 = .ok (.aload_n 0, 1) := by decide +kernel
theorem dX6_undo_26 : decode cX6_undo 26 = .ok (.getfield 9, 3) := by decide +kernel
theorem dX6_undo_29 : decode cX6_undo 29 = .ok (.iconst 0, 1) := by decide +kernel
theorem dX6_undo_30 : decode cX6_undo 30 = .ok (.iaload, 1) := by decide +kernel
theorem dX6_undo_31 : decode cX6_undo 31 = .ok (.ireturn, 1) := by decide +kernel
theorem dX6_tear_0 : decode cX6_tear 0 = .ok (.aload_n 0, 1) := by decide +kernel
theorem dX6_tear_1 : decode cX6_tear 1 = .ok (.getfield 332, 3) := by decide +kernel
theorem dX6_tear_4 : decode cX6_tear 4 = .ok (.ifCond .eq 7, 3) := by decide +kernel
theorem dX6_tear_7 : decode cX6_tear 7 = .ok (.iconst 1, 1) := by decide +kernel
theorem dX6_tear_8 : decode cX6_tear 8 = .ok (.goto 4, 3) := by decide +kernel
theorem dX6_tear_11 : decode cX6_tear 11 = .ok (.iconst 0, 1) := by decide +kernel
theorem dX6_tear_12 : decode cX6_tear 12 = .ok (.istore_n 1, 1) := by decide +kernel
theorem dX6_tear_13 : decode cX6_tear 13 = .ok (.aload_n 0, 1) := by decide +kernel
theorem dX6_tear_14 : decode cX6_tear 14 = .ok (.iconst 0, 1) := by decide +kernel
theorem dX6_tear_15 : decode cX6_tear 15 = .ok (.putfield 332, 3) := by decide +kernel
theorem dX6_tear_18 : decode cX6_tear 18 = .ok (.iload_n 1, 1) := by decide +kernel
theorem dX6_tear_19 : decode cX6_tear 19 = .ok (.ireturn, 1) := by decide +kernel
theorem dX6_count_0 : decode cX6_count 0 = .ok (.iconst 0, 1) := by decide +kernel
theorem dX6_count_1 : decode cX6_count 1 = .ok (.istore_n 2, 1) := by decide +kernel
theorem dX6_count_2 : decode cX6_count 2 = .ok (.iload_n 1, 1) := by decide +kernel
theorem dX6_count_3 : decode cX6_count 3 = .ok (.tableswitch 127 0 7 #[45, 52, 59, 66, 71, 79, 84, 91], 45) := by decide +kernel
theorem dX6_count_48 : decode cX6_count 48 = .ok (.aload_n 0, 1) := by decide +kernel
theorem dX6_count_49 : decode cX6_count 49 = .ok (.getfield 9, 3) := by decide +kernel
theorem dX6_count_52 : decode cX6_count 52 = .ok (.iconst 0, 1) := by decide +kernel
theorem dX6_count_53 : decode cX6_count 53 = .ok (.iaload, 1) := by decide +kernel
theorem dX6_count_54 : decode cX6_count 54 = .ok (.ireturn, 1) := by decide +kernel
theorem dX6_count_55 : decode cX6_count 55 = .ok (.aload_n 0, 1) := by decide +kernel
theorem dX6_count_56 : decode cX6_count 56 = .ok (.getfield 9, 3) := by decide +kernel
theorem dX6_count_59 : decode cX6_count 59 = .ok (.iconst 1, 1) := by decide +kernel
theorem dX6_count_60 : decode cX6_count 60 = .ok (.iaload, 1) := by decide +kernel
theorem dX6_count_61 : decode cX6_count 61 = .ok (.ireturn, 1) := by decide +kernel
theorem dX6_count_62 : decode cX6_count 62 = .ok (.aload_n 0, 1) := by decide +kernel
theorem dX6_count_63 : decode cX6_count 63 = .ok (.getfield 9, 3) := by decide +kernel
theorem dX6_count_66 : decode cX6_count 66 = .ok (.iconst 3, 1) := by decide +kernel
theorem dX6_count_67 : decode cX6_count 67 = .ok (.iaload, 1) := by decide +kernel
theorem dX6_count_68 : decode cX6_count 68 = .ok (.ireturn, 1) := by decide +kernel
theorem dX6_count_69 : decode cX6_count 69 = .ok (.aload_n 0, 1) := by decide +kernel
theorem dX6_count_70 : decode cX6_count 70 = .ok (.invokevirtual 187, 3) := by decide +kernel
theorem dX6_count_73 : decode cX6_count 73 = .ok (.ireturn, 1) := by decide +kernel
theorem dX6_count_74 : decode cX6_count 74 = .ok (.aload_n 0, 1) := by decide +kernel
theorem dX6_count_75 : decode cX6_count 75 = .ok (.invokevirtual 202, 3) := by decide +kernel
theorem dX6_count_78 : decode cX6_count 78 = .ok (.invokestatic 111, 3) := by decide +kernel
theorem dX6_count_81 : decode cX6_count 81 = .ok (.ireturn, 1) := by decide +kernel
theorem dX6_count_82 : decode cX6_count 82 = .ok (.aload_n 0, 1) := by decide +kernel
theorem dX6_count_83 : decode cX6_count 83 = .ok (.getfield 243, 3) := by decide +kernel
theorem dX6_count_86 : decode cX6_count 86 = .ok (.ireturn, 1) := by decide +kernel
theorem dX6_count_87 : decode cX6_count 87 = .ok (.aload_n 0, 1) := by decide +kernel
theorem dX6_count_88 : decode cX6_count 88 = .ok (.getfield 9, 3) := by decide +kernel
theorem dX6_count_91 : decode cX6_count 91 = .ok (.iconst 2, 1) := by decide +kernel
theorem dX6_count_92 : decode cX6_count 92 = .ok (.iaload, 1) := by decide +kernel
theorem dX6_count_93 : decode cX6_count 93 = .ok (.ireturn, 1) := by decide +kernel
theorem dX6_count_94 : decode cX6_count 94 = .ok (.iconst 0, 1) := by decide +kernel
theorem dX6_count_95 : decode cX6_count 95 = .ok (.istore_n 3, 1) := by decide +kernel
theorem dX6_count_96 : decode cX6_count 96 = .ok (.iload_n 3, 1) := by decide +kernel
theorem dX6_count_97 : decode cX6_count 97 = .ok (.bipush 10, 2) := by decide +kernel
theorem dX6_count_99 : decode cX6_count 99 = .ok (.if_icmp .ge 29, 3) := by decide +kernel
theorem dX6_count_102 : decode cX6_count 102 = .ok (.iload_n 2, 1) := by decide +kernel
theorem dX6_count_103 : decode cX6_count 103 = .ok (.aload_n 0, 1) := by decide +kernel
theorem dX6_count_104 : decode cX6_count 104 = .ok (.getfield 9, 3) := by decide +kernel
theorem dX6_count_107 : decode cX6_count 107 = .ok (.bipush 22, 2) := by decide +kernel
theorem dX6_count_109 : decode cX6_count 109 = .ok (.iload_n 3, 1) := by decide +kernel
theorem dX6_count_110 : decode cX6_count 110 = .ok (.iadd, 1) := by decide +kernel
theorem dX6_count_111 : decode cX6_count 111 = .ok (.iaload, 1) := by decide +kernel
theorem dX6_count_112 : decode cX6_count 112 = .ok (.ifCond .ge 7, 3) := by decide +kernel
theorem dX6_count_115 : decode cX6_count 115 = .ok (.iconst 0, 1) := by decide +kernel
theorem dX6_count_116 : decode cX6_count 116 = .ok (.goto 4, 3) := by decide +kernel
theorem dX6_count_119 : decode cX6_count 119 = .ok (.iconst 1, 1) := by decide +kernel
theorem dX6_count_120 : decode cX6_count 120 = .ok (.iadd, 1) := by decide +kernel
theorem dX6_count_121 : decode cX6_count 121 = .ok (.istore_n 2, 1) := by decide +kernel
theorem dX6_count_122 : decode cX6_count 122 = .ok (.iinc 3 1, 3) := by decide +kernel
theorem dX6_count_125 : decode cX6_count 125 = .ok (.goto (-29), 3) := by decide +kernel
theorem dX6_count_128 : decode cX6_count 128 = .ok (.iload_n 2, 1) := by decide +kernel
theorem dX6_count_129 : decode cX6_count 129 = .ok (.ireturn, 1) := by decide +kernel
theorem dX6_count_130 : decode cX6_count 130 = .ok (.aload_n 0, 1) := by decide +kernel
theorem dX6_count_131 : decode cX6_count 131 = .ok (.ldc 60, 2) := by decide +kernel
theorem dX6_count_133 : decode cX6_count 133 = .ok (.invokevirtual 66, 3) := by decide +kernel
theorem dX6_count_136 : decode cX6_count 136 = .ok (.ireturn, 1) := by decide +kernel
theorem dX6_status_0 : decode cX6_status 0 = .ok (.iload_n 1, 1) := by decide +kernel
theorem dX6_status_1 : decode cX6_status 1 = .ok (.iconst (-1), 1) := by decide +kernel
theorem dX6_status_2 : decode cX6_status 2 = .ok (.bipush 6, 2) := by decide +kernel
theorem dX6_status_4 : decode cX6_status 4 = .ok (.invokestatic 70, 3) := by decide +kernel
theorem dX6_status_7 : decode cX6_status 7 = .ok (.ifCond .eq 14, 3) := by decide +kernel
theorem dX6_status_10 : decode cX6_status 10 = .ok (.aload_n 0, 1) := by decide +kernel
theorem dX6_status_11 : decode cX6_status 11 = .ok (.getfield 19, 3) := by decide +kernel
theorem dX6_status_14 : decode cX6_status 14 = .ok (.iload_n 1, 1) := by decide +kernel
theorem dX6_status_15 : decode cX6_status 15 = .ok (.iconst 1, 1) := by decide +kernel
theorem dX6_status_16 : decode cX6_status 16 = .ok (.iadd, 1) := by decide +kernel
theorem dX6_status_17 : decode cX6_status 17 = .ok (.iaload, 1) := by decide +kernel
theorem dX6_status_18 : decode cX6_status 18 = .ok (.goto 9, 3) := by decide +kernel
theorem dX6_status_21 : decode cX6_status 21 = .ok (.aload_n 0, 1) := by decide +kernel
theorem dX6_status_22 : decode cX6_status 22 = .ok (.ldc 60, 2) := by decide +kernel
theorem dX6_status_24 : decode cX6_status 24 = .ok (.invokevirtual 66, 3) := by decide +kernel
theorem dX6_status_27 : decode cX6_status 27 = .ok (.ireturn, 1) := by decide +kernel
theorem dJ0_length_8abf5_0 : decode cJ0_length_8abf5 0 = .ok (.aload_n 0, 1) := by decide +kernel
theorem dJ0_length_8abf5_1 : decode cJ0_length_8abf5 1 = .ok (.getfield 9, 3) := by decide +kernel
theorem dJ0_length_8abf5_4 : decode cJ0_length_8abf5 4 = .ok (.arraylength, 1) := by decide +kernel
theorem dJ0_length_8abf5_5 : decode cJ0_length_8abf5 5 = .ok (.aload_n 0, 1) := by decide +kernel
theorem dJ0_length_8abf5_6 : decode cJ0_length_8abf5 6 = .ok (.invokevirtual 335, 3) := by decide +kernel
theorem dJ0_length_8abf5_9 : decode cJ0_length_8abf5 9 = .ok (.ishr, 1) := by decide +kernel
theorem dJ0_length_8abf5_10 : decode cJ0_length_8abf5 10 = .ok (.ireturn, 1) := by decide +kernel
theorem dJ0_charAt_5068e_0 : decode cJ0_charAt_5068e 0 = .ok (.aload_n 0, 1) := by decide +kernel
theorem dJ0_charAt_5068e_1 : decode cJ0_charAt_5068e 1 = .ok (.invokevirtual 492, 3) := by decide +kernel
theorem dJ0_charAt_5068e_4 : decode cJ0_charAt_5068e 4 = .ok (.ifCond .eq 12, 3) := by decide +kernel
theorem dJ0_charAt_5068e_7 : decode cJ0_charAt_5068e 7 = .ok (.aload_n 0, 1) := by decide +kernel
theorem dJ0_charAt_5068e_8 : decode cJ0_charAt_5068e 8 = .ok (.getfield 9, 3) := by decide +kernel
theorem dJ0_charAt_5068e_11 : decode cJ0_charAt_5068e 11 = .ok (.iload_n 1, 1) := by decide +kernel
theorem dJ0_charAt_5068e_12 : decode cJ0_charAt_5068e 12 = .ok (.invokestatic 495, 3) := by decide +kernel
theorem dJ0_charAt_5068e_15 : decode cJ0_charAt_5068e 15 = .ok (.ireturn, 1) := by decide +kernel
theorem dJ0_charAt_5068e_16 : decode cJ0_charAt_5068e 16 = .ok (.aload_n 0, 1) := by decide +kernel
theorem dJ0_charAt_5068e_17 : decode cJ0_charAt_5068e 17 = .ok (.getfield 9, 3) := by decide +kernel
theorem dJ0_charAt_5068e_20 : decode cJ0_charAt_5068e 20 = .ok (.iload_n 1, 1) := by decide +kernel
theorem dJ0_charAt_5068e_21 : decode cJ0_charAt_5068e 21 = .ok (.invokestatic 498, 3) := by decide +kernel
theorem dJ0_charAt_5068e_24 : decode cJ0_charAt_5068e 24 = .ok (.ireturn, 1) := by decide +kernel
theorem dJ0_coder_7d493_0 : decode cJ0_coder_7d493 0 = .ok (.getstatic 38, 3) := by decide +kernel
theorem dJ0_coder_7d493_3 : decode cJ0_coder_7d493 3 = .ok (.ifCond .eq 10, 3) := by decide +kernel
theorem dJ0_coder_7d493_6 : decode cJ0_coder_7d493 6 = .ok (.aload_n 0, 1) := by decide +kernel
theorem dJ0_coder_7d493_7 : decode cJ0_coder_7d493 7 = .ok (.getfield 15, 3) := by decide +kernel
theorem dJ0_coder_7d493_10 : decode cJ0_coder_7d493 10 = .ok (.goto 4, 3) := by decide +kernel
theorem dJ0_coder_7d493_13 : decode cJ0_coder_7d493 13 = .ok (.iconst 1, 1) := by decide +kernel
theorem dJ0_coder_7d493_14 : decode cJ0_coder_7d493 14 = .ok (.ireturn, 1) := by decide +kernel
theorem dJ0_isLatin1_aae02_0 : decode cJ0_isLatin1_aae02 0 = .ok (.getstatic 38, 3) := by decide +kernel
theorem dJ0_isLatin1_aae02_3 : decode cJ0_isLatin1_aae02 3 = .ok (.ifCond .eq 14, 3) := by decide +kernel
theorem dJ0_isLatin1_aae02_6 : decode cJ0_isLatin1_aae02 6 = .ok (.aload_n 0, 1) := by decide +kernel
theorem dJ0_isLatin1_aae02_7 : decode cJ0_isLatin1_aae02 7 = .ok (.getfield 15, 3) := by decide +kernel
theorem dJ0_isLatin1_aae02_10 : decode cJ0_isLatin1_aae02 10 = .ok (.ifCond .ne 7, 3) := by decide +kernel
theorem dJ0_isLatin1_aae02_13 : decode cJ0_isLatin1_aae02 13 = .ok (.iconst 1, 1) := by decide +kernel
theorem dJ0_isLatin1_aae02_14 : decode cJ0_isLatin1_aae02 14 = .ok (.goto 4, 3) := by decide +kernel
theorem dJ0_isLatin1_aae02_17 : decode cJ0_isLatin1_aae02 17 = .ok (.iconst 0, 1) := by decide +kernel
theorem dJ0_isLatin1_aae02_18 : decode cJ0_isLatin1_aae02 18 = .ok (.ireturn, 1) := by decide +kernel
theorem dJ0_checkIndex_df160_0 : decode cJ0_checkIndex_df160 0 = .ok (.iload_n 0, 1) := by decide +kernel
theorem dJ0_checkIndex_df160_1 : decode cJ0_checkIndex_df160 1 = .ok (.iload_n 1, 1) := by decide +kernel
theorem dJ0_checkIndex_df160_2 : decode cJ0_checkIndex_df160 2 = .ok (.getstatic 1053, 3) := by decide +kernel
theorem dJ0_checkIndex_df160_5 : decode cJ0_checkIndex_df160 5 = .ok (.invokestatic 1059, 3) := by decide +kernel
theorem dJ0_checkIndex_df160_8 : decode cJ0_checkIndex_df160 8 = .ok (.pop, 1) := by decide +kernel
theorem dJ0_checkIndex_df160_9 : decode cJ0_checkIndex_df160 9 = .ok (.return_, 1) := by decide +kernel
theorem dJ1_charAt_3b067_0 : decode cJ1_charAt_3b067 0 = .ok (.iload_n 1, 1) := by decide +kernel
theorem dJ1_charAt_3b067_1 : decode cJ1_charAt_3b067 1 = .ok (.aload_n 0, 1) := by decide +kernel
theorem dJ1_charAt_3b067_2 : decode cJ1_charAt_3b067 2 = .ok (.arraylength, 1) := by decide +kernel
theorem dJ1_charAt_3b067_3 : decode cJ1_charAt_3b067 3 = .ok (.invokestatic 9, 3) := by decide +kernel
theorem dJ1_charAt_3b067_6 : decode cJ1_charAt_3b067 6 = .ok (.aload_n 0, 1) := by decide +kernel
theorem dJ1_charAt_3b067_7 : decode cJ1_charAt_3b067 7 = .ok (.iload_n 1, 1) := by decide +kernel
theorem dJ1_charAt_3b067_8 : decode cJ1_charAt_3b067 8 = .ok (.baload, 1) := by decide +kernel
theorem dJ1_charAt_3b067_9 : decode cJ1_charAt_3b067 9 = .ok (.sipush 255, 3) := by decide +kernel
theorem dJ1_charAt_3b067_12 : decode cJ1_charAt_3b067 12 = .ok (.iand, 1) := by decide +kernel
theorem dJ1_charAt_3b067_13 : decode cJ1_charAt_3b067 13 = .ok (.i2c, 1) := by decide +kernel
theorem dJ1_charAt_3b067_14 : decode cJ1_charAt_3b067 14 = .ok (.ireturn, 1) := by decide +kernel
theorem dJ3_checkIndex_8e157_0 : decode cJ3_checkIndex_8e157 0 = .ok (.iload_n 0, 1) := by decide +kernel
theorem dJ3_checkIndex_8e157_1 : decode cJ3_checkIndex_8e157 1 = .ok (.ifCond .lt 8, 3) := by decide +kernel
theorem dJ3_checkIndex_8e157_4 : decode cJ3_checkIndex_8e157 4 = .ok (.iload_n 0, 1) := by decide +kernel
theorem dJ3_checkIndex_8e157_5 : decode cJ3_checkIndex_8e157 5 = .ok (.iload_n 1, 1) := by decide +kernel
theorem dJ3_checkIndex_8e157_6 : decode cJ3_checkIndex_8e157 6 = .ok (.if_icmp .lt 10, 3) := by decide +kernel
theorem dJ3_checkIndex_8e157_9 : decode cJ3_checkIndex_8e157 9 = .ok (.aload_n 2, 1) := by decide +kernel
theorem dJ3_checkIndex_8e157_10 : decode cJ3_checkIndex_8e157 10 = .ok (.iload_n 0, 1) := by decide +kernel
theorem dJ3_checkIndex_8e157_11 : decode cJ3_checkIndex_8e157 11 = .ok (.iload_n 1, 1) := by decide +kernel
theorem dJ3_checkIndex_8e157_12 : decode cJ3_checkIndex_8e157 12 = .ok (.invokestatic 95, 3) := by decide +kernel
theorem dJ3_checkIndex_8e157_15 : decode cJ3_checkIndex_8e157 15 = .ok (.athrow, 1) := by decide +kernel
theorem dJ3_checkIndex_8e157_16 : decode cJ3_checkIndex_8e157 16 = .ok (.iload_n 0, 1) := by decide +kernel
theorem dJ3_checkIndex_8e157_17 : decode cJ3_checkIndex_8e157 17 = .ok (.ireturn, 1) := by decide +kernel
theorem dJ6_bitCount_0f7a4_0 : decode cJ6_bitCount_0f7a4 0 = .ok (.iload_n 0, 1) := by decide +kernel
theorem dJ6_bitCount_0f7a4_1 : decode cJ6_bitCount_0f7a4 1 = .ok (.iload_n 0, 1) := by decide +kernel
theorem dJ6_bitCount_0f7a4_2 : decode cJ6_bitCount_0f7a4 2 = .ok (.iconst 1, 1) := by decide +kernel
theorem dJ6_bitCount_0f7a4_3 : decode cJ6_bitCount_0f7a4 3 = .ok (.iushr, 1) := by decide +kernel
theorem dJ6_bitCount_0f7a4_4 : decode cJ6_bitCount_0f7a4 4 = .ok (.ldc_w 265, 3) := by decide +kernel
theorem dJ6_bitCount_0f7a4_7 : decode cJ6_bitCount_0f7a4 7 = .ok (.iand, 1) := by decide +kernel
theorem dJ6_bitCount_0f7a4_8 : decode cJ6_bitCount_0f7a4 8 = .ok (.isub, 1) := by decide +kernel
theorem dJ6_bitCount_0f7a4_9 : decode cJ6_bitCount_0f7a4 9 = .ok (.istore_n 0, 1) := by decide +kernel
theorem dJ6_bitCount_0f7a4_10 : decode cJ6_bitCount_0f7a4 10 = .ok (.iload_n 0, 1) := by decide +kernel
theorem dJ6_bitCount_0f7a4_11 : decode cJ6_bitCount_0f7a4 11 = .ok (.ldc_w 266, 3) := by decide +kernel
theorem dJ6_bitCount_0f7a4_14 : decode cJ6_bitCount_0f7a4 14 = .ok (.iand, 1) := by decide +kernel
theorem dJ6_bitCount_0f7a4_15 : decode cJ6_bitCount_0f7a4 15 = .ok (.iload_n 0, 1) := by decide +kernel
theorem dJ6_bitCount_0f7a4_16 : decode cJ6_bitCount_0f7a4 16 = .ok (.iconst 2, 1) := by decide +kernel
theorem dJ6_bitCount_0f7a4_17 : decode cJ6_bitCount_0f7a4 17 = .ok (.iushr, 1) := by decide +kernel
theorem dJ6_bitCount_0f7a4_18 : decode cJ6_bitCount_0f7a4 18 = .ok (.ldc_w 266, 3) := by decide +kernel
theorem dJ6_bitCount_0f7a4_21 : decode cJ6_bitCount_0f7a4 21 = .ok (.iand, 1) := by decide +kernel
theorem dJ6_bitCount_0f7a4_22 : decode cJ6_bitCount_0f7a4 22 = .ok (.iadd, 1) := by decide +kernel
theorem dJ6_bitCount_0f7a4_23 : decode cJ6_bitCount_0f7a4 23 = .ok (.istore_n 0, 1) := by decide +kernel
theorem dJ6_bitCount_0f7a4_24 : decode cJ6_bitCount_0f7a4 24 = .ok (.iload_n 0, 1) := by decide +kernel
theorem dJ6_bitCount_0f7a4_25 : decode cJ6_bitCount_0f7a4 25 = .ok (.iload_n 0, 1) := by decide +kernel
theorem dJ6_bitCount_0f7a4_26 : decode cJ6_bitCount_0f7a4 26 = .ok (.iconst 4, 1) := by decide +kernel
theorem dJ6_bitCount_0f7a4_27 : decode cJ6_bitCount_0f7a4 27 = .ok (.iushr, 1) := by decide +kernel
theorem dJ6_bitCount_0f7a4_28 : decode cJ6_bitCount_0f7a4 28 = .ok (.iadd, 1) := by decide +kernel
theorem dJ6_bitCount_0f7a4_29 : decode cJ6_bitCount_0f7a4 29 = .ok (.ldc_w 267, 3) := by decide +kernel
theorem dJ6_bitCount_0f7a4_32 : decode cJ6_bitCount_0f7a4 32 = .ok (.iand, 1) := by decide +kernel
theorem dJ6_bitCount_0f7a4_33 : decode cJ6_bitCount_0f7a4 33 = .ok (.istore_n 0, 1) := by decide +kernel
theorem dJ6_bitCount_0f7a4_34 : decode cJ6_bitCount_0f7a4 34 = .ok (.iload_n 0, 1) := by decide +kernel
theorem dJ6_bitCount_0f7a4_35 : decode cJ6_bitCount_0f7a4 35 = .ok (.iload_n 0, 1) := by decide +kernel
theorem dJ6_bitCount_0f7a4_36 : decode cJ6_bitCount_0f7a4 36 = .ok (.bipush 8, 2) := by decide +kernel
theorem dJ6_bitCount_0f7a4_38 : decode cJ6_bitCount_0f7a4 38 = .ok (.iushr, 1) := by decide +kernel
theorem dJ6_bitCount_0f7a4_39 : decode cJ6_bitCount_0f7a4 39 = .ok (.iadd, 1) := by decide +kernel
theorem dJ6_bitCount_0f7a4_40 : decode cJ6_bitCount_0f7a4 40 = .ok (.istore_n 0, 1) := by decide +kernel
theorem dJ6_bitCount_0f7a4_41 : decode cJ6_bitCount_0f7a4 41 = .ok (.iload_n 0, 1) := by decide +kernel
theorem dJ6_bitCount_0f7a4_42 : decode cJ6_bitCount_0f7a4 42 = .ok (.iload_n 0, 1) := by decide +kernel
theorem dJ6_bitCount_0f7a4_43 : decode cJ6_bitCount_0f7a4 43 = .ok (.bipush 16, 2) := by decide +kernel
theorem dJ6_bitCount_0f7a4_45 : decode cJ6_bitCount_0f7a4 45 = .ok (.iushr, 1) := by decide +kernel
theorem dJ6_bitCount_0f7a4_46 : decode cJ6_bitCount_0f7a4 46 = .ok (.iadd, 1) := by decide +kernel
theorem dJ6_bitCount_0f7a4_47 : decode cJ6_bitCount_0f7a4 47 = .ok (.istore_n 0, 1) := by decide +kernel
theorem dJ6_bitCount_0f7a4_48 : decode cJ6_bitCount_0f7a4 48 = .ok (.iload_n 0, 1) := by decide +kernel
theorem dJ6_bitCount_0f7a4_49 : decode cJ6_bitCount_0f7a4 49 = .ok (.bipush 63, 2) := by decide +kernel
theorem dJ6_bitCount_0f7a4_51 : decode cJ6_bitCount_0f7a4 51 = .ok (.iand, 1) := by decide +kernel
theorem dJ6_bitCount_0f7a4_52 : decode cJ6_bitCount_0f7a4 52 = .ok (.ireturn, 1) := by decide +kernel
theorem dL_law_0 : decode cL_law 0 = .ok (.new 7, 3) := by decide +kernel
theorem dL_law_3 : decode cL_law 3 = .ok (.dup, 1) := by decide +kernel
theorem dL_law_4 : decode cL_law 4 = .ok (.invokespecial 9, 3) := by decide +kernel
theorem dL_law_7 : decode cL_law 7 = .ok (.astore_n 1, 1) := by decide +kernel
theorem dL_law_8 : decode cL_law 8 = .ok (.new 10, 3) := by decide +kernel
theorem dL_law_11 : decode cL_law 11 = .ok (.dup, 1) := by decide +kernel
theorem dL_law_12 : decode cL_law 12 = .ok (.invokespecial 12, 3) := by decide +kernel
theorem dL_law_15 : decode cL_law 15 = .ok (.astore_n 2, 1) := by decide +kernel
theorem dL_law_16 : decode cL_law 16 = .ok (.iconst 0, 1) := by decide +kernel
theorem dL_law_17 : decode cL_law 17 = .ok (.istore_n 3, 1) := by decide +kernel
theorem dL_law_18 : decode cL_law 18 = .ok (.iload_n 3, 1) := by decide +kernel
theorem dL_law_19 : decode cL_law 19 = .ok (.aload_n 0, 1) := by decide +kernel
theorem dL_law_20 : decode cL_law 20 = .ok (.arraylength, 1) := by decide +kernel
theorem dL_law_21 : decode cL_law 21 = .ok (.bipush 6, 2) := by decide +kernel
theorem dL_law_23 : decode cL_law 23 = .ok (.isub, 1) := by decide +kernel
theorem dL_law_24 : decode cL_law 24 = .ok (.if_icmp .gt 1408, 3) := by decide +kernel
theorem dL_law_27 : decode cL_law 27 = .ok (.aload_n 0, 1) := by decide +kernel
theorem dL_law_28 : decode cL_law 28 = .ok (.iload_n 3, 1) := by decide +kernel
theorem dL_law_29 : decode cL_law 29 = .ok (.iaload, 1) := by decide +kernel
theorem dL_law_30 : decode cL_law 30 = .ok (.bipush 63, 2) := by decide +kernel
theorem dL_law_32 : decode cL_law 32 = .ok (.iand, 1) := by decide +kernel
theorem dL_law_33 : decode cL_law 33 = .ok (.tableswitch 1393 0 40 #[179, 212, 235, 258, 291, 324, 367, 400, 423, 456, 479, 502, 545, 568, 601, 624, 657, 700, 743, 776, 809, 832, 865, 898, 921, 965, 988, 1021, 1034, 1047, 1080, 1113, 1156, 1199, 1262, 1285, 1308, 1321, 1334, 1347, 1370], 179) := by decide +kernel
theorem dL_law_212 : decode cL_law 212 = .ok (.aload_n 1, 1) := by decide +kernel
theorem dL_law_213 : decode cL_law 213 = .ok (.aload_n 0, 1) := by decide +kernel
theorem dL_law_214 : decode cL_law 214 = .ok (.iload_n 3, 1) := by decide +kernel
theorem dL_law_215 : decode cL_law 215 = .ok (.iconst 1, 1) := by decide +kernel
theorem dL_law_216 : decode cL_law 216 = .ok (.iadd, 1) := by decide +kernel
theorem dL_law_217 : decode cL_law 217 = .ok (.iaload, 1) := by decide +kernel
theorem dL_law_218 : decode cL_law 218 = .ok (.aload_n 0, 1) := by decide +kernel
theorem dL_law_219 : decode cL_law 219 = .ok (.iload_n 3, 1) := by decide +kernel
theorem dL_law_220 : decode cL_law 220 = .ok (.iconst 2, 1) := by decide +kernel
theorem dL_law_221 : decode cL_law 221 = .ok (.iadd, 1) := by decide +kernel
theorem dL_law_222 : decode cL_law 222 = .ok (.iaload, 1) := by decide +kernel
theorem dL_law_223 : decode cL_law 223 = .ok (.invokevirtual 13, 3) := by decide +kernel
theorem dL_law_226 : decode cL_law 226 = .ok (.aload_n 2, 1) := by decide +kernel
theorem dL_law_227 : decode cL_law 227 = .ok (.aload_n 0, 1) := by decide +kernel
theorem dL_law_228 : decode cL_law 228 = .ok (.iload_n 3, 1) := by decide +kernel
theorem dL_law_229 : decode cL_law 229 = .ok (.iconst 1, 1) := by decide +kernel
theorem dL_law_230 : decode cL_law 230 = .ok (.iadd, 1) := by decide +kernel
theorem dL_law_231 : decode cL_law 231 = .ok (.iaload, 1) := by decide +kernel
theorem dL_law_232 : decode cL_law 232 = .ok (.aload_n 0, 1) := by decide +kernel
theorem dL_law_233 : decode cL_law 233 = .ok (.iload_n 3, 1) := by decide +kernel
theorem dL_law_234 : decode cL_law 234 = .ok (.iconst 2, 1) := by decide +kernel
theorem dL_law_235 : decode cL_law 235 = .ok (.iadd, 1) := by decide +kernel
theorem dL_law_236 : decode cL_law 236 = .ok (.iaload, 1) := by decide +kernel
theorem dL_law_237 : decode cL_law 237 = .ok (.invokevirtual 17, 3) := by decide +kernel
theorem dL_law_240 : decode cL_law 240 = .ok (.if_icmp .eq 1186, 3) := by decide +kernel
theorem dL_law_243 : decode cL_law 243 = .ok (.iconst 0, 1) := by decide +kernel
theorem dL_law_244 : decode cL_law 244 = .ok (.ireturn, 1) := by decide +kernel
theorem dL_law_245 : decode cL_law 245 = .ok (.aload_n 1, 1) := by decide +kernel
theorem dL_law_246 : decode cL_law 246 = .ok (.aload_n 0, 1) := by decide +kernel
theorem dL_law_247 : decode cL_law 247 = .ok (.iload_n 3, 1) := by decide +kernel
theorem dL_law_248 : decode cL_law 248 = .ok (.iconst 1, 1) := by decide +kernel
theorem dL_law_249 : decode cL_law 249 = .ok (.iadd, 1) := by decide +kernel
theorem dL_law_250 : decode cL_law 250 = .ok (.iaload, 1) := by decide +kernel
theorem dL_law_251 : decode cL_law 251 = .ok (.invokevirtual 18, 3) := by decide +kernel
theorem dL_law_254 : decode cL_law 254 = .ok (.aload_n 2, 1) := by decide +kernel
theorem dL_law_255 : decode cL_law 255 = .ok (.aload_n 0, 1) := by decide +kernel
theorem dL_law_256 : decode cL_law 256 = .ok (.iload_n 3, 1) := by decide +kernel
theorem dL_law_257 : decode cL_law 257 = .ok (.iconst 1, 1) := by decide +kernel
theorem dL_law_258 : decode cL_law 258 = .ok (.iadd, 1) := by decide +kernel
theorem dL_law_259 : decode cL_law 259 = .ok (.iaload, 1) := by decide +kernel
theorem dL_law_260 : decode cL_law 260 = .ok (.invokevirtual 22, 3) := by decide +kernel
theorem dL_law_263 : decode cL_law 263 = .ok (.if_icmp .eq 1163, 3) := by decide +kernel
theorem dL_law_266 : decode cL_law 266 = .ok (.iconst 0, 1) := by decide +kernel
theorem dL_law_267 : decode cL_law 267 = .ok (.ireturn, 1) := by decide +kernel
theorem dL_law_268 : decode cL_law 268 = .ok (.aload_n 1, 1) := by decide +kernel
theorem dL_law_269 : decode cL_law 269 = .ok (.aload_n 0, 1) := by decide +kernel
theorem dL_law_270 : decode cL_law 270 = .ok (.iload_n 3, 1) := by decide +kernel
theorem dL_law_271 : decode cL_law 271 = .ok (.iconst 1, 1) := by decide +kernel
theorem dL_law_272 : decode cL_law 272 = .ok (.iadd, 1) := by decide +kernel
theorem dL_law_273 : decode cL_law 273 = .ok (.iaload, 1) := by decide +kernel
theorem dL_law_274 : decode cL_law 274 = .ok (.invokevirtual 23, 3) := by decide +kernel
theorem dL_law_277 : decode cL_law 277 = .ok (.aload_n 2, 1) := by decide +kernel
theorem dL_law_278 : decode cL_law 278 = .ok (.aload_n 0, 1) := by decide +kernel
theorem dL_law_279 : decode cL_law 279 = .ok (.iload_n 3, 1) := by decide +kernel
theorem dL_law_280 : decode cL_law 280 = .ok (.iconst 1, 1) := by decide +kernel
theorem dL_law_281 : decode cL_law 281 = .ok (.iadd, 1) := by decide +kernel
theorem dL_law_282 : decode cL_law 282 = .ok (.iaload, 1) := by decide +kernel
theorem dL_law_283 : decode cL_law 283 = .ok (.invokevirtual 26, 3) := by decide +kernel
theorem dL_law_286 : decode cL_law 286 = .ok (.if_icmp .eq 1140, 3) := by decide +kernel
theorem dL_law_289 : decode cL_law 289 = .ok (.iconst 0, 1) := by decide +kernel
theorem dL_law_290 : decode cL_law 290 = .ok (.ireturn, 1) := by decide +kernel
theorem dL_law_291 : decode cL_law 291 = .ok (.aload_n 1, 1) := by decide +kernel
theorem dL_law_292 : decode cL_law 292 = .ok (.aload_n 0, 1) := by decide +kernel
theorem dL_law_293 : decode cL_law 293 = .ok (.iload_n 3, 1) := by decide +kernel
theorem dL_law_294 : decode cL_law 294 = .ok (.iconst 1, 1) := by decide +kernel
theorem dL_law_295 : decode cL_law 295 = .ok (.iadd, 1) := by decide +kernel
theorem dL_law_296 : decode cL_law 296 = .ok (.iaload, 1) := by decide +kernel
theorem dL_law_297 : decode cL_law 297 = .ok (.aload_n 0, 1) := by decide +kernel
theorem dL_law_298 : decode cL_law 298 = .ok (.iload_n 3, 1) := by decide +kernel
theorem dL_law_299 : decode cL_law 299 = .ok (.iconst 2, 1) := by decide +kernel
theorem dL_law_300 : decode cL_law 300 = .ok (.iadd, 1) := by decide +kernel
theorem dL_law_301 : decode cL_law 301 = .ok (.iaload, 1) := by decide +kernel
theorem dL_law_302 : decode cL_law 302 = .ok (.invokevirtual 27, 3) := by decide +kernel
theorem dL_law_305 : decode cL_law 305 = .ok (.aload_n 2, 1) := by decide +kernel
theorem dL_law_306 : decode cL_law 306 = .ok (.aload_n 0, 1) := by decide +kernel
theorem dL_law_307 : decode cL_law 307 = .ok (.iload_n 3, 1) := by decide +kernel
theorem dL_law_308 : decode cL_law 308 = .ok (.iconst 1, 1) := by decide +kernel
theorem dL_law_309 : decode cL_law 309 = .ok (.iadd, 1) := by decide +kernel
theorem dL_law_310 : decode cL_law 310 = .ok (.iaload, 1) := by decide +kernel
theorem dL_law_311 : decode cL_law 311 = .ok (.aload_n 0, 1) := by decide +kernel
theorem dL_law_312 : decode cL_law 312 = .ok (.iload_n 3, 1) := by decide +kernel
theorem dL_law_313 : decode cL_law 313 = .ok (.iconst 2, 1) := by decide +kernel
theorem dL_law_314 : decode cL_law 314 = .ok (.iadd, 1) := by decide +kernel
theorem dL_law_315 : decode cL_law 315 = .ok (.iaload, 1) := by decide +kernel
theorem dL_law_316 : decode cL_law 316 = .ok (.invokevirtual 30, 3) := by decide +kernel
theorem dL_law_319 : decode cL_law 319 = .ok (.if_icmp .eq 1107, 3) := by decide +kernel
theorem dL_law_322 : decode cL_law 322 = .ok (.iconst 0, 1) := by decide +kernel
theorem dL_law_323 : decode cL_law 323 = .ok (.ireturn, 1) := by decide +kernel
theorem dL_law_324 : decode cL_law 324 = .ok (.aload_n 1, 1) := by decide +kernel
theorem dL_law_325 : decode cL_law 325 = .ok (.aload_n 0, 1) := by decide +kernel
theorem dL_law_326 : decode cL_law 326 = .ok (.iload_n 3, 1) := by decide +kernel
theorem dL_law_327 : decode cL_law 327 = .ok (.iconst 1, 1) := by decide +kernel
theorem dL_law_328 : decode cL_law 328 = .ok (.iadd, 1) := by decide +kernel
theorem dL_law_329 : decode cL_law 329 = .ok (.iaload, 1) := by decide +kernel
theorem dL_law_330 : decode cL_law 330 = .ok (.aload_n 0, 1) := by decide +kernel
theorem dL_law_331 : decode cL_law 331 = .ok (.iload_n 3, 1) := by decide +kernel
theorem dL_law_332 : decode cL_law 332 = .ok (.iconst 2, 1) := by decide +kernel
theorem dL_law_333 : decode cL_law 333 = .ok (.iadd, 1) := by decide +kernel
theorem dL_law_334 : decode cL_law 334 = .ok (.iaload, 1) := by decide +kernel
theorem dL_law_335 : decode cL_law 335 = .ok (.invokevirtual 31, 3) := by decide +kernel
theorem dL_law_338 : decode cL_law 338 = .ok (.aload_n 2, 1) := by decide +kernel
theorem dL_law_339 : decode cL_law 339 = .ok (.aload_n 0, 1) := by decide +kernel
theorem dL_law_340 : decode cL_law 340 = .ok (.iload_n 3, 1) := by decide +kernel
theorem dL_law_341 : decode cL_law 341 = .ok (.iconst 1, 1) := by decide +kernel
theorem dL_law_342 : decode cL_law 342 = .ok (.iadd, 1) := by decide +kernel
theorem dL_law_343 : decode cL_law 343 = .ok (.iaload, 1) := by decide +kernel
theorem dL_law_344 : decode cL_law 344 = .ok (.aload_n 0, 1) := by decide +kernel
theorem dL_law_345 : decode cL_law 345 = .ok (.iload_n 3, 1) := by decide +kernel
theorem dL_law_346 : decode cL_law 346 = .ok (.iconst 2, 1) := by decide +kernel
theorem dL_law_347 : decode cL_law 347 = .ok (.iadd, 1) := by decide +kernel
theorem dL_law_348 : decode cL_law 348 = .ok (.iaload, 1) := by decide +kernel
theorem dL_law_349 : decode cL_law 349 = .ok (.invokevirtual 34, 3) := by decide +kernel
theorem dL_law_352 : decode cL_law 352 = .ok (.if_icmp .eq 1074, 3) := by decide +kernel
theorem dL_law_355 : decode cL_law 355 = .ok (.iconst 0, 1) := by decide +kernel
theorem dL_law_356 : decode cL_law 356 = .ok (.ireturn, 1) := by decide +kernel
theorem dL_law_357 : decode cL_law 357 = .ok (.aload_n 1, 1) := by decide +kernel
theorem dL_law_358 : decode cL_law 358 = .ok (.aload_n 0, 1) := by decide +kernel
theorem dL_law_359 : decode cL_law 359 = .ok (.iload_n 3, 1) := by decide +kernel
theorem dL_law_360 : decode cL_law 360 = .ok (.iconst 1, 1) := by decide +kernel
theorem dL_law_361 : decode cL_law 361 = .ok (.iadd, 1) := by decide +kernel
theorem dL_law_362 : decode cL_law 362 = .ok (.iaload, 1) := by decide +kernel
theorem dL_law_363 : decode cL_law 363 = .ok (.aload_n 0, 1) := by decide +kernel
theorem dL_law_364 : decode cL_law 364 = .ok (.iload_n 3, 1) := by decide +kernel
theorem dL_law_365 : decode cL_law 365 = .ok (.iconst 2, 1) := by decide +kernel
theorem dL_law_366 : decode cL_law 366 = .ok (.iadd, 1) := by decide +kernel
theorem dL_law_367 : decode cL_law 367 = .ok (.iaload, 1) := by decide +kernel
theorem dL_law_368 : decode cL_law 368 = .ok (.aload_n 0, 1) := by decide +kernel
theorem dL_law_369 : decode cL_law 369 = .ok (.iload_n 3, 1) := by decide +kernel
theorem dL_law_370 : decode cL_law 370 = .ok (.iconst 3, 1) := by decide +kernel
theorem dL_law_371 : decode cL_law 371 = .ok (.iadd, 1) := by decide +kernel
theorem dL_law_372 : decode cL_law 372 = .ok (.iaload, 1) := by decide +kernel
theorem dL_law_373 : decode cL_law 373 = .ok (.invokevirtual 35, 3) := by decide +kernel
theorem dL_law_376 : decode cL_law 376 = .ok (.aload_n 2, 1) := by decide +kernel
theorem dL_law_377 : decode cL_law 377 = .ok (.aload_n 0, 1) := by decide +kernel
theorem dL_law_378 : decode cL_law 378 = .ok (.iload_n 3, 1) := by decide +kernel
theorem dL_law_379 : decode cL_law 379 = .ok (.iconst 1, 1) := by decide +kernel
theorem dL_law_380 : decode cL_law 380 = .ok (.iadd, 1) := by decide +kernel
theorem dL_law_381 : decode cL_law 381 = .ok (.iaload, 1) := by decide +kernel
theorem dL_law_382 : decode cL_law 382 = .ok (.aload_n 0, 1) := by decide +kernel
theorem dL_law_383 : decode cL_law 383 = .ok (.iload_n 3, 1) := by decide +kernel
theorem dL_law_384 : decode cL_law 384 = .ok (.iconst 2, 1) := by decide +kernel
theorem dL_law_385 : decode cL_law 385 = .ok (.iadd, 1) := by decide +kernel
theorem dL_law_386 : decode cL_law 386 = .ok (.iaload, 1) := by decide +kernel
theorem dL_law_387 : decode cL_law 387 = .ok (.aload_n 0, 1) := by decide +kernel
theorem dL_law_388 : decode cL_law 388 = .ok (.iload_n 3, 1) := by decide +kernel
theorem dL_law_389 : decode cL_law 389 = .ok (.iconst 3, 1) := by decide +kernel
theorem dL_law_390 : decode cL_law 390 = .ok (.iadd, 1) := by decide +kernel
theorem dL_law_391 : decode cL_law 391 = .ok (.iaload, 1) := by decide +kernel
theorem dL_law_392 : decode cL_law 392 = .ok (.invokevirtual 39, 3) := by decide +kernel
theorem dL_law_395 : decode cL_law 395 = .ok (.if_icmp .eq 1031, 3) := by decide +kernel
theorem dL_law_398 : decode cL_law 398 = .ok (.iconst 0, 1) := by decide +kernel
theorem dL_law_399 : decode cL_law 399 = .ok (.ireturn, 1) := by decide +kernel
theorem dL_law_400 : decode cL_law 400 = .ok (.aload_n 1, 1) := by decide +kernel
theorem dL_law_401 : decode cL_law 401 = .ok (.aload_n 0, 1) := by decide +kernel
theorem dL_law_402 : decode cL_law 402 = .ok (.iload_n 3, 1) := by decide +kernel
theorem dL_law_403 : decode cL_law 403 = .ok (.iconst 1, 1) := by decide +kernel
theorem dL_law_404 : decode cL_law 404 = .ok (.iadd, 1) := by decide +kernel
theorem dL_law_405 : decode cL_law 405 = .ok (.iaload, 1) := by decide +kernel
theorem dL_law_406 : decode cL_law 406 = .ok (.aload_n 0, 1) := by decide +kernel
theorem dL_law_407 : decode cL_law 407 = .ok (.iload_n 3, 1) := by decide +kernel
theorem dL_law_408 : decode cL_law 408 = .ok (.iconst 2, 1) := by decide +kernel
theorem dL_law_409 : decode cL_law 409 = .ok (.iadd, 1) := by decide +kernel
theorem dL_law_410 : decode cL_law 410 = .ok (.iaload, 1) := by decide +kernel
theorem dL_law_411 : decode cL_law 411 = .ok (.invokevirtual 40, 3) := by decide +kernel
theorem dL_law_414 : decode cL_law 414 = .ok (.aload_n 2, 1) := by decide +kernel
theorem dL_law_415 : decode cL_law 415 = .ok (.aload_n 0, 1) := by decide +kernel
theorem dL_law_416 : decode cL_law 416 = .ok (.iload_n 3, 1) := by decide +kernel
theorem dL_law_417 : decode cL_law 417 = .ok (.iconst 1, 1) := by decide +kernel
theorem dL_law_418 : decode cL_law 418 = .ok (.iadd, 1) := by decide +kernel
theorem dL_law_419 : decode cL_law 419 = .ok (.iaload, 1) := by decide +kernel
theorem dL_law_420 : decode cL_law 420 = .ok (.aload_n 0, 1) := by decide +kernel
theorem dL_law_421 : decode cL_law 421 = .ok (.iload_n 3, 1) := by decide +kernel
theorem dL_law_422 : decode cL_law 422 = .ok (.iconst 2, 1) := by decide +kernel
theorem dL_law_423 : decode cL_law 423 = .ok (.iadd, 1) := by decide +kernel
theorem dL_law_424 : decode cL_law 424 = .ok (.iaload, 1) := by decide +kernel
theorem dL_law_425 : decode cL_law 425 = .ok (.invokevirtual 43, 3) := by decide +kernel
theorem dL_law_428 : decode cL_law 428 = .ok (.if_icmp .eq 998, 3) := by decide +kernel
theorem dL_law_431 : decode cL_law 431 = .ok (.iconst 0, 1) := by decide +kernel
theorem dL_law_432 : decode cL_law 432 = .ok (.ireturn, 1) := by decide +kernel
theorem dL_law_433 : decode cL_law 433 = .ok (.aload_n 1, 1) := by decide +kernel
theorem dL_law_434 : decode cL_law 434 = .ok (.aload_n 0, 1) := by decide +kernel
theorem dL_law_435 : decode cL_law 435 = .ok (.iload_n 3, 1) := by decide +kernel
theorem dL_law_436 : decode cL_law 436 = .ok (.iconst 1, 1) := by decide +kernel
theorem dL_law_437 : decode cL_law 437 = .ok (.iadd, 1) := by decide +kernel
theorem dL_law_438 : decode cL_law 438 = .ok (.iaload, 1) := by decide +kernel
theorem dL_law_439 : decode cL_law 439 = .ok (.invokevirtual 44, 3) := by decide +kernel
theorem dL_law_442 : decode cL_law 442 = .ok (.aload_n 2, 1) := by decide +kernel
theorem dL_law_443 : decode cL_law 443 = .ok (.aload_n 0, 1) := by decide +kernel
theorem dL_law_444 : decode cL_law 444 = .ok (.iload_n 3, 1) := by decide +kernel
theorem dL_law_445 : decode cL_law 445 = .ok (.iconst 1, 1) := by decide +kernel
theorem dL_law_446 : decode cL_law 446 = .ok (.iadd, 1) := by decide +kernel
theorem dL_law_447 : decode cL_law 447 = .ok (.iaload, 1) := by decide +kernel
theorem dL_law_448 : decode cL_law 448 = .ok (.invokevirtual 47, 3) := by decide +kernel
theorem dL_law_451 : decode cL_law 451 = .ok (.if_icmp .eq 975, 3) := by decide +kernel
theorem dL_law_454 : decode cL_law 454 = .ok (.iconst 0, 1) := by decide +kernel
theorem dL_law_455 : decode cL_law 455 = .ok (.ireturn, 1) := by decide +kernel
theorem dL_law_456 : decode cL_law 456 = .ok (.aload_n 1, 1) := by decide +kernel
theorem dL_law_457 : decode cL_law 457 = .ok (.aload_n 0, 1) := by decide +kernel
theorem dL_law_458 : decode cL_law 458 = .ok (.iload_n 3, 1) := by decide +kernel
theorem dL_law_459 : decode cL_law 459 = .ok (.iconst 1, 1) := by decide +kernel
theorem dL_law_460 : decode cL_law 460 = .ok (.iadd, 1) := by decide +kernel
theorem dL_law_461 : decode cL_law 461 = .ok (.iaload, 1) := by decide +kernel
theorem dL_law_462 : decode cL_law 462 = .ok (.aload_n 0, 1) := by decide +kernel
theorem dL_law_463 : decode cL_law 463 = .ok (.iload_n 3, 1) := by decide +kernel
theorem dL_law_464 : decode cL_law 464 = .ok (.iconst 2, 1) := by decide +kernel
theorem dL_law_465 : decode cL_law 465 = .ok (.iadd, 1) := by decide +kernel
theorem dL_law_466 : decode cL_law 466 = .ok (.iaload, 1) := by decide +kernel
theorem dL_law_467 : decode cL_law 467 = .ok (.invokevirtual 48, 3) := by decide +kernel
theorem dL_law_470 : decode cL_law 470 = .ok (.aload_n 2, 1) := by decide +kernel
theorem dL_law_471 : decode cL_law 471 = .ok (.aload_n 0, 1) := by decide +kernel
theorem dL_law_472 : decode cL_law 472 = .ok (.iload_n 3, 1) := by decide +kernel
theorem dL_law_473 : decode cL_law 473 = .ok (.iconst 1, 1) := by decide +kernel
theorem dL_law_474 : decode cL_law 474 = .ok (.iadd, 1) := by decide +kernel
theorem dL_law_475 : decode cL_law 475 = .ok (.iaload, 1) := by decide +kernel
theorem dL_law_476 : decode cL_law 476 = .ok (.aload_n 0, 1) := by decide +kernel
theorem dL_law_477 : decode cL_law 477 = .ok (.iload_n 3, 1) := by decide +kernel
theorem dL_law_478 : decode cL_law 478 = .ok (.iconst 2, 1) := by decide +kernel
theorem dL_law_479 : decode cL_law 479 = .ok (.iadd, 1) := by decide +kernel
theorem dL_law_480 : decode cL_law 480 = .ok (.iaload, 1) := by decide +kernel
theorem dL_law_481 : decode cL_law 481 = .ok (.invokevirtual 51, 3) := by decide +kernel
theorem dL_law_484 : decode cL_law 484 = .ok (.if_icmp .eq 942, 3) := by decide +kernel
theorem dL_law_487 : decode cL_law 487 = .ok (.iconst 0, 1) := by decide +kernel
theorem dL_law_488 : decode cL_law 488 = .ok (.ireturn, 1) := by decide +kernel
theorem dL_law_489 : decode cL_law 489 = .ok (.aload_n 1, 1) := by decide +kernel
theorem dL_law_490 : decode cL_law 490 = .ok (.aload_n 0, 1) := by decide +kernel
theorem dL_law_491 : decode cL_law 491 = .ok (.iload_n 3, 1) := by decide +kernel
theorem dL_law_492 : decode cL_law 492 = .ok (.iconst 1, 1) := by decide +kernel
theorem dL_law_493 : decode cL_law 493 = .ok (.iadd, 1) := by decide +kernel
theorem dL_law_494 : decode cL_law 494 = .ok (.iaload, 1) := by decide +kernel
theorem dL_law_495 : decode cL_law 495 = .ok (.invokevirtual 52, 3) := by decide +kernel
theorem dL_law_498 : decode cL_law 498 = .ok (.aload_n 2, 1) := by decide +kernel
theorem dL_law_499 : decode cL_law 499 = .ok (.aload_n 0, 1) := by decide +kernel
theorem dL_law_500 : decode cL_law 500 = .ok (.iload_n 3, 1) := by decide +kernel
theorem dL_law_501 : decode cL_law 501 = .ok (.iconst 1, 1) := by decide +kernel
theorem dL_law_502 : decode cL_law 502 = .ok (.iadd, 1) := by decide +kernel
theorem dL_law_503 : decode cL_law 503 = .ok (.iaload, 1) := by decide +kernel
theorem dL_law_504 : decode cL_law 504 = .ok (.invokevirtual 55, 3) := by decide +kernel
theorem dL_law_507 : decode cL_law 507 = .ok (.if_icmp .eq 919, 3) := by decide +kernel
theorem dL_law_510 : decode cL_law 510 = .ok (.iconst 0, 1) := by decide +kernel
theorem dL_law_511 : decode cL_law 511 = .ok (.ireturn, 1) := by decide +kernel
theorem dL_law_512 : decode cL_law 512 = .ok (.aload_n 1, 1) := by decide +kernel
theorem dL_law_513 : decode cL_law 513 = .ok (.aload_n 0, 1) := by decide +kernel
theorem dL_law_514 : decode cL_law 514 = .ok (.iload_n 3, 1) := by decide +kernel
theorem dL_law_515 : decode cL_law 515 = .ok (.iconst 1, 1) := by decide +kernel
theorem dL_law_516 : decode cL_law 516 = .ok (.iadd, 1) := by decide +kernel
theorem dL_law_517 : decode cL_law 517 = .ok (.iaload, 1) := by decide +kernel
theorem dL_law_518 : decode cL_law 518 = .ok (.invokevirtual 56, 3) := by decide +kernel
theorem dL_law_521 : decode cL_law 521 = .ok (.aload_n 2, 1) := by decide +kernel
theorem dL_law_522 : decode cL_law 522 = .ok (.aload_n 0, 1) := by decide +kernel
theorem dL_law_523 : decode cL_law 523 = .ok (.iload_n 3, 1) := by decide +kernel
theorem dL_law_524 : decode cL_law 524 = .ok (.iconst 1, 1) := by decide +kernel
theorem dL_law_525 : decode cL_law 525 = .ok (.iadd, 1) := by decide +kernel
theorem dL_law_526 : decode cL_law 526 = .ok (.iaload, 1) := by decide +kernel
theorem dL_law_527 : decode cL_law 527 = .ok (.invokevirtual 59, 3) := by decide +kernel
theorem dL_law_530 : decode cL_law 530 = .ok (.if_icmp .eq 896, 3) := by decide +kernel
theorem dL_law_533 : decode cL_law 533 = .ok (.iconst 0, 1) := by decide +kernel
theorem dL_law_534 : decode cL_law 534 = .ok (.ireturn, 1) := by decide +kernel
theorem dL_law_535 : decode cL_law 535 = .ok (.aload_n 1, 1) := by decide +kernel
theorem dL_law_536 : decode cL_law 536 = .ok (.aload_n 0, 1) := by decide +kernel
theorem dL_law_537 : decode cL_law 537 = .ok (.iload_n 3, 1) := by decide +kernel
theorem dL_law_538 : decode cL_law 538 = .ok (.iconst 1, 1) := by decide +kernel
theorem dL_law_539 : decode cL_law 539 = .ok (.iadd, 1) := by decide +kernel
theorem dL_law_540 : decode cL_law 540 = .ok (.iaload, 1) := by decide +kernel
theorem dL_law_541 : decode cL_law 541 = .ok (.aload_n 0, 1) := by decide +kernel
theorem dL_law_542 : decode cL_law 542 = .ok (.iload_n 3, 1) := by decide +kernel
theorem dL_law_543 : decode cL_law 543 = .ok (.iconst 2, 1) := by decide +kernel
theorem dL_law_544 : decode cL_law 544 = .ok (.iadd, 1) := by decide +kernel
theorem dL_law_545 : decode cL_law 545 = .ok (.iaload, 1) := by decide +kernel
theorem dL_law_546 : decode cL_law 546 = .ok (.aload_n 0, 1) := by decide +kernel
theorem dL_law_547 : decode cL_law 547 = .ok (.iload_n 3, 1) := by decide +kernel
theorem dL_law_548 : decode cL_law 548 = .ok (.iconst 3, 1) := by decide +kernel
theorem dL_law_549 : decode cL_law 549 = .ok (.iadd, 1) := by decide +kernel
theorem dL_law_550 : decode cL_law 550 = .ok (.iaload, 1) := by decide +kernel
theorem dL_law_551 : decode cL_law 551 = .ok (.invokevirtual 60, 3) := by decide +kernel
theorem dL_law_554 : decode cL_law 554 = .ok (.aload_n 2, 1) := by decide +kernel
theorem dL_law_555 : decode cL_law 555 = .ok (.aload_n 0, 1) := by decide +kernel
theorem dL_law_556 : decode cL_law 556 = .ok (.iload_n 3, 1) := by decide +kernel
theorem dL_law_557 : decode cL_law 557 = .ok (.iconst 1, 1) := by decide +kernel
theorem dL_law_558 : decode cL_law 558 = .ok (.iadd, 1) := by decide +kernel
theorem dL_law_559 : decode cL_law 559 = .ok (.iaload, 1) := by decide +kernel
theorem dL_law_560 : decode cL_law 560 = .ok (.aload_n 0, 1) := by decide +kernel
theorem dL_law_561 : decode cL_law 561 = .ok (.iload_n 3, 1) := by decide +kernel
theorem dL_law_562 : decode cL_law 562 = .ok (.iconst 2, 1) := by decide +kernel
theorem dL_law_563 : decode cL_law 563 = .ok (.iadd, 1) := by decide +kernel
theorem dL_law_564 : decode cL_law 564 = .ok (.iaload, 1) := by decide +kernel
theorem dL_law_565 : decode cL_law 565 = .ok (.aload_n 0, 1) := by decide +kernel
theorem dL_law_566 : decode cL_law 566 = .ok (.iload_n 3, 1) := by decide +kernel
theorem dL_law_567 : decode cL_law 567 = .ok (.iconst 3, 1) := by decide +kernel
theorem dL_law_568 : decode cL_law 568 = .ok (.iadd, 1) := by decide +kernel
theorem dL_law_569 : decode cL_law 569 = .ok (.iaload, 1) := by decide +kernel
theorem dL_law_570 : decode cL_law 570 = .ok (.invokevirtual 63, 3) := by decide +kernel
theorem dL_law_573 : decode cL_law 573 = .ok (.if_icmp .eq 853, 3) := by decide +kernel
theorem dL_law_576 : decode cL_law 576 = .ok (.iconst 0, 1) := by decide +kernel
theorem dL_law_577 : decode cL_law 577 = .ok (.ireturn, 1) := by decide +kernel
theorem dL_law_578 : decode cL_law 578 = .ok (.aload_n 1, 1) := by decide +kernel
theorem dL_law_579 : decode cL_law 579 = .ok (.aload_n 0, 1) := by decide +kernel
theorem dL_law_580 : decode cL_law 580 = .ok (.iload_n 3, 1) := by decide +kernel
theorem dL_law_581 : decode cL_law 581 = .ok (.iconst 1, 1) := by decide +kernel
theorem dL_law_582 : decode cL_law 582 = .ok (.iadd, 1) := by decide +kernel
theorem dL_law_583 : decode cL_law 583 = .ok (.iaload, 1) := by decide +kernel
theorem dL_law_584 : decode cL_law 584 = .ok (.invokevirtual 64, 3) := by decide +kernel
theorem dL_law_587 : decode cL_law 587 = .ok (.aload_n 2, 1) := by decide +kernel
theorem dL_law_588 : decode cL_law 588 = .ok (.aload_n 0, 1) := by decide +kernel
theorem dL_law_589 : decode cL_law 589 = .ok (.iload_n 3, 1) := by decide +kernel
theorem dL_law_590 : decode cL_law 590 = .ok (.iconst 1, 1) := by decide +kernel
theorem dL_law_591 : decode cL_law 591 = .ok (.iadd, 1) := by decide +kernel
theorem dL_law_592 : decode cL_law 592 = .ok (.iaload, 1) := by decide +kernel
theorem dL_law_593 : decode cL_law 593 = .ok (.invokevirtual 67, 3) := by decide +kernel
theorem dL_law_596 : decode cL_law 596 = .ok (.if_icmp .eq 830, 3) := by decide +kernel
theorem dL_law_599 : decode cL_law 599 = .ok (.iconst 0, 1) := by decide +kernel
theorem dL_law_600 : decode cL_law 600 = .ok (.ireturn, 1) := by decide +kernel
theorem dL_law_601 : decode cL_law 601 = .ok (.aload_n 1, 1) := by decide +kernel
theorem dL_law_602 : decode cL_law 602 = .ok (.aload_n 0, 1) := by decide +kernel
theorem dL_law_603 : decode cL_law 603 = .ok (.iload_n 3, 1) := by decide +kernel
theorem dL_law_604 : decode cL_law 604 = .ok (.iconst 1, 1) := by decide +kernel
theorem dL_law_605 : decode cL_law 605 = .ok (.iadd, 1) := by decide +kernel
theorem dL_law_606 : decode cL_law 606 = .ok (.iaload, 1) := by decide +kernel
theorem dL_law_607 : decode cL_law 607 = .ok (.aload_n 0, 1) := by decide +kernel
theorem dL_law_608 : decode cL_law 608 = .ok (.iload_n 3, 1) := by decide +kernel
theorem dL_law_609 : decode cL_law 609 = .ok (.iconst 2, 1) := by decide +kernel
theorem dL_law_610 : decode cL_law 610 = .ok (.iadd, 1) := by decide +kernel
theorem dL_law_611 : decode cL_law 611 = .ok (.iaload, 1) := by decide +kernel
theorem dL_law_612 : decode cL_law 612 = .ok (.invokevirtual 68, 3) := by decide +kernel
theorem dL_law_615 : decode cL_law 615 = .ok (.aload_n 2, 1) := by decide +kernel
theorem dL_law_616 : decode cL_law 616 = .ok (.aload_n 0, 1) := by decide +kernel
theorem dL_law_617 : decode cL_law 617 = .ok (.iload_n 3, 1) := by decide +kernel
theorem dL_law_618 : decode cL_law 618 = .ok (.iconst 1, 1) := by decide +kernel
theorem dL_law_619 : decode cL_law 619 = .ok (.iadd, 1) := by decide +kernel
theorem dL_law_620 : decode cL_law 620 = .ok (.iaload, 1) := by decide +kernel
theorem dL_law_621 : decode cL_law 621 = .ok (.aload_n 0, 1) := by decide +kernel
theorem dL_law_622 : decode cL_law 622 = .ok (.iload_n 3, 1) := by decide +kernel
theorem dL_law_623 : decode cL_law 623 = .ok (.iconst 2, 1) := by decide +kernel
theorem dL_law_624 : decode cL_law 624 = .ok (.iadd, 1) := by decide +kernel
theorem dL_law_625 : decode cL_law 625 = .ok (.iaload, 1) := by decide +kernel
theorem dL_law_626 : decode cL_law 626 = .ok (.invokevirtual 71, 3) := by decide +kernel
theorem dL_law_629 : decode cL_law 629 = .ok (.if_icmp .eq 797, 3) := by decide +kernel
theorem dL_law_632 : decode cL_law 632 = .ok (.iconst 0, 1) := by decide +kernel
theorem dL_law_633 : decode cL_law 633 = .ok (.ireturn, 1) := by decide +kernel
theorem dL_law_634 : decode cL_law 634 = .ok (.aload_n 1, 1) := by decide +kernel
theorem dL_law_635 : decode cL_law 635 = .ok (.aload_n 0, 1) := by decide +kernel
theorem dL_law_636 : decode cL_law 636 = .ok (.iload_n 3, 1) := by decide +kernel
theorem dL_law_637 : decode cL_law 637 = .ok (.iconst 1, 1) := by decide +kernel
theorem dL_law_638 : decode cL_law 638 = .ok (.iadd, 1) := by decide +kernel
theorem dL_law_639 : decode cL_law 639 = .ok (.iaload, 1) := by decide +kernel
theorem dL_law_640 : decode cL_law 640 = .ok (.invokevirtual 72, 3) := by decide +kernel
theorem dL_law_643 : decode cL_law 643 = .ok (.aload_n 2, 1) := by decide +kernel
theorem dL_law_644 : decode cL_law 644 = .ok (.aload_n 0, 1) := by decide +kernel
theorem dL_law_645 : decode cL_law 645 = .ok (.iload_n 3, 1) := by decide +kernel
theorem dL_law_646 : decode cL_law 646 = .ok (.iconst 1, 1) := by decide +kernel
theorem dL_law_647 : decode cL_law 647 = .ok (.iadd, 1) := by decide +kernel
theorem dL_law_648 : decode cL_law 648 = .ok (.iaload, 1) := by decide +kernel
theorem dL_law_649 : decode cL_law 649 = .ok (.invokevirtual 75, 3) := by decide +kernel
theorem dL_law_652 : decode cL_law 652 = .ok (.if_icmp .eq 774, 3) := by decide +kernel
theorem dL_law_655 : decode cL_law 655 = .ok (.iconst 0, 1) := by decide +kernel
theorem dL_law_656 : decode cL_law 656 = .ok (.ireturn, 1) := by decide +kernel
theorem dL_law_657 : decode cL_law 657 = .ok (.aload_n 1, 1) := by decide +kernel
theorem dL_law_658 : decode cL_law 658 = .ok (.aload_n 0, 1) := by decide +kernel
theorem dL_law_659 : decode cL_law 659 = .ok (.iload_n 3, 1) := by decide +kernel
theorem dL_law_660 : decode cL_law 660 = .ok (.iconst 1, 1) := by decide +kernel
theorem dL_law_661 : decode cL_law 661 = .ok (.iadd, 1) := by decide +kernel
theorem dL_law_662 : decode cL_law 662 = .ok (.iaload, 1) := by decide +kernel
theorem dL_law_663 : decode cL_law 663 = .ok (.aload_n 0, 1) := by decide +kernel
theorem dL_law_664 : decode cL_law 664 = .ok (.iload_n 3, 1) := by decide +kernel
theorem dL_law_665 : decode cL_law 665 = .ok (.iconst 2, 1) := by decide +kernel
theorem dL_law_666 : decode cL_law 666 = .ok (.iadd, 1) := by decide +kernel
theorem dL_law_667 : decode cL_law 667 = .ok (.iaload, 1) := by decide +kernel
theorem dL_law_668 : decode cL_law 668 = .ok (.invokevirtual 76, 3) := by decide +kernel
theorem dL_law_671 : decode cL_law 671 = .ok (.aload_n 2, 1) := by decide +kernel
theorem dL_law_672 : decode cL_law 672 = .ok (.aload_n 0, 1) := by decide +kernel
theorem dL_law_673 : decode cL_law 673 = .ok (.iload_n 3, 1) := by decide +kernel
theorem dL_law_674 : decode cL_law 674 = .ok (.iconst 1, 1) := by decide +kernel
theorem dL_law_675 : decode cL_law 675 = .ok (.iadd, 1) := by decide +kernel
theorem dL_law_676 : decode cL_law 676 = .ok (.iaload, 1) := by decide +kernel
theorem dL_law_677 : decode cL_law 677 = .ok (.aload_n 0, 1) := by decide +kernel
theorem dL_law_678 : decode cL_law 678 = .ok (.iload_n 3, 1) := by decide +kernel
theorem dL_law_679 : decode cL_law 679 = .ok (.iconst 2, 1) := by decide +kernel
theorem dL_law_680 : decode cL_law 680 = .ok (.iadd, 1) := by decide +kernel
theorem dL_law_681 : decode cL_law 681 = .ok (.iaload, 1) := by decide +kernel
theorem dL_law_682 : decode cL_law 682 = .ok (.invokevirtual 79, 3) := by decide +kernel
theorem dL_law_685 : decode cL_law 685 = .ok (.if_icmp .eq 741, 3) := by decide +kernel
theorem dL_law_688 : decode cL_law 688 = .ok (.iconst 0, 1) := by decide +kernel
theorem dL_law_689 : decode cL_law 689 = .ok (.ireturn, 1) := by decide +kernel
theorem dL_law_690 : decode cL_law 690 = .ok (.aload_n 1, 1) := by decide +kernel
theorem dL_law_691 : decode cL_law 691 = .ok (.aload_n 0, 1) := by decide +kernel
theorem dL_law_692 : decode cL_law 692 = .ok (.iload_n 3, 1) := by decide +kernel
theorem dL_law_693 : decode cL_law 693 = .ok (.iconst 1, 1) := by decide +kernel
theorem dL_law_694 : decode cL_law 694 = .ok (.iadd, 1) := by decide +kernel
theorem dL_law_695 : decode cL_law 695 = .ok (.iaload, 1) := by decide +kernel
theorem dL_law_696 : decode cL_law 696 = .ok (.aload_n 0, 1) := by decide +kernel
theorem dL_law_697 : decode cL_law 697 = .ok (.iload_n 3, 1) := by decide +kernel
theorem dL_law_698 : decode cL_law 698 = .ok (.iconst 2, 1) := by decide +kernel
theorem dL_law_699 : decode cL_law 699 = .ok (.iadd, 1) := by decide +kernel
theorem dL_law_700 : decode cL_law 700 = .ok (.iaload, 1) := by decide +kernel
theorem dL_law_701 : decode cL_law 701 = .ok (.aload_n 0, 1) := by decide +kernel
theorem dL_law_702 : decode cL_law 702 = .ok (.iload_n 3, 1) := by decide +kernel
theorem dL_law_703 : decode cL_law 703 = .ok (.iconst 3, 1) := by decide +kernel
theorem dL_law_704 : decode cL_law 704 = .ok (.iadd, 1) := by decide +kernel
theorem dL_law_705 : decode cL_law 705 = .ok (.iaload, 1) := by decide +kernel
theorem dL_law_706 : decode cL_law 706 = .ok (.invokevirtual 80, 3) := by decide +kernel
theorem dL_law_709 : decode cL_law 709 = .ok (.aload_n 2, 1) := by decide +kernel
theorem dL_law_710 : decode cL_law 710 = .ok (.aload_n 0, 1) := by decide +kernel
theorem dL_law_711 : decode cL_law 711 = .ok (.iload_n 3, 1) := by decide +kernel
theorem dL_law_712 : decode cL_law 712 = .ok (.iconst 1, 1) := by decide +kernel
theorem dL_law_713 : decode cL_law 713 = .ok (.iadd, 1) := by decide +kernel
theorem dL_law_714 : decode cL_law 714 = .ok (.iaload, 1) := by decide +kernel
theorem dL_law_715 : decode cL_law 715 = .ok (.aload_n 0, 1) := by decide +kernel
theorem dL_law_716 : decode cL_law 716 = .ok (.iload_n 3, 1) := by decide +kernel
theorem dL_law_717 : decode cL_law 717 = .ok (.iconst 2, 1) := by decide +kernel
theorem dL_law_718 : decode cL_law 718 = .ok (.iadd, 1) := by decide +kernel
theorem dL_law_719 : decode cL_law 719 = .ok (.iaload, 1) := by decide +kernel
theorem dL_law_720 : decode cL_law 720 = .ok (.aload_n 0, 1) := by decide +kernel
theorem dL_law_721 : decode cL_law 721 = .ok (.iload_n 3, 1) := by decide +kernel
theorem dL_law_722 : decode cL_law 722 = .ok (.iconst 3, 1) := by decide +kernel
theorem dL_law_723 : decode cL_law 723 = .ok (.iadd, 1) := by decide +kernel
theorem dL_law_724 : decode cL_law 724 = .ok (.iaload, 1) := by decide +kernel
theorem dL_law_725 : decode cL_law 725 = .ok (.invokevirtual 83, 3) := by decide +kernel
theorem dL_law_728 : decode cL_law 728 = .ok (.if_icmp .eq 698, 3) := by decide +kernel
theorem dL_law_731 : decode cL_law 731 = .ok (.iconst 0, 1) := by decide +kernel
theorem dL_law_732 : decode cL_law 732 = .ok (.ireturn, 1) := by decide +kernel
theorem dL_law_733 : decode cL_law 733 = .ok (.aload_n 1, 1) := by decide +kernel
theorem dL_law_734 : decode cL_law 734 = .ok (.aload_n 0, 1) := by decide +kernel
theorem dL_law_735 : decode cL_law 735 = .ok (.iload_n 3, 1) := by decide +kernel
theorem dL_law_736 : decode cL_law 736 = .ok (.iconst 1, 1) := by decide +kernel
theorem dL_law_737 : decode cL_law 737 = .ok (.iadd, 1) := by decide +kernel
theorem dL_law_738 : decode cL_law 738 = .ok (.iaload, 1) := by decide +kernel
theorem dL_law_739 : decode cL_law 739 = .ok (.aload_n 0, 1) := by decide +kernel
theorem dL_law_740 : decode cL_law 740 = .ok (.iload_n 3, 1) := by decide +kernel
theorem dL_law_741 : decode cL_law 741 = .ok (.iconst 2, 1) := by decide +kernel
theorem dL_law_742 : decode cL_law 742 = .ok (.iadd, 1) := by decide +kernel
theorem dL_law_743 : decode cL_law 743 = .ok (.iaload, 1) := by decide +kernel
theorem dL_law_744 : decode cL_law 744 = .ok (.aload_n 0, 1) := by decide +kernel
theorem dL_law_745 : decode cL_law 745 = .ok (.iload_n 3, 1) := by decide +kernel
theorem dL_law_746 : decode cL_law 746 = .ok (.iconst 3, 1) := by decide +kernel
theorem dL_law_747 : decode cL_law 747 = .ok (.iadd, 1) := by decide +kernel
theorem dL_law_748 : decode cL_law 748 = .ok (.iaload, 1) := by decide +kernel
theorem dL_law_749 : decode cL_law 749 = .ok (.invokevirtual 84, 3) := by decide +kernel
theorem dL_law_752 : decode cL_law 752 = .ok (.aload_n 2, 1) := by decide +kernel
theorem dL_law_753 : decode cL_law 753 = .ok (.aload_n 0, 1) := by decide +kernel
theorem dL_law_754 : decode cL_law 754 = .ok (.iload_n 3, 1) := by decide +kernel
theorem dL_law_755 : decode cL_law 755 = .ok (.iconst 1, 1) := by decide +kernel
theorem dL_law_756 : decode cL_law 756 = .ok (.iadd, 1) := by decide +kernel
theorem dL_law_757 : decode cL_law 757 = .ok (.iaload, 1) := by decide +kernel
theorem dL_law_758 : decode cL_law 758 = .ok (.aload_n 0, 1) := by decide +kernel
theorem dL_law_759 : decode cL_law 759 = .ok (.iload_n 3, 1) := by decide +kernel
theorem dL_law_760 : decode cL_law 760 = .ok (.iconst 2, 1) := by decide +kernel
theorem dL_law_761 : decode cL_law 761 = .ok (.iadd, 1) := by decide +kernel
theorem dL_law_762 : decode cL_law 762 = .ok (.iaload, 1) := by decide +kernel
theorem dL_law_763 : decode cL_law 763 = .ok (.aload_n 0, 1) := by decide +kernel
theorem dL_law_764 : decode cL_law 764 = .ok (.iload_n 3, 1) := by decide +kernel
theorem dL_law_765 : decode cL_law 765 = .ok (.iconst 3, 1) := by decide +kernel
theorem dL_law_766 : decode cL_law 766 = .ok (.iadd, 1) := by decide +kernel
theorem dL_law_767 : decode cL_law 767 = .ok (.iaload, 1) := by decide +kernel
theorem dL_law_768 : decode cL_law 768 = .ok (.invokevirtual 87, 3) := by decide +kernel
theorem dL_law_771 : decode cL_law 771 = .ok (.if_icmp .eq 655, 3) := by decide +kernel
theorem dL_law_774 : decode cL_law 774 = .ok (.iconst 0, 1) := by decide +kernel
theorem dL_law_775 : decode cL_law 775 = .ok (.ireturn, 1) := by decide +kernel
theorem dL_law_776 : decode cL_law 776 = .ok (.aload_n 1, 1) := by decide +kernel
theorem dL_law_777 : decode cL_law 777 = .ok (.aload_n 0, 1) := by decide +kernel
theorem dL_law_778 : decode cL_law 778 = .ok (.iload_n 3, 1) := by decide +kernel
theorem dL_law_779 : decode cL_law 779 = .ok (.iconst 1, 1) := by decide +kernel
theorem dL_law_780 : decode cL_law 780 = .ok (.iadd, 1) := by decide +kernel
theorem dL_law_781 : decode cL_law 781 = .ok (.iaload, 1) := by decide +kernel
theorem dL_law_782 : decode cL_law 782 = .ok (.aload_n 0, 1) := by decide +kernel
theorem dL_law_783 : decode cL_law 783 = .ok (.iload_n 3, 1) := by decide +kernel
theorem dL_law_784 : decode cL_law 784 = .ok (.iconst 2, 1) := by decide +kernel
theorem dL_law_785 : decode cL_law 785 = .ok (.iadd, 1) := by decide +kernel
theorem dL_law_786 : decode cL_law 786 = .ok (.iaload, 1) := by decide +kernel
theorem dL_law_787 : decode cL_law 787 = .ok (.invokevirtual 88, 3) := by decide +kernel
theorem dL_law_790 : decode cL_law 790 = .ok (.aload_n 2, 1) := by decide +kernel
theorem dL_law_791 : decode cL_law 791 = .ok (.aload_n 0, 1) := by decide +kernel
theorem dL_law_792 : decode cL_law 792 = .ok (.iload_n 3, 1) := by decide +kernel
theorem dL_law_793 : decode cL_law 793 = .ok (.iconst 1, 1) := by decide +kernel
theorem dL_law_794 : decode cL_law 794 = .ok (.iadd, 1) := by decide +kernel
theorem dL_law_795 : decode cL_law 795 = .ok (.iaload, 1) := by decide +kernel
theorem dL_law_796 : decode cL_law 796 = .ok (.aload_n 0, 1) := by decide +kernel
theorem dL_law_797 : decode cL_law 797 = .ok (.iload_n 3, 1) := by decide +kernel
theorem dL_law_798 : decode cL_law 798 = .ok (.iconst 2, 1) := by decide +kernel
theorem dL_law_799 : decode cL_law 799 = .ok (.iadd, 1) := by decide +kernel
theorem dL_law_800 : decode cL_law 800 = .ok (.iaload, 1) := by decide +kernel
theorem dL_law_801 : decode cL_law 801 = .ok (.invokevirtual 91, 3) := by decide +kernel
theorem dL_law_804 : decode cL_law 804 = .ok (.if_icmp .eq 622, 3) := by decide +kernel
theorem dL_law_807 : decode cL_law 807 = .ok (.iconst 0, 1) := by decide +kernel
theorem dL_law_808 : decode cL_law 808 = .ok (.ireturn, 1) := by decide +kernel
theorem dL_law_809 : decode cL_law 809 = .ok (.aload_n 1, 1) := by decide +kernel
theorem dL_law_810 : decode cL_law 810 = .ok (.aload_n 0, 1) := by decide +kernel
theorem dL_law_811 : decode cL_law 811 = .ok (.iload_n 3, 1) := by decide +kernel
theorem dL_law_812 : decode cL_law 812 = .ok (.iconst 1, 1) := by decide +kernel
theorem dL_law_813 : decode cL_law 813 = .ok (.iadd, 1) := by decide +kernel
theorem dL_law_814 : decode cL_law 814 = .ok (.iaload, 1) := by decide +kernel
theorem dL_law_815 : decode cL_law 815 = .ok (.aload_n 0, 1) := by decide +kernel
theorem dL_law_816 : decode cL_law 816 = .ok (.iload_n 3, 1) := by decide +kernel
theorem dL_law_817 : decode cL_law 817 = .ok (.iconst 2, 1) := by decide +kernel
theorem dL_law_818 : decode cL_law 818 = .ok (.iadd, 1) := by decide +kernel
theorem dL_law_819 : decode cL_law 819 = .ok (.iaload, 1) := by decide +kernel
theorem dL_law_820 : decode cL_law 820 = .ok (.invokevirtual 92, 3) := by decide +kernel
theorem dL_law_823 : decode cL_law 823 = .ok (.aload_n 2, 1) := by decide +kernel
theorem dL_law_824 : decode cL_law 824 = .ok (.aload_n 0, 1) := by decide +kernel
theorem dL_law_825 : decode cL_law 825 = .ok (.iload_n 3, 1) := by decide +kernel
theorem dL_law_826 : decode cL_law 826 = .ok (.iconst 1, 1) := by decide +kernel
theorem dL_law_827 : decode cL_law 827 = .ok (.iadd, 1) := by decide +kernel
theorem dL_law_828 : decode cL_law 828 = .ok (.iaload, 1) := by decide +kernel
theorem dL_law_829 : decode cL_law 829 = .ok (.aload_n 0, 1) := by decide +kernel
theorem dL_law_830 : decode cL_law 830 = .ok (.iload_n 3, 1) := by decide +kernel
theorem dL_law_831 : decode cL_law 831 = .ok (.iconst 2, 1) := by decide +kernel
theorem dL_law_832 : decode cL_law 832 = .ok (.iadd, 1) := by decide +kernel
theorem dL_law_833 : decode cL_law 833 = .ok (.iaload, 1) := by decide +kernel
theorem dL_law_834 : decode cL_law 834 = .ok (.invokevirtual 95, 3) := by decide +kernel
theorem dL_law_837 : decode cL_law 837 = .ok (.if_icmp .eq 589, 3) := by decide +kernel
theorem dL_law_840 : decode cL_law 840 = .ok (.iconst 0, 1) := by decide +kernel
theorem dL_law_841 : decode cL_law 841 = .ok (.ireturn, 1) := by decide +kernel
theorem dL_law_842 : decode cL_law 842 = .ok (.aload_n 1, 1) := by decide +kernel
theorem dL_law_843 : decode cL_law 843 = .ok (.aload_n 0, 1) := by decide +kernel
theorem dL_law_844 : decode cL_law 844 = .ok (.iload_n 3, 1) := by decide +kernel
theorem dL_law_845 : decode cL_law 845 = .ok (.iconst 1, 1) := by decide +kernel
theorem dL_law_846 : decode cL_law 846 = .ok (.iadd, 1) := by decide +kernel
theorem dL_law_847 : decode cL_law 847 = .ok (.iaload, 1) := by decide +kernel
theorem dL_law_848 : decode cL_law 848 = .ok (.invokevirtual 96, 3) := by decide +kernel
theorem dL_law_851 : decode cL_law 851 = .ok (.aload_n 2, 1) := by decide +kernel
theorem dL_law_852 : decode cL_law 852 = .ok (.aload_n 0, 1) := by decide +kernel
theorem dL_law_853 : decode cL_law 853 = .ok (.iload_n 3, 1) := by decide +kernel
theorem dL_law_854 : decode cL_law 854 = .ok (.iconst 1, 1) := by decide +kernel
theorem dL_law_855 : decode cL_law 855 = .ok (.iadd, 1) := by decide +kernel
theorem dL_law_856 : decode cL_law 856 = .ok (.iaload, 1) := by decide +kernel
theorem dL_law_857 : decode cL_law 857 = .ok (.invokevirtual 99, 3) := by decide +kernel
theorem dL_law_860 : decode cL_law 860 = .ok (.if_icmp .eq 566, 3) := by decide +kernel
theorem dL_law_863 : decode cL_law 863 = .ok (.iconst 0, 1) := by decide +kernel
theorem dL_law_864 : decode cL_law 864 = .ok (.ireturn, 1) := by decide +kernel
theorem dL_law_865 : decode cL_law 865 = .ok (.aload_n 1, 1) := by decide +kernel
theorem dL_law_866 : decode cL_law 866 = .ok (.aload_n 0, 1) := by decide +kernel
theorem dL_law_867 : decode cL_law 867 = .ok (.iload_n 3, 1) := by decide +kernel
theorem dL_law_868 : decode cL_law 868 = .ok (.iconst 1, 1) := by decide +kernel
theorem dL_law_869 : decode cL_law 869 = .ok (.iadd, 1) := by decide +kernel
theorem dL_law_870 : decode cL_law 870 = .ok (.iaload, 1) := by decide +kernel
theorem dL_law_871 : decode cL_law 871 = .ok (.aload_n 0, 1) := by decide +kernel
theorem dL_law_872 : decode cL_law 872 = .ok (.iload_n 3, 1) := by decide +kernel
theorem dL_law_873 : decode cL_law 873 = .ok (.iconst 2, 1) := by decide +kernel
theorem dL_law_874 : decode cL_law 874 = .ok (.iadd, 1) := by decide +kernel
theorem dL_law_875 : decode cL_law 875 = .ok (.iaload, 1) := by decide +kernel
theorem dL_law_876 : decode cL_law 876 = .ok (.invokevirtual 100, 3) := by decide +kernel
theorem dL_law_879 : decode cL_law 879 = .ok (.aload_n 2, 1) := by decide +kernel
theorem dL_law_880 : decode cL_law 880 = .ok (.aload_n 0, 1) := by decide +kernel
theorem dL_law_881 : decode cL_law 881 = .ok (.iload_n 3, 1) := by decide +kernel
theorem dL_law_882 : decode cL_law 882 = .ok (.iconst 1, 1) := by decide +kernel
theorem dL_law_883 : decode cL_law 883 = .ok (.iadd, 1) := by decide +kernel
theorem dL_law_884 : decode cL_law 884 = .ok (.iaload, 1) := by decide +kernel
theorem dL_law_885 : decode cL_law 885 = .ok (.aload_n 0, 1) := by decide +kernel
theorem dL_law_886 : decode cL_law 886 = .ok (.iload_n 3, 1) := by decide +kernel
theorem dL_law_887 : decode cL_law 887 = .ok (.iconst 2, 1) := by decide +kernel
theorem dL_law_888 : decode cL_law 888 = .ok (.iadd, 1) := by decide +kernel
theorem dL_law_889 : decode cL_law 889 = .ok (.iaload, 1) := by decide +kernel
theorem dL_law_890 : decode cL_law 890 = .ok (.invokevirtual 103, 3) := by decide +kernel
theorem dL_law_893 : decode cL_law 893 = .ok (.if_icmp .eq 533, 3) := by decide +kernel
theorem dL_law_896 : decode cL_law 896 = .ok (.iconst 0, 1) := by decide +kernel
theorem dL_law_897 : decode cL_law 897 = .ok (.ireturn, 1) := by decide +kernel
theorem dL_law_898 : decode cL_law 898 = .ok (.aload_n 1, 1) := by decide +kernel
theorem dL_law_899 : decode cL_law 899 = .ok (.aload_n 0, 1) := by decide +kernel
theorem dL_law_900 : decode cL_law 900 = .ok (.iload_n 3, 1) := by decide +kernel
theorem dL_law_901 : decode cL_law 901 = .ok (.iconst 1, 1) := by decide +kernel
theorem dL_law_902 : decode cL_law 902 = .ok (.iadd, 1) := by decide +kernel
theorem dL_law_903 : decode cL_law 903 = .ok (.iaload, 1) := by decide +kernel
theorem dL_law_904 : decode cL_law 904 = .ok (.aload_n 0, 1) := by decide +kernel
theorem dL_law_905 : decode cL_law 905 = .ok (.iload_n 3, 1) := by decide +kernel
theorem dL_law_906 : decode cL_law 906 = .ok (.iconst 2, 1) := by decide +kernel
theorem dL_law_907 : decode cL_law 907 = .ok (.iadd, 1) := by decide +kernel
theorem dL_law_908 : decode cL_law 908 = .ok (.iaload, 1) := by decide +kernel
theorem dL_law_909 : decode cL_law 909 = .ok (.invokevirtual 104, 3) := by decide +kernel
theorem dL_law_912 : decode cL_law 912 = .ok (.aload_n 2, 1) := by decide +kernel
theorem dL_law_913 : decode cL_law 913 = .ok (.aload_n 0, 1) := by decide +kernel
theorem dL_law_914 : decode cL_law 914 = .ok (.iload_n 3, 1) := by decide +kernel
theorem dL_law_915 : decode cL_law 915 = .ok (.iconst 1, 1) := by decide +kernel
theorem dL_law_916 : decode cL_law 916 = .ok (.iadd, 1) := by decide +kernel
theorem dL_law_917 : decode cL_law 917 = .ok (.iaload, 1) := by decide +kernel
theorem dL_law_918 : decode cL_law 918 = .ok (.aload_n 0, 1) := by decide +kernel
theorem dL_law_919 : decode cL_law 919 = .ok (.iload_n 3, 1) := by decide +kernel
theorem dL_law_920 : decode cL_law 920 = .ok (.iconst 2, 1) := by decide +kernel
theorem dL_law_921 : decode cL_law 921 = .ok (.iadd, 1) := by decide +kernel
theorem dL_law_922 : decode cL_law 922 = .ok (.iaload, 1) := by decide +kernel
theorem dL_law_923 : decode cL_law 923 = .ok (.invokevirtual 107, 3) := by decide +kernel
theorem dL_law_926 : decode cL_law 926 = .ok (.if_icmp .eq 500, 3) := by decide +kernel
theorem dL_law_929 : decode cL_law 929 = .ok (.iconst 0, 1) := by decide +kernel
theorem dL_law_930 : decode cL_law 930 = .ok (.ireturn, 1) := by decide +kernel
theorem dL_law_931 : decode cL_law 931 = .ok (.aload_n 1, 1) := by decide +kernel
theorem dL_law_932 : decode cL_law 932 = .ok (.aload_n 0, 1) := by decide +kernel
theorem dL_law_933 : decode cL_law 933 = .ok (.iload_n 3, 1) := by decide +kernel
theorem dL_law_934 : decode cL_law 934 = .ok (.iconst 1, 1) := by decide +kernel
theorem dL_law_935 : decode cL_law 935 = .ok (.iadd, 1) := by decide +kernel
theorem dL_law_936 : decode cL_law 936 = .ok (.iaload, 1) := by decide +kernel
theorem dL_law_937 : decode cL_law 937 = .ok (.invokevirtual 108, 3) := by decide +kernel
theorem dL_law_940 : decode cL_law 940 = .ok (.aload_n 2, 1) := by decide +kernel
theorem dL_law_941 : decode cL_law 941 = .ok (.aload_n 0, 1) := by decide +kernel
theorem dL_law_942 : decode cL_law 942 = .ok (.iload_n 3, 1) := by decide +kernel
theorem dL_law_943 : decode cL_law 943 = .ok (.iconst 1, 1) := by decide +kernel
theorem dL_law_944 : decode cL_law 944 = .ok (.iadd, 1) := by decide +kernel
theorem dL_law_945 : decode cL_law 945 = .ok (.iaload, 1) := by decide +kernel
theorem dL_law_946 : decode cL_law 946 = .ok (.invokevirtual 111, 3) := by decide +kernel
theorem dL_law_949 : decode cL_law 949 = .ok (.if_icmp .eq 477, 3) := by decide +kernel
theorem dL_law_952 : decode cL_law 952 = .ok (.iconst 0, 1) := by decide +kernel
theorem dL_law_953 : decode cL_law 953 = .ok (.ireturn, 1) := by decide +kernel
theorem dL_law_954 : decode cL_law 954 = .ok (.aload_n 1, 1) := by decide +kernel
theorem dL_law_955 : decode cL_law 955 = .ok (.aload_n 0, 1) := by decide +kernel
theorem dL_law_956 : decode cL_law 956 = .ok (.iload_n 3, 1) := by decide +kernel
theorem dL_law_957 : decode cL_law 957 = .ok (.iconst 1, 1) := by decide +kernel
theorem dL_law_958 : decode cL_law 958 = .ok (.iadd, 1) := by decide +kernel
theorem dL_law_959 : decode cL_law 959 = .ok (.iaload, 1) := by decide +kernel
theorem dL_law_960 : decode cL_law 960 = .ok (.aload_n 0, 1) := by decide +kernel
theorem dL_law_961 : decode cL_law 961 = .ok (.iload_n 3, 1) := by decide +kernel
theorem dL_law_962 : decode cL_law 962 = .ok (.iconst 2, 1) := by decide +kernel
theorem dL_law_963 : decode cL_law 963 = .ok (.iadd, 1) := by decide +kernel
theorem dL_law_964 : decode cL_law 964 = .ok (.iaload, 1) := by decide +kernel
theorem dL_law_965 : decode cL_law 965 = .ok (.aload_n 0, 1) := by decide +kernel
theorem dL_law_966 : decode cL_law 966 = .ok (.iload_n 3, 1) := by decide +kernel
theorem dL_law_967 : decode cL_law 967 = .ok (.iconst 3, 1) := by decide +kernel
theorem dL_law_968 : decode cL_law 968 = .ok (.iadd, 1) := by decide +kernel
theorem dL_law_969 : decode cL_law 969 = .ok (.iaload, 1) := by decide +kernel
theorem dL_law_970 : decode cL_law 970 = .ok (.invokevirtual 112, 3) := by decide +kernel
theorem dL_law_973 : decode cL_law 973 = .ok (.aload_n 2, 1) := by decide +kernel
theorem dL_law_974 : decode cL_law 974 = .ok (.aload_n 0, 1) := by decide +kernel
theorem dL_law_975 : decode cL_law 975 = .ok (.iload_n 3, 1) := by decide +kernel
theorem dL_law_976 : decode cL_law 976 = .ok (.iconst 1, 1) := by decide +kernel
theorem dL_law_977 : decode cL_law 977 = .ok (.iadd, 1) := by decide +kernel
theorem dL_law_978 : decode cL_law 978 = .ok (.iaload, 1) := by decide +kernel
theorem dL_law_979 : decode cL_law 979 = .ok (.aload_n 0, 1) := by decide +kernel
theorem dL_law_980 : decode cL_law 980 = .ok (.iload_n 3, 1) := by decide +kernel
theorem dL_law_981 : decode cL_law 981 = .ok (.iconst 2, 1) := by decide +kernel
theorem dL_law_982 : decode cL_law 982 = .ok (.iadd, 1) := by decide +kernel
theorem dL_law_983 : decode cL_law 983 = .ok (.iaload, 1) := by decide +kernel
theorem dL_law_984 : decode cL_law 984 = .ok (.aload_n 0, 1) := by decide +kernel
theorem dL_law_985 : decode cL_law 985 = .ok (.iload_n 3, 1) := by decide +kernel
theorem dL_law_986 : decode cL_law 986 = .ok (.iconst 3, 1) := by decide +kernel
theorem dL_law_987 : decode cL_law 987 = .ok (.iadd, 1) := by decide +kernel
theorem dL_law_988 : decode cL_law 988 = .ok (.iaload, 1) := by decide +kernel
theorem dL_law_989 : decode cL_law 989 = .ok (.invokevirtual 116, 3) := by decide +kernel
theorem dL_law_992 : decode cL_law 992 = .ok (.lcmp, 1) := by decide +kernel
theorem dL_law_993 : decode cL_law 993 = .ok (.ifCond .eq 433, 3) := by decide +kernel
theorem dL_law_996 : decode cL_law 996 = .ok (.iconst 0, 1) := by decide +kernel
theorem dL_law_997 : decode cL_law 997 = .ok (.ireturn, 1) := by decide +kernel
theorem dL_law_998 : decode cL_law 998 = .ok (.aload_n 1, 1) := by decide +kernel
theorem dL_law_999 : decode cL_law 999 = .ok (.aload_n 0, 1) := by decide +kernel
theorem dL_law_1000 : decode cL_law 1000 = .ok (.iload_n 3, 1) := by decide +kernel
theorem dL_law_1001 : decode cL_law 1001 = .ok (.iconst 1, 1) := by decide +kernel
theorem dL_law_1002 : decode cL_law 1002 = .ok (.iadd, 1) := by decide +kernel
theorem dL_law_1003 : decode cL_law 1003 = .ok (.iaload, 1) := by decide +kernel
theorem dL_law_1004 : decode cL_law 1004 = .ok (.invokevirtual 117, 3) := by decide +kernel
theorem dL_law_1007 : decode cL_law 1007 = .ok (.aload_n 2, 1) := by decide +kernel
theorem dL_law_1008 : decode cL_law 1008 = .ok (.aload_n 0, 1) := by decide +kernel
theorem dL_law_1009 : decode cL_law 1009 = .ok (.iload_n 3, 1) := by decide +kernel
theorem dL_law_1010 : decode cL_law 1010 = .ok (.iconst 1, 1) := by decide +kernel
theorem dL_law_1011 : decode cL_law 1011 = .ok (.iadd, 1) := by decide +kernel
theorem dL_law_1012 : decode cL_law 1012 = .ok (.iaload, 1) := by decide +kernel
theorem dL_law_1013 : decode cL_law 1013 = .ok (.invokevirtual 120, 3) := by decide +kernel
theorem dL_law_1016 : decode cL_law 1016 = .ok (.if_icmp .eq 410, 3) := by decide +kernel
theorem dL_law_1019 : decode cL_law 1019 = .ok (.iconst 0, 1) := by decide +kernel
theorem dL_law_1020 : decode cL_law 1020 = .ok (.ireturn, 1) := by decide +kernel
theorem dL_law_1021 : decode cL_law 1021 = .ok (.aload_n 1, 1) := by decide +kernel
theorem dL_law_1022 : decode cL_law 1022 = .ok (.aload_n 0, 1) := by decide +kernel
theorem dL_law_1023 : decode cL_law 1023 = .ok (.iload_n 3, 1) := by decide +kernel
theorem dL_law_1024 : decode cL_law 1024 = .ok (.iconst 1, 1) := by decide +kernel
theorem dL_law_1025 : decode cL_law 1025 = .ok (.iadd, 1) := by decide +kernel
theorem dL_law_1026 : decode cL_law 1026 = .ok (.iaload, 1) := by decide +kernel
theorem dL_law_1027 : decode cL_law 1027 = .ok (.aload_n 0, 1) := by decide +kernel
theorem dL_law_1028 : decode cL_law 1028 = .ok (.iload_n 3, 1) := by decide +kernel
theorem dL_law_1029 : decode cL_law 1029 = .ok (.iconst 2, 1) := by decide +kernel
theorem dL_law_1030 : decode cL_law 1030 = .ok (.iadd, 1) := by decide +kernel
theorem dL_law_1031 : decode cL_law 1031 = .ok (.iaload, 1) := by decide +kernel
theorem dL_law_1032 : decode cL_law 1032 = .ok (.invokevirtual 121, 3) := by decide +kernel
theorem dL_law_1035 : decode cL_law 1035 = .ok (.aload_n 2, 1) := by decide +kernel
theorem dL_law_1036 : decode cL_law 1036 = .ok (.aload_n 0, 1) := by decide +kernel
theorem dL_law_1037 : decode cL_law 1037 = .ok (.iload_n 3, 1) := by decide +kernel
theorem dL_law_1038 : decode cL_law 1038 = .ok (.iconst 1, 1) := by decide +kernel
theorem dL_law_1039 : decode cL_law 1039 = .ok (.iadd, 1) := by decide +kernel
theorem dL_law_1040 : decode cL_law 1040 = .ok (.iaload, 1) := by decide +kernel
theorem dL_law_1041 : decode cL_law 1041 = .ok (.aload_n 0, 1) := by decide +kernel
theorem dL_law_1042 : decode cL_law 1042 = .ok (.iload_n 3, 1) := by decide +kernel
theorem dL_law_1043 : decode cL_law 1043 = .ok (.iconst 2, 1) := by decide +kernel
theorem dL_law_1044 : decode cL_law 1044 = .ok (.iadd, 1) := by decide +kernel
theorem dL_law_1045 : decode cL_law 1045 = .ok (.iaload, 1) := by decide +kernel
theorem dL_law_1046 : decode cL_law 1046 = .ok (.invokevirtual 124, 3) := by decide +kernel
theorem dL_law_1049 : decode cL_law 1049 = .ok (.if_icmp .eq 377, 3) := by decide +kernel
theorem dL_law_1052 : decode cL_law 1052 = .ok (.iconst 0, 1) := by decide +kernel
theorem dL_law_1053 : decode cL_law 1053 = .ok (.ireturn, 1) := by decide +kernel
theorem dL_law_1054 : decode cL_law 1054 = .ok (.aload_n 1, 1) := by decide +kernel
theorem dL_law_1055 : decode cL_law 1055 = .ok (.invokevirtual 125, 3) := by decide +kernel
theorem dL_law_1058 : decode cL_law 1058 = .ok (.aload_n 2, 1) := by decide +kernel
theorem dL_law_1059 : decode cL_law 1059 = .ok (.invokevirtual 129, 3) := by decide +kernel
theorem dL_law_1062 : decode cL_law 1062 = .ok (.if_icmp .eq 364, 3) := by decide +kernel
theorem dL_law_1065 : decode cL_law 1065 = .ok (.iconst 0, 1) := by decide +kernel
theorem dL_law_1066 : decode cL_law 1066 = .ok (.ireturn, 1) := by decide +kernel
theorem dL_law_1067 : decode cL_law 1067 = .ok (.aload_n 1, 1) := by decide +kernel
theorem dL_law_1068 : decode cL_law 1068 = .ok (.invokevirtual 130, 3) := by decide +kernel
theorem dL_law_1071 : decode cL_law 1071 = .ok (.aload_n 2, 1) := by decide +kernel
theorem dL_law_1072 : decode cL_law 1072 = .ok (.invokevirtual 133, 3) := by decide +kernel
theorem dL_law_1075 : decode cL_law 1075 = .ok (.if_icmp .eq 351, 3) := by decide +kernel
theorem dL_law_1078 : decode cL_law 1078 = .ok (.iconst 0, 1) := by decide +kernel
theorem dL_law_1079 : decode cL_law 1079 = .ok (.ireturn, 1) := by decide +kernel
theorem dL_law_1080 : decode cL_law 1080 = .ok (.aload_n 1, 1) := by decide +kernel
theorem dL_law_1081 : decode cL_law 1081 = .ok (.aload_n 0, 1) := by decide +kernel
theorem dL_law_1082 : decode cL_law 1082 = .ok (.iload_n 3, 1) := by decide +kernel
theorem dL_law_1083 : decode cL_law 1083 = .ok (.iconst 1, 1) := by decide +kernel
theorem dL_law_1084 : decode cL_law 1084 = .ok (.iadd, 1) := by decide +kernel
theorem dL_law_1085 : decode cL_law 1085 = .ok (.iaload, 1) := by decide +kernel
theorem dL_law_1086 : decode cL_law 1086 = .ok (.aload_n 0, 1) := by decide +kernel
theorem dL_law_1087 : decode cL_law 1087 = .ok (.iload_n 3, 1) := by decide +kernel
theorem dL_law_1088 : decode cL_law 1088 = .ok (.iconst 2, 1) := by decide +kernel
theorem dL_law_1089 : decode cL_law 1089 = .ok (.iadd, 1) := by decide +kernel
theorem dL_law_1090 : decode cL_law 1090 = .ok (.iaload, 1) := by decide +kernel
theorem dL_law_1091 : decode cL_law 1091 = .ok (.invokevirtual 134, 3) := by decide +kernel
theorem dL_law_1094 : decode cL_law 1094 = .ok (.aload_n 2, 1) := by decide +kernel
theorem dL_law_1095 : decode cL_law 1095 = .ok (.aload_n 0, 1) := by decide +kernel
theorem dL_law_1096 : decode cL_law 1096 = .ok (.iload_n 3, 1) := by decide +kernel
theorem dL_law_1097 : decode cL_law 1097 = .ok (.iconst 1, 1) := by decide +kernel
theorem dL_law_1098 : decode cL_law 1098 = .ok (.iadd, 1) := by decide +kernel
theorem dL_law_1099 : decode cL_law 1099 = .ok (.iaload, 1) := by decide +kernel
theorem dL_law_1100 : decode cL_law 1100 = .ok (.aload_n 0, 1) := by decide +kernel
theorem dL_law_1101 : decode cL_law 1101 = .ok (.iload_n 3, 1) := by decide +kernel
theorem dL_law_1102 : decode cL_law 1102 = .ok (.iconst 2, 1) := by decide +kernel
theorem dL_law_1103 : decode cL_law 1103 = .ok (.iadd, 1) := by decide +kernel
theorem dL_law_1104 : decode cL_law 1104 = .ok (.iaload, 1) := by decide +kernel
theorem dL_law_1105 : decode cL_law 1105 = .ok (.invokevirtual 137, 3) := by decide +kernel
theorem dL_law_1108 : decode cL_law 1108 = .ok (.if_icmp .eq 318, 3) := by decide +kernel
theorem dL_law_1111 : decode cL_law 1111 = .ok (.iconst 0, 1) := by decide +kernel
theorem dL_law_1112 : decode cL_law 1112 = .ok (.ireturn, 1) := by decide +kernel
theorem dL_law_1113 : decode cL_law 1113 = .ok (.aload_n 1, 1) := by decide +kernel
theorem dL_law_1114 : decode cL_law 1114 = .ok (.aload_n 0, 1) := by decide +kernel
theorem dL_law_1115 : decode cL_law 1115 = .ok (.iload_n 3, 1) := by decide +kernel
theorem dL_law_1116 : decode cL_law 1116 = .ok (.iconst 1, 1) := by decide +kernel
theorem dL_law_1117 : decode cL_law 1117 = .ok (.iadd, 1) := by decide +kernel
theorem dL_law_1118 : decode cL_law 1118 = .ok (.iaload, 1) := by decide +kernel
theorem dL_law_1119 : decode cL_law 1119 = .ok (.aload_n 0, 1) := by decide +kernel
theorem dL_law_1120 : decode cL_law 1120 = .ok (.iload_n 3, 1) := by decide +kernel
theorem dL_law_1121 : decode cL_law 1121 = .ok (.iconst 2, 1) := by decide +kernel
theorem dL_law_1122 : decode cL_law 1122 = .ok (.iadd, 1) := by decide +kernel
theorem dL_law_1123 : decode cL_law 1123 = .ok (.iaload, 1) := by decide +kernel
theorem dL_law_1124 : decode cL_law 1124 = .ok (.invokevirtual 138, 3) := by decide +kernel
theorem dL_law_1127 : decode cL_law 1127 = .ok (.aload_n 2, 1) := by decide +kernel
theorem dL_law_1128 : decode cL_law 1128 = .ok (.aload_n 0, 1) := by decide +kernel
theorem dL_law_1129 : decode cL_law 1129 = .ok (.iload_n 3, 1) := by decide +kernel
theorem dL_law_1130 : decode cL_law 1130 = .ok (.iconst 1, 1) := by decide +kernel
theorem dL_law_1131 : decode cL_law 1131 = .ok (.iadd, 1) := by decide +kernel
theorem dL_law_1132 : decode cL_law 1132 = .ok (.iaload, 1) := by decide +kernel
theorem dL_law_1133 : decode cL_law 1133 = .ok (.aload_n 0, 1) := by decide +kernel
theorem dL_law_1134 : decode cL_law 1134 = .ok (.iload_n 3, 1) := by decide +kernel
theorem dL_law_1135 : decode cL_law 1135 = .ok (.iconst 2, 1) := by decide +kernel
theorem dL_law_1136 : decode cL_law 1136 = .ok (.iadd, 1) := by decide +kernel
theorem dL_law_1137 : decode cL_law 1137 = .ok (.iaload, 1) := by decide +kernel
theorem dL_law_1138 : decode cL_law 1138 = .ok (.invokevirtual 141, 3) := by decide +kernel
theorem dL_law_1141 : decode cL_law 1141 = .ok (.if_icmp .eq 285, 3) := by decide +kernel
theorem dL_law_1144 : decode cL_law 1144 = .ok (.iconst 0, 1) := by decide +kernel
theorem dL_law_1145 : decode cL_law 1145 = .ok (.ireturn, 1) := by decide +kernel
theorem dL_law_1146 : decode cL_law 1146 = .ok (.aload_n 1, 1) := by decide +kernel
theorem dL_law_1147 : decode cL_law 1147 = .ok (.aload_n 0, 1) := by decide +kernel
theorem dL_law_1148 : decode cL_law 1148 = .ok (.iload_n 3, 1) := by decide +kernel
theorem dL_law_1149 : decode cL_law 1149 = .ok (.iconst 1, 1) := by decide +kernel
theorem dL_law_1150 : decode cL_law 1150 = .ok (.iadd, 1) := by decide +kernel
theorem dL_law_1151 : decode cL_law 1151 = .ok (.iaload, 1) := by decide +kernel
theorem dL_law_1152 : decode cL_law 1152 = .ok (.aload_n 0, 1) := by decide +kernel
theorem dL_law_1153 : decode cL_law 1153 = .ok (.iload_n 3, 1) := by decide +kernel
theorem dL_law_1154 : decode cL_law 1154 = .ok (.iconst 2, 1) := by decide +kernel
theorem dL_law_1155 : decode cL_law 1155 = .ok (.iadd, 1) := by decide +kernel
theorem dL_law_1156 : decode cL_law 1156 = .ok (.iaload, 1) := by decide +kernel
theorem dL_law_1157 : decode cL_law 1157 = .ok (.aload_n 0, 1) := by decide +kernel
theorem dL_law_1158 : decode cL_law 1158 = .ok (.iload_n 3, 1) := by decide +kernel
theorem dL_law_1159 : decode cL_law 1159 = .ok (.iconst 3, 1) := by decide +kernel
theorem dL_law_1160 : decode cL_law 1160 = .ok (.iadd, 1) := by decide +kernel
theorem dL_law_1161 : decode cL_law 1161 = .ok (.iaload, 1) := by decide +kernel
theorem dL_law_1162 : decode cL_law 1162 = .ok (.invokevirtual 142, 3) := by decide +kernel
theorem dL_law_1165 : decode cL_law 1165 = .ok (.aload_n 2, 1) := by decide +kernel
theorem dL_law_1166 : decode cL_law 1166 = .ok (.aload_n 0, 1) := by decide +kernel
theorem dL_law_1167 : decode cL_law 1167 = .ok (.iload_n 3, 1) := by decide +kernel
theorem dL_law_1168 : decode cL_law 1168 = .ok (.iconst 1, 1) := by decide +kernel
theorem dL_law_1169 : decode cL_law 1169 = .ok (.iadd, 1) := by decide +kernel
theorem dL_law_1170 : decode cL_law 1170 = .ok (.iaload, 1) := by decide +kernel
theorem dL_law_1171 : decode cL_law 1171 = .ok (.aload_n 0, 1) := by decide +kernel
theorem dL_law_1172 : decode cL_law 1172 = .ok (.iload_n 3, 1) := by decide +kernel
theorem dL_law_1173 : decode cL_law 1173 = .ok (.iconst 2, 1) := by decide +kernel
theorem dL_law_1174 : decode cL_law 1174 = .ok (.iadd, 1) := by decide +kernel
theorem dL_law_1175 : decode cL_law 1175 = .ok (.iaload, 1) := by decide +kernel
theorem dL_law_1176 : decode cL_law 1176 = .ok (.aload_n 0, 1) := by decide +kernel
theorem dL_law_1177 : decode cL_law 1177 = .ok (.iload_n 3, 1) := by decide +kernel
theorem dL_law_1178 : decode cL_law 1178 = .ok (.iconst 3, 1) := by decide +kernel
theorem dL_law_1179 : decode cL_law 1179 = .ok (.iadd, 1) := by decide +kernel
theorem dL_law_1180 : decode cL_law 1180 = .ok (.iaload, 1) := by decide +kernel
theorem dL_law_1181 : decode cL_law 1181 = .ok (.invokevirtual 145, 3) := by decide +kernel
theorem dL_law_1184 : decode cL_law 1184 = .ok (.if_icmp .eq 242, 3) := by decide +kernel
theorem dL_law_1187 : decode cL_law 1187 = .ok (.iconst 0, 1) := by decide +kernel
theorem dL_law_1188 : decode cL_law 1188 = .ok (.ireturn, 1) := by decide +kernel
theorem dL_law_1189 : decode cL_law 1189 = .ok (.aload_n 1, 1) := by decide +kernel
theorem dL_law_1190 : decode cL_law 1190 = .ok (.aload_n 0, 1) := by decide +kernel
theorem dL_law_1191 : decode cL_law 1191 = .ok (.iload_n 3, 1) := by decide +kernel
theorem dL_law_1192 : decode cL_law 1192 = .ok (.iconst 1, 1) := by decide +kernel
theorem dL_law_1193 : decode cL_law 1193 = .ok (.iadd, 1) := by decide +kernel
theorem dL_law_1194 : decode cL_law 1194 = .ok (.iaload, 1) := by decide +kernel
theorem dL_law_1195 : decode cL_law 1195 = .ok (.aload_n 0, 1) := by decide +kernel
theorem dL_law_1196 : decode cL_law 1196 = .ok (.iload_n 3, 1) := by decide +kernel
theorem dL_law_1197 : decode cL_law 1197 = .ok (.iconst 2, 1) := by decide +kernel
theorem dL_law_1198 : decode cL_law 1198 = .ok (.iadd, 1) := by decide +kernel
theorem dL_law_1199 : decode cL_law 1199 = .ok (.iaload, 1) := by decide +kernel
theorem dL_law_1200 : decode cL_law 1200 = .ok (.aload_n 0, 1) := by decide +kernel
theorem dL_law_1201 : decode cL_law 1201 = .ok (.iload_n 3, 1) := by decide +kernel
theorem dL_law_1202 : decode cL_law 1202 = .ok (.iconst 3, 1) := by decide +kernel
theorem dL_law_1203 : decode cL_law 1203 = .ok (.iadd, 1) := by decide +kernel
theorem dL_law_1204 : decode cL_law 1204 = .ok (.iaload, 1) := by decide +kernel
theorem dL_law_1205 : decode cL_law 1205 = .ok (.invokevirtual 146, 3) := by decide +kernel
theorem dL_law_1208 : decode cL_law 1208 = .ok (.aload_n 2, 1) := by decide +kernel
theorem dL_law_1209 : decode cL_law 1209 = .ok (.aload_n 0, 1) := by decide +kernel
theorem dL_law_1210 : decode cL_law 1210 = .ok (.iload_n 3, 1) := by decide +kernel
theorem dL_law_1211 : decode cL_law 1211 = .ok (.iconst 1, 1) := by decide +kernel
theorem dL_law_1212 : decode cL_law 1212 = .ok (.iadd, 1) := by decide +kernel
theorem dL_law_1213 : decode cL_law 1213 = .ok (.iaload, 1) := by decide +kernel
theorem dL_law_1214 : decode cL_law 1214 = .ok (.aload_n 0, 1) := by decide +kernel
theorem dL_law_1215 : decode cL_law 1215 = .ok (.iload_n 3, 1) := by decide +kernel
theorem dL_law_1216 : decode cL_law 1216 = .ok (.iconst 2, 1) := by decide +kernel
theorem dL_law_1217 : decode cL_law 1217 = .ok (.iadd, 1) := by decide +kernel
theorem dL_law_1218 : decode cL_law 1218 = .ok (.iaload, 1) := by decide +kernel
theorem dL_law_1219 : decode cL_law 1219 = .ok (.aload_n 0, 1) := by decide +kernel
theorem dL_law_1220 : decode cL_law 1220 = .ok (.iload_n 3, 1) := by decide +kernel
theorem dL_law_1221 : decode cL_law 1221 = .ok (.iconst 3, 1) := by decide +kernel
theorem dL_law_1222 : decode cL_law 1222 = .ok (.iadd, 1) := by decide +kernel
theorem dL_law_1223 : decode cL_law 1223 = .ok (.iaload, 1) := by decide +kernel
theorem dL_law_1224 : decode cL_law 1224 = .ok (.invokevirtual 149, 3) := by decide +kernel
theorem dL_law_1227 : decode cL_law 1227 = .ok (.if_icmp .eq 199, 3) := by decide +kernel
theorem dL_law_1230 : decode cL_law 1230 = .ok (.iconst 0, 1) := by decide +kernel
theorem dL_law_1231 : decode cL_law 1231 = .ok (.ireturn, 1) := by decide +kernel
theorem dL_law_1232 : decode cL_law 1232 = .ok (.aload_n 1, 1) := by decide +kernel
theorem dL_law_1233 : decode cL_law 1233 = .ok (.aload_n 0, 1) := by decide +kernel
theorem dL_law_1234 : decode cL_law 1234 = .ok (.iload_n 3, 1) := by decide +kernel
theorem dL_law_1235 : decode cL_law 1235 = .ok (.iconst 1, 1) := by decide +kernel
theorem dL_law_1236 : decode cL_law 1236 = .ok (.iadd, 1) := by decide +kernel
theorem dL_law_1237 : decode cL_law 1237 = .ok (.iaload, 1) := by decide +kernel
theorem dL_law_1238 : decode cL_law 1238 = .ok (.aload_n 0, 1) := by decide +kernel
theorem dL_law_1239 : decode cL_law 1239 = .ok (.iload_n 3, 1) := by decide +kernel
theorem dL_law_1240 : decode cL_law 1240 = .ok (.iconst 2, 1) := by decide +kernel
theorem dL_law_1241 : decode cL_law 1241 = .ok (.iadd, 1) := by decide +kernel
theorem dL_law_1242 : decode cL_law 1242 = .ok (.iaload, 1) := by decide +kernel
theorem dL_law_1243 : decode cL_law 1243 = .ok (.aload_n 0, 1) := by decide +kernel
theorem dL_law_1244 : decode cL_law 1244 = .ok (.iload_n 3, 1) := by decide +kernel
theorem dL_law_1245 : decode cL_law 1245 = .ok (.iconst 3, 1) := by decide +kernel
theorem dL_law_1246 : decode cL_law 1246 = .ok (.iadd, 1) := by decide +kernel
theorem dL_law_1247 : decode cL_law 1247 = .ok (.iaload, 1) := by decide +kernel
theorem dL_law_1248 : decode cL_law 1248 = .ok (.aload_n 0, 1) := by decide +kernel
theorem dL_law_1249 : decode cL_law 1249 = .ok (.iload_n 3, 1) := by decide +kernel
theorem dL_law_1250 : decode cL_law 1250 = .ok (.iconst 4, 1) := by decide +kernel
theorem dL_law_1251 : decode cL_law 1251 = .ok (.iadd, 1) := by decide +kernel
theorem dL_law_1252 : decode cL_law 1252 = .ok (.iaload, 1) := by decide +kernel
theorem dL_law_1253 : decode cL_law 1253 = .ok (.aload_n 0, 1) := by decide +kernel
theorem dL_law_1254 : decode cL_law 1254 = .ok (.iload_n 3, 1) := by decide +kernel
theorem dL_law_1255 : decode cL_law 1255 = .ok (.iconst 5, 1) := by decide +kernel
theorem dL_law_1256 : decode cL_law 1256 = .ok (.iadd, 1) := by decide +kernel
theorem dL_law_1257 : decode cL_law 1257 = .ok (.iaload, 1) := by decide +kernel
theorem dL_law_1258 : decode cL_law 1258 = .ok (.invokevirtual 150, 3) := by decide +kernel
theorem dL_law_1261 : decode cL_law 1261 = .ok (.aload_n 2, 1) := by decide +kernel
theorem dL_law_1262 : decode cL_law 1262 = .ok (.aload_n 0, 1) := by decide +kernel
theorem dL_law_1263 : decode cL_law 1263 = .ok (.iload_n 3, 1) := by decide +kernel
theorem dL_law_1264 : decode cL_law 1264 = .ok (.iconst 1, 1) := by decide +kernel
theorem dL_law_1265 : decode cL_law 1265 = .ok (.iadd, 1) := by decide +kernel
theorem dL_law_1266 : decode cL_law 1266 = .ok (.iaload, 1) := by decide +kernel
theorem dL_law_1267 : decode cL_law 1267 = .ok (.aload_n 0, 1) := by decide +kernel
theorem dL_law_1268 : decode cL_law 1268 = .ok (.iload_n 3, 1) := by decide +kernel
theorem dL_law_1269 : decode cL_law 1269 = .ok (.iconst 2, 1) := by decide +kernel
theorem dL_law_1270 : decode cL_law 1270 = .ok (.iadd, 1) := by decide +kernel
theorem dL_law_1271 : decode cL_law 1271 = .ok (.iaload, 1) := by decide +kernel
theorem dL_law_1272 : decode cL_law 1272 = .ok (.aload_n 0, 1) := by decide +kernel
theorem dL_law_1273 : decode cL_law 1273 = .ok (.iload_n 3, 1) := by decide +kernel
theorem dL_law_1274 : decode cL_law 1274 = .ok (.iconst 3, 1) := by decide +kernel
theorem dL_law_1275 : decode cL_law 1275 = .ok (.iadd, 1) := by decide +kernel
theorem dL_law_1276 : decode cL_law 1276 = .ok (.iaload, 1) := by decide +kernel
theorem dL_law_1277 : decode cL_law 1277 = .ok (.aload_n 0, 1) := by decide +kernel
theorem dL_law_1278 : decode cL_law 1278 = .ok (.iload_n 3, 1) := by decide +kernel
theorem dL_law_1279 : decode cL_law 1279 = .ok (.iconst 4, 1) := by decide +kernel
theorem dL_law_1280 : decode cL_law 1280 = .ok (.iadd, 1) := by decide +kernel
theorem dL_law_1281 : decode cL_law 1281 = .ok (.iaload, 1) := by decide +kernel
theorem dL_law_1282 : decode cL_law 1282 = .ok (.aload_n 0, 1) := by decide +kernel
theorem dL_law_1283 : decode cL_law 1283 = .ok (.iload_n 3, 1) := by decide +kernel
theorem dL_law_1284 : decode cL_law 1284 = .ok (.iconst 5, 1) := by decide +kernel
theorem dL_law_1285 : decode cL_law 1285 = .ok (.iadd, 1) := by decide +kernel
theorem dL_law_1286 : decode cL_law 1286 = .ok (.iaload, 1) := by decide +kernel
theorem dL_law_1287 : decode cL_law 1287 = .ok (.invokevirtual 154, 3) := by decide +kernel
theorem dL_law_1290 : decode cL_law 1290 = .ok (.if_icmp .eq 136, 3) := by decide +kernel
theorem dL_law_1293 : decode cL_law 1293 = .ok (.iconst 0, 1) := by decide +kernel
theorem dL_law_1294 : decode cL_law 1294 = .ok (.ireturn, 1) := by decide +kernel
theorem dL_law_1295 : decode cL_law 1295 = .ok (.aload_n 1, 1) := by decide +kernel
theorem dL_law_1296 : decode cL_law 1296 = .ok (.aload_n 0, 1) := by decide +kernel
theorem dL_law_1297 : decode cL_law 1297 = .ok (.iload_n 3, 1) := by decide +kernel
theorem dL_law_1298 : decode cL_law 1298 = .ok (.iconst 1, 1) := by decide +kernel
theorem dL_law_1299 : decode cL_law 1299 = .ok (.iadd, 1) := by decide +kernel
theorem dL_law_1300 : decode cL_law 1300 = .ok (.iaload, 1) := by decide +kernel
theorem dL_law_1301 : decode cL_law 1301 = .ok (.invokevirtual 155, 3) := by decide +kernel
theorem dL_law_1304 : decode cL_law 1304 = .ok (.aload_n 2, 1) := by decide +kernel
theorem dL_law_1305 : decode cL_law 1305 = .ok (.aload_n 0, 1) := by decide +kernel
theorem dL_law_1306 : decode cL_law 1306 = .ok (.iload_n 3, 1) := by decide +kernel
theorem dL_law_1307 : decode cL_law 1307 = .ok (.iconst 1, 1) := by decide +kernel
theorem dL_law_1308 : decode cL_law 1308 = .ok (.iadd, 1) := by decide +kernel
theorem dL_law_1309 : decode cL_law 1309 = .ok (.iaload, 1) := by decide +kernel
theorem dL_law_1310 : decode cL_law 1310 = .ok (.invokevirtual 158, 3) := by decide +kernel
theorem dL_law_1313 : decode cL_law 1313 = .ok (.if_icmp .eq 113, 3) := by decide +kernel
theorem dL_law_1316 : decode cL_law 1316 = .ok (.iconst 0, 1) := by decide +kernel
theorem dL_law_1317 : decode cL_law 1317 = .ok (.ireturn, 1) := by decide +kernel
theorem dL_law_1318 : decode cL_law 1318 = .ok (.aload_n 1, 1) := by decide +kernel
theorem dL_law_1319 : decode cL_law 1319 = .ok (.aload_n 0, 1) := by decide +kernel
theorem dL_law_1320 : decode cL_law 1320 = .ok (.iload_n 3, 1) := by decide +kernel
theorem dL_law_1321 : decode cL_law 1321 = .ok (.iconst 1, 1) := by decide +kernel
theorem dL_law_1322 : decode cL_law 1322 = .ok (.iadd, 1) := by decide +kernel
theorem dL_law_1323 : decode cL_law 1323 = .ok (.iaload, 1) := by decide +kernel
theorem dL_law_1324 : decode cL_law 1324 = .ok (.invokevirtual 159, 3) := by decide +kernel
theorem dL_law_1327 : decode cL_law 1327 = .ok (.aload_n 2, 1) := by decide +kernel
theorem dL_law_1328 : decode cL_law 1328 = .ok (.aload_n 0, 1) := by decide +kernel
theorem dL_law_1329 : decode cL_law 1329 = .ok (.iload_n 3, 1) := by decide +kernel
theorem dL_law_1330 : decode cL_law 1330 = .ok (.iconst 1, 1) := by decide +kernel
theorem dL_law_1331 : decode cL_law 1331 = .ok (.iadd, 1) := by decide +kernel
theorem dL_law_1332 : decode cL_law 1332 = .ok (.iaload, 1) := by decide +kernel
theorem dL_law_1333 : decode cL_law 1333 = .ok (.invokevirtual 162, 3) := by decide +kernel
theorem dL_law_1336 : decode cL_law 1336 = .ok (.if_icmp .eq 90, 3) := by decide +kernel
theorem dL_law_1339 : decode cL_law 1339 = .ok (.iconst 0, 1) := by decide +kernel
theorem dL_law_1340 : decode cL_law 1340 = .ok (.ireturn, 1) := by decide +kernel
theorem dL_law_1341 : decode cL_law 1341 = .ok (.aload_n 1, 1) := by decide +kernel
theorem dL_law_1342 : decode cL_law 1342 = .ok (.invokevirtual 163, 3) := by decide +kernel
theorem dL_law_1345 : decode cL_law 1345 = .ok (.aload_n 2, 1) := by decide +kernel
theorem dL_law_1346 : decode cL_law 1346 = .ok (.invokevirtual 166, 3) := by decide +kernel
theorem dL_law_1349 : decode cL_law 1349 = .ok (.if_icmp .eq 77, 3) := by decide +kernel
theorem dL_law_1352 : decode cL_law 1352 = .ok (.iconst 0, 1) := by decide +kernel
theorem dL_law_1353 : decode cL_law 1353 = .ok (.ireturn, 1) := by decide +kernel
theorem dL_law_1354 : decode cL_law 1354 = .ok (.aload_n 1, 1) := by decide +kernel
theorem dL_law_1355 : decode cL_law 1355 = .ok (.invokevirtual 167, 3) := by decide +kernel
theorem dL_law_1358 : decode cL_law 1358 = .ok (.aload_n 2, 1) := by decide +kernel
theorem dL_law_1359 : decode cL_law 1359 = .ok (.invokevirtual 170, 3) := by decide +kernel
theorem dL_law_1362 : decode cL_law 1362 = .ok (.if_icmp .eq 64, 3) := by decide +kernel
theorem dL_law_1365 : decode cL_law 1365 = .ok (.iconst 0, 1) := by decide +kernel
theorem dL_law_1366 : decode cL_law 1366 = .ok (.ireturn, 1) := by decide +kernel
theorem dL_law_1367 : decode cL_law 1367 = .ok (.aload_n 1, 1) := by decide +kernel
theorem dL_law_1368 : decode cL_law 1368 = .ok (.invokevirtual 171, 3) := by decide +kernel
theorem dL_law_1371 : decode cL_law 1371 = .ok (.aload_n 2, 1) := by decide +kernel
theorem dL_law_1372 : decode cL_law 1372 = .ok (.invokevirtual 174, 3) := by decide +kernel
theorem dL_law_1375 : decode cL_law 1375 = .ok (.if_icmp .eq 51, 3) := by decide +kernel
theorem dL_law_1378 : decode cL_law 1378 = .ok (.iconst 0, 1) := by decide +kernel
theorem dL_law_1379 : decode cL_law 1379 = .ok (.ireturn, 1) := by decide +kernel
theorem dL_law_1380 : decode cL_law 1380 = .ok (.aload_n 1, 1) := by decide +kernel
theorem dL_law_1381 : decode cL_law 1381 = .ok (.aload_n 0, 1) := by decide +kernel
theorem dL_law_1382 : decode cL_law 1382 = .ok (.iload_n 3, 1) := by decide +kernel
theorem dL_law_1383 : decode cL_law 1383 = .ok (.iconst 1, 1) := by decide +kernel
theorem dL_law_1384 : decode cL_law 1384 = .ok (.iadd, 1) := by decide +kernel
theorem dL_law_1385 : decode cL_law 1385 = .ok (.iaload, 1) := by decide +kernel
theorem dL_law_1386 : decode cL_law 1386 = .ok (.invokevirtual 175, 3) := by decide +kernel
theorem dL_law_1389 : decode cL_law 1389 = .ok (.aload_n 2, 1) := by decide +kernel
theorem dL_law_1390 : decode cL_law 1390 = .ok (.aload_n 0, 1) := by decide +kernel
theorem dL_law_1391 : decode cL_law 1391 = .ok (.iload_n 3, 1) := by decide +kernel
theorem dL_law_1392 : decode cL_law 1392 = .ok (.iconst 1, 1) := by decide +kernel
theorem dL_law_1393 : decode cL_law 1393 = .ok (.iadd, 1) := by decide +kernel
theorem dL_law_1394 : decode cL_law 1394 = .ok (.iaload, 1) := by decide +kernel
theorem dL_law_1395 : decode cL_law 1395 = .ok (.invokevirtual 178, 3) := by decide +kernel
theorem dL_law_1398 : decode cL_law 1398 = .ok (.if_icmp .eq 28, 3) := by decide +kernel
theorem dL_law_1401 : decode cL_law 1401 = .ok (.iconst 0, 1) := by decide +kernel
theorem dL_law_1402 : decode cL_law 1402 = .ok (.ireturn, 1) := by decide +kernel
theorem dL_law_1403 : decode cL_law 1403 = .ok (.aload_n 1, 1) := by decide +kernel
theorem dL_law_1404 : decode cL_law 1404 = .ok (.aload_n 0, 1) := by decide +kernel
theorem dL_law_1405 : decode cL_law 1405 = .ok (.iload_n 3, 1) := by decide +kernel
theorem dL_law_1406 : decode cL_law 1406 = .ok (.iconst 1, 1) := by decide +kernel
theorem dL_law_1407 : decode cL_law 1407 = .ok (.iadd, 1) := by decide +kernel
theorem dL_law_1408 : decode cL_law 1408 = .ok (.iaload, 1) := by decide +kernel
theorem dL_law_1409 : decode cL_law 1409 = .ok (.invokevirtual 179, 3) := by decide +kernel
theorem dL_law_1412 : decode cL_law 1412 = .ok (.aload_n 2, 1) := by decide +kernel
theorem dL_law_1413 : decode cL_law 1413 = .ok (.aload_n 0, 1) := by decide +kernel
theorem dL_law_1414 : decode cL_law 1414 = .ok (.iload_n 3, 1) := by decide +kernel
theorem dL_law_1415 : decode cL_law 1415 = .ok (.iconst 1, 1) := by decide +kernel
theorem dL_law_1416 : decode cL_law 1416 = .ok (.iadd, 1) := by decide +kernel
theorem dL_law_1417 : decode cL_law 1417 = .ok (.iaload, 1) := by decide +kernel
theorem dL_law_1418 : decode cL_law 1418 = .ok (.invokevirtual 182, 3) := by decide +kernel
theorem dL_law_1421 : decode cL_law 1421 = .ok (.if_icmp .eq 5, 3) := by decide +kernel
theorem dL_law_1424 : decode cL_law 1424 = .ok (.iconst 0, 1) := by decide +kernel
theorem dL_law_1425 : decode cL_law 1425 = .ok (.ireturn, 1) := by decide +kernel
theorem dL_law_1426 : decode cL_law 1426 = .ok (.iinc 3 6, 3) := by decide +kernel
theorem dL_law_1429 : decode cL_law 1429 = .ok (.goto (-1411), 3) := by decide +kernel
theorem dL_law_1432 : decode cL_law 1432 = .ok (.iconst 1, 1) := by decide +kernel
theorem dL_law_1433 : decode cL_law 1433 = .ok (.ireturn, 1) := by decide +kernel
end
section
/-! the base layer: one world for both sides; the judgement qx_K; contracts qx_Ct -/
abbrev qx_G : Type := va_G × (Nat → ClassId) × (Nat → Nat)
abbrev qx_Sg : Type := Nat → Nat → Int32
def qx_ad (G : qx_G) (k : Nat) : Nat := G.2.2 k
def qx_cut (n : Nat) (r : Nat → Int32) : Nat → Int32 := fun i => if i < n then r i else 0
def qx_ia (G : qx_G) (n : Nat) (r : Nat → Int32) : va_E := .inl (G.2.1 0, n, .inl (qx_cut n r))
def qx_bu (r : Nat → Int32) : va_E := .inr (0, [.int (r 0), .int (r 1), .int (r 2), .int (r 3), .int (r 4), .int (r 5), .int (r 6)])
def qx_li (G : qx_G) (k : Nat) (r : Nat → Int32) : va_E := .inr (1, [.int (r 0), .int (r 1), .int (r 2), .int (r 3), .ref (qx_ad G (k + 1)), .ref (qx_ad G (k + 2)), .ref (qx_ad G (k + 3)), .ref (qx_ad G (k + 4))])
def qx_bs (G : qx_G) (k : Nat) : va_E := .inl (G.2.1 1, 8, .inr (.inr (.inr (.inr (fun i => some (qx_ad G (k + 5 + i)))))))
def qx_FL (G : qx_G) (k j : Nat) (r : Nat → Int32) : va_E := match j with
  | 0 => qx_li G k r
  | 1 => qx_ia G 6 r
  | 2 => qx_ia G 12 r
  | 3 => qx_ia G 10 r
  | 4 => qx_bs G k
  | _ => qx_bu r
def qx_sh (G : qx_G) (k : Nat) (r : Nat → Int32) : va_E := .inr (2, [.int (r 0), .int (r 1), .ref (qx_ad G (k + 4))])
def qx_F2 (G : qx_G) (j : Nat) (r : Nat → Int32) : va_E := match j with
  | 0 => .inr (3, [.ref (qx_ad G 41), .int (r 1), .int (r 2), .int (r 3), .int (r 4), .int (r 5)])
  | 1 => qx_ia G 120 r
  | 2 => .inr (4, [.ref (qx_ad G 40), .ref (qx_ad G 14), .int (r 2), .int (r 3)])
  | 3 => .inl (G.2.1 2, 4, .inr (.inr (.inr (.inr (fun i => some (qx_ad G (44 + i)))))))
  | 4 => qx_sh G 44 r
  | 5 => qx_sh G 45 r
  | 6 => qx_sh G 46 r
  | 7 => qx_sh G 47 r
  | 8 => qx_ia G 40 r
  | 9 => qx_ia G 40 r
  | 10 => qx_ia G 40 r
  | 11 => qx_ia G 40 r
  | 12 => qx_ia G 7 r
  | 13 => .inr (6, [.ref (qx_ad G 54), .ref (qx_ad G 55), .ref (qx_ad G 56), .int (r 3), .ref (qx_ad G 57), .ref (qx_ad G 58), .int (r 6), .int (r 7), .int (r 8), .int (r 9), .int (r 10), .int (r 11), .ref (qx_ad G 59), .ref (qx_ad G 60), .int (r 14), .int (r 15), .ref (qx_ad G 61), .ref (qx_ad G 62), .ref (qx_ad G 63), .ref (qx_ad G 64)])
  | 14 => qx_ia G 88 r
  | 15 => qx_ia G 88 r
  | 16 => qx_ia G 88 r
  | 17 => qx_ia G 8 r
  | 18 => qx_ia G 120 r
  | 19 => .inl (G.2.1 3, 7, .inr (.inr (.inr (.inr (fun i => some (qx_ad G (100 + i)))))))
  | 20 => qx_ia G 600 r
  | 21 => qx_ia G 4 r
  | 22 => qx_ia G 4 r
  | 23 => qx_ia G 160 r
  | _ => qx_ia G 40 r
def qx_F (G : qx_G) (k : Nat) (r : Nat → Int32) : va_E :=
  if k = 0 then .inr (5, [.ref (qx_ad G 1), .ref (qx_ad G 14), .ref (qx_ad G 27), .int (r 3), .ref (qx_ad G 40), .ref (qx_ad G 42), .ref (qx_ad G 43), .ref (qx_ad G 52)])
  else if k < 14 then qx_FL G 1 (k - 1) r
  else if k < 27 then qx_FL G 14 (k - 14) r
  else if k < 40 then qx_FL G 27 (k - 27) r
  else qx_F2 G (k - 40) r
def qx_W (G : qx_G) (σ : qx_Sg) : va_W := (List.range 65).map (fun k => (qx_ad G k, qx_F G k (σ k)))
theorem qx_W_get {G : qx_G} {σ : qx_Sg} {k : Nat} (hk : k < 65) : (qx_W G σ)[k]? = some (qx_ad G k, qx_F G k (σ k)) := by
  simp [qx_W, List.getElem?_map, List.getElem?_range hk]
theorem qx_W_out {G : qx_G} {σ : qx_Sg} {k : Nat} (hk : ¬ k < 65) : (qx_W G σ)[k]? = none := by
  simp [qx_W, List.getElem?_map]; omega
theorem qx_W_len {G : qx_G} {σ : qx_Sg} : (qx_W G σ).length = 65 := by simp [qx_W]
theorem qx_W_set {G : qx_G} {σ : qx_Sg} {k : Nat} (hk : k < 65) (r : Nat → Int32) : (qx_W G σ).set k (qx_ad G k, qx_F G k r) = qx_W G (va_up σ k r) := by
  apply List.ext_getElem?
  intro j
  by_cases hj : j < 65
  · by_cases e : j = k
    · subst e
      rw [List.getElem?_set_self (by rw [qx_W_len]; exact hk), qx_W_get hj]
      simp [va_up]
    · rw [List.getElem?_set_ne (fun h => e h.symm), qx_W_get hj, qx_W_get hj]
      simp [va_up, e]
  · rw [List.getElem?_eq_none (by rw [List.length_set, qx_W_len]; omega), qx_W_out hj]
theorem qx_W_ext {G : qx_G} {σ σ' : qx_Sg} (h : ∀ k, k < 65 → qx_F G k (σ k) = qx_F G k (σ' k)) : qx_W G σ = qx_W G σ' := by
  apply List.ext_getElem?
  intro j
  by_cases hj : j < 65
  · rw [qx_W_get hj, qx_W_get hj, h j hj]
  · rw [qx_W_out hj, qx_W_out hj]
theorem qx_cut_upd {n i : Nat} {r : Nat → Int32} {x : Int32} (hi : i < n) : upd (qx_cut n r) i x = qx_cut n (upd r i x) := by
  funext j
  unfold upd qx_cut
  by_cases e : j = i
  · subst e; simp [hi]
  · simp [e]
theorem qx_cut_at {n i : Nat} {r : Nat → Int32} (hi : i < n) : qx_cut n r i = r i := by simp [qx_cut, hi]
/-- the kinds of cells -/
def qx_isL (k : Nat) : Prop := k = 1 ∨ k = 14 ∨ k = 27
theorem qx_Fl {G : qx_G} {k : Nat} (h : qx_isL k) (r : Nat → Int32) : qx_F G k r = qx_li G k r := by rcases h with rfl | rfl | rfl <;> rfl
theorem qx_Fl1 {G : qx_G} {k : Nat} (h : qx_isL k) (r : Nat → Int32) : qx_F G (k + 1) r = qx_ia G 6 r := by rcases h with rfl | rfl | rfl <;> rfl
theorem qx_Fl2 {G : qx_G} {k : Nat} (h : qx_isL k) (r : Nat → Int32) : qx_F G (k + 2) r = qx_ia G 12 r := by rcases h with rfl | rfl | rfl <;> rfl
theorem qx_Fl3 {G : qx_G} {k : Nat} (h : qx_isL k) (r : Nat → Int32) : qx_F G (k + 3) r = qx_ia G 10 r := by rcases h with rfl | rfl | rfl <;> rfl
theorem qx_Fl4 {G : qx_G} {k : Nat} (h : qx_isL k) (r : Nat → Int32) : qx_F G (k + 4) r = qx_bs G k := by rcases h with rfl | rfl | rfl <;> rfl
theorem qx_Fl5 {G : qx_G} {k b : Nat} (h : qx_isL k) (hb : b < 8) (r : Nat → Int32) : qx_F G (k + 5 + b) r = qx_bu r := by
  have hb' : b = 0 ∨ b = 1 ∨ b = 2 ∨ b = 3 ∨ b = 4 ∨ b = 5 ∨ b = 6 ∨ b = 7 := by omega
  rcases h with rfl | rfl | rfl <;> rcases hb' with rfl | rfl | rfl | rfl | rfl | rfl | rfl | rfl <;> rfl
theorem qx_isL.lt {k : Nat} (h : qx_isL k) : k < 28 := by rcases h with rfl | rfl | rfl <;> omega
def qx_isB (k : Nat) : Prop := ∃ L b, qx_isL L ∧ b < 8 ∧ k = L + 5 + b
theorem qx_Fb {G : qx_G} {k : Nat} (h : qx_isB k) (r : Nat → Int32) : qx_F G k r = qx_bu r := by
  obtain ⟨L, b, hL, hb, rfl⟩ := h
  exact qx_Fl5 hL hb r
theorem qx_isB.lt {k : Nat} (h : qx_isB k) : k < 65 := by
  obtain ⟨L, b, hL, hb, rfl⟩ := h
  have := hL.lt
  omega
/-- words of the tables, and what the state holds beside the world -/
def qx_Wd : List Cond := lw_tbl.filter goodWord
def qx_nw : Cond → Bool
  | .fieldLinkNest _ _ _ _ _ _ => true
  | .methodLinkNest _ _ _ _ => true
  | _ => false
def qx_Nd : List Cond := lw_tbl.filter qx_nw
theorem qx_in {w : Cond} (h : w ∈ lw_tbl) (g : goodWord w = true) : w ∈ qx_Wd := List.mem_filter.mpr ⟨h, g⟩
theorem qx_inN {w : Cond} (h : w ∈ lw_tbl) (g : qx_nw w = true) : w ∈ qx_Nd := List.mem_filter.mpr ⟨h, g⟩
theorem qx_goodW {w : Cond} (h : w ∈ qx_Wd) : (w.onTables && w.keeps) = true ∨ ∃ ty, w = .arrayClass ty := good_of_word (List.mem_filter.mp h).2
theorem qx_nest {w : Cond} (h : qx_nw w = true) {s U : State} (hW : s.WarmedH U.vm) (hZ : va_Nw w s) : va_Nw w U := by
  cases w <;> first | exact va_Nw.warmF hW hZ | exact va_Nw.warmM hW hZ | cases h
def qx_tys (G : qx_G) : List (ClassId × FieldType) := [(G.2.1 0, .int), (G.2.1 1, .object "BustRest$Bust"), (G.2.1 2, .object "BustRest$Sheet"), (G.2.1 3, .object "java/lang/String")]
def qx_inj (G : qx_G) : Prop := ∀ i j, i < 65 → j < 65 → qx_ad G i = qx_ad G j → i = j
/-- the twelve texts: 0 to 6 the kinds' names, 7 has, 8 at, 9 sealed, 10 bequest, 11 store -/
def qx_byt : List (List Int32) := [[98, 117, 115, 116], [112, 111, 101, 116], [115, 116, 111, 105, 99], [111, 114, 97, 116, 111, 114], [99, 105, 99, 101, 114, 111], [116, 111, 114, 115, 111], [104, 111, 109, 101, 114], [104, 97, 115], [97, 116], [115, 101, 97, 108, 101, 100], [98, 101, 113, 117, 101, 115, 116], [115, 116, 111, 114, 101]]
def qx_len : List Nat := [4, 4, 5, 6, 6, 5, 5, 3, 2, 6, 7, 5]
def qx_str : List (String × Nat × String × Nat) := [("BustRest$TextReader", 78, "bust", 0), ("BustRest$TextReader", 66, "poet", 1), ("BustRest$TextReader", 68, "stoic", 2), ("BustRest$TextReader", 70, "orator", 3), ("BustRest$TextReader", 72, "cicero", 4), ("BustRest$TextReader", 74, "torso", 5), ("BustRest$TextReader", 76, "homer", 6), ("BustRest$TextReader", 109, "has", 7), ("BustRest$TextReader", 115, "at", 8), ("BustRest$TextReader", 130, "sealed", 9), ("BustRest$TextReader", 44, "bequest", 10), ("BustRest$TextReader", 53, "store", 11),
  ("BustRestModel", 27, "bust", 0), ("BustRestModel", 29, "poet", 1), ("BustRestModel", 31, "stoic", 2), ("BustRestModel", 33, "orator", 3), ("BustRestModel", 35, "cicero", 4), ("BustRestModel", 37, "torso", 5), ("BustRestModel", 39, "homer", 6), ("BustRestModel", 293, "has", 7), ("BustRestModel", 297, "at", 8), ("BustRestModel", 299, "sealed", 9), ("BustRestModel", 308, "bequest", 10), ("BustRestModel", 310, "store", 11)]
def qx_Kn (G : qx_G) (U : State) : Prop := va_K G.1 vwCl (qx_tys G) U ∧ (∀ w ∈ qx_Nd, va_Nw w U) ∧ ∀ q ∈ qx_str, vk_R q.1 q.2.1 q.2.2.1 (qx_ad G (100 + q.2.2.2)) U
theorem qx_Kn.warm {G : qx_G} {s U : State} (hW : s.WarmedH U.vm) (h : qx_Kn G s) : qx_Kn G U :=
  ⟨va_K.moved hW.alike h.1, fun w hw => qx_nest (List.mem_filter.mp hw).2 hW (h.2.1 w hw), fun q hq => vk_R.warm hW (h.2.2 q hq)⟩
theorem qx_Kn.same {G : qx_G} {s U : State} (hv : s.vm = U.vm) (h : qx_Kn G s) : qx_Kn G U :=
  ⟨va_K.moved (by rw [hv]; exact Vm.Alike.refl _) h.1, fun w hw => va_Nw.same (by have := (List.mem_filter.mp hw).2; cases w <;> first | rfl | cases this) hv (h.2.1 w hw), fun q hq => vk_R.same hv.symm (h.2.2 q hq)⟩
/-- what no method writes: the static rows, the texts -/
def qx_most : List Int32 := [6, 999, 4095, 15, 99, 1, 1]
def qx_abv : List Int32 := [0, 0, 0, 2, 3, 0, 1]
def qx_Cn (G : qx_G) (X : Nat → Prop) (U : State) (H : Heap) : Prop :=
  va_Z "BustRest" "MOST" "[I" (.ref (qx_ad G 90)) X U H ∧ va_T .int (qx_ad G 90) 7 (fun j => .int (qx_most.getD j 0)) X U H ∧
  va_Z "BustRest" "KIND_ABOVE" "[I" (.ref (qx_ad G 91)) X U H ∧ va_T .int (qx_ad G 91) 7 (fun j => .int (qx_abv.getD j 0)) X U H ∧
  va_Z "java/lang/String" "COMPACT_STRINGS" "Z" (.int 1) X U H ∧ (∃ v : Value, v.category = 1 ∧ va_Z "jdk/internal/util/Preconditions" "SIOOBE_FORMATTER" "Ljava/util/function/BiFunction;" v X U H) ∧
  vk_S 12 qx_len qx_byt (fun i => qx_ad G (100 + i)) (fun i => qx_ad G (120 + i)) X U H
theorem qx_Cn.moved {G : qx_G} {X : Nat → Prop} {u U : State} {H : Heap} (hvm : u.vm.Alike U.vm) (h : qx_Cn G X u H) : qx_Cn G X U H := by
  obtain ⟨h1, h2, h3, h4, h5, ⟨v, h6, h7⟩, h8⟩ := h
  exact ⟨h1.moved hvm, h2.moved hvm, h3.moved hvm, h4.moved hvm, h5.moved hvm, ⟨v, h6, h7.moved hvm⟩, h8.moved hvm⟩
theorem qx_Cn.kept {G : qx_G} {X : Nat → Prop} {U : State} {H H1 : Heap} (h : qx_Cn G X U H) (hq : ∀ a : Nat, a < H.size → ¬ X a → H1[a]? = H[a]?) : qx_Cn G X U H1 := by
  obtain ⟨h1, h2, h3, h4, h5, ⟨v, h6, h7⟩, h8⟩ := h
  exact ⟨h1.kept hq, h2.kept hq, h3.kept hq, h4.kept hq, h5.kept hq, ⟨v, h6, h7.kept hq⟩, h8.kept hq⟩
theorem qx_Cn.narrow {G : qx_G} {X Y : Nat → Prop} {U : State} {H : Heap} (h : qx_Cn G X U H) (hXY : ∀ q, Y q → X q) : qx_Cn G Y U H := by
  obtain ⟨h1, h2, h3, h4, h5, ⟨v, h6, h7⟩, h8⟩ := h
  exact ⟨h1.narrow hXY, h2.narrow hXY, h3.narrow hXY, h4.narrow hXY, h5.narrow hXY, ⟨v, h6, h7.narrow hXY⟩, h8.narrow hXY⟩
def qx_A (G : qx_G) (sz : Nat) : Nat → Prop := fun q => (∃ k, k < 65 ∧ q = qx_ad G k) ∨ sz ≤ q
theorem qx_D {G : qx_G} {X : Nat → Prop} {σ : qx_Sg} (hi : qx_inj G) (hX : ∀ k, k < 65 → X (qx_ad G k)) : va_D X (qx_W G σ) := by
  have key : ∀ (k : Nat) (q : Nat × va_E), (qx_W G σ)[k]? = some q → k < 65 ∧ q.1 = qx_ad G k := by
    intro k q h
    by_cases hk : k < 65
    · rw [qx_W_get hk] at h
      cases h
      exact ⟨hk, rfl⟩
    · rw [qx_W_out hk] at h
      cases h
  refine ⟨fun i j p q h1 h2 e => ?_, fun k q h => ?_⟩
  · obtain ⟨a1, a2⟩ := key i p h1
    obtain ⟨b1, b2⟩ := key j q h2
    exact hi i j a1 b1 (by rw [← a2, ← b2]; exact e)
  · obtain ⟨a1, a2⟩ := key k q h
    rw [a2]
    exact hX k a1
/-! a contract: the whole world before, the whole world behind -/
def qx_Pc (G : qx_G) (av : List Value) (σ : qx_Sg) (sz : Nat) : Array Value → State → Prop :=
  va_Pc av (fun U => U.heap.size = sz ∧ va_P G.1 vwCl (qx_W G σ) U.heap ∧ qx_Kn G U ∧ qx_Cn G (qx_A G sz) U U.heap)
def qx_Qc (G : qx_G) (P : Option Value → qx_Sg → Prop) (sz : Nat) : Array Value → State → Outcome → State → Prop :=
  fun _ st oc t => (∃ (v : Option Value) (σ' : qx_Sg), oc = .returned v ∧ P v σ' ∧ va_P G.1 vwCl (qx_W G σ') t.heap) ∧ va_F (qx_A G sz) st t
def qx_rm (fr lc : Nat) : Room := { frames := fr, cells := 0, slots := 0, locals := lc }
def qx_ws (y : MethodName) (cc : ByteArray) (nL : Nat) (ret : Option FieldType) : List Cond := .code y cc nL ret :: qx_Wd
def qx_Ct (l : Launch) (G : qx_G) (y : MethodName) (cc : ByteArray) (nL : Nat) (ret : Option FieldType) (fr lc : Nat) (av : List Value) (σ : qx_Sg) (P : Option Value → qx_Sg → Prop) : Prop :=
  qx_inj G → ∀ sz : Nat, Met l y (qx_ws y cc nL ret) (qx_rm fr lc) (qx_Pc G av σ sz) (qx_Qc G P sz) 0 0 (qx_A G sz)
abbrev qx_T : Type := Program × Env × Room × State × MethodId × Array Value × List Frame × Method × Code × (Nat → Prop) × Nat × (State → Prop) × Nat × Nat
abbrev qx_p (Δ : qx_T) : Program := Δ.1
abbrev qx_e (Δ : qx_T) : Env := Δ.2.1
abbrev qx_R (Δ : qx_T) : Room := Δ.2.2.1
abbrev qx_s (Δ : qx_T) : State := Δ.2.2.2.1
abbrev qx_m (Δ : qx_T) : MethodId := Δ.2.2.2.2.1
abbrev qx_g (Δ : qx_T) : Array Value := Δ.2.2.2.2.2.1
abbrev qx_b (Δ : qx_T) : List Frame := Δ.2.2.2.2.2.2.1
abbrev qx_h (Δ : qx_T) : Method := Δ.2.2.2.2.2.2.2.1
abbrev qx_c (Δ : qx_T) : Code := Δ.2.2.2.2.2.2.2.2.1
abbrev qx_X (Δ : qx_T) : Nat → Prop := Δ.2.2.2.2.2.2.2.2.2.1
abbrev qx_n (Δ : qx_T) : Nat := Δ.2.2.2.2.2.2.2.2.2.2.1
abbrev qx_Q (Δ : qx_T) : State → Prop := Δ.2.2.2.2.2.2.2.2.2.2.2.1
abbrev qx_k (Δ : qx_T) : Nat := Δ.2.2.2.2.2.2.2.2.2.2.2.2.1
abbrev qx_l (Δ : qx_T) : Nat := Δ.2.2.2.2.2.2.2.2.2.2.2.2.2
/-- from every heap that holds the world σ, with the locals lo, the method comes from pc with the stack st to its end -/
def qx_K (l : Launch) (G : qx_G) (Δ : qx_T) (σ : qx_Sg) (pc : Nat) (lo : List (Nat × Value)) (st : List Value) : Prop :=
  ∀ (H : Heap) (locs : List Loc) (ls : Array Slot), va_P G.1 vwCl (qx_W G σ) H → va_S (qx_X Δ) (qx_s Δ).heap H locs → lv_has ls (qx_n Δ) lo →
    W (qx_p Δ) l (qx_e Δ) (qx_R Δ) (qx_s Δ) (qx_m Δ) (qx_g Δ) (qx_b Δ) (qx_h Δ) (qx_c Δ) H locs (qx_k Δ) (qx_l Δ) (qx_Q Δ) (F0 (qx_m Δ) pc ls st)
/-- what holds all along a method -/
def qx_C (G : qx_G) (Δ : qx_T) (cc : ByteArray) (own : String) (nL fr lc : Nat) : Prop :=
  ((qx_p Δ).tables.exec = Jvm.exec ∧ (qx_c Δ).code = cc ∧ (qx_c Δ).maxLocals = nL ∧ (qx_s Δ).vm.findClass own = some (qx_m Δ).cls ∧ ∀ w ∈ qx_Wd, w.before (qx_g Δ) (qx_s Δ) = true) ∧
  qx_n Δ = nL ∧ (fr ≤ (qx_R Δ).frames ∧ lc ≤ (qx_R Δ).locals ∧ qx_k Δ ≤ (qx_R Δ).cells ∧ qx_l Δ ≤ (qx_R Δ).slots) ∧ qx_Kn G (qx_s Δ) ∧ qx_Cn G (qx_X Δ) (qx_s Δ) (qx_s Δ).heap ∧ qx_inj G ∧ ∀ q, qx_A G (qx_s Δ).heap.size q → qx_X Δ q
section qx_entry
variable {l : Launch} {G : qx_G} {y : MethodName} {cc : ByteArray} {nL : Nat} {fr lc : Nat} {av : List Value} {σ : qx_Sg} {P : Option Value → qx_Sg → Prop} {lo : List (Nat × Value)}
theorem qx_ofW {ret : Option FieldType} (hy : plainName y.cls = true) (hav : (lg_sl av).length ≤ nL) (hlo : lv_args 0 av = lo)
    (body : ∀ (Δ : qx_T), qx_C G Δ cc y.cls nL fr lc → (qx_h Δ).sig.returnType = ret → (qx_h Δ).locks = false →
      (∀ (σ' : qx_Sg) (H : Heap) (locs : List Loc) (ls : Array Slot) (v : Option Value), P v σ' → va_P G.1 vwCl (qx_W G σ') H → va_S (qx_X Δ) (qx_s Δ).heap H locs → ∀ t : State, t.heap = H → qx_Qc G P (qx_s Δ).heap.size (qx_g Δ) (qx_s Δ) (.returned v) t) →
      (qx_Q Δ = MQ (qx_b Δ) (qx_Qc G P (qx_s Δ).heap.size) (qx_g Δ) (qx_s Δ) (qx_k Δ) (qx_l Δ) (qx_A G (qx_s Δ).heap.size) ∧ qx_X Δ = qx_A G (qx_s Δ).heap.size) →
      qx_K l G Δ σ 0 lo []) : qx_Ct l G y cc nL ret fr lc av σ P := by
  intro hinj sz
  refine Met.ofW (cc := cc) (maxL := nL) (ret := ret) hy rfl ?_
  intro p e s m args below meth c s₁ B hml hv
  obtain ⟨rfl, rfl, hP, hK, hC⟩ := hv
  have hts0 : ∀ w ∈ qx_ws y cc nL ret, w.before av.toArray s = true := atoms_spec (ws := qx_ws y cc nL ret) B.pre
  have hl := lv_entry av (n := nL) hav
  rw [hlo] at hl
  have hb := body (p, e, qx_rm fr lc, s, m, av.toArray, below, meth, c, qx_A G s.heap.size, nL, MQ below (qx_Qc G P s.heap.size) av.toArray s 0 0 (qx_A G s.heap.size), 0, 0)
    ⟨⟨B.exec, B.bytes, hml, findClass_of_methodNamed B.named, fun w hw => hts0 w (List.mem_cons_of_mem _ hw)⟩, rfl, ⟨Nat.le_refl _, Nat.le_refl _, Nat.le_refl _, Nat.le_refl _⟩, hK, hC, hinj, fun _ h => h⟩ B.returns B.notSynchronized
    (fun σ' H locs ls v hp h1 h2 t ht => ⟨⟨v, σ', rfl, hp, by rw [ht]; exact h1⟩, h2.F ht⟩) ⟨rfl, rfl⟩
  have h1 := hb s.heap [] _ hP va_S.rf hl
  rw [lg_entry_eq]
  exact h1
theorem qx_of (ty : FieldType) (hy : plainName y.cls = true) (hav : (lg_sl av).length ≤ nL) (hlo : lv_args 0 av = lo)
    (body : ∀ (Δ : qx_T), qx_C G Δ cc y.cls nL fr lc → (∀ (pc : Nat) (lo' : List (Nat × Value)) (σ' : qx_Sg) (v : Int32), decode cc pc = .ok (.ireturn, 1) → P (some (.int v)) σ' → narrow ty (.int v) = .int v → qx_K l G Δ σ' pc lo' [.int v]) → qx_K l G Δ σ 0 lo []) :
    qx_Ct l G y cc nL (some ty) fr lc av σ P := by
  refine qx_ofW hy hav hlo (fun Δ C hr hk hq hQ => body Δ C (fun pc lo' σ' v hd hp hn H locs ls hP hS hl => ?_))
  rw [hQ.1]
  exact W.zret C.1.1 C.1.2.1 hr hn (fun t ht hW => hq σ' H locs ls _ hp hP hS t ht) (by rw [← hQ.2]; exact hS.2.2) hd hk
theorem qx_ofV (hy : plainName y.cls = true) (hav : (lg_sl av).length ≤ nL) (hlo : lv_args 0 av = lo)
    (body : ∀ (Δ : qx_T), qx_C G Δ cc y.cls nL fr lc → (∀ (pc : Nat) (lo' : List (Nat × Value)) (σ' : qx_Sg), decode cc pc = .ok (.return_, 1) → P none σ' → qx_K l G Δ σ' pc lo' []) → qx_K l G Δ σ 0 lo []) :
    qx_Ct l G y cc nL none fr lc av σ P := by
  refine qx_ofW hy hav hlo (fun Δ C hr hk hq hQ => body Δ C (fun pc lo' σ' hd hp H locs ls hP hS hl => ?_))
  rw [hQ.1]
  exact W.vret C.1.1 C.1.2.1 hr (fun t ht hW => hq σ' H locs ls _ hp hP hS t ht) (by rw [← hQ.2]; exact hS.2.2) hd hk
theorem qx_ofL (hy : plainName y.cls = true) (hav : (lg_sl av).length ≤ nL) (hlo : lv_args 0 av = lo)
    (body : ∀ (Δ : qx_T), qx_C G Δ cc y.cls nL fr lc → (∀ (pc : Nat) (lo' : List (Nat × Value)) (σ' : qx_Sg) (v : Int64), decode cc pc = .ok (.lreturn, 1) → P (some (.long v)) σ' → qx_K l G Δ σ' pc lo' [.long v]) → qx_K l G Δ σ 0 lo []) :
    qx_Ct l G y cc nL (some .long) fr lc av σ P := by
  refine qx_ofW hy hav hlo (fun Δ C hr hk hq hQ => body Δ C (fun pc lo' σ' v hd hp H locs ls hP hS hl => ?_))
  rw [hQ.1]
  exact W.lret C.1.1 C.1.2.1 hr (fun t ht hW => hq σ' H locs ls _ hp hP hS t ht) (by rw [← hQ.2]; exact hS.2.2) hd hk
theorem qx_ofA (n : String) (hy : plainName y.cls = true) (hav : (lg_sl av).length ≤ nL) (hlo : lv_args 0 av = lo)
    (body : ∀ (Δ : qx_T), qx_C G Δ cc y.cls nL fr lc → (∀ (pc : Nat) (lo' : List (Nat × Value)) (σ' : qx_Sg) (v : Nat), decode cc pc = .ok (.areturn, 1) → P (some (.ref v)) σ' → qx_K l G Δ σ' pc lo' [.ref v]) → qx_K l G Δ σ 0 lo []) :
    qx_Ct l G y cc nL (some (.object n)) fr lc av σ P := by
  refine qx_ofW hy hav hlo (fun Δ C hr hk hq hQ => body Δ C (fun pc lo' σ' v hd hp H locs ls hP hS hl => ?_))
  rw [hQ.1]
  exact W.aret C.1.1 C.1.2.1 hr (Or.inl ⟨n, rfl⟩) (Or.inr ⟨v, rfl⟩) (fun t ht hW => hq σ' H locs ls _ hp hP hS t ht) (by rw [← hQ.2]; exact hS.2.2) hd hk
end qx_entry
theorem qx_zz : True := trivial
end
section
/-! the rows of qx_K: one an instruction -/
section qx_rows
variable {l : Launch} {G : qx_G} {Δ : qx_T} {cc : ByteArray} {own : String} {nL fr lc : Nat} {σ : qx_Sg} {pc : Nat} {lo : List (Nat × Value)} {st : List Value}
theorem qk_iconst (C : qx_C G Δ cc own nL fr lc) {n : Int} (v : Int32) (hd : decode cc pc = .ok (.iconst n, 1)) (pc' : Nat) (hp : pc + 1 = pc') (hv : Int32.ofInt n = v) (K : qx_K l G Δ σ pc' lo (.int v :: st)) : qx_K l G Δ σ pc lo st := by
  subst hp
  intro H locs ls hP hS h
  exact lv_iconst C.1.1 C.1.2.1 hd hv (K H locs ls hP hS h)
theorem qk_bipush (C : qx_C G Δ cc own nL fr lc) {n : Int} (v : Int32) (hd : decode cc pc = .ok (.bipush n, 2)) (pc' : Nat) (hp : pc + 2 = pc') (hv : (Int8.ofInt n).toInt32 = v) (K : qx_K l G Δ σ pc' lo (.int v :: st)) : qx_K l G Δ σ pc lo st := by
  subst hp
  intro H locs ls hP hS h
  exact lv_bipush C.1.1 C.1.2.1 hd hv (K H locs ls hP hS h)
theorem qk_sipush (C : qx_C G Δ cc own nL fr lc) {n : Int} (v : Int32) (hd : decode cc pc = .ok (.sipush n, 3)) (pc' : Nat) (hp : pc + 3 = pc') (hv : (Int16.ofInt n).toInt32 = v) (K : qx_K l G Δ σ pc' lo (.int v :: st)) : qx_K l G Δ σ pc lo st := by
  subst hp
  intro H locs ls hP hS h
  exact lv_sipush C.1.1 C.1.2.1 hd hv (K H locs ls hP hS h)
theorem qk_lconst (C : qx_C G Δ cc own nL fr lc) {n : Fin 2} (v : Int64) (hd : decode cc pc = .ok (.lconst n, 1)) (pc' : Nat) (hp : pc + 1 = pc') (hv : Int64.ofNat (n : Nat) = v) (K : qx_K l G Δ σ pc' lo (.long v :: st)) : qx_K l G Δ σ pc lo st := by
  subst hp
  intro H locs ls hP hS h
  exact lv_lconst C.1.1 C.1.2.1 hd hv (K H locs ls hP hS h)
theorem qk_ldc (C : qx_C G Δ cc own nL fr lc) {i : Nat} {v : Int32} (hd : decode cc pc = .ok (.ldc i, 2)) (pc' : Nat) (hp : pc + 2 = pc') (hw : Cond.constant own i v ∈ qx_Wd) (K : qx_K l G Δ σ pc' lo (.int v :: st)) : qx_K l G Δ σ pc lo st := by
  subst hp
  intro H locs ls hP hS h
  exact lv_ldc C.1.1 C.1.2.1 C.1.2.2.2.1 (C.1.2.2.2.2 _ hw) hd (K H locs ls hP hS h)
theorem qk_ldcw (C : qx_C G Δ cc own nL fr lc) {i : Nat} {v : Int32} (hd : decode cc pc = .ok (.ldc_w i, 3)) (pc' : Nat) (hp : pc + 3 = pc') (hw : Cond.constant own i v ∈ qx_Wd) (K : qx_K l G Δ σ pc' lo (.int v :: st)) : qx_K l G Δ σ pc lo st := by
  subst hp
  intro H locs ls hP hS h
  exact lv_ldcw C.1.1 C.1.2.1 C.1.2.2.2.1 (C.1.2.2.2.2 _ hw) hd (K H locs ls hP hS h)
theorem qk_ldcS (C : qx_C G Δ cc own nL fr lc) {i : Nat} (q : Nat) {tx : String} (hd : decode cc pc = .ok (.ldc i, 2)) (pc' : Nat) (hp : pc + 2 = pc') (hw : (own, i, tx, q) ∈ qx_str) (K : qx_K l G Δ σ pc' lo (.ref (qx_ad G (100 + q)) :: st)) : qx_K l G Δ σ pc lo st := by
  subst hp
  intro H locs ls hP hS h
  exact va_ldcS C.1.1 C.1.2.1 C.1.2.2.2.1 (C.2.2.2.1.2.2 _ hw) hd (K H locs ls hP hS h)
theorem qk_iloadn (C : qx_C G Δ cc own nL fr lc) {k : Fin 4} {i : Nat} {x : Int32} (hd : decode cc pc = .ok (.iload_n k, 1)) (pc' : Nat) (hp : pc + 1 = pc') (hi : (k : Nat) = i) (j : Nat) (hj : lo[j]? = some (i, .int x)) (K : qx_K l G Δ σ pc' lo (.int x :: st)) : qx_K l G Δ σ pc lo st := by
  subst hp
  intro H locs ls hP hS h
  exact lv_iload_n C.1.1 C.1.2.1 hd hi (lv_at h j hj) (K H locs ls hP hS h)
theorem qk_aloadn (C : qx_C G Δ cc own nL fr lc) {k : Fin 4} {i : Nat} {x : Nat} (hd : decode cc pc = .ok (.aload_n k, 1)) (pc' : Nat) (hp : pc + 1 = pc') (hi : (k : Nat) = i) (j : Nat) (hj : lo[j]? = some (i, .ref x)) (K : qx_K l G Δ σ pc' lo (.ref x :: st)) : qx_K l G Δ σ pc lo st := by
  subst hp
  intro H locs ls hP hS h
  exact lv_aload_n C.1.1 C.1.2.1 hd hi (lv_at h j hj) (K H locs ls hP hS h)
theorem qk_lloadn (C : qx_C G Δ cc own nL fr lc) {k : Fin 4} {i : Nat} {x : Int64} (hd : decode cc pc = .ok (.lload_n k, 1)) (pc' : Nat) (hp : pc + 1 = pc') (hi : (k : Nat) = i) (j : Nat) (hj : lo[j]? = some (i, .long x)) (K : qx_K l G Δ σ pc' lo (.long x :: st)) : qx_K l G Δ σ pc lo st := by
  subst hp
  intro H locs ls hP hS h
  exact lv_lload_n C.1.1 C.1.2.1 hd hi (lv_at h j hj) (K H locs ls hP hS h)
theorem qk_iload (C : qx_C G Δ cc own nL fr lc) {i : Nat} {x : Int32} (hd : decode cc pc = .ok (.iload i, 2)) (pc' : Nat) (hp : pc + 2 = pc') (j : Nat) (hj : lo[j]? = some (i, .int x)) (K : qx_K l G Δ σ pc' lo (.int x :: st)) : qx_K l G Δ σ pc lo st := by
  subst hp
  intro H locs ls hP hS h
  exact lv_iload C.1.1 C.1.2.1 hd (lv_at h j hj) (K H locs ls hP hS h)
theorem qk_aload (C : qx_C G Δ cc own nL fr lc) {i : Nat} {x : Nat} (hd : decode cc pc = .ok (.aload i, 2)) (pc' : Nat) (hp : pc + 2 = pc') (j : Nat) (hj : lo[j]? = some (i, .ref x)) (K : qx_K l G Δ σ pc' lo (.ref x :: st)) : qx_K l G Δ σ pc lo st := by
  subst hp
  intro H locs ls hP hS h
  exact lv_aload C.1.1 C.1.2.1 hd (lv_at h j hj) (K H locs ls hP hS h)
theorem qk_lload (C : qx_C G Δ cc own nL fr lc) {i : Nat} {x : Int64} (hd : decode cc pc = .ok (.lload i, 2)) (pc' : Nat) (hp : pc + 2 = pc') (j : Nat) (hj : lo[j]? = some (i, .long x)) (K : qx_K l G Δ σ pc' lo (.long x :: st)) : qx_K l G Δ σ pc lo st := by
  subst hp
  intro H locs ls hP hS h
  exact lv_lload C.1.1 C.1.2.1 hd (lv_at h j hj) (K H locs ls hP hS h)
theorem qk_istoren (C : qx_C G Δ cc own nL fr lc) {k : Fin 4} {i : Nat} {x : Int32} {lo' : List (Nat × Value)} (hd : decode cc pc = .ok (.istore_n k, 1)) (pc' : Nat) (hp : pc + 1 = pc') (hi : (k : Nat) = i) (hn : i < nL) (hl : (i, Value.int x) :: lo.filter (fun q => !(q.1 == i) && !(q.1 + 1 == i && q.2.category == 2)) = lo') (K : qx_K l G Δ σ pc' lo' st) : qx_K l G Δ σ pc lo (.int x :: st) := by
  subst hp
  intro H locs ls hP hS h
  exact lv_istore_n C.1.1 C.1.2.1 hd hi h (by rw [C.2.1]; exact hn) hl (fun ls' h' => K H locs ls' hP hS h')
theorem qk_istore (C : qx_C G Δ cc own nL fr lc) {i : Nat} {x : Int32} {lo' : List (Nat × Value)} (hd : decode cc pc = .ok (.istore i, 2)) (pc' : Nat) (hp : pc + 2 = pc') (hn : i < nL) (hl : (i, Value.int x) :: lo.filter (fun q => !(q.1 == i) && !(q.1 + 1 == i && q.2.category == 2)) = lo') (K : qx_K l G Δ σ pc' lo' st) : qx_K l G Δ σ pc lo (.int x :: st) := by
  subst hp
  intro H locs ls hP hS h
  exact lv_istore C.1.1 C.1.2.1 hd h (by rw [C.2.1]; exact hn) hl (fun ls' h' => K H locs ls' hP hS h')
theorem qk_astoren (C : qx_C G Δ cc own nL fr lc) {k : Fin 4} {i : Nat} {x : Nat} {lo' : List (Nat × Value)} (hd : decode cc pc = .ok (.astore_n k, 1)) (pc' : Nat) (hp : pc + 1 = pc') (hi : (k : Nat) = i) (hn : i < nL) (hl : (i, Value.ref x) :: lo.filter (fun q => !(q.1 == i) && !(q.1 + 1 == i && q.2.category == 2)) = lo') (K : qx_K l G Δ σ pc' lo' st) : qx_K l G Δ σ pc lo (.ref x :: st) := by
  subst hp
  intro H locs ls hP hS h
  exact lv_astore_n C.1.1 C.1.2.1 hd hi h (by rw [C.2.1]; exact hn) hl (fun ls' h' => K H locs ls' hP hS h')
theorem qk_astore (C : qx_C G Δ cc own nL fr lc) {i : Nat} {x : Nat} {lo' : List (Nat × Value)} (hd : decode cc pc = .ok (.astore i, 2)) (pc' : Nat) (hp : pc + 2 = pc') (hn : i < nL) (hl : (i, Value.ref x) :: lo.filter (fun q => !(q.1 == i) && !(q.1 + 1 == i && q.2.category == 2)) = lo') (K : qx_K l G Δ σ pc' lo' st) : qx_K l G Δ σ pc lo (.ref x :: st) := by
  subst hp
  intro H locs ls hP hS h
  exact lv_astore C.1.1 C.1.2.1 hd h (by rw [C.2.1]; exact hn) hl (fun ls' h' => K H locs ls' hP hS h')
theorem qk_lstoren (C : qx_C G Δ cc own nL fr lc) {k : Fin 4} {i : Nat} {x : Int64} {lo' : List (Nat × Value)} (hd : decode cc pc = .ok (.lstore_n k, 1)) (pc' : Nat) (hp : pc + 1 = pc') (hi : (k : Nat) = i) (hn : i + 1 < nL) (hl : (i, Value.long x) :: lo.filter (fun q => !(q.1 == i) && (!(q.1 == i + 1) && !(q.1 + 1 == i && q.2.category == 2))) = lo') (K : qx_K l G Δ σ pc' lo' st) : qx_K l G Δ σ pc lo (.long x :: st) := by
  subst hp
  intro H locs ls hP hS h
  exact lv_lstore_n C.1.1 C.1.2.1 hd hi h (by rw [C.2.1]; exact hn) hl (fun ls' h' => K H locs ls' hP hS h')
theorem qk_lstore (C : qx_C G Δ cc own nL fr lc) {i : Nat} {x : Int64} {lo' : List (Nat × Value)} (hd : decode cc pc = .ok (.lstore i, 2)) (pc' : Nat) (hp : pc + 2 = pc') (hn : i + 1 < nL) (hl : (i, Value.long x) :: lo.filter (fun q => !(q.1 == i) && (!(q.1 == i + 1) && !(q.1 + 1 == i && q.2.category == 2))) = lo') (K : qx_K l G Δ σ pc' lo' st) : qx_K l G Δ σ pc lo (.long x :: st) := by
  subst hp
  intro H locs ls hP hS h
  exact lv_lstore C.1.1 C.1.2.1 hd h (by rw [C.2.1]; exact hn) hl (fun ls' h' => K H locs ls' hP hS h')
theorem qk_iinc (C : qx_C G Δ cc own nL fr lc) {i : Nat} {n : Int} {x : Int32} (v : Int32) {lo' : List (Nat × Value)} (hd : decode cc pc = .ok (.iinc i n, 3)) (pc' : Nat) (hp : pc + 3 = pc') (j : Nat) (hj : lo[j]? = some (i, .int x)) (hv : x + Int32.ofInt n = v) (hn : i < nL) (hl : (i, Value.int v) :: lo.filter (fun q => !(q.1 == i) && !(q.1 + 1 == i && q.2.category == 2)) = lo') (K : qx_K l G Δ σ pc' lo' st) : qx_K l G Δ σ pc lo st := by
  subst hp
  intro H locs ls hP hS h
  exact lv_iinc C.1.1 C.1.2.1 hd h hj hv (by rw [C.2.1]; exact hn) hl (fun ls' h' => K H locs ls' hP hS h')
theorem qk_iadd (C : qx_C G Δ cc own nL fr lc) {x y : Int32} (hd : decode cc pc = .ok (.iadd, 1)) (pc' : Nat) (hp : pc + 1 = pc') (K : qx_K l G Δ σ pc' lo (.int (x + y) :: st)) : qx_K l G Δ σ pc lo (.int y :: .int x :: st) := by
  subst hp
  intro H locs ls hP hS h
  exact lv_iadd C.1.1 C.1.2.1 hd (K H locs ls hP hS h)
theorem qk_isub (C : qx_C G Δ cc own nL fr lc) {x y : Int32} (hd : decode cc pc = .ok (.isub, 1)) (pc' : Nat) (hp : pc + 1 = pc') (K : qx_K l G Δ σ pc' lo (.int (x - y) :: st)) : qx_K l G Δ σ pc lo (.int y :: .int x :: st) := by
  subst hp
  intro H locs ls hP hS h
  exact lv_isub C.1.1 C.1.2.1 hd (K H locs ls hP hS h)
theorem qk_imul (C : qx_C G Δ cc own nL fr lc) {x y : Int32} (hd : decode cc pc = .ok (.imul, 1)) (pc' : Nat) (hp : pc + 1 = pc') (K : qx_K l G Δ σ pc' lo (.int (x * y) :: st)) : qx_K l G Δ σ pc lo (.int y :: .int x :: st) := by
  subst hp
  intro H locs ls hP hS h
  exact lv_imul C.1.1 C.1.2.1 hd (K H locs ls hP hS h)
theorem qk_iand (C : qx_C G Δ cc own nL fr lc) {x y : Int32} (hd : decode cc pc = .ok (.iand, 1)) (pc' : Nat) (hp : pc + 1 = pc') (K : qx_K l G Δ σ pc' lo (.int (x &&& y) :: st)) : qx_K l G Δ σ pc lo (.int y :: .int x :: st) := by
  subst hp
  intro H locs ls hP hS h
  exact lv_iand C.1.1 C.1.2.1 hd (K H locs ls hP hS h)
theorem qk_ior (C : qx_C G Δ cc own nL fr lc) {x y : Int32} (hd : decode cc pc = .ok (.ior, 1)) (pc' : Nat) (hp : pc + 1 = pc') (K : qx_K l G Δ σ pc' lo (.int (x ||| y) :: st)) : qx_K l G Δ σ pc lo (.int y :: .int x :: st) := by
  subst hp
  intro H locs ls hP hS h
  exact lv_ior C.1.1 C.1.2.1 hd (K H locs ls hP hS h)
theorem qk_ishl (C : qx_C G Δ cc own nL fr lc) {x y : Int32} (hd : decode cc pc = .ok (.ishl, 1)) (pc' : Nat) (hp : pc + 1 = pc') (K : qx_K l G Δ σ pc' lo (.int (x <<< (y &&& 31)) :: st)) : qx_K l G Δ σ pc lo (.int y :: .int x :: st) := by
  subst hp
  intro H locs ls hP hS h
  exact lv_ishl C.1.1 C.1.2.1 hd (K H locs ls hP hS h)
theorem qk_ishr (C : qx_C G Δ cc own nL fr lc) {x y : Int32} (hd : decode cc pc = .ok (.ishr, 1)) (pc' : Nat) (hp : pc + 1 = pc') (K : qx_K l G Δ σ pc' lo (.int (x >>> (y &&& 31)) :: st)) : qx_K l G Δ σ pc lo (.int y :: .int x :: st) := by
  subst hp
  intro H locs ls hP hS h
  exact lv_ishr C.1.1 C.1.2.1 hd (K H locs ls hP hS h)
theorem qk_idiv (C : qx_C G Δ cc own nL fr lc) {x y : Int32} (hd : decode cc pc = .ok (.idiv, 1)) (pc' : Nat) (hp : pc + 1 = pc') (hne : ¬ y = 0) (K : qx_K l G Δ σ pc' lo (.int (x / y) :: st)) : qx_K l G Δ σ pc lo (.int y :: .int x :: st) := by
  subst hp
  intro H locs ls hP hS h
  exact lv_idiv C.1.1 C.1.2.1 hd hne (K H locs ls hP hS h)
theorem qk_irem (C : qx_C G Δ cc own nL fr lc) {x y : Int32} (hd : decode cc pc = .ok (.irem, 1)) (pc' : Nat) (hp : pc + 1 = pc') (hne : ¬ y = 0) (K : qx_K l G Δ σ pc' lo (.int (x - x / y * y) :: st)) : qx_K l G Δ σ pc lo (.int y :: .int x :: st) := by
  subst hp
  intro H locs ls hP hS h
  exact lv_irem C.1.1 C.1.2.1 hd hne (K H locs ls hP hS h)
theorem qk_ladd (C : qx_C G Δ cc own nL fr lc) {x y : Int64} (hd : decode cc pc = .ok (.ladd, 1)) (pc' : Nat) (hp : pc + 1 = pc') (K : qx_K l G Δ σ pc' lo (.long (x + y) :: st)) : qx_K l G Δ σ pc lo (.long y :: .long x :: st) := by
  subst hp
  intro H locs ls hP hS h
  exact lv_ladd C.1.1 C.1.2.1 hd (K H locs ls hP hS h)
theorem qk_lmul (C : qx_C G Δ cc own nL fr lc) {x y : Int64} (hd : decode cc pc = .ok (.lmul, 1)) (pc' : Nat) (hp : pc + 1 = pc') (K : qx_K l G Δ σ pc' lo (.long (x * y) :: st)) : qx_K l G Δ σ pc lo (.long y :: .long x :: st) := by
  subst hp
  intro H locs ls hP hS h
  exact lv_lmul C.1.1 C.1.2.1 hd (K H locs ls hP hS h)
theorem qk_lcmp (C : qx_C G Δ cc own nL fr lc) {x y : Int64} (hd : decode cc pc = .ok (.lcmp, 1)) (pc' : Nat) (hp : pc + 1 = pc') (K : qx_K l G Δ σ pc' lo (.int (lg_cmp x y) :: st)) : qx_K l G Δ σ pc lo (.long y :: .long x :: st) := by
  subst hp
  intro H locs ls hP hS h
  exact W.lcmp C.1.1 C.1.2.1 hd (K H locs ls hP hS h)
theorem qk_iushr (C : qx_C G Δ cc own nL fr lc) {x y : Int32} (hd : decode cc pc = .ok (.iushr, 1)) (pc' : Nat) (hp : pc + 1 = pc') (K : qx_K l G Δ σ pc' lo (.int ((x.toUInt32 >>> (y.toUInt32 &&& Int32.toUInt32 31)).toInt32) :: st)) : qx_K l G Δ σ pc lo (.int y :: .int x :: st) := by
  subst hp
  intro H locs ls hP hS h
  exact lv_iushr C.1.1 C.1.2.1 hd rfl (K H locs ls hP hS h)
theorem qk_i2l (C : qx_C G Δ cc own nL fr lc) {x : Int32} (hd : decode cc pc = .ok (.i2l, 1)) (pc' : Nat) (hp : pc + 1 = pc') (K : qx_K l G Δ σ pc' lo (.long x.toInt64 :: st)) : qx_K l G Δ σ pc lo (.int x :: st) := by
  subst hp
  intro H locs ls hP hS h
  exact lv_i2l C.1.1 C.1.2.1 hd rfl (K H locs ls hP hS h)
theorem qk_i2b (C : qx_C G Δ cc own nL fr lc) {x : Int32} (hd : decode cc pc = .ok (.i2b, 1)) (pc' : Nat) (hp : pc + 1 = pc') (K : qx_K l G Δ σ pc' lo (.int x.toInt8.toInt32 :: st)) : qx_K l G Δ σ pc lo (.int x :: st) := by
  subst hp
  intro H locs ls hP hS h
  exact lv_i2b C.1.1 C.1.2.1 hd rfl (K H locs ls hP hS h)
theorem qk_i2s (C : qx_C G Δ cc own nL fr lc) {x : Int32} (hd : decode cc pc = .ok (.i2s, 1)) (pc' : Nat) (hp : pc + 1 = pc') (K : qx_K l G Δ σ pc' lo (.int x.toInt16.toInt32 :: st)) : qx_K l G Δ σ pc lo (.int x :: st) := by
  subst hp
  intro H locs ls hP hS h
  exact lv_i2s C.1.1 C.1.2.1 hd rfl (K H locs ls hP hS h)
theorem qk_i2c (C : qx_C G Δ cc own nL fr lc) {x : Int32} (hd : decode cc pc = .ok (.i2c, 1)) (pc' : Nat) (hp : pc + 1 = pc') (K : qx_K l G Δ σ pc' lo (.int ((x.toUInt32 % 65536).toInt32) :: st)) : qx_K l G Δ σ pc lo (.int x :: st) := by
  subst hp
  intro H locs ls hP hS h
  exact lv_i2c C.1.1 C.1.2.1 hd rfl (K H locs ls hP hS h)
theorem qk_dup (C : qx_C G Δ cc own nL fr lc) {v : Value} (hd : decode cc pc = .ok (.dup, 1)) (pc' : Nat) (hp : pc + 1 = pc') (hc : v.category = 1) (K : qx_K l G Δ σ pc' lo (v :: v :: st)) : qx_K l G Δ σ pc lo (v :: st) := by
  subst hp
  intro H locs ls hP hS h
  exact lv_dup C.1.1 C.1.2.1 hd hc (K H locs ls hP hS h)
theorem qk_pop (C : qx_C G Δ cc own nL fr lc) {v : Value} (hd : decode cc pc = .ok (.pop, 1)) (pc' : Nat) (hp : pc + 1 = pc') (hc : v.category = 1) (K : qx_K l G Δ σ pc' lo st) : qx_K l G Δ σ pc lo (v :: st) := by
  subst hp
  intro H locs ls hP hS h
  exact lv_pop C.1.1 C.1.2.1 hd hc (K H locs ls hP hS h)
theorem qk_dup2 (C : qx_C G Δ cc own nL fr lc) {v w : Value} (hd : decode cc pc = .ok (.dup2, 1)) (pc' : Nat) (hp : pc + 1 = pc') (hc : v.category = 1) (hc2 : w.category = 1) (K : qx_K l G Δ σ pc' lo (v :: w :: v :: w :: st)) : qx_K l G Δ σ pc lo (v :: w :: st) := by
  subst hp
  intro H locs ls hP hS h
  exact lv_dup2_11 C.1.1 C.1.2.1 hd hc hc2 (K H locs ls hP hS h)
theorem qk_if_eq (C : qx_C G Δ cc own nL fr lc) {x : Int32} {off : Int} (hd : decode cc pc = .ok (.ifCond .eq off, 3)) (tgt : Nat) (ht : (pc : Int) + off = (tgt : Int)) (pc' : Nat) (hp : pc + 3 = pc') (kt : x = 0 → qx_K l G Δ σ tgt lo st) (kf : ¬ x = 0 → qx_K l G Δ σ pc' lo st) : qx_K l G Δ σ pc lo (.int x :: st) := by
  subst hp
  intro H locs ls hP hS h
  exact lv_if_eq C.1.1 C.1.2.1 hd ht (fun c => kt c H locs ls hP hS h) (fun c => kf c H locs ls hP hS h)
theorem qk_icmp_eq (C : qx_C G Δ cc own nL fr lc) {x y : Int32} {off : Int} (hd : decode cc pc = .ok (.if_icmp .eq off, 3)) (tgt : Nat) (ht : (pc : Int) + off = (tgt : Int)) (pc' : Nat) (hp : pc + 3 = pc') (kt : x = y → qx_K l G Δ σ tgt lo st) (kf : ¬ x = y → qx_K l G Δ σ pc' lo st) : qx_K l G Δ σ pc lo (.int y :: .int x :: st) := by
  subst hp
  intro H locs ls hP hS h
  exact lv_icmp_eq C.1.1 C.1.2.1 hd ht (fun c => kt c H locs ls hP hS h) (fun c => kf c H locs ls hP hS h)
theorem qk_if_ne (C : qx_C G Δ cc own nL fr lc) {x : Int32} {off : Int} (hd : decode cc pc = .ok (.ifCond .ne off, 3)) (tgt : Nat) (ht : (pc : Int) + off = (tgt : Int)) (pc' : Nat) (hp : pc + 3 = pc') (kt : ¬ x = 0 → qx_K l G Δ σ tgt lo st) (kf : x = 0 → qx_K l G Δ σ pc' lo st) : qx_K l G Δ σ pc lo (.int x :: st) := by
  subst hp
  intro H locs ls hP hS h
  exact lv_if_ne C.1.1 C.1.2.1 hd ht (fun c => kt c H locs ls hP hS h) (fun c => kf c H locs ls hP hS h)
theorem qk_icmp_ne (C : qx_C G Δ cc own nL fr lc) {x y : Int32} {off : Int} (hd : decode cc pc = .ok (.if_icmp .ne off, 3)) (tgt : Nat) (ht : (pc : Int) + off = (tgt : Int)) (pc' : Nat) (hp : pc + 3 = pc') (kt : ¬ x = y → qx_K l G Δ σ tgt lo st) (kf : x = y → qx_K l G Δ σ pc' lo st) : qx_K l G Δ σ pc lo (.int y :: .int x :: st) := by
  subst hp
  intro H locs ls hP hS h
  exact lv_icmp_ne C.1.1 C.1.2.1 hd ht (fun c => kt c H locs ls hP hS h) (fun c => kf c H locs ls hP hS h)
theorem qk_if_lt (C : qx_C G Δ cc own nL fr lc) {x : Int32} {off : Int} (hd : decode cc pc = .ok (.ifCond .lt off, 3)) (tgt : Nat) (ht : (pc : Int) + off = (tgt : Int)) (pc' : Nat) (hp : pc + 3 = pc') (kt : x < 0 → qx_K l G Δ σ tgt lo st) (kf : ¬ x < 0 → qx_K l G Δ σ pc' lo st) : qx_K l G Δ σ pc lo (.int x :: st) := by
  subst hp
  intro H locs ls hP hS h
  exact lv_if_lt C.1.1 C.1.2.1 hd ht (fun c => kt c H locs ls hP hS h) (fun c => kf c H locs ls hP hS h)
theorem qk_icmp_lt (C : qx_C G Δ cc own nL fr lc) {x y : Int32} {off : Int} (hd : decode cc pc = .ok (.if_icmp .lt off, 3)) (tgt : Nat) (ht : (pc : Int) + off = (tgt : Int)) (pc' : Nat) (hp : pc + 3 = pc') (kt : x < y → qx_K l G Δ σ tgt lo st) (kf : ¬ x < y → qx_K l G Δ σ pc' lo st) : qx_K l G Δ σ pc lo (.int y :: .int x :: st) := by
  subst hp
  intro H locs ls hP hS h
  exact lv_icmp_lt C.1.1 C.1.2.1 hd ht (fun c => kt c H locs ls hP hS h) (fun c => kf c H locs ls hP hS h)
theorem qk_if_ge (C : qx_C G Δ cc own nL fr lc) {x : Int32} {off : Int} (hd : decode cc pc = .ok (.ifCond .ge off, 3)) (tgt : Nat) (ht : (pc : Int) + off = (tgt : Int)) (pc' : Nat) (hp : pc + 3 = pc') (kt : 0 ≤ x → qx_K l G Δ σ tgt lo st) (kf : ¬ 0 ≤ x → qx_K l G Δ σ pc' lo st) : qx_K l G Δ σ pc lo (.int x :: st) := by
  subst hp
  intro H locs ls hP hS h
  exact lv_if_ge C.1.1 C.1.2.1 hd ht (fun c => kt c H locs ls hP hS h) (fun c => kf c H locs ls hP hS h)
theorem qk_icmp_ge (C : qx_C G Δ cc own nL fr lc) {x y : Int32} {off : Int} (hd : decode cc pc = .ok (.if_icmp .ge off, 3)) (tgt : Nat) (ht : (pc : Int) + off = (tgt : Int)) (pc' : Nat) (hp : pc + 3 = pc') (kt : y ≤ x → qx_K l G Δ σ tgt lo st) (kf : ¬ y ≤ x → qx_K l G Δ σ pc' lo st) : qx_K l G Δ σ pc lo (.int y :: .int x :: st) := by
  subst hp
  intro H locs ls hP hS h
  exact lv_icmp_ge C.1.1 C.1.2.1 hd ht (fun c => kt c H locs ls hP hS h) (fun c => kf c H locs ls hP hS h)
theorem qk_if_gt (C : qx_C G Δ cc own nL fr lc) {x : Int32} {off : Int} (hd : decode cc pc = .ok (.ifCond .gt off, 3)) (tgt : Nat) (ht : (pc : Int) + off = (tgt : Int)) (pc' : Nat) (hp : pc + 3 = pc') (kt : 0 < x → qx_K l G Δ σ tgt lo st) (kf : ¬ 0 < x → qx_K l G Δ σ pc' lo st) : qx_K l G Δ σ pc lo (.int x :: st) := by
  subst hp
  intro H locs ls hP hS h
  exact lv_if_gt C.1.1 C.1.2.1 hd ht (fun c => kt c H locs ls hP hS h) (fun c => kf c H locs ls hP hS h)
theorem qk_icmp_gt (C : qx_C G Δ cc own nL fr lc) {x y : Int32} {off : Int} (hd : decode cc pc = .ok (.if_icmp .gt off, 3)) (tgt : Nat) (ht : (pc : Int) + off = (tgt : Int)) (pc' : Nat) (hp : pc + 3 = pc') (kt : y < x → qx_K l G Δ σ tgt lo st) (kf : ¬ y < x → qx_K l G Δ σ pc' lo st) : qx_K l G Δ σ pc lo (.int y :: .int x :: st) := by
  subst hp
  intro H locs ls hP hS h
  exact lv_icmp_gt C.1.1 C.1.2.1 hd ht (fun c => kt c H locs ls hP hS h) (fun c => kf c H locs ls hP hS h)
theorem qk_if_le (C : qx_C G Δ cc own nL fr lc) {x : Int32} {off : Int} (hd : decode cc pc = .ok (.ifCond .le off, 3)) (tgt : Nat) (ht : (pc : Int) + off = (tgt : Int)) (pc' : Nat) (hp : pc + 3 = pc') (kt : x ≤ 0 → qx_K l G Δ σ tgt lo st) (kf : ¬ x ≤ 0 → qx_K l G Δ σ pc' lo st) : qx_K l G Δ σ pc lo (.int x :: st) := by
  subst hp
  intro H locs ls hP hS h
  exact lv_if_le C.1.1 C.1.2.1 hd ht (fun c => kt c H locs ls hP hS h) (fun c => kf c H locs ls hP hS h)
theorem qk_icmp_le (C : qx_C G Δ cc own nL fr lc) {x y : Int32} {off : Int} (hd : decode cc pc = .ok (.if_icmp .le off, 3)) (tgt : Nat) (ht : (pc : Int) + off = (tgt : Int)) (pc' : Nat) (hp : pc + 3 = pc') (kt : x ≤ y → qx_K l G Δ σ tgt lo st) (kf : ¬ x ≤ y → qx_K l G Δ σ pc' lo st) : qx_K l G Δ σ pc lo (.int y :: .int x :: st) := by
  subst hp
  intro H locs ls hP hS h
  exact lv_icmp_le C.1.1 C.1.2.1 hd ht (fun c => kt c H locs ls hP hS h) (fun c => kf c H locs ls hP hS h)
theorem qk_goto (C : qx_C G Δ cc own nL fr lc) {off : Int} (hd : decode cc pc = .ok (.goto off, 3)) (tgt : Nat) (ht : (pc : Int) + off = (tgt : Int)) (K : qx_K l G Δ σ tgt lo st) : qx_K l G Δ σ pc lo st := by
  intro H locs ls hP hS h
  exact lv_goto C.1.1 C.1.2.1 hd ht (K H locs ls hP hS h)
theorem qk_tableOut (C : qx_C G Δ cc own nL fr lc) {dflt lo1 hi1 : Int} {offs : Array Int} {len : Nat} {x : Int32} (hd : decode cc pc = .ok (.tableswitch dflt lo1 hi1 offs, len)) (hx : x.toInt < lo1 ∨ hi1 < x.toInt) (tgt : Nat) (ht : (pc : Int) + dflt = (tgt : Int)) (K : qx_K l G Δ σ tgt lo st) : qx_K l G Δ σ pc lo (.int x :: st) := by
  intro H locs ls hP hS h
  exact lv_tableOut C.1.1 C.1.2.1 hd hx ht (K H locs ls hP hS h)
theorem qk_tableIn (C : qx_C G Δ cc own nL fr lc) {dflt lo1 hi1 : Int} {offs : Array Int} {len : Nat} {x : Int32} {off : Int} (hd : decode cc pc = .ok (.tableswitch dflt lo1 hi1 offs, len)) (v : Int32) (hx : x = v) (h1 : ¬ v.toInt < lo1) (h2 : ¬ hi1 < v.toInt) (ho : offs[(v.toInt - lo1).toNat]? = some off) (tgt : Nat) (ht : (pc : Int) + off = (tgt : Int)) (K : qx_K l G Δ σ tgt lo st) : qx_K l G Δ σ pc lo (.int x :: st) := by
  subst hx
  intro H locs ls hP hS h
  exact lv_tableIn C.1.1 C.1.2.1 hd h1 h2 ho ht (K H locs ls hP hS h)
theorem qk_lookup (C : qx_C G Δ cc own nL fr lc) {dflt : Int} {ps : Array (Int × Int)} {len : Nat} {x : Int32} {off : Int} (hd : decode cc pc = .ok (.lookupswitch dflt ps, len)) (hp : (ps.toList.zip (ps.toList.drop 1)).all (fun (a, next) => a.1 < next.1) = true) (ho : Op.lookupswitch.offset ps.toList dflt x.toInt = off) (tgt : Nat) (ht : (pc : Int) + off = (tgt : Int)) (K : qx_K l G Δ σ tgt lo st) : qx_K l G Δ σ pc lo (.int x :: st) := by
  intro H locs ls hP hS h
  exact lv_lookup C.1.1 C.1.2.1 hd hp ho ht (K H locs ls hP hS h)
theorem qk_name {x : Int32} (k : ∀ y : Int32, y = x → qx_K l G Δ σ pc lo (.int y :: st)) : qx_K l G Δ σ pc lo (.int x :: st) := k x rfl
theorem qk_cast {x y : Int32} (e : x = y) (k : qx_K l G Δ σ pc lo (.int y :: st)) : qx_K l G Δ σ pc lo (.int x :: st) := e ▸ k
theorem qk_cg (σ' : qx_Sg) (h : ∀ k, k < 65 → qx_F G k (σ k) = qx_F G k (σ' k)) (K : qx_K l G Δ σ' pc lo st) : qx_K l G Δ σ pc lo st := fun H locs ls hP hS hl => K H locs ls (by rw [← qx_W_ext h]; exact hP) hS hl
theorem qk_sg (σ' : qx_Sg) (h : σ = σ') (K : qx_K l G Δ σ' pc lo st) : qx_K l G Δ σ pc lo st := h ▸ K
theorem qk_lo (ks : List Nat) {lo' : List (Nat × Value)} (h : lv_pick lo ks = lo') (K : qx_K l G Δ σ pc lo' st) : qx_K l G Δ σ pc lo st := fun H locs ls hP hS hl => K H locs ls hP hS (lv_sub hl ks h)
/-- a field that a method of class own may name: object kind ci, place j -/
def qx_Fd (own : String) (index ci j : Nat) (fin : Bool) : Prop := ∃ (CN : String) (T : u_T) (N : Nat), vwCl[ci]? = some (CN, T, N) ∧ (∀ w ∈ u_ws CN T N, w ∈ qx_Wd) ∧ j < N ∧ (∀ a, a < N → ∀ b, b < N → a ≠ b → (T a).2.1 ≠ (T b).2.1) ∧ (∃ ty0 : Nat → FieldType, ∀ k, k < N → parseFieldDescriptor (T k).2.2.1 = some (ty0 k)) ∧ (T j).2.2.2 = fin ∧
  (Cond.fieldLink own index (T j).1 (T j).2.1 (T j).2.2.1 ∈ qx_Wd ∨ ∃ host, Cond.fieldLinkNest own index (T j).1 (T j).2.1 (T j).2.2.1 host ∈ qx_Nd)
theorem qk_get (C : qx_C G Δ cc own nL fr lc) {index ci j : Nat} {fin : Bool} (hd : decode cc pc = .ok (.getfield index, 3)) (pc' : Nat) (hp : pc + 3 = pc') (F : qx_Fd own index ci j fin) (k : Nat) (hk : k < 65) {fs : List Value} (hF : qx_F G k (σ k) = .inr (ci, fs)) {v : Value} (hv : fs[j]? = some v) (K : qx_K l G Δ σ pc' lo (v :: st)) : qx_K l G Δ σ pc lo (.ref (qx_ad G k) :: st) := by
  subst hp
  intro H locs ls hP hS h
  obtain ⟨CN, T, N, hc, hin, hj, -, -, -, hw⟩ := F
  have he : (qx_W G σ)[k]? = some (qx_ad G k, .inr (ci, fs)) := by rw [qx_W_get hk, hF]
  rcases hw with hw | ⟨host, hw⟩
  · exact va_get C.1.1 C.1.2.1 C.1.2.2.2.2 hin C.1.2.2.2.1 C.2.2.2.1.1 hP k he hc j hj (C.1.2.2.2.2 _ hw) (fun _ h9 => h9) hv hd (K H locs ls hP hS h)
  · exact va_getN C.1.1 C.1.2.1 C.1.2.2.2.2 hin C.1.2.2.2.1 C.2.2.2.1.1 hP k he hc j hj (va_Nw.use rfl (C.2.2.2.1.2.1 _ hw)) (fun _ h9 => h9) hv hd (K H locs ls hP hS h)
theorem qk_put (C : qx_C G Δ cc own nL fr lc) {index ci j : Nat} (ty : FieldType) (hd : decode cc pc = .ok (.putfield index, 3)) (pc' : Nat) (hp : pc + 3 = pc') (F : qx_Fd own index ci j false) (k : Nat) (hk : k < 65) {fs : List Value} {x : Int32} (hF : qx_F G k (σ k) = .inr (ci, fs)) (hty : ∀ q, vwCl[ci]? = some q → parseFieldDescriptor (q.2.1 j).2.2.1 = some ty) (hn : narrow ty (.int x) = .int x) (hfit : fits ty (.int x) = true) (hl : j < fs.length) (hF2 : qx_F G k (upd (σ k) j x) = .inr (ci, fs.set j (.int x))) (K : qx_K l G Δ (va_up σ k (upd (σ k) j x)) pc' lo st) : qx_K l G Δ σ pc lo (.int x :: .ref (qx_ad G k) :: st) := by
  subst hp
  intro H locs ls hP hS h
  obtain ⟨CN, T, N, hc, hin, hj, hnm, ⟨ty0, hty0⟩, hf, hw⟩ := F
  have he : (qx_W G σ)[k]? = some (qx_ad G k, .inr (ci, fs)) := by rw [qx_W_get hk, hF]
  have hD : va_D (qx_X Δ) (qx_W G σ) := qx_D C.2.2.2.2.2.1 (fun k hk => C.2.2.2.2.2.2 _ (Or.inl ⟨k, hk, rfl⟩))
  have hS2 := qx_W_set (G := G) (σ := σ) hk (upd (σ k) j x)
  rw [hF2] at hS2
  rcases hw with hw | ⟨host, hw⟩
  · exact va_put C.1.1 C.1.2.1 C.1.2.2.2.2 hin ty0 hty0 hnm C.1.2.2.2.1 C.2.2.2.1.1 hP hD hS k he hc j hj (C.1.2.2.2.2 _ hw) (fun _ h9 => h9) hf (hty _ hc) hn hfit hl hd (fun H1 locs1 hP1 hD1 hS1 => K H1 locs1 ls (by rw [← hS2]; exact hP1) hS1 h)
  · exact va_putN C.1.1 C.1.2.1 C.1.2.2.2.2 hin ty0 hty0 hnm C.1.2.2.2.1 C.2.2.2.1.1 hP hD hS k he hc j hj (va_Nw.use rfl (C.2.2.2.1.2.1 _ hw)) (fun _ h9 => h9) hf (hty _ hc) hn hfit hl hd (fun H1 locs1 hP1 hD1 hS1 => K H1 locs1 ls (by rw [← hS2]; exact hP1) hS1 h)
theorem qk_iald (C : qx_C G Δ cc own nL fr lc) (hd : decode cc pc = .ok (.iaload, 1)) (pc' : Nat) (hp : pc + 1 = pc') (k : Nat) (hk : k < 65) {n : Nat} (hF : ∀ r, qx_F G k r = qx_ia G n r) {x : Int32} (i : Nat) (hx : x = nI i) (hi : i < n) (hn : n < 2 ^ 31) (K : qx_K l G Δ σ pc' lo (.int (σ k i) :: st)) : qx_K l G Δ σ pc lo (.int x :: .ref (qx_ad G k) :: st) := by
  subst hp; subst hx
  intro H locs ls hP hS h
  have he : (qx_W G σ)[k]? = some (qx_ad G k, .inl (G.2.1 0, n, .inl (qx_cut n (σ k)))) := by rw [qx_W_get hk, hF]; rfl
  refine va_iald C.1.1 C.1.2.1 C.2.2.2.1.1 hP k 0 he rfl (vp_in_nI hi hn) hd ?_
  rw [nI_clamp (by omega), qx_cut_at hi]
  exact K H locs ls hP hS h
theorem qk_iast (C : qx_C G Δ cc own nL fr lc) (hd : decode cc pc = .ok (.iastore, 1)) (pc' : Nat) (hp : pc + 1 = pc') (k : Nat) (hk : k < 65) {n : Nat} (hF : ∀ r, qx_F G k r = qx_ia G n r) {x v : Int32} (i : Nat) (hx : x = nI i) (hi : i < n) (hn : n < 2 ^ 31) (K : qx_K l G Δ (va_up σ k (upd (σ k) i v)) pc' lo st) : qx_K l G Δ σ pc lo (.int v :: .int x :: .ref (qx_ad G k) :: st) := by
  subst hp; subst hx
  intro H locs ls hP hS h
  have he : (qx_W G σ)[k]? = some (qx_ad G k, .inl (G.2.1 0, n, .inl (qx_cut n (σ k)))) := by rw [qx_W_get hk, hF]; rfl
  have hD : va_D (qx_X Δ) (qx_W G σ) := qx_D C.2.2.2.2.2.1 (fun k hk => C.2.2.2.2.2.2 _ (Or.inl ⟨k, hk, rfl⟩))
  have hS2 := qx_W_set (G := G) (σ := σ) hk (upd (σ k) i v)
  rw [hF] at hS2
  refine va_iast C.1.1 C.1.2.1 C.2.2.2.1.1 hP hD hS k 0 he rfl (vp_in_nI hi hn) hd (fun H1 locs1 hP1 hD1 hS1 => K H1 locs1 ls ?_ hS1 h)
  rw [nI_clamp (by omega), qx_cut_upd hi] at hP1
  rw [← hS2]
  exact hP1
theorem qk_aald (C : qx_C G Δ cc own nL fr lc) (hd : decode cc pc = .ok (.aaload, 1)) (pc' : Nat) (hp : pc + 1 = pc') (k : Nat) (hk : k < 65) {n : Nat} (t : Nat) {cA : ClassId} {CN : String} {f : Nat → Option Nat} (hF : qx_F G k (σ k) = .inl (cA, n, .inr (.inr (.inr (.inr f))))) (ht : (qx_tys G)[t]? = some (cA, .object CN)) {x : Int32} (i : Nat) (hx : x = nI i) (hi : i < n) (hn : n < 2 ^ 31) {a : Nat} (hf : f i = some a) (K : qx_K l G Δ σ pc' lo (.ref a :: st)) : qx_K l G Δ σ pc lo (.int x :: .ref (qx_ad G k) :: st) := by
  subst hp; subst hx
  intro H locs ls hP hS h
  have he : (qx_W G σ)[k]? = some (qx_ad G k, .inl (cA, n, .inr (.inr (.inr (.inr f))))) := by rw [qx_W_get hk, hF]
  refine va_aldq C.1.1 C.1.2.1 C.2.2.2.1.1 hP k t he ht (vp_in_nI hi hn) hd ?_
  rw [nI_clamp (by omega), hf]
  exact K H locs ls hP hS h
theorem qk_alen (C : qx_C G Δ cc own nL fr lc) (hd : decode cc pc = .ok (.arraylength, 1)) (pc' : Nat) (hp : pc + 1 = pc') (k : Nat) (hk : k < 65) (t : Nat) {cA : ClassId} {x : vp_A} {ty : FieldType} (hF : qx_F G k (σ k) = .inl (cA, x)) (ht : (qx_tys G)[t]? = some (cA, ty)) (v : Int32) (hv : Int32.ofNat x.1 = v) (K : qx_K l G Δ σ pc' lo (.int v :: st)) : qx_K l G Δ σ pc lo (.ref (qx_ad G k) :: st) := by
  subst hp
  intro H locs ls hP hS h
  have he : (qx_W G σ)[k]? = some (qx_ad G k, .inl (cA, x)) := by rw [qx_W_get hk, hF]
  exact va_alen C.1.1 C.1.2.1 C.2.2.2.1.1 hP k t he ht hv hd (K H locs ls hP hS h)
end qx_rows
end
section
/-! calls; statics; Math; arraycopy -/
/-- a method that a method of class own may call at a link -/
def qx_Cd (y : MethodName) (bytes : ByteArray) (maxL : Nat) (ret : Option FieldType) (n : Nat) : Prop :=
  Cond.initialized y.cls ∈ qx_Wd ∧ Cond.code y bytes maxL ret ∈ qx_Wd ∧ y.cls ≠ "java/lang/invoke/MethodHandle" ∧ y.cls ≠ "java/lang/invoke/VarHandle" ∧ (parseMethodDescriptor y.desc).map (fun d => d.parameters.length) = some n
def qx_LV (own : String) (index : Nat) (y : MethodName) : Prop :=
  Cond.instanceMethod y ∈ qx_Wd ∧ Cond.selects y.cls y y ∈ qx_Wd ∧ (Cond.methodLink own index y ∈ qx_Wd ∨ ∃ host, Cond.methodLinkNest own index y host ∈ qx_Nd)
def qx_LS (own : String) (index : Nat) (y : MethodName) : Prop := Cond.static y ∈ qx_Wd ∧ Cond.methodLink own index y ∈ qx_Wd
theorem qx_goodC {y : MethodName} {bytes : ByteArray} {maxL : Nat} {ret : Option FieldType} (h : Cond.code y bytes maxL ret ∈ qx_Wd) : GoodIn qx_Wd (qx_ws y bytes maxL ret) := by
  intro w hw
  rcases List.mem_cons.mp hw with rfl | hw
  · exact ⟨h, qx_goodW h⟩
  · exact ⟨hw, qx_goodW hw⟩
theorem qx_blind {G : qx_G} {av : List Value} {σ : qx_Sg} {sz : Nat} : FrameBlind (qx_Pc G av σ sz) := by
  intro a U g mk h
  obtain ⟨h0, h1, h2, h3, h4⟩ := h
  exact ⟨h0, h1, h2, qx_Kn.same (s := U) (U := U.calling g mk a) rfl h3, qx_Cn.moved (u := U) (U := U.calling g mk a) (Vm.Alike.refl U.vm) h4⟩
section qx_calls
variable {l : Launch} {G : qx_G} {Δ : qx_T} {cc : ByteArray} {own : String} {nL fr lc : Nat} {σ : qx_Sg} {pc : Nat} {lo : List (Nat × Value)} {st st0 : List Value}
theorem qx_pre (C : qx_C G Δ cc own nL fr lc) {av : List Value} {H : Heap} {locs : List Loc} (hP : va_P G.1 vwCl (qx_W G σ) H) (hS : va_S (qx_X Δ) (qx_s Δ).heap H locs) : ∀ U : State, U.heap = H → (qx_s Δ).WarmedH U.vm → qx_Pc G av σ H.size av.toArray U := by
  intro U hU hW
  refine ⟨rfl, by rw [hU], by rw [hU]; exact hP, C.2.2.2.1.warm hW, ?_⟩
  rw [hU]
  refine ((C.2.2.2.2.1.kept hS.2.1).moved hW.alike).narrow (fun q hq => C.2.2.2.2.2.2 q ?_)
  rcases hq with h | h
  · exact Or.inl h
  · exact Or.inr (Nat.le_trans hS.1 h)
theorem qx_after (C : qx_C G Δ cc own nL fr lc) {P : Option Value → qx_Sg → Prop} {a : Array Value} {H : Heap} {locs : List Loc} {ls : Array Slot}
    (hr : va_Run (qx_p Δ) l (qx_e Δ) (qx_R Δ) (qx_s Δ) (qx_m Δ) (qx_g Δ) (qx_b Δ) (qx_h Δ) (qx_c Δ) H locs (qx_k Δ) (qx_l Δ) 0 0 (F0 (qx_m Δ) pc ls st0) st (qx_Qc G P H.size a) (qx_A G H.size))
    (hS : va_S (qx_X Δ) (qx_s Δ).heap H locs) (h : lv_has ls (qx_n Δ) lo) (K : ∀ v σ', P v σ' → qx_K l G Δ σ' (pc + 3) lo (v.toList ++ st)) :
    W (qx_p Δ) l (qx_e Δ) (qx_R Δ) (qx_s Δ) (qx_m Δ) (qx_g Δ) (qx_b Δ) (qx_h Δ) (qx_c Δ) H locs (qx_k Δ) (qx_l Δ) (qx_Q Δ) (F0 (qx_m Δ) pc ls st0) := by
  have hX : ∀ q, qx_A G H.size q → qx_X Δ q := by
    intro q hq
    refine C.2.2.2.2.2.2 q ?_
    rcases hq with h | h
    · exact Or.inl h
    · exact Or.inr (Nat.le_trans hS.1 h)
  intro T hT X
  obtain ⟨v, st₀, t, T', L, h0, X', hL, e1, e2, hq, hgo⟩ := hr T hT X
  obtain ⟨⟨v', σ', hv, hp, hh⟩, hz, hk⟩ := hq
  cases hv
  rw [h0] at hz hk
  obtain ⟨t2, a1, b1⟩ := K v σ' hp T'.heap (locs ++ L) ls (by rw [e1]; exact hh)
    ⟨Nat.le_trans hS.1 (by rw [e1]; exact hz), fun q h1 h2 => by rw [e1, hk q (Nat.lt_of_lt_of_le h1 hS.1) (fun z => h2 (hX q z))]; exact hS.2.1 q h1 h2, fun q hq => by
      rcases List.mem_append.mp hq with h | h
      · exact hS.2.2 q h
      · exact hX _ (hL q h)⟩ h T' rfl X'
  exact ⟨t2, hgo t2 a1, b1⟩
theorem qk_callR (C : qx_C G Δ cc own nL fr lc) {index n : Nat} {y : MethodName} {bytes : ByteArray} {maxL fr' lc' : Nat} {ret : Option FieldType} {b : Nat} {As : List Value} {P : Option Value → qx_Sg → Prop}
    (hrecv : ∀ (H : Heap) (locs : List Loc), va_P G.1 vwCl (qx_W G σ) H → va_S (qx_X Δ) (qx_s Δ).heap H locs → ∃ cell : Cell, H[b]? = some cell ∧ cell.vm.isStatics = false ∧ (qx_s Δ).vm.findClass y.cls = some cell.cls)
    (hd : decode cc pc = .ok (.invokevirtual index, 3)) (pc' : Nat) (hp : pc + 3 = pc') (Ln : qx_LV own index y) (Cd : qx_Cd y bytes maxL ret n) (Ct : qx_Ct l G y bytes maxL ret fr' lc' (.ref b :: As) σ P) (hn : As.length = n) (hst : st0 = As.reverse ++ .ref b :: st) (hcat : (st.map fun v => v.category).sum ≤ 8) (hR : fr' + 1 ≤ fr ∧ 8 + (maxL + 11) + lc' ≤ lc)
    (K : ∀ v σ', P v σ' → qx_K l G Δ σ' pc' lo (v.toList ++ st)) : qx_K l G Δ σ pc lo st0 := by
  subst hp; subst hst
  intro H locs ls hP hS h
  have hR2 : (qx_rm fr' lc').frames + 1 ≤ (qx_R Δ).frames ∧ 8 + (maxL + 11) + (qx_rm fr' lc').locals ≤ (qx_R Δ).locals := ⟨Nat.le_trans hR.1 C.2.2.1.1, Nat.le_trans hR.2 C.2.2.1.2.1⟩
  have hsz : (F0 (qx_m Δ) pc ls (As.reverse ++ .ref b :: st)).locals.size = nL := by rw [← C.2.1]; exact h.1
  have hroom : qx_k Δ + 0 ≤ (qx_R Δ).cells ∧ qx_l Δ + 0 ≤ (qx_R Δ).slots := ⟨C.2.2.1.2.2.1, C.2.2.1.2.2.2⟩
  have hG := qx_goodC Cd.2.1
  have hpre : PreV (qx_s Δ) H y.cls b (qx_Pc G (.ref b :: As) σ H.size) As := ⟨qx_blind, hrecv H locs hP hS, fun U hU hW => qx_pre C hP hS U hU hW⟩
  rcases Ln.2.2 with hw | ⟨host, hw⟩
  · have cw : CallW (qx_R Δ) (qx_s Δ) (qx_g Δ) own y.cls index y bytes maxL ret (qx_ws y bytes maxL ret) (qx_rm fr' lc') 0 0 n := by
      refine cwV (Ts := qx_Wd) n C.1.2.2.2.2 (fun w hw' => ?_) rfl rfl rfl ⟨rfl, Cd.2.2⟩ hR2
      rcases List.mem_append.mp hw' with h1 | h1
      · rcases List.mem_cons.mp h1 with rfl | h1
        · exact ⟨hw, qx_goodW hw⟩
        · rcases List.mem_cons.mp h1 with rfl | h1
          · exact ⟨Ln.1, qx_goodW Ln.1⟩
          · rcases List.mem_cons.mp h1 with rfl | h1
            · exact ⟨Ln.2.1, qx_goodW Ln.2.1⟩
            · rcases List.mem_cons.mp h1 with rfl | h1
              · exact ⟨Cd.1, qx_goodW Cd.1⟩
              · cases h1
      · exact hG w h1
    exact qx_after C (va_runV C.1 (Ct C.2.2.2.2.2.1 H.size) cw hpre rfl hn hsz rfl (lv_room hcat) hd hroom) hS h K
  · have cw : va_CN (qx_R Δ) (qx_s Δ) (qx_g Δ) own index y host bytes maxL ret (qx_ws y bytes maxL ret) (qx_rm fr' lc') 0 0 n :=
      va_cnB (Ts := qx_Wd) n C.1.2.2.2.2 hG rfl rfl rfl (C.2.2.2.1.2.1 _ hw) (C.1.2.2.2.2 _ Cd.1) Cd.2.2 hR2
    exact qx_after C (va_runVN C.1 (Ct C.2.2.2.2.2.1 H.size) ⟨cw, C.1.2.2.2.2 _ Ln.1, C.1.2.2.2.2 _ Ln.2.1⟩ hpre rfl hn hsz rfl (lv_room hcat) hd hroom) hS h K
theorem qx_recv (C : qx_C G Δ cc own nL fr lc) {k ci N : Nat} {CN : String} {T : u_T} {fs : List Value} (hk : k < 65) (hF : qx_F G k (σ k) = .inr (ci, fs)) (hc : vwCl[ci]? = some (CN, T, N)) (H : Heap) (hP : va_P G.1 vwCl (qx_W G σ) H) : ∃ cell : Cell, H[qx_ad G k]? = some cell ∧ cell.vm.isStatics = false ∧ (qx_s Δ).vm.findClass CN = some cell.cls :=
  va_recv C.2.2.2.1.1 hP hc (show (qx_W G σ)[k]? = some (qx_ad G k, .inr (ci, fs)) by rw [qx_W_get hk, hF])
theorem qk_callV (C : qx_C G Δ cc own nL fr lc) {index n : Nat} {y : MethodName} {bytes : ByteArray} {maxL fr' lc' : Nat} {ret : Option FieldType} {As : List Value} {P : Option Value → qx_Sg → Prop}
    (hd : decode cc pc = .ok (.invokevirtual index, 3)) (pc' : Nat) (hp : pc + 3 = pc') (Ln : qx_LV own index y) (Cd : qx_Cd y bytes maxL ret n) (k : Nat) (hk : k < 65) {ci N : Nat} {T : u_T} {fs : List Value} (hF : qx_F G k (σ k) = .inr (ci, fs)) (hc : vwCl[ci]? = some (y.cls, T, N)) (Ct : qx_Ct l G y bytes maxL ret fr' lc' (.ref (qx_ad G k) :: As) σ P) (hn : As.length = n) (hst : st0 = As.reverse ++ .ref (qx_ad G k) :: st) (hcat : (st.map fun v => v.category).sum ≤ 8) (hR : fr' + 1 ≤ fr ∧ 8 + (maxL + 11) + lc' ≤ lc)
    (K : ∀ v σ', P v σ' → qx_K l G Δ σ' pc' lo (v.toList ++ st)) : qx_K l G Δ σ pc lo st0 :=
  qk_callR C (fun H locs hP hS => qx_recv C hk hF hc H hP) hd pc' hp Ln Cd Ct hn hst hcat hR K
theorem qk_callS (C : qx_C G Δ cc own nL fr lc) {index n : Nat} {y : MethodName} {bytes : ByteArray} {maxL fr' lc' : Nat} {ret : Option FieldType} {As : List Value} {P : Option Value → qx_Sg → Prop}
    (hd : decode cc pc = .ok (.invokestatic index, 3)) (pc' : Nat) (hp : pc + 3 = pc') (Ln : qx_LS own index y) (Cd : qx_Cd y bytes maxL ret n) (Ct : qx_Ct l G y bytes maxL ret fr' lc' As σ P) (hn : As.length = n) (hst : st0 = As.reverse ++ st) (hcat : (st.map fun v => v.category).sum ≤ 8) (hR : fr' + 1 ≤ fr ∧ 8 + (maxL + 11) + lc' ≤ lc)
    (K : ∀ v σ', P v σ' → qx_K l G Δ σ' pc' lo (v.toList ++ st)) : qx_K l G Δ σ pc lo st0 := by
  subst hp; subst hst
  intro H locs ls hP hS h
  have hR2 : (qx_rm fr' lc').frames + 1 ≤ (qx_R Δ).frames ∧ 8 + (maxL + 11) + (qx_rm fr' lc').locals ≤ (qx_R Δ).locals := ⟨Nat.le_trans hR.1 C.2.2.1.1, Nat.le_trans hR.2 C.2.2.1.2.1⟩
  have hsz : (F0 (qx_m Δ) pc ls (As.reverse ++ st)).locals.size = nL := by rw [← C.2.1]; exact h.1
  have hroom : qx_k Δ + 0 ≤ (qx_R Δ).cells ∧ qx_l Δ + 0 ≤ (qx_R Δ).slots := ⟨C.2.2.1.2.2.1, C.2.2.1.2.2.2⟩
  have hG := qx_goodC Cd.2.1
  have cw : CallB (qx_R Δ) (qx_s Δ) (qx_g Δ) own index y bytes maxL ret (qx_ws y bytes maxL ret) (qx_rm fr' lc') 0 0 n ∧ (Cond.static y).before (qx_g Δ) (qx_s Δ) = true := by
    refine va_cwS (Ts := qx_Wd) n C.1.2.2.2.2 (fun w hw' => ?_) rfl rfl rfl Cd.2.2 hR2
    rcases List.mem_append.mp hw' with h1 | h1
    · rcases List.mem_cons.mp h1 with rfl | h1
      · exact ⟨Ln.2, qx_goodW Ln.2⟩
      · rcases List.mem_cons.mp h1 with rfl | h1
        · exact ⟨Ln.1, qx_goodW Ln.1⟩
        · rcases List.mem_cons.mp h1 with rfl | h1
          · exact ⟨Cd.1, qx_goodW Cd.1⟩
          · cases h1
    · exact hG w h1
  exact qx_after C (va_runS C.1 (Ct C.2.2.2.2.2.1 H.size) cw ⟨qx_blind, fun U hU hW => qx_pre C hP hS U hU hW⟩ rfl hn hsz rfl (lv_room hcat) hd hroom) hS h K
/-- answers that are known: an int, nothing, a long, a text; and the world behind -/
def qx_pi (r : Int32) (σ' : qx_Sg) : Option Value → qx_Sg → Prop := fun v σ => v = some (.int r) ∧ σ = σ'
def qx_pv (σ' : qx_Sg) : Option Value → qx_Sg → Prop := fun v σ => v = none ∧ σ = σ'
def qx_pl (r : Int64) (σ' : qx_Sg) : Option Value → qx_Sg → Prop := fun v σ => v = some (.long r) ∧ σ = σ'
def qx_pr (r : Nat) (σ' : qx_Sg) : Option Value → qx_Sg → Prop := fun v σ => v = some (.ref r) ∧ σ = σ'
theorem qx_Ki {pc' : Nat} {r : Int32} {σ1 : qx_Sg} (K : qx_K l G Δ σ1 pc' lo (.int r :: st)) : ∀ v σ', qx_pi r σ1 v σ' → qx_K l G Δ σ' pc' lo (v.toList ++ st) := by
  rintro v σ' ⟨rfl, rfl⟩; exact K
theorem qx_Kv {pc' : Nat} {σ1 : qx_Sg} (K : qx_K l G Δ σ1 pc' lo st) : ∀ v σ', qx_pv σ1 v σ' → qx_K l G Δ σ' pc' lo (v.toList ++ st) := by
  rintro v σ' ⟨rfl, rfl⟩; exact K
theorem qx_Kl {pc' : Nat} {r : Int64} {σ1 : qx_Sg} (K : qx_K l G Δ σ1 pc' lo (.long r :: st)) : ∀ v σ', qx_pl r σ1 v σ' → qx_K l G Δ σ' pc' lo (v.toList ++ st) := by
  rintro v σ' ⟨rfl, rfl⟩; exact K
theorem qx_Kr {pc' : Nat} {r : Nat} {σ1 : qx_Sg} (K : qx_K l G Δ σ1 pc' lo (.ref r :: st)) : ∀ v σ', qx_pr r σ1 v σ' → qx_K l G Δ σ' pc' lo (v.toList ++ st) := by
  rintro v σ' ⟨rfl, rfl⟩; exact K
/-- Math -/
def qx_mx (x y : Int32) : Int32 := if x < y then y else x
def qx_mn (x y : Int32) : Int32 := if y < x then y else x
def qx_LM (own : String) (index : Nat) (y : MethodName) (bytes : ByteArray) : Prop := Cond.methodLink own index y ∈ qx_Wd ∧ Cond.static y ∈ qx_Wd ∧ Cond.initialized "java/lang/Math" ∈ qx_Wd ∧ Cond.code y bytes 2 (some .int) ∈ qx_Wd
theorem qk_max (C : qx_C G Δ cc own nL fr lc) {index : Nat} {x y : Int32} (hd : decode cc pc = .ok (.invokestatic index, 3)) (pc' : Nat) (hp : pc + 3 = pc') (Ln : qx_LM own index Lib.Math.max.name Lib.Math.max.code) (hR : 1 ≤ fr ∧ (st.map fun v => v.category).sum + 13 ≤ lc) (K : qx_K l G Δ σ pc' lo (.int (qx_mx x y) :: st)) : qx_K l G Δ σ pc lo (.int y :: .int x :: st) := by
  subst hp
  intro H locs ls hP hS h
  exact va_mmax C.1.1 C.1.2.1 (by rw [C.1.2.2.1, ← C.2.1]; exact h.1.symm) C.1.2.2.2.1 (C.1.2.2.2.2 _ Ln.1) (C.1.2.2.2.2 _ Ln.2.1) (C.1.2.2.2.2 _ Ln.2.2.1) (C.1.2.2.2.2 _ Ln.2.2.2) (Nat.le_trans hR.1 C.2.2.1.1) (Nat.le_trans hR.2 C.2.2.1.2.1) C.2.2.1.2.2.1 C.2.2.1.2.2.2 hd (K H locs ls hP hS h)
theorem qk_min (C : qx_C G Δ cc own nL fr lc) {index : Nat} {x y : Int32} (hd : decode cc pc = .ok (.invokestatic index, 3)) (pc' : Nat) (hp : pc + 3 = pc') (Ln : qx_LM own index Lib.Math.min.name Lib.Math.min.code) (hR : 1 ≤ fr ∧ (st.map fun v => v.category).sum + 13 ≤ lc) (K : qx_K l G Δ σ pc' lo (.int (qx_mn x y) :: st)) : qx_K l G Δ σ pc lo (.int y :: .int x :: st) := by
  subst hp
  intro H locs ls hP hS h
  exact va_mmin C.1.1 C.1.2.1 (by rw [C.1.2.2.1, ← C.2.1]; exact h.1.symm) C.1.2.2.2.1 (C.1.2.2.2.2 _ Ln.1) (C.1.2.2.2.2 _ Ln.2.1) (C.1.2.2.2.2 _ Ln.2.2.1) (C.1.2.2.2.2 _ Ln.2.2.2) (Nat.le_trans hR.1 C.2.2.1.1) (Nat.le_trans hR.2 C.2.2.1.2.1) C.2.2.1.2.2.1 C.2.2.1.2.2.2 hd (K H locs ls hP hS h)
/-- System.arraycopy between int rows of the world -/
def qx_LA (own : String) (index : Nat) : Prop := Cond.methodLink own index arraycopyName ∈ qx_Wd ∧ Cond.native arraycopyName ∈ qx_Wd ∧ Cond.static arraycopyName ∈ qx_Wd ∧ Cond.initialized "java/lang/System" ∈ qx_Wd
theorem qx_cut_cpy {f g : Nat → Int32} {sp dp n n0 n1 : Nat} (h4 : sp + n ≤ n0) (h5 : dp + n ≤ n1) : va_cpy (qx_cut n0 f) (qx_cut n1 g) sp dp n = qx_cut n1 (va_cpy f g sp dp n) := by
  funext j
  by_cases h : dp ≤ j ∧ j < dp + n
  · simp only [va_cpy, qx_cut, if_pos h]
    rw [if_pos (by omega), if_pos (by omega)]
  · simp only [va_cpy, qx_cut, if_neg h]
theorem qk_acopy (C : qx_C G Δ cc own nL fr lc) {index : Nat} (hd : decode cc pc = .ok (.invokestatic index, 3)) (pc' : Nat) (hp : pc + 3 = pc') (Ln : qx_LA own index) (k0 k1 : Nat) (hk0 : k0 < 65) (hk1 : k1 < 65) {n0 n1 : Nat} (hF0 : ∀ r, qx_F G k0 r = qx_ia G n0 r) (hF1 : ∀ r, qx_F G k1 r = qx_ia G n1 r) {x y z : Int32} (sp dp n : Nat) (hx : x = nI sp) (hy : y = nI dp) (hz : z = nI n) (h4 : sp + n ≤ n0) (h5 : dp + n ≤ n1) (hn0 : n0 < 2 ^ 31) (hn1 : n1 < 2 ^ 31)
    (hR : 1 ≤ fr ∧ (st.map fun v => v.category).sum + (nativeFrameWords "java/lang/System" "arraycopy" 5 + 11) ≤ lc) (K : qx_K l G Δ (va_up σ k1 (va_cpy (σ k0) (σ k1) sp dp n)) pc' lo st) : qx_K l G Δ σ pc lo (.int z :: .int y :: .ref (qx_ad G k1) :: .int x :: .ref (qx_ad G k0) :: st) := by
  subst hp; subst hx; subst hy; subst hz
  intro H locs ls hP hS h
  have he0 : (qx_W G σ)[k0]? = some (qx_ad G k0, .inl (G.2.1 0, n0, .inl (qx_cut n0 (σ k0)))) := by rw [qx_W_get hk0, hF0]; rfl
  have he1 : (qx_W G σ)[k1]? = some (qx_ad G k1, .inl (G.2.1 0, n1, .inl (qx_cut n1 (σ k1)))) := by rw [qx_W_get hk1, hF1]; rfl
  have hD : va_D (qx_X Δ) (qx_W G σ) := qx_D C.2.2.2.2.2.1 (fun k hk => C.2.2.2.2.2.2 _ (Or.inl ⟨k, hk, rfl⟩))
  have hS2 := qx_W_set (G := G) (σ := σ) hk1 (va_cpy (σ k0) (σ k1) sp dp n)
  rw [hF1] at hS2
  have c1 : (nI sp).toNatClampNeg = sp := nI_clamp (by omega)
  have c2 : (nI dp).toNatClampNeg = dp := nI_clamp (by omega)
  have c3 : (nI n).toNatClampNeg = n := nI_clamp (by omega)
  refine va_copyi C.1.1 C.1.2.1 (by rw [C.1.2.2.1, ← C.2.1]; exact h.1.symm) C.1.2.2.2.1 (C.1.2.2.2.2 _ Ln.1) (C.1.2.2.2.2 _ Ln.2.1) (C.1.2.2.2.2 _ Ln.2.2.1) (C.1.2.2.2.2 _ Ln.2.2.2) C.2.2.2.1.1 hP hD hS k0 k1 0 0 he0 he1 rfl rfl rfl (nI_pos (by omega)) (nI_pos (by omega)) (nI_pos (by omega)) (by rw [c1, c3]; exact h4) (by rw [c2, c3]; exact h5) (fun _ _ => rfl) (Nat.le_trans hR.1 C.2.2.1.1) (Nat.le_trans hR.2 C.2.2.1.2.1) hd (fun H1 locs1 hP1 hD1 hS1 => K H1 locs1 ls ?_ hS1 h)
  rw [c1, c2, c3, qx_cut_cpy h4 h5] at hP1
  rw [← hS2]
  exact hP1
/-- statics -/
theorem qk_gMost (C : qx_C G Δ cc own nL fr lc) {index : Nat} (hd : decode cc pc = .ok (.getstatic index, 3)) (pc' : Nat) (hp : pc + 3 = pc') (hw : Cond.fieldLink own index "BustRest" "MOST" "[I" ∈ qx_Wd ∨ ∃ host, Cond.fieldLinkNest own index "BustRest" "MOST" "[I" host ∈ qx_Nd) (K : qx_K l G Δ σ pc' lo (.ref (qx_ad G 90) :: st)) : qx_K l G Δ σ pc lo st := by
  subst hp
  intro H locs ls hP hS h
  rcases hw with hw | ⟨host, hw⟩
  · exact va_gets C.1.1 C.1.2.1 C.2.2.2.2.1.1 hS C.1.2.2.2.1 (C.1.2.2.2.2 _ hw) (fun _ h9 => h9) hd (K H locs ls hP hS h)
  · exact va_getsN C.1.1 C.1.2.1 C.2.2.2.2.1.1 hS C.1.2.2.2.1 (va_Nw.use rfl (C.2.2.2.1.2.1 _ hw)) (fun _ h9 => h9) hd (K H locs ls hP hS h)
theorem qk_gAbv (C : qx_C G Δ cc own nL fr lc) {index : Nat} (hd : decode cc pc = .ok (.getstatic index, 3)) (pc' : Nat) (hp : pc + 3 = pc') (hw : Cond.fieldLink own index "BustRest" "KIND_ABOVE" "[I" ∈ qx_Wd ∨ ∃ host, Cond.fieldLinkNest own index "BustRest" "KIND_ABOVE" "[I" host ∈ qx_Nd) (K : qx_K l G Δ σ pc' lo (.ref (qx_ad G 91) :: st)) : qx_K l G Δ σ pc lo st := by
  subst hp
  intro H locs ls hP hS h
  rcases hw with hw | ⟨host, hw⟩
  · exact va_gets C.1.1 C.1.2.1 C.2.2.2.2.1.2.2.1 hS C.1.2.2.2.1 (C.1.2.2.2.2 _ hw) (fun _ h9 => h9) hd (K H locs ls hP hS h)
  · exact va_getsN C.1.1 C.1.2.1 C.2.2.2.2.1.2.2.1 hS C.1.2.2.2.1 (va_Nw.use rfl (C.2.2.2.1.2.1 _ hw)) (fun _ h9 => h9) hd (K H locs ls hP hS h)
theorem qk_gComp (C : qx_C G Δ cc own nL fr lc) {index : Nat} (hd : decode cc pc = .ok (.getstatic index, 3)) (pc' : Nat) (hp : pc + 3 = pc') (hw : Cond.fieldLink own index "java/lang/String" "COMPACT_STRINGS" "Z" ∈ qx_Wd) (K : qx_K l G Δ σ pc' lo (.int 1 :: st)) : qx_K l G Δ σ pc lo st := by
  subst hp
  intro H locs ls hP hS h
  exact va_gets C.1.1 C.1.2.1 C.2.2.2.2.1.2.2.2.2.1 hS C.1.2.2.2.1 (C.1.2.2.2.2 _ hw) (fun _ h9 => h9) hd (K H locs ls hP hS h)
theorem qk_tMost (C : qx_C G Δ cc own nL fr lc) (hd : decode cc pc = .ok (.iaload, 1)) (pc' : Nat) (hp : pc + 1 = pc') {x : Int32} (i : Nat) (hx : x = nI i) (hi : i < 7) (K : qx_K l G Δ σ pc' lo (.int (qx_most.getD i 0) :: st)) : qx_K l G Δ σ pc lo (.int x :: .ref (qx_ad G 90) :: st) := by
  subst hp; subst hx
  intro H locs ls hP hS h
  exact va_ti C.1.1 C.1.2.1 C.2.2.2.2.1.2.1 hS (vp_in_nI hi (by omega)) (v := .int (qx_most.getD i 0)) (by rw [nI_clamp (by omega)]) hd (K H locs ls hP hS h)
theorem qk_tAbv (C : qx_C G Δ cc own nL fr lc) (hd : decode cc pc = .ok (.iaload, 1)) (pc' : Nat) (hp : pc + 1 = pc') {x : Int32} (i : Nat) (hx : x = nI i) (hi : i < 7) (K : qx_K l G Δ σ pc' lo (.int (qx_abv.getD i 0) :: st)) : qx_K l G Δ σ pc lo (.int x :: .ref (qx_ad G 91) :: st) := by
  subst hp; subst hx
  intro H locs ls hP hS h
  exact va_ti C.1.1 C.1.2.1 C.2.2.2.2.1.2.2.2.1 hS (vp_in_nI hi (by omega)) (v := .int (qx_abv.getD i 0)) (by rw [nI_clamp (by omega)]) hd (K H locs ls hP hS h)
end qx_calls
end

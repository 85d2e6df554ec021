section
-- ===== PART A: goes FIRST, ahead of the names: the tables' words, and 'selects' of the private methods out of them =====
/-- a private method of a class that the tables say can be made, by its rows of tables_1 -/
def lw_okq (q : MethodName × Nat) : Prop := (q.1.cls ≠ "java/lang/invoke/MethodHandle" ∧ q.1.cls ≠ "java/lang/invoke/VarHandle") ∧ Cond.instantiable q.1.cls q.2 ∈ tables_1 ∧ Cond.privateMethod q.1 ∈ tables_1 ∧ Cond.instanceMethod q.1 ∈ tables_1
theorem lw_p0 : lw_okq (⟨"EdgeHolders$Search", "visit", "(III)V"⟩, 6) := ⟨⟨by decide +kernel, by decide +kernel⟩, List.mem_of_getElem? (i := 102) (by decide +kernel), List.mem_of_getElem? (i := 283) (by decide +kernel), List.mem_of_getElem? (i := 284) (by decide +kernel)⟩
theorem lw_p1 : lw_okq (⟨"EdgeHolders$Search", "isVisited", "(I)Z"⟩, 6) := ⟨⟨by decide +kernel, by decide +kernel⟩, List.mem_of_getElem? (i := 102) (by decide +kernel), List.mem_of_getElem? (i := 287) (by decide +kernel), List.mem_of_getElem? (i := 288) (by decide +kernel)⟩
theorem lw_p2 : lw_okq (⟨"EdgeHolders$PartTable", "addSetsWith", "(I)V"⟩, 7) := ⟨⟨by decide +kernel, by decide +kernel⟩, List.mem_of_getElem? (i := 130) (by decide +kernel), List.mem_of_getElem? (i := 332) (by decide +kernel), List.mem_of_getElem? (i := 333) (by decide +kernel)⟩
theorem lw_p3 : lw_okq (⟨"EdgeHolders$PartTable", "densestWith", "(II)I"⟩, 7) := ⟨⟨by decide +kernel, by decide +kernel⟩, List.mem_of_getElem? (i := 130) (by decide +kernel), List.mem_of_getElem? (i := 340) (by decide +kernel), List.mem_of_getElem? (i := 341) (by decide +kernel)⟩
theorem lw_p4 : lw_okq (⟨"EdgeHolders$PartTable", "innerWith", "(III)I"⟩, 7) := ⟨⟨by decide +kernel, by decide +kernel⟩, List.mem_of_getElem? (i := 130) (by decide +kernel), List.mem_of_getElem? (i := 344) (by decide +kernel), List.mem_of_getElem? (i := 345) (by decide +kernel)⟩
theorem lw_p5 : lw_okq (⟨"EdgeHolders$PartTable", "roundedUpDensity", "(III)I"⟩, 7) := ⟨⟨by decide +kernel, by decide +kernel⟩, List.mem_of_getElem? (i := 130) (by decide +kernel), List.mem_of_getElem? (i := 354) (by decide +kernel), List.mem_of_getElem? (i := 355) (by decide +kernel)⟩
theorem lw_p6 : lw_okq (⟨"EdgeHolders$OrderText", "current", "()I"⟩, 8) := ⟨⟨by decide +kernel, by decide +kernel⟩, List.mem_of_getElem? (i := 162) (by decide +kernel), List.mem_of_getElem? (i := 429) (by decide +kernel), List.mem_of_getElem? (i := 430) (by decide +kernel)⟩
theorem lw_p7 : lw_okq (⟨"EdgeHolders$OrderText", "readSign", "(I)V"⟩, 8) := ⟨⟨by decide +kernel, by decide +kernel⟩, List.mem_of_getElem? (i := 162) (by decide +kernel), List.mem_of_getElem? (i := 434) (by decide +kernel), List.mem_of_getElem? (i := 435) (by decide +kernel)⟩
theorem lw_p8 : lw_okq (⟨"EdgeHolders$OrderText", "noteWrong", "(I)V"⟩, 8) := ⟨⟨by decide +kernel, by decide +kernel⟩, List.mem_of_getElem? (i := 162) (by decide +kernel), List.mem_of_getElem? (i := 438) (by decide +kernel), List.mem_of_getElem? (i := 439) (by decide +kernel)⟩
theorem lw_p9 : lw_okq (⟨"EdgeHolders$OrderText", "readNode", "()I"⟩, 8) := ⟨⟨by decide +kernel, by decide +kernel⟩, List.mem_of_getElem? (i := 162) (by decide +kernel), List.mem_of_getElem? (i := 442) (by decide +kernel), List.mem_of_getElem? (i := 443) (by decide +kernel)⟩
theorem lw_p10 : lw_okq (⟨"EdgeHolders$OrderText", "readNumber", "(II)I"⟩, 8) := ⟨⟨by decide +kernel, by decide +kernel⟩, List.mem_of_getElem? (i := 162) (by decide +kernel), List.mem_of_getElem? (i := 446) (by decide +kernel), List.mem_of_getElem? (i := 447) (by decide +kernel)⟩
theorem lw_p11 : lw_okq (⟨"EdgeHolders$OrderText", "isAtDigit", "()Z"⟩, 8) := ⟨⟨by decide +kernel, by decide +kernel⟩, List.mem_of_getElem? (i := 162) (by decide +kernel), List.mem_of_getElem? (i := 450) (by decide +kernel), List.mem_of_getElem? (i := 451) (by decide +kernel)⟩
theorem lw_p12 : lw_okq (⟨"EdgeHolders", "obeyOrder", "()Z"⟩, 6) := ⟨⟨by decide +kernel, by decide +kernel⟩, List.mem_of_getElem? (i := 19) (by decide +kernel), List.mem_of_getElem? (i := 460) (by decide +kernel), List.mem_of_getElem? (i := 461) (by decide +kernel)⟩
theorem lw_p13 : lw_okq (⟨"EdgeHolders", "obeyAdding", "(II)Z"⟩, 6) := ⟨⟨by decide +kernel, by decide +kernel⟩, List.mem_of_getElem? (i := 19) (by decide +kernel), List.mem_of_getElem? (i := 464) (by decide +kernel), List.mem_of_getElem? (i := 465) (by decide +kernel)⟩
theorem lw_p14 : lw_okq (⟨"EdgeHolders", "obeyForEdge", "(II)Z"⟩, 6) := ⟨⟨by decide +kernel, by decide +kernel⟩, List.mem_of_getElem? (i := 19) (by decide +kernel), List.mem_of_getElem? (i := 484) (by decide +kernel), List.mem_of_getElem? (i := 485) (by decide +kernel)⟩
theorem lw_p15 : lw_okq (⟨"EdgeHolders", "obeyCapacity", "(II)Z"⟩, 6) := ⟨⟨by decide +kernel, by decide +kernel⟩, List.mem_of_getElem? (i := 19) (by decide +kernel), List.mem_of_getElem? (i := 498) (by decide +kernel), List.mem_of_getElem? (i := 499) (by decide +kernel)⟩
def lw_privs_1 : List (MethodName × Nat) := [(⟨"EdgeHolders$Search", "visit", "(III)V"⟩, 6), (⟨"EdgeHolders$Search", "isVisited", "(I)Z"⟩, 6), (⟨"EdgeHolders$PartTable", "addSetsWith", "(I)V"⟩, 7), (⟨"EdgeHolders$PartTable", "densestWith", "(II)I"⟩, 7), (⟨"EdgeHolders$PartTable", "innerWith", "(III)I"⟩, 7), (⟨"EdgeHolders$PartTable", "roundedUpDensity", "(III)I"⟩, 7), (⟨"EdgeHolders$OrderText", "current", "()I"⟩, 8), (⟨"EdgeHolders$OrderText", "readSign", "(I)V"⟩, 8), (⟨"EdgeHolders$OrderText", "noteWrong", "(I)V"⟩, 8), (⟨"EdgeHolders$OrderText", "readNode", "()I"⟩, 8), (⟨"EdgeHolders$OrderText", "readNumber", "(II)I"⟩, 8), (⟨"EdgeHolders$OrderText", "isAtDigit", "()Z"⟩, 8), (⟨"EdgeHolders", "obeyOrder", "()Z"⟩, 6), (⟨"EdgeHolders", "obeyAdding", "(II)Z"⟩, 6), (⟨"EdgeHolders", "obeyForEdge", "(II)Z"⟩, 6), (⟨"EdgeHolders", "obeyCapacity", "(II)Z"⟩, 6)]
theorem lw_r1 : ∀ q ∈ lw_privs_1, lw_okq q := List.forall_mem_cons.mpr ⟨lw_p0, List.forall_mem_cons.mpr ⟨lw_p1, List.forall_mem_cons.mpr ⟨lw_p2, List.forall_mem_cons.mpr ⟨lw_p3, List.forall_mem_cons.mpr ⟨lw_p4, List.forall_mem_cons.mpr ⟨lw_p5, List.forall_mem_cons.mpr ⟨lw_p6, List.forall_mem_cons.mpr ⟨lw_p7, List.forall_mem_cons.mpr ⟨lw_p8, List.forall_mem_cons.mpr ⟨lw_p9, List.forall_mem_cons.mpr ⟨lw_p10, List.forall_mem_cons.mpr ⟨lw_p11, List.forall_mem_cons.mpr ⟨lw_p12, List.forall_mem_cons.mpr ⟨lw_p13, List.forall_mem_cons.mpr ⟨lw_p14, List.forall_mem_cons.mpr ⟨lw_p15, fun _ h => absurd h List.not_mem_nil⟩⟩⟩⟩⟩⟩⟩⟩⟩⟩⟩⟩⟩⟩⟩⟩
theorem lw_p16 : lw_okq (⟨"java/lang/Throwable", "fillInStackTrace", "(I)Ljava/lang/Throwable;"⟩, 6) := ⟨⟨by decide +kernel, by decide +kernel⟩, List.mem_of_getElem? (i := 569) (by decide +kernel), List.mem_of_getElem? (i := 567) (by decide +kernel), List.mem_of_getElem? (i := 568) (by decide +kernel)⟩
theorem lw_p17 : lw_okq (⟨"EdgeHolders", "checkNode", "(I)V"⟩, 6) := ⟨⟨by decide +kernel, by decide +kernel⟩, List.mem_of_getElem? (i := 19) (by decide +kernel), List.mem_of_getElem? (i := 603) (by decide +kernel), List.mem_of_getElem? (i := 604) (by decide +kernel)⟩
theorem lw_p18 : lw_okq (⟨"EdgeHolders", "checkedSlot", "(I)I"⟩, 6) := ⟨⟨by decide +kernel, by decide +kernel⟩, List.mem_of_getElem? (i := 19) (by decide +kernel), List.mem_of_getElem? (i := 636) (by decide +kernel), List.mem_of_getElem? (i := 637) (by decide +kernel)⟩
theorem lw_p19 : lw_okq (⟨"EdgeHoldersModel", "begins", "(I)V"⟩, 18) := ⟨⟨by decide +kernel, by decide +kernel⟩, List.mem_of_getElem? (i := 824) (by decide +kernel), List.mem_of_getElem? (i := 830) (by decide +kernel), List.mem_of_getElem? (i := 831) (by decide +kernel)⟩
theorem lw_p20 : lw_okq (⟨"EdgeHoldersModel", "refuses", "(ZZZ)Z"⟩, 18) := ⟨⟨by decide +kernel, by decide +kernel⟩, List.mem_of_getElem? (i := 824) (by decide +kernel), List.mem_of_getElem? (i := 897) (by decide +kernel), List.mem_of_getElem? (i := 898) (by decide +kernel)⟩
theorem lw_p21 : lw_okq (⟨"EdgeHoldersModel", "save", "()V"⟩, 18) := ⟨⟨by decide +kernel, by decide +kernel⟩, List.mem_of_getElem? (i := 824) (by decide +kernel), List.mem_of_getElem? (i := 908) (by decide +kernel), List.mem_of_getElem? (i := 909) (by decide +kernel)⟩
theorem lw_p22 : lw_okq (⟨"EdgeHoldersModel", "refusesAdd", "(II)Z"⟩, 18) := ⟨⟨by decide +kernel, by decide +kernel⟩, List.mem_of_getElem? (i := 824) (by decide +kernel), List.mem_of_getElem? (i := 916) (by decide +kernel), List.mem_of_getElem? (i := 917) (by decide +kernel)⟩
theorem lw_p23 : lw_okq (⟨"EdgeHoldersModel", "isNode", "(I)Z"⟩, 18) := ⟨⟨by decide +kernel, by decide +kernel⟩, List.mem_of_getElem? (i := 824) (by decide +kernel), List.mem_of_getElem? (i := 920) (by decide +kernel), List.mem_of_getElem? (i := 921) (by decide +kernel)⟩
theorem lw_p24 : lw_okq (⟨"EdgeHoldersModel", "adds", "(II)I"⟩, 18) := ⟨⟨by decide +kernel, by decide +kernel⟩, List.mem_of_getElem? (i := 824) (by decide +kernel), List.mem_of_getElem? (i := 924) (by decide +kernel), List.mem_of_getElem? (i := 925) (by decide +kernel)⟩
theorem lw_p25 : lw_okq (⟨"EdgeHoldersModel", "load", "(I)I"⟩, 18) := ⟨⟨by decide +kernel, by decide +kernel⟩, List.mem_of_getElem? (i := 824) (by decide +kernel), List.mem_of_getElem? (i := 928) (by decide +kernel), List.mem_of_getElem? (i := 929) (by decide +kernel)⟩
theorem lw_p26 : lw_okq (⟨"EdgeHoldersModel", "holder", "(I)I"⟩, 18) := ⟨⟨by decide +kernel, by decide +kernel⟩, List.mem_of_getElem? (i := 824) (by decide +kernel), List.mem_of_getElem? (i := 932) (by decide +kernel), List.mem_of_getElem? (i := 933) (by decide +kernel)⟩
theorem lw_p27 : lw_okq (⟨"EdgeHoldersModel", "refusesEdge", "(I)Z"⟩, 18) := ⟨⟨by decide +kernel, by decide +kernel⟩, List.mem_of_getElem? (i := 824) (by decide +kernel), List.mem_of_getElem? (i := 940) (by decide +kernel), List.mem_of_getElem? (i := 941) (by decide +kernel)⟩
theorem lw_p28 : lw_okq (⟨"EdgeHoldersModel", "placeOf", "(I)I"⟩, 18) := ⟨⟨by decide +kernel, by decide +kernel⟩, List.mem_of_getElem? (i := 824) (by decide +kernel), List.mem_of_getElem? (i := 944) (by decide +kernel), List.mem_of_getElem? (i := 945) (by decide +kernel)⟩
theorem lw_p29 : lw_okq (⟨"EdgeHoldersModel", "removes", "(I)I"⟩, 18) := ⟨⟨by decide +kernel, by decide +kernel⟩, List.mem_of_getElem? (i := 824) (by decide +kernel), List.mem_of_getElem? (i := 948) (by decide +kernel), List.mem_of_getElem? (i := 949) (by decide +kernel)⟩
theorem lw_p30 : lw_okq (⟨"EdgeHoldersModel", "turns", "(I)V"⟩, 18) := ⟨⟨by decide +kernel, by decide +kernel⟩, List.mem_of_getElem? (i := 824) (by decide +kernel), List.mem_of_getElem? (i := 956) (by decide +kernel), List.mem_of_getElem? (i := 957) (by decide +kernel)⟩
theorem lw_p31 : lw_okq (⟨"EdgeHoldersModel", "refusesRelief", "(I)Z"⟩, 18) := ⟨⟨by decide +kernel, by decide +kernel⟩, List.mem_of_getElem? (i := 824) (by decide +kernel), List.mem_of_getElem? (i := 964) (by decide +kernel), List.mem_of_getElem? (i := 965) (by decide +kernel)⟩
def lw_privs_2 : List (MethodName × Nat) := [(⟨"java/lang/Throwable", "fillInStackTrace", "(I)Ljava/lang/Throwable;"⟩, 6), (⟨"EdgeHolders", "checkNode", "(I)V"⟩, 6), (⟨"EdgeHolders", "checkedSlot", "(I)I"⟩, 6), (⟨"EdgeHoldersModel", "begins", "(I)V"⟩, 18), (⟨"EdgeHoldersModel", "refuses", "(ZZZ)Z"⟩, 18), (⟨"EdgeHoldersModel", "save", "()V"⟩, 18), (⟨"EdgeHoldersModel", "refusesAdd", "(II)Z"⟩, 18), (⟨"EdgeHoldersModel", "isNode", "(I)Z"⟩, 18), (⟨"EdgeHoldersModel", "adds", "(II)I"⟩, 18), (⟨"EdgeHoldersModel", "load", "(I)I"⟩, 18), (⟨"EdgeHoldersModel", "holder", "(I)I"⟩, 18), (⟨"EdgeHoldersModel", "refusesEdge", "(I)Z"⟩, 18), (⟨"EdgeHoldersModel", "placeOf", "(I)I"⟩, 18), (⟨"EdgeHoldersModel", "removes", "(I)I"⟩, 18), (⟨"EdgeHoldersModel", "turns", "(I)V"⟩, 18), (⟨"EdgeHoldersModel", "refusesRelief", "(I)Z"⟩, 18)]
theorem lw_r2 : ∀ q ∈ lw_privs_2, lw_okq q := List.forall_mem_cons.mpr ⟨lw_p16, List.forall_mem_cons.mpr ⟨lw_p17, List.forall_mem_cons.mpr ⟨lw_p18, List.forall_mem_cons.mpr ⟨lw_p19, List.forall_mem_cons.mpr ⟨lw_p20, List.forall_mem_cons.mpr ⟨lw_p21, List.forall_mem_cons.mpr ⟨lw_p22, List.forall_mem_cons.mpr ⟨lw_p23, List.forall_mem_cons.mpr ⟨lw_p24, List.forall_mem_cons.mpr ⟨lw_p25, List.forall_mem_cons.mpr ⟨lw_p26, List.forall_mem_cons.mpr ⟨lw_p27, List.forall_mem_cons.mpr ⟨lw_p28, List.forall_mem_cons.mpr ⟨lw_p29, List.forall_mem_cons.mpr ⟨lw_p30, List.forall_mem_cons.mpr ⟨lw_p31, fun _ h => absurd h List.not_mem_nil⟩⟩⟩⟩⟩⟩⟩⟩⟩⟩⟩⟩⟩⟩⟩⟩
theorem lw_p32 : lw_okq (⟨"EdgeHoldersModel", "reliefOf", "(I)I"⟩, 18) := ⟨⟨by decide +kernel, by decide +kernel⟩, List.mem_of_getElem? (i := 824) (by decide +kernel), List.mem_of_getElem? (i := 968) (by decide +kernel), List.mem_of_getElem? (i := 969) (by decide +kernel)⟩
theorem lw_p33 : lw_okq (⟨"EdgeHoldersModel", "visits", "(I)V"⟩, 18) := ⟨⟨by decide +kernel, by decide +kernel⟩, List.mem_of_getElem? (i := 824) (by decide +kernel), List.mem_of_getElem? (i := 972) (by decide +kernel), List.mem_of_getElem? (i := 973) (by decide +kernel)⟩
theorem lw_p34 : lw_okq (⟨"EdgeHoldersModel", "other", "(I)I"⟩, 18) := ⟨⟨by decide +kernel, by decide +kernel⟩, List.mem_of_getElem? (i := 824) (by decide +kernel), List.mem_of_getElem? (i := 976) (by decide +kernel), List.mem_of_getElem? (i := 977) (by decide +kernel)⟩
theorem lw_p35 : lw_okq (⟨"EdgeHoldersModel", "relieves", "(I)I"⟩, 18) := ⟨⟨by decide +kernel, by decide +kernel⟩, List.mem_of_getElem? (i := 824) (by decide +kernel), List.mem_of_getElem? (i := 980) (by decide +kernel), List.mem_of_getElem? (i := 981) (by decide +kernel)⟩
theorem lw_p36 : lw_okq (⟨"EdgeHoldersModel", "balances", "()I"⟩, 18) := ⟨⟨by decide +kernel, by decide +kernel⟩, List.mem_of_getElem? (i := 824) (by decide +kernel), List.mem_of_getElem? (i := 988) (by decide +kernel), List.mem_of_getElem? (i := 989) (by decide +kernel)⟩
theorem lw_p37 : lw_okq (⟨"EdgeHoldersModel", "greatest", "()I"⟩, 18) := ⟨⟨by decide +kernel, by decide +kernel⟩, List.mem_of_getElem? (i := 824) (by decide +kernel), List.mem_of_getElem? (i := 992) (by decide +kernel), List.mem_of_getElem? (i := 993) (by decide +kernel)⟩
theorem lw_p38 : lw_okq (⟨"EdgeHoldersModel", "refusesCapacity", "(II)Z"⟩, 18) := ⟨⟨by decide +kernel, by decide +kernel⟩, List.mem_of_getElem? (i := 824) (by decide +kernel), List.mem_of_getElem? (i := 1000) (by decide +kernel), List.mem_of_getElem? (i := 1001) (by decide +kernel)⟩
theorem lw_p39 : lw_okq (⟨"EdgeHoldersModel", "sets", "(II)I"⟩, 18) := ⟨⟨by decide +kernel, by decide +kernel⟩, List.mem_of_getElem? (i := 824) (by decide +kernel), List.mem_of_getElem? (i := 1004) (by decide +kernel), List.mem_of_getElem? (i := 1005) (by decide +kernel)⟩
theorem lw_p40 : lw_okq (⟨"EdgeHoldersModel", "nodeOf", "(II)I"⟩, 18) := ⟨⟨by decide +kernel, by decide +kernel⟩, List.mem_of_getElem? (i := 824) (by decide +kernel), List.mem_of_getElem? (i := 1012) (by decide +kernel), List.mem_of_getElem? (i := 1013) (by decide +kernel)⟩
theorem lw_p41 : lw_okq (⟨"EdgeHoldersModel", "degree", "(I)I"⟩, 18) := ⟨⟨by decide +kernel, by decide +kernel⟩, List.mem_of_getElem? (i := 824) (by decide +kernel), List.mem_of_getElem? (i := 1016) (by decide +kernel), List.mem_of_getElem? (i := 1017) (by decide +kernel)⟩
theorem lw_p42 : lw_okq (⟨"EdgeHoldersModel", "neighbours", "(I)I"⟩, 18) := ⟨⟨by decide +kernel, by decide +kernel⟩, List.mem_of_getElem? (i := 824) (by decide +kernel), List.mem_of_getElem? (i := 1020) (by decide +kernel), List.mem_of_getElem? (i := 1021) (by decide +kernel)⟩
theorem lw_p43 : lw_okq (⟨"EdgeHoldersModel", "edgeOf", "(II)I"⟩, 18) := ⟨⟨by decide +kernel, by decide +kernel⟩, List.mem_of_getElem? (i := 824) (by decide +kernel), List.mem_of_getElem? (i := 1031) (by decide +kernel), List.mem_of_getElem? (i := 1032) (by decide +kernel)⟩
theorem lw_p44 : lw_okq (⟨"EdgeHoldersModel", "valueOf", "(I)I"⟩, 18) := ⟨⟨by decide +kernel, by decide +kernel⟩, List.mem_of_getElem? (i := 824) (by decide +kernel), List.mem_of_getElem? (i := 1043) (by decide +kernel), List.mem_of_getElem? (i := 1044) (by decide +kernel)⟩
theorem lw_p45 : lw_okq (⟨"EdgeHoldersModel", "pathOf", "(II)I"⟩, 18) := ⟨⟨by decide +kernel, by decide +kernel⟩, List.mem_of_getElem? (i := 824) (by decide +kernel), List.mem_of_getElem? (i := 1051) (by decide +kernel), List.mem_of_getElem? (i := 1052) (by decide +kernel)⟩
theorem lw_p46 : lw_okq (⟨"EdgeHoldersModel", "lengthTo", "(I)I"⟩, 18) := ⟨⟨by decide +kernel, by decide +kernel⟩, List.mem_of_getElem? (i := 824) (by decide +kernel), List.mem_of_getElem? (i := 1055) (by decide +kernel), List.mem_of_getElem? (i := 1056) (by decide +kernel)⟩
theorem lw_p47 : lw_okq (⟨"EdgeHoldersModel", "innerOf", "(III)I"⟩, 18) := ⟨⟨by decide +kernel, by decide +kernel⟩, List.mem_of_getElem? (i := 824) (by decide +kernel), List.mem_of_getElem? (i := 1067) (by decide +kernel), List.mem_of_getElem? (i := 1068) (by decide +kernel)⟩
def lw_privs_3 : List (MethodName × Nat) := [(⟨"EdgeHoldersModel", "reliefOf", "(I)I"⟩, 18), (⟨"EdgeHoldersModel", "visits", "(I)V"⟩, 18), (⟨"EdgeHoldersModel", "other", "(I)I"⟩, 18), (⟨"EdgeHoldersModel", "relieves", "(I)I"⟩, 18), (⟨"EdgeHoldersModel", "balances", "()I"⟩, 18), (⟨"EdgeHoldersModel", "greatest", "()I"⟩, 18), (⟨"EdgeHoldersModel", "refusesCapacity", "(II)Z"⟩, 18), (⟨"EdgeHoldersModel", "sets", "(II)I"⟩, 18), (⟨"EdgeHoldersModel", "nodeOf", "(II)I"⟩, 18), (⟨"EdgeHoldersModel", "degree", "(I)I"⟩, 18), (⟨"EdgeHoldersModel", "neighbours", "(I)I"⟩, 18), (⟨"EdgeHoldersModel", "edgeOf", "(II)I"⟩, 18), (⟨"EdgeHoldersModel", "valueOf", "(I)I"⟩, 18), (⟨"EdgeHoldersModel", "pathOf", "(II)I"⟩, 18), (⟨"EdgeHoldersModel", "lengthTo", "(I)I"⟩, 18), (⟨"EdgeHoldersModel", "innerOf", "(III)I"⟩, 18)]
theorem lw_r3 : ∀ q ∈ lw_privs_3, lw_okq q := List.forall_mem_cons.mpr ⟨lw_p32, List.forall_mem_cons.mpr ⟨lw_p33, List.forall_mem_cons.mpr ⟨lw_p34, List.forall_mem_cons.mpr ⟨lw_p35, List.forall_mem_cons.mpr ⟨lw_p36, List.forall_mem_cons.mpr ⟨lw_p37, List.forall_mem_cons.mpr ⟨lw_p38, List.forall_mem_cons.mpr ⟨lw_p39, List.forall_mem_cons.mpr ⟨lw_p40, List.forall_mem_cons.mpr ⟨lw_p41, List.forall_mem_cons.mpr ⟨lw_p42, List.forall_mem_cons.mpr ⟨lw_p43, List.forall_mem_cons.mpr ⟨lw_p44, List.forall_mem_cons.mpr ⟨lw_p45, List.forall_mem_cons.mpr ⟨lw_p46, List.forall_mem_cons.mpr ⟨lw_p47, fun _ h => absurd h List.not_mem_nil⟩⟩⟩⟩⟩⟩⟩⟩⟩⟩⟩⟩⟩⟩⟩⟩
theorem lw_p48 : lw_okq (⟨"EdgeHoldersModel", "densestOf", "(II)I"⟩, 18) := ⟨⟨by decide +kernel, by decide +kernel⟩, List.mem_of_getElem? (i := 824) (by decide +kernel), List.mem_of_getElem? (i := 1075) (by decide +kernel), List.mem_of_getElem? (i := 1076) (by decide +kernel)⟩
theorem lw_p49 : lw_okq (⟨"EdgeHoldersModel", "leastOf", "(II)I"⟩, 18) := ⟨⟨by decide +kernel, by decide +kernel⟩, List.mem_of_getElem? (i := 824) (by decide +kernel), List.mem_of_getElem? (i := 1083) (by decide +kernel), List.mem_of_getElem? (i := 1084) (by decide +kernel)⟩
theorem lw_p50 : lw_okq (⟨"EdgeHoldersModel", "copy", "()V"⟩, 18) := ⟨⟨by decide +kernel, by decide +kernel⟩, List.mem_of_getElem? (i := 824) (by decide +kernel), List.mem_of_getElem? (i := 1107) (by decide +kernel), List.mem_of_getElem? (i := 1108) (by decide +kernel)⟩
theorem lw_p51 : lw_okq (⟨"EdgeHoldersModel", "back", "()V"⟩, 18) := ⟨⟨by decide +kernel, by decide +kernel⟩, List.mem_of_getElem? (i := 824) (by decide +kernel), List.mem_of_getElem? (i := 1111) (by decide +kernel), List.mem_of_getElem? (i := 1112) (by decide +kernel)⟩
theorem lw_p52 : lw_okq (⟨"EdgeHoldersModel", "readsOrder", "()Z"⟩, 18) := ⟨⟨by decide +kernel, by decide +kernel⟩, List.mem_of_getElem? (i := 824) (by decide +kernel), List.mem_of_getElem? (i := 1136) (by decide +kernel), List.mem_of_getElem? (i := 1137) (by decide +kernel)⟩
theorem lw_p53 : lw_okq (⟨"EdgeHoldersModel", "here", "()I"⟩, 18) := ⟨⟨by decide +kernel, by decide +kernel⟩, List.mem_of_getElem? (i := 824) (by decide +kernel), List.mem_of_getElem? (i := 1140) (by decide +kernel), List.mem_of_getElem? (i := 1141) (by decide +kernel)⟩
theorem lw_p54 : lw_okq (⟨"EdgeHoldersModel", "takes", "(II)Z"⟩, 18) := ⟨⟨by decide +kernel, by decide +kernel⟩, List.mem_of_getElem? (i := 824) (by decide +kernel), List.mem_of_getElem? (i := 1144) (by decide +kernel), List.mem_of_getElem? (i := 1145) (by decide +kernel)⟩
theorem lw_p55 : lw_okq (⟨"EdgeHoldersModel", "number", "(II)I"⟩, 18) := ⟨⟨by decide +kernel, by decide +kernel⟩, List.mem_of_getElem? (i := 824) (by decide +kernel), List.mem_of_getElem? (i := 1148) (by decide +kernel), List.mem_of_getElem? (i := 1149) (by decide +kernel)⟩
theorem lw_p56 : lw_okq (⟨"EdgeHoldersModel", "does", "()Z"⟩, 18) := ⟨⟨by decide +kernel, by decide +kernel⟩, List.mem_of_getElem? (i := 824) (by decide +kernel), List.mem_of_getElem? (i := 1152) (by decide +kernel), List.mem_of_getElem? (i := 1153) (by decide +kernel)⟩
theorem lw_p57 : lw_okq (⟨"EdgeHoldersModel", "hashes", "(J)V"⟩, 18) := ⟨⟨by decide +kernel, by decide +kernel⟩, List.mem_of_getElem? (i := 824) (by decide +kernel), List.mem_of_getElem? (i := 1161) (by decide +kernel), List.mem_of_getElem? (i := 1162) (by decide +kernel)⟩
def lw_privs_4 : List (MethodName × Nat) := [(⟨"EdgeHoldersModel", "densestOf", "(II)I"⟩, 18), (⟨"EdgeHoldersModel", "leastOf", "(II)I"⟩, 18), (⟨"EdgeHoldersModel", "copy", "()V"⟩, 18), (⟨"EdgeHoldersModel", "back", "()V"⟩, 18), (⟨"EdgeHoldersModel", "readsOrder", "()Z"⟩, 18), (⟨"EdgeHoldersModel", "here", "()I"⟩, 18), (⟨"EdgeHoldersModel", "takes", "(II)Z"⟩, 18), (⟨"EdgeHoldersModel", "number", "(II)I"⟩, 18), (⟨"EdgeHoldersModel", "does", "()Z"⟩, 18), (⟨"EdgeHoldersModel", "hashes", "(J)V"⟩, 18)]
theorem lw_r4 : ∀ q ∈ lw_privs_4, lw_okq q := List.forall_mem_cons.mpr ⟨lw_p48, List.forall_mem_cons.mpr ⟨lw_p49, List.forall_mem_cons.mpr ⟨lw_p50, List.forall_mem_cons.mpr ⟨lw_p51, List.forall_mem_cons.mpr ⟨lw_p52, List.forall_mem_cons.mpr ⟨lw_p53, List.forall_mem_cons.mpr ⟨lw_p54, List.forall_mem_cons.mpr ⟨lw_p55, List.forall_mem_cons.mpr ⟨lw_p56, List.forall_mem_cons.mpr ⟨lw_p57, fun _ h => absurd h List.not_mem_nil⟩⟩⟩⟩⟩⟩⟩⟩⟩⟩
def lw_privs : List (MethodName × Nat) := lw_privs_1 ++ (lw_privs_2 ++ (lw_privs_3 ++ (lw_privs_4)))
def lw_tbl : List Cond := k2_sels lw_privs ++ tables_1
theorem lw_privs_ok : ∀ q ∈ lw_privs, lw_okq q := by
  show ∀ q ∈ lw_privs_1 ++ (lw_privs_2 ++ (lw_privs_3 ++ (lw_privs_4))), lw_okq q
  exact List.forall_mem_append.mpr ⟨lw_r1, List.forall_mem_append.mpr ⟨lw_r2, List.forall_mem_append.mpr ⟨lw_r3, lw_r4⟩⟩⟩
/-- the streams that the claim lets the run draw from -/
abbrev lw_cs : List Choice := [Jvm.Choice.named "NaN.bits"]
theorem lw_bits : nanBits ∈ lw_cs := by first | decide | exact List.mem_cons_self | simp [lw_cs, nanBits]
-- ===== end of PART A; then your names; then what follows =====
end
section
/-! ===== BEGIN words of one list among another's, by their places ===== -/
theorem goodIn_r {big : List Cond} (ws : List Cond) (ps : List Nat) (hp : ws = ps.filterMap (fun i => big[i]?)) (h : ws.all goodWord = true) : GoodIn big ws := by
  intro w hw
  have h1 := List.all_eq_true.mp h w hw
  rw [hp] at hw
  obtain ⟨i, -, hi⟩ := List.mem_filterMap.mp hw
  have hm : w ∈ big := by first | exact List.mem_of_getElem? hi | exact List.getElem?_mem hi
  exact ⟨hm, good_of_word h1⟩
theorem goodIn_app {big a b : List Cond} (ha : GoodIn big a) (hb : GoodIn big b) : GoodIn big (a ++ b) := fun w h => (List.mem_append.mp h).elim (ha w) (hb w)
theorem goodIn_ca {big a b : List Cond} {c : Cond} (ha : GoodIn big (c :: a)) (hb : GoodIn big b) : GoodIn big (c :: (a ++ b)) := fun w h => (List.mem_cons.mp h).elim (fun e => ha w (List.mem_cons.mpr (Or.inl e))) (fun h => (List.mem_append.mp h).elim (fun h => ha w (List.mem_cons.mpr (Or.inr h))) (hb w))
theorem goodIn_sub {big ws : List Cond} (hm : ∀ w ∈ ws, w ∈ big) (h : ws.all goodWord = true) : GoodIn big ws := fun w hw => ⟨hm w hw, good_of_word (List.all_eq_true.mp h w hw)⟩
/-! ===== END ===== -/

/-! ===== BEGIN exceptions that leave a method, and their catching by the caller (launches without stack traces) ===== -/
section VXA
/-! The laws vx_back, vx_callV, vx_callS, vx_callSW, vx_throw0, vx_throwS follow proofs of the library, with one case more: JvmDerived/Free/Laws.lean (Back.of_free), Shelf42/LK1.lean (callV, callS), Shelf/KitTraced.lean (throwNew0V, throwNewS). -/
/-- where a method has thrown q: the class by its name, the cell, what was written, the world -/
def vx_T (XC : String → State → State → Prop) (st : State) (q : Addr) (t : State) (mc ms : Nat) (free : Addr → Prop) : Prop :=
  ∃ (E : String) (ce : Cell) (L : List Loc), XC E st t ∧ t.heap[q]? = some ce ∧ ce.vm = .none ∧ st.vm.findClass E = some ce.cls ∧ st.WarmedH t.vm ∧ st.sameButNew ({ t with vm := st.vm } : State) L mc ms ∧ ∀ z ∈ L, free z.base
def vx_Q (Qc : Array Value → State → Outcome → State → Prop) (XC : String → State → State → Prop) (mc ms : Nat) (free : Addr → Prop) : Array Value → State → Outcome → State → Prop := fun a st o t =>
  (Qc a st o t ∧ ∃ L, FrameEnd st o t L mc ms ∧ ∀ q ∈ L, free q.base) ∨ ∃ q, o = .threw q ∧ vx_T XC st q t mc ms free
/-- a callee that returns or throws -/
def vx_Met (l : Launch) (y : MethodName) (ws : List Cond) (rm : Room) (Pc : Array Value → State → Prop) (Qc : Array Value → State → Outcome → State → Prop) (XC : String → State → State → Prop) (mc ms : Nat) (free : Addr → Prop) : Prop :=
  MetFree l y (headSpec ws rm) Pc (fun _ _ _ _ _ => True) (vx_Q Qc XC mc ms free)
def vx_Post (XC : String → State → State → Prop) (mc ms : Nat) (free : Addr → Prop) : Pt → Array Value → Addr → Pt → Prop := fun A a q B =>
  ∃ (g : JFrame) (mk : MethodId) (t : State) (L : List Loc) (E : String) (ce : Cell), B.U.heap = t.heap ∧ B.U.vm = t.vm ∧ XC E (A.U.calling g mk a) t ∧ t.heap[q]? = some ce ∧ ce.vm = .none ∧ A.U.vm.findClass E = some ce.cls ∧ B.locs = A.locs ++ L ∧ (∀ z ∈ L, free z.base) ∧ B.cells = A.cells + mc ∧ B.slots = A.slots + ms
def vx_Back (l : Launch) (R : Room) (p : Program) (e : Env) (below : List Frame) (s : State) (sargs : Array Value) (y : MethodName) (len W9 : Nat)
    (Pre : Pt → Array Value → Prop) (Post : Pt → Array Value → Option Value → Pt → Prop) (PostX : Pt → Array Value → Addr → Pt → Prop) : Prop :=
  ∀ (m : MethodId) (meth : Method) (c : Code) (A : Pt) (g : JFrame) (ig : Instr) (mk : MethodId) (a : Array Value),
    Stand p l e R s m sargs below meth c A.U A.locs A.cells A.slots → g.method = m → g.locals.size = c.maxLocals → decode c.code g.pc = .ok (ig, len) →
    2 * g.monitorRoom + (g.stack.map fun v => v.category).sum ≤ W9 → A.U.methodNamed? y = some mk → Pre A a →
    (∃ (v : Option Value) (B : Pt), Stand p l e R s m sargs below meth c B.U B.locs B.cells B.slots ∧ Post A a v B ∧
      Steps p.tables e below (doInvoke e (A.U.setTop g) [] mk a).1 (B.U.setTop { g with pc := g.pc + len, stack := v.toList ++ g.stack })) ∨
    (∃ (q : Addr) (B : Pt), Stand p l e R s m sargs below meth c B.U B.locs B.cells B.slots ∧ PostX A a q B ∧
      Steps p.tables e below (doInvoke e (A.U.setTop g) [] mk a).1 ((B.U.setTop g).pushFrame (.throwing q)))
section Payer
variable {l : Launch} {R : Room} {p : Program} {e : Env} {below : List Frame} {s : State} {sargs : Array Value} {y : MethodName} {len W9 : Nat}
theorem vx_back {ws : List Cond} {rm : Room} {Pc : Array Value → State → Prop} {Qc : Array Value → State → Outcome → State → Prop} {XC : String → State → State → Prop} {mc ms : Nat} {free : Addr → Prop} {bytes : ByteArray} {maxL : Nat} {ret : Option FieldType}
    (hM : vx_Met l y ws rm Pc Qc XC mc ms free) (hblind : FrameBlind Pc) (hrc : rm.cells = mc) (hrs : rm.slots = ms)
    (hframes : rm.frames + 1 ≤ R.frames) (hlocals : W9 + (maxL + 11) + rm.locals ≤ R.locals)
    (hws : ∀ w ∈ ws, ∀ a' U, s.WarmedH U.vm → w.before a' U = true) (hcode : Cond.code y bytes maxL ret ∈ ws) (hinit : ∀ a' U, s.WarmedH U.vm → (Cond.initialized y.cls).before a' U = true) :
    vx_Back l R p e below s sargs y len W9 (PreOf R mc ms Pc) (PostOf Qc mc ms free) (vx_Post XC mc ms free) := by
  intro m meth c A g ig mk a X hg hsize hdg hW hn hp
  have h1 : (headSpec ws rm).pre.before a A.U = true := atoms_intro fun w hw => hws w hw _ _ X.warmed
  have h2 : (Cond.code y bytes maxL ret).before a A.U = true := hws _ hcode _ _ X.warmed
  have h3 : (Cond.initialized y.cls).before a A.U = true := hinit _ _ X.warmed
  have h4 : A.cells + (headSpec ws rm).room.cells ≤ R.cells := by rw [show (headSpec ws rm).room.cells = mc from hrc]; exact hp.1
  have h5 : A.slots + (headSpec ws rm).room.slots ≤ R.slots := by rw [show (headSpec ws rm).room.slots = ms from hrs]; exact hp.2.1
  have hPc : Pc a (A.U.calling g mk a) := hblind _ _ _ _ hp.2.2
  obtain ⟨U, Ls, c0, s0⟩ := A
  dsimp only [Pt.U, Pt.locs, Pt.cells, Pt.slots] at h1 h2 h3 h4 h5 X hn hPc ⊢
  obtain ⟨methY, cY, hmY, hcY, -, hlY, -, -, -, -⟩ := Cond.code_spec hn h2
  obtain ⟨kY, hkY, -⟩ := className_of_methodNamed hn
  have hinitY : kY.init = .initialized := Cond.initialized_spec (findClass_of_methodNamed hn) hkY h3
  have h : At U g.method c below := by rw [hg]; exact X.here
  have hlocals9 : W9 + (maxL + 11) + (headSpec ws rm).room.locals ≤ R.locals := hlocals
  have happ : (headSpec ws rm).appliesLoose y e.platform (U.calling g mk a) = true :=
    Spec.appliesLoose_calling (g := g) h hdg hn hkY hinitY
      (X.room_calling (g := g) (R' := (headSpec ws rm).room) hsize hmY hcY hframes (by rw [hlY]; omega) h4 h5) h1
  obtain ⟨mid, hmid⟩ := h.above
  have hfr : (U.setTop g).frames = (.java g :: mid) ++ below := by rw [State.frames_setTop' g h.top, hmid]; rfl
  obtain ⟨o, s₂, hsteps, -, hend, hq⟩ := Steps.callFree hM p X.admits X.cas X.clock (acts := []) hfr happ hPc trivial
  have hq' : vx_Q Qc XC mc ms free a (U.calling g mk a) o s₂ := hq
  rw [State.frames_setTop' g h.top] at hend
  obtain ⟨g₀, hg0⟩ := Option.isSome_iff_exists.mp h.top
  obtain ⟨r, hr⟩ := State.topJava?_eq_some.mp hg0
  have hr' : (({ U with heap := s₂.heap, slotsUsed := s₂.slotsUsed } : State).setVm s₂.vm).frames = .java g₀ :: r := hr
  rcases hq' with ⟨hqc, L, hfe, hL⟩ | ⟨q, rfl, E, ce, L, hx, hce, hcv, hcl, hW₂, hsm, hL⟩
  · obtain ⟨⟨v, rfl⟩, hW₂, e2, q2, q3, q4, q5, q6⟩ := id hfe
    have e3 : s₂ = ({ (U.calling g mk a).setFrames s₂.frames with heap := s₂.heap, slotsUsed := s₂.slotsUsed } : State).setVm s₂.vm := by
      have : s₂ = ({ s₂ with vm := (U.calling g mk a).vm } : State).setVm s₂.vm := rfl
      rw [e2] at this
      exact this
    obtain ⟨c₂, i₂, len₂, hc₂, hd₂, hf₂⟩ := hend
    have hW' : U.WarmedH s₂.vm := hW₂
    have hcc : c₂ = c := by
      have h1 : s₂.code? g.method = U.code? g.method := by
        rw [State.code?_eq, State.code?_eq, hW'.alike.method?]
      exact Option.some.inj (hc₂.symm.trans (h1.trans h.code))
    subst hcc
    have hlen : len₂ = len := by rw [hdg] at hd₂; cases hd₂; rfl
    subst hlen
    have hs₂ : s₂ = (({ U with heap := s₂.heap, slotsUsed := s₂.slotsUsed } : State).setVm s₂.vm).setTop { g with pc := g.pc + len₂, stack := v.toList ++ g.stack } := by
      refine e3.trans ?_
      rw [hf₂, State.calling_eq h.top, State.setFrames_setFrames, State.setTop_of_frames _ hr', hr]
      rfl
    have hsame : U.sameButNew ({ U with heap := s₂.heap, slotsUsed := s₂.slotsUsed } : State) L mc ms := by
      refine ⟨?_, q2, q3, q4, q5, q6⟩
      obtain ⟨t, ht, -⟩ := State.frames_cons hr
      show ({ U with heap := s₂.heap, slotsUsed := s₂.slotsUsed } : State) = { U.setFrames U.frames with heap := s₂.heap, slotsUsed := s₂.slotsUsed }
      rw [State.setFrames_self ht]
    subst hg
    refine Or.inl ⟨v, ⟨(({ U with heap := s₂.heap, slotsUsed := s₂.slotsUsed } : State).setVm s₂.vm), Ls ++ L, c0 + mc, s0 + ms⟩,
      ⟨X.admits, X.cas, X.clock, X.frames, X.room, X.hears, X.method, X.code, (X.here.setHeapUsed s₂.heap s₂.slotsUsed).setVm hW'.alike, X.tail, State.WarmedH.trans X.warmed hW', X.limits, X.bytes, X.same.trans (hsame.setVm s.vm)⟩,
      ⟨g, mk, s₂, L, rfl, rfl, hqc, rfl, hL, rfl, rfl⟩, ?_⟩
    show Steps p.tables e below _ ((({ U with heap := s₂.heap, slotsUsed := s₂.slotsUsed } : State).setVm s₂.vm).setTop { g with pc := g.pc + len₂, stack := v.toList ++ g.stack })
    rw [← hs₂]
    exact hsteps
  · obtain ⟨e2, q2, q3, q4, q5, q6⟩ := id hsm
    have e3 : s₂ = ({ (U.calling g mk a).setFrames s₂.frames with heap := s₂.heap, slotsUsed := s₂.slotsUsed } : State).setVm s₂.vm := by
      have : s₂ = ({ s₂ with vm := (U.calling g mk a).vm } : State).setVm s₂.vm := rfl
      rw [e2] at this
      exact this
    have hf₂ : s₂.frames = .throwing q :: .java g :: U.frames.tail := hend
    have hW' : U.WarmedH s₂.vm := hW₂
    have hs₂ : s₂ = ((({ U with heap := s₂.heap, slotsUsed := s₂.slotsUsed } : State).setVm s₂.vm).setTop g).pushFrame (.throwing q) := by
      refine e3.trans ?_
      rw [hf₂, State.calling_eq h.top, State.setFrames_setFrames, State.pushFrame, State.frames_setTop _ hr', State.setTop_of_frames _ hr', State.setFrames_setFrames, hr]
      rfl
    have hsame : U.sameButNew ({ U with heap := s₂.heap, slotsUsed := s₂.slotsUsed } : State) L mc ms := by
      refine ⟨?_, q2, q3, q4, q5, q6⟩
      obtain ⟨t, ht, -⟩ := State.frames_cons hr
      show ({ U with heap := s₂.heap, slotsUsed := s₂.slotsUsed } : State) = { U.setFrames U.frames with heap := s₂.heap, slotsUsed := s₂.slotsUsed }
      rw [State.setFrames_self ht]
    subst hg
    refine Or.inr ⟨q, ⟨(({ U with heap := s₂.heap, slotsUsed := s₂.slotsUsed } : State).setVm s₂.vm), Ls ++ L, c0 + mc, s0 + ms⟩,
      ⟨X.admits, X.cas, X.clock, X.frames, X.room, X.hears, X.method, X.code, (X.here.setHeapUsed s₂.heap s₂.slotsUsed).setVm hW'.alike, X.tail, State.WarmedH.trans X.warmed hW', X.limits, X.bytes, X.same.trans (hsame.setVm s.vm)⟩,
      ⟨g, mk, s₂, L, E, ce, rfl, rfl, hx, hce, hcv, hcl, rfl, hL, rfl, rfl⟩, ?_⟩
    show Steps p.tables e below _ (((({ U with heap := s₂.heap, slotsUsed := s₂.slotsUsed } : State).setVm s₂.vm).setTop g).pushFrame (.throwing q))
    rw [← hs₂]
    exact hsteps
end Payer
section Calls
variable {p : Program} {l : Launch} {e : Env} {R : Room} {s : State} {m : MethodId} {args : Array Value} {below : List Frame} {meth : Method} {c : Code} {T : State} {locs : List Loc} {cells slots : Nat}
theorem vx_callV (X : Stand p l e R s m args below meth c T locs cells slots) (hexec : p.tables.exec = Jvm.exec) {own C : String} {index : Nat} {y : MethodName} {bytes : ByteArray} {maxL : Nat} {ret : Option FieldType}
    (hown : s.vm.findClass own = some m.cls) (hlink : (Cond.methodLink own index y).before args s = true) (hinst : (Cond.instanceMethod y).before args s = true) (hsel : (Cond.selects C y y).before args s = true)
    (hcode : (Cond.code y bytes maxL ret).before args s = true) (hy : y.cls ≠ "java/lang/invoke/MethodHandle" ∧ y.cls ≠ "java/lang/invoke/VarHandle")
    {W9 : Nat} {Pre : Pt → Array Value → Prop} {Post : Pt → Array Value → Option Value → Pt → Prop} {PostX : Pt → Array Value → Addr → Pt → Prop} (hK : vx_Back l R p e below s args y 3 W9 Pre Post PostX)
    {b : Addr} {cellB : Cell} (hcell : T.heap[b]? = some cellB) (hobj : cellB.vm.isStatics = false) (hcls : s.vm.findClass C = some cellB.cls)
    {g : JFrame} (hg : g.method = m) (hsize : g.locals.size = c.maxLocals) {argsL rest : List Value} (hlen : ∀ sig, parseMethodDescriptor y.desc = some sig → argsL.length = sig.parameters.length)
    (hstack : g.stack = argsL.reverse ++ .ref b :: rest) (hW : 2 * g.monitorRoom + (rest.map fun v => v.category).sum ≤ W9) (hdg : decode c.code g.pc = .ok (.invokevirtual index, 3))
    (hpre : ∀ vm₁, s.WarmedH vm₁ → Pre ⟨T.setVm vm₁, locs, cells, slots⟩ (Value.ref b :: argsL).toArray) :
    (∃ (v : Option Value) (vm₁ : Vm) (B : Pt), s.WarmedH vm₁ ∧ Stand p l e R s m args below meth c B.U B.locs B.cells B.slots ∧ Post ⟨T.setVm vm₁, locs, cells, slots⟩ (Value.ref b :: argsL).toArray v B ∧
      ∀ target, Steps p.tables e below (B.U.setTop { g with pc := g.pc + 3, stack := v.toList ++ rest }) target → Steps p.tables e below (T.setTop g) target) ∨
    (∃ (q : Addr) (vm₁ : Vm) (B : Pt), s.WarmedH vm₁ ∧ Stand p l e R s m args below meth c B.U B.locs B.cells B.slots ∧ PostX ⟨T.setVm vm₁, locs, cells, slots⟩ (Value.ref b :: argsL).toArray q B ∧
      Steps p.tables e below (T.setTop g) ((B.U.setTop { g with stack := rest }).pushFrame (.throwing q))) := by
  obtain ⟨mk, methM, hnamed, hmethM, hstM, habM⟩ := Cond.instanceMethod_spec hinst
  obtain ⟨methM', cM, hmethM', -, -, -, -, -, -, hsigM⟩ := Cond.code_spec hnamed hcode
  cases hmethM.symm.trans hmethM'
  obtain ⟨c2, r2, m2, q1, q2, q3, q4, kP, hkP, hkPi⟩ := Cond.selects_spec hsel
  cases hcls.symm.trans q1
  cases (State.methodFound?_of_named hnamed hy).symm.trans q2
  cases hnamed.symm.trans q3
  have hselP : selectMethod e.platform s.vm cellB.cls mk = .method mk := by rw [Launch.admits_selectMethod X.admits]; exact q4
  obtain ⟨vm₁, X₁, hstep₁⟩ := X.invokevirtual hexec hown hlink hnamed hmethM hstM hkP hkPi hy (a := b) (cell := cellB) hcell
    (fun z h => by rw [h] at hobj; cases hobj) hselP hmethM habM hkP hkPi (g := g) hg (argsL := argsL) (rest := rest) (hlen _ hsigM) hstack hdg
  rcases hK m meth c ⟨T.setVm vm₁, locs, cells, slots⟩ { g with stack := rest } (.invokevirtual index) mk (Value.ref b :: argsL).toArray X₁ hg hsize hdg hW (X₁.named hnamed) (hpre vm₁ X₁.warmed) with ⟨v, B, X', hpost, hsteps⟩ | ⟨q, B, X', hpost, hsteps⟩
  · exact Or.inl ⟨v, vm₁, B, X₁.warmed, X', hpost, fun target h => hstep₁ _ fun acts => by rw [doInvoke_state]; exact hsteps.trans h⟩
  · exact Or.inr ⟨q, vm₁, B, X₁.warmed, X', hpost, hstep₁ _ fun acts => by rw [doInvoke_state]; exact hsteps⟩
theorem vx_callS (X : Stand p l e R s m args below meth c T locs cells slots) (hexec : p.tables.exec = Jvm.exec) {own : String} {index : Nat} {y : MethodName} {bytes : ByteArray} {maxL : Nat} {ret : Option FieldType}
    (hown : s.vm.findClass own = some m.cls) (hlink : (Cond.methodLink own index y).before args s = true) (hstat : (Cond.static y).before args s = true) (hinit : (Cond.initialized y.cls).before args s = true)
    (hcode : (Cond.code y bytes maxL ret).before args s = true) (hy : y.cls ≠ "java/lang/invoke/MethodHandle" ∧ y.cls ≠ "java/lang/invoke/VarHandle")
    {W9 : Nat} {Pre : Pt → Array Value → Prop} {Post : Pt → Array Value → Option Value → Pt → Prop} {PostX : Pt → Array Value → Addr → Pt → Prop} (hK : vx_Back l R p e below s args y 3 W9 Pre Post PostX)
    {g : JFrame} (hg : g.method = m) (hsize : g.locals.size = c.maxLocals) {argsL rest : List Value} (hlen : ∀ sig, parseMethodDescriptor y.desc = some sig → argsL.length = sig.parameters.length)
    (hstack : g.stack = argsL.reverse ++ rest) (hW : 2 * g.monitorRoom + (rest.map fun v => v.category).sum ≤ W9) (hdg : decode c.code g.pc = .ok (.invokestatic index, 3))
    (hpre : ∀ vm₁, s.WarmedH vm₁ → Pre ⟨T.setVm vm₁, locs, cells, slots⟩ argsL.toArray) :
    (∃ (v : Option Value) (vm₁ : Vm) (B : Pt), s.WarmedH vm₁ ∧ Stand p l e R s m args below meth c B.U B.locs B.cells B.slots ∧ Post ⟨T.setVm vm₁, locs, cells, slots⟩ argsL.toArray v B ∧
      ∀ target, Steps p.tables e below (B.U.setTop { g with pc := g.pc + 3, stack := v.toList ++ rest }) target → Steps p.tables e below (T.setTop g) target) ∨
    (∃ (q : Addr) (vm₁ : Vm) (B : Pt), s.WarmedH vm₁ ∧ Stand p l e R s m args below meth c B.U B.locs B.cells B.slots ∧ PostX ⟨T.setVm vm₁, locs, cells, slots⟩ argsL.toArray q B ∧
      Steps p.tables e below (T.setTop g) ((B.U.setTop { g with stack := rest }).pushFrame (.throwing q))) := by
  obtain ⟨mk, hnamed⟩ := Cond.code_named hcode
  obtain ⟨methM, cM, hmethM, -, -, -, -, -, -, hsigM⟩ := Cond.code_spec hnamed hcode
  have hstatic : methM.isStatic = true := Cond.static_spec hnamed hmethM hstat
  obtain ⟨kP, hkP, -⟩ := className_of_methodNamed hnamed
  have hinitP : kP.init = .initialized := Cond.initialized_spec (findClass_of_methodNamed hnamed) hkP hinit
  obtain ⟨vm₁, X₁, hstep₁⟩ := X.invokestatic hexec hown hlink hnamed hmethM hstatic hkP hinitP hy (g := g) hg (argsL := argsL) (rest := rest) (hlen _ hsigM) hstack hdg
  rcases hK m meth c ⟨T.setVm vm₁, locs, cells, slots⟩ { g with stack := rest } (.invokestatic index) mk argsL.toArray X₁ hg hsize hdg hW (X₁.named hnamed) (hpre vm₁ X₁.warmed) with ⟨v, B, X', hpost, hsteps⟩ | ⟨q, B, X', hpost, hsteps⟩
  · exact Or.inl ⟨v, vm₁, B, X₁.warmed, X', hpost, fun target h => hstep₁ _ fun acts => by rw [doInvoke_state]; exact hsteps.trans h⟩
  · exact Or.inr ⟨q, vm₁, B, X₁.warmed, X', hpost, hstep₁ _ fun acts => by rw [doInvoke_state]; exact hsteps⟩
end Calls
theorem vx_cls {s : State} {T : State} {vm₁ : Vm} {E : String} {k : ClassId} (hW : s.WarmedH vm₁) (h : (T.setVm vm₁).vm.findClass E = some k) : s.vm.findClass E = some k := by
  have h1 : vm₁.findClass E = some k := h
  rw [hW.alike.findClass] at h1
  exact h1
/-- the method's frame g, with q thrown over it -/
def vx_W (p : Program) (l : Launch) (e : Env) (R : Room) (s : State) (m : MethodId) (args : Array Value) (below : List Frame) (meth : Method) (c : Code) (H : Heap) (locs : List Loc) (cells slots : Nat) (Q : State → Prop) (g : JFrame) (q : Addr) : Prop :=
  ∀ T : State, T.heap = H → Stand p l e R s m args below meth c T locs cells slots → ∃ t, Steps p.tables e below ((T.setTop g).pushFrame (.throwing q)) t ∧ Q t
def vx_Run (p : Program) (l : Launch) (e : Env) (R : Room) (s : State) (m : MethodId) (args : Array Value) (below : List Frame) (meth : Method) (c : Code) (H : Heap) (locs : List Loc) (cells slots mc ms : Nat) (g : JFrame) (rest : List Value) (Qa : State → Outcome → State → Prop) (XC : String → State → State → Prop) (free : Addr → Prop) : Prop :=
  ∀ T : State, T.heap = H → Stand p l e R s m args below meth c T locs cells slots →
    (∃ (v : Option Value) (st₀ t T' : State) (L : List Loc), st₀.heap = H ∧ Stand p l e R s m args below meth c T' (locs ++ L) (cells + mc) (slots + ms) ∧ (∀ q ∈ L, free q.base) ∧ T'.heap = t.heap ∧ T'.vm = t.vm ∧ Qa st₀ (.returned v) t ∧
      Goes p e below T g T' { g with pc := g.pc + 3, stack := v.toList ++ rest }) ∨
    (∃ (q : Addr) (st₀ t T' : State) (L : List Loc) (E : String) (ce : Cell), st₀.heap = H ∧ Stand p l e R s m args below meth c T' (locs ++ L) (cells + mc) (slots + ms) ∧ (∀ z ∈ L, free z.base) ∧ T'.heap = t.heap ∧ T'.vm = t.vm ∧ XC E st₀ t ∧ t.heap[q]? = some ce ∧ ce.vm = .none ∧ s.vm.findClass E = some ce.cls ∧
      Steps p.tables e below (T.setTop g) ((T'.setTop { g with stack := rest }).pushFrame (.throwing q)))
def vx_X {S : Type} (px : S → Prop) (B : String → S → State → Prop) (A : Nat → Prop) : String → State → State → Prop := fun E st t => ∃ u : S, px u ∧ B E u t ∧ va_F A st t
section Runs
variable {p : Program} {l : Launch} {e : Env} {R : Room} {s : State} {m : MethodId} {args : Array Value} {below : List Frame} {meth : Method} {c : Code} {H : Heap} {locs : List Loc} {cells slots : Nat}
variable {y : MethodName} {bytes cc : ByteArray} {maxL nL mc ms n index : Nat} {ret : Option FieldType} {ws : List Cond} {rm : Room} {Pc : Array Value → State → Prop} {Qc : Array Value → State → Outcome → State → Prop} {XC : String → State → State → Prop} {free : Addr → Prop} {Ts : List Cond} {own C : String} {b : Addr} {As rest : List Value} {g : JFrame}
theorem vx_callBack (cb : CallB R s args own index y bytes maxL ret ws rm mc ms n) (hM : vx_Met l y ws rm Pc Qc XC mc ms free) (hbl : FrameBlind Pc) : vx_Back l R p e below s args y 3 8 (PreOf R mc ms Pc) (PostOf Qc mc ms free) (vx_Post XC mc ms free) := by
  obtain ⟨hrc, hrs, hfr, hlo, hws, hcw, -, hini, -⟩ := cb
  exact vx_back (bytes := bytes) (maxL := maxL) (ret := ret) hM hbl hrc hrs hfr hlo hws hcw (fun a' U hW => word_at hW (Or.inl (by first | rfl | simp [Cond.onTables, Cond.keeps, Cond.steady])) hini)
theorem vx_runV (S : CallFix p m c cc nL s args Ts own) (hM : vx_Met l y ws rm Pc Qc XC mc ms free) (cw : CallW R s args own C index y bytes maxL ret ws rm mc ms n) (hp : PreV s H C b Pc As)
    (hg : g.method = m) (hn : As.length = n) (hsize : g.locals.size = nL) (hstack : g.stack = As.reverse ++ .ref b :: rest) (hW : 2 * g.monitorRoom + (rest.map fun v => v.category).sum ≤ 8) (hdg : decode cc g.pc = .ok (.invokevirtual index, 3)) (hf : cells + mc ≤ R.cells ∧ slots + ms ≤ R.slots) :
    vx_Run p l e R s m args below meth c H locs cells slots mc ms g rest (Qc (Value.ref b :: As).toArray) XC free := by
  have hK : vx_Back l R p e below s args y 3 8 (PreOf R mc ms Pc) (PostOf Qc mc ms free) (vx_Post XC mc ms free) := vx_callBack cw.1 hM hp.1
  obtain ⟨⟨-, -, -, -, -, -, hcode, -, hy, hlen, hl⟩, hin, hse⟩ := cw
  obtain ⟨hx, hb, hml, ho, -⟩ := S
  obtain ⟨-, ⟨cellB, hcB, hoB, hclB⟩, hPc⟩ := hp
  intro T hT X
  rcases vx_callV X hx (C := C) (bytes := bytes) (maxL := maxL) (ret := ret) ho hl hin hse hcode hy hK (by rw [hT]; exact hcB) hoB hclB hg (hsize.trans hml.symm) (argsL := As) (rest := rest) (fun sig h => hn.trans (hlen sig h)) hstack hW (by rw [hb]; exact hdg)
    (fun vm₁ hW₁ => ⟨hf.1, hf.2, hPc (T.setVm vm₁) hT hW₁⟩) with ⟨v, vm₁, ⟨U', l2, c2, s2⟩, hW₁, X', ⟨g', mk, t, L, e1, e2, hq, h1, hL, h2, h3⟩, st⟩ | ⟨q, vm₁, ⟨U', l2, c2, s2⟩, hW₁, X', ⟨g', mk, t, L, E, ce, e1, e2, hq, hce, hcv, hcl, h1, hL, h2, h3⟩, st⟩
  · dsimp only [Pt.U, Pt.locs, Pt.cells, Pt.slots] at X' e1 e2 h1 h2 h3 st
    subst h1; subst h2; subst h3
    exact Or.inl ⟨v, (T.setVm vm₁).calling g' mk (Value.ref b :: As).toArray, t, U', L, hT, X', hL, e1, e2, hq, st⟩
  · dsimp only [Pt.U, Pt.locs, Pt.cells, Pt.slots] at X' e1 e2 h1 h2 h3 st hcl
    subst h1; subst h2; subst h3
    exact Or.inr ⟨q, (T.setVm vm₁).calling g' mk (Value.ref b :: As).toArray, t, U', L, E, ce, hT, X', hL, e1, e2, hq, hce, hcv, vx_cls hW₁ hcl, st⟩
theorem vx_runS (S : CallFix p m c cc nL s args Ts own) (hM : vx_Met l y ws rm Pc Qc XC mc ms free) (cw : CallB R s args own index y bytes maxL ret ws rm mc ms n ∧ (Cond.static y).before args s = true) (hp : PreS s H Pc As)
    (hg : g.method = m) (hn : As.length = n) (hsize : g.locals.size = nL) (hstack : g.stack = As.reverse ++ rest) (hW : 2 * g.monitorRoom + (rest.map fun v => v.category).sum ≤ 8) (hdg : decode cc g.pc = .ok (.invokestatic index, 3)) (hf : cells + mc ≤ R.cells ∧ slots + ms ≤ R.slots) :
    vx_Run p l e R s m args below meth c H locs cells slots mc ms g rest (Qc As.toArray) XC free := by
  have hK : vx_Back l R p e below s args y 3 8 (PreOf R mc ms Pc) (PostOf Qc mc ms free) (vx_Post XC mc ms free) := vx_callBack cw.1 hM hp.1
  obtain ⟨⟨-, -, -, -, -, -, hcode, hini, hy, hlen, hl⟩, hstt⟩ := cw
  obtain ⟨hx, hb, hml, ho, -⟩ := S
  intro T hT X
  rcases vx_callS X hx (bytes := bytes) (maxL := maxL) (ret := ret) ho hl hstt hini hcode hy hK hg (hsize.trans hml.symm) (argsL := As) (rest := rest) (fun sig h => hn.trans (hlen sig h)) hstack hW (by rw [hb]; exact hdg)
    (fun vm₁ hW₁ => ⟨hf.1, hf.2, hp.2 (T.setVm vm₁) hT hW₁⟩) with ⟨v, vm₁, ⟨U', l2, c2, s2⟩, hW₁, X', ⟨g', mk, t, L, e1, e2, hq, h1, hL, h2, h3⟩, st⟩ | ⟨q, vm₁, ⟨U', l2, c2, s2⟩, hW₁, X', ⟨g', mk, t, L, E, ce, e1, e2, hq, hce, hcv, hcl, h1, hL, h2, h3⟩, st⟩
  · dsimp only [Pt.U, Pt.locs, Pt.cells, Pt.slots] at X' e1 e2 h1 h2 h3 st
    subst h1; subst h2; subst h3
    exact Or.inl ⟨v, (T.setVm vm₁).calling g' mk As.toArray, t, U', L, hT, X', hL, e1, e2, hq, st⟩
  · dsimp only [Pt.U, Pt.locs, Pt.cells, Pt.slots] at X' e1 e2 h1 h2 h3 st hcl
    subst h1; subst h2; subst h3
    exact Or.inr ⟨q, (T.setVm vm₁).calling g' mk As.toArray, t, U', L, E, ce, hT, X', hL, e1, e2, hq, hce, hcv, vx_cls hW₁ hcl, st⟩
end Runs
section Rows
variable {p : Program} {l : Launch} {e : Env} {R : Room} {s : State} {m : MethodId} {args : Array Value} {below : List Frame} {meth : Method} {c : Code} {H : Heap} {locs : List Loc} {cells slots : Nat} {Q : State → Prop}
variable {mc ms : Nat} {free : Addr → Prop} {A0 A1 : Nat → Prop} {H0 : Heap} {a : Array Value} {pc : Nat} {ls : Array Slot} {st0 rest : List Value}
theorem vx_keep {st₀ t T' : State} {L : List Loc} (h0 : st₀.heap = H) (e1 : T'.heap = t.heap) (hS : va_S A0 H0 H locs) (hA : ∀ q, q < H.size → A1 q → A0 q) (hf : ∀ q, free q → A0 q) (hL : ∀ q ∈ L, free q.base) (hF : va_F A1 st₀ t) :
    H.size ≤ T'.heap.size ∧ (∀ q : Nat, q < H.size → ¬ A1 q → T'.heap[q]? = H[q]?) ∧ va_S A0 H0 T'.heap (locs ++ L) := by
  obtain ⟨hz, hk⟩ := hF
  rw [h0] at hz hk
  exact ⟨by rw [e1]; exact hz, fun q h1 h2 => by rw [e1]; exact hk q h1 h2,
    ⟨Nat.le_trans hS.1 (by rw [e1]; exact hz), fun q h1 h2 => by rw [e1, hk q (Nat.lt_of_lt_of_le h1 hS.1) (fun z => h2 (hA q (Nat.lt_of_lt_of_le h1 hS.1) z))]; exact hS.2.1 q h1 h2, fun q hq => by
      rcases List.mem_append.mp hq with h | h
      · exact hS.2.2 q h
      · exact hf _ (hL q h)⟩⟩
theorem vx_calli {S SX : Type} {post : Int32 → S → Prop} {px : SX → Prop} {B : S → State → Prop} {BX : String → SX → State → Prop} {AX : Nat → Prop} (hr : vx_Run p l e R s m args below meth c H locs cells slots mc ms (F0 m pc ls st0) rest (va_Qi post B A1 a) (vx_X px BX AX) free) (hS : va_S A0 H0 H locs) (hA : ∀ q, q < H.size → A1 q → A0 q) (hf : ∀ q, free q → A0 q) (hAX : ∀ q, q < H.size → AX q → A0 q)
    (kx : ∀ (E : String) (ce : Cell) (q9 : Addr) (u : SX) (t : State) (H1 : Heap) (locs1 : List Loc), t.heap = H1 → s.vm.Alike t.vm → px u → BX E u t → H.size ≤ H1.size → (∀ q : Nat, q < H.size → ¬ AX q → H1[q]? = H[q]?) → va_S A0 H0 H1 locs1 → H1[q9]? = some ce → ce.vm = .none → s.vm.findClass E = some ce.cls → vx_W p l e R s m args below meth c H1 locs1 (cells + mc) (slots + ms) Q (F0 m pc ls rest) q9)
    (kk : ∀ (r : Int32) (u : S) (t : State) (H1 : Heap) (locs1 : List Loc), t.heap = H1 → s.vm.Alike t.vm → post r u → B u t → H.size ≤ H1.size → (∀ q : Nat, q < H.size → ¬ A1 q → H1[q]? = H[q]?) → va_S A0 H0 H1 locs1 → W p l e R s m args below meth c H1 locs1 (cells + mc) (slots + ms) Q (F0 m (pc + 3) ls (.int r :: rest))) : W p l e R s m args below meth c H locs cells slots Q (F0 m pc ls st0) := by
  intro T hT X
  rcases hr T hT X with ⟨v, st₀, t, T', L, h0, X', hL, e1, e2, ⟨⟨r, u, hv, hp, hb⟩, hF⟩, st⟩ | ⟨q, st₀, t, T', L, E, ce, h0, X', hL, e1, e2, ⟨u, hp, hb, hF⟩, hce, hcv, hcl, st⟩
  · cases hv
    obtain ⟨k1, k2, k3⟩ := vx_keep h0 e1 hS hA hf hL hF
    obtain ⟨t2, a1, b1⟩ := kk r u t T'.heap (locs ++ L) e1.symm (by rw [← e2]; exact X'.warmed.alike) hp hb k1 k2 k3 T' rfl X'
    exact ⟨t2, st t2 a1, b1⟩
  · obtain ⟨k1, k2, k3⟩ := vx_keep h0 e1 hS hAX hf hL hF
    obtain ⟨t2, a1, b1⟩ := kx E ce q u t T'.heap (locs ++ L) e1.symm (by rw [← e2]; exact X'.warmed.alike) hp hb k1 k2 k3 (by rw [e1]; exact hce) hcv hcl T' rfl X'
    exact ⟨t2, st.trans a1, b1⟩
theorem vx_calll {S SX : Type} {post : Int64 → S → Prop} {px : SX → Prop} {B : S → State → Prop} {BX : String → SX → State → Prop} {AX : Nat → Prop} (hr : vx_Run p l e R s m args below meth c H locs cells slots mc ms (F0 m pc ls st0) rest (va_Ql post B A1 a) (vx_X px BX AX) free) (hS : va_S A0 H0 H locs) (hA : ∀ q, q < H.size → A1 q → A0 q) (hf : ∀ q, free q → A0 q) (hAX : ∀ q, q < H.size → AX q → A0 q)
    (kx : ∀ (E : String) (ce : Cell) (q9 : Addr) (u : SX) (t : State) (H1 : Heap) (locs1 : List Loc), t.heap = H1 → s.vm.Alike t.vm → px u → BX E u t → H.size ≤ H1.size → (∀ q : Nat, q < H.size → ¬ AX q → H1[q]? = H[q]?) → va_S A0 H0 H1 locs1 → H1[q9]? = some ce → ce.vm = .none → s.vm.findClass E = some ce.cls → vx_W p l e R s m args below meth c H1 locs1 (cells + mc) (slots + ms) Q (F0 m pc ls rest) q9)
    (kk : ∀ (r : Int64) (u : S) (t : State) (H1 : Heap) (locs1 : List Loc), t.heap = H1 → s.vm.Alike t.vm → post r u → B u t → H.size ≤ H1.size → (∀ q : Nat, q < H.size → ¬ A1 q → H1[q]? = H[q]?) → va_S A0 H0 H1 locs1 → W p l e R s m args below meth c H1 locs1 (cells + mc) (slots + ms) Q (F0 m (pc + 3) ls (.long r :: rest))) : W p l e R s m args below meth c H locs cells slots Q (F0 m pc ls st0) := by
  intro T hT X
  rcases hr T hT X with ⟨v, st₀, t, T', L, h0, X', hL, e1, e2, ⟨⟨r, u, hv, hp, hb⟩, hF⟩, st⟩ | ⟨q, st₀, t, T', L, E, ce, h0, X', hL, e1, e2, ⟨u, hp, hb, hF⟩, hce, hcv, hcl, st⟩
  · cases hv
    obtain ⟨k1, k2, k3⟩ := vx_keep h0 e1 hS hA hf hL hF
    obtain ⟨t2, a1, b1⟩ := kk r u t T'.heap (locs ++ L) e1.symm (by rw [← e2]; exact X'.warmed.alike) hp hb k1 k2 k3 T' rfl X'
    exact ⟨t2, st t2 a1, b1⟩
  · obtain ⟨k1, k2, k3⟩ := vx_keep h0 e1 hS hAX hf hL hF
    obtain ⟨t2, a1, b1⟩ := kx E ce q u t T'.heap (locs ++ L) e1.symm (by rw [← e2]; exact X'.warmed.alike) hp hb k1 k2 k3 (by rw [e1]; exact hce) hcv hcl T' rfl X'
    exact ⟨t2, st.trans a1, b1⟩
theorem vx_callf {S SX : Type} {post : UInt32 → S → Prop} {px : SX → Prop} {B : S → State → Prop} {BX : String → SX → State → Prop} {AX : Nat → Prop} (hr : vx_Run p l e R s m args below meth c H locs cells slots mc ms (F0 m pc ls st0) rest (va_Qf post B A1 a) (vx_X px BX AX) free) (hS : va_S A0 H0 H locs) (hA : ∀ q, q < H.size → A1 q → A0 q) (hf : ∀ q, free q → A0 q) (hAX : ∀ q, q < H.size → AX q → A0 q)
    (kx : ∀ (E : String) (ce : Cell) (q9 : Addr) (u : SX) (t : State) (H1 : Heap) (locs1 : List Loc), t.heap = H1 → s.vm.Alike t.vm → px u → BX E u t → H.size ≤ H1.size → (∀ q : Nat, q < H.size → ¬ AX q → H1[q]? = H[q]?) → va_S A0 H0 H1 locs1 → H1[q9]? = some ce → ce.vm = .none → s.vm.findClass E = some ce.cls → vx_W p l e R s m args below meth c H1 locs1 (cells + mc) (slots + ms) Q (F0 m pc ls rest) q9)
    (kk : ∀ (r : UInt32) (u : S) (t : State) (H1 : Heap) (locs1 : List Loc), t.heap = H1 → s.vm.Alike t.vm → post r u → B u t → H.size ≤ H1.size → (∀ q : Nat, q < H.size → ¬ A1 q → H1[q]? = H[q]?) → va_S A0 H0 H1 locs1 → W p l e R s m args below meth c H1 locs1 (cells + mc) (slots + ms) Q (F0 m (pc + 3) ls (.float r :: rest))) : W p l e R s m args below meth c H locs cells slots Q (F0 m pc ls st0) := by
  intro T hT X
  rcases hr T hT X with ⟨v, st₀, t, T', L, h0, X', hL, e1, e2, ⟨⟨r, u, hv, hp, hb⟩, hF⟩, st⟩ | ⟨q, st₀, t, T', L, E, ce, h0, X', hL, e1, e2, ⟨u, hp, hb, hF⟩, hce, hcv, hcl, st⟩
  · cases hv
    obtain ⟨k1, k2, k3⟩ := vx_keep h0 e1 hS hA hf hL hF
    obtain ⟨t2, a1, b1⟩ := kk r u t T'.heap (locs ++ L) e1.symm (by rw [← e2]; exact X'.warmed.alike) hp hb k1 k2 k3 T' rfl X'
    exact ⟨t2, st t2 a1, b1⟩
  · obtain ⟨k1, k2, k3⟩ := vx_keep h0 e1 hS hAX hf hL hF
    obtain ⟨t2, a1, b1⟩ := kx E ce q u t T'.heap (locs ++ L) e1.symm (by rw [← e2]; exact X'.warmed.alike) hp hb k1 k2 k3 (by rw [e1]; exact hce) hcv hcl T' rfl X'
    exact ⟨t2, st.trans a1, b1⟩
theorem vx_calld {S SX : Type} {post : UInt64 → S → Prop} {px : SX → Prop} {B : S → State → Prop} {BX : String → SX → State → Prop} {AX : Nat → Prop} (hr : vx_Run p l e R s m args below meth c H locs cells slots mc ms (F0 m pc ls st0) rest (va_Qd post B A1 a) (vx_X px BX AX) free) (hS : va_S A0 H0 H locs) (hA : ∀ q, q < H.size → A1 q → A0 q) (hf : ∀ q, free q → A0 q) (hAX : ∀ q, q < H.size → AX q → A0 q)
    (kx : ∀ (E : String) (ce : Cell) (q9 : Addr) (u : SX) (t : State) (H1 : Heap) (locs1 : List Loc), t.heap = H1 → s.vm.Alike t.vm → px u → BX E u t → H.size ≤ H1.size → (∀ q : Nat, q < H.size → ¬ AX q → H1[q]? = H[q]?) → va_S A0 H0 H1 locs1 → H1[q9]? = some ce → ce.vm = .none → s.vm.findClass E = some ce.cls → vx_W p l e R s m args below meth c H1 locs1 (cells + mc) (slots + ms) Q (F0 m pc ls rest) q9)
    (kk : ∀ (r : UInt64) (u : S) (t : State) (H1 : Heap) (locs1 : List Loc), t.heap = H1 → s.vm.Alike t.vm → post r u → B u t → H.size ≤ H1.size → (∀ q : Nat, q < H.size → ¬ A1 q → H1[q]? = H[q]?) → va_S A0 H0 H1 locs1 → W p l e R s m args below meth c H1 locs1 (cells + mc) (slots + ms) Q (F0 m (pc + 3) ls (.double r :: rest))) : W p l e R s m args below meth c H locs cells slots Q (F0 m pc ls st0) := by
  intro T hT X
  rcases hr T hT X with ⟨v, st₀, t, T', L, h0, X', hL, e1, e2, ⟨⟨r, u, hv, hp, hb⟩, hF⟩, st⟩ | ⟨q, st₀, t, T', L, E, ce, h0, X', hL, e1, e2, ⟨u, hp, hb, hF⟩, hce, hcv, hcl, st⟩
  · cases hv
    obtain ⟨k1, k2, k3⟩ := vx_keep h0 e1 hS hA hf hL hF
    obtain ⟨t2, a1, b1⟩ := kk r u t T'.heap (locs ++ L) e1.symm (by rw [← e2]; exact X'.warmed.alike) hp hb k1 k2 k3 T' rfl X'
    exact ⟨t2, st t2 a1, b1⟩
  · obtain ⟨k1, k2, k3⟩ := vx_keep h0 e1 hS hAX hf hL hF
    obtain ⟨t2, a1, b1⟩ := kx E ce q u t T'.heap (locs ++ L) e1.symm (by rw [← e2]; exact X'.warmed.alike) hp hb k1 k2 k3 (by rw [e1]; exact hce) hcv hcl T' rfl X'
    exact ⟨t2, st.trans a1, b1⟩
theorem vx_callv {S SX : Type} {post : S → Prop} {px : SX → Prop} {B : S → State → Prop} {BX : String → SX → State → Prop} {AX : Nat → Prop} (hr : vx_Run p l e R s m args below meth c H locs cells slots mc ms (F0 m pc ls st0) rest (va_Qv post B A1 a) (vx_X px BX AX) free) (hS : va_S A0 H0 H locs) (hA : ∀ q, q < H.size → A1 q → A0 q) (hf : ∀ q, free q → A0 q) (hAX : ∀ q, q < H.size → AX q → A0 q)
    (kx : ∀ (E : String) (ce : Cell) (q9 : Addr) (u : SX) (t : State) (H1 : Heap) (locs1 : List Loc), t.heap = H1 → s.vm.Alike t.vm → px u → BX E u t → H.size ≤ H1.size → (∀ q : Nat, q < H.size → ¬ AX q → H1[q]? = H[q]?) → va_S A0 H0 H1 locs1 → H1[q9]? = some ce → ce.vm = .none → s.vm.findClass E = some ce.cls → vx_W p l e R s m args below meth c H1 locs1 (cells + mc) (slots + ms) Q (F0 m pc ls rest) q9)
    (kk : ∀ (u : S) (t : State) (H1 : Heap) (locs1 : List Loc), t.heap = H1 → s.vm.Alike t.vm → post u → B u t → H.size ≤ H1.size → (∀ q : Nat, q < H.size → ¬ A1 q → H1[q]? = H[q]?) → va_S A0 H0 H1 locs1 → W p l e R s m args below meth c H1 locs1 (cells + mc) (slots + ms) Q (F0 m (pc + 3) ls (rest))) : W p l e R s m args below meth c H locs cells slots Q (F0 m pc ls st0) := by
  intro T hT X
  rcases hr T hT X with ⟨v, st₀, t, T', L, h0, X', hL, e1, e2, ⟨⟨u, hv, hp, hb⟩, hF⟩, st⟩ | ⟨q, st₀, t, T', L, E, ce, h0, X', hL, e1, e2, ⟨u, hp, hb, hF⟩, hce, hcv, hcl, st⟩
  · cases hv
    obtain ⟨k1, k2, k3⟩ := vx_keep h0 e1 hS hA hf hL hF
    obtain ⟨t2, a1, b1⟩ := kk u t T'.heap (locs ++ L) e1.symm (by rw [← e2]; exact X'.warmed.alike) hp hb k1 k2 k3 T' rfl X'
    exact ⟨t2, st t2 a1, b1⟩
  · obtain ⟨k1, k2, k3⟩ := vx_keep h0 e1 hS hAX hf hL hF
    obtain ⟨t2, a1, b1⟩ := kx E ce q u t T'.heap (locs ++ L) e1.symm (by rw [← e2]; exact X'.warmed.alike) hp hb k1 k2 k3 (by rw [e1]; exact hce) hcv hcl T' rfl X'
    exact ⟨t2, st.trans a1, b1⟩
/-- caught by the row x of this method's table; the rows ahead don't take it -/
theorem vx_catch {own name : String} {E : String} {ce : Cell} {q : Addr} (hown : s.vm.findClass own = some m.cls) (pre : List ExceptionTableEntry) (x : ExceptionTableEntry) (suf : List ExceptionTableEntry) (hsplit : c.exceptionTable.toList = pre ++ x :: suf)
    (hpass : ∀ z ∈ pre, covers z pc = false ∨ (z.catchType ≠ 0 ∧ ∃ nm : String, (Cond.classLink own z.catchType nm).before args s = true ∧ va_Nc E nm s)) (hx : covers x pc = true) (h0 : x.catchType ≠ 0)
    (hlink : (Cond.classLink own x.catchType name).before args s = true) (hcast : (Cond.castable E name).before args s = true) (hcell : H[q]? = some ce) (hv : ce.vm = .none) (hcl : s.vm.findClass E = some ce.cls)
    (kk : W p l e R s m args below meth c H locs cells slots Q (F0 m x.handlerPc ls [.ref q])) : vx_W p l e R s m args below meth c H locs cells slots Q (F0 m pc ls rest) q := by
  intro T hT X
  have hpl : e.platform.magicAccessors = ({} : Platform).magicAccessors := by rw [X.admits.platform]
  obtain ⟨c3, c4, hc3, hc4, hasg⟩ := Cond.castable_spec hcast
  cases Option.some.inj (hc3.symm.trans hcl)
  obtain ⟨c5, hc5, hcl5⟩ := Cond.classLink_spec hown hlink e.platform hpl
  cases Option.some.inj (hc4.symm.trans hc5)
  obtain ⟨vm', X', st⟩ := X.thenCaughtThrough q (g := F0 m pc ls rest) rfl (Steps.refl _) (by rw [hT]; exact hcell) (by rw [hv]; rfl) (by obtain ⟨k9, h9, -⟩ := Vm.findClass_spec hcl; exact ⟨k9, h9⟩) pre x suf hsplit
    (fun z hz => by
      rcases hpass z hz with h | ⟨hz0, nm, hl1, hn1⟩
      · exact Or.inl h
      · obtain ⟨c6, hc6, hcl6⟩ := Cond.classLink_spec hown hl1 e.platform hpl
        obtain ⟨a8, b8, h1, h2, h3⟩ := hn1
        cases Option.some.inj (h1.symm.trans hcl)
        cases Option.some.inj (h2.symm.trans hc6)
        exact Or.inr ⟨hz0, _, hcl6, h3⟩) hx (Or.inr ⟨h0, c4, hcl5, hasg⟩)
  obtain ⟨t, a1, b1⟩ := kk (T.setVm vm') hT X'
  exact ⟨t, st.trans a1, b1⟩
end Rows
section Ends
variable {p : Program} {l : Launch} {e : Env} {R : Room} {s : State} {m : MethodId} {args : Array Value} {below : List Frame} {meth : Method} {c : Code} {H : Heap} {locs : List Loc} {cells slots : Nat} {Q : State → Prop}
variable {mc ms : Nat} {free : Addr → Prop} {A0 A1 : Nat → Prop} {H0 : Heap} {a : Array Value} {ls : Array Slot} {st0 rest : List Value}
variable {Qc : Array Value → State → Outcome → State → Prop} {XC : String → State → State → Prop}
/-- what a body that may throw owes at its end -/
def vx_MQ (below : List Frame) (Qc : Array Value → State → Outcome → State → Prop) (XC : String → State → State → Prop) (a : Array Value) (s : State) (mc ms : Nat) (free : Addr → Prop) : State → Prop := fun t =>
  ∃ o, t.status = .running ∧ Ended t below o ∧ vx_Q Qc XC mc ms free a s o t
theorem vx_ret {g : JFrame} {mc ms : Nat} (k : W p l e R s m args below meth c H locs cells slots (MQ below Qc args s mc ms free) g) : W p l e R s m args below meth c H locs cells slots (vx_MQ below Qc XC args s mc ms free) g := by
  intro T hT X
  obtain ⟨t, a1, o, b1, b2, b3, b4⟩ := k T hT X
  exact ⟨t, a1, o, b1, b2, Or.inl ⟨b3, b4⟩⟩
/-- not caught here: it goes on to the caller -/
theorem vx_widen {g : JFrame} {q : Addr} {k n : Nat} (h1 : cells ≤ k) (h2 : slots ≤ n) (kk : vx_W p l e R s m args below meth c H locs k n Q g q) : vx_W p l e R s m args below meth c H locs cells slots Q g q := fun T hT X => kk T hT (stand_widen X h1 h2)
theorem vx_out {pc : Nat} {E : String} {ce : Cell} {q : Addr} {mc ms : Nat} (hout : ∀ x ∈ c.exceptionTable.toList, covers x pc = false) (hlocks : meth.locks = false) (hcell : H[q]? = some ce) (hv : ce.vm = .none) (hcl : s.vm.findClass E = some ce.cls)
    (hx : ∀ t : State, t.heap = H → s.vm.Alike t.vm → XC E s t) (hf : ∀ z ∈ locs, free z.base) (hc : cells ≤ mc) (hs : slots ≤ ms) :
    vx_W p l e R s m args below meth c H locs cells slots (vx_MQ below Qc XC args s mc ms free) (F0 m pc ls rest) q := by
  intro T hT X
  obtain ⟨st1, hrun, hend, hW, hsm⟩ := X.leaveThrown q (g := F0 m pc ls rest) rfl rfl rfl hout hlocks
  have hcell9 : (T.setFrames (.throwing q :: below)).heap[q]? = some ce := by
    show T.heap[q]? = some ce
    rw [hT]; exact hcell
  exact ⟨_, st1, .threw q, hrun, hend, Or.inr ⟨q, rfl, E, ce, locs, hx _ hT hW.alike, hcell9, hv, hcl, hW, hsm.mono hc hs, hf⟩⟩
theorem vx_frame {U : State} {k n : Nat} (h : s.sameButNew ({ U with vm := s.vm } : State) locs k n) : s.heap.size ≤ U.heap.size ∧ ∀ q : Nat, q < s.heap.size → (∀ z ∈ locs, z.base ≠ q) → U.heap[q]? = s.heap[q]? := by
  obtain ⟨-, h2, -, -, -, h6⟩ := h
  refine ⟨h2, fun q hq hz => ?_⟩
  obtain ⟨c9, e1, e2, e3, e4⟩ := h6 q _ (Array.getElem?_eq_getElem hq)
  have hs : c9.slots = (s.heap[q]).slots := Array.ext_getElem? fun i => e4 i fun hm => hz _ hm rfl
  have h9 : c9 = s.heap[q] := by
    rw [hs] at e2
    exact e2
  have e5 : U.heap[q]? = some c9 := e1
  rw [e5, h9, Array.getElem?_eq_getElem hq]
/-- the words of a throw but the four that speak of the heap -/
def vx_no (w : Cond) : Bool := decide (w ≠ .isRef (.static Bundle.tN "UNASSIGNED_STACK" Bundle.steD)) && decide (w ≠ .isRef (.static Bundle.tN "SUPPRESSED_SENTINEL" Bundle.listD)) && decide (w ≠ .laysStatic Bundle.tN "UNASSIGNED_STACK" Bundle.steD) && decide (w ≠ .laysStatic Bundle.tN "SUPPRESSED_SENTINEL" Bundle.listD)
def vx_at0 (own : String) (ic : Nat) (X : String) (names : List String) : List Cond := (Bundle.ownAtoms0 own ic X names).filter vx_no
def vx_atS (own : String) (ic : Nat) (X : String) (names : List String) : List Cond := (Bundle.ownAtoms own ic X names).filter vx_no
/-- a word that the tables alone decide, or a good one -/
def vx_ot (w : Cond) : Bool := w.onTables || goodWord w
theorem vx_ot_at {args a' : Array Value} {s U : State} {w : Cond} (hW : s.WarmedH U.vm) (hvm : s.vm = U.vm) (hg : vx_ot w = true) (h : w.before args s = true) : w.before a' U = true := by
  simp only [vx_ot, Bool.or_eq_true] at hg
  rcases hg with hg | hg
  · exact va_tabs hg hvm h
  · exact word_at hW (good_of_word hg) h
/-- a list's words: the good ones out of the method's own list, the others by premises of their own -/
theorem vx_hat {args : Array Value} {s : State} {L B : List Cond} (h1 : ∀ w ∈ L.filter goodWord, w.before args s = true) (h2 : ∀ w ∈ L.filter (fun w => !goodWord w), w ∈ B) (h3 : ∀ w ∈ B, w.before args s = true) : ∀ w ∈ L, w.before args s = true := by
  intro w hw
  by_cases g : goodWord w = true
  · exact h1 w (List.mem_filter.mpr ⟨hw, g⟩)
  · refine h3 w (h2 w (List.mem_filter.mpr ⟨hw, ?_⟩))
    show (!goodWord w) = true
    cases hgw : goodWord w
    · rfl
    · exact absurd hgw g
theorem vx_c {args : Array Value} {s : State} {w : Cond} {B : List Cond} (h : w.before args s = true) (t : ∀ w ∈ B, w.before args s = true) : ∀ w' ∈ w :: B, w'.before args s = true := fun w' h' => (List.mem_cons.mp h').elim (fun e => by rw [e]; exact h) (t w')
theorem vx_n {args : Array Value} {s : State} : ∀ w ∈ ([] : List Cond), w.before args s = true := fun _ h => nomatch h
theorem vx_own {args : Array Value} {s : State} {L : List Cond} (h1 : ∀ w ∈ L.filter vx_no, w.before args s = true)
    (hU : (Cond.isRef (.static Bundle.tN "UNASSIGNED_STACK" Bundle.steD)).before args s = true) (hN : (Cond.isRef (.static Bundle.tN "SUPPRESSED_SENTINEL" Bundle.listD)).before args s = true)
    (lU : (Cond.laysStatic Bundle.tN "UNASSIGNED_STACK" Bundle.steD).before args s = true) (lN : (Cond.laysStatic Bundle.tN "SUPPRESSED_SENTINEL" Bundle.listD).before args s = true) : ∀ w ∈ L, w.before args s = true := by
  intro w hw
  by_cases e1 : w = .isRef (.static Bundle.tN "UNASSIGNED_STACK" Bundle.steD)
  · rw [e1]; exact hU
  · by_cases e2 : w = .isRef (.static Bundle.tN "SUPPRESSED_SENTINEL" Bundle.listD)
    · rw [e2]; exact hN
    · by_cases e3 : w = .laysStatic Bundle.tN "UNASSIGNED_STACK" Bundle.steD
      · rw [e3]; exact lU
      · by_cases e4 : w = .laysStatic Bundle.tN "SUPPRESSED_SENTINEL" Bundle.listD
        · rw [e4]; exact lN
        · exact h1 w (List.mem_filter.mpr ⟨hw, by unfold vx_no; rw [decide_eq_true e1, decide_eq_true e2, decide_eq_true e3, decide_eq_true e4]; rfl⟩)
/-- where a static field lies, its class's statics cell in H -/
def vx_L (C n d : String) (A : Nat → Prop) (U : State) (H : Heap) : Prop := ∃ (c : ClassId) (k : Class) (i : Nat) (f : Field) (a : Nat) (cell : Cell), U.vm.findClass C = some c ∧ U.fieldFound? C n d = some (c, k, i, f) ∧ f.isStatic = true ∧ k.statics = some a ∧ H[a]? = some cell ∧ cell.vm.isStatics = true ∧ cell.cls = c ∧ f.slot < cell.slots.size ∧ k.staticTypes[f.slot]? = some f.type ∧ ¬ A a
theorem vx_L.moved {C n d : String} {A : Nat → Prop} {u U : State} {H : Heap} (hvm : u.vm.Alike U.vm) (h : vx_L C n d A u H) : vx_L C n d A U H := by
  obtain ⟨c, k, i, f, a, cell, h1, h2, h3, h4, h5, h6, h7, h8, h9, h10⟩ := h
  obtain ⟨k', hi', he⟩ := State.fieldFound?_setVm hvm h2
  exact ⟨c, k', i, f, a, cell, by rw [hvm.findClass]; exact h1, hi', h3, by rw [he]; exact h4, h5, h6, h7, h8, by rw [he]; exact h9, h10⟩
theorem vx_L.kept {C n d : String} {A : Nat → Prop} {U : State} {H H1 : Heap} (h : vx_L C n d A U H) (hq : ∀ a : Nat, a < H.size → ¬ A a → H1[a]? = H[a]?) : vx_L C n d A U H1 := by
  obtain ⟨c, k, i, f, a, cell, h1, h2, h3, h4, h5, h6, h7, h8, h9, h10⟩ := h
  exact ⟨c, k, i, f, a, cell, h1, h2, h3, h4, by rw [hq a (Array.getElem?_eq_some_iff.mp h5).1 h10]; exact h5, h6, h7, h8, h9, h10⟩
theorem vx_L.narrow {C n d : String} {A B : Nat → Prop} {U : State} {H : Heap} (h : vx_L C n d A U H) (hAB : ∀ q, B q → A q) : vx_L C n d B U H := by
  obtain ⟨c, k, i, f, a, cell, h1, h2, h3, h4, h5, h6, h7, h8, h9, h10⟩ := h
  exact ⟨c, k, i, f, a, cell, h1, h2, h3, h4, h5, h6, h7, h8, h9, fun z => h10 (hAB _ z)⟩
theorem vx_L.word {C n d : String} {A : Nat → Prop} {s : State} {args : Array Value} (h : vx_L C n d A s s.heap) : (Cond.laysStatic C n d).before args s = true := by
  obtain ⟨c, k, i, f, a, cell, h1, h2, h3, h4, h5, h6, h7, h8, h9, -⟩ := h
  show (Cond.laysStatic C n d).holds args s none s [] = true
  exact Cond.laysStatic_of h1 h2 h3 h4 h5 h6 h7 h8 h9
/-- .. and what it holds: null or some reference -/
def vx_Zq (C n d : String) (A : Nat → Prop) (U : State) (H : Heap) : Prop := va_Zq C n d A U H ∧ vx_L C n d A U H
theorem vx_Zq.moved {C n d : String} {A : Nat → Prop} {u U : State} {H : Heap} (hvm : u.vm.Alike U.vm) (h : vx_Zq C n d A u H) : vx_Zq C n d A U H := ⟨va_Zq.moved hvm h.1, vx_L.moved hvm h.2⟩
theorem vx_Zq.kept {C n d : String} {A : Nat → Prop} {U : State} {H H1 : Heap} (h : vx_Zq C n d A U H) (hq : ∀ a : Nat, a < H.size → ¬ A a → H1[a]? = H[a]?) : vx_Zq C n d A U H1 := ⟨va_Zq.kept h.1 hq, vx_L.kept h.2 hq⟩
theorem vx_Zq.narrow {C n d : String} {A B : Nat → Prop} {U : State} {H : Heap} (h : vx_Zq C n d A U H) (hAB : ∀ q, B q → A q) : vx_Zq C n d B U H := ⟨va_Zq.narrow h.1 hAB, vx_L.narrow h.2 hAB⟩
theorem vx_Zqof {args : Array Value} {s : State} {C n d : String} {A : Nat → Prop} (hl : (Cond.laysStatic C n d).before args s = true) (hini : (Cond.initialized C).before args s = true) (h : (Cond.isRef (.static C n d)).before args s = true) (hA : ∀ a : Nat, a < s.heap.size → ¬ A a) : vx_Zq C n d A s s.heap := by
  refine ⟨va_Zqof hl hini h hA, ?_⟩
  obtain ⟨c, k, i, f, a, cell, h1, h2, h3, h4, h5, h6, h7, h8, h9⟩ := Cond.laysStatic_spec hl
  exact ⟨c, k, i, f, a, cell, h1, h2, h3, h4, h5, h6, h7, h8, h9, hA a (Array.getElem?_eq_some_iff.mp h5).1⟩
theorem vx_isRef {C n d : String} {v : Value} {A : Nat → Prop} {s : State} {args : Array Value} (h : va_Z C n d v A s s.heap) (hv : v.isRef = true) : (Cond.isRef (.static C n d)).before args s = true := by
  obtain ⟨cf, kf, fi, f, a, cell, h1, h2, h3, h4, h5, h6, h7, -⟩ := h
  have he : (Term.static C n d).eval args s none [] s = some v := by
    simp [Term.eval, State.fieldNamed?, h1, h2, h4, h5, h6, h7]
  simp only [Cond.before, Cond.holds, Cond.value, he]
  cases v <;> simp_all [Value.isRef]
theorem vx_isRefq {C n d : String} {A : Nat → Prop} {s : State} {args : Array Value} (h : va_Zq C n d A s s.heap) : (Cond.isRef (.static C n d)).before args s = true := by
  rcases h with h | ⟨t, h⟩
  · exact vx_isRef h rfl
  · exact vx_isRef h rfl
/-- the same frame, seen from here: as if the method were called anew in this heap -/
theorem vx_rebase {T : State} (X : Stand p l e R s m args below meth c T locs cells slots) {R' : Room} (hf : R'.frames ≤ R.frames) (hl : R'.locals ≤ R.locals) (hc : cells + R'.cells ≤ R.cells) (hs : slots + R'.slots ≤ R.slots) :
    Stand p l e R' ((T.setVm s.vm).setFrames (.invoking m args :: below)) m args below meth c T [] 0 0 := by
  have htop : (T.setVm s.vm).topJava?.isSome := X.here.top
  have hF : ((T.setVm s.vm).setFrames (.invoking m args :: below)).frames = .invoking m args :: below := State.frames_setFrames _ (State.cur_lt_of_top htop)
  obtain ⟨g₀, hg0⟩ := Option.isSome_iff_exists.mp htop
  obtain ⟨r, hr⟩ := State.topJava?_eq_some.mp hg0
  have hl9 : e.platform.stackLimits (T.setVm s.vm).me = e.platform.stackLimits s.me := X.limits
  have hb9 : (T.setVm s.vm).me.stackBytes = s.me.stackBytes := X.bytes
  refine ⟨X.admits, X.cas, X.clock, hF, ?_, X.hears, X.method, X.code, X.here, X.tail, X.warmed, ?_, ?_, ?_⟩
  · have h := X.room
    have hU : ((T.setVm s.vm).setFrames (.invoking m args :: below)).localsInUse = s.localsInUse := by
      rw [State.localsInUse_invoking hF (meth := meth) (c := c) X.method X.code, State.localsInUse_invoking X.frames X.method X.code]
    simp only [State.hasRoom, Bool.and_eq_true, decide_eq_true_eq] at h ⊢
    obtain ⟨⟨⟨⟨h1, h2, h3, h4, h5, h6⟩, h7⟩, h8⟩, h9⟩ := h
    rw [X.frames, List.length_cons] at h2 h3
    have q1 := X.heapSize
    have q2 := X.used
    simp only [hF, hU, List.length_cons, State.stackLimits_setFrames, State.stackBytes_setFrames, hl9, hb9]
    refine ⟨⟨⟨⟨by omega, by omega, by omega, by omega, by omega, h6⟩, ?_⟩, ?_⟩, X.book⟩
    · show T.heap.size + R'.cells ≤ e.platform.maxCells
      omega
    · show T.slotsUsed + R'.slots ≤ e.platform.maxSlots
      omega
  · rw [State.stackLimits_setFrames]; rfl
  · rw [State.stackBytes_setFrames]; rfl
  · refine ⟨?_, Nat.le_refl _, Nat.le_refl _, ?_, ?_, fun a c9 h9 => ⟨c9, h9, rfl, rfl, fun _ _ => rfl⟩⟩
    · obtain ⟨t, ht, -⟩ := State.frames_cons hr
      show T.setVm s.vm = { ((T.setVm s.vm).setFrames (.invoking m args :: below)).setFrames (T.setVm s.vm).frames with heap := T.heap, slotsUsed := T.slotsUsed }
      rw [State.setFrames_setFrames, State.setFrames_self ht]
      rfl
    · show T.slotsUsed = T.slotsUsed + ((T.heap.toList.drop T.heap.size).map (·.slots.size)).sum
      rw [List.drop_eq_nil_of_le (Nat.le_of_eq Array.length_toList)]
      rfl
    · show ((T.heap.toList.drop T.heap.size).map (·.slots.size)).sum ≤ 0
      rw [List.drop_eq_nil_of_le (Nat.le_of_eq Array.length_toList)]
      exact Nat.le_refl _
/-- 'throw new E()': new; dup; invokespecial; athrow -/
theorem vx_throw0 {cc : ByteArray} {pc : Nat} (hexec : p.tables.exec = Jvm.exec) (hb : c.code = cc) (hl : l.stackTraces = false) {own cls : String} {names : List String} {ik ic mc ms : Nat} {A : Nat → Prop}
    (hown : s.vm.findClass own = some m.cls) (hcls : Bundle.fit cls = true) (hnames : ∀ n ∈ names, Bundle.fit n = true)
    (hk : (Cond.classLink own ik cls).before args s = true) (hini : (Cond.initialized cls).before args s = true) (hat : ∀ w ∈ vx_at0 own ic cls names, w.before args s = true)
    (hgood : ∀ w ∈ Cond.classLink own ik cls :: Cond.initialized cls :: vx_at0 own ic cls names, vx_ot w = true)
    (hU : vx_Zq Bundle.tN "UNASSIGNED_STACK" Bundle.steD A s s.heap) (hN : vx_Zq Bundle.tN "SUPPRESSED_SENTINEL" Bundle.listD A s s.heap) (hS : va_S A s.heap H locs) (hsize : ls.size = c.maxLocals)
    (d0 : decode cc pc = .ok (.new ik, 3)) (d3 : decode cc (pc + 3) = .ok (.dup, 1)) (d4 : decode cc (pc + 4) = .ok (.invokespecial ic, 3)) (d7 : decode cc (pc + 7) = .ok (.athrow, 1))
    (hout : ∀ x ∈ c.exceptionTable.toList, covers x (pc + 7) = false)
    (hRframes : names.length + 3 < R.frames) (hRlocals : (rest.map fun v => v.category).sum + (13 * (names.length + 1) + 42) ≤ R.locals) (hRcells : cells + 1 ≤ R.cells) (hRslots : slots + 6 ≤ R.slots) (hlocks : meth.locks = false)
    (hx : ∀ t : State, s.vm.Alike t.vm → H.size ≤ t.heap.size → (∀ q : Nat, q < H.size → t.heap[q]? = H[q]?) → XC cls s t)
    (hf : ∀ z ∈ locs, free z.base) (hc : cells + 1 ≤ mc) (hs : slots + 6 ≤ ms) :
    W p l e R s m args below meth c H locs cells slots (vx_MQ below Qc XC args s mc ms free) (F0 m pc ls rest) := by
  intro T hT X
  have htr : e.platform.stackTraces = false := (show e.platform.stackTraces = l.stackTraces by rw [X.admits.platform]).trans hl
  have Y := vx_rebase X (R' := { frames := R.frames, locals := R.locals, cells := 1, slots := 6 }) (Nat.le_refl _) (Nat.le_refl _) hRcells hRslots
  obtain ⟨s', hA⟩ : ∃ z, z = (T.setVm s.vm).setFrames (.invoking m args :: below) := ⟨_, rfl⟩
  rw [← hA] at Y
  have hvm : s'.vm = s.vm := by rw [hA]; rfl
  have hhp : s'.heap = H := by rw [hA]; exact hT
  have hW0 : s.WarmedH s'.vm := by rw [hvm]; exact State.WarmedH.refl s
  have hat' : ∀ w ∈ vx_at0 own ic cls names, w.before args s' = true := fun w hw => vx_ot_at hW0 hvm.symm (hgood w (List.mem_cons_of_mem _ (List.mem_cons_of_mem _ hw))) (hat w hw)
  have hk' : (Cond.classLink own ik cls).before args s' = true := vx_ot_at hW0 hvm.symm (hgood _ List.mem_cons_self) hk
  have hini' : (Cond.initialized cls).before args s' = true := vx_ot_at hW0 hvm.symm (hgood _ (List.mem_cons_of_mem _ List.mem_cons_self)) hini
  have hU' : vx_Zq Bundle.tN "UNASSIGNED_STACK" Bundle.steD A s' s'.heap := by rw [hhp]; exact vx_Zq.moved hW0.alike (hU.kept hS.2.1)
  have hN' : vx_Zq Bundle.tN "SUPPRESSED_SENTINEL" Bundle.listD A s' s'.heap := by rw [hhp]; exact vx_Zq.moved hW0.alike (hN.kept hS.2.1)
  have h : ∀ w ∈ Bundle.ownAtoms0 own ic cls names, w.before args s' = true := vx_own hat' (vx_isRefq hU'.1) (vx_isRefq hN'.1) hU'.2.word hN'.2.word
  have hown' : s'.vm.findClass own = some m.cls := by rw [hvm]; exact hown
  have hins : (Cond.instantiable cls 6).before args s' = true := h _ (by simp [Bundle.ownAtoms0])
  obtain ⟨vm₁, cX, kX, hfX, hkX, -, -, X₁, st1⟩ := Y.newCold hexec (own := own) (C := cls) (index := ik) (n := 6) hown' hk' hins hini'
    (g := F0 m pc ls rest) rfl (by rw [hb]; exact d0) (Nat.le_refl _) (Nat.le_refl _)
  generalize hT1 : (T.setVm vm₁).pushCell { cls := cX, slots := kX.instanceTypes.map defaultValue, vm := .none } = T1 at X₁ st1
  have hcat : (Value.ref T.heap.size).category = 1 := rfl
  have hcellA : T1.heap[T.heap.size]? = some (freshCell cX kX) := by rw [← hT1]; exact State.heap_pushCell_size _ _
  have d3' : decode c.code (pc + 3) = .ok (.dup, 1) := by rw [hb]; exact d3
  obtain ⟨U, hsteps, hrun, hend, hW, hsame, ce, hce, hO⟩ := X₁.ctorThrow0 hexec htr (own := own) (cls := cls) (names := names) (ic := ic) hown' hcls hnames h (fun x hx => nomatch hx) hfX hkX hcellA (by rw [hhp, hT]; exact Nat.le_refl _)
    (g := { method := m, pc := pc + 4, locals := ls, stack := .ref T.heap.size :: .ref T.heap.size :: rest, locked := none }) rfl hsize rfl rfl (rest := rest) rfl
    (by rw [hb]; exact d4) (by rw [hb]; exact d7) hout hRframes (by simp only [List.map_cons, List.sum_cons, hcat]; omega) hlocks
  obtain ⟨f1, f2⟩ := vx_frame hsame
  rw [hhp] at f1 f2
  have hWs : s.WarmedH U.vm := State.WarmedH.trans hW0 hW
  have hcl : s.vm.findClass cls = some ce.cls := by
    have h9 := hO.cls
    rw [hvm] at h9
    exact h9
  have hall : s.sameButNew ({ U with vm := s.vm } : State) locs mc ms := by
    subst hA
    obtain ⟨e1, e2⟩ := hsame
    rw [State.setFrames_setFrames] at e1
    have h2 : (T.setVm s.vm).sameButNew ({ U with vm := s.vm } : State) [] (0 + 1) (0 + 6) := ⟨e1, e2⟩
    have h3 := X.same.trans h2
    rw [List.append_nil] at h3
    exact h3.mono hc hs
  refine ⟨U, ?_, .threw T.heap.size, hrun, hend, Or.inr ⟨T.heap.size, rfl, cls, ce, locs, hx U hWs.alike f1 (fun q hq => f2 q hq (fun z hz => nomatch hz)), hce, hO.vm, hcl, hWs, hall, hf⟩⟩
  refine st1 _ ?_
  show Steps p.tables e below (T1.setTop { method := m, pc := pc + 3, locals := ls, stack := .ref T.heap.size :: rest, locked := none }) _
  jvm_step X₁.here [X₁.here.top, hexec, d3', Value.category]
  exact hsteps
/-- 'throw new E("text")': new; dup; ldc; invokespecial; athrow -/
theorem vx_throwS {cc : ByteArray} {pc : Nat} (hexec : p.tables.exec = Jvm.exec) (hb : c.code = cc) (hl : l.stackTraces = false) {own cls text : String} {names : List String} {ik is ic mc ms sa : Nat} {A : Nat → Prop}
    (hown : s.vm.findClass own = some m.cls) (hcls : Bundle.fit cls = true) (hnames : ∀ n ∈ names, Bundle.fit n = true)
    (hk : (Cond.classLink own ik cls).before args s = true) (hini : (Cond.initialized cls).before args s = true) (hstr : vk_R own is text sa s) (hat : ∀ w ∈ vx_atS own ic cls names, w.before args s = true)
    (hgood : ∀ w ∈ Cond.classLink own ik cls :: Cond.initialized cls :: vx_atS own ic cls names, vx_ot w = true)
    (hU : vx_Zq Bundle.tN "UNASSIGNED_STACK" Bundle.steD A s s.heap) (hN : vx_Zq Bundle.tN "SUPPRESSED_SENTINEL" Bundle.listD A s s.heap) (hS : va_S A s.heap H locs) (hsize : ls.size = c.maxLocals)
    (d0 : decode cc pc = .ok (.new ik, 3)) (d3 : decode cc (pc + 3) = .ok (.dup, 1)) (d4 : decode cc (pc + 4) = .ok (.ldc is, 2)) (d6 : decode cc (pc + 6) = .ok (.invokespecial ic, 3)) (d9 : decode cc (pc + 9) = .ok (.athrow, 1))
    (hout : ∀ x ∈ c.exceptionTable.toList, covers x (pc + 9) = false)
    (hRframes : names.length + 3 < R.frames) (hRlocals : (rest.map fun v => v.category).sum + (13 * (names.length + 1) + 43) ≤ R.locals) (hRcells : cells + 1 ≤ R.cells) (hRslots : slots + 6 ≤ R.slots) (hlocks : meth.locks = false)
    (hx : ∀ t : State, s.vm.Alike t.vm → H.size ≤ t.heap.size → (∀ q : Nat, q < H.size → t.heap[q]? = H[q]?) → XC cls s t)
    (hf : ∀ z ∈ locs, free z.base) (hc : cells + 1 ≤ mc) (hs : slots + 6 ≤ ms) :
    W p l e R s m args below meth c H locs cells slots (vx_MQ below Qc XC args s mc ms free) (F0 m pc ls rest) := by
  intro T hT X
  have htr : e.platform.stackTraces = false := (show e.platform.stackTraces = l.stackTraces by rw [X.admits.platform]).trans hl
  have Y := vx_rebase X (R' := { frames := R.frames, locals := R.locals, cells := 1, slots := 6 }) (Nat.le_refl _) (Nat.le_refl _) hRcells hRslots
  obtain ⟨s', hA⟩ : ∃ z, z = (T.setVm s.vm).setFrames (.invoking m args :: below) := ⟨_, rfl⟩
  rw [← hA] at Y
  have hvm : s'.vm = s.vm := by rw [hA]; rfl
  have hhp : s'.heap = H := by rw [hA]; exact hT
  have hW0 : s.WarmedH s'.vm := by rw [hvm]; exact State.WarmedH.refl s
  have hat' : ∀ w ∈ vx_atS own ic cls names, w.before args s' = true := fun w hw => vx_ot_at hW0 hvm.symm (hgood w (List.mem_cons_of_mem _ (List.mem_cons_of_mem _ hw))) (hat w hw)
  have hk' : (Cond.classLink own ik cls).before args s' = true := vx_ot_at hW0 hvm.symm (hgood _ List.mem_cons_self) hk
  have hini' : (Cond.initialized cls).before args s' = true := vx_ot_at hW0 hvm.symm (hgood _ (List.mem_cons_of_mem _ List.mem_cons_self)) hini
  have hU' : vx_Zq Bundle.tN "UNASSIGNED_STACK" Bundle.steD A s' s'.heap := by rw [hhp]; exact vx_Zq.moved hW0.alike (hU.kept hS.2.1)
  have hN' : vx_Zq Bundle.tN "SUPPRESSED_SENTINEL" Bundle.listD A s' s'.heap := by rw [hhp]; exact vx_Zq.moved hW0.alike (hN.kept hS.2.1)
  have h : ∀ w ∈ Bundle.ownAtoms own ic cls names, w.before args s' = true := vx_own hat' (vx_isRefq hU'.1) (vx_isRefq hN'.1) hU'.2.word hN'.2.word
  have hown' : s'.vm.findClass own = some m.cls := by rw [hvm]; exact hown
  have hins : (Cond.instantiable cls 6).before args s' = true := h _ (by simp [Bundle.ownAtoms])
  obtain ⟨vm₁, cX, kX, hfX, hkX, -, -, X₁, st1⟩ := Y.newCold hexec (own := own) (C := cls) (index := ik) (n := 6) hown' hk' hins hini'
    (g := F0 m pc ls rest) rfl (by rw [hb]; exact d0) (Nat.le_refl _) (Nat.le_refl _)
  generalize hT1 : (T.setVm vm₁).pushCell { cls := cX, slots := kX.instanceTypes.map defaultValue, vm := .none } = T1 at X₁ st1
  have hcat : (Value.ref T.heap.size).category = 1 := rfl
  have hcellA : T1.heap[T.heap.size]? = some (freshCell cX kX) := by rw [← hT1]; exact State.heap_pushCell_size _ _
  have d3' : decode c.code (pc + 3) = .ok (.dup, 1) := by rw [hb]; exact d3
  have d4' : decode c.code (pc + 4) = .ok (.ldc is, 2) := by rw [hb]; exact d4
  have hstr' : vk_R own is text sa s' := vk_R.warm hW0 hstr
  obtain ⟨U, hsteps, hrun, hend, hW, hsame, ce, hce, hO⟩ := X₁.ctorThrowS hexec htr (own := own) (cls := cls) (names := names) (ic := ic) hown' hcls hnames h (fun x hx => nomatch hx) hfX hkX hcellA (by rw [hhp, hT]; exact Nat.le_refl _) (msg := .ref sa) rfl
    (g := { method := m, pc := pc + 6, locals := ls, stack := .ref sa :: .ref T.heap.size :: .ref T.heap.size :: rest, locked := none }) rfl hsize rfl rfl (rest := rest) rfl
    (by rw [hb]; exact d6) (by rw [hb]; exact d9) hout hRframes (by simp only [List.map_cons, List.sum_cons, hcat]; omega) hlocks
  obtain ⟨f1, f2⟩ := vx_frame hsame
  rw [hhp] at f1 f2
  have hWs : s.WarmedH U.vm := State.WarmedH.trans hW0 hW
  have hcl : s.vm.findClass cls = some ce.cls := by
    have h9 := hO.cls
    rw [hvm] at h9
    exact h9
  have hall : s.sameButNew ({ U with vm := s.vm } : State) locs mc ms := by
    subst hA
    obtain ⟨e1, e2⟩ := hsame
    rw [State.setFrames_setFrames] at e1
    have h2 : (T.setVm s.vm).sameButNew ({ U with vm := s.vm } : State) [] (0 + 1) (0 + 6) := ⟨e1, e2⟩
    have h3 := X.same.trans h2
    rw [List.append_nil] at h3
    exact h3.mono hc hs
  refine ⟨U, ?_, .threw T.heap.size, hrun, hend, Or.inr ⟨T.heap.size, rfl, cls, ce, locs, hx U hWs.alike f1 (fun q hq => f2 q hq (fun z hz => nomatch hz)), hce, hO.vm, hcl, hWs, hall, hf⟩⟩
  refine st1 _ ?_
  show Steps p.tables e below (T1.setTop { method := m, pc := pc + 3, locals := ls, stack := .ref T.heap.size :: rest, locked := none }) _
  jvm_step X₁.here [X₁.here.top, hexec, d3', Value.category]
  exact X₁.ldcString hexec (own := own) (text := text) (index := is) (a := sa) hown' hstr'.1 hstr'.2
    (g := { method := m, pc := pc + 4, locals := ls, stack := .ref T.heap.size :: .ref T.heap.size :: rest, locked := none }) rfl d4' _ hsteps
/-- 'throw new E("text")', the text by a wide index -/
theorem vx_throwSW {cc : ByteArray} {pc : Nat} (hexec : p.tables.exec = Jvm.exec) (hb : c.code = cc) (hl : l.stackTraces = false) {own cls text : String} {names : List String} {ik is ic mc ms sa : Nat} {A : Nat → Prop}
    (hown : s.vm.findClass own = some m.cls) (hcls : Bundle.fit cls = true) (hnames : ∀ n ∈ names, Bundle.fit n = true)
    (hk : (Cond.classLink own ik cls).before args s = true) (hini : (Cond.initialized cls).before args s = true) (hstr : vk_R own is text sa s) (hat : ∀ w ∈ vx_atS own ic cls names, w.before args s = true)
    (hgood : ∀ w ∈ Cond.classLink own ik cls :: Cond.initialized cls :: vx_atS own ic cls names, vx_ot w = true)
    (hU : vx_Zq Bundle.tN "UNASSIGNED_STACK" Bundle.steD A s s.heap) (hN : vx_Zq Bundle.tN "SUPPRESSED_SENTINEL" Bundle.listD A s s.heap) (hS : va_S A s.heap H locs) (hsize : ls.size = c.maxLocals)
    (d0 : decode cc pc = .ok (.new ik, 3)) (d3 : decode cc (pc + 3) = .ok (.dup, 1)) (d4 : decode cc (pc + 4) = .ok (.ldc_w is, 3)) (d7 : decode cc (pc + 7) = .ok (.invokespecial ic, 3)) (d10 : decode cc (pc + 10) = .ok (.athrow, 1))
    (hout : ∀ x ∈ c.exceptionTable.toList, covers x (pc + 10) = false)
    (hRframes : names.length + 3 < R.frames) (hRlocals : (rest.map fun v => v.category).sum + (13 * (names.length + 1) + 43) ≤ R.locals) (hRcells : cells + 1 ≤ R.cells) (hRslots : slots + 6 ≤ R.slots) (hlocks : meth.locks = false)
    (hx : ∀ t : State, s.vm.Alike t.vm → H.size ≤ t.heap.size → (∀ q : Nat, q < H.size → t.heap[q]? = H[q]?) → XC cls s t)
    (hf : ∀ z ∈ locs, free z.base) (hc : cells + 1 ≤ mc) (hs : slots + 6 ≤ ms) :
    W p l e R s m args below meth c H locs cells slots (vx_MQ below Qc XC args s mc ms free) (F0 m pc ls rest) := by
  intro T hT X
  have htr : e.platform.stackTraces = false := (show e.platform.stackTraces = l.stackTraces by rw [X.admits.platform]).trans hl
  have Y := vx_rebase X (R' := { frames := R.frames, locals := R.locals, cells := 1, slots := 6 }) (Nat.le_refl _) (Nat.le_refl _) hRcells hRslots
  obtain ⟨s', hA⟩ : ∃ z, z = (T.setVm s.vm).setFrames (.invoking m args :: below) := ⟨_, rfl⟩
  rw [← hA] at Y
  have hvm : s'.vm = s.vm := by rw [hA]; rfl
  have hhp : s'.heap = H := by rw [hA]; exact hT
  have hW0 : s.WarmedH s'.vm := by rw [hvm]; exact State.WarmedH.refl s
  have hat' : ∀ w ∈ vx_atS own ic cls names, w.before args s' = true := fun w hw => vx_ot_at hW0 hvm.symm (hgood w (List.mem_cons_of_mem _ (List.mem_cons_of_mem _ hw))) (hat w hw)
  have hk' : (Cond.classLink own ik cls).before args s' = true := vx_ot_at hW0 hvm.symm (hgood _ List.mem_cons_self) hk
  have hini' : (Cond.initialized cls).before args s' = true := vx_ot_at hW0 hvm.symm (hgood _ (List.mem_cons_of_mem _ List.mem_cons_self)) hini
  have hU' : vx_Zq Bundle.tN "UNASSIGNED_STACK" Bundle.steD A s' s'.heap := by rw [hhp]; exact vx_Zq.moved hW0.alike (hU.kept hS.2.1)
  have hN' : vx_Zq Bundle.tN "SUPPRESSED_SENTINEL" Bundle.listD A s' s'.heap := by rw [hhp]; exact vx_Zq.moved hW0.alike (hN.kept hS.2.1)
  have h : ∀ w ∈ Bundle.ownAtoms own ic cls names, w.before args s' = true := vx_own hat' (vx_isRefq hU'.1) (vx_isRefq hN'.1) hU'.2.word hN'.2.word
  have hown' : s'.vm.findClass own = some m.cls := by rw [hvm]; exact hown
  have hins : (Cond.instantiable cls 6).before args s' = true := h _ (by simp [Bundle.ownAtoms])
  obtain ⟨vm₁, cX, kX, hfX, hkX, -, -, X₁, st1⟩ := Y.newCold hexec (own := own) (C := cls) (index := ik) (n := 6) hown' hk' hins hini'
    (g := F0 m pc ls rest) rfl (by rw [hb]; exact d0) (Nat.le_refl _) (Nat.le_refl _)
  generalize hT1 : (T.setVm vm₁).pushCell { cls := cX, slots := kX.instanceTypes.map defaultValue, vm := .none } = T1 at X₁ st1
  have hcat : (Value.ref T.heap.size).category = 1 := rfl
  have hcellA : T1.heap[T.heap.size]? = some (freshCell cX kX) := by rw [← hT1]; exact State.heap_pushCell_size _ _
  have d3' : decode c.code (pc + 3) = .ok (.dup, 1) := by rw [hb]; exact d3
  have d4' : decode c.code (pc + 4) = .ok (.ldc_w is, 3) := by rw [hb]; exact d4
  have hstr' : vk_R own is text sa s' := vk_R.warm hW0 hstr
  obtain ⟨U, hsteps, hrun, hend, hW, hsame, ce, hce, hO⟩ := X₁.ctorThrowS hexec htr (own := own) (cls := cls) (names := names) (ic := ic) hown' hcls hnames h (fun x hx => nomatch hx) hfX hkX hcellA (by rw [hhp, hT]; exact Nat.le_refl _) (msg := .ref sa) rfl
    (g := { method := m, pc := pc + 7, locals := ls, stack := .ref sa :: .ref T.heap.size :: .ref T.heap.size :: rest, locked := none }) rfl hsize rfl rfl (rest := rest) rfl
    (by rw [hb]; exact d7) (by rw [hb]; exact d10) hout hRframes (by simp only [List.map_cons, List.sum_cons, hcat]; omega) hlocks
  obtain ⟨f1, f2⟩ := vx_frame hsame
  rw [hhp] at f1 f2
  have hWs : s.WarmedH U.vm := State.WarmedH.trans hW0 hW
  have hcl : s.vm.findClass cls = some ce.cls := by
    have h9 := hO.cls
    rw [hvm] at h9
    exact h9
  have hall : s.sameButNew ({ U with vm := s.vm } : State) locs mc ms := by
    subst hA
    obtain ⟨e1, e2⟩ := hsame
    rw [State.setFrames_setFrames] at e1
    have h2 : (T.setVm s.vm).sameButNew ({ U with vm := s.vm } : State) [] (0 + 1) (0 + 6) := ⟨e1, e2⟩
    have h3 := X.same.trans h2
    rw [List.append_nil] at h3
    exact h3.mono hc hs
  refine ⟨U, ?_, .threw T.heap.size, hrun, hend, Or.inr ⟨T.heap.size, rfl, cls, ce, locs, hx U hWs.alike f1 (fun q hq => f2 q hq (fun z hz => nomatch hz)), hce, hO.vm, hcl, hWs, hall, hf⟩⟩
  refine st1 _ ?_
  show Steps p.tables e below (T1.setTop { method := m, pc := pc + 3, locals := ls, stack := .ref T.heap.size :: rest, locked := none }) _
  jvm_step X₁.here [X₁.here.top, hexec, d3', Value.category]
  exact X₁.ldcStringW hexec (own := own) (text := text) (index := is) (a := sa) hown' hstr'.1 hstr'.2
    (g := { method := m, pc := pc + 4, locals := ls, stack := .ref T.heap.size :: .ref T.heap.size :: rest, locked := none }) rfl d4' _ hsteps
end Ends
section Bodies
variable {l : Launch}
theorem vx_ofW {y : MethodName} {ws ws' : List Cond} {rm : Room} {Pc : Array Value → State → Prop} {Qc : Array Value → State → Outcome → State → Prop} {XC : String → State → State → Prop} {mc ms : Nat} {free : Addr → Prop} {cc : ByteArray} {maxL : Nat} {ret : Option FieldType}
    (hy : plainName y.cls = true) (hw : ws = Cond.code y cc maxL ret :: ws')
    (body : ∀ p e s m args below meth c s₁, BodyLoose p l y (headSpec ws rm) cc maxL ret e s m args below meth c s₁ → c.maxLocals = maxL → (∀ x ∈ c.exceptionTable.toList, False) → Pc args s →
      W p l e (headSpec ws rm).room s m args below meth c s.heap [] 0 0 (vx_MQ below Qc XC args s mc ms free) (entryFrame m args maxL)) : vx_Met l y ws rm Pc Qc XC mc ms free := by
  refine MetFree.of_bodyS (code := cc) (maxLocals := maxL) (ret := ret) hy ?_ ?_
  · intro args s m h hn
    obtain ⟨meth, c, h1, h2, h3, h4, h5, h6, -, -⟩ := Cond.code_spec hn (atoms_spec (ws := ws) h _ (by rw [hw]; exact List.mem_cons_self))
    exact ⟨meth, c, h1, h2, h3, h4, h5, h6⟩
  · intro p e s m args below meth c s₁ B hml hP _
    have hh0 : s₁.heap = s.heap := by rw [B.state]; rfl
    have ht : ∀ x ∈ c.exceptionTable.toList, False := by
      obtain ⟨meth9, c9, h1, h2, -, -, -, -, h7, -⟩ := Cond.code_spec B.named (atoms_spec (ws := ws) B.pre _ (by rw [hw]; exact List.mem_cons_self))
      cases Option.some.inj (h1.symm.trans B.method)
      cases Option.some.inj (h2.symm.trans (Stand.of_body B).code)
      intro x hx
      rw [Array.isEmpty_iff.mp h7] at hx
      cases hx
    obtain ⟨t, a1, o, b1, b2, b3⟩ := body p e s m args below meth c s₁ B hml ht hP s₁ hh0 (Stand.of_body B)
    exact ⟨t, o, a1, b1, b2, b3⟩
/-- the table of a body with handlers -/
theorem vx_table {p : Program} {x y : MethodName} {S : Spec} {cc bytes : ByteArray} {maxL maxL' : Nat} {ret ret' : Option FieldType} {e : Env} {s s₁ : State} {m : MethodId} {args : Array Value} {below : List Frame} {meth : Method} {c : Code} {hh : List (Nat × Nat × Nat × Nat)}
    (B : BodyLoose p l y S cc maxL ret e s m args below meth c s₁) (h : (Cond.codeWith y bytes maxL' ret' hh).before args s = true) : c.exceptionTable.toList = tableOf hh := by
  obtain ⟨m9, meth9, c9, hn9, h1, h2, -, -, h6, -⟩ := Cond.codeWith_spec h
  cases Option.some.inj (hn9.symm.trans B.named)
  cases Option.some.inj (h1.symm.trans B.method)
  cases Option.some.inj (h2.symm.trans (Stand.of_body B).code)
  rw [← h6, table_eq]
end Bodies
end VXA
/-! ===== END ===== -/
/-! ===== BEGIN a static call of a method with an exception table ===== -/
section VXS
variable {p : Program} {l : Launch} {e : Env} {R : Room} {s : State} {m : MethodId} {args : Array Value} {below : List Frame} {meth : Method} {c : Code} {T : State} {H : Heap} {locs : List Loc} {cells slots : Nat}
abbrev vx_CSW (R : Room) (s : State) (args : Array Value) (own : String) (index : Nat) (y : MethodName) (bytes : ByteArray) (maxL : Nat) (ret : Option FieldType) (hh : List (Nat × Nat × Nat × Nat)) (ws : List Cond) (rm : Room) (mc ms n : Nat) : Prop :=
  (rm.cells = mc ∧ rm.slots = ms ∧ rm.frames + 1 ≤ R.frames ∧ 8 + (maxL + 11) + rm.locals ≤ R.locals ∧ (∀ w ∈ ws, ∀ (a' : Array Value) (U : State), s.WarmedH U.vm → w.before a' U = true) ∧ Cond.codeWith y bytes maxL ret hh ∈ ws) ∧
  (Cond.codeWith y bytes maxL ret hh).before args s = true ∧ (Cond.initialized y.cls).before args s = true ∧ (y.cls ≠ "java/lang/invoke/MethodHandle" ∧ y.cls ≠ "java/lang/invoke/VarHandle") ∧
  (∀ sig, parseMethodDescriptor y.desc = some sig → n = sig.parameters.length) ∧ (Cond.methodLink own index y).before args s = true ∧ (Cond.static y).before args s = true
theorem vx_cwSW {own : String} {index maxL mc ms : Nat} {y : MethodName} {bytes : ByteArray} {ret : Option FieldType} {hh : List (Nat × Nat × Nat × Nat)} {Ts ws ws' : List Cond} {rm : Room} (n : Nat) (ht : ∀ w ∈ Ts, w.before args s = true) (hT : GoodIn Ts (va_wsS own index y ws)) (hw : ws = Cond.codeWith y bytes maxL ret hh :: ws') (hrc : rm.cells = mc) (hrs : rm.slots = ms)
    (hd : y.cls ≠ "java/lang/invoke/MethodHandle" ∧ y.cls ≠ "java/lang/invoke/VarHandle" ∧ (parseMethodDescriptor y.desc).map (fun d => d.parameters.length) = some n) (hR : rm.frames + 1 ≤ R.frames ∧ 8 + (maxL + 11) + rm.locals ≤ R.locals) :
    vx_CSW R s args own index y bytes maxL ret hh ws rm mc ms n := by
  have ok : ∀ w ∈ va_wsS own index y ws, w.before args s = true := fun w h => ht w (hT w h).1
  have hG : GoodIn Ts ws := fun w h => hT w (by unfold va_wsS; exact List.mem_append_right _ h)
  have hc : Cond.codeWith y bytes maxL ret hh ∈ ws := by rw [hw]; exact List.mem_cons_self
  refine ⟨⟨hrc, hrs, hR.1, hR.2, pay_in ht hG, hc⟩, ht _ (hG _ hc).1, ok _ (by simp [va_wsS]), ⟨hd.1, hd.2.1⟩, fun sig h => ?_, ok _ (by simp [va_wsS]), ok _ (by simp [va_wsS])⟩
  have h2 := hd.2.2
  rw [h] at h2
  exact (Option.some.inj h2).symm
theorem vx_callSW (X : Stand p l e R s m args below meth c T locs cells slots) (hexec : p.tables.exec = Jvm.exec) {own : String} {index : Nat} {y : MethodName} {bytes : ByteArray} {maxL : Nat} {ret : Option FieldType} {hh : List (Nat × Nat × Nat × Nat)}
    (hown : s.vm.findClass own = some m.cls) (hlink : (Cond.methodLink own index y).before args s = true) (hstat : (Cond.static y).before args s = true) (hinit : (Cond.initialized y.cls).before args s = true)
    (hcode : (Cond.codeWith y bytes maxL ret hh).before args s = true) (hy : y.cls ≠ "java/lang/invoke/MethodHandle" ∧ y.cls ≠ "java/lang/invoke/VarHandle")
    {W9 : Nat} {Pre : Pt → Array Value → Prop} {Post : Pt → Array Value → Option Value → Pt → Prop} (hK : Back l R p e below s args y 3 W9 Pre Post)
    {g : JFrame} (hg : g.method = m) (hsize : g.locals.size = c.maxLocals) {argsL rest : List Value} (hlen : ∀ sig, parseMethodDescriptor y.desc = some sig → argsL.length = sig.parameters.length)
    (hstack : g.stack = argsL.reverse ++ rest) (hW : 2 * g.monitorRoom + (rest.map fun v => v.category).sum ≤ W9) (hdg : decode c.code g.pc = .ok (.invokestatic index, 3))
    (hpre : ∀ vm₁, s.WarmedH vm₁ → Pre ⟨T.setVm vm₁, locs, cells, slots⟩ argsL.toArray) :
    ∃ (v : Option Value) (vm₁ : Vm) (B : Pt), s.WarmedH vm₁ ∧ Stand p l e R s m args below meth c B.U B.locs B.cells B.slots ∧ Post ⟨T.setVm vm₁, locs, cells, slots⟩ argsL.toArray v B ∧
      ∀ target, Steps p.tables e below (B.U.setTop { g with pc := g.pc + 3, stack := v.toList ++ rest }) target → Steps p.tables e below (T.setTop g) target := by
  obtain ⟨mk, methM, cM, hnamed, hmethM, -, -, -, -, -, -, hsigM⟩ := Cond.codeWith_spec hcode
  have hstatic : methM.isStatic = true := Cond.static_spec hnamed hmethM hstat
  obtain ⟨kP, hkP, -⟩ := className_of_methodNamed hnamed
  have hinitP : kP.init = .initialized := Cond.initialized_spec (findClass_of_methodNamed hnamed) hkP hinit
  obtain ⟨vm₁, X₁, hstep₁⟩ := X.invokestatic hexec hown hlink hnamed hmethM hstatic hkP hinitP hy (g := g) hg (argsL := argsL) (rest := rest) (hlen _ hsigM) hstack hdg
  obtain ⟨v, B, X', hpost, hsteps⟩ := hK m meth c ⟨T.setVm vm₁, locs, cells, slots⟩ { g with stack := rest } (.invokestatic index) mk argsL.toArray X₁ hg hsize hdg hW (X₁.named hnamed) (hpre vm₁ X₁.warmed)
  exact ⟨v, vm₁, B, X₁.warmed, X', hpost, fun target h => hstep₁ _ fun acts => by rw [doInvoke_state]; exact hsteps.trans h⟩
theorem vx_runSW {y : MethodName} {bytes cc : ByteArray} {maxL nL mc ms n index : Nat} {ret : Option FieldType} {hh : List (Nat × Nat × Nat × Nat)} {ws : List Cond} {rm : Room} {Pc : Array Value → State → Prop} {Qc : Array Value → State → Outcome → State → Prop} {free : Addr → Prop} {Ts : List Cond} {own : String} {As rest : List Value} {g : JFrame}
    (S : CallFix p m c cc nL s args Ts own) (hM : Met l y ws rm Pc Qc mc ms free) (cw : vx_CSW R s args own index y bytes maxL ret hh ws rm mc ms n) (hp : PreS s H Pc As)
    (hg : g.method = m) (hn : As.length = n) (hsize : g.locals.size = nL) (hstack : g.stack = As.reverse ++ rest) (hW : 2 * g.monitorRoom + (rest.map fun v => v.category).sum ≤ 8) (hdg : decode cc g.pc = .ok (.invokestatic index, 3)) (hf : cells + mc ≤ R.cells ∧ slots + ms ≤ R.slots) :
    va_Run p l e R s m args below meth c H locs cells slots mc ms g rest (Qc As.toArray) (free) := by
  obtain ⟨⟨hrc, hrs, hfr, hlo, hws, hcw⟩, hcode, hini, hy, hlen, hl, hstt⟩ := cw
  have hK : Back l R p e below s args y 3 8 (PreOf R mc ms Pc) (PostOf Qc mc ms free) := va_backW (hh := hh) (bytes := bytes) (maxL := maxL) (ret := ret) hM hp.1 hrc hrs hfr hlo hws hcw (fun a' U hW => word_at hW (Or.inl (by first | rfl | simp [Cond.onTables, Cond.keeps, Cond.steady])) hini)
  obtain ⟨hx, hb, hml, ho, -⟩ := S
  intro T hT X
  obtain ⟨v, vm₁, ⟨U', l2, c2, s2⟩, hW₁, X', ⟨g', mk, t, L, e1, e2, hq, h1, hL, h2, h3⟩, st⟩ := vx_callSW X hx (hh := hh) (bytes := bytes) (maxL := maxL) (ret := ret) ho hl hstt hini hcode hy hK hg (hsize.trans hml.symm) (argsL := As) (rest := rest) (fun sig h => hn.trans (hlen sig h)) hstack hW (by rw [hb]; exact hdg)
    (fun vm₁ hW₁ => ⟨hf.1, hf.2, hp.2 (T.setVm vm₁) hT hW₁⟩)
  dsimp only [Pt.U, Pt.locs, Pt.cells, Pt.slots] at X' e1 e2 h1 h2 h3 st
  subst h1; subst h2; subst h3
  exact ⟨v, (T.setVm vm₁).calling g' mk As.toArray, t, U', L, hT, X', hL, e1, e2, hq, st⟩
/-- not caught here, past rows that name other classes: it goes on to the caller -/
theorem vx_outP {p : Program} {l : Launch} {e : Env} {R : Room} {s : State} {m : MethodId} {args : Array Value} {below : List Frame} {meth : Method} {c : Code} {H : Heap} {locs : List Loc} {cells slots : Nat} {free : Addr → Prop} {ls : Array Slot} {rest : List Value} {Qc : Array Value → State → Outcome → State → Prop} {XC : String → State → State → Prop}
    {pc : Nat} {own E : String} {ce : Cell} {q : Addr} {mc ms : Nat} (hown : s.vm.findClass own = some m.cls) (hlocks : meth.locks = false)
    (hpass : ∀ z ∈ c.exceptionTable.toList, covers z pc = false ∨ (z.catchType ≠ 0 ∧ ∃ nm : String, (Cond.classLink own z.catchType nm).before args s = true ∧ va_Nc E nm s)) (hcell : H[q]? = some ce) (hv : ce.vm = .none) (hcl : s.vm.findClass E = some ce.cls)
    (hx : ∀ t : State, t.heap = H → s.vm.Alike t.vm → XC E s t) (hf : ∀ z ∈ locs, free z.base) (hc : cells ≤ mc) (hs : slots ≤ ms) :
    vx_W p l e R s m args below meth c H locs cells slots (vx_MQ below Qc XC args s mc ms free) (F0 m pc ls rest) q := by
  intro T hT X
  have hpl : e.platform.magicAccessors = ({} : Platform).magicAccessors := by rw [X.admits.platform]
  obtain ⟨vm', hW', X', st⟩ := X.outThrough hlocks q (g := F0 m pc ls rest) rfl rfl rfl (cell := ce) (by rw [hT]; exact hcell) (by rw [hv]; rfl)
    (by obtain ⟨k9, h9, -⟩ := Vm.findClass_spec hcl; exact ⟨k9, h9⟩) (fun z hz => by
      rcases hpass z hz with h | ⟨hz0, nm, hl1, hn1⟩
      · exact Or.inl h
      · obtain ⟨c6, hc6, hcl6⟩ := Cond.classLink_spec hown hl1 e.platform hpl
        obtain ⟨a8, b8, h1, h2, h3⟩ := hn1
        cases Option.some.inj (h1.symm.trans hcl)
        cases Option.some.inj (h2.symm.trans hc6)
        exact Or.inr ⟨hz0, _, hcl6, h3⟩)
  obtain ⟨g₀, hfr⟩ := X'.frames_eq
  have hcell9 : ((T.setVm vm').setFrames (.throwing q :: below)).heap[q]? = some ce := by
    show T.heap[q]? = some ce
    rw [hT]; exact hcell
  have hend : Ended ((T.setVm vm').setFrames (.throwing q :: below)) below (.threw q) := State.frames_setFrames _ (State.cur_lt_of_frames hfr)
  refine ⟨(T.setVm vm').setFrames (.throwing q :: below), ?_, .threw q, X'.here.running, hend, Or.inr ⟨q, rfl, E, ce, locs, hx _ hT (X'.ends _).1.alike, hcell9, hv, hcl, (X'.ends _).1, (X'.ends _).2.mono hc hs, hf⟩⟩
  rw [X.pushThrowing_eq]
  exact st
/-- a thing of a world lies in the heap -/
theorem vx_lt {D : va_G} {cl : List vw_C} {ws : va_W} {H1 : Heap} (h : va_P D cl ws H1) {k : Nat} {q : Nat × va_E} (hk : ws[k]? = some q) : q.1 < H1.size := (h k q hk).lt
end VXS
/-! ===== END ===== -/
/-! ===== BEGIN methods with a table of their own: called by a name, returning or throwing ===== -/
section VXH
/-! vx_backW, vx_callVX, vx_callSX, vx_callVW, vx_runVW, vx_runVX, vx_runSX, vx_ofWH follow the same proofs as their sisters above (Free/Laws.lean, Shelf42/LK1.lean); vx_outP calls Shelf42/NT130.lean (outThrough). -/
section
variable {l : Launch} {R : Room} {p : Program} {e : Env} {below : List Frame} {s : State} {sargs : Array Value} {y : MethodName} {len W9 : Nat}
theorem vx_backW {ws : List Cond} {rm : Room} {Pc : Array Value → State → Prop} {Qc : Array Value → State → Outcome → State → Prop} {XC : String → State → State → Prop} {mc ms : Nat} {free : Addr → Prop} {bytes : ByteArray} {maxL : Nat} {ret : Option FieldType} {hh : List (Nat × Nat × Nat × Nat)}
    (hM : vx_Met l y ws rm Pc Qc XC mc ms free) (hblind : FrameBlind Pc) (hrc : rm.cells = mc) (hrs : rm.slots = ms)
    (hframes : rm.frames + 1 ≤ R.frames) (hlocals : W9 + (maxL + 11) + rm.locals ≤ R.locals)
    (hws : ∀ w ∈ ws, ∀ a' U, s.WarmedH U.vm → w.before a' U = true) (hcode : Cond.codeWith y bytes maxL ret hh ∈ ws) (hinit : ∀ a' U, s.WarmedH U.vm → (Cond.initialized y.cls).before a' U = true) :
    vx_Back l R p e below s sargs y len W9 (PreOf R mc ms Pc) (PostOf Qc mc ms free) (vx_Post XC mc ms free) := by
  intro m meth c A g ig mk a X hg hsize hdg hW hn hp
  have h1 : (headSpec ws rm).pre.before a A.U = true := atoms_intro fun w hw => hws w hw _ _ X.warmed
  have h2 : (Cond.codeWith y bytes maxL ret hh).before a A.U = true := hws _ hcode _ _ X.warmed
  have h3 : (Cond.initialized y.cls).before a A.U = true := hinit _ _ X.warmed
  have h4 : A.cells + (headSpec ws rm).room.cells ≤ R.cells := by rw [show (headSpec ws rm).room.cells = mc from hrc]; exact hp.1
  have h5 : A.slots + (headSpec ws rm).room.slots ≤ R.slots := by rw [show (headSpec ws rm).room.slots = ms from hrs]; exact hp.2.1
  have hPc : Pc a (A.U.calling g mk a) := hblind _ _ _ _ hp.2.2
  obtain ⟨U, Ls, c0, s0⟩ := A
  dsimp only [Pt.U, Pt.locs, Pt.cells, Pt.slots] at h1 h2 h3 h4 h5 X hn hPc ⊢
  obtain ⟨m9, methY, cY, hn9, hmY, hcY, -, hlY, -⟩ := Cond.codeWith_spec h2
  cases Option.some.inj (hn9.symm.trans hn)
  obtain ⟨kY, hkY, -⟩ := className_of_methodNamed hn
  have hinitY : kY.init = .initialized := Cond.initialized_spec (findClass_of_methodNamed hn) hkY h3
  have h : At U g.method c below := by rw [hg]; exact X.here
  have hlocals9 : W9 + (maxL + 11) + (headSpec ws rm).room.locals ≤ R.locals := hlocals
  have happ : (headSpec ws rm).appliesLoose y e.platform (U.calling g mk a) = true :=
    Spec.appliesLoose_calling (g := g) h hdg hn hkY hinitY
      (X.room_calling (g := g) (R' := (headSpec ws rm).room) hsize hmY hcY hframes (by rw [hlY]; omega) h4 h5) h1
  obtain ⟨mid, hmid⟩ := h.above
  have hfr : (U.setTop g).frames = (.java g :: mid) ++ below := by rw [State.frames_setTop' g h.top, hmid]; rfl
  obtain ⟨o, s₂, hsteps, -, hend, hq⟩ := Steps.callFree hM p X.admits X.cas X.clock (acts := []) hfr happ hPc trivial
  have hq' : vx_Q Qc XC mc ms free a (U.calling g mk a) o s₂ := hq
  rw [State.frames_setTop' g h.top] at hend
  obtain ⟨g₀, hg0⟩ := Option.isSome_iff_exists.mp h.top
  obtain ⟨r, hr⟩ := State.topJava?_eq_some.mp hg0
  have hr' : (({ U with heap := s₂.heap, slotsUsed := s₂.slotsUsed } : State).setVm s₂.vm).frames = .java g₀ :: r := hr
  rcases hq' with ⟨hqc, L, hfe, hL⟩ | ⟨q, rfl, E, ce, L, hx, hce, hcv, hcl, hW₂, hsm, hL⟩
  · obtain ⟨⟨v, rfl⟩, hW₂, e2, q2, q3, q4, q5, q6⟩ := id hfe
    have e3 : s₂ = ({ (U.calling g mk a).setFrames s₂.frames with heap := s₂.heap, slotsUsed := s₂.slotsUsed } : State).setVm s₂.vm := by
      have : s₂ = ({ s₂ with vm := (U.calling g mk a).vm } : State).setVm s₂.vm := rfl
      rw [e2] at this
      exact this
    obtain ⟨c₂, i₂, len₂, hc₂, hd₂, hf₂⟩ := hend
    have hW' : U.WarmedH s₂.vm := hW₂
    have hcc : c₂ = c := by
      have h1 : s₂.code? g.method = U.code? g.method := by
        rw [State.code?_eq, State.code?_eq, hW'.alike.method?]
      exact Option.some.inj (hc₂.symm.trans (h1.trans h.code))
    subst hcc
    have hlen : len₂ = len := by rw [hdg] at hd₂; cases hd₂; rfl
    subst hlen
    have hs₂ : s₂ = (({ U with heap := s₂.heap, slotsUsed := s₂.slotsUsed } : State).setVm s₂.vm).setTop { g with pc := g.pc + len₂, stack := v.toList ++ g.stack } := by
      refine e3.trans ?_
      rw [hf₂, State.calling_eq h.top, State.setFrames_setFrames, State.setTop_of_frames _ hr', hr]
      rfl
    have hsame : U.sameButNew ({ U with heap := s₂.heap, slotsUsed := s₂.slotsUsed } : State) L mc ms := by
      refine ⟨?_, q2, q3, q4, q5, q6⟩
      obtain ⟨t, ht, -⟩ := State.frames_cons hr
      show ({ U with heap := s₂.heap, slotsUsed := s₂.slotsUsed } : State) = { U.setFrames U.frames with heap := s₂.heap, slotsUsed := s₂.slotsUsed }
      rw [State.setFrames_self ht]
    subst hg
    refine Or.inl ⟨v, ⟨(({ U with heap := s₂.heap, slotsUsed := s₂.slotsUsed } : State).setVm s₂.vm), Ls ++ L, c0 + mc, s0 + ms⟩,
      ⟨X.admits, X.cas, X.clock, X.frames, X.room, X.hears, X.method, X.code, (X.here.setHeapUsed s₂.heap s₂.slotsUsed).setVm hW'.alike, X.tail, State.WarmedH.trans X.warmed hW', X.limits, X.bytes, X.same.trans (hsame.setVm s.vm)⟩,
      ⟨g, mk, s₂, L, rfl, rfl, hqc, rfl, hL, rfl, rfl⟩, ?_⟩
    show Steps p.tables e below _ ((({ U with heap := s₂.heap, slotsUsed := s₂.slotsUsed } : State).setVm s₂.vm).setTop { g with pc := g.pc + len₂, stack := v.toList ++ g.stack })
    rw [← hs₂]
    exact hsteps
  · obtain ⟨e2, q2, q3, q4, q5, q6⟩ := id hsm
    have e3 : s₂ = ({ (U.calling g mk a).setFrames s₂.frames with heap := s₂.heap, slotsUsed := s₂.slotsUsed } : State).setVm s₂.vm := by
      have : s₂ = ({ s₂ with vm := (U.calling g mk a).vm } : State).setVm s₂.vm := rfl
      rw [e2] at this
      exact this
    have hf₂ : s₂.frames = .throwing q :: .java g :: U.frames.tail := hend
    have hW' : U.WarmedH s₂.vm := hW₂
    have hs₂ : s₂ = ((({ U with heap := s₂.heap, slotsUsed := s₂.slotsUsed } : State).setVm s₂.vm).setTop g).pushFrame (.throwing q) := by
      refine e3.trans ?_
      rw [hf₂, State.calling_eq h.top, State.setFrames_setFrames, State.pushFrame, State.frames_setTop _ hr', State.setTop_of_frames _ hr', State.setFrames_setFrames, hr]
      rfl
    have hsame : U.sameButNew ({ U with heap := s₂.heap, slotsUsed := s₂.slotsUsed } : State) L mc ms := by
      refine ⟨?_, q2, q3, q4, q5, q6⟩
      obtain ⟨t, ht, -⟩ := State.frames_cons hr
      show ({ U with heap := s₂.heap, slotsUsed := s₂.slotsUsed } : State) = { U.setFrames U.frames with heap := s₂.heap, slotsUsed := s₂.slotsUsed }
      rw [State.setFrames_self ht]
    subst hg
    refine Or.inr ⟨q, ⟨(({ U with heap := s₂.heap, slotsUsed := s₂.slotsUsed } : State).setVm s₂.vm), Ls ++ L, c0 + mc, s0 + ms⟩,
      ⟨X.admits, X.cas, X.clock, X.frames, X.room, X.hears, X.method, X.code, (X.here.setHeapUsed s₂.heap s₂.slotsUsed).setVm hW'.alike, X.tail, State.WarmedH.trans X.warmed hW', X.limits, X.bytes, X.same.trans (hsame.setVm s.vm)⟩,
      ⟨g, mk, s₂, L, E, ce, rfl, rfl, hx, hce, hcv, hcl, rfl, hL, rfl, rfl⟩, ?_⟩
    show Steps p.tables e below _ (((({ U with heap := s₂.heap, slotsUsed := s₂.slotsUsed } : State).setVm s₂.vm).setTop g).pushFrame (.throwing q))
    rw [← hs₂]
    exact hsteps
end
variable {p : Program} {l : Launch} {e : Env} {R : Room} {s : State} {m : MethodId} {args : Array Value} {below : List Frame} {meth : Method} {c : Code} {T : State} {H : Heap} {locs : List Loc} {cells slots : Nat}
theorem vx_callVX (X : Stand p l e R s m args below meth c T locs cells slots) (hexec : p.tables.exec = Jvm.exec) {own C : String} {index : Nat} {y : MethodName} {bytes : ByteArray} {maxL : Nat} {ret : Option FieldType} {hh : List (Nat × Nat × Nat × Nat)}
    (hown : s.vm.findClass own = some m.cls) (hlink : (Cond.methodLink own index y).before args s = true) (hinst : (Cond.instanceMethod y).before args s = true) (hsel : (Cond.selects C y y).before args s = true)
    (hcode : (Cond.codeWith y bytes maxL ret hh).before args s = true) (hy : y.cls ≠ "java/lang/invoke/MethodHandle" ∧ y.cls ≠ "java/lang/invoke/VarHandle")
    {W9 : Nat} {Pre : Pt → Array Value → Prop} {Post : Pt → Array Value → Option Value → Pt → Prop} {PostX : Pt → Array Value → Addr → Pt → Prop} (hK : vx_Back l R p e below s args y 3 W9 Pre Post PostX)
    {b : Addr} {cellB : Cell} (hcell : T.heap[b]? = some cellB) (hobj : cellB.vm.isStatics = false) (hcls : s.vm.findClass C = some cellB.cls)
    {g : JFrame} (hg : g.method = m) (hsize : g.locals.size = c.maxLocals) {argsL rest : List Value} (hlen : ∀ sig, parseMethodDescriptor y.desc = some sig → argsL.length = sig.parameters.length)
    (hstack : g.stack = argsL.reverse ++ .ref b :: rest) (hW : 2 * g.monitorRoom + (rest.map fun v => v.category).sum ≤ W9) (hdg : decode c.code g.pc = .ok (.invokevirtual index, 3))
    (hpre : ∀ vm₁, s.WarmedH vm₁ → Pre ⟨T.setVm vm₁, locs, cells, slots⟩ (Value.ref b :: argsL).toArray) :
    (∃ (v : Option Value) (vm₁ : Vm) (B : Pt), s.WarmedH vm₁ ∧ Stand p l e R s m args below meth c B.U B.locs B.cells B.slots ∧ Post ⟨T.setVm vm₁, locs, cells, slots⟩ (Value.ref b :: argsL).toArray v B ∧
      ∀ target, Steps p.tables e below (B.U.setTop { g with pc := g.pc + 3, stack := v.toList ++ rest }) target → Steps p.tables e below (T.setTop g) target) ∨
    (∃ (q : Addr) (vm₁ : Vm) (B : Pt), s.WarmedH vm₁ ∧ Stand p l e R s m args below meth c B.U B.locs B.cells B.slots ∧ PostX ⟨T.setVm vm₁, locs, cells, slots⟩ (Value.ref b :: argsL).toArray q B ∧
      Steps p.tables e below (T.setTop g) ((B.U.setTop { g with stack := rest }).pushFrame (.throwing q))) := by
  obtain ⟨mk, methM, hnamed, hmethM, hstM, habM⟩ := Cond.instanceMethod_spec hinst
  obtain ⟨m8, methM', cM, hn8, hmethM', -, -, -, -, -, -, hsigM⟩ := Cond.codeWith_spec hcode
  cases Option.some.inj (hn8.symm.trans hnamed)
  cases hmethM.symm.trans hmethM'
  obtain ⟨c2, r2, m2, q1, q2, q3, q4, kP, hkP, hkPi⟩ := Cond.selects_spec hsel
  cases hcls.symm.trans q1
  cases (State.methodFound?_of_named hnamed hy).symm.trans q2
  cases hnamed.symm.trans q3
  have hselP : selectMethod e.platform s.vm cellB.cls mk = .method mk := by rw [Launch.admits_selectMethod X.admits]; exact q4
  obtain ⟨vm₁, X₁, hstep₁⟩ := X.invokevirtual hexec hown hlink hnamed hmethM hstM hkP hkPi hy (a := b) (cell := cellB) hcell
    (fun z h => by rw [h] at hobj; cases hobj) hselP hmethM habM hkP hkPi (g := g) hg (argsL := argsL) (rest := rest) (hlen _ hsigM) hstack hdg
  rcases hK m meth c ⟨T.setVm vm₁, locs, cells, slots⟩ { g with stack := rest } (.invokevirtual index) mk (Value.ref b :: argsL).toArray X₁ hg hsize hdg hW (X₁.named hnamed) (hpre vm₁ X₁.warmed) with ⟨v, B, X', hpost, hsteps⟩ | ⟨q, B, X', hpost, hsteps⟩
  · exact Or.inl ⟨v, vm₁, B, X₁.warmed, X', hpost, fun target h => hstep₁ _ fun acts => by rw [doInvoke_state]; exact hsteps.trans h⟩
  · exact Or.inr ⟨q, vm₁, B, X₁.warmed, X', hpost, hstep₁ _ fun acts => by rw [doInvoke_state]; exact hsteps⟩
theorem vx_callSX (X : Stand p l e R s m args below meth c T locs cells slots) (hexec : p.tables.exec = Jvm.exec) {own : String} {index : Nat} {y : MethodName} {bytes : ByteArray} {maxL : Nat} {ret : Option FieldType} {hh : List (Nat × Nat × Nat × Nat)}
    (hown : s.vm.findClass own = some m.cls) (hlink : (Cond.methodLink own index y).before args s = true) (hstat : (Cond.static y).before args s = true) (hinit : (Cond.initialized y.cls).before args s = true)
    (hcode : (Cond.codeWith y bytes maxL ret hh).before args s = true) (hy : y.cls ≠ "java/lang/invoke/MethodHandle" ∧ y.cls ≠ "java/lang/invoke/VarHandle")
    {W9 : Nat} {Pre : Pt → Array Value → Prop} {Post : Pt → Array Value → Option Value → Pt → Prop} {PostX : Pt → Array Value → Addr → Pt → Prop} (hK : vx_Back l R p e below s args y 3 W9 Pre Post PostX)
    {g : JFrame} (hg : g.method = m) (hsize : g.locals.size = c.maxLocals) {argsL rest : List Value} (hlen : ∀ sig, parseMethodDescriptor y.desc = some sig → argsL.length = sig.parameters.length)
    (hstack : g.stack = argsL.reverse ++ rest) (hW : 2 * g.monitorRoom + (rest.map fun v => v.category).sum ≤ W9) (hdg : decode c.code g.pc = .ok (.invokestatic index, 3))
    (hpre : ∀ vm₁, s.WarmedH vm₁ → Pre ⟨T.setVm vm₁, locs, cells, slots⟩ argsL.toArray) :
    (∃ (v : Option Value) (vm₁ : Vm) (B : Pt), s.WarmedH vm₁ ∧ Stand p l e R s m args below meth c B.U B.locs B.cells B.slots ∧ Post ⟨T.setVm vm₁, locs, cells, slots⟩ argsL.toArray v B ∧
      ∀ target, Steps p.tables e below (B.U.setTop { g with pc := g.pc + 3, stack := v.toList ++ rest }) target → Steps p.tables e below (T.setTop g) target) ∨
    (∃ (q : Addr) (vm₁ : Vm) (B : Pt), s.WarmedH vm₁ ∧ Stand p l e R s m args below meth c B.U B.locs B.cells B.slots ∧ PostX ⟨T.setVm vm₁, locs, cells, slots⟩ argsL.toArray q B ∧
      Steps p.tables e below (T.setTop g) ((B.U.setTop { g with stack := rest }).pushFrame (.throwing q))) := by
  obtain ⟨mk, methM, cM, hnamed, hmethM, -, -, -, -, -, -, hsigM⟩ := Cond.codeWith_spec hcode
  have hstatic : methM.isStatic = true := Cond.static_spec hnamed hmethM hstat
  obtain ⟨kP, hkP, -⟩ := className_of_methodNamed hnamed
  have hinitP : kP.init = .initialized := Cond.initialized_spec (findClass_of_methodNamed hnamed) hkP hinit
  obtain ⟨vm₁, X₁, hstep₁⟩ := X.invokestatic hexec hown hlink hnamed hmethM hstatic hkP hinitP hy (g := g) hg (argsL := argsL) (rest := rest) (hlen _ hsigM) hstack hdg
  rcases hK m meth c ⟨T.setVm vm₁, locs, cells, slots⟩ { g with stack := rest } (.invokestatic index) mk argsL.toArray X₁ hg hsize hdg hW (X₁.named hnamed) (hpre vm₁ X₁.warmed) with ⟨v, B, X', hpost, hsteps⟩ | ⟨q, B, X', hpost, hsteps⟩
  · exact Or.inl ⟨v, vm₁, B, X₁.warmed, X', hpost, fun target h => hstep₁ _ fun acts => by rw [doInvoke_state]; exact hsteps.trans h⟩
  · exact Or.inr ⟨q, vm₁, B, X₁.warmed, X', hpost, hstep₁ _ fun acts => by rw [doInvoke_state]; exact hsteps⟩
theorem vx_callVW (X : Stand p l e R s m args below meth c T locs cells slots) (hexec : p.tables.exec = Jvm.exec) {own C : String} {index : Nat} {y : MethodName} {bytes : ByteArray} {maxL : Nat} {ret : Option FieldType} {hh : List (Nat × Nat × Nat × Nat)}
    (hown : s.vm.findClass own = some m.cls) (hlink : (Cond.methodLink own index y).before args s = true) (hinst : (Cond.instanceMethod y).before args s = true) (hsel : (Cond.selects C y y).before args s = true)
    (hcode : (Cond.codeWith y bytes maxL ret hh).before args s = true) (hy : y.cls ≠ "java/lang/invoke/MethodHandle" ∧ y.cls ≠ "java/lang/invoke/VarHandle")
    {W9 : Nat} {Pre : Pt → Array Value → Prop} {Post : Pt → Array Value → Option Value → Pt → Prop} (hK : Back l R p e below s args y 3 W9 Pre Post)
    {b : Addr} {cellB : Cell} (hcell : T.heap[b]? = some cellB) (hobj : cellB.vm.isStatics = false) (hcls : s.vm.findClass C = some cellB.cls)
    {g : JFrame} (hg : g.method = m) (hsize : g.locals.size = c.maxLocals) {argsL rest : List Value} (hlen : ∀ sig, parseMethodDescriptor y.desc = some sig → argsL.length = sig.parameters.length)
    (hstack : g.stack = argsL.reverse ++ .ref b :: rest) (hW : 2 * g.monitorRoom + (rest.map fun v => v.category).sum ≤ W9) (hdg : decode c.code g.pc = .ok (.invokevirtual index, 3))
    (hpre : ∀ vm₁, s.WarmedH vm₁ → Pre ⟨T.setVm vm₁, locs, cells, slots⟩ (Value.ref b :: argsL).toArray) :
    ∃ (v : Option Value) (vm₁ : Vm) (B : Pt), s.WarmedH vm₁ ∧ Stand p l e R s m args below meth c B.U B.locs B.cells B.slots ∧ Post ⟨T.setVm vm₁, locs, cells, slots⟩ (Value.ref b :: argsL).toArray v B ∧
      ∀ target, Steps p.tables e below (B.U.setTop { g with pc := g.pc + 3, stack := v.toList ++ rest }) target → Steps p.tables e below (T.setTop g) target := by
  obtain ⟨mk, methM, hnamed, hmethM, hstM, habM⟩ := Cond.instanceMethod_spec hinst
  obtain ⟨m8, methM', cM, hn8, hmethM', -, -, -, -, -, -, hsigM⟩ := Cond.codeWith_spec hcode
  cases Option.some.inj (hn8.symm.trans hnamed)
  cases hmethM.symm.trans hmethM'
  obtain ⟨c2, r2, m2, q1, q2, q3, q4, kP, hkP, hkPi⟩ := Cond.selects_spec hsel
  cases hcls.symm.trans q1
  cases (State.methodFound?_of_named hnamed hy).symm.trans q2
  cases hnamed.symm.trans q3
  have hselP : selectMethod e.platform s.vm cellB.cls mk = .method mk := by rw [Launch.admits_selectMethod X.admits]; exact q4
  obtain ⟨vm₁, X₁, hstep₁⟩ := X.invokevirtual hexec hown hlink hnamed hmethM hstM hkP hkPi hy (a := b) (cell := cellB) hcell
    (fun z h => by rw [h] at hobj; cases hobj) hselP hmethM habM hkP hkPi (g := g) hg (argsL := argsL) (rest := rest) (hlen _ hsigM) hstack hdg
  obtain ⟨v, B, X', hpost, hsteps⟩ := hK m meth c ⟨T.setVm vm₁, locs, cells, slots⟩ { g with stack := rest } (.invokevirtual index) mk (Value.ref b :: argsL).toArray X₁ hg hsize hdg hW (X₁.named hnamed) (hpre vm₁ X₁.warmed)
  exact ⟨v, vm₁, B, X₁.warmed, X', hpost, fun target h => hstep₁ _ fun acts => by rw [doInvoke_state]; exact hsteps.trans h⟩
abbrev vx_CVW (R : Room) (s : State) (args : Array Value) (own C : String) (index : Nat) (y : MethodName) (bytes : ByteArray) (maxL : Nat) (ret : Option FieldType) (hh : List (Nat × Nat × Nat × Nat)) (ws : List Cond) (rm : Room) (mc ms n : Nat) : Prop :=
  (rm.cells = mc ∧ rm.slots = ms ∧ rm.frames + 1 ≤ R.frames ∧ 8 + (maxL + 11) + rm.locals ≤ R.locals ∧ (∀ w ∈ ws, ∀ (a' : Array Value) (U : State), s.WarmedH U.vm → w.before a' U = true) ∧ Cond.codeWith y bytes maxL ret hh ∈ ws) ∧
  (Cond.codeWith y bytes maxL ret hh).before args s = true ∧ (Cond.initialized y.cls).before args s = true ∧ (y.cls ≠ "java/lang/invoke/MethodHandle" ∧ y.cls ≠ "java/lang/invoke/VarHandle") ∧
  (∀ sig, parseMethodDescriptor y.desc = some sig → n = sig.parameters.length) ∧ (Cond.methodLink own index y).before args s = true ∧ (Cond.instanceMethod y).before args s = true ∧ (Cond.selects C y y).before args s = true
theorem vx_cwVW {own C : String} {index maxL mc ms : Nat} {y : MethodName} {bytes : ByteArray} {ret : Option FieldType} {hh : List (Nat × Nat × Nat × Nat)} {Ts ws ws' : List Cond} {rm : Room} (n : Nat) (ht : ∀ w ∈ Ts, w.before args s = true) (hT : GoodIn Ts (wsV own index C y ws)) (hw : ws = Cond.codeWith y bytes maxL ret hh :: ws') (hrc : rm.cells = mc) (hrs : rm.slots = ms)
    (hd : y.cls = C ∧ y.cls ≠ "java/lang/invoke/MethodHandle" ∧ y.cls ≠ "java/lang/invoke/VarHandle" ∧ (parseMethodDescriptor y.desc).map (fun d => d.parameters.length) = some n) (hR : rm.frames + 1 ≤ R.frames ∧ 8 + (maxL + 11) + rm.locals ≤ R.locals) :
    vx_CVW R s args own C index y bytes maxL ret hh ws rm mc ms n := by
  obtain ⟨hC, hd⟩ := hd
  subst hC
  have ok : ∀ w ∈ wsV own index y.cls y ws, w.before args s = true := fun w h => ht w (hT w h).1
  have hG : GoodIn Ts ws := fun w h => hT w (by unfold wsV; exact List.mem_append_right _ h)
  have hc : Cond.codeWith y bytes maxL ret hh ∈ ws := by rw [hw]; exact List.mem_cons_self
  refine ⟨⟨hrc, hrs, hR.1, hR.2, pay_in ht hG, hc⟩, ht _ (hG _ hc).1, ok _ (by simp [wsV]), ⟨hd.1, hd.2.1⟩, fun sig h => ?_, ok _ (by simp [wsV]), ok _ (by simp [wsV]), ok _ (by simp [wsV])⟩
  have h2 := hd.2.2
  rw [h] at h2
  exact (Option.some.inj h2).symm
theorem vx_runVW {y : MethodName} {bytes cc : ByteArray} {maxL nL mc ms n index : Nat} {ret : Option FieldType} {hh : List (Nat × Nat × Nat × Nat)} {ws : List Cond} {rm : Room} {Pc : Array Value → State → Prop} {Qc : Array Value → State → Outcome → State → Prop} {free : Addr → Prop} {Ts : List Cond} {own C : String} {b : Addr} {As rest : List Value} {g : JFrame}
    (S : CallFix p m c cc nL s args Ts own) (hM : Met l y ws rm Pc Qc mc ms free) (cw : vx_CVW R s args own C index y bytes maxL ret hh ws rm mc ms n) (hp : PreV s H C b Pc As)
    (hg : g.method = m) (hn : As.length = n) (hsize : g.locals.size = nL) (hstack : g.stack = As.reverse ++ .ref b :: rest) (hW : 2 * g.monitorRoom + (rest.map fun v => v.category).sum ≤ 8) (hdg : decode cc g.pc = .ok (.invokevirtual index, 3)) (hf : cells + mc ≤ R.cells ∧ slots + ms ≤ R.slots) :
    va_Run p l e R s m args below meth c H locs cells slots mc ms g rest (Qc (Value.ref b :: As).toArray) free := by
  obtain ⟨⟨hrc, hrs, hfr, hlo, hws, hcw⟩, hcode, hini, hy, hlen, hl, hin, hse⟩ := cw
  have hK : Back l R p e below s args y 3 8 (PreOf R mc ms Pc) (PostOf Qc mc ms free) := va_backW (hh := hh) (bytes := bytes) (maxL := maxL) (ret := ret) hM hp.1 hrc hrs hfr hlo hws hcw (fun a' U hW => word_at hW (Or.inl (by first | rfl | simp [Cond.onTables, Cond.keeps, Cond.steady])) hini)
  obtain ⟨hx, hb, hml, ho, -⟩ := S
  obtain ⟨-, ⟨cellB, hcB, hoB, hclB⟩, hPc⟩ := hp
  intro T hT X
  obtain ⟨v, vm₁, ⟨U', l2, c2, s2⟩, hW₁, X', ⟨g', mk, t, L, e1, e2, hq, h1, hL, h2, h3⟩, st⟩ := vx_callVW X hx (C := C) (hh := hh) (bytes := bytes) (maxL := maxL) (ret := ret) ho hl hin hse hcode hy hK (by rw [hT]; exact hcB) hoB hclB hg (hsize.trans hml.symm) (argsL := As) (rest := rest) (fun sig h => hn.trans (hlen sig h)) hstack hW (by rw [hb]; exact hdg)
    (fun vm₁ hW₁ => ⟨hf.1, hf.2, hPc (T.setVm vm₁) hT hW₁⟩)
  dsimp only [Pt.U, Pt.locs, Pt.cells, Pt.slots] at X' e1 e2 h1 h2 h3 st
  subst h1; subst h2; subst h3
  exact ⟨v, (T.setVm vm₁).calling g' mk (Value.ref b :: As).toArray, t, U', L, hT, X', hL, e1, e2, hq, st⟩
section
variable {y : MethodName} {bytes cc : ByteArray} {maxL nL mc ms n index : Nat} {ret : Option FieldType} {ws : List Cond} {rm : Room} {Pc : Array Value → State → Prop} {Qc : Array Value → State → Outcome → State → Prop} {XC : String → State → State → Prop} {free : Addr → Prop} {Ts : List Cond} {own C : String} {b : Addr} {As rest : List Value} {g : JFrame}
theorem vx_runVX {hh : List (Nat × Nat × Nat × Nat)} (S : CallFix p m c cc nL s args Ts own) (hM : vx_Met l y ws rm Pc Qc XC mc ms free) (cw : vx_CVW R s args own C index y bytes maxL ret hh ws rm mc ms n) (hp : PreV s H C b Pc As)
    (hg : g.method = m) (hn : As.length = n) (hsize : g.locals.size = nL) (hstack : g.stack = As.reverse ++ .ref b :: rest) (hW : 2 * g.monitorRoom + (rest.map fun v => v.category).sum ≤ 8) (hdg : decode cc g.pc = .ok (.invokevirtual index, 3)) (hf : cells + mc ≤ R.cells ∧ slots + ms ≤ R.slots) :
    vx_Run p l e R s m args below meth c H locs cells slots mc ms g rest (Qc (Value.ref b :: As).toArray) XC free := by
  obtain ⟨⟨hrc, hrs, hfr, hlo, hws, hcw⟩, hcode, hini, hy, hlen, hl, hin, hse⟩ := cw
  have hK : vx_Back l R p e below s args y 3 8 (PreOf R mc ms Pc) (PostOf Qc mc ms free) (vx_Post XC mc ms free) := vx_backW (hh := hh) (bytes := bytes) (maxL := maxL) (ret := ret) hM hp.1 hrc hrs hfr hlo hws hcw (fun a' U hW => word_at hW (Or.inl (by first | rfl | simp [Cond.onTables, Cond.keeps, Cond.steady])) hini)
  obtain ⟨hx, hb, hml, ho, -⟩ := S
  obtain ⟨-, ⟨cellB, hcB, hoB, hclB⟩, hPc⟩ := hp
  intro T hT X
  rcases vx_callVX X hx (C := C) (hh := hh) (bytes := bytes) (maxL := maxL) (ret := ret) ho hl hin hse hcode hy hK (by rw [hT]; exact hcB) hoB hclB hg (hsize.trans hml.symm) (argsL := As) (rest := rest) (fun sig h => hn.trans (hlen sig h)) hstack hW (by rw [hb]; exact hdg)
    (fun vm₁ hW₁ => ⟨hf.1, hf.2, hPc (T.setVm vm₁) hT hW₁⟩) with ⟨v, vm₁, ⟨U', l2, c2, s2⟩, hW₁, X', ⟨g', mk, t, L, e1, e2, hq, h1, hL, h2, h3⟩, st⟩ | ⟨q, vm₁, ⟨U', l2, c2, s2⟩, hW₁, X', ⟨g', mk, t, L, E, ce, e1, e2, hq, hce, hcv, hcl, h1, hL, h2, h3⟩, st⟩
  · dsimp only [Pt.U, Pt.locs, Pt.cells, Pt.slots] at X' e1 e2 h1 h2 h3 st
    subst h1; subst h2; subst h3
    exact Or.inl ⟨v, (T.setVm vm₁).calling g' mk (Value.ref b :: As).toArray, t, U', L, hT, X', hL, e1, e2, hq, st⟩
  · dsimp only [Pt.U, Pt.locs, Pt.cells, Pt.slots] at X' e1 e2 h1 h2 h3 st hcl
    subst h1; subst h2; subst h3
    exact Or.inr ⟨q, (T.setVm vm₁).calling g' mk (Value.ref b :: As).toArray, t, U', L, E, ce, hT, X', hL, e1, e2, hq, hce, hcv, vx_cls hW₁ hcl, st⟩
theorem vx_runSX {hh : List (Nat × Nat × Nat × Nat)} (S : CallFix p m c cc nL s args Ts own) (hM : vx_Met l y ws rm Pc Qc XC mc ms free) (cw : vx_CSW R s args own index y bytes maxL ret hh ws rm mc ms n) (hp : PreS s H Pc As)
    (hg : g.method = m) (hn : As.length = n) (hsize : g.locals.size = nL) (hstack : g.stack = As.reverse ++ rest) (hW : 2 * g.monitorRoom + (rest.map fun v => v.category).sum ≤ 8) (hdg : decode cc g.pc = .ok (.invokestatic index, 3)) (hf : cells + mc ≤ R.cells ∧ slots + ms ≤ R.slots) :
    vx_Run p l e R s m args below meth c H locs cells slots mc ms g rest (Qc As.toArray) XC free := by
  obtain ⟨⟨hrc, hrs, hfr, hlo, hws, hcw⟩, hcode, hini, hy, hlen, hl, hstt⟩ := cw
  have hK : vx_Back l R p e below s args y 3 8 (PreOf R mc ms Pc) (PostOf Qc mc ms free) (vx_Post XC mc ms free) := vx_backW (hh := hh) (bytes := bytes) (maxL := maxL) (ret := ret) hM hp.1 hrc hrs hfr hlo hws hcw (fun a' U hW => word_at hW (Or.inl (by first | rfl | simp [Cond.onTables, Cond.keeps, Cond.steady])) hini)
  obtain ⟨hx, hb, hml, ho, -⟩ := S
  intro T hT X
  rcases vx_callSX X hx (hh := hh) (bytes := bytes) (maxL := maxL) (ret := ret) ho hl hstt hini hcode hy hK hg (hsize.trans hml.symm) (argsL := As) (rest := rest) (fun sig h => hn.trans (hlen sig h)) hstack hW (by rw [hb]; exact hdg)
    (fun vm₁ hW₁ => ⟨hf.1, hf.2, hp.2 (T.setVm vm₁) hT hW₁⟩) with ⟨v, vm₁, ⟨U', l2, c2, s2⟩, hW₁, X', ⟨g', mk, t, L, e1, e2, hq, h1, hL, h2, h3⟩, st⟩ | ⟨q, vm₁, ⟨U', l2, c2, s2⟩, hW₁, X', ⟨g', mk, t, L, E, ce, e1, e2, hq, hce, hcv, hcl, h1, hL, h2, h3⟩, st⟩
  · dsimp only [Pt.U, Pt.locs, Pt.cells, Pt.slots] at X' e1 e2 h1 h2 h3 st
    subst h1; subst h2; subst h3
    exact Or.inl ⟨v, (T.setVm vm₁).calling g' mk As.toArray, t, U', L, hT, X', hL, e1, e2, hq, st⟩
  · dsimp only [Pt.U, Pt.locs, Pt.cells, Pt.slots] at X' e1 e2 h1 h2 h3 st hcl
    subst h1; subst h2; subst h3
    exact Or.inr ⟨q, (T.setVm vm₁).calling g' mk As.toArray, t, U', L, E, ce, hT, X', hL, e1, e2, hq, hce, hcv, vx_cls hW₁ hcl, st⟩
end
end VXH
theorem vx_ofWH {l : Launch} {y : MethodName} {ws ws' : List Cond} {rm : Room} {Pc : Array Value → State → Prop} {Qc : Array Value → State → Outcome → State → Prop} {XC : String → State → State → Prop} {mc ms : Nat} {free : Addr → Prop} {cc : ByteArray} {maxL : Nat} {ret : Option FieldType} {hh : List (Nat × Nat × Nat × Nat)}
    (hy : plainName y.cls = true) (hw : ws = Cond.codeWith y cc maxL ret hh :: ws')
    (body : ∀ p e s m args below meth c s₁, BodyLoose p l y (headSpec ws rm) cc maxL ret e s m args below meth c s₁ → c.maxLocals = maxL → Pc args s →
      W p l e (headSpec ws rm).room s m args below meth c s.heap [] 0 0 (vx_MQ below Qc XC args s mc ms free) (entryFrame m args maxL)) : vx_Met l y ws rm Pc Qc XC mc ms free := by
  refine MetFree.of_bodyS (code := cc) (maxLocals := maxL) (ret := ret) hy ?_ ?_
  · intro args s m h hn
    obtain ⟨m9, meth, c, hn9, h1, h2, h3, h4, -, h5, h6, -⟩ := Cond.codeWith_spec (atoms_spec (ws := ws) h _ (by rw [hw]; exact List.mem_cons_self))
    cases hn.symm.trans hn9
    exact ⟨meth, c, h1, h2, h3, h4, h5, h6⟩
  · intro p e s m args below meth c s₁ B hml hP _
    have hh0 : s₁.heap = s.heap := by rw [B.state]; rfl
    obtain ⟨t, a1, o, b1, b2, b3⟩ := body p e s m args below meth c s₁ B hml hP s₁ hh0 (Stand.of_body B)
    exact ⟨t, o, a1, b1, b2, b3⟩
/-! ===== END ===== -/
end
section
def RX0 : String := "EdgeHolders$Graph"
def TX0 : u_T := fun k => match k with
  | 0 => ("EdgeHolders$Graph", "numbers", "LEdgeHolders$Row;", true)
  | 1 => ("EdgeHolders$Graph", "firsts", "LEdgeHolders$Row;", true)
  | 2 => ("EdgeHolders$Graph", "seconds", "LEdgeHolders$Row;", true)
  | 3 => ("EdgeHolders$Graph", "holders", "LEdgeHolders$Row;", true)
  | 4 => ("EdgeHolders$Graph", "turnings", "LEdgeHolders$Row;", true)
  | 5 => ("EdgeHolders$Graph", "loads", "LEdgeHolders$Row;", true)
  | 6 => ("EdgeHolders$Graph", "capacities", "LEdgeHolders$Row;", true)
  | 7 => ("EdgeHolders$Graph", "nodes", "I", false)
  | 8 => ("EdgeHolders$Graph", "edges", "I", false)
  | 9 => ("EdgeHolders$Graph", "nextNumber", "I", false)
  | _ => ("EdgeHolders$Graph", "turned", "I", false)
def tyX0 : Nat → FieldType := fun k => match k with
  | 0 => .object "EdgeHolders$Row"
  | 1 => .object "EdgeHolders$Row"
  | 2 => .object "EdgeHolders$Row"
  | 3 => .object "EdgeHolders$Row"
  | 4 => .object "EdgeHolders$Row"
  | 5 => .object "EdgeHolders$Row"
  | 6 => .object "EdgeHolders$Row"
  | 7 => .int
  | 8 => .int
  | 9 => .int
  | _ => .int
abbrev wsX00 : List Cond := u_ws RX0 TX0 11
theorem nmX0 : ∀ a, a < 11 → ∀ b, b < 11 → a ≠ b → (TX0 a).2.1 ≠ (TX0 b).2.1 := by decide +kernel
theorem tyX0_ok : ∀ k, k < 11 → parseFieldDescriptor (TX0 k).2.2.1 = some (tyX0 k) := by decide +kernel
abbrev cX0_init : ByteArray := prog_2_method_1_code
def yX0_init : MethodName := ⟨RX0, "<init>", "()V"⟩
abbrev cX0_restart : ByteArray := prog_2_method_2_code
def yX0_restart : MethodName := ⟨RX0, "restart", "(I)V"⟩
abbrev cX0_copyFrom : ByteArray := prog_2_method_3_code
def yX0_copyFrom : MethodName := ⟨RX0, "copyFrom", "(LEdgeHolders$Graph;)V"⟩
abbrev cX0_hasNode : ByteArray := prog_2_method_4_code
def yX0_hasNode : MethodName := ⟨RX0, "hasNode", "(I)Z"⟩
abbrev cX0_isFull : ByteArray := prog_2_method_5_code
def yX0_isFull : MethodName := ⟨RX0, "isFull", "()Z"⟩
abbrev cX0_slotOf : ByteArray := prog_2_method_6_code
def yX0_slotOf : MethodName := ⟨RX0, "slotOf", "(I)I"⟩
abbrev cX0_join : ByteArray := prog_2_method_7_code
def yX0_join : MethodName := ⟨RX0, "join", "(II)I"⟩
abbrev cX0_cut : ByteArray := prog_2_method_8_code
def yX0_cut : MethodName := ⟨RX0, "cut", "(I)I"⟩
abbrev cX0_flip : ByteArray := prog_2_method_9_code
def yX0_flip : MethodName := ⟨RX0, "flip", "(I)I"⟩
abbrev cX0_endNotHolding : ByteArray := prog_2_method_10_code
def yX0_endNotHolding : MethodName := ⟨RX0, "endNotHolding", "(I)I"⟩
abbrev cX0_endsOf : ByteArray := prog_2_method_11_code
def yX0_endsOf : MethodName := ⟨RX0, "endsOf", "(I)I"⟩
abbrev cX0_edgesOf : ByteArray := prog_2_method_12_code
def yX0_edgesOf : MethodName := ⟨RX0, "edgesOf", "(I)I"⟩
abbrev cX0_neighboursOf : ByteArray := prog_2_method_13_code
def yX0_neighboursOf : MethodName := ⟨RX0, "neighboursOf", "(I)I"⟩
abbrev cX0_countJoining : ByteArray := prog_2_method_14_code
def yX0_countJoining : MethodName := ⟨RX0, "countJoining", "(ILEdgeHolders$Row;)V"⟩
abbrev cX0_edgesWithin : ByteArray := prog_2_method_15_code
def yX0_edgesWithin : MethodName := ⟨RX0, "edgesWithin", "(I)I"⟩
abbrev cX0_firstSlotWithin : ByteArray := prog_2_method_16_code
def yX0_firstSlotWithin : MethodName := ⟨RX0, "firstSlotWithin", "(I)I"⟩
abbrev cX0_greatestLoad : ByteArray := prog_2_method_17_code
def yX0_greatestLoad : MethodName := ⟨RX0, "greatestLoad", "()I"⟩
abbrev cX0_leastLoad : ByteArray := prog_2_method_18_code
def yX0_leastLoad : MethodName := ⟨RX0, "leastLoad", "()I"⟩
abbrev cX0_squaresOfLoads : ByteArray := prog_2_method_19_code
def yX0_squaresOfLoads : MethodName := ⟨RX0, "squaresOfLoads", "()I"⟩
abbrev cX0_overloadedNodes : ByteArray := prog_2_method_20_code
def yX0_overloadedNodes : MethodName := ⟨RX0, "overloadedNodes", "()I"⟩
def RX1 : String := "EdgeHolders$History"
def TX1 : u_T := fun k => match k with
  | 0 => ("EdgeHolders$History", "states", "[LEdgeHolders$Graph;", true)
  | 1 => ("EdgeHolders$History", "next", "I", false)
  | _ => ("EdgeHolders$History", "saved", "I", false)
def tyX1 : Nat → FieldType := fun k => match k with
  | 0 => .array (.object "EdgeHolders$Graph")
  | 1 => .int
  | _ => .int
abbrev wsX10 : List Cond := u_ws RX1 TX1 3
theorem nmX1 : ∀ a, a < 3 → ∀ b, b < 3 → a ≠ b → (TX1 a).2.1 ≠ (TX1 b).2.1 := by decide +kernel
theorem tyX1_ok : ∀ k, k < 3 → parseFieldDescriptor (TX1 k).2.2.1 = some (tyX1 k) := by decide +kernel
abbrev cX1_init : ByteArray := prog_3_method_1_code
def yX1_init : MethodName := ⟨RX1, "<init>", "()V"⟩
abbrev cX1_save : ByteArray := prog_3_method_2_code
def yX1_save : MethodName := ⟨RX1, "save", "(LEdgeHolders$Graph;)V"⟩
abbrev cX1_restore : ByteArray := prog_3_method_3_code
def yX1_restore : MethodName := ⟨RX1, "restore", "(LEdgeHolders$Graph;)V"⟩
def RX2 : String := "EdgeHolders$OrderText"
def TX2 : u_T := fun k => match k with
  | 0 => ("EdgeHolders$OrderText", "bytes", "LEdgeHolders$Row;", true)
  | 1 => ("EdgeHolders$OrderText", "length", "I", false)
  | 2 => ("EdgeHolders$OrderText", "place", "I", false)
  | 3 => ("EdgeHolders$OrderText", "wrong", "I", false)
  | 4 => ("EdgeHolders$OrderText", "kind", "I", false)
  | 5 => ("EdgeHolders$OrderText", "firstNode", "I", false)
  | 6 => ("EdgeHolders$OrderText", "secondNode", "I", false)
  | _ => ("EdgeHolders$OrderText", "number", "I", false)
def tyX2 : Nat → FieldType := fun k => match k with
  | 0 => .object "EdgeHolders$Row"
  | 1 => .int
  | 2 => .int
  | 3 => .int
  | 4 => .int
  | 5 => .int
  | 6 => .int
  | _ => .int
abbrev wsX20 : List Cond := u_ws RX2 TX2 8
theorem nmX2 : ∀ a, a < 8 → ∀ b, b < 8 → a ≠ b → (TX2 a).2.1 ≠ (TX2 b).2.1 := by decide +kernel
theorem tyX2_ok : ∀ k, k < 8 → parseFieldDescriptor (TX2 k).2.2.1 = some (tyX2 k) := by decide +kernel
abbrev cX2_init : ByteArray := prog_4_method_1_code
def yX2_init : MethodName := ⟨RX2, "<init>", "()V"⟩
abbrev cX2_put : ByteArray := prog_4_method_2_code
def yX2_put : MethodName := ⟨RX2, "put", "(I)I"⟩
abbrev cX2_empty : ByteArray := prog_4_method_3_code
def yX2_empty : MethodName := ⟨RX2, "empty", "()I"⟩
abbrev cX2_rewind : ByteArray := prog_4_method_4_code
def yX2_rewind : MethodName := ⟨RX2, "rewind", "()V"⟩
abbrev cX2_findSyntaxError : ByteArray := prog_4_method_5_code
def yX2_findSyntaxError : MethodName := ⟨RX2, "findSyntaxError", "()I"⟩
abbrev cX2_readOrder : ByteArray := prog_4_method_6_code
def yX2_readOrder : MethodName := ⟨RX2, "readOrder", "()Z"⟩
abbrev cX2_current : ByteArray := prog_4_method_7_code
def yX2_current : MethodName := ⟨RX2, "current", "()I"⟩
abbrev cX2_noteWrong : ByteArray := prog_4_method_8_code
def yX2_noteWrong : MethodName := ⟨RX2, "noteWrong", "(I)V"⟩
abbrev cX2_readSign : ByteArray := prog_4_method_9_code
def yX2_readSign : MethodName := ⟨RX2, "readSign", "(I)V"⟩
abbrev cX2_readNode : ByteArray := prog_4_method_10_code
def yX2_readNode : MethodName := ⟨RX2, "readNode", "()I"⟩
abbrev cX2_readNumber : ByteArray := prog_4_method_11_code
def yX2_readNumber : MethodName := ⟨RX2, "readNumber", "(II)I"⟩
abbrev cX2_isAtDigit : ByteArray := prog_4_method_12_code
def yX2_isAtDigit : MethodName := ⟨RX2, "isAtDigit", "()Z"⟩
def RX3 : String := "EdgeHolders$PartTable"
def TX3 : u_T := fun k => match k with
  | 0 => ("EdgeHolders$PartTable", "innerEdges", "[I", true)
  | 1 => ("EdgeHolders$PartTable", "capacitySums", "[I", true)
  | 2 => ("EdgeHolders$PartTable", "joining", "LEdgeHolders$Row;", true)
  | 3 => ("EdgeHolders$PartTable", "sets", "I", false)
  | 4 => ("EdgeHolders$PartTable", "densestPart", "I", false)
  | 5 => ("EdgeHolders$PartTable", "leastLoad", "I", false)
  | _ => ("EdgeHolders$PartTable", "known", "Z", false)
def tyX3 : Nat → FieldType := fun k => match k with
  | 0 => .array .int
  | 1 => .array .int
  | 2 => .object "EdgeHolders$Row"
  | 3 => .int
  | 4 => .int
  | 5 => .int
  | _ => .boolean
abbrev wsX30 : List Cond := u_ws RX3 TX3 7
theorem nmX3 : ∀ a, a < 7 → ∀ b, b < 7 → a ≠ b → (TX3 a).2.1 ≠ (TX3 b).2.1 := by decide +kernel
theorem tyX3_ok : ∀ k, k < 7 → parseFieldDescriptor (TX3 k).2.2.1 = some (tyX3 k) := by decide +kernel
abbrev cX3_init : ByteArray := prog_5_method_1_code
def yX3_init : MethodName := ⟨RX3, "<init>", "()V"⟩
abbrev cX3_forget : ByteArray := prog_5_method_2_code
def yX3_forget : MethodName := ⟨RX3, "forget", "()V"⟩
abbrev cX3_learn : ByteArray := prog_5_method_3_code
def yX3_learn : MethodName := ⟨RX3, "learn", "(LEdgeHolders$Graph;)V"⟩
abbrev cX3_addSetsWith : ByteArray := prog_5_method_4_code
def yX3_addSetsWith : MethodName := ⟨RX3, "addSetsWith", "(I)V"⟩
abbrev cX3_writeSums : ByteArray := prog_5_method_5_code
def yX3_writeSums : MethodName := ⟨RX3, "writeSums", "([IILEdgeHolders$Row;I)V"⟩
abbrev cX3_innerWith : ByteArray := prog_5_method_6_code
def yX3_innerWith : MethodName := ⟨RX3, "innerWith", "(III)I"⟩
abbrev cX3_densestWith : ByteArray := prog_5_method_7_code
def yX3_densestWith : MethodName := ⟨RX3, "densestWith", "(II)I"⟩
abbrev cX3_leastLoadWith : ByteArray := prog_5_method_8_code
def yX3_leastLoadWith : MethodName := ⟨RX3, "leastLoadWith", "(II)I"⟩
abbrev cX3_roundedUpDensity : ByteArray := prog_5_method_9_code
def yX3_roundedUpDensity : MethodName := ⟨RX3, "roundedUpDensity", "(III)I"⟩
abbrev cX3_commonOfForcing : ByteArray := prog_5_method_10_code
def yX3_commonOfForcing : MethodName := ⟨RX3, "commonOfForcing", "()I"⟩
abbrev cX3_mostOverfull : ByteArray := prog_5_method_11_code
def yX3_mostOverfull : MethodName := ⟨RX3, "mostOverfull", "(LEdgeHolders$Row;I)I"⟩
def RX4 : String := "EdgeHolders$Row"
def TX4 : u_T := fun k => match k with
  | _ => ("EdgeHolders$Row", "cells", "[I", true)
def tyX4 : Nat → FieldType := fun k => match k with
  | _ => .array .int
abbrev wsX40 : List Cond := u_ws RX4 TX4 1
theorem nmX4 : ∀ a, a < 1 → ∀ b, b < 1 → a ≠ b → (TX4 a).2.1 ≠ (TX4 b).2.1 := by decide +kernel
theorem tyX4_ok : ∀ k, k < 1 → parseFieldDescriptor (TX4 k).2.2.1 = some (tyX4 k) := by decide +kernel
abbrev cX4_init : ByteArray := prog_6_method_1_code
def yX4_init : MethodName := ⟨RX4, "<init>", "(I)V"⟩
abbrev cX4_get : ByteArray := prog_6_method_2_code
def yX4_get : MethodName := ⟨RX4, "get", "(I)I"⟩
abbrev cX4_set : ByteArray := prog_6_method_3_code
def yX4_set : MethodName := ⟨RX4, "set", "(II)V"⟩
abbrev cX4_increase : ByteArray := prog_6_method_4_code
def yX4_increase : MethodName := ⟨RX4, "increase", "(II)V"⟩
abbrev cX4_fill : ByteArray := prog_6_method_5_code
def yX4_fill : MethodName := ⟨RX4, "fill", "(I)V"⟩
abbrev cX4_copyFrom : ByteArray := prog_6_method_6_code
def yX4_copyFrom : MethodName := ⟨RX4, "copyFrom", "(LEdgeHolders$Row;)V"⟩
abbrev cX4_closeGap : ByteArray := prog_6_method_7_code
def yX4_closeGap : MethodName := ⟨RX4, "closeGap", "(I)V"⟩
def RX5 : String := "EdgeHolders$Search"
def TX5 : u_T := fun k => match k with
  | 0 => ("EdgeHolders$Search", "order", "LEdgeHolders$Row;", true)
  | 1 => ("EdgeHolders$Search", "slotTo", "LEdgeHolders$Row;", true)
  | 2 => ("EdgeHolders$Search", "nodeBefore", "LEdgeHolders$Row;", true)
  | 3 => ("EdgeHolders$Search", "start", "I", false)
  | 4 => ("EdgeHolders$Search", "count", "I", false)
  | _ => ("EdgeHolders$Search", "visited", "I", false)
def tyX5 : Nat → FieldType := fun k => match k with
  | 0 => .object "EdgeHolders$Row"
  | 1 => .object "EdgeHolders$Row"
  | 2 => .object "EdgeHolders$Row"
  | 3 => .int
  | 4 => .int
  | _ => .int
abbrev wsX50 : List Cond := u_ws RX5 TX5 6
theorem nmX5 : ∀ a, a < 6 → ∀ b, b < 6 → a ≠ b → (TX5 a).2.1 ≠ (TX5 b).2.1 := by decide +kernel
theorem tyX5_ok : ∀ k, k < 6 → parseFieldDescriptor (TX5 k).2.2.1 = some (tyX5 k) := by decide +kernel
abbrev cX5_init : ByteArray := prog_7_method_1_code
def yX5_init : MethodName := ⟨RX5, "<init>", "()V"⟩
abbrev cX5_visitFrom : ByteArray := prog_7_method_2_code
def yX5_visitFrom : MethodName := ⟨RX5, "visitFrom", "(LEdgeHolders$Graph;I)V"⟩
abbrev cX5_visit : ByteArray := prog_7_method_3_code
def yX5_visit : MethodName := ⟨RX5, "visit", "(III)V"⟩
abbrev cX5_isVisited : ByteArray := prog_7_method_4_code
def yX5_isVisited : MethodName := ⟨RX5, "isVisited", "(I)Z"⟩
abbrev cX5_lengthTo : ByteArray := prog_7_method_5_code
def yX5_lengthTo : MethodName := ⟨RX5, "lengthTo", "(I)I"⟩
abbrev cX5_slotOnPathTo : ByteArray := prog_7_method_6_code
def yX5_slotOnPathTo : MethodName := ⟨RX5, "slotOnPathTo", "(II)I"⟩
abbrev cX5_firstLighter : ByteArray := prog_7_method_7_code
def yX5_firstLighter : MethodName := ⟨RX5, "firstLighter", "(LEdgeHolders$Graph;)I"⟩
abbrev cX5_flipPathTo : ByteArray := prog_7_method_8_code
def yX5_flipPathTo : MethodName := ⟨RX5, "flipPathTo", "(LEdgeHolders$Graph;I)I"⟩
abbrev cX5_relieveNode : ByteArray := prog_7_method_9_code
def yX5_relieveNode : MethodName := ⟨RX5, "relieveNode", "(LEdgeHolders$Graph;I)I"⟩
abbrev cX5_evenOut : ByteArray := prog_7_method_10_code
def yX5_evenOut : MethodName := ⟨RX5, "evenOut", "(LEdgeHolders$Graph;)I"⟩
def RX6 : String := "EdgeHolders"
def TX6 : u_T := fun k => match k with
  | 0 => ("EdgeHolders", "graph", "LEdgeHolders$Graph;", true)
  | 1 => ("EdgeHolders", "trial", "LEdgeHolders$Graph;", true)
  | 2 => ("EdgeHolders", "search", "LEdgeHolders$Search;", true)
  | 3 => ("EdgeHolders", "parts", "LEdgeHolders$PartTable;", true)
  | 4 => ("EdgeHolders", "text", "LEdgeHolders$OrderText;", true)
  | _ => ("EdgeHolders", "history", "LEdgeHolders$History;", true)
def tyX6 : Nat → FieldType := fun k => match k with
  | 0 => .object "EdgeHolders$Graph"
  | 1 => .object "EdgeHolders$Graph"
  | 2 => .object "EdgeHolders$Search"
  | 3 => .object "EdgeHolders$PartTable"
  | 4 => .object "EdgeHolders$OrderText"
  | _ => .object "EdgeHolders$History"
abbrev wsX60 : List Cond := u_ws RX6 TX6 6
theorem nmX6 : ∀ a, a < 6 → ∀ b, b < 6 → a ≠ b → (TX6 a).2.1 ≠ (TX6 b).2.1 := by decide +kernel
theorem tyX6_ok : ∀ k, k < 6 → parseFieldDescriptor (TX6 k).2.2.1 = some (tyX6 k) := by decide +kernel
abbrev cX6_init : ByteArray := prog_1_method_1_code
def yX6_init : MethodName := ⟨RX6, "<init>", "()V"⟩
abbrev cX6_begin : ByteArray := prog_1_method_2_code
def yX6_begin : MethodName := ⟨RX6, "begin", "(I)I"⟩
abbrev cX6_add : ByteArray := prog_1_method_3_code
def yX6_add : MethodName := ⟨RX6, "add", "(II)I"⟩
abbrev cX6_remove : ByteArray := prog_1_method_4_code
def yX6_remove : MethodName := ⟨RX6, "remove", "(I)I"⟩
abbrev cX6_turn : ByteArray := prog_1_method_5_code
def yX6_turn : MethodName := ⟨RX6, "turn", "(I)I"⟩
abbrev cX6_relieve : ByteArray := prog_1_method_6_code
def yX6_relieve : MethodName := ⟨RX6, "relieve", "(I)I"⟩
abbrev cX6_balance : ByteArray := prog_1_method_7_code
def yX6_balance : MethodName := ⟨RX6, "balance", "()I"⟩
abbrev cX6_setCapacity : ByteArray := prog_1_method_8_code
def yX6_setCapacity : MethodName := ⟨RX6, "setCapacity", "(II)I"⟩
abbrev cX6_node : ByteArray := prog_1_method_9_code
def yX6_node : MethodName := ⟨RX6, "node", "(II)I"⟩
abbrev cX6_edge : ByteArray := prog_1_method_10_code
def yX6_edge : MethodName := ⟨RX6, "edge", "(II)I"⟩
abbrev cX6_edgeAt : ByteArray := prog_1_method_11_code
def yX6_edgeAt : MethodName := ⟨RX6, "edgeAt", "(I)I"⟩
abbrev cX6_value : ByteArray := prog_1_method_12_code
def yX6_value : MethodName := ⟨RX6, "value", "(I)I"⟩
abbrev cX6_path : ByteArray := prog_1_method_13_code
def yX6_path : MethodName := ⟨RX6, "path", "(II)I"⟩
abbrev cX6_step : ByteArray := prog_1_method_14_code
def yX6_step : MethodName := ⟨RX6, "step", "(III)I"⟩
abbrev cX6_inner : ByteArray := prog_1_method_15_code
def yX6_inner : MethodName := ⟨RX6, "inner", "(I)I"⟩
abbrev cX6_densest : ByteArray := prog_1_method_16_code
def yX6_densest : MethodName := ⟨RX6, "densest", "()I"⟩
abbrev cX6_least : ByteArray := prog_1_method_17_code
def yX6_least : MethodName := ⟨RX6, "least", "()I"⟩
abbrev cX6_tooDense : ByteArray := prog_1_method_18_code
def yX6_tooDense : MethodName := ⟨RX6, "tooDense", "()I"⟩
abbrev cX6_leastWith : ByteArray := prog_1_method_19_code
def yX6_leastWith : MethodName := ⟨RX6, "leastWith", "(II)I"⟩
abbrev cX6_leastWithout : ByteArray := prog_1_method_20_code
def yX6_leastWithout : MethodName := ⟨RX6, "leastWithout", "(I)I"⟩
abbrev cX6_critical : ByteArray := prog_1_method_21_code
def yX6_critical : MethodName := ⟨RX6, "critical", "()I"⟩
abbrev cX6_turnsToBalance : ByteArray := prog_1_method_22_code
def yX6_turnsToBalance : MethodName := ⟨RX6, "turnsToBalance", "()I"⟩
abbrev cX6_leastCapacity : ByteArray := prog_1_method_23_code
def yX6_leastCapacity : MethodName := ⟨RX6, "leastCapacity", "()I"⟩
abbrev cX6_density : ByteArray := prog_1_method_24_code
def yX6_density : MethodName := ⟨RX6, "density", "()D"⟩
abbrev cX6_append : ByteArray := prog_1_method_25_code
def yX6_append : MethodName := ⟨RX6, "append", "(I)I"⟩
abbrev cX6_clearText : ByteArray := prog_1_method_26_code
def yX6_clearText : MethodName := ⟨RX6, "clearText", "()I"⟩
abbrev cX6_carryOut : ByteArray := prog_1_method_27_code
def yX6_carryOut : MethodName := ⟨RX6, "carryOut", "()I"⟩
abbrev cX6_undo : ByteArray := prog_1_method_28_code
def yX6_undo : MethodName := ⟨RX6, "undo", "()I"⟩
abbrev cX6_digest : ByteArray := prog_1_method_29_code
def yX6_digest : MethodName := ⟨RX6, "digest", "()J"⟩
abbrev cX6_mix : ByteArray := prog_1_method_30_code
def yX6_mix : MethodName := ⟨RX6, "mix", "(JJ)J"⟩
abbrev cX6_checkNode : ByteArray := prog_1_method_31_code
def yX6_checkNode : MethodName := ⟨RX6, "checkNode", "(I)V"⟩
abbrev cX6_checkDifferent : ByteArray := prog_1_method_32_code
def yX6_checkDifferent : MethodName := ⟨RX6, "checkDifferent", "(II)V"⟩
abbrev cX6_checkedSlot : ByteArray := prog_1_method_33_code
def yX6_checkedSlot : MethodName := ⟨RX6, "checkedSlot", "(I)I"⟩
abbrev cX6_obeyOrder : ByteArray := prog_1_method_34_code
def yX6_obeyOrder : MethodName := ⟨RX6, "obeyOrder", "()Z"⟩
abbrev cX6_obeyAdding : ByteArray := prog_1_method_35_code
def yX6_obeyAdding : MethodName := ⟨RX6, "obeyAdding", "(II)Z"⟩
abbrev cX6_obeyForEdge : ByteArray := prog_1_method_36_code
def yX6_obeyForEdge : MethodName := ⟨RX6, "obeyForEdge", "(II)Z"⟩
abbrev cX6_obeyCapacity : ByteArray := prog_1_method_37_code
def yX6_obeyCapacity : MethodName := ⟨RX6, "obeyCapacity", "(II)Z"⟩
def RX7 : String := "EdgeHoldersModel"
def TX7 : u_T := fun k => match k with
  | 0 => ("EdgeHoldersModel", "now", "[I", true)
  | 1 => ("EdgeHoldersModel", "before", "[I", true)
  | 2 => ("EdgeHoldersModel", "states", "[I", true)
  | 3 => ("EdgeHoldersModel", "text", "[I", true)
  | 4 => ("EdgeHoldersModel", "stateMany", "I", false)
  | 5 => ("EdgeHoldersModel", "stateAt", "I", false)
  | 6 => ("EdgeHoldersModel", "letters", "I", false)
  | 7 => ("EdgeHoldersModel", "code", "I", false)
  | 8 => ("EdgeHoldersModel", "queue", "[I", true)
  | 9 => ("EdgeHoldersModel", "by", "[I", true)
  | 10 => ("EdgeHoldersModel", "visited", "I", false)
  | 11 => ("EdgeHoldersModel", "queueMany", "I", false)
  | 12 => ("EdgeHoldersModel", "readAt", "I", false)
  | 13 => ("EdgeHoldersModel", "error", "I", false)
  | 14 => ("EdgeHoldersModel", "order", "I", false)
  | 15 => ("EdgeHoldersModel", "one", "I", false)
  | 16 => ("EdgeHoldersModel", "two", "I", false)
  | _ => ("EdgeHoldersModel", "hash", "J", false)
def tyX7 : Nat → FieldType := fun k => match k with
  | 0 => .array .int
  | 1 => .array .int
  | 2 => .array .int
  | 3 => .array .int
  | 4 => .int
  | 5 => .int
  | 6 => .int
  | 7 => .int
  | 8 => .array .int
  | 9 => .array .int
  | 10 => .int
  | 11 => .int
  | 12 => .int
  | 13 => .int
  | 14 => .int
  | 15 => .int
  | 16 => .int
  | _ => .long
abbrev wsX70 : List Cond := u_ws RX7 TX7 18
theorem nmX7 : ∀ a, a < 18 → ∀ b, b < 18 → a ≠ b → (TX7 a).2.1 ≠ (TX7 b).2.1 := by decide +kernel
theorem tyX7_ok : ∀ k, k < 18 → parseFieldDescriptor (TX7 k).2.2.1 = some (tyX7 k) := by decide +kernel
abbrev cX7_init : ByteArray := prog_9_method_1_code
def yX7_init : MethodName := ⟨RX7, "<init>", "()V"⟩
abbrev cX7_thrown : ByteArray := prog_9_method_2_code
def yX7_thrown : MethodName := ⟨RX7, "thrown", "()I"⟩
abbrev cX7_in : ByteArray := prog_9_method_3_code
def yX7_in : MethodName := ⟨RX7, "in", "(III)Z"⟩
abbrev cX7_refuses : ByteArray := prog_9_method_4_code
def yX7_refuses : MethodName := ⟨RX7, "refuses", "(ZZZ)Z"⟩
abbrev cX7_begins : ByteArray := prog_9_method_5_code
def yX7_begins : MethodName := ⟨RX7, "begins", "(I)V"⟩
abbrev cX7_isNode : ByteArray := prog_9_method_6_code
def yX7_isNode : MethodName := ⟨RX7, "isNode", "(I)Z"⟩
abbrev cX7_copy : ByteArray := prog_9_method_7_code
def yX7_copy : MethodName := ⟨RX7, "copy", "()V"⟩
abbrev cX7_back : ByteArray := prog_9_method_8_code
def yX7_back : MethodName := ⟨RX7, "back", "()V"⟩
abbrev cX7_save : ByteArray := prog_9_method_9_code
def yX7_save : MethodName := ⟨RX7, "save", "()V"⟩
abbrev cX7_undo : ByteArray := prog_9_method_10_code
def yX7_undo : MethodName := ⟨RX7, "undo", "()I"⟩
abbrev cX7_placeOf : ByteArray := prog_9_method_11_code
def yX7_placeOf : MethodName := ⟨RX7, "placeOf", "(I)I"⟩
abbrev cX7_holder : ByteArray := prog_9_method_12_code
def yX7_holder : MethodName := ⟨RX7, "holder", "(I)I"⟩
abbrev cX7_other : ByteArray := prog_9_method_13_code
def yX7_other : MethodName := ⟨RX7, "other", "(I)I"⟩
abbrev cX7_load : ByteArray := prog_9_method_14_code
def yX7_load : MethodName := ⟨RX7, "load", "(I)I"⟩
abbrev cX7_turns : ByteArray := prog_9_method_15_code
def yX7_turns : MethodName := ⟨RX7, "turns", "(I)V"⟩
abbrev cX7_adds : ByteArray := prog_9_method_16_code
def yX7_adds : MethodName := ⟨RX7, "adds", "(II)I"⟩
abbrev cX7_removes : ByteArray := prog_9_method_17_code
def yX7_removes : MethodName := ⟨RX7, "removes", "(I)I"⟩
abbrev cX7_begin : ByteArray := prog_9_method_18_code
def yX7_begin : MethodName := ⟨RX7, "begin", "(I)I"⟩
abbrev cX7_refusesAdd : ByteArray := prog_9_method_19_code
def yX7_refusesAdd : MethodName := ⟨RX7, "refusesAdd", "(II)Z"⟩
abbrev cX7_add : ByteArray := prog_9_method_20_code
def yX7_add : MethodName := ⟨RX7, "add", "(II)I"⟩
abbrev cX7_refusesEdge : ByteArray := prog_9_method_21_code
def yX7_refusesEdge : MethodName := ⟨RX7, "refusesEdge", "(I)Z"⟩
abbrev cX7_remove : ByteArray := prog_9_method_22_code
def yX7_remove : MethodName := ⟨RX7, "remove", "(I)I"⟩
abbrev cX7_turn : ByteArray := prog_9_method_23_code
def yX7_turn : MethodName := ⟨RX7, "turn", "(I)I"⟩
abbrev cX7_visits : ByteArray := prog_9_method_24_code
def yX7_visits : MethodName := ⟨RX7, "visits", "(I)V"⟩
abbrev cX7_lengthTo : ByteArray := prog_9_method_25_code
def yX7_lengthTo : MethodName := ⟨RX7, "lengthTo", "(I)I"⟩
abbrev cX7_reliefOf : ByteArray := prog_9_method_26_code
def yX7_reliefOf : MethodName := ⟨RX7, "reliefOf", "(I)I"⟩
abbrev cX7_relieves : ByteArray := prog_9_method_27_code
def yX7_relieves : MethodName := ⟨RX7, "relieves", "(I)I"⟩
abbrev cX7_greatest : ByteArray := prog_9_method_28_code
def yX7_greatest : MethodName := ⟨RX7, "greatest", "()I"⟩
abbrev cX7_balances : ByteArray := prog_9_method_29_code
def yX7_balances : MethodName := ⟨RX7, "balances", "()I"⟩
abbrev cX7_refusesRelief : ByteArray := prog_9_method_30_code
def yX7_refusesRelief : MethodName := ⟨RX7, "refusesRelief", "(I)Z"⟩
abbrev cX7_relieve : ByteArray := prog_9_method_31_code
def yX7_relieve : MethodName := ⟨RX7, "relieve", "(I)I"⟩
abbrev cX7_balance : ByteArray := prog_9_method_32_code
def yX7_balance : MethodName := ⟨RX7, "balance", "()I"⟩
abbrev cX7_refusesCapacity : ByteArray := prog_9_method_33_code
def yX7_refusesCapacity : MethodName := ⟨RX7, "refusesCapacity", "(II)Z"⟩
abbrev cX7_sets : ByteArray := prog_9_method_34_code
def yX7_sets : MethodName := ⟨RX7, "sets", "(II)I"⟩
abbrev cX7_setCapacity : ByteArray := prog_9_method_35_code
def yX7_setCapacity : MethodName := ⟨RX7, "setCapacity", "(II)I"⟩
abbrev cX7_bits : ByteArray := prog_9_method_36_code
def yX7_bits : MethodName := ⟨RX7, "bits", "(I)I"⟩
abbrev cX7_neighbours : ByteArray := prog_9_method_37_code
def yX7_neighbours : MethodName := ⟨RX7, "neighbours", "(I)I"⟩
abbrev cX7_degree : ByteArray := prog_9_method_38_code
def yX7_degree : MethodName := ⟨RX7, "degree", "(I)I"⟩
abbrev cX7_nodeOf : ByteArray := prog_9_method_39_code
def yX7_nodeOf : MethodName := ⟨RX7, "nodeOf", "(II)I"⟩
abbrev cX7_node : ByteArray := prog_9_method_40_code
def yX7_node : MethodName := ⟨RX7, "node", "(II)I"⟩
abbrev cX7_edgeOf : ByteArray := prog_9_method_41_code
def yX7_edgeOf : MethodName := ⟨RX7, "edgeOf", "(II)I"⟩
abbrev cX7_edge : ByteArray := prog_9_method_42_code
def yX7_edge : MethodName := ⟨RX7, "edge", "(II)I"⟩
abbrev cX7_edgeAt : ByteArray := prog_9_method_43_code
def yX7_edgeAt : MethodName := ⟨RX7, "edgeAt", "(I)I"⟩
abbrev cX7_valueOf : ByteArray := prog_9_method_44_code
def yX7_valueOf : MethodName := ⟨RX7, "valueOf", "(I)I"⟩
abbrev cX7_value : ByteArray := prog_9_method_45_code
def yX7_value : MethodName := ⟨RX7, "value", "(I)I"⟩
abbrev cX7_pathOf : ByteArray := prog_9_method_46_code
def yX7_pathOf : MethodName := ⟨RX7, "pathOf", "(II)I"⟩
abbrev cX7_path : ByteArray := prog_9_method_47_code
def yX7_path : MethodName := ⟨RX7, "path", "(II)I"⟩
abbrev cX7_step : ByteArray := prog_9_method_48_code
def yX7_step : MethodName := ⟨RX7, "step", "(III)I"⟩
abbrev cX7_innerOf : ByteArray := prog_9_method_49_code
def yX7_innerOf : MethodName := ⟨RX7, "innerOf", "(III)I"⟩
abbrev cX7_densestOf : ByteArray := prog_9_method_50_code
def yX7_densestOf : MethodName := ⟨RX7, "densestOf", "(II)I"⟩
abbrev cX7_leastOf : ByteArray := prog_9_method_51_code
def yX7_leastOf : MethodName := ⟨RX7, "leastOf", "(II)I"⟩
abbrev cX7_inner : ByteArray := prog_9_method_52_code
def yX7_inner : MethodName := ⟨RX7, "inner", "(I)I"⟩
abbrev cX7_densest : ByteArray := prog_9_method_53_code
def yX7_densest : MethodName := ⟨RX7, "densest", "()I"⟩
abbrev cX7_least : ByteArray := prog_9_method_54_code
def yX7_least : MethodName := ⟨RX7, "least", "()I"⟩
abbrev cX7_tooDense : ByteArray := prog_9_method_55_code
def yX7_tooDense : MethodName := ⟨RX7, "tooDense", "()I"⟩
abbrev cX7_leastWith : ByteArray := prog_9_method_56_code
def yX7_leastWith : MethodName := ⟨RX7, "leastWith", "(II)I"⟩
abbrev cX7_leastWithout : ByteArray := prog_9_method_57_code
def yX7_leastWithout : MethodName := ⟨RX7, "leastWithout", "(I)I"⟩
abbrev cX7_critical : ByteArray := prog_9_method_58_code
def yX7_critical : MethodName := ⟨RX7, "critical", "()I"⟩
abbrev cX7_turnsToBalance : ByteArray := prog_9_method_59_code
def yX7_turnsToBalance : MethodName := ⟨RX7, "turnsToBalance", "()I"⟩
abbrev cX7_leastCapacity : ByteArray := prog_9_method_60_code
def yX7_leastCapacity : MethodName := ⟨RX7, "leastCapacity", "()I"⟩
abbrev cX7_density : ByteArray := prog_9_method_61_code
def yX7_density : MethodName := ⟨RX7, "density", "()D"⟩
abbrev cX7_append : ByteArray := prog_9_method_62_code
def yX7_append : MethodName := ⟨RX7, "append", "(I)I"⟩
abbrev cX7_clearText : ByteArray := prog_9_method_63_code
def yX7_clearText : MethodName := ⟨RX7, "clearText", "()I"⟩
abbrev cX7_here : ByteArray := prog_9_method_64_code
def yX7_here : MethodName := ⟨RX7, "here", "()I"⟩
abbrev cX7_takes : ByteArray := prog_9_method_65_code
def yX7_takes : MethodName := ⟨RX7, "takes", "(II)Z"⟩
abbrev cX7_number : ByteArray := prog_9_method_66_code
def yX7_number : MethodName := ⟨RX7, "number", "(II)I"⟩
abbrev cX7_readsOrder : ByteArray := prog_9_method_67_code
def yX7_readsOrder : MethodName := ⟨RX7, "readsOrder", "()Z"⟩
abbrev cX7_does : ByteArray := prog_9_method_68_code
def yX7_does : MethodName := ⟨RX7, "does", "()Z"⟩
abbrev cX7_carryOut : ByteArray := prog_9_method_69_code
def yX7_carryOut : MethodName := ⟨RX7, "carryOut", "()I"⟩
abbrev cX7_hashes : ByteArray := prog_9_method_70_code
def yX7_hashes : MethodName := ⟨RX7, "hashes", "(J)V"⟩
abbrev cX7_digest : ByteArray := prog_9_method_71_code
def yX7_digest : MethodName := ⟨RX7, "digest", "()J"⟩
def RJx145de : String := "java/io/Serializable"
def TJx145de : u_T := fun k => match k with
  | _ => ("", "", "", false)
def tyJx145de : Nat → FieldType := fun k => match k with
  | _ => .int
abbrev wsJx145de0 : List Cond := u_ws RJx145de TJx145de 0
theorem nmJx145de : ∀ a, a < 0 → ∀ b, b < 0 → a ≠ b → (TJx145de a).2.1 ≠ (TJx145de b).2.1 := by decide +kernel
theorem tyJx145de_ok : ∀ k, k < 0 → parseFieldDescriptor (TJx145de k).2.2.1 = some (tyJx145de k) := by decide +kernel
def RJ6 : String := "java/lang/Integer"
def TJ6 : u_T := fun k => match k with
  | _ => ("", "", "", false)
def tyJ6 : Nat → FieldType := fun k => match k with
  | _ => .int
abbrev wsJ60 : List Cond := u_ws RJ6 TJ6 0
theorem nmJ6 : ∀ a, a < 0 → ∀ b, b < 0 → a ≠ b → (TJ6 a).2.1 ≠ (TJ6 b).2.1 := by decide +kernel
theorem tyJ6_ok : ∀ k, k < 0 → parseFieldDescriptor (TJ6 k).2.2.1 = some (tyJ6 k) := by decide +kernel
abbrev cJ6_bitCount_0f7a4 : ByteArray := prog_15_method_49_code
def yJ6_bitCount_0f7a4 : MethodName := ⟨RJ6, "bitCount", "(I)I"⟩
def RJ9 : String := "java/lang/Math"
def TJ9 : u_T := fun k => match k with
  | _ => ("", "", "", false)
def tyJ9 : Nat → FieldType := fun k => match k with
  | _ => .int
abbrev wsJ90 : List Cond := u_ws RJ9 TJ9 0
theorem nmJ9 : ∀ a, a < 0 → ∀ b, b < 0 → a ≠ b → (TJ9 a).2.1 ≠ (TJ9 b).2.1 := by decide +kernel
theorem tyJ9_ok : ∀ k, k < 0 → parseFieldDescriptor (TJ9 k).2.2.1 = some (tyJ9 k) := by decide +kernel
abbrev cJ9_max_7cf53 : ByteArray := prog_16_method_65_code
def yJ9_max_7cf53 : MethodName := ⟨RJ9, "max", "(II)I"⟩
abbrev cJ9_min_7cf53 : ByteArray := prog_16_method_69_code
def yJ9_min_7cf53 : MethodName := ⟨RJ9, "min", "(II)I"⟩
def RJ0 : String := "java/lang/String"
def TJ0 : u_T := fun k => match k with
  | _ => ("", "", "", false)
def tyJ0 : Nat → FieldType := fun k => match k with
  | _ => .int
abbrev wsJ00 : List Cond := u_ws RJ0 TJ0 0
theorem nmJ0 : ∀ a, a < 0 → ∀ b, b < 0 → a ≠ b → (TJ0 a).2.1 ≠ (TJ0 b).2.1 := by decide +kernel
theorem tyJ0_ok : ∀ k, k < 0 → parseFieldDescriptor (TJ0 k).2.2.1 = some (tyJ0 k) := by decide +kernel
def RL : String := "EdgeHoldersLaw"
abbrev cL_begin : ByteArray := method_3_code
def yL_begin : MethodName := ⟨RL, "begin", "(LEdgeHolders;I[J)I"⟩
abbrev cL_add : ByteArray := method_4_code
def yL_add : MethodName := ⟨RL, "add", "(LEdgeHolders;II[J)I"⟩
abbrev cL_remove : ByteArray := method_5_code
def yL_remove : MethodName := ⟨RL, "remove", "(LEdgeHolders;I[J)I"⟩
abbrev cL_turn : ByteArray := method_6_code
def yL_turn : MethodName := ⟨RL, "turn", "(LEdgeHolders;I[J)I"⟩
abbrev cL_relieve : ByteArray := method_7_code
def yL_relieve : MethodName := ⟨RL, "relieve", "(LEdgeHolders;I[J)I"⟩
abbrev cL_setCapacity : ByteArray := method_8_code
def yL_setCapacity : MethodName := ⟨RL, "setCapacity", "(LEdgeHolders;II[J)I"⟩
abbrev cL_node : ByteArray := method_9_code
def yL_node : MethodName := ⟨RL, "node", "(LEdgeHolders;II[J)I"⟩
abbrev cL_edge : ByteArray := method_10_code
def yL_edge : MethodName := ⟨RL, "edge", "(LEdgeHolders;II[J)I"⟩
abbrev cL_edgeAt : ByteArray := method_11_code
def yL_edgeAt : MethodName := ⟨RL, "edgeAt", "(LEdgeHolders;I[J)I"⟩
abbrev cL_value : ByteArray := method_12_code
def yL_value : MethodName := ⟨RL, "value", "(LEdgeHolders;I[J)I"⟩
abbrev cL_path : ByteArray := method_13_code
def yL_path : MethodName := ⟨RL, "path", "(LEdgeHolders;II[J)I"⟩
abbrev cL_step : ByteArray := method_14_code
def yL_step : MethodName := ⟨RL, "step", "(LEdgeHolders;III[J)I"⟩
abbrev cL_inner : ByteArray := method_15_code
def yL_inner : MethodName := ⟨RL, "inner", "(LEdgeHolders;I[J)I"⟩
abbrev cL_leastWith : ByteArray := method_16_code
def yL_leastWith : MethodName := ⟨RL, "leastWith", "(LEdgeHolders;II[J)I"⟩
abbrev cL_leastWithout : ByteArray := method_17_code
def yL_leastWithout : MethodName := ⟨RL, "leastWithout", "(LEdgeHolders;I[J)I"⟩
abbrev cL_append : ByteArray := method_18_code
def yL_append : MethodName := ⟨RL, "append", "(LEdgeHolders;I[J)I"⟩
abbrev cL_undo : ByteArray := method_19_code
def yL_undo : MethodName := ⟨RL, "undo", "(LEdgeHolders;[J)I"⟩
abbrev cL_law : ByteArray := code
def yL_law : MethodName := ⟨RL, "law", "([I)Z"⟩
def wsL_law0_r1 : List Cond := [Cond.classLink RL 8 RX6, Cond.instantiable RX6 6, Cond.initialized RX6, Cond.classLink RL 73 RX7, Cond.instantiable RX7 18, Cond.initialized RX7, Cond.arrayClass .long, Cond.methodLink RL 72 yX6_init, Cond.instanceMethod yX6_init, Cond.code yX6_init cX6_init 1 none, Cond.methodLink RX6 1 objectInit, Cond.instanceMethod objectInit, Cond.code objectInit ⟨#[0xb1]⟩ 1 none, Cond.classLink RX6 7 RX0, Cond.instantiable RX0 11, Cond.initialized RX0, Cond.fieldLink RX6 10 "EdgeHolders" "graph" "LEdgeHolders$Graph;", Cond.fieldLink RX6 16 "EdgeHolders" "trial" "LEdgeHolders$Graph;", Cond.classLink RX6 19 RX5, Cond.instantiable RX5 6, Cond.initialized RX5, Cond.fieldLink RX6 22 "EdgeHolders" "search" "LEdgeHolders$Search;", Cond.classLink RX6 26 RX3, Cond.instantiable RX3 7]
def wsL_law0_r2 : List Cond := [Cond.initialized RX3, Cond.fieldLink RX6 29 "EdgeHolders" "parts" "LEdgeHolders$PartTable;", Cond.classLink RX6 33 RX2, Cond.instantiable RX2 8, Cond.initialized RX2, Cond.fieldLink RX6 36 "EdgeHolders" "text" "LEdgeHolders$OrderText;", Cond.classLink RX6 40 RX1, Cond.instantiable RX1 3, Cond.initialized RX1, Cond.fieldLink RX6 43 "EdgeHolders" "history" "LEdgeHolders$History;", Cond.methodLink RX6 9 yX0_init, Cond.instanceMethod yX0_init, Cond.code yX0_init cX0_init 1 none, Cond.methodLink RX0 3 objectInit, Cond.classLink RX0 9 RX4, Cond.instantiable RX4 1, Cond.initialized RX4, Cond.fieldLink RX0 14 "EdgeHolders$Graph" "numbers" "LEdgeHolders$Row;", Cond.fieldLink RX0 20 "EdgeHolders$Graph" "firsts" "LEdgeHolders$Row;", Cond.fieldLink RX0 23 "EdgeHolders$Graph" "seconds" "LEdgeHolders$Row;", Cond.fieldLink RX0 26 "EdgeHolders$Graph" "holders" "LEdgeHolders$Row;", Cond.fieldLink RX0 29 "EdgeHolders$Graph" "turnings" "LEdgeHolders$Row;", Cond.fieldLink RX0 32 "EdgeHolders$Graph" "loads" "LEdgeHolders$Row;", Cond.fieldLink RX0 35 "EdgeHolders$Graph" "capacities" "LEdgeHolders$Row;"]
def wsL_law0_r3 : List Cond := [Cond.methodLink RX0 11 yX4_init, Cond.instanceMethod yX4_init, Cond.code yX4_init cX4_init 2 none, Cond.methodLink RX4 1 objectInit, Cond.arrayClass .int, Cond.fieldLink RX4 7 "EdgeHolders$Row" "cells" "[I", Cond.methodLink RX0 38 yX0_restart, Cond.instanceMethod yX0_restart, Cond.selects RX0 yX0_restart yX0_restart, Cond.code yX0_restart cX0_restart 2 none, Cond.fieldLink RX0 41 "EdgeHolders$Graph" "nodes" "I", Cond.fieldLink RX0 45 "EdgeHolders$Graph" "edges" "I", Cond.fieldLink RX0 48 "EdgeHolders$Graph" "nextNumber" "I", Cond.fieldLink RX0 51 "EdgeHolders$Graph" "turned" "I", Cond.methodLink RX0 54 yX4_fill, Cond.instanceMethod yX4_fill, Cond.selects RX4 yX4_fill yX4_fill, Cond.code yX4_fill cX4_fill 3 none, Cond.instanceMethod yX5_init, Cond.code yX5_init cX5_init 1 none, Cond.methodLink RX5 3 objectInit, Cond.classLink RX5 9 RX4, Cond.fieldLink RX5 14 "EdgeHolders$Search" "order" "LEdgeHolders$Row;", Cond.fieldLink RX5 20 "EdgeHolders$Search" "slotTo" "LEdgeHolders$Row;"]
def wsL_law0_r4 : List Cond := [Cond.fieldLink RX5 23 "EdgeHolders$Search" "nodeBefore" "LEdgeHolders$Row;", Cond.methodLink RX5 11 yX4_init, Cond.instanceMethod yX3_init, Cond.code yX3_init cX3_init 1 none, Cond.methodLink RX3 3 objectInit, Cond.fieldLink RX3 9 "EdgeHolders$PartTable" "innerEdges" "[I", Cond.fieldLink RX3 15 "EdgeHolders$PartTable" "capacitySums" "[I", Cond.classLink RX3 18 RX4, Cond.fieldLink RX3 23 "EdgeHolders$PartTable" "joining" "LEdgeHolders$Row;", Cond.methodLink RX3 20 yX4_init, Cond.instanceMethod yX2_init, Cond.code yX2_init cX2_init 1 none, Cond.methodLink RX2 3 objectInit, Cond.classLink RX2 9 RX4, Cond.fieldLink RX2 14 "EdgeHolders$OrderText" "bytes" "LEdgeHolders$Row;", Cond.fieldLink RX2 20 "EdgeHolders$OrderText" "wrong" "I", Cond.methodLink RX2 11 yX4_init, Cond.methodLink RX6 42 yX1_init, Cond.instanceMethod yX1_init, Cond.code yX1_init cX1_init 2 none, Cond.methodLink RX1 3 objectInit, Cond.classLink RX1 9 RX0, Cond.fieldLink RX1 11 "EdgeHolders$History" "states" "[LEdgeHolders$Graph;", Cond.methodLink RX1 17 yX0_init]
def wsL_law0_r5 : List Cond := [Cond.methodLink RL 75 yX7_init, Cond.instanceMethod yX7_init, Cond.code yX7_init cX7_init 1 none, Cond.methodLink RX7 1 objectInit, Cond.fieldLink RX7 7 "EdgeHoldersModel" "now" "[I", Cond.fieldLink RX7 13 "EdgeHoldersModel" "before" "[I", Cond.fieldLink RX7 16 "EdgeHoldersModel" "states" "[I", Cond.fieldLink RX7 19 "EdgeHoldersModel" "text" "[I", Cond.fieldLink RX7 22 "EdgeHoldersModel" "queue" "[I", Cond.fieldLink RX7 25 "EdgeHoldersModel" "by" "[I", Cond.methodLink RX7 28 yX7_begins, Cond.instanceMethod yX7_begins, Cond.selects RX7 yX7_begins yX7_begins, Cond.code yX7_begins cX7_begins 3 none, Cond.methodLink RL 76 yL_begin, Cond.static yL_begin, Cond.initialized RL, Cond.codeWith yL_begin cL_begin 4 (some .int) [(0, 9, 12, 13)], Cond.classLink RL 13 "java/lang/IllegalArgumentException", Cond.methodLink RL 7 yX6_begin, Cond.instanceMethod yX6_begin, Cond.selects RX6 yX6_begin yX6_begin, Cond.code yX6_begin cX6_begin 3 (some .int), Cond.classLink RX6 47 "java/lang/IllegalArgumentException"]
def wsL_law0_r6 : List Cond := [Cond.initialized "java/lang/IllegalArgumentException", Cond.methodLink RX6 58 yX1_save, Cond.instanceMethod yX1_save, Cond.selects RX1 yX1_save yX1_save, Cond.code yX1_save cX1_save 2 none, Cond.fieldLink RX1 18 "EdgeHolders$History" "next" "I", Cond.fieldLink RX1 26 "EdgeHolders$History" "saved" "I", Cond.methodLink RX1 29 Lib.Math.min.name, Cond.static Lib.Math.min.name, Cond.initialized "java/lang/Math", Cond.code Lib.Math.min.name Lib.Math.min.code 2 (some .int), Cond.methodLink RX1 22 yX0_copyFrom, Cond.instanceMethod yX0_copyFrom, Cond.selects RX0 yX0_copyFrom yX0_copyFrom, Cond.code yX0_copyFrom cX0_copyFrom 2 none, Cond.methodLink RX0 57 yX4_copyFrom, Cond.instanceMethod yX4_copyFrom, Cond.selects RX4 yX4_copyFrom yX4_copyFrom, Cond.code yX4_copyFrom cX4_copyFrom 3 none, Cond.methodLink RX6 62 yX0_restart, Cond.methodLink RX6 66 yX3_forget, Cond.instanceMethod yX3_forget, Cond.selects RX3 yX3_forget yX3_forget, Cond.code yX3_forget cX3_forget 1 none]
def wsL_law0_r7 : List Cond := [Cond.fieldLink RX3 27 "EdgeHolders$PartTable" "known" "Z", Cond.methodLink RL 81 yX7_begin, Cond.instanceMethod yX7_begin, Cond.selects RX7 yX7_begin yX7_begin, Cond.code yX7_begin cX7_begin 3 (some .int), Cond.methodLink RX7 36 yX7_in, Cond.static yX7_in, Cond.code yX7_in cX7_in 3 (some .boolean), Cond.methodLink RX7 46 yX7_refuses, Cond.instanceMethod yX7_refuses, Cond.selects RX7 yX7_refuses yX7_refuses, Cond.code yX7_refuses cX7_refuses 4 (some .boolean), Cond.fieldLink RX7 32 "EdgeHoldersModel" "code" "I", Cond.methodLink RX7 57 yX7_save, Cond.instanceMethod yX7_save, Cond.selects RX7 yX7_save yX7_save, Cond.code yX7_save cX7_save 2 none, Cond.fieldLink RX7 40 "EdgeHoldersModel" "stateAt" "I", Cond.fieldLink RX7 43 "EdgeHoldersModel" "stateMany" "I", Cond.methodLink RL 82 yX7_thrown, Cond.instanceMethod yX7_thrown, Cond.selects RX7 yX7_thrown yX7_thrown, Cond.code yX7_thrown cX7_thrown 1 (some .int), Cond.methodLink RL 85 yL_add]
def wsL_law0_r8 : List Cond := [Cond.static yL_add, Cond.codeWith yL_add cL_add 5 (some .int) [(0, 10, 13, 19), (0, 10, 17, 13), (0, 10, 21, 21)], Cond.classLink RL 19 "java/lang/IndexOutOfBoundsException", Cond.classLink RL 21 "java/lang/IllegalStateException", Cond.methodLink RL 15 yX6_add, Cond.instanceMethod yX6_add, Cond.selects RX6 yX6_add yX6_add, Cond.code yX6_add cX6_add 3 (some .int), Cond.classLink RX6 80 "java/lang/IllegalStateException", Cond.initialized "java/lang/IllegalStateException", Cond.methodLink RX6 69 yX6_checkNode, Cond.instanceMethod yX6_checkNode, Cond.selects RX6 yX6_checkNode yX6_checkNode, Cond.code yX6_checkNode cX6_checkNode 2 none, Cond.classLink RX6 161 "java/lang/IndexOutOfBoundsException", Cond.initialized "java/lang/IndexOutOfBoundsException", Cond.methodLink RX6 290 yX0_hasNode, Cond.instanceMethod yX0_hasNode, Cond.selects RX0 yX0_hasNode yX0_hasNode, Cond.code yX0_hasNode cX0_hasNode 2 (some .boolean), Cond.methodLink RX6 72 yX6_checkDifferent, Cond.static yX6_checkDifferent, Cond.code yX6_checkDifferent cX6_checkDifferent 2 none, Cond.methodLink RX6 76 yX0_isFull]
def wsL_law0_r9 : List Cond := [Cond.instanceMethod yX0_isFull, Cond.selects RX0 yX0_isFull yX0_isFull, Cond.code yX0_isFull cX0_isFull 1 (some .boolean), Cond.methodLink RX6 85 yX0_join, Cond.instanceMethod yX0_join, Cond.selects RX0 yX0_join yX0_join, Cond.code yX0_join cX0_join 6 (some .int), Cond.methodLink RX0 61 yX4_get, Cond.instanceMethod yX4_get, Cond.selects RX4 yX4_get yX4_get, Cond.code yX4_get cX4_get 2 (some .int), Cond.methodLink RX0 65 yX4_set, Cond.instanceMethod yX4_set, Cond.selects RX4 yX4_set yX4_set, Cond.code yX4_set cX4_set 3 none, Cond.methodLink RX0 69 yX4_increase, Cond.instanceMethod yX4_increase, Cond.selects RX4 yX4_increase yX4_increase, Cond.code yX4_increase cX4_increase 3 none, Cond.methodLink RL 88 yX7_add, Cond.instanceMethod yX7_add, Cond.selects RX7 yX7_add yX7_add, Cond.code yX7_add cX7_add 3 (some .int), Cond.methodLink RX7 64 yX7_refusesAdd]
def wsL_law0_r10 : List Cond := [Cond.instanceMethod yX7_refusesAdd, Cond.selects RX7 yX7_refusesAdd yX7_refusesAdd, Cond.code yX7_refusesAdd cX7_refusesAdd 3 (some .boolean), Cond.methodLink RX7 60 yX7_isNode, Cond.instanceMethod yX7_isNode, Cond.selects RX7 yX7_isNode yX7_isNode, Cond.code yX7_isNode cX7_isNode 2 (some .boolean), Cond.methodLink RX7 68 yX7_adds, Cond.instanceMethod yX7_adds, Cond.selects RX7 yX7_adds yX7_adds, Cond.code yX7_adds cX7_adds 4 (some .int), Cond.methodLink RX7 54 yX7_load, Cond.instanceMethod yX7_load, Cond.selects RX7 yX7_load yX7_load, Cond.code yX7_load cX7_load 4 (some .int), Cond.methodLink RX7 50 yX7_holder, Cond.instanceMethod yX7_holder, Cond.selects RX7 yX7_holder yX7_holder, Cond.code yX7_holder cX7_holder 2 (some .int), Cond.methodLink RL 89 yL_remove, Cond.static yL_remove, Cond.codeWith yL_remove cL_remove 4 (some .int) [(0, 9, 12, 26)], Cond.classLink RL 26 "java/util/NoSuchElementException", Cond.methodLink RL 23 yX6_remove]
def wsL_law0_r11 : List Cond := [Cond.instanceMethod yX6_remove, Cond.selects RX6 yX6_remove yX6_remove, Cond.code yX6_remove cX6_remove 3 (some .int), Cond.methodLink RX6 89 yX6_checkedSlot, Cond.instanceMethod yX6_checkedSlot, Cond.selects RX6 yX6_checkedSlot yX6_checkedSlot, Cond.code yX6_checkedSlot cX6_checkedSlot 3 (some .int), Cond.classLink RX6 301 "java/util/NoSuchElementException", Cond.initialized "java/util/NoSuchElementException", Cond.methodLink RX6 298 yX0_slotOf, Cond.instanceMethod yX0_slotOf, Cond.selects RX0 yX0_slotOf yX0_slotOf, Cond.code yX0_slotOf cX0_slotOf 3 (some .int), Cond.methodLink RX6 93 yX0_cut, Cond.instanceMethod yX0_cut, Cond.selects RX0 yX0_cut yX0_cut, Cond.code yX0_cut cX0_cut 3 (some .int), Cond.methodLink RX0 72 yX4_closeGap, Cond.instanceMethod yX4_closeGap, Cond.selects RX4 yX4_closeGap yX4_closeGap, Cond.code yX4_closeGap cX4_closeGap 3 none, Cond.methodLink RL 91 yX7_remove, Cond.instanceMethod yX7_remove, Cond.selects RX7 yX7_remove yX7_remove]
def wsL_law0_r12 : List Cond := [Cond.code yX7_remove cX7_remove 2 (some .int), Cond.methodLink RX7 75 yX7_refusesEdge, Cond.instanceMethod yX7_refusesEdge, Cond.selects RX7 yX7_refusesEdge yX7_refusesEdge, Cond.code yX7_refusesEdge cX7_refusesEdge 2 (some .boolean), Cond.methodLink RX7 72 yX7_placeOf, Cond.instanceMethod yX7_placeOf, Cond.selects RX7 yX7_placeOf yX7_placeOf, Cond.code yX7_placeOf cX7_placeOf 3 (some .int), Cond.methodLink RX7 78 yX7_removes, Cond.instanceMethod yX7_removes, Cond.selects RX7 yX7_removes yX7_removes, Cond.code yX7_removes cX7_removes 5 (some .int), Cond.methodLink RL 92 yL_turn, Cond.static yL_turn, Cond.codeWith yL_turn cL_turn 4 (some .int) [(0, 9, 12, 26)], Cond.methodLink RL 28 yX6_turn, Cond.instanceMethod yX6_turn, Cond.selects RX6 yX6_turn yX6_turn, Cond.code yX6_turn cX6_turn 3 (some .int), Cond.methodLink RX6 96 yX0_flip, Cond.instanceMethod yX0_flip, Cond.selects RX0 yX0_flip yX0_flip, Cond.code yX0_flip cX0_flip 4 (some .int)]
def wsL_law0_r13 : List Cond := [Cond.methodLink RL 94 yX7_turn, Cond.instanceMethod yX7_turn, Cond.selects RX7 yX7_turn yX7_turn, Cond.code yX7_turn cX7_turn 3 (some .int), Cond.methodLink RX7 81 yX7_turns, Cond.instanceMethod yX7_turns, Cond.selects RX7 yX7_turns yX7_turns, Cond.code yX7_turns cX7_turns 2 none, Cond.methodLink RL 95 yL_relieve, Cond.static yL_relieve, Cond.codeWith yL_relieve cL_relieve 4 (some .int) [(0, 9, 12, 19), (0, 9, 15, 21)], Cond.methodLink RL 31 yX6_relieve, Cond.instanceMethod yX6_relieve, Cond.selects RX6 yX6_relieve yX6_relieve, Cond.code yX6_relieve cX6_relieve 3 (some .int), Cond.methodLink RX6 99 yX5_visitFrom, Cond.instanceMethod yX5_visitFrom, Cond.selects RX5 yX5_visitFrom yX5_visitFrom, Cond.code yX5_visitFrom cX5_visitFrom 6 none, Cond.fieldLink RX5 26 "EdgeHolders$Search" "start" "I", Cond.fieldLink RX5 30 "EdgeHolders$Search" "count" "I", Cond.fieldLink RX5 33 "EdgeHolders$Search" "visited" "I", Cond.methodLink RX5 36 yX5_visit, Cond.instanceMethod yX5_visit]
def wsL_law0_r14 : List Cond := [Cond.selects RX5 yX5_visit yX5_visit, Cond.code yX5_visit cX5_visit 4 none, Cond.methodLink RX5 55 yX5_isVisited, Cond.instanceMethod yX5_isVisited, Cond.selects RX5 yX5_isVisited yX5_isVisited, Cond.code yX5_isVisited cX5_isVisited 2 (some .boolean), Cond.methodLink RX5 59 yX4_set, Cond.methodLink RX5 40 yX4_get, Cond.methodLink RX5 52 yX0_endNotHolding, Cond.instanceMethod yX0_endNotHolding, Cond.selects RX0 yX0_endNotHolding yX0_endNotHolding, Cond.code yX0_endNotHolding cX0_endNotHolding 2 (some .int), Cond.methodLink RX6 103 yX5_firstLighter, Cond.instanceMethod yX5_firstLighter, Cond.selects RX5 yX5_firstLighter yX5_firstLighter, Cond.code yX5_firstLighter cX5_firstLighter 4 (some .int), Cond.methodLink RX6 109 yX5_flipPathTo, Cond.instanceMethod yX5_flipPathTo, Cond.selects RX5 yX5_flipPathTo yX5_flipPathTo, Cond.code yX5_flipPathTo cX5_flipPathTo 6 (some .int), Cond.methodLink RX5 63 yX5_lengthTo, Cond.instanceMethod yX5_lengthTo, Cond.selects RX5 yX5_lengthTo yX5_lengthTo, Cond.code yX5_lengthTo cX5_lengthTo 4 (some .int)]
def wsL_law0_r15 : List Cond := [Cond.methodLink RX5 69 yX0_flip, Cond.methodLink RL 97 yX7_relieve, Cond.instanceMethod yX7_relieve, Cond.selects RX7 yX7_relieve yX7_relieve, Cond.code yX7_relieve cX7_relieve 2 (some .int), Cond.methodLink RX7 106 yX7_refusesRelief, Cond.instanceMethod yX7_refusesRelief, Cond.selects RX7 yX7_refusesRelief yX7_refusesRelief, Cond.code yX7_refusesRelief cX7_refusesRelief 2 (some .boolean), Cond.methodLink RX7 96 yX7_reliefOf, Cond.instanceMethod yX7_reliefOf, Cond.selects RX7 yX7_reliefOf yX7_reliefOf, Cond.code yX7_reliefOf cX7_reliefOf 4 (some .int), Cond.fieldLink RX7 84 "EdgeHoldersModel" "queueMany" "I", Cond.methodLink RX7 93 yX7_visits, Cond.instanceMethod yX7_visits, Cond.selects RX7 yX7_visits yX7_visits, Cond.code yX7_visits cX7_visits 5 none, Cond.fieldLink RX7 87 "EdgeHoldersModel" "visited" "I", Cond.methodLink RX7 90 yX7_other, Cond.instanceMethod yX7_other, Cond.selects RX7 yX7_other yX7_other, Cond.code yX7_other cX7_other 2 (some .int), Cond.methodLink RX7 103 yX7_relieves]
def wsL_law0_r16 : List Cond := [Cond.instanceMethod yX7_relieves, Cond.selects RX7 yX7_relieves yX7_relieves, Cond.code yX7_relieves cX7_relieves 5 (some .int), Cond.methodLink RL 98 yX6_balance, Cond.instanceMethod yX6_balance, Cond.selects RX6 yX6_balance yX6_balance, Cond.code yX6_balance cX6_balance 1 (some .int), Cond.methodLink RX6 113 yX5_evenOut, Cond.instanceMethod yX5_evenOut, Cond.selects RX5 yX5_evenOut yX5_evenOut, Cond.code yX5_evenOut cX5_evenOut 5 (some .int), Cond.constant RX5 91 (1000000), Cond.methodLink RX5 84 yX0_greatestLoad, Cond.instanceMethod yX0_greatestLoad, Cond.selects RX0 yX0_greatestLoad yX0_greatestLoad, Cond.code yX0_greatestLoad cX0_greatestLoad 3 (some .int), Cond.methodLink RX0 78 Lib.Math.max.name, Cond.static Lib.Math.max.name, Cond.code Lib.Math.max.name Lib.Math.max.code 2 (some .int), Cond.methodLink RX5 92 yX5_relieveNode, Cond.instanceMethod yX5_relieveNode, Cond.selects RX5 yX5_relieveNode yX5_relieveNode, Cond.code yX5_relieveNode cX5_relieveNode 4 (some .int), Cond.methodLink RX5 72 yX5_visitFrom]
def wsL_law0_r17 : List Cond := [Cond.methodLink RX5 76 yX5_firstLighter, Cond.methodLink RX5 80 yX5_flipPathTo, Cond.methodLink RL 101 yX7_balance, Cond.instanceMethod yX7_balance, Cond.selects RX7 yX7_balance yX7_balance, Cond.code yX7_balance cX7_balance 1 (some .int), Cond.methodLink RX7 109 yX7_balances, Cond.instanceMethod yX7_balances, Cond.selects RX7 yX7_balances yX7_balances, Cond.code yX7_balances cX7_balances 5 (some .int), Cond.methodLink RX7 99 yX7_greatest, Cond.instanceMethod yX7_greatest, Cond.selects RX7 yX7_greatest yX7_greatest, Cond.code yX7_greatest cX7_greatest 3 (some .int), Cond.methodLink RL 102 yL_setCapacity, Cond.static yL_setCapacity, Cond.codeWith yL_setCapacity cL_setCapacity 5 (some .int) [(0, 10, 13, 19), (0, 10, 17, 13)], Cond.methodLink RL 34 yX6_setCapacity, Cond.instanceMethod yX6_setCapacity, Cond.selects RX6 yX6_setCapacity yX6_setCapacity, Cond.code yX6_setCapacity cX6_setCapacity 4 (some .int), Cond.methodLink RX6 122 yX4_get, Cond.methodLink RX6 127 yX4_set, Cond.methodLink RL 104 yX7_setCapacity]
def wsL_law0_r18 : List Cond := [Cond.instanceMethod yX7_setCapacity, Cond.selects RX7 yX7_setCapacity yX7_setCapacity, Cond.code yX7_setCapacity cX7_setCapacity 3 (some .int), Cond.methodLink RX7 112 yX7_refusesCapacity, Cond.instanceMethod yX7_refusesCapacity, Cond.selects RX7 yX7_refusesCapacity yX7_refusesCapacity, Cond.code yX7_refusesCapacity cX7_refusesCapacity 3 (some .boolean), Cond.methodLink RX7 115 yX7_sets, Cond.instanceMethod yX7_sets, Cond.selects RX7 yX7_sets yX7_sets, Cond.code yX7_sets cX7_sets 4 (some .int), Cond.methodLink RL 105 yL_node, Cond.static yL_node, Cond.codeWith yL_node cL_node 5 (some .int) [(0, 10, 13, 19), (0, 10, 17, 13)], Cond.methodLink RL 37 yX6_node, Cond.instanceMethod yX6_node, Cond.selects RX6 yX6_node yX6_node, Cond.code yX6_node cX6_node 3 (some .int), Cond.methodLink RX6 133 yX0_edgesOf, Cond.instanceMethod yX0_edgesOf, Cond.selects RX0 yX0_edgesOf yX0_edgesOf, Cond.code yX0_edgesOf cX0_edgesOf 4 (some .int), Cond.methodLink RX0 75 yX0_endsOf, Cond.instanceMethod yX0_endsOf]
def wsL_law0_r19 : List Cond := [Cond.selects RX0 yX0_endsOf yX0_endsOf, Cond.code yX0_endsOf cX0_endsOf 2 (some .int), Cond.methodLink RX6 136 yX0_neighboursOf, Cond.instanceMethod yX0_neighboursOf, Cond.selects RX0 yX0_neighboursOf yX0_neighboursOf, Cond.code yX0_neighboursOf cX0_neighboursOf 4 (some .int), Cond.methodLink RX6 139 yJ6_bitCount_0f7a4, Cond.static yJ6_bitCount_0f7a4, Cond.initialized RJ6, Cond.code yJ6_bitCount_0f7a4 cJ6_bitCount_0f7a4 1 (some .int), Cond.constant RJ6 265 (1431655765), Cond.constant RJ6 266 (858993459), Cond.constant RJ6 267 (252645135), Cond.methodLink RL 107 yX7_node, Cond.instanceMethod yX7_node, Cond.selects RX7 yX7_node yX7_node, Cond.code yX7_node cX7_node 3 (some .int), Cond.methodLink RX7 127 yX7_nodeOf, Cond.instanceMethod yX7_nodeOf, Cond.selects RX7 yX7_nodeOf yX7_nodeOf, Cond.code yX7_nodeOf cX7_nodeOf 3 (some .int), Cond.methodLink RX7 118 yX7_degree, Cond.instanceMethod yX7_degree, Cond.selects RX7 yX7_degree yX7_degree]
def wsL_law0_r20 : List Cond := [Cond.code yX7_degree cX7_degree 4 (some .int), Cond.methodLink RX7 121 yX7_neighbours, Cond.instanceMethod yX7_neighbours, Cond.selects RX7 yX7_neighbours yX7_neighbours, Cond.code yX7_neighbours cX7_neighbours 4 (some .int), Cond.methodLink RX7 124 yX7_bits, Cond.static yX7_bits, Cond.code yX7_bits cX7_bits 3 (some .int), Cond.methodLink RL 108 yL_edge, Cond.static yL_edge, Cond.codeWith yL_edge cL_edge 5 (some .int) [(0, 10, 13, 26), (0, 10, 17, 13)], Cond.methodLink RL 40 yX6_edge, Cond.instanceMethod yX6_edge, Cond.selects RX6 yX6_edge yX6_edge, Cond.code yX6_edge cX6_edge 4 (some .int), Cond.methodLink RL 110 yX7_edge, Cond.instanceMethod yX7_edge, Cond.selects RX7 yX7_edge yX7_edge, Cond.code yX7_edge cX7_edge 3 (some .int), Cond.methodLink RX7 130 yX7_edgeOf, Cond.instanceMethod yX7_edgeOf, Cond.selects RX7 yX7_edgeOf yX7_edgeOf, Cond.code yX7_edgeOf cX7_edgeOf 3 (some .int), Cond.methodLink RL 111 yL_edgeAt]
def wsL_law0_r21 : List Cond := [Cond.static yL_edgeAt, Cond.codeWith yL_edgeAt cL_edgeAt 4 (some .int) [(0, 9, 12, 19)], Cond.methodLink RL 43 yX6_edgeAt, Cond.instanceMethod yX6_edgeAt, Cond.selects RX6 yX6_edgeAt yX6_edgeAt, Cond.code yX6_edgeAt cX6_edgeAt 2 (some .int), Cond.methodLink RL 113 yX7_edgeAt, Cond.instanceMethod yX7_edgeAt, Cond.selects RX7 yX7_edgeAt yX7_edgeAt, Cond.code yX7_edgeAt cX7_edgeAt 2 (some .int), Cond.methodLink RL 114 yL_value, Cond.static yL_value, Cond.codeWith yL_value cL_value 4 (some .int) [(0, 9, 12, 13)], Cond.methodLink RL 46 yX6_value, Cond.instanceMethod yX6_value, Cond.selects RX6 yX6_value yX6_value, Cond.code yX6_value cX6_value 2 (some .int), Cond.methodLink RX6 172 yX0_greatestLoad, Cond.methodLink RX6 176 yX0_leastLoad, Cond.instanceMethod yX0_leastLoad, Cond.selects RX0 yX0_leastLoad yX0_leastLoad, Cond.code yX0_leastLoad cX0_leastLoad 3 (some .int), Cond.methodLink RX0 84 Lib.Math.min.name, Cond.methodLink RX6 179 yX0_squaresOfLoads]
def wsL_law0_r22 : List Cond := [Cond.instanceMethod yX0_squaresOfLoads, Cond.selects RX0 yX0_squaresOfLoads yX0_squaresOfLoads, Cond.code yX0_squaresOfLoads cX0_squaresOfLoads 3 (some .int), Cond.methodLink RX6 188 yX0_overloadedNodes, Cond.instanceMethod yX0_overloadedNodes, Cond.selects RX0 yX0_overloadedNodes yX0_overloadedNodes, Cond.code yX0_overloadedNodes cX0_overloadedNodes 3 (some .int), Cond.methodLink RL 116 yX7_value, Cond.instanceMethod yX7_value, Cond.selects RX7 yX7_value yX7_value, Cond.code yX7_value cX7_value 2 (some .int), Cond.methodLink RX7 133 yX7_valueOf, Cond.instanceMethod yX7_valueOf, Cond.selects RX7 yX7_valueOf yX7_valueOf, Cond.code yX7_valueOf cX7_valueOf 7 (some .int), Cond.methodLink RL 117 yL_path, Cond.static yL_path, Cond.codeWith yL_path cL_path 5 (some .int) [(0, 10, 13, 19)], Cond.methodLink RL 49 yX6_path, Cond.instanceMethod yX6_path, Cond.selects RX6 yX6_path yX6_path, Cond.code yX6_path cX6_path 3 (some .int), Cond.methodLink RX6 191 yX5_lengthTo, Cond.methodLink RL 119 yX7_path]
def wsL_law0_r23 : List Cond := [Cond.instanceMethod yX7_path, Cond.selects RX7 yX7_path yX7_path, Cond.code yX7_path cX7_path 3 (some .int), Cond.methodLink RX7 139 yX7_pathOf, Cond.instanceMethod yX7_pathOf, Cond.selects RX7 yX7_pathOf yX7_pathOf, Cond.code yX7_pathOf cX7_pathOf 3 (some .int), Cond.methodLink RX7 136 yX7_lengthTo, Cond.instanceMethod yX7_lengthTo, Cond.selects RX7 yX7_lengthTo yX7_lengthTo, Cond.code yX7_lengthTo cX7_lengthTo 4 (some .int), Cond.methodLink RL 120 yL_step, Cond.static yL_step, Cond.codeWith yL_step cL_step 6 (some .int) [(0, 12, 15, 19)], Cond.methodLink RL 52 yX6_step, Cond.instanceMethod yX6_step, Cond.selects RX6 yX6_step yX6_step, Cond.code yX6_step cX6_step 5 (some .int), Cond.methodLink RX6 194 yX5_slotOnPathTo, Cond.instanceMethod yX5_slotOnPathTo, Cond.selects RX5 yX5_slotOnPathTo yX5_slotOnPathTo, Cond.code yX5_slotOnPathTo cX5_slotOnPathTo 6 (some .int), Cond.methodLink RL 123 yX7_step, Cond.instanceMethod yX7_step]
def wsL_law0_r24 : List Cond := [Cond.selects RX7 yX7_step yX7_step, Cond.code yX7_step cX7_step 6 (some .int), Cond.methodLink RL 124 yL_inner, Cond.static yL_inner, Cond.codeWith yL_inner cL_inner 4 (some .int) [(0, 9, 12, 13)], Cond.methodLink RL 56 yX6_inner, Cond.instanceMethod yX6_inner, Cond.selects RX6 yX6_inner yX6_inner, Cond.code yX6_inner cX6_inner 2 (some .int), Cond.methodLink RX6 201 yX0_edgesWithin, Cond.instanceMethod yX0_edgesWithin, Cond.selects RX0 yX0_edgesWithin yX0_edgesWithin, Cond.code yX0_edgesWithin cX0_edgesWithin 4 (some .int), Cond.methodLink RL 126 yX7_inner, Cond.instanceMethod yX7_inner, Cond.selects RX7 yX7_inner yX7_inner, Cond.code yX7_inner cX7_inner 2 (some .int), Cond.methodLink RX7 142 yX7_innerOf, Cond.instanceMethod yX7_innerOf, Cond.selects RX7 yX7_innerOf yX7_innerOf, Cond.code yX7_innerOf cX7_innerOf 6 (some .int), Cond.methodLink RL 127 yX6_densest, Cond.instanceMethod yX6_densest, Cond.selects RX6 yX6_densest yX6_densest]
def wsL_law0_r25 : List Cond := [Cond.code yX6_densest cX6_densest 1 (some .int), Cond.methodLink RX6 204 yX3_learn, Cond.instanceMethod yX3_learn, Cond.selects RX3 yX3_learn yX3_learn, Cond.code yX3_learn cX3_learn 3 none, Cond.fieldLink RX3 31 "EdgeHolders$PartTable" "sets" "I", Cond.fieldLink RX3 51 "EdgeHolders$PartTable" "densestPart" "I", Cond.fieldLink RX3 58 "EdgeHolders$PartTable" "leastLoad" "I", Cond.methodLink RX3 40 yX0_countJoining, Cond.instanceMethod yX0_countJoining, Cond.selects RX0 yX0_countJoining yX0_countJoining, Cond.code yX0_countJoining cX0_countJoining 4 none, Cond.methodLink RX3 44 yX3_addSetsWith, Cond.instanceMethod yX3_addSetsWith, Cond.selects RX3 yX3_addSetsWith yX3_addSetsWith, Cond.code yX3_addSetsWith cX3_addSetsWith 3 none, Cond.methodLink RX3 61 yX3_writeSums, Cond.static yX3_writeSums, Cond.code yX3_writeSums cX3_writeSums 8 none, Cond.methodLink RX3 65 yX4_get, Cond.methodLink RX3 47 yX3_densestWith, Cond.instanceMethod yX3_densestWith, Cond.selects RX3 yX3_densestWith yX3_densestWith, Cond.code yX3_densestWith cX3_densestWith 10 (some .int)]
def wsL_law0_r26 : List Cond := [Cond.methodLink RX3 69 yX3_innerWith, Cond.instanceMethod yX3_innerWith, Cond.selects RX3 yX3_innerWith yX3_innerWith, Cond.code yX3_innerWith cX3_innerWith 4 (some .int), Cond.methodLink RX3 72 yJ6_bitCount_0f7a4, Cond.methodLink RX3 54 yX3_roundedUpDensity, Cond.instanceMethod yX3_roundedUpDensity, Cond.selects RX3 yX3_roundedUpDensity yX3_roundedUpDensity, Cond.code yX3_roundedUpDensity cX3_roundedUpDensity 5 (some .int), Cond.methodLink RL 130 yX7_densest, Cond.instanceMethod yX7_densest, Cond.selects RX7 yX7_densest yX7_densest, Cond.code yX7_densest cX7_densest 1 (some .int), Cond.methodLink RX7 146 yX7_densestOf, Cond.instanceMethod yX7_densestOf, Cond.selects RX7 yX7_densestOf yX7_densestOf, Cond.code yX7_densestOf cX7_densestOf 10 (some .int), Cond.methodLink RL 131 yX6_least, Cond.instanceMethod yX6_least, Cond.selects RX6 yX6_least yX6_least, Cond.code yX6_least cX6_least 1 (some .int), Cond.methodLink RL 134 yX7_least, Cond.instanceMethod yX7_least, Cond.selects RX7 yX7_least yX7_least]
def wsL_law0_r27 : List Cond := [Cond.code yX7_least cX7_least 1 (some .int), Cond.methodLink RX7 149 yX7_leastOf, Cond.instanceMethod yX7_leastOf, Cond.selects RX7 yX7_leastOf yX7_leastOf, Cond.code yX7_leastOf cX7_leastOf 5 (some .int), Cond.methodLink RL 135 yX6_tooDense, Cond.instanceMethod yX6_tooDense, Cond.selects RX6 yX6_tooDense yX6_tooDense, Cond.code yX6_tooDense cX6_tooDense 1 (some .int), Cond.methodLink RX6 212 yX3_mostOverfull, Cond.instanceMethod yX3_mostOverfull, Cond.selects RX3 yX3_mostOverfull yX3_mostOverfull, Cond.code yX3_mostOverfull cX3_mostOverfull 7 (some .int), Cond.methodLink RL 138 yX7_tooDense, Cond.instanceMethod yX7_tooDense, Cond.selects RX7 yX7_tooDense yX7_tooDense, Cond.code yX7_tooDense cX7_tooDense 6 (some .int), Cond.methodLink RL 139 yL_leastWith, Cond.static yL_leastWith, Cond.codeWith yL_leastWith cL_leastWith 5 (some .int) [(0, 10, 13, 19), (0, 10, 17, 13)], Cond.methodLink RL 59 yX6_leastWith, Cond.instanceMethod yX6_leastWith, Cond.selects RX6 yX6_leastWith yX6_leastWith, Cond.code yX6_leastWith cX6_leastWith 3 (some .int)]
def wsL_law0_r28 : List Cond := [Cond.methodLink RX6 216 yX3_leastLoadWith, Cond.instanceMethod yX3_leastLoadWith, Cond.selects RX3 yX3_leastLoadWith yX3_leastLoadWith, Cond.code yX3_leastLoadWith cX3_leastLoadWith 3 (some .int), Cond.methodLink RL 141 yX7_leastWith, Cond.instanceMethod yX7_leastWith, Cond.selects RX7 yX7_leastWith yX7_leastWith, Cond.code yX7_leastWith cX7_leastWith 3 (some .int), Cond.methodLink RL 142 yL_leastWithout, Cond.static yL_leastWithout, Cond.codeWith yL_leastWithout cL_leastWithout 4 (some .int) [(0, 9, 12, 26)], Cond.methodLink RL 62 yX6_leastWithout, Cond.instanceMethod yX6_leastWithout, Cond.selects RX6 yX6_leastWithout yX6_leastWithout, Cond.code yX6_leastWithout cX6_leastWithout 3 (some .int), Cond.methodLink RX6 219 yX0_endsOf, Cond.methodLink RL 144 yX7_leastWithout, Cond.instanceMethod yX7_leastWithout, Cond.selects RX7 yX7_leastWithout yX7_leastWithout, Cond.code yX7_leastWithout cX7_leastWithout 2 (some .int), Cond.methodLink RL 145 yX6_critical, Cond.instanceMethod yX6_critical, Cond.selects RX6 yX6_critical yX6_critical, Cond.code yX6_critical cX6_critical 2 (some .int)]
def wsL_law0_r29 : List Cond := [Cond.methodLink RX6 222 yX3_commonOfForcing, Cond.instanceMethod yX3_commonOfForcing, Cond.selects RX3 yX3_commonOfForcing yX3_commonOfForcing, Cond.code yX3_commonOfForcing cX3_commonOfForcing 4 (some .int), Cond.methodLink RX6 225 yX0_firstSlotWithin, Cond.instanceMethod yX0_firstSlotWithin, Cond.selects RX0 yX0_firstSlotWithin yX0_firstSlotWithin, Cond.code yX0_firstSlotWithin cX0_firstSlotWithin 3 (some .int), Cond.methodLink RL 148 yX7_critical, Cond.instanceMethod yX7_critical, Cond.selects RX7 yX7_critical yX7_critical, Cond.code yX7_critical cX7_critical 3 (some .int), Cond.methodLink RL 149 yX6_turnsToBalance, Cond.instanceMethod yX6_turnsToBalance, Cond.selects RX6 yX6_turnsToBalance yX6_turnsToBalance, Cond.code yX6_turnsToBalance cX6_turnsToBalance 1 (some .int), Cond.methodLink RX6 228 yX0_copyFrom, Cond.methodLink RL 152 yX7_turnsToBalance, Cond.instanceMethod yX7_turnsToBalance, Cond.selects RX7 yX7_turnsToBalance yX7_turnsToBalance, Cond.code yX7_turnsToBalance cX7_turnsToBalance 2 (some .int), Cond.methodLink RX7 152 yX7_copy, Cond.instanceMethod yX7_copy, Cond.selects RX7 yX7_copy yX7_copy]
def wsL_law0_r30 : List Cond := [Cond.code yX7_copy cX7_copy 2 none, Cond.methodLink RX7 155 yX7_back, Cond.instanceMethod yX7_back, Cond.selects RX7 yX7_back yX7_back, Cond.code yX7_back cX7_back 2 none, Cond.methodLink RL 153 yX6_leastCapacity, Cond.instanceMethod yX6_leastCapacity, Cond.selects RX6 yX6_leastCapacity yX6_leastCapacity, Cond.code yX6_leastCapacity cX6_leastCapacity 1 (some .int), Cond.methodLink RL 156 yX7_leastCapacity, Cond.instanceMethod yX7_leastCapacity, Cond.selects RX7 yX7_leastCapacity yX7_leastCapacity, Cond.code yX7_leastCapacity cX7_leastCapacity 1 (some .int), Cond.methodLink RX7 158 yX7_least, Cond.methodLink RL 157 yX6_density, Cond.instanceMethod yX6_density, Cond.selects RX6 yX6_density yX6_density, Cond.code yX6_density cX6_density 2 (some .double), Cond.methodLink RL 161 yX7_density, Cond.instanceMethod yX7_density, Cond.selects RX7 yX7_density yX7_density, Cond.code yX7_density cX7_density 2 (some .double), Cond.methodLink RL 162 yL_append, Cond.static yL_append]
def wsL_law0_r31 : List Cond := [Cond.codeWith yL_append cL_append 4 (some .int) [(0, 9, 12, 13), (0, 9, 15, 21)], Cond.methodLink RL 65 yX6_append, Cond.instanceMethod yX6_append, Cond.selects RX6 yX6_append yX6_append, Cond.code yX6_append cX6_append 2 (some .int), Cond.methodLink RX6 238 yX2_put, Cond.instanceMethod yX2_put, Cond.selects RX2 yX2_put yX2_put, Cond.code yX2_put cX2_put 2 (some .int), Cond.fieldLink RX2 24 "EdgeHolders$OrderText" "length" "I", Cond.methodLink RX2 27 yX4_set, Cond.methodLink RL 164 yX7_append, Cond.instanceMethod yX7_append, Cond.selects RX7 yX7_append yX7_append, Cond.code yX7_append cX7_append 2 (some .int), Cond.fieldLink RX7 161 "EdgeHoldersModel" "letters" "I", Cond.methodLink RL 165 yX6_clearText, Cond.instanceMethod yX6_clearText, Cond.selects RX6 yX6_clearText yX6_clearText, Cond.code yX6_clearText cX6_clearText 1 (some .int), Cond.methodLink RX6 241 yX2_empty, Cond.instanceMethod yX2_empty, Cond.selects RX2 yX2_empty yX2_empty, Cond.code yX2_empty cX2_empty 2 (some .int)]
def wsL_law0_r32 : List Cond := [Cond.methodLink RL 168 yX7_clearText, Cond.instanceMethod yX7_clearText, Cond.selects RX7 yX7_clearText yX7_clearText, Cond.code yX7_clearText cX7_clearText 2 (some .int), Cond.methodLink RL 169 yX6_carryOut, Cond.instanceMethod yX6_carryOut, Cond.selects RX6 yX6_carryOut yX6_carryOut, Cond.code yX6_carryOut cX6_carryOut 3 (some .int), Cond.methodLink RX6 244 yX2_findSyntaxError, Cond.instanceMethod yX2_findSyntaxError, Cond.selects RX2 yX2_findSyntaxError yX2_findSyntaxError, Cond.code yX2_findSyntaxError cX2_findSyntaxError 3 (some .int), Cond.methodLink RX2 34 yX2_rewind, Cond.instanceMethod yX2_rewind, Cond.selects RX2 yX2_rewind yX2_rewind, Cond.code yX2_rewind cX2_rewind 1 none, Cond.fieldLink RX2 31 "EdgeHolders$OrderText" "place" "I", Cond.methodLink RX2 37 yX2_readOrder, Cond.instanceMethod yX2_readOrder, Cond.selects RX2 yX2_readOrder yX2_readOrder, Cond.code yX2_readOrder cX2_readOrder 1 (some .boolean), Cond.fieldLink RX2 45 "EdgeHolders$OrderText" "kind" "I", Cond.fieldLink RX2 54 "EdgeHolders$OrderText" "firstNode" "I", Cond.fieldLink RX2 57 "EdgeHolders$OrderText" "secondNode" "I"]
def wsL_law0_r33 : List Cond := [Cond.fieldLink RX2 64 "EdgeHolders$OrderText" "number" "I", Cond.methodLink RX2 41 yX2_current, Cond.instanceMethod yX2_current, Cond.selects RX2 yX2_current yX2_current, Cond.code yX2_current cX2_current 1 (some .int), Cond.methodLink RX2 70 yX4_get, Cond.methodLink RX2 48 yX2_readSign, Cond.instanceMethod yX2_readSign, Cond.selects RX2 yX2_readSign yX2_readSign, Cond.code yX2_readSign cX2_readSign 2 none, Cond.methodLink RX2 67 yX2_noteWrong, Cond.instanceMethod yX2_noteWrong, Cond.selects RX2 yX2_noteWrong yX2_noteWrong, Cond.code yX2_noteWrong cX2_noteWrong 2 none, Cond.methodLink RX2 51 yX2_readNode, Cond.instanceMethod yX2_readNode, Cond.selects RX2 yX2_readNode yX2_readNode, Cond.code yX2_readNode cX2_readNode 2 (some .int), Cond.methodLink RX2 60 yX2_readNumber, Cond.instanceMethod yX2_readNumber, Cond.selects RX2 yX2_readNumber yX2_readNumber, Cond.code yX2_readNumber cX2_readNumber 6 (some .int), Cond.methodLink RX2 74 yX2_isAtDigit, Cond.instanceMethod yX2_isAtDigit]
def wsL_law0_r34 : List Cond := [Cond.selects RX2 yX2_isAtDigit yX2_isAtDigit, Cond.code yX2_isAtDigit cX2_isAtDigit 1 (some .boolean), Cond.methodLink RX6 247 yX2_rewind, Cond.methodLink RX6 250 yX2_readOrder, Cond.methodLink RX6 253 yX6_obeyOrder, Cond.instanceMethod yX6_obeyOrder, Cond.selects RX6 yX6_obeyOrder yX6_obeyOrder, Cond.code yX6_obeyOrder cX6_obeyOrder 1 (some .boolean), Cond.methodLink RX6 315 yX6_obeyAdding, Cond.instanceMethod yX6_obeyAdding, Cond.selects RX6 yX6_obeyAdding yX6_obeyAdding, Cond.code yX6_obeyAdding cX6_obeyAdding 3 (some .boolean), Cond.methodLink RX6 322 yX6_obeyForEdge, Cond.instanceMethod yX6_obeyForEdge, Cond.selects RX6 yX6_obeyForEdge yX6_obeyForEdge, Cond.code yX6_obeyForEdge cX6_obeyForEdge 3 (some .boolean), Cond.methodLink RX6 325 yX5_relieveNode, Cond.methodLink RX6 328 yX6_obeyCapacity, Cond.instanceMethod yX6_obeyCapacity, Cond.selects RX6 yX6_obeyCapacity yX6_obeyCapacity, Cond.code yX6_obeyCapacity cX6_obeyCapacity 3 (some .boolean), Cond.methodLink RL 172 yX7_carryOut, Cond.instanceMethod yX7_carryOut, Cond.selects RX7 yX7_carryOut yX7_carryOut]
def wsL_law0_r35 : List Cond := [Cond.code yX7_carryOut cX7_carryOut 3 (some .int), Cond.fieldLink RX7 164 "EdgeHoldersModel" "readAt" "I", Cond.fieldLink RX7 170 "EdgeHoldersModel" "error" "I", Cond.methodLink RX7 188 yX7_readsOrder, Cond.instanceMethod yX7_readsOrder, Cond.selects RX7 yX7_readsOrder yX7_readsOrder, Cond.code yX7_readsOrder cX7_readsOrder 2 (some .boolean), Cond.fieldLink RX7 176 "EdgeHoldersModel" "order" "I", Cond.fieldLink RX7 179 "EdgeHoldersModel" "one" "I", Cond.fieldLink RX7 182 "EdgeHoldersModel" "two" "I", Cond.methodLink RX7 167 yX7_here, Cond.instanceMethod yX7_here, Cond.selects RX7 yX7_here yX7_here, Cond.code yX7_here cX7_here 1 (some .int), Cond.methodLink RX7 173 yX7_takes, Cond.instanceMethod yX7_takes, Cond.selects RX7 yX7_takes yX7_takes, Cond.code yX7_takes cX7_takes 4 (some .boolean), Cond.methodLink RX7 185 yX7_number, Cond.instanceMethod yX7_number, Cond.selects RX7 yX7_number yX7_number, Cond.code yX7_number cX7_number 6 (some .int), Cond.methodLink RX7 192 yX7_does, Cond.instanceMethod yX7_does]
def wsL_law0_r36 : List Cond := [Cond.selects RX7 yX7_does yX7_does, Cond.code yX7_does cX7_does 1 (some .boolean), Cond.methodLink RL 173 yL_undo, Cond.static yL_undo, Cond.codeWith yL_undo cL_undo 3 (some .int) [(0, 8, 11, 21)], Cond.methodLink RL 68 yX6_undo, Cond.instanceMethod yX6_undo, Cond.selects RX6 yX6_undo yX6_undo, Cond.code yX6_undo cX6_undo 1 (some .int), Cond.methodLink RX6 261 yX1_restore, Cond.instanceMethod yX1_restore, Cond.selects RX1 yX1_restore yX1_restore, Cond.code yX1_restore cX1_restore 3 none, Cond.methodLink RL 176 yX7_undo, Cond.instanceMethod yX7_undo, Cond.selects RX7 yX7_undo yX7_undo, Cond.code yX7_undo cX7_undo 2 (some .int), Cond.methodLink RL 177 yX6_digest, Cond.instanceMethod yX6_digest, Cond.selects RX6 yX6_digest yX6_digest, Cond.code yX6_digest cX6_digest 6 (some .long), Cond.constantLong RX6 264 (3779), Cond.methodLink RX6 266 yX6_mix, Cond.static yX6_mix]
def wsL_law0_r37 : List Cond := [Cond.code yX6_mix cX6_mix 4 (some .long), Cond.constantLong RX6 288 (31), Cond.methodLink RX6 270 yX6_value, Cond.methodLink RX6 273 yX6_node, Cond.methodLink RX6 276 yX6_edge, Cond.methodLink RX6 279 yX6_densest, Cond.methodLink RX6 282 yX6_least, Cond.methodLink RX6 285 yX6_tooDense, Cond.methodLink RL 181 yX7_digest, Cond.instanceMethod yX7_digest, Cond.selects RX7 yX7_digest yX7_digest, Cond.code yX7_digest cX7_digest 3 (some .long), Cond.constantLong RX7 201 (3779), Cond.fieldLink RX7 197 "EdgeHoldersModel" "hash" "J", Cond.methodLink RX7 203 yX7_hashes, Cond.instanceMethod yX7_hashes, Cond.selects RX7 yX7_hashes yX7_hashes, Cond.code yX7_hashes cX7_hashes 3 none, Cond.constantLong RX7 195 (31), Cond.methodLink RX7 207 yX7_densest, Cond.methodLink RX7 210 yX7_tooDense]
def wsL_law0 : List Cond := (wsL_law0_r1 ++ (wsL_law0_r2 ++ (wsL_law0_r3 ++ (wsL_law0_r4 ++ (wsL_law0_r5 ++ (wsL_law0_r6 ++ (wsL_law0_r7 ++ (wsL_law0_r8 ++ (wsL_law0_r9 ++ (wsL_law0_r10 ++ (wsL_law0_r11 ++ (wsL_law0_r12 ++ (wsL_law0_r13 ++ (wsL_law0_r14 ++ (wsL_law0_r15 ++ (wsL_law0_r16 ++ (wsL_law0_r17 ++ (wsL_law0_r18 ++ (wsL_law0_r19 ++ (wsL_law0_r20 ++ (wsL_law0_r21 ++ (wsL_law0_r22 ++ (wsL_law0_r23 ++ (wsL_law0_r24 ++ (wsL_law0_r25 ++ (wsL_law0_r26 ++ (wsL_law0_r27 ++ (wsL_law0_r28 ++ (wsL_law0_r29 ++ (wsL_law0_r30 ++ (wsL_law0_r31 ++ (wsL_law0_r32 ++ (wsL_law0_r33 ++ (wsL_law0_r34 ++ (wsL_law0_r35 ++ (wsL_law0_r36 ++ wsL_law0_r37)))))))))))))))))))))))))))))))))))) ++ wsX60 ++ wsX70 ++ wsX00 ++ wsX50 ++ wsX30 ++ wsX20 ++ wsX10 ++ wsX40 ++ ([] : List Cond)
def wsL_law : List Cond := wsL_law0 ++ (vx_atS RX6 51 "java/lang/IllegalArgumentException" ["java/lang/RuntimeException", "java/lang/Exception"]).filter goodWord ++ (vx_atS RX6 84 "java/lang/IllegalStateException" ["java/lang/RuntimeException", "java/lang/Exception"]).filter goodWord ++ (vx_atS RX6 165 "java/lang/IndexOutOfBoundsException" ["java/lang/RuntimeException", "java/lang/Exception"]).filter goodWord ++ (vx_atS RX6 305 "java/util/NoSuchElementException" ["java/lang/RuntimeException", "java/lang/Exception"]).filter goodWord
theorem inlX0 : ∀ w ∈ wsX00, w ∈ wsL_law := fun _ h => List.mem_append_left _ (List.mem_append_left _ (List.mem_append_left _ (List.mem_append_left _ (List.mem_append_left _ (List.mem_append_left _ (List.mem_append_left _ (List.mem_append_left _ (List.mem_append_left _ (List.mem_append_left _ (List.mem_append_right _ h))))))))))
theorem inlX1 : ∀ w ∈ wsX10, w ∈ wsL_law := fun _ h => List.mem_append_left _ (List.mem_append_left _ (List.mem_append_left _ (List.mem_append_left _ (List.mem_append_left _ (List.mem_append_left _ (List.mem_append_right _ h))))))
theorem inlX2 : ∀ w ∈ wsX20, w ∈ wsL_law := fun _ h => List.mem_append_left _ (List.mem_append_left _ (List.mem_append_left _ (List.mem_append_left _ (List.mem_append_left _ (List.mem_append_left _ (List.mem_append_left _ (List.mem_append_right _ h)))))))
theorem inlX3 : ∀ w ∈ wsX30, w ∈ wsL_law := fun _ h => List.mem_append_left _ (List.mem_append_left _ (List.mem_append_left _ (List.mem_append_left _ (List.mem_append_left _ (List.mem_append_left _ (List.mem_append_left _ (List.mem_append_left _ (List.mem_append_right _ h))))))))
theorem inlX4 : ∀ w ∈ wsX40, w ∈ wsL_law := fun _ h => List.mem_append_left _ (List.mem_append_left _ (List.mem_append_left _ (List.mem_append_left _ (List.mem_append_left _ (List.mem_append_right _ h)))))
theorem inlX5 : ∀ w ∈ wsX50, w ∈ wsL_law := fun _ h => List.mem_append_left _ (List.mem_append_left _ (List.mem_append_left _ (List.mem_append_left _ (List.mem_append_left _ (List.mem_append_left _ (List.mem_append_left _ (List.mem_append_left _ (List.mem_append_left _ (List.mem_append_right _ h)))))))))
theorem inlX6 : ∀ w ∈ wsX60, w ∈ wsL_law := fun _ h => List.mem_append_left _ (List.mem_append_left _ (List.mem_append_left _ (List.mem_append_left _ (List.mem_append_left _ (List.mem_append_left _ (List.mem_append_left _ (List.mem_append_left _ (List.mem_append_left _ (List.mem_append_left _ (List.mem_append_left _ (List.mem_append_left _ (List.mem_append_right _ h))))))))))))
theorem inlX7 : ∀ w ∈ wsX70, w ∈ wsL_law := fun _ h => List.mem_append_left _ (List.mem_append_left _ (List.mem_append_left _ (List.mem_append_left _ (List.mem_append_left _ (List.mem_append_left _ (List.mem_append_left _ (List.mem_append_left _ (List.mem_append_left _ (List.mem_append_left _ (List.mem_append_left _ (List.mem_append_right _ h)))))))))))
abbrev vwCl : List vw_C := [(RX0, TX0, 11), (RX1, TX1, 3), (RX2, TX2, 8), (RX3, TX3, 7), (RX4, TX4, 1), (RX5, TX5, 6), (RX6, TX6, 6), (RX7, TX7, 18)]
end
section
theorem dX0_init_0 : decode cX0_init 0 = .ok (.aload_n 0, 1) := by decide +kernel
theorem dX0_init_1 : decode cX0_init 1 = .ok (.invokespecial 3, 3) := by decide +kernel
theorem dX0_init_4 : decode cX0_init 4 = .ok (.aload_n 0, 1) := by decide +kernel
theorem dX0_init_5 : decode cX0_init 5 = .ok (.new 9, 3) := by decide +kernel
theorem dX0_init_8 : decode cX0_init 8 = .ok (.dup, 1) := by decide +kernel
theorem dX0_init_9 : decode cX0_init 9 = .ok (.bipush 40, 2) := by decide +kernel
theorem dX0_init_11 : decode cX0_init 11 = .ok (.invokespecial 11, 3) := by decide +kernel
theorem dX0_init_14 : decode cX0_init 14 = .ok (.putfield 14, 3) := by decide +kernel
theorem dX0_init_17 : decode cX0_init 17 = .ok (.aload_n 0, 1) := by decide +kernel
theorem dX0_init_18 : decode cX0_init 18 = .ok (.new 9, 3) := by decide +kernel
theorem dX0_init_21 : decode cX0_init 21 = .ok (.dup, 1) := by decide +kernel
theorem dX0_init_22 : decode cX0_init 22 = .ok (.bipush 40, 2) := by decide +kernel
theorem dX0_init_24 : decode cX0_init 24 = .ok (.invokespecial 11, 3) := by decide +kernel
theorem dX0_init_27 : decode cX0_init 27 = .ok (.putfield 20, 3) := by decide +kernel
theorem dX0_init_30 : decode cX0_init 30 = .ok (.aload_n 0, 1) := by decide +kernel
theorem dX0_init_31 : decode cX0_init 31 = .ok (.new 9, 3) := by decide +kernel
theorem dX0_init_34 : decode cX0_init 34 = .ok (.dup, 1) := by decide +kernel
theorem dX0_init_35 : decode cX0_init 35 = .ok (.bipush 40, 2) := by decide +kernel
theorem dX0_init_37 : decode cX0_init 37 = .ok (.invokespecial 11, 3) := by decide +kernel
theorem dX0_init_40 : decode cX0_init 40 = .ok (.putfield 23, 3) := by decide +kernel
theorem dX0_init_43 : decode cX0_init 43 = .ok (.aload_n 0, 1) := by decide +kernel
theorem dX0_init_44 : decode cX0_init 44 = .ok (.new 9, 3) := by decide +kernel
theorem dX0_init_47 : decode cX0_init 47 = .ok (.dup, 1) := by decide +kernel
theorem dX0_init_48 : decode cX0_init 48 = .ok (.bipush 40, 2) := by decide +kernel
theorem dX0_init_50 : decode cX0_init 50 = .ok (.invokespecial 11, 3) := by decide +kernel
theorem dX0_init_53 : decode cX0_init 53 = .ok (.putfield 26, 3) := by decide +kernel
theorem dX0_init_56 : decode cX0_init 56 = .ok (.aload_n 0, 1) := by decide +kernel
theorem dX0_init_57 : decode cX0_init 57 = .ok (.new 9, 3) := by decide +kernel
theorem dX0_init_60 : decode cX0_init 60 = .ok (.dup, 1) := by decide +kernel
theorem dX0_init_61 : decode cX0_init 61 = .ok (.bipush 40, 2) := by decide +kernel
theorem dX0_init_63 : decode cX0_init 63 = .ok (.invokespecial 11, 3) := by decide +kernel
theorem dX0_init_66 : decode cX0_init 66 = .ok (.putfield 29, 3) := by decide +kernel
theorem dX0_init_69 : decode cX0_init 69 = .ok (.aload_n 0, 1) := by decide +kernel
theorem dX0_init_70 : decode cX0_init 70 = .ok (.new 9, 3) := by decide +kernel
theorem dX0_init_73 : decode cX0_init 73 = .ok (.dup, 1) := by decide +kernel
theorem dX0_init_74 : decode cX0_init 74 = .ok (.bipush 12, 2) := by decide +kernel
theorem dX0_init_76 : decode cX0_init 76 = .ok (.invokespecial 11, 3) := by decide +kernel
theorem dX0_init_79 : decode cX0_init 79 = .ok (.putfield 32, 3) := by decide +kernel
theorem dX0_init_82 : decode cX0_init 82 = .ok (.aload_n 0, 1) := by decide +kernel
theorem dX0_init_83 : decode cX0_init 83 = .ok (.new 9, 3) := by decide +kernel
theorem dX0_init_86 : decode cX0_init 86 = .ok (.dup, 1) := by decide +kernel
theorem dX0_init_87 : decode cX0_init 87 = .ok (.bipush 12, 2) := by decide +kernel
theorem dX0_init_89 : decode cX0_init 89 = .ok (.invokespecial 11, 3) := by decide +kernel
theorem dX0_init_92 : decode cX0_init 92 = .ok (.putfield 35, 3) := by decide +kernel
theorem dX0_init_95 : decode cX0_init 95 = .ok (.aload_n 0, 1) := by decide +kernel
theorem dX0_init_96 : decode cX0_init 96 = .ok (.bipush 6, 2) := by decide +kernel
theorem dX0_init_98 : decode cX0_init 98 = .ok (.invokevirtual 38, 3) := by decide +kernel
theorem dX0_init_101 : decode cX0_init 101 = .ok (.return_, 1) := by decide +kernel
theorem dX0_restart_0 : decode cX0_restart 0 = .ok (.aload_n 0, 1) := by decide +kernel
theorem dX0_restart_1 : decode cX0_restart 1 = .ok (.iload_n 1, 1) := by decide +kernel
theorem dX0_restart_2 : decode cX0_restart 2 = .ok (.putfield 41, 3) := by decide +kernel
theorem dX0_restart_5 : decode cX0_restart 5 = .ok (.aload_n 0, 1) := by decide +kernel
theorem dX0_restart_6 : decode cX0_restart 6 = .ok (.iconst 0, 1) := by decide +kernel
theorem dX0_restart_7 : decode cX0_restart 7 = .ok (.putfield 45, 3) := by decide +kernel
theorem dX0_restart_10 : decode cX0_restart 10 = .ok (.aload_n 0, 1) := by decide +kernel
theorem dX0_restart_11 : decode cX0_restart 11 = .ok (.iconst 0, 1) := by decide +kernel
theorem dX0_restart_12 : decode cX0_restart 12 = .ok (.putfield 48, 3) := by decide +kernel
theorem dX0_restart_15 : decode cX0_restart 15 = .ok (.aload_n 0, 1) := by decide +kernel
theorem dX0_restart_16 : decode cX0_restart 16 = .ok (.iconst 0, 1) := by decide +kernel
theorem dX0_restart_17 : decode cX0_restart 17 = .ok (.putfield 51, 3) := by decide +kernel
theorem dX0_restart_20 : decode cX0_restart 20 = .ok (.aload_n 0, 1) := by decide +kernel
theorem dX0_restart_21 : decode cX0_restart 21 = .ok (.getfield 32, 3) := by decide +kernel
theorem dX0_restart_24 : decode cX0_restart 24 = .ok (.iconst 0, 1) := by decide +kernel
theorem dX0_restart_25 : decode cX0_restart 25 = .ok (.invokevirtual 54, 3) := by decide +kernel
theorem dX0_restart_28 : decode cX0_restart 28 = .ok (.aload_n 0, 1) := by decide +kernel
theorem dX0_restart_29 : decode cX0_restart 29 = .ok (.getfield 35, 3) := by decide +kernel
theorem dX0_restart_32 : decode cX0_restart 32 = .ok (.iconst 3, 1) := by decide +kernel
theorem dX0_restart_33 : decode cX0_restart 33 = .ok (.invokevirtual 54, 3) := by decide +kernel
theorem dX0_restart_36 : decode cX0_restart 36 = .ok (.return_, 1) := by decide +kernel
theorem dX0_copyFrom_0 : decode cX0_copyFrom 0 = .ok (.aload_n 0, 1) := by decide +kernel
theorem dX0_copyFrom_1 : decode cX0_copyFrom 1 = .ok (.getfield 14, 3) := by decide +kernel
theorem dX0_copyFrom_4 : decode cX0_copyFrom 4 = .ok (.aload_n 1, 1) := by decide +kernel
theorem dX0_copyFrom_5 : decode cX0_copyFrom 5 = .ok (.getfield 14, 3) := by decide +kernel
theorem dX0_copyFrom_8 : decode cX0_copyFrom 8 = .ok (.invokevirtual 57, 3) := by decide +kernel
theorem dX0_copyFrom_11 : decode cX0_copyFrom 11 = .ok (.aload_n 0, 1) := by decide +kernel
theorem dX0_copyFrom_12 : decode cX0_copyFrom 12 = .ok (.getfield 20, 3) := by decide +kernel
theorem dX0_copyFrom_15 : decode cX0_copyFrom 15 = .ok (.aload_n 1, 1) := by decide +kernel
theorem dX0_copyFrom_16 : decode cX0_copyFrom 16 = .ok (.getfield 20, 3) := by decide +kernel
theorem dX0_copyFrom_19 : decode cX0_copyFrom 19 = .ok (.invokevirtual 57, 3) := by decide +kernel
theorem dX0_copyFrom_22 : decode cX0_copyFrom 22 = .ok (.aload_n 0, 1) := by decide +kernel
theorem dX0_copyFrom_23 : decode cX0_copyFrom 23 = .ok (.getfield 23, 3) := by decide +kernel
theorem dX0_copyFrom_26 : decode cX0_copyFrom 26 = .ok (.aload_n 1, 1) := by decide +kernel
theorem dX0_copyFrom_27 : decode cX0_copyFrom 27 = .ok (.getfield 23, 3) := by decide +kernel
theorem dX0_copyFrom_30 : decode cX0_copyFrom 30 = .ok (.invokevirtual 57, 3) := by decide +kernel
theorem dX0_copyFrom_33 : decode cX0_copyFrom 33 = .ok (.aload_n 0, 1) := by decide +kernel
theorem dX0_copyFrom_34 : decode cX0_copyFrom 34 = .ok (.getfield 26, 3) := by decide +kernel
theorem dX0_copyFrom_37 : decode cX0_copyFrom 37 = .ok (.aload_n 1, 1) := by decide +kernel
theorem dX0_copyFrom_38 : decode cX0_copyFrom 38 = .ok (.getfield 26, 3) := by decide +kernel
theorem dX0_copyFrom_41 : decode cX0_copyFrom 41 = .ok (.invokevirtual 57, 3) := by decide +kernel
theorem dX0_copyFrom_44 : decode cX0_copyFrom 44 = .ok (.aload_n 0, 1) := by decide +kernel
theorem dX0_copyFrom_45 : decode cX0_copyFrom 45 = .ok (.getfield 29, 3) := by decide +kernel
theorem dX0_copyFrom_48 : decode cX0_copyFrom 48 = .ok (.aload_n 1, 1) := by decide +kernel
theorem dX0_copyFrom_49 : decode cX0_copyFrom 49 = .ok (.getfield 29, 3) := by decide +kernel
theorem dX0_copyFrom_52 : decode cX0_copyFrom 52 = .ok (.invokevirtual 57, 3) := by decide +kernel
theorem dX0_copyFrom_55 : decode cX0_copyFrom 55 = .ok (.aload_n 0, 1) := by decide +kernel
theorem dX0_copyFrom_56 : decode cX0_copyFrom 56 = .ok (.getfield 32, 3) := by decide +kernel
theorem dX0_copyFrom_59 : decode cX0_copyFrom 59 = .ok (.aload_n 1, 1) := by decide +kernel
theorem dX0_copyFrom_60 : decode cX0_copyFrom 60 = .ok (.getfield 32, 3) := by decide +kernel
theorem dX0_copyFrom_63 : decode cX0_copyFrom 63 = .ok (.invokevirtual 57, 3) := by decide +kernel
theorem dX0_copyFrom_66 : decode cX0_copyFrom 66 = .ok (.aload_n 0, 1) := by decide +kernel
theorem dX0_copyFrom_67 : decode cX0_copyFrom 67 = .ok (.getfield 35, 3) := by decide +kernel
theorem dX0_copyFrom_70 : decode cX0_copyFrom 70 = .ok (.aload_n 1, 1) := by decide +kernel
theorem dX0_copyFrom_71 : decode cX0_copyFrom 71 = .ok (.getfield 35, 3) := by decide +kernel
theorem dX0_copyFrom_74 : decode cX0_copyFrom 74 = .ok (.invokevirtual 57, 3) := by decide +kernel
theorem dX0_copyFrom_77 : decode cX0_copyFrom 77 = .ok (.aload_n 0, 1) := by decide +kernel
theorem dX0_copyFrom_78 : decode cX0_copyFrom 78 = .ok (.aload_n 1, 1) := by decide +kernel
theorem dX0_copyFrom_79 : decode cX0_copyFrom 79 = .ok (.getfield 41, 3) := by decide +kernel
theorem dX0_copyFrom_82 : decode cX0_copyFrom 82 = .ok (.putfield 41, 3) := by decide +kernel
theorem dX0_copyFrom_85 : decode cX0_copyFrom 85 = .ok (.aload_n 0, 1) := by decide +kernel
theorem dX0_copyFrom_86 : decode cX0_copyFrom 86 = .ok (.aload_n 1, 1) := by decide +kernel
theorem dX0_copyFrom_87 : decode cX0_copyFrom 87 = .ok (.getfield 45, 3) := by decide +kernel
theorem dX0_copyFrom_90 : decode cX0_copyFrom 90 = .ok (.putfield 45, 3) := by decide +kernel
theorem dX0_copyFrom_93 : decode cX0_copyFrom 93 = .ok (.aload_n 0, 1) := by decide +kernel
theorem dX0_copyFrom_94 : decode cX0_copyFrom 94 = .ok (.aload_n 1, 1) := by decide +kernel
theorem dX0_copyFrom_95 : decode cX0_copyFrom 95 = .ok (.getfield 48, 3) := by decide +kernel
theorem dX0_copyFrom_98 : decode cX0_copyFrom 98 = .ok (.putfield 48, 3) := by decide +kernel
theorem dX0_copyFrom_101 : decode cX0_copyFrom 101 = .ok (.aload_n 0, 1) := by decide +kernel
theorem dX0_copyFrom_102 : decode cX0_copyFrom 102 = .ok (.aload_n 1, 1) := by decide +kernel
theorem dX0_copyFrom_103 : decode cX0_copyFrom 103 = .ok (.getfield 51, 3) := by decide +kernel
theorem dX0_copyFrom_106 : decode cX0_copyFrom 106 = .ok (.putfield 51, 3) := by decide +kernel
theorem dX0_copyFrom_109 : decode cX0_copyFrom 109 = .ok (.return_, 1) := by decide +kernel
theorem dX0_hasNode_0 : decode cX0_hasNode 0 = .ok (.iload_n 1, 1) := by decide +kernel
theorem dX0_hasNode_1 : decode cX0_hasNode 1 = .ok (.ifCond .lt 15, 3) := by decide +kernel
theorem dX0_hasNode_4 : decode cX0_hasNode 4 = .ok (.iload_n 1, 1) := by decide +kernel
theorem dX0_hasNode_5 : decode cX0_hasNode 5 = .ok (.aload_n 0, 1) := by decide +kernel
theorem dX0_hasNode_6 : decode cX0_hasNode 6 = .ok (.getfield 41, 3) := by decide +kernel
theorem dX0_hasNode_9 : decode cX0_hasNode 9 = .ok (.if_icmp .ge 7, 3) := by decide +kernel
theorem dX0_hasNode_12 : decode cX0_hasNode 12 = .ok (.iconst 1, 1) := by decide +kernel
theorem dX0_hasNode_13 : decode cX0_hasNode 13 = .ok (.goto 4, 3) := by decide +kernel
theorem dX0_hasNode_16 : decode cX0_hasNode 16 = .ok (.iconst 0, 1) := by decide +kernel
theorem dX0_hasNode_17 : decode cX0_hasNode 17 = .ok (.ireturn, 1) := by decide +kernel
theorem dX0_isFull_0 : decode cX0_isFull 0 = .ok (.aload_n 0, 1) := by decide +kernel
theorem dX0_isFull_1 : decode cX0_isFull 1 = .ok (.getfield 45, 3) := by decide +kernel
theorem dX0_isFull_4 : decode cX0_isFull 4 = .ok (.bipush 40, 2) := by decide +kernel
theorem dX0_isFull_6 : decode cX0_isFull 6 = .ok (.if_icmp .lt 7, 3) := by decide +kernel
theorem dX0_isFull_9 : decode cX0_isFull 9 = .ok (.iconst 1, 1) := by decide +kernel
theorem dX0_isFull_10 : decode cX0_isFull 10 = .ok (.goto 4, 3) := by decide +kernel
theorem dX0_isFull_13 : decode cX0_isFull 13 = .ok (.iconst 0, 1) := by decide +kernel
theorem dX0_isFull_14 : decode cX0_isFull 14 = .ok (.ireturn, 1) := by decide +kernel
theorem dX0_slotOf_0 : decode cX0_slotOf 0 = .ok (.iconst 0, 1) := by decide +kernel
theorem dX0_slotOf_1 : decode cX0_slotOf 1 = .ok (.istore_n 2, 1) := by decide +kernel
theorem dX0_slotOf_2 : decode cX0_slotOf 2 = .ok (.iload_n 2, 1) := by decide +kernel
theorem dX0_slotOf_3 : decode cX0_slotOf 3 = .ok (.aload_n 0, 1) := by decide +kernel
theorem dX0_slotOf_4 : decode cX0_slotOf 4 = .ok (.getfield 45, 3) := by decide +kernel
theorem dX0_slotOf_7 : decode cX0_slotOf 7 = .ok (.if_icmp .ge 23, 3) := by decide +kernel
theorem dX0_slotOf_10 : decode cX0_slotOf 10 = .ok (.aload_n 0, 1) := by decide +kernel
theorem dX0_slotOf_11 : decode cX0_slotOf 11 = .ok (.getfield 14, 3) := by decide +kernel
theorem dX0_slotOf_14 : decode cX0_slotOf 14 = .ok (.iload_n 2, 1) := by decide +kernel
theorem dX0_slotOf_15 : decode cX0_slotOf 15 = .ok (.invokevirtual 61, 3) := by decide +kernel
theorem dX0_slotOf_18 : decode cX0_slotOf 18 = .ok (.iload_n 1, 1) := by decide +kernel
theorem dX0_slotOf_19 : decode cX0_slotOf 19 = .ok (.if_icmp .ne 5, 3) := by decide +kernel
theorem dX0_slotOf_22 : decode cX0_slotOf 22 = .ok (.iload_n 2, 1) := by decide +kernel
theorem dX0_slotOf_23 : decode cX0_slotOf 23 = .ok (.ireturn, 1) := by decide +kernel
theorem dX0_slotOf_24 : decode cX0_slotOf 24 = .ok (.iinc 2 1, 3) := by decide +kernel
theorem dX0_slotOf_27 : decode cX0_slotOf 27 = .ok (.goto (-25), 3) := by decide +kernel
theorem dX0_slotOf_30 : decode cX0_slotOf 30 = .ok (.iconst (-1), 1) := by decide +kernel
theorem dX0_slotOf_31 : decode cX0_slotOf 31 = .ok (.ireturn, 1) := by decide +kernel
theorem dX0_join_0 : decode cX0_join 0 = .ok (.aload_n 0, 1) := by decide +kernel
theorem dX0_join_1 : decode cX0_join 1 = .ok (.getfield 45, 3) := by decide +kernel
theorem dX0_join_4 : decode cX0_join 4 = .ok (.istore_n 3, 1) := by decide +kernel
theorem dX0_join_5 : decode cX0_join 5 = .ok (.aload_n 0, 1) := by decide +kernel
theorem dX0_join_6 : decode cX0_join 6 = .ok (.getfield 48, 3) := by decide +kernel
theorem dX0_join_9 : decode cX0_join 9 = .ok (.istore 4, 2) := by decide +kernel
theorem dX0_join_11 : decode cX0_join 11 = .ok (.aload_n 0, 1) := by decide +kernel
theorem dX0_join_12 : decode cX0_join 12 = .ok (.getfield 32, 3) := by decide +kernel
theorem dX0_join_15 : decode cX0_join 15 = .ok (.iload_n 2, 1) := by decide +kernel
theorem dX0_join_16 : decode cX0_join 16 = .ok (.invokevirtual 61, 3) := by decide +kernel
theorem dX0_join_19 : decode cX0_join 19 = .ok (.aload_n 0, 1) := by decide +kernel
theorem dX0_join_20 : decode cX0_join 20 = .ok (.getfield 32, 3) := by decide +kernel
theorem dX0_join_23 : decode cX0_join 23 = .ok (.iload_n 1, 1) := by decide +kernel
theorem dX0_join_24 : decode cX0_join 24 = .ok (.invokevirtual 61, 3) := by decide +kernel
theorem dX0_join_27 : decode cX0_join 27 = .ok (.if_icmp .ge 7, 3) := by decide +kernel
theorem dX0_join_30 : decode cX0_join 30 = .ok (.iload_n 2, 1) := by decide +kernel
theorem dX0_join_31 : decode cX0_join 31 = .ok (.goto 4, 3) := by decide +kernel
theorem dX0_join_34 : decode cX0_join 34 = .ok (.iload_n 1, 1) := by decide +kernel
theorem dX0_join_35 : decode cX0_join 35 = .ok (.istore 5, 2) := by decide +kernel
theorem dX0_join_37 : decode cX0_join 37 = .ok (.aload_n 0, 1) := by decide +kernel
theorem dX0_join_38 : decode cX0_join 38 = .ok (.getfield 14, 3) := by decide +kernel
theorem dX0_join_41 : decode cX0_join 41 = .ok (.iload_n 3, 1) := by decide +kernel
theorem dX0_join_42 : decode cX0_join 42 = .ok (.iload 4, 2) := by decide +kernel
theorem dX0_join_44 : decode cX0_join 44 = .ok (.invokevirtual 65, 3) := by decide +kernel
theorem dX0_join_47 : decode cX0_join 47 = .ok (.aload_n 0, 1) := by decide +kernel
theorem dX0_join_48 : decode cX0_join 48 = .ok (.getfield 20, 3) := by decide +kernel
theorem dX0_join_51 : decode cX0_join 51 = .ok (.iload_n 3, 1) := by decide +kernel
theorem dX0_join_52 : decode cX0_join 52 = .ok (.iload_n 1, 1) := by decide +kernel
theorem dX0_join_53 : decode cX0_join 53 = .ok (.invokevirtual 65, 3) := by decide +kernel
theorem dX0_join_56 : decode cX0_join 56 = .ok (.aload_n 0, 1) := by decide +kernel
theorem dX0_join_57 : decode cX0_join 57 = .ok (.getfield 23, 3) := by decide +kernel
theorem dX0_join_60 : decode cX0_join 60 = .ok (.iload_n 3, 1) := by decide +kernel
theorem dX0_join_61 : decode cX0_join 61 = .ok (.iload_n 2, 1) := by decide +kernel
theorem dX0_join_62 : decode cX0_join 62 = .ok (.invokevirtual 65, 3) := by decide +kernel
theorem dX0_join_65 : decode cX0_join 65 = .ok (.aload_n 0, 1) := by decide +kernel
theorem dX0_join_66 : decode cX0_join 66 = .ok (.getfield 26, 3) := by decide +kernel
theorem dX0_join_69 : decode cX0_join 69 = .ok (.iload_n 3, 1) := by decide +kernel
theorem dX0_join_70 : decode cX0_join 70 = .ok (.iload 5, 2) := by decide +kernel
theorem dX0_join_72 : decode cX0_join 72 = .ok (.invokevirtual 65, 3) := by decide +kernel
theorem dX0_join_75 : decode cX0_join 75 = .ok (.aload_n 0, 1) := by decide +kernel
theorem dX0_join_76 : decode cX0_join 76 = .ok (.getfield 29, 3) := by decide +kernel
theorem dX0_join_79 : decode cX0_join 79 = .ok (.iload_n 3, 1) := by decide +kernel
theorem dX0_join_80 : decode cX0_join 80 = .ok (.iconst 0, 1) := by decide +kernel
theorem dX0_join_81 : decode cX0_join 81 = .ok (.invokevirtual 65, 3) := by decide +kernel
theorem dX0_join_84 : decode cX0_join 84 = .ok (.aload_n 0, 1) := by decide +kernel
theorem dX0_join_85 : decode cX0_join 85 = .ok (.getfield 32, 3) := by decide +kernel
theorem dX0_join_88 : decode cX0_join 88 = .ok (.iload 5, 2) := by decide +kernel
theorem dX0_join_90 : decode cX0_join 90 = .ok (.iconst 1, 1) := by decide +kernel
theorem dX0_join_91 : decode cX0_join 91 = .ok (.invokevirtual 69, 3) := by decide +kernel
theorem dX0_join_94 : decode cX0_join 94 = .ok (.aload_n 0, 1) := by decide +kernel
theorem dX0_join_95 : decode cX0_join 95 = .ok (.dup, 1) := by decide +kernel
theorem dX0_join_96 : decode cX0_join 96 = .ok (.getfield 45, 3) := by decide +kernel
theorem dX0_join_99 : decode cX0_join 99 = .ok (.iconst 1, 1) := by decide +kernel
theorem dX0_join_100 : decode cX0_join 100 = .ok (.iadd, 1) := by decide +kernel
theorem dX0_join_101 : decode cX0_join 101 = .ok (.putfield 45, 3) := by decide +kernel
theorem dX0_join_104 : decode cX0_join 104 = .ok (.aload_n 0, 1) := by decide +kernel
theorem dX0_join_105 : decode cX0_join 105 = .ok (.dup, 1) := by decide +kernel
theorem dX0_join_106 : decode cX0_join 106 = .ok (.getfield 48, 3) := by decide +kernel
theorem dX0_join_109 : decode cX0_join 109 = .ok (.iconst 1, 1) := by decide +kernel
theorem dX0_join_110 : decode cX0_join 110 = .ok (.iadd, 1) := by decide +kernel
theorem dX0_join_111 : decode cX0_join 111 = .ok (.putfield 48, 3) := by decide +kernel
theorem dX0_join_114 : decode cX0_join 114 = .ok (.iload 4, 2) := by decide +kernel
theorem dX0_join_116 : decode cX0_join 116 = .ok (.ireturn, 1) := by decide +kernel
theorem dX0_cut_0 : decode cX0_cut 0 = .ok (.aload_n 0, 1) := by decide +kernel
theorem dX0_cut_1 : decode cX0_cut 1 = .ok (.getfield 26, 3) := by decide +kernel
theorem dX0_cut_4 : decode cX0_cut 4 = .ok (.iload_n 1, 1) := by decide +kernel
theorem dX0_cut_5 : decode cX0_cut 5 = .ok (.invokevirtual 61, 3) := by decide +kernel
theorem dX0_cut_8 : decode cX0_cut 8 = .ok (.istore_n 2, 1) := by decide +kernel
theorem dX0_cut_9 : decode cX0_cut 9 = .ok (.aload_n 0, 1) := by decide +kernel
theorem dX0_cut_10 : decode cX0_cut 10 = .ok (.getfield 32, 3) := by decide +kernel
theorem dX0_cut_13 : decode cX0_cut 13 = .ok (.iload_n 2, 1) := by decide +kernel
theorem dX0_cut_14 : decode cX0_cut 14 = .ok (.iconst (-1), 1) := by decide +kernel
theorem dX0_cut_15 : decode cX0_cut 15 = .ok (.invokevirtual 69, 3) := by decide +kernel
theorem dX0_cut_18 : decode cX0_cut 18 = .ok (.aload_n 0, 1) := by decide +kernel
theorem dX0_cut_19 : decode cX0_cut 19 = .ok (.getfield 14, 3) := by decide +kernel
theorem dX0_cut_22 : decode cX0_cut 22 = .ok (.iload_n 1, 1) := by decide +kernel
theorem dX0_cut_23 : decode cX0_cut 23 = .ok (.invokevirtual 72, 3) := by decide +kernel
theorem dX0_cut_26 : decode cX0_cut 26 = .ok (.aload_n 0, 1) := by decide +kernel
theorem dX0_cut_27 : decode cX0_cut 27 = .ok (.getfield 20, 3) := by decide +kernel
theorem dX0_cut_30 : decode cX0_cut 30 = .ok (.iload_n 1, 1) := by decide +kernel
theorem dX0_cut_31 : decode cX0_cut 31 = .ok (.invokevirtual 72, 3) := by decide +kernel
theorem dX0_cut_34 : decode cX0_cut 34 = .ok (.aload_n 0, 1) := by decide +kernel
theorem dX0_cut_35 : decode cX0_cut 35 = .ok (.getfield 23, 3) := by decide +kernel
theorem dX0_cut_38 : decode cX0_cut 38 = .ok (.iload_n 1, 1) := by decide +kernel
theorem dX0_cut_39 : decode cX0_cut 39 = .ok (.invokevirtual 72, 3) := by decide +kernel
theorem dX0_cut_42 : decode cX0_cut 42 = .ok (.aload_n 0, 1) := by decide +kernel
theorem dX0_cut_43 : decode cX0_cut 43 = .ok (.getfield 26, 3) := by decide +kernel
theorem dX0_cut_46 : decode cX0_cut 46 = .ok (.iload_n 1, 1) := by decide +kernel
theorem dX0_cut_47 : decode cX0_cut 47 = .ok (.invokevirtual 72, 3) := by decide +kernel
theorem dX0_cut_50 : decode cX0_cut 50 = .ok (.aload_n 0, 1) := by decide +kernel
theorem dX0_cut_51 : decode cX0_cut 51 = .ok (.getfield 29, 3) := by decide +kernel
theorem dX0_cut_54 : decode cX0_cut 54 = .ok (.iload_n 1, 1) := by decide +kernel
theorem dX0_cut_55 : decode cX0_cut 55 = .ok (.invokevirtual 72, 3) := by decide +kernel
theorem dX0_cut_58 : decode cX0_cut 58 = .ok (.aload_n 0, 1) := by decide +kernel
theorem dX0_cut_59 : decode cX0_cut 59 = .ok (.dup, 1) := by decide +kernel
theorem dX0_cut_60 : decode cX0_cut 60 = .ok (.getfield 45, 3) := by decide +kernel
theorem dX0_cut_63 : decode cX0_cut 63 = .ok (.iconst 1, 1) := by decide +kernel
theorem dX0_cut_64 : decode cX0_cut 64 = .ok (.isub, 1) := by decide +kernel
theorem dX0_cut_65 : decode cX0_cut 65 = .ok (.putfield 45, 3) := by decide +kernel
theorem dX0_cut_68 : decode cX0_cut 68 = .ok (.iload_n 2, 1) := by decide +kernel
theorem dX0_cut_69 : decode cX0_cut 69 = .ok (.ireturn, 1) := by decide +kernel
theorem dX0_flip_0 : decode cX0_flip 0 = .ok (.aload_n 0, 1) := by decide +kernel
theorem dX0_flip_1 : decode cX0_flip 1 = .ok (.getfield 26, 3) := by decide +kernel
theorem dX0_flip_4 : decode cX0_flip 4 = .ok (.iload_n 1, 1) := by decide +kernel
theorem dX0_flip_5 : decode cX0_flip 5 = .ok (.invokevirtual 61, 3) := by decide +kernel
theorem dX0_flip_8 : decode cX0_flip 8 = .ok (.istore_n 2, 1) := by decide +kernel
theorem dX0_flip_9 : decode cX0_flip 9 = .ok (.aload_n 0, 1) := by decide +kernel
theorem dX0_flip_10 : decode cX0_flip 10 = .ok (.getfield 20, 3) := by decide +kernel
theorem dX0_flip_13 : decode cX0_flip 13 = .ok (.iload_n 1, 1) := by decide +kernel
theorem dX0_flip_14 : decode cX0_flip 14 = .ok (.invokevirtual 61, 3) := by decide +kernel
theorem dX0_flip_17 : decode cX0_flip 17 = .ok (.aload_n 0, 1) := by decide +kernel
theorem dX0_flip_18 : decode cX0_flip 18 = .ok (.getfield 23, 3) := by decide +kernel
theorem dX0_flip_21 : decode cX0_flip 21 = .ok (.iload_n 1, 1) := by decide +kernel
theorem dX0_flip_22 : decode cX0_flip 22 = .ok (.invokevirtual 61, 3) := by decide +kernel
theorem dX0_flip_25 : decode cX0_flip 25 = .ok (.iadd, 1) := by decide +kernel
theorem dX0_flip_26 : decode cX0_flip 26 = .ok (.iload_n 2, 1) := by decide +kernel
theorem dX0_flip_27 : decode cX0_flip 27 = .ok (.isub, 1) := by decide +kernel
theorem dX0_flip_28 : decode cX0_flip 28 = .ok (.istore_n 3, 1) := by decide +kernel
theorem dX0_flip_29 : decode cX0_flip 29 = .ok (.aload_n 0, 1) := by decide +kernel
theorem dX0_flip_30 : decode cX0_flip 30 = .ok (.getfield 32, 3) := by decide +kernel
theorem dX0_flip_33 : decode cX0_flip 33 = .ok (.iload_n 2, 1) := by decide +kernel
theorem dX0_flip_34 : decode cX0_flip 34 = .ok (.iconst (-1), 1) := by decide +kernel
theorem dX0_flip_35 : decode cX0_flip 35 = .ok (.invokevirtual 69, 3) := by decide +kernel
theorem dX0_flip_38 : decode cX0_flip 38 = .ok (.aload_n 0, 1) := by decide +kernel
theorem dX0_flip_39 : decode cX0_flip 39 = .ok (.getfield 32, 3) := by decide +kernel
theorem dX0_flip_42 : decode cX0_flip 42 = .ok (.iload_n 3, 1) := by decide +kernel
theorem dX0_flip_43 : decode cX0_flip 43 = .ok (.iconst 1, 1) := by decide +kernel
theorem dX0_flip_44 : decode cX0_flip 44 = .ok (.invokevirtual 69, 3) := by decide +kernel
theorem dX0_flip_47 : decode cX0_flip 47 = .ok (.aload_n 0, 1) := by decide +kernel
theorem dX0_flip_48 : decode cX0_flip 48 = .ok (.getfield 26, 3) := by decide +kernel
theorem dX0_flip_51 : decode cX0_flip 51 = .ok (.iload_n 1, 1) := by decide +kernel
theorem dX0_flip_52 : decode cX0_flip 52 = .ok (.iload_n 3, 1) := by decide +kernel
theorem dX0_flip_53 : decode cX0_flip 53 = .ok (.invokevirtual 65, 3) := by decide +kernel
theorem dX0_flip_56 : decode cX0_flip 56 = .ok (.aload_n 0, 1) := by decide +kernel
theorem dX0_flip_57 : decode cX0_flip 57 = .ok (.getfield 29, 3) := by decide +kernel
theorem dX0_flip_60 : decode cX0_flip 60 = .ok (.iload_n 1, 1) := by decide +kernel
theorem dX0_flip_61 : decode cX0_flip 61 = .ok (.iconst 1, 1) := by decide +kernel
theorem dX0_flip_62 : decode cX0_flip 62 = .ok (.invokevirtual 69, 3) := by decide +kernel
theorem dX0_flip_65 : decode cX0_flip 65 = .ok (.aload_n 0, 1) := by decide +kernel
theorem dX0_flip_66 : decode cX0_flip 66 = .ok (.dup, 1) := by decide +kernel
theorem dX0_flip_67 : decode cX0_flip 67 = .ok (.getfield 51, 3) := by decide +kernel
theorem dX0_flip_70 : decode cX0_flip 70 = .ok (.iconst 1, 1) := by decide +kernel
theorem dX0_flip_71 : decode cX0_flip 71 = .ok (.iadd, 1) := by decide +kernel
theorem dX0_flip_72 : decode cX0_flip 72 = .ok (.putfield 51, 3) := by decide +kernel
theorem dX0_flip_75 : decode cX0_flip 75 = .ok (.iload_n 3, 1) := by decide +kernel
theorem dX0_flip_76 : decode cX0_flip 76 = .ok (.ireturn, 1) := by decide +kernel
theorem dX0_endNotHolding_0 : decode cX0_endNotHolding 0 = .ok (.aload_n 0, 1) := by decide +kernel
theorem dX0_endNotHolding_1 : decode cX0_endNotHolding 1 = .ok (.getfield 20, 3) := by decide +kernel
theorem dX0_endNotHolding_4 : decode cX0_endNotHolding 4 = .ok (.iload_n 1, 1) := by decide +kernel
theorem dX0_endNotHolding_5 : decode cX0_endNotHolding 5 = .ok (.invokevirtual 61, 3) := by decide +kernel
theorem dX0_endNotHolding_8 : decode cX0_endNotHolding 8 = .ok (.aload_n 0, 1) := by decide +kernel
theorem dX0_endNotHolding_9 : decode cX0_endNotHolding 9 = .ok (.getfield 23, 3) := by decide +kernel
theorem dX0_endNotHolding_12 : decode cX0_endNotHolding 12 = .ok (.iload_n 1, 1) := by decide +kernel
theorem dX0_endNotHolding_13 : decode cX0_endNotHolding 13 = .ok (.invokevirtual 61, 3) := by decide +kernel
theorem dX0_endNotHolding_16 : decode cX0_endNotHolding 16 = .ok (.iadd, 1) := by decide +kernel
theorem dX0_endNotHolding_17 : decode cX0_endNotHolding 17 = .ok (.aload_n 0, 1) := by decide +kernel
theorem dX0_endNotHolding_18 : decode cX0_endNotHolding 18 = .ok (.getfield 26, 3) := by decide +kernel
theorem dX0_endNotHolding_21 : decode cX0_endNotHolding 21 = .ok (.iload_n 1, 1) := by decide +kernel
theorem dX0_endNotHolding_22 : decode cX0_endNotHolding 22 = .ok (.invokevirtual 61, 3) := by decide +kernel
theorem dX0_endNotHolding_25 : decode cX0_endNotHolding 25 = .ok (.isub, 1) := by decide +kernel
theorem dX0_endNotHolding_26 : decode cX0_endNotHolding 26 = .ok (.ireturn, 1) := by decide +kernel
theorem dX0_endsOf_0 : decode cX0_endsOf 0 = .ok (.iconst 1, 1) := by decide +kernel
theorem dX0_endsOf_1 : decode cX0_endsOf 1 = .ok (.aload_n 0, 1) := by decide +kernel
theorem dX0_endsOf_2 : decode cX0_endsOf 2 = .ok (.getfield 20, 3) := by decide +kernel
theorem dX0_endsOf_5 : decode cX0_endsOf 5 = .ok (.iload_n 1, 1) := by decide +kernel
theorem dX0_endsOf_6 : decode cX0_endsOf 6 = .ok (.invokevirtual 61, 3) := by decide +kernel
theorem dX0_endsOf_9 : decode cX0_endsOf 9 = .ok (.ishl, 1) := by decide +kernel
theorem dX0_endsOf_10 : decode cX0_endsOf 10 = .ok (.iconst 1, 1) := by decide +kernel
theorem dX0_endsOf_11 : decode cX0_endsOf 11 = .ok (.aload_n 0, 1) := by decide +kernel
theorem dX0_endsOf_12 : decode cX0_endsOf 12 = .ok (.getfield 23, 3) := by decide +kernel
theorem dX0_endsOf_15 : decode cX0_endsOf 15 = .ok (.iload_n 1, 1) := by decide +kernel
theorem dX0_endsOf_16 : decode cX0_endsOf 16 = .ok (.invokevirtual 61, 3) := by decide +kernel
theorem dX0_endsOf_19 : decode cX0_endsOf 19 = .ok (.ishl, 1) := by decide +kernel
theorem dX0_endsOf_20 : decode cX0_endsOf 20 = .ok (.ior, 1) := by decide +kernel
theorem dX0_endsOf_21 : decode cX0_endsOf 21 = .ok (.ireturn, 1) := by decide +kernel
theorem dX0_edgesOf_0 : decode cX0_edgesOf 0 = .ok (.iconst 0, 1) := by decide +kernel
theorem dX0_edgesOf_1 : decode cX0_edgesOf 1 = .ok (.istore_n 2, 1) := by decide +kernel
theorem dX0_edgesOf_2 : decode cX0_edgesOf 2 = .ok (.iconst 0, 1) := by decide +kernel
theorem dX0_edgesOf_3 : decode cX0_edgesOf 3 = .ok (.istore_n 3, 1) := by decide +kernel
theorem dX0_edgesOf_4 : decode cX0_edgesOf 4 = .ok (.iload_n 3, 1) := by decide +kernel
theorem dX0_edgesOf_5 : decode cX0_edgesOf 5 = .ok (.aload_n 0, 1) := by decide +kernel
theorem dX0_edgesOf_6 : decode cX0_edgesOf 6 = .ok (.getfield 45, 3) := by decide +kernel
theorem dX0_edgesOf_9 : decode cX0_edgesOf 9 = .ok (.if_icmp .ge 24, 3) := by decide +kernel
theorem dX0_edgesOf_12 : decode cX0_edgesOf 12 = .ok (.aload_n 0, 1) := by decide +kernel
theorem dX0_edgesOf_13 : decode cX0_edgesOf 13 = .ok (.iload_n 3, 1) := by decide +kernel
theorem dX0_edgesOf_14 : decode cX0_edgesOf 14 = .ok (.invokevirtual 75, 3) := by decide +kernel
theorem dX0_edgesOf_17 : decode cX0_edgesOf 17 = .ok (.iconst 1, 1) := by decide +kernel
theorem dX0_edgesOf_18 : decode cX0_edgesOf 18 = .ok (.iload_n 1, 1) := by decide +kernel
theorem dX0_edgesOf_19 : decode cX0_edgesOf 19 = .ok (.ishl, 1) := by decide +kernel
theorem dX0_edgesOf_20 : decode cX0_edgesOf 20 = .ok (.iand, 1) := by decide +kernel
theorem dX0_edgesOf_21 : decode cX0_edgesOf 21 = .ok (.ifCond .eq 6, 3) := by decide +kernel
theorem dX0_edgesOf_24 : decode cX0_edgesOf 24 = .ok (.iinc 2 1, 3) := by decide +kernel
theorem dX0_edgesOf_27 : decode cX0_edgesOf 27 = .ok (.iinc 3 1, 3) := by decide +kernel
theorem dX0_edgesOf_30 : decode cX0_edgesOf 30 = .ok (.goto (-26), 3) := by decide +kernel
theorem dX0_edgesOf_33 : decode cX0_edgesOf 33 = .ok (.iload_n 2, 1) := by decide +kernel
theorem dX0_edgesOf_34 : decode cX0_edgesOf 34 = .ok (.ireturn, 1) := by decide +kernel
theorem dX0_neighboursOf_0 : decode cX0_neighboursOf 0 = .ok (.iconst 0, 1) := by decide +kernel
theorem dX0_neighboursOf_1 : decode cX0_neighboursOf 1 = .ok (.istore_n 2, 1) := by decide +kernel
theorem dX0_neighboursOf_2 : decode cX0_neighboursOf 2 = .ok (.iconst 0, 1) := by decide +kernel
theorem dX0_neighboursOf_3 : decode cX0_neighboursOf 3 = .ok (.istore_n 3, 1) := by decide +kernel
theorem dX0_neighboursOf_4 : decode cX0_neighboursOf 4 = .ok (.iload_n 3, 1) := by decide +kernel
theorem dX0_neighboursOf_5 : decode cX0_neighboursOf 5 = .ok (.aload_n 0, 1) := by decide +kernel
theorem dX0_neighboursOf_6 : decode cX0_neighboursOf 6 = .ok (.getfield 45, 3) := by decide +kernel
theorem dX0_neighboursOf_9 : decode cX0_neighboursOf 9 = .ok (.if_icmp .ge 29, 3) := by decide +kernel
theorem dX0_neighboursOf_12 : decode cX0_neighboursOf 12 = .ok (.aload_n 0, 1) := by decide +kernel
theorem dX0_neighboursOf_13 : decode cX0_neighboursOf 13 = .ok (.iload_n 3, 1) := by decide +kernel
theorem dX0_neighboursOf_14 : decode cX0_neighboursOf 14 = .ok (.invokevirtual 75, 3) := by decide +kernel
theorem dX0_neighboursOf_17 : decode cX0_neighboursOf 17 = .ok (.iconst 1, 1) := by decide +kernel
theorem dX0_neighboursOf_18 : decode cX0_neighboursOf 18 = .ok (.iload_n 1, 1) := by decide +kernel
theorem dX0_neighboursOf_19 : decode cX0_neighboursOf 19 = .ok (.ishl, 1) := by decide +kernel
theorem dX0_neighboursOf_20 : decode cX0_neighboursOf 20 = .ok (.iand, 1) := by decide +kernel
theorem dX0_neighboursOf_21 : decode cX0_neighboursOf 21 = .ok (.ifCond .eq 11, 3) := by decide +kernel
theorem dX0_neighboursOf_24 : decode cX0_neighboursOf 24 = .ok (.iload_n 2, 1) := by decide +kernel
theorem dX0_neighboursOf_25 : decode cX0_neighboursOf 25 = .ok (.aload_n 0, 1) := by decide +kernel
theorem dX0_neighboursOf_26 : decode cX0_neighboursOf 26 = .ok (.iload_n 3, 1) := by decide +kernel
theorem dX0_neighboursOf_27 : decode cX0_neighboursOf 27 = .ok (.invokevirtual 75, 3) := by decide +kernel
theorem dX0_neighboursOf_30 : decode cX0_neighboursOf 30 = .ok (.ior, 1) := by decide +kernel
theorem dX0_neighboursOf_31 : decode cX0_neighboursOf 31 = .ok (.istore_n 2, 1) := by decide +kernel
theorem dX0_neighboursOf_32 : decode cX0_neighboursOf 32 = .ok (.iinc 3 1, 3) := by decide +kernel
theorem dX0_neighboursOf_35 : decode cX0_neighboursOf 35 = .ok (.goto (-31), 3) := by decide +kernel
theorem dX0_neighboursOf_38 : decode cX0_neighboursOf 38 = .ok (.iload_n 2, 1) := by decide +kernel
theorem dX0_neighboursOf_39 : decode cX0_neighboursOf 39 = .ok (.iconst 1, 1) := by decide +kernel
theorem dX0_neighboursOf_40 : decode cX0_neighboursOf 40 = .ok (.iload_n 1, 1) := by decide +kernel
theorem dX0_neighboursOf_41 : decode cX0_neighboursOf 41 = .ok (.ishl, 1) := by decide +kernel
theorem dX0_neighboursOf_42 : decode cX0_neighboursOf 42 = .ok (.iconst (-1), 1) := by decide +kernel
theorem dX0_neighboursOf_43 : decode cX0_neighboursOf 43 = .ok (.ixor, 1) := by decide +kernel
theorem dX0_neighboursOf_44 : decode cX0_neighboursOf 44 = .ok (.iand, 1) := by decide +kernel
theorem dX0_neighboursOf_45 : decode cX0_neighboursOf 45 = .ok (.ireturn, 1) := by decide +kernel
theorem dX0_countJoining_0 : decode cX0_countJoining 0 = .ok (.aload_n 2, 1) := by decide +kernel
theorem dX0_countJoining_1 : decode cX0_countJoining 1 = .ok (.iconst 0, 1) := by decide +kernel
theorem dX0_countJoining_2 : decode cX0_countJoining 2 = .ok (.invokevirtual 54, 3) := by decide +kernel
theorem dX0_countJoining_5 : decode cX0_countJoining 5 = .ok (.iconst 0, 1) := by decide +kernel
theorem dX0_countJoining_6 : decode cX0_countJoining 6 = .ok (.istore_n 3, 1) := by decide +kernel
theorem dX0_countJoining_7 : decode cX0_countJoining 7 = .ok (.iload_n 3, 1) := by decide +kernel
theorem dX0_countJoining_8 : decode cX0_countJoining 8 = .ok (.aload_n 0, 1) := by decide +kernel
theorem dX0_countJoining_9 : decode cX0_countJoining 9 = .ok (.getfield 45, 3) := by decide +kernel
theorem dX0_countJoining_12 : decode cX0_countJoining 12 = .ok (.if_icmp .ge 62, 3) := by decide +kernel
theorem dX0_countJoining_15 : decode cX0_countJoining 15 = .ok (.aload_n 0, 1) := by decide +kernel
theorem dX0_countJoining_16 : decode cX0_countJoining 16 = .ok (.getfield 20, 3) := by decide +kernel
theorem dX0_countJoining_19 : decode cX0_countJoining 19 = .ok (.iload_n 3, 1) := by decide +kernel
theorem dX0_countJoining_20 : decode cX0_countJoining 20 = .ok (.invokevirtual 61, 3) := by decide +kernel
theorem dX0_countJoining_23 : decode cX0_countJoining 23 = .ok (.iload_n 1, 1) := by decide +kernel
theorem dX0_countJoining_24 : decode cX0_countJoining 24 = .ok (.if_icmp .ne 19, 3) := by decide +kernel
theorem dX0_countJoining_27 : decode cX0_countJoining 27 = .ok (.aload_n 2, 1) := by decide +kernel
theorem dX0_countJoining_28 : decode cX0_countJoining 28 = .ok (.aload_n 0, 1) := by decide +kernel
theorem dX0_countJoining_29 : decode cX0_countJoining 29 = .ok (.getfield 23, 3) := by decide +kernel
theorem dX0_countJoining_32 : decode cX0_countJoining 32 = .ok (.iload_n 3, 1) := by decide +kernel
theorem dX0_countJoining_33 : decode cX0_countJoining 33 = .ok (.invokevirtual 61, 3) := by decide +kernel
theorem dX0_countJoining_36 : decode cX0_countJoining 36 = .ok (.iconst 1, 1) := by decide +kernel
theorem dX0_countJoining_37 : decode cX0_countJoining 37 = .ok (.invokevirtual 69, 3) := by decide +kernel
theorem dX0_countJoining_40 : decode cX0_countJoining 40 = .ok (.goto 28, 3) := by decide +kernel
theorem dX0_countJoining_43 : decode cX0_countJoining 43 = .ok (.aload_n 0, 1) := by decide +kernel
theorem dX0_countJoining_44 : decode cX0_countJoining 44 = .ok (.getfield 23, 3) := by decide +kernel
theorem dX0_countJoining_47 : decode cX0_countJoining 47 = .ok (.iload_n 3, 1) := by decide +kernel
theorem dX0_countJoining_48 : decode cX0_countJoining 48 = .ok (.invokevirtual 61, 3) := by decide +kernel
theorem dX0_countJoining_51 : decode cX0_countJoining 51 = .ok (.iload_n 1, 1) := by decide +kernel
theorem dX0_countJoining_52 : decode cX0_countJoining 52 = .ok (.if_icmp .ne 16, 3) := by decide +kernel
theorem dX0_countJoining_55 : decode cX0_countJoining 55 = .ok (.aload_n 2, 1) := by decide +kernel
theorem dX0_countJoining_56 : decode cX0_countJoining 56 = .ok (.aload_n 0, 1) := by decide +kernel
theorem dX0_countJoining_57 : decode cX0_countJoining 57 = .ok (.getfield 20, 3) := by decide +kernel
theorem dX0_countJoining_60 : decode cX0_countJoining 60 = .ok (.iload_n 3, 1) := by decide +kernel
theorem dX0_countJoining_61 : decode cX0_countJoining 61 = .ok (.invokevirtual 61, 3) := by decide +kernel
theorem dX0_countJoining_64 : decode cX0_countJoining 64 = .ok (.iconst 1, 1) := by decide +kernel
theorem dX0_countJoining_65 : decode cX0_countJoining 65 = .ok (.invokevirtual 69, 3) := by decide +kernel
theorem dX0_countJoining_68 : decode cX0_countJoining 68 = .ok (.iinc 3 1, 3) := by decide +kernel
theorem dX0_countJoining_71 : decode cX0_countJoining 71 = .ok (.goto (-64), 3) := by decide +kernel
theorem dX0_countJoining_74 : decode cX0_countJoining 74 = .ok (.return_, 1) := by decide +kernel
theorem dX0_edgesWithin_0 : decode cX0_edgesWithin 0 = .ok (.iconst 0, 1) := by decide +kernel
theorem dX0_edgesWithin_1 : decode cX0_edgesWithin 1 = .ok (.istore_n 2, 1) := by decide +kernel
theorem dX0_edgesWithin_2 : decode cX0_edgesWithin 2 = .ok (.iconst 0, 1) := by decide +kernel
theorem dX0_edgesWithin_3 : decode cX0_edgesWithin 3 = .ok (.istore_n 3, 1) := by decide +kernel
theorem dX0_edgesWithin_4 : decode cX0_edgesWithin 4 = .ok (.iload_n 3, 1) := by decide +kernel
theorem dX0_edgesWithin_5 : decode cX0_edgesWithin 5 = .ok (.aload_n 0, 1) := by decide +kernel
theorem dX0_edgesWithin_6 : decode cX0_edgesWithin 6 = .ok (.getfield 45, 3) := by decide +kernel
theorem dX0_edgesWithin_9 : decode cX0_edgesWithin 9 = .ok (.if_icmp .ge 24, 3) := by decide +kernel
theorem dX0_edgesWithin_12 : decode cX0_edgesWithin 12 = .ok (.aload_n 0, 1) := by decide +kernel
theorem dX0_edgesWithin_13 : decode cX0_edgesWithin 13 = .ok (.iload_n 3, 1) := by decide +kernel
theorem dX0_edgesWithin_14 : decode cX0_edgesWithin 14 = .ok (.invokevirtual 75, 3) := by decide +kernel
theorem dX0_edgesWithin_17 : decode cX0_edgesWithin 17 = .ok (.iload_n 1, 1) := by decide +kernel
theorem dX0_edgesWithin_18 : decode cX0_edgesWithin 18 = .ok (.iconst (-1), 1) := by decide +kernel
theorem dX0_edgesWithin_19 : decode cX0_edgesWithin 19 = .ok (.ixor, 1) := by decide +kernel
theorem dX0_edgesWithin_20 : decode cX0_edgesWithin 20 = .ok (.iand, 1) := by decide +kernel
theorem dX0_edgesWithin_21 : decode cX0_edgesWithin 21 = .ok (.ifCond .ne 6, 3) := by decide +kernel
theorem dX0_edgesWithin_24 : decode cX0_edgesWithin 24 = .ok (.iinc 2 1, 3) := by decide +kernel
theorem dX0_edgesWithin_27 : decode cX0_edgesWithin 27 = .ok (.iinc 3 1, 3) := by decide +kernel
theorem dX0_edgesWithin_30 : decode cX0_edgesWithin 30 = .ok (.goto (-26), 3) := by decide +kernel
theorem dX0_edgesWithin_33 : decode cX0_edgesWithin 33 = .ok (.iload_n 2, 1) := by decide +kernel
theorem dX0_edgesWithin_34 : decode cX0_edgesWithin 34 = .ok (.ireturn, 1) := by decide +kernel
theorem dX0_firstSlotWithin_0 : decode cX0_firstSlotWithin 0 = .ok (.iconst 0, 1) := by decide +kernel
theorem dX0_firstSlotWithin_1 : decode cX0_firstSlotWithin 1 = .ok (.istore_n 2, 1) := by decide +kernel
theorem dX0_firstSlotWithin_2 : decode cX0_firstSlotWithin 2 = .ok (.iload_n 2, 1) := by decide +kernel
theorem dX0_firstSlotWithin_3 : decode cX0_firstSlotWithin 3 = .ok (.aload_n 0, 1) := by decide +kernel
theorem dX0_firstSlotWithin_4 : decode cX0_firstSlotWithin 4 = .ok (.getfield 45, 3) := by decide +kernel
theorem dX0_firstSlotWithin_7 : decode cX0_firstSlotWithin 7 = .ok (.if_icmp .ge 23, 3) := by decide +kernel
theorem dX0_firstSlotWithin_10 : decode cX0_firstSlotWithin 10 = .ok (.aload_n 0, 1) := by decide +kernel
theorem dX0_firstSlotWithin_11 : decode cX0_firstSlotWithin 11 = .ok (.iload_n 2, 1) := by decide +kernel
theorem dX0_firstSlotWithin_12 : decode cX0_firstSlotWithin 12 = .ok (.invokevirtual 75, 3) := by decide +kernel
theorem dX0_firstSlotWithin_15 : decode cX0_firstSlotWithin 15 = .ok (.iload_n 1, 1) := by decide +kernel
theorem dX0_firstSlotWithin_16 : decode cX0_firstSlotWithin 16 = .ok (.iconst (-1), 1) := by decide +kernel
theorem dX0_firstSlotWithin_17 : decode cX0_firstSlotWithin 17 = .ok (.ixor, 1) := by decide +kernel
theorem dX0_firstSlotWithin_18 : decode cX0_firstSlotWithin 18 = .ok (.iand, 1) := by decide +kernel
theorem dX0_firstSlotWithin_19 : decode cX0_firstSlotWithin 19 = .ok (.ifCond .ne 5, 3) := by decide +kernel
theorem dX0_firstSlotWithin_22 : decode cX0_firstSlotWithin 22 = .ok (.iload_n 2, 1) := by decide +kernel
theorem dX0_firstSlotWithin_23 : decode cX0_firstSlotWithin 23 = .ok (.ireturn, 1) := by decide +kernel
theorem dX0_firstSlotWithin_24 : decode cX0_firstSlotWithin 24 = .ok (.iinc 2 1, 3) := by decide +kernel
theorem dX0_firstSlotWithin_27 : decode cX0_firstSlotWithin 27 = .ok (.goto (-25), 3) := by decide +kernel
theorem dX0_firstSlotWithin_30 : decode cX0_firstSlotWithin 30 = .ok (.iconst (-1), 1) := by decide +kernel
theorem dX0_firstSlotWithin_31 : decode cX0_firstSlotWithin 31 = .ok (.ireturn, 1) := by decide +kernel
theorem dX0_greatestLoad_0 : decode cX0_greatestLoad 0 = .ok (.iconst 0, 1) := by decide +kernel
theorem dX0_greatestLoad_1 : decode cX0_greatestLoad 1 = .ok (.istore_n 1, 1) := by decide +kernel
theorem dX0_greatestLoad_2 : decode cX0_greatestLoad 2 = .ok (.iconst 0, 1) := by decide +kernel
theorem dX0_greatestLoad_3 : decode cX0_greatestLoad 3 = .ok (.istore_n 2, 1) := by decide +kernel
theorem dX0_greatestLoad_4 : decode cX0_greatestLoad 4 = .ok (.iload_n 2, 1) := by decide +kernel
theorem dX0_greatestLoad_5 : decode cX0_greatestLoad 5 = .ok (.aload_n 0, 1) := by decide +kernel
theorem dX0_greatestLoad_6 : decode cX0_greatestLoad 6 = .ok (.getfield 41, 3) := by decide +kernel
theorem dX0_greatestLoad_9 : decode cX0_greatestLoad 9 = .ok (.if_icmp .ge 22, 3) := by decide +kernel
theorem dX0_greatestLoad_12 : decode cX0_greatestLoad 12 = .ok (.iload_n 1, 1) := by decide +kernel
theorem dX0_greatestLoad_13 : decode cX0_greatestLoad 13 = .ok (.aload_n 0, 1) := by decide +kernel
theorem dX0_greatestLoad_14 : decode cX0_greatestLoad 14 = .ok (.getfield 32, 3) := by decide +kernel
theorem dX0_greatestLoad_17 : decode cX0_greatestLoad 17 = .ok (.iload_n 2, 1) := by decide +kernel
theorem dX0_greatestLoad_18 : decode cX0_greatestLoad 18 = .ok (.invokevirtual 61, 3) := by decide +kernel
theorem dX0_greatestLoad_21 : decode cX0_greatestLoad 21 = .ok (.invokestatic 78, 3) := by decide +kernel
theorem dX0_greatestLoad_24 : decode cX0_greatestLoad 24 = .ok (.istore_n 1, 1) := by decide +kernel
theorem dX0_greatestLoad_25 : decode cX0_greatestLoad 25 = .ok (.iinc 2 1, 3) := by decide +kernel
theorem dX0_greatestLoad_28 : decode cX0_greatestLoad 28 = .ok (.goto (-24), 3) := by decide +kernel
theorem dX0_greatestLoad_31 : decode cX0_greatestLoad 31 = .ok (.iload_n 1, 1) := by decide +kernel
theorem dX0_greatestLoad_32 : decode cX0_greatestLoad 32 = .ok (.ireturn, 1) := by decide +kernel
theorem dX0_leastLoad_0 : decode cX0_leastLoad 0 = .ok (.bipush 40, 2) := by decide +kernel
theorem dX0_leastLoad_2 : decode cX0_leastLoad 2 = .ok (.istore_n 1, 1) := by decide +kernel
theorem dX0_leastLoad_3 : decode cX0_leastLoad 3 = .ok (.iconst 0, 1) := by decide +kernel
theorem dX0_leastLoad_4 : decode cX0_leastLoad 4 = .ok (.istore_n 2, 1) := by decide +kernel
theorem dX0_leastLoad_5 : decode cX0_leastLoad 5 = .ok (.iload_n 2, 1) := by decide +kernel
theorem dX0_leastLoad_6 : decode cX0_leastLoad 6 = .ok (.aload_n 0, 1) := by decide +kernel
theorem dX0_leastLoad_7 : decode cX0_leastLoad 7 = .ok (.getfield 41, 3) := by decide +kernel
theorem dX0_leastLoad_10 : decode cX0_leastLoad 10 = .ok (.if_icmp .ge 22, 3) := by decide +kernel
theorem dX0_leastLoad_13 : decode cX0_leastLoad 13 = .ok (.iload_n 1, 1) := by decide +kernel
theorem dX0_leastLoad_14 : decode cX0_leastLoad 14 = .ok (.aload_n 0, 1) := by decide +kernel
theorem dX0_leastLoad_15 : decode cX0_leastLoad 15 = .ok (.getfield 32, 3) := by decide +kernel
theorem dX0_leastLoad_18 : decode cX0_leastLoad 18 = .ok (.iload_n 2, 1) := by decide +kernel
theorem dX0_leastLoad_19 : decode cX0_leastLoad 19 = .ok (.invokevirtual 61, 3) := by decide +kernel
theorem dX0_leastLoad_22 : decode cX0_leastLoad 22 = .ok (.invokestatic 84, 3) := by decide +kernel
theorem dX0_leastLoad_25 : decode cX0_leastLoad 25 = .ok (.istore_n 1, 1) := by decide +kernel
theorem dX0_leastLoad_26 : decode cX0_leastLoad 26 = .ok (.iinc 2 1, 3) := by decide +kernel
theorem dX0_leastLoad_29 : decode cX0_leastLoad 29 = .ok (.goto (-24), 3) := by decide +kernel
theorem dX0_leastLoad_32 : decode cX0_leastLoad 32 = .ok (.iload_n 1, 1) := by decide +kernel
theorem dX0_leastLoad_33 : decode cX0_leastLoad 33 = .ok (.ireturn, 1) := by decide +kernel
theorem dX0_squaresOfLoads_0 : decode cX0_squaresOfLoads 0 = .ok (.iconst 0, 1) := by decide +kernel
theorem dX0_squaresOfLoads_1 : decode cX0_squaresOfLoads 1 = .ok (.istore_n 1, 1) := by decide +kernel
theorem dX0_squaresOfLoads_2 : decode cX0_squaresOfLoads 2 = .ok (.iconst 0, 1) := by decide +kernel
theorem dX0_squaresOfLoads_3 : decode cX0_squaresOfLoads 3 = .ok (.istore_n 2, 1) := by decide +kernel
theorem dX0_squaresOfLoads_4 : decode cX0_squaresOfLoads 4 = .ok (.iload_n 2, 1) := by decide +kernel
theorem dX0_squaresOfLoads_5 : decode cX0_squaresOfLoads 5 = .ok (.aload_n 0, 1) := by decide +kernel
theorem dX0_squaresOfLoads_6 : decode cX0_squaresOfLoads 6 = .ok (.getfield 41, 3) := by decide +kernel
theorem dX0_squaresOfLoads_9 : decode cX0_squaresOfLoads 9 = .ok (.if_icmp .ge 29, 3) := by decide +kernel
theorem dX0_squaresOfLoads_12 : decode cX0_squaresOfLoads 12 = .ok (.iload_n 1, 1) := by decide +kernel
theorem dX0_squaresOfLoads_13 : decode cX0_squaresOfLoads 13 = .ok (.aload_n 0, 1) := by decide +kernel
theorem dX0_squaresOfLoads_14 : decode cX0_squaresOfLoads 14 = .ok (.getfield 32, 3) := by decide +kernel
theorem dX0_squaresOfLoads_17 : decode cX0_squaresOfLoads 17 = .ok (.iload_n 2, 1) := by decide +kernel
theorem dX0_squaresOfLoads_18 : decode cX0_squaresOfLoads 18 = .ok (.invokevirtual 61, 3) := by decide +kernel
theorem dX0_squaresOfLoads_21 : decode cX0_squaresOfLoads 21 = .ok (.aload_n 0, 1) := by decide +kernel
theorem dX0_squaresOfLoads_22 : decode cX0_squaresOfLoads 22 = .ok (.getfield 32, 3) := by decide +kernel
theorem dX0_squaresOfLoads_25 : decode cX0_squaresOfLoads 25 = .ok (.iload_n 2, 1) := by decide +kernel
theorem dX0_squaresOfLoads_26 : decode cX0_squaresOfLoads 26 = .ok (.invokevirtual 61, 3) := by decide +kernel
theorem dX0_squaresOfLoads_29 : decode cX0_squaresOfLoads 29 = .ok (.imul, 1) := by decide +kernel
theorem dX0_squaresOfLoads_30 : decode cX0_squaresOfLoads 30 = .ok (.iadd, 1) := by decide +kernel
theorem dX0_squaresOfLoads_31 : decode cX0_squaresOfLoads 31 = .ok (.istore_n 1, 1) := by decide +kernel
theorem dX0_squaresOfLoads_32 : decode cX0_squaresOfLoads 32 = .ok (.iinc 2 1, 3) := by decide +kernel
theorem dX0_squaresOfLoads_35 : decode cX0_squaresOfLoads 35 = .ok (.goto (-31), 3) := by decide +kernel
theorem dX0_squaresOfLoads_38 : decode cX0_squaresOfLoads 38 = .ok (.iload_n 1, 1) := by decide +kernel
theorem dX0_squaresOfLoads_39 : decode cX0_squaresOfLoads 39 = .ok (.ireturn, 1) := by decide +kernel
theorem dX0_overloadedNodes_0 : decode cX0_overloadedNodes 0 = .ok (.iconst 0, 1) := by decide +kernel
theorem dX0_overloadedNodes_1 : decode cX0_overloadedNodes 1 = .ok (.istore_n 1, 1) := by decide +kernel
theorem dX0_overloadedNodes_2 : decode cX0_overloadedNodes 2 = .ok (.iconst 0, 1) := by decide +kernel
theorem dX0_overloadedNodes_3 : decode cX0_overloadedNodes 3 = .ok (.istore_n 2, 1) := by decide +kernel
theorem dX0_overloadedNodes_4 : decode cX0_overloadedNodes 4 = .ok (.iload_n 2, 1) := by decide +kernel
theorem dX0_overloadedNodes_5 : decode cX0_overloadedNodes 5 = .ok (.aload_n 0, 1) := by decide +kernel
theorem dX0_overloadedNodes_6 : decode cX0_overloadedNodes 6 = .ok (.getfield 41, 3) := by decide +kernel
theorem dX0_overloadedNodes_9 : decode cX0_overloadedNodes 9 = .ok (.if_icmp .ge 31, 3) := by decide +kernel
theorem dX0_overloadedNodes_12 : decode cX0_overloadedNodes 12 = .ok (.aload_n 0, 1) := by decide +kernel
theorem dX0_overloadedNodes_13 : decode cX0_overloadedNodes 13 = .ok (.getfield 32, 3) := by decide +kernel
theorem dX0_overloadedNodes_16 : decode cX0_overloadedNodes 16 = .ok (.iload_n 2, 1) := by decide +kernel
theorem dX0_overloadedNodes_17 : decode cX0_overloadedNodes 17 = .ok (.invokevirtual 61, 3) := by decide +kernel
theorem dX0_overloadedNodes_20 : decode cX0_overloadedNodes 20 = .ok (.aload_n 0, 1) := by decide +kernel
theorem dX0_overloadedNodes_21 : decode cX0_overloadedNodes 21 = .ok (.getfield 35, 3) := by decide +kernel
theorem dX0_overloadedNodes_24 : decode cX0_overloadedNodes 24 = .ok (.iload_n 2, 1) := by decide +kernel
theorem dX0_overloadedNodes_25 : decode cX0_overloadedNodes 25 = .ok (.invokevirtual 61, 3) := by decide +kernel
theorem dX0_overloadedNodes_28 : decode cX0_overloadedNodes 28 = .ok (.if_icmp .le 6, 3) := by decide +kernel
theorem dX0_overloadedNodes_31 : decode cX0_overloadedNodes 31 = .ok (.iinc 1 1, 3) := by decide +kernel
theorem dX0_overloadedNodes_34 : decode cX0_overloadedNodes 34 = .ok (.iinc 2 1, 3) := by decide +kernel
theorem dX0_overloadedNodes_37 : decode cX0_overloadedNodes 37 = .ok (.goto (-33), 3) := by decide +kernel
theorem dX0_overloadedNodes_40 : decode cX0_overloadedNodes 40 = .ok (.iload_n 1, 1) := by decide +kernel
theorem dX0_overloadedNodes_41 : decode cX0_overloadedNodes 41 = .ok (.ireturn, 1) := by decide +kernel
theorem dX1_init_0 : decode cX1_init 0 = .ok (.aload_n 0, 1) := by decide +kernel
theorem dX1_init_1 : decode cX1_init 1 = .ok (.invokespecial 3, 3) := by decide +kernel
theorem dX1_init_4 : decode cX1_init 4 = .ok (.aload_n 0, 1) := by decide +kernel
theorem dX1_init_5 : decode cX1_init 5 = .ok (.iconst 4, 1) := by decide +kernel
theorem dX1_init_6 : decode cX1_init 6 = .ok (.anewarray 9, 3) := by decide +kernel
theorem dX1_init_9 : decode cX1_init 9 = .ok (.putfield 11, 3) := by decide +kernel
theorem dX1_init_12 : decode cX1_init 12 = .ok (.iconst 0, 1) := by decide +kernel
theorem dX1_init_13 : decode cX1_init 13 = .ok (.istore_n 1, 1) := by decide +kernel
theorem dX1_init_14 : decode cX1_init 14 = .ok (.iload_n 1, 1) := by decide +kernel
theorem dX1_init_15 : decode cX1_init 15 = .ok (.aload_n 0, 1) := by decide +kernel
theorem dX1_init_16 : decode cX1_init 16 = .ok (.getfield 11, 3) := by decide +kernel
theorem dX1_init_19 : decode cX1_init 19 = .ok (.arraylength, 1) := by decide +kernel
theorem dX1_init_20 : decode cX1_init 20 = .ok (.if_icmp .ge 22, 3) := by decide +kernel
theorem dX1_init_23 : decode cX1_init 23 = .ok (.aload_n 0, 1) := by decide +kernel
theorem dX1_init_24 : decode cX1_init 24 = .ok (.getfield 11, 3) := by decide +kernel
theorem dX1_init_27 : decode cX1_init 27 = .ok (.iload_n 1, 1) := by decide +kernel
theorem dX1_init_28 : decode cX1_init 28 = .ok (.new 9, 3) := by decide +kernel
theorem dX1_init_31 : decode cX1_init 31 = .ok (.dup, 1) := by decide +kernel
theorem dX1_init_32 : decode cX1_init 32 = .ok (.invokespecial 17, 3) := by decide +kernel
theorem dX1_init_35 : decode cX1_init 35 = .ok (.aastore, 1) := by decide +kernel
theorem dX1_init_36 : decode cX1_init 36 = .ok (.iinc 1 1, 3) := by decide +kernel
theorem dX1_init_39 : decode cX1_init 39 = .ok (.goto (-25), 3) := by decide +kernel
theorem dX1_init_42 : decode cX1_init 42 = .ok (.return_, 1) := by decide +kernel
theorem dX1_save_0 : decode cX1_save 0 = .ok (.aload_n 0, 1) := by decide +kernel
theorem dX1_save_1 : decode cX1_save 1 = .ok (.getfield 18, 3) := by decide +kernel
theorem dX1_save_4 : decode cX1_save 4 = .ok (.ifCond .lt 27, 3) := by decide +kernel
theorem dX1_save_7 : decode cX1_save 7 = .ok (.aload_n 0, 1) := by decide +kernel
theorem dX1_save_8 : decode cX1_save 8 = .ok (.getfield 18, 3) := by decide +kernel
theorem dX1_save_11 : decode cX1_save 11 = .ok (.aload_n 0, 1) := by decide +kernel
theorem dX1_save_12 : decode cX1_save 12 = .ok (.getfield 11, 3) := by decide +kernel
theorem dX1_save_15 : decode cX1_save 15 = .ok (.arraylength, 1) := by decide +kernel
theorem dX1_save_16 : decode cX1_save 16 = .ok (.if_icmp .ge 15, 3) := by decide +kernel
theorem dX1_save_19 : decode cX1_save 19 = .ok (.aload_n 0, 1) := by decide +kernel
theorem dX1_save_20 : decode cX1_save 20 = .ok (.getfield 11, 3) := by decide +kernel
theorem dX1_save_23 : decode cX1_save 23 = .ok (.aload_n 0, 1) := by decide +kernel
theorem dX1_save_24 : decode cX1_save 24 = .ok (.getfield 18, 3) := by decide +kernel
theorem dX1_save_27 : decode cX1_save 27 = .ok (.aaload, 1) := by decide +kernel
theorem dX1_save_28 : decode cX1_save 28 = .ok (.ifnonnull 4, 3) := by decide +kernel
theorem dX1_save_31 : decode cX1_save 31 = .ok (.return_, 1) := by decide +kernel
theorem dX1_save_32 : decode cX1_save 32 = .ok (.aload_n 0, 1) := by decide +kernel
theorem dX1_save_33 : decode cX1_save 33 = .ok (.getfield 11, 3) := by decide +kernel
theorem dX1_save_36 : decode cX1_save 36 = .ok (.aload_n 0, 1) := by decide +kernel
theorem dX1_save_37 : decode cX1_save 37 = .ok (.getfield 18, 3) := by decide +kernel
theorem dX1_save_40 : decode cX1_save 40 = .ok (.aaload, 1) := by decide +kernel
theorem dX1_save_41 : decode cX1_save 41 = .ok (.aload_n 1, 1) := by decide +kernel
theorem dX1_save_42 : decode cX1_save 42 = .ok (.invokevirtual 22, 3) := by decide +kernel
theorem dX1_save_45 : decode cX1_save 45 = .ok (.aload_n 0, 1) := by decide +kernel
theorem dX1_save_46 : decode cX1_save 46 = .ok (.aload_n 0, 1) := by decide +kernel
theorem dX1_save_47 : decode cX1_save 47 = .ok (.getfield 18, 3) := by decide +kernel
theorem dX1_save_50 : decode cX1_save 50 = .ok (.iconst 1, 1) := by decide +kernel
theorem dX1_save_51 : decode cX1_save 51 = .ok (.iadd, 1) := by decide +kernel
theorem dX1_save_52 : decode cX1_save 52 = .ok (.iconst 4, 1) := by decide +kernel
theorem dX1_save_53 : decode cX1_save 53 = .ok (.if_icmp .ge 12, 3) := by decide +kernel
theorem dX1_save_56 : decode cX1_save 56 = .ok (.aload_n 0, 1) := by decide +kernel
theorem dX1_save_57 : decode cX1_save 57 = .ok (.getfield 18, 3) := by decide +kernel
theorem dX1_save_60 : decode cX1_save 60 = .ok (.iconst 1, 1) := by decide +kernel
theorem dX1_save_61 : decode cX1_save 61 = .ok (.iadd, 1) := by decide +kernel
theorem dX1_save_62 : decode cX1_save 62 = .ok (.goto 4, 3) := by decide +kernel
theorem dX1_save_65 : decode cX1_save 65 = .ok (.iconst 0, 1) := by decide +kernel
theorem dX1_save_66 : decode cX1_save 66 = .ok (.putfield 18, 3) := by decide +kernel
theorem dX1_save_69 : decode cX1_save 69 = .ok (.aload_n 0, 1) := by decide +kernel
theorem dX1_save_70 : decode cX1_save 70 = .ok (.aload_n 0, 1) := by decide +kernel
theorem dX1_save_71 : decode cX1_save 71 = .ok (.getfield 26, 3) := by decide +kernel
theorem dX1_save_74 : decode cX1_save 74 = .ok (.iconst 1, 1) := by decide +kernel
theorem dX1_save_75 : decode cX1_save 75 = .ok (.iadd, 1) := by decide +kernel
theorem dX1_save_76 : decode cX1_save 76 = .ok (.iconst 4, 1) := by decide +kernel
theorem dX1_save_77 : decode cX1_save 77 = .ok (.invokestatic 29, 3) := by decide +kernel
theorem dX1_save_80 : decode cX1_save 80 = .ok (.putfield 26, 3) := by decide +kernel
theorem dX1_save_83 : decode cX1_save 83 = .ok (.return_, 1) := by decide +kernel
theorem dX1_restore_0 : decode cX1_restore 0 = .ok (.aload_n 0, 1) := by decide +kernel
theorem dX1_restore_1 : decode cX1_restore 1 = .ok (.getfield 18, 3) := by decide +kernel
theorem dX1_restore_4 : decode cX1_restore 4 = .ok (.ifCond .le 12, 3) := by decide +kernel
theorem dX1_restore_7 : decode cX1_restore 7 = .ok (.aload_n 0, 1) := by decide +kernel
theorem dX1_restore_8 : decode cX1_restore 8 = .ok (.getfield 18, 3) := by decide +kernel
theorem dX1_restore_11 : decode cX1_restore 11 = .ok (.iconst 1, 1) := by decide +kernel
theorem dX1_restore_12 : decode cX1_restore 12 = .ok (.isub, 1) := by decide +kernel
theorem dX1_restore_13 : decode cX1_restore 13 = .ok (.goto 4, 3) := by decide +kernel
theorem dX1_restore_16 : decode cX1_restore 16 = .ok (.iconst 3, 1) := by decide +kernel
theorem dX1_restore_17 : decode cX1_restore 17 = .ok (.istore_n 2, 1) := by decide +kernel
theorem dX1_restore_18 : decode cX1_restore 18 = .ok (.aload_n 0, 1) := by decide +kernel
theorem dX1_restore_19 : decode cX1_restore 19 = .ok (.getfield 26, 3) := by decide +kernel
theorem dX1_restore_22 : decode cX1_restore 22 = .ok (.iconst 1, 1) := by decide +kernel
theorem dX1_restore_23 : decode cX1_restore 23 = .ok (.if_icmp .lt 21, 3) := by decide +kernel
theorem dX1_restore_26 : decode cX1_restore 26 = .ok (.iload_n 2, 1) := by decide +kernel
theorem dX1_restore_27 : decode cX1_restore 27 = .ok (.aload_n 0, 1) := by decide +kernel
theorem dX1_restore_28 : decode cX1_restore 28 = .ok (.getfield 11, 3) := by decide +kernel
theorem dX1_restore_31 : decode cX1_restore 31 = .ok (.arraylength, 1) := by decide +kernel
theorem dX1_restore_32 : decode cX1_restore 32 = .ok (.if_icmp .ge 12, 3) := by decide +kernel
theorem dX1_restore_35 : decode cX1_restore 35 = .ok (.aload_n 0, 1) := by decide +kernel
theorem dX1_restore_36 : decode cX1_restore 36 = .ok (.getfield 11, 3) := by decide +kernel
theorem dX1_restore_39 : decode cX1_restore 39 = .ok (.iload_n 2, 1) := by decide +kernel
theorem dX1_restore_40 : decode cX1_restore 40 = .ok (.aaload, 1) := by decide +kernel
theorem dX1_restore_41 : decode cX1_restore 41 = .ok (.ifnonnull 4, 3) := by decide +kernel
theorem dX1_restore_44 : decode cX1_restore 44 = .ok (.return_, 1) := by decide +kernel
theorem dX1_restore_45 : decode cX1_restore 45 = .ok (.aload_n 1, 1) := by decide +kernel
theorem dX1_restore_46 : decode cX1_restore 46 = .ok (.aload_n 0, 1) := by decide +kernel
theorem dX1_restore_47 : decode cX1_restore 47 = .ok (.getfield 11, 3) := by decide +kernel
theorem dX1_restore_50 : decode cX1_restore 50 = .ok (.iload_n 2, 1) := by decide +kernel
theorem dX1_restore_51 : decode cX1_restore 51 = .ok (.aaload, 1) := by decide +kernel
theorem dX1_restore_52 : decode cX1_restore 52 = .ok (.invokevirtual 22, 3) := by decide +kernel
theorem dX1_restore_55 : decode cX1_restore 55 = .ok (.aload_n 0, 1) := by decide +kernel
theorem dX1_restore_56 : decode cX1_restore 56 = .ok (.iload_n 2, 1) := by decide +kernel
theorem dX1_restore_57 : decode cX1_restore 57 = .ok (.putfield 18, 3) := by decide +kernel
theorem dX1_restore_60 : decode cX1_restore 60 = .ok (.aload_n 0, 1) := by decide +kernel
theorem dX1_restore_61 : decode cX1_restore 61 = .ok (.dup, 1) := by decide +kernel
theorem dX1_restore_62 : decode cX1_restore 62 = .ok (.getfield 26, 3) := by decide +kernel
theorem dX1_restore_65 : decode cX1_restore 65 = .ok (.iconst 1, 1) := by decide +kernel
theorem dX1_restore_66 : decode cX1_restore 66 = .ok (.isub, 1) := by decide +kernel
theorem dX1_restore_67 : decode cX1_restore 67 = .ok (.putfield 26, 3) := by decide +kernel
theorem dX1_restore_70 : decode cX1_restore 70 = .ok (.return_, 1) := by decide +kernel
theorem dX2_init_0 : decode cX2_init 0 = .ok (.aload_n 0, 1) := by decide +kernel
theorem dX2_init_1 : decode cX2_init 1 = .ok (.invokespecial 3, 3) := by decide +kernel
theorem dX2_init_4 : decode cX2_init 4 = .ok (.aload_n 0, 1) := by decide +kernel
theorem dX2_init_5 : decode cX2_init 5 = .ok (.new 9, 3) := by decide +kernel
theorem dX2_init_8 : decode cX2_init 8 = .ok (.dup, 1) := by decide +kernel
theorem dX2_init_9 : decode cX2_init 9 = .ok (.bipush 100, 2) := by decide +kernel
theorem dX2_init_11 : decode cX2_init 11 = .ok (.invokespecial 11, 3) := by decide +kernel
theorem dX2_init_14 : decode cX2_init 14 = .ok (.putfield 14, 3) := by decide +kernel
theorem dX2_init_17 : decode cX2_init 17 = .ok (.aload_n 0, 1) := by decide +kernel
theorem dX2_init_18 : decode cX2_init 18 = .ok (.iconst (-1), 1) := by decide +kernel
theorem dX2_init_19 : decode cX2_init 19 = .ok (.putfield 20, 3) := by decide +kernel
theorem dX2_init_22 : decode cX2_init 22 = .ok (.return_, 1) := by decide +kernel
theorem dX2_put_0 : decode cX2_put 0 = .ok (.aload_n 0, 1) := by decide +kernel
theorem dX2_put_1 : decode cX2_put 1 = .ok (.getfield 24, 3) := by decide +kernel
theorem dX2_put_4 : decode cX2_put 4 = .ok (.bipush 100, 2) := by decide +kernel
theorem dX2_put_6 : decode cX2_put 6 = .ok (.if_icmp .ge 25, 3) := by decide +kernel
theorem dX2_put_9 : decode cX2_put 9 = .ok (.aload_n 0, 1) := by decide +kernel
theorem dX2_put_10 : decode cX2_put 10 = .ok (.getfield 14, 3) := by decide +kernel
theorem dX2_put_13 : decode cX2_put 13 = .ok (.aload_n 0, 1) := by decide +kernel
theorem dX2_put_14 : decode cX2_put 14 = .ok (.getfield 24, 3) := by decide +kernel
theorem dX2_put_17 : decode cX2_put 17 = .ok (.iload_n 1, 1) := by decide +kernel
theorem dX2_put_18 : decode cX2_put 18 = .ok (.invokevirtual 27, 3) := by decide +kernel
theorem dX2_put_21 : decode cX2_put 21 = .ok (.aload_n 0, 1) := by decide +kernel
theorem dX2_put_22 : decode cX2_put 22 = .ok (.dup, 1) := by decide +kernel
theorem dX2_put_23 : decode cX2_put 23 = .ok (.getfield 24, 3) := by decide +kernel
theorem dX2_put_26 : decode cX2_put 26 = .ok (.iconst 1, 1) := by decide +kernel
theorem dX2_put_27 : decode cX2_put 27 = .ok (.iadd, 1) := by decide +kernel
theorem dX2_put_28 : decode cX2_put 28 = .ok (.putfield 24, 3) := by decide +kernel
theorem dX2_put_31 : decode cX2_put 31 = .ok (.aload_n 0, 1) := by decide +kernel
theorem dX2_put_32 : decode cX2_put 32 = .ok (.getfield 24, 3) := by decide +kernel
theorem dX2_put_35 : decode cX2_put 35 = .ok (.ireturn, 1) := by decide +kernel
theorem dX2_empty_0 : decode cX2_empty 0 = .ok (.aload_n 0, 1) := by decide +kernel
theorem dX2_empty_1 : decode cX2_empty 1 = .ok (.getfield 24, 3) := by decide +kernel
theorem dX2_empty_4 : decode cX2_empty 4 = .ok (.istore_n 1, 1) := by decide +kernel
theorem dX2_empty_5 : decode cX2_empty 5 = .ok (.aload_n 0, 1) := by decide +kernel
theorem dX2_empty_6 : decode cX2_empty 6 = .ok (.iconst 0, 1) := by decide +kernel
theorem dX2_empty_7 : decode cX2_empty 7 = .ok (.putfield 24, 3) := by decide +kernel
theorem dX2_empty_10 : decode cX2_empty 10 = .ok (.iload_n 1, 1) := by decide +kernel
theorem dX2_empty_11 : decode cX2_empty 11 = .ok (.ireturn, 1) := by decide +kernel
theorem dX2_rewind_0 : decode cX2_rewind 0 = .ok (.aload_n 0, 1) := by decide +kernel
theorem dX2_rewind_1 : decode cX2_rewind 1 = .ok (.iconst 0, 1) := by decide +kernel
theorem dX2_rewind_2 : decode cX2_rewind 2 = .ok (.putfield 31, 3) := by decide +kernel
theorem dX2_rewind_5 : decode cX2_rewind 5 = .ok (.aload_n 0, 1) := by decide +kernel
theorem dX2_rewind_6 : decode cX2_rewind 6 = .ok (.iconst (-1), 1) := by decide +kernel
theorem dX2_rewind_7 : decode cX2_rewind 7 = .ok (.putfield 20, 3) := by decide +kernel
theorem dX2_rewind_10 : decode cX2_rewind 10 = .ok (.return_, 1) := by decide +kernel
theorem dX2_findSyntaxError_0 : decode cX2_findSyntaxError 0 = .ok (.aload_n 0, 1) := by decide +kernel
theorem dX2_findSyntaxError_1 : decode cX2_findSyntaxError 1 = .ok (.invokevirtual 34, 3) := by decide +kernel
theorem dX2_findSyntaxError_4 : decode cX2_findSyntaxError 4 = .ok (.iconst 1, 1) := by decide +kernel
theorem dX2_findSyntaxError_5 : decode cX2_findSyntaxError 5 = .ok (.istore_n 1, 1) := by decide +kernel
theorem dX2_findSyntaxError_6 : decode cX2_findSyntaxError 6 = .ok (.iconst 0, 1) := by decide +kernel
theorem dX2_findSyntaxError_7 : decode cX2_findSyntaxError 7 = .ok (.istore_n 2, 1) := by decide +kernel
theorem dX2_findSyntaxError_8 : decode cX2_findSyntaxError 8 = .ok (.iload_n 2, 1) := by decide +kernel
theorem dX2_findSyntaxError_9 : decode cX2_findSyntaxError 9 = .ok (.bipush 100, 2) := by decide +kernel
theorem dX2_findSyntaxError_11 : decode cX2_findSyntaxError 11 = .ok (.if_icmp .ge 18, 3) := by decide +kernel
theorem dX2_findSyntaxError_14 : decode cX2_findSyntaxError 14 = .ok (.iload_n 1, 1) := by decide +kernel
theorem dX2_findSyntaxError_15 : decode cX2_findSyntaxError 15 = .ok (.ifCond .eq 14, 3) := by decide +kernel
theorem dX2_findSyntaxError_18 : decode cX2_findSyntaxError 18 = .ok (.aload_n 0, 1) := by decide +kernel
theorem dX2_findSyntaxError_19 : decode cX2_findSyntaxError 19 = .ok (.invokevirtual 37, 3) := by decide +kernel
theorem dX2_findSyntaxError_22 : decode cX2_findSyntaxError 22 = .ok (.istore_n 1, 1) := by decide +kernel
theorem dX2_findSyntaxError_23 : decode cX2_findSyntaxError 23 = .ok (.iinc 2 1, 3) := by decide +kernel
theorem dX2_findSyntaxError_26 : decode cX2_findSyntaxError 26 = .ok (.goto (-18), 3) := by decide +kernel
theorem dX2_findSyntaxError_29 : decode cX2_findSyntaxError 29 = .ok (.aload_n 0, 1) := by decide +kernel
theorem dX2_findSyntaxError_30 : decode cX2_findSyntaxError 30 = .ok (.getfield 20, 3) := by decide +kernel
theorem dX2_findSyntaxError_33 : decode cX2_findSyntaxError 33 = .ok (.ireturn, 1) := by decide +kernel
theorem dX2_readOrder_0 : decode cX2_readOrder 0 = .ok (.aload_n 0, 1) := by decide +kernel
theorem dX2_readOrder_1 : decode cX2_readOrder 1 = .ok (.getfield 31, 3) := by decide +kernel
theorem dX2_readOrder_4 : decode cX2_readOrder 4 = .ok (.aload_n 0, 1) := by decide +kernel
theorem dX2_readOrder_5 : decode cX2_readOrder 5 = .ok (.getfield 24, 3) := by decide +kernel
theorem dX2_readOrder_8 : decode cX2_readOrder 8 = .ok (.if_icmp .lt 5, 3) := by decide +kernel
theorem dX2_readOrder_11 : decode cX2_readOrder 11 = .ok (.iconst 0, 1) := by decide +kernel
theorem dX2_readOrder_12 : decode cX2_readOrder 12 = .ok (.ireturn, 1) := by decide +kernel
theorem dX2_readOrder_13 : decode cX2_readOrder 13 = .ok (.aload_n 0, 1) := by decide +kernel
theorem dX2_readOrder_14 : decode cX2_readOrder 14 = .ok (.aload_n 0, 1) := by decide +kernel
theorem dX2_readOrder_15 : decode cX2_readOrder 15 = .ok (.invokevirtual 41, 3) := by decide +kernel
theorem dX2_readOrder_18 : decode cX2_readOrder 18 = .ok (.putfield 45, 3) := by decide +kernel
theorem dX2_readOrder_21 : decode cX2_readOrder 21 = .ok (.aload_n 0, 1) := by decide +kernel
theorem dX2_readOrder_22 : decode cX2_readOrder 22 = .ok (.getfield 45, 3) := by decide +kernel
theorem dX2_readOrder_25 : decode cX2_readOrder 25 = .ok (.lookupswitch 167 #[(43, 59), (45, 84), (98, 124), (99, 133), (114, 107), (116, 84)], 59) := by decide +kernel
theorem dX2_readOrder_84 : decode cX2_readOrder 84 = .ok (.aload_n 0, 1) := by decide +kernel
theorem dX2_readOrder_85 : decode cX2_readOrder 85 = .ok (.bipush 43, 2) := by decide +kernel
theorem dX2_readOrder_87 : decode cX2_readOrder 87 = .ok (.invokevirtual 48, 3) := by decide +kernel
theorem dX2_readOrder_90 : decode cX2_readOrder 90 = .ok (.aload_n 0, 1) := by decide +kernel
theorem dX2_readOrder_91 : decode cX2_readOrder 91 = .ok (.aload_n 0, 1) := by decide +kernel
theorem dX2_readOrder_92 : decode cX2_readOrder 92 = .ok (.invokevirtual 51, 3) := by decide +kernel
theorem dX2_readOrder_95 : decode cX2_readOrder 95 = .ok (.putfield 54, 3) := by decide +kernel
theorem dX2_readOrder_98 : decode cX2_readOrder 98 = .ok (.aload_n 0, 1) := by decide +kernel
theorem dX2_readOrder_99 : decode cX2_readOrder 99 = .ok (.aload_n 0, 1) := by decide +kernel
theorem dX2_readOrder_100 : decode cX2_readOrder 100 = .ok (.invokevirtual 51, 3) := by decide +kernel
theorem dX2_readOrder_103 : decode cX2_readOrder 103 = .ok (.putfield 57, 3) := by decide +kernel
theorem dX2_readOrder_106 : decode cX2_readOrder 106 = .ok (.goto 94, 3) := by decide +kernel
theorem dX2_readOrder_109 : decode cX2_readOrder 109 = .ok (.aload_n 0, 1) := by decide +kernel
theorem dX2_readOrder_110 : decode cX2_readOrder 110 = .ok (.aload_n 0, 1) := by decide +kernel
theorem dX2_readOrder_111 : decode cX2_readOrder 111 = .ok (.getfield 45, 3) := by decide +kernel
theorem dX2_readOrder_114 : decode cX2_readOrder 114 = .ok (.invokevirtual 48, 3) := by decide +kernel
theorem dX2_readOrder_117 : decode cX2_readOrder 117 = .ok (.aload_n 0, 1) := by decide +kernel
theorem dX2_readOrder_118 : decode cX2_readOrder 118 = .ok (.aload_n 0, 1) := by decide +kernel
theorem dX2_readOrder_119 : decode cX2_readOrder 119 = .ok (.iconst 3, 1) := by decide +kernel
theorem dX2_readOrder_120 : decode cX2_readOrder 120 = .ok (.sipush 999, 3) := by decide +kernel
theorem dX2_readOrder_123 : decode cX2_readOrder 123 = .ok (.invokevirtual 60, 3) := by decide +kernel
theorem dX2_readOrder_126 : decode cX2_readOrder 126 = .ok (.putfield 64, 3) := by decide +kernel
theorem dX2_readOrder_129 : decode cX2_readOrder 129 = .ok (.goto 71, 3) := by decide +kernel
theorem dX2_readOrder_132 : decode cX2_readOrder 132 = .ok (.aload_n 0, 1) := by decide +kernel
theorem dX2_readOrder_133 : decode cX2_readOrder 133 = .ok (.bipush 114, 2) := by decide +kernel
theorem dX2_readOrder_135 : decode cX2_readOrder 135 = .ok (.invokevirtual 48, 3) := by decide +kernel
theorem dX2_readOrder_138 : decode cX2_readOrder 138 = .ok (.aload_n 0, 1) := by decide +kernel
theorem dX2_readOrder_139 : decode cX2_readOrder 139 = .ok (.aload_n 0, 1) := by decide +kernel
theorem dX2_readOrder_140 : decode cX2_readOrder 140 = .ok (.invokevirtual 51, 3) := by decide +kernel
theorem dX2_readOrder_143 : decode cX2_readOrder 143 = .ok (.putfield 54, 3) := by decide +kernel
theorem dX2_readOrder_146 : decode cX2_readOrder 146 = .ok (.goto 54, 3) := by decide +kernel
theorem dX2_readOrder_149 : decode cX2_readOrder 149 = .ok (.aload_n 0, 1) := by decide +kernel
theorem dX2_readOrder_150 : decode cX2_readOrder 150 = .ok (.bipush 98, 2) := by decide +kernel
theorem dX2_readOrder_152 : decode cX2_readOrder 152 = .ok (.invokevirtual 48, 3) := by decide +kernel
theorem dX2_readOrder_155 : decode cX2_readOrder 155 = .ok (.goto 45, 3) := by decide +kernel
theorem dX2_readOrder_158 : decode cX2_readOrder 158 = .ok (.aload_n 0, 1) := by decide +kernel
theorem dX2_readOrder_159 : decode cX2_readOrder 159 = .ok (.bipush 99, 2) := by decide +kernel
theorem dX2_readOrder_161 : decode cX2_readOrder 161 = .ok (.invokevirtual 48, 3) := by decide +kernel
theorem dX2_readOrder_164 : decode cX2_readOrder 164 = .ok (.aload_n 0, 1) := by decide +kernel
theorem dX2_readOrder_165 : decode cX2_readOrder 165 = .ok (.aload_n 0, 1) := by decide +kernel
theorem dX2_readOrder_166 : decode cX2_readOrder 166 = .ok (.invokevirtual 51, 3) := by decide +kernel
theorem dX2_readOrder_169 : decode cX2_readOrder 169 = .ok (.putfield 54, 3) := by decide +kernel
theorem dX2_readOrder_172 : decode cX2_readOrder 172 = .ok (.aload_n 0, 1) := by decide +kernel
theorem dX2_readOrder_173 : decode cX2_readOrder 173 = .ok (.bipush 61, 2) := by decide +kernel
theorem dX2_readOrder_175 : decode cX2_readOrder 175 = .ok (.invokevirtual 48, 3) := by decide +kernel
theorem dX2_readOrder_178 : decode cX2_readOrder 178 = .ok (.aload_n 0, 1) := by decide +kernel
theorem dX2_readOrder_179 : decode cX2_readOrder 179 = .ok (.aload_n 0, 1) := by decide +kernel
theorem dX2_readOrder_180 : decode cX2_readOrder 180 = .ok (.iconst 2, 1) := by decide +kernel
theorem dX2_readOrder_181 : decode cX2_readOrder 181 = .ok (.bipush 40, 2) := by decide +kernel
theorem dX2_readOrder_183 : decode cX2_readOrder 183 = .ok (.invokevirtual 60, 3) := by decide +kernel
theorem dX2_readOrder_186 : decode cX2_readOrder 186 = .ok (.putfield 64, 3) := by decide +kernel
theorem dX2_readOrder_189 : decode cX2_readOrder 189 = .ok (.goto 11, 3) := by decide +kernel
theorem dX2_readOrder_192 : decode cX2_readOrder 192 = .ok (.aload_n 0, 1) := by decide +kernel
theorem dX2_readOrder_193 : decode cX2_readOrder 193 = .ok (.aload_n 0, 1) := by decide +kernel
theorem dX2_readOrder_194 : decode cX2_readOrder 194 = .ok (.getfield 31, 3) := by decide +kernel
theorem dX2_readOrder_197 : decode cX2_readOrder 197 = .ok (.invokevirtual 67, 3) := by decide +kernel
theorem dX2_readOrder_200 : decode cX2_readOrder 200 = .ok (.aload_n 0, 1) := by decide +kernel
theorem dX2_readOrder_201 : decode cX2_readOrder 201 = .ok (.bipush 59, 2) := by decide +kernel
theorem dX2_readOrder_203 : decode cX2_readOrder 203 = .ok (.invokevirtual 48, 3) := by decide +kernel
theorem dX2_readOrder_206 : decode cX2_readOrder 206 = .ok (.aload_n 0, 1) := by decide +kernel
theorem dX2_readOrder_207 : decode cX2_readOrder 207 = .ok (.getfield 20, 3) := by decide +kernel
theorem dX2_readOrder_210 : decode cX2_readOrder 210 = .ok (.iconst (-1), 1) := by decide +kernel
theorem dX2_readOrder_211 : decode cX2_readOrder 211 = .ok (.if_icmp .ne 7, 3) := by decide +kernel
theorem dX2_readOrder_214 : decode cX2_readOrder 214 = .ok (.iconst 1, 1) := by decide +kernel
theorem dX2_readOrder_215 : decode cX2_readOrder 215 = .ok (.goto 4, 3) := by decide +kernel
theorem dX2_readOrder_218 : decode cX2_readOrder 218 = .ok (.iconst 0, 1) := by decide +kernel
theorem dX2_readOrder_219 : decode cX2_readOrder 219 = .ok (.ireturn, 1) := by decide +kernel
theorem dX2_current_0 : decode cX2_current 0 = .ok (.aload_n 0, 1) := by decide +kernel
theorem dX2_current_1 : decode cX2_current 1 = .ok (.getfield 31, 3) := by decide +kernel
theorem dX2_current_4 : decode cX2_current 4 = .ok (.aload_n 0, 1) := by decide +kernel
theorem dX2_current_5 : decode cX2_current 5 = .ok (.getfield 24, 3) := by decide +kernel
theorem dX2_current_8 : decode cX2_current 8 = .ok (.if_icmp .ge 17, 3) := by decide +kernel
theorem dX2_current_11 : decode cX2_current 11 = .ok (.aload_n 0, 1) := by decide +kernel
theorem dX2_current_12 : decode cX2_current 12 = .ok (.getfield 14, 3) := by decide +kernel
theorem dX2_current_15 : decode cX2_current 15 = .ok (.aload_n 0, 1) := by decide +kernel
theorem dX2_current_16 : decode cX2_current 16 = .ok (.getfield 31, 3) := by decide +kernel
theorem dX2_current_19 : decode cX2_current 19 = .ok (.invokevirtual 70, 3) := by decide +kernel
theorem dX2_current_22 : decode cX2_current 22 = .ok (.goto 4, 3) := by decide +kernel
theorem dX2_current_25 : decode cX2_current 25 = .ok (.iconst (-1), 1) := by decide +kernel
theorem dX2_current_26 : decode cX2_current 26 = .ok (.ireturn, 1) := by decide +kernel
theorem dX2_noteWrong_0 : decode cX2_noteWrong 0 = .ok (.aload_n 0, 1) := by decide +kernel
theorem dX2_noteWrong_1 : decode cX2_noteWrong 1 = .ok (.getfield 20, 3) := by decide +kernel
theorem dX2_noteWrong_4 : decode cX2_noteWrong 4 = .ok (.iconst (-1), 1) := by decide +kernel
theorem dX2_noteWrong_5 : decode cX2_noteWrong 5 = .ok (.if_icmp .ne 8, 3) := by decide +kernel
theorem dX2_noteWrong_8 : decode cX2_noteWrong 8 = .ok (.aload_n 0, 1) := by decide +kernel
theorem dX2_noteWrong_9 : decode cX2_noteWrong 9 = .ok (.iload_n 1, 1) := by decide +kernel
theorem dX2_noteWrong_10 : decode cX2_noteWrong 10 = .ok (.putfield 20, 3) := by decide +kernel
theorem dX2_noteWrong_13 : decode cX2_noteWrong 13 = .ok (.return_, 1) := by decide +kernel
theorem dX2_readSign_0 : decode cX2_readSign 0 = .ok (.aload_n 0, 1) := by decide +kernel
theorem dX2_readSign_1 : decode cX2_readSign 1 = .ok (.getfield 20, 3) := by decide +kernel
theorem dX2_readSign_4 : decode cX2_readSign 4 = .ok (.iconst (-1), 1) := by decide +kernel
theorem dX2_readSign_5 : decode cX2_readSign 5 = .ok (.if_icmp .ne 24, 3) := by decide +kernel
theorem dX2_readSign_8 : decode cX2_readSign 8 = .ok (.aload_n 0, 1) := by decide +kernel
theorem dX2_readSign_9 : decode cX2_readSign 9 = .ok (.invokevirtual 41, 3) := by decide +kernel
theorem dX2_readSign_12 : decode cX2_readSign 12 = .ok (.iload_n 1, 1) := by decide +kernel
theorem dX2_readSign_13 : decode cX2_readSign 13 = .ok (.if_icmp .ne 16, 3) := by decide +kernel
theorem dX2_readSign_16 : decode cX2_readSign 16 = .ok (.aload_n 0, 1) := by decide +kernel
theorem dX2_readSign_17 : decode cX2_readSign 17 = .ok (.dup, 1) := by decide +kernel
theorem dX2_readSign_18 : decode cX2_readSign 18 = .ok (.getfield 31, 3) := by decide +kernel
theorem dX2_readSign_21 : decode cX2_readSign 21 = .ok (.iconst 1, 1) := by decide +kernel
theorem dX2_readSign_22 : decode cX2_readSign 22 = .ok (.iadd, 1) := by decide +kernel
theorem dX2_readSign_23 : decode cX2_readSign 23 = .ok (.putfield 31, 3) := by decide +kernel
theorem dX2_readSign_26 : decode cX2_readSign 26 = .ok (.goto 11, 3) := by decide +kernel
theorem dX2_readSign_29 : decode cX2_readSign 29 = .ok (.aload_n 0, 1) := by decide +kernel
theorem dX2_readSign_30 : decode cX2_readSign 30 = .ok (.aload_n 0, 1) := by decide +kernel
theorem dX2_readSign_31 : decode cX2_readSign 31 = .ok (.getfield 31, 3) := by decide +kernel
theorem dX2_readSign_34 : decode cX2_readSign 34 = .ok (.invokevirtual 67, 3) := by decide +kernel
theorem dX2_readSign_37 : decode cX2_readSign 37 = .ok (.return_, 1) := by decide +kernel
theorem dX2_readNode_0 : decode cX2_readNode 0 = .ok (.aload_n 0, 1) := by decide +kernel
theorem dX2_readNode_1 : decode cX2_readNode 1 = .ok (.invokevirtual 41, 3) := by decide +kernel
theorem dX2_readNode_4 : decode cX2_readNode 4 = .ok (.bipush 97, 2) := by decide +kernel
theorem dX2_readNode_6 : decode cX2_readNode 6 = .ok (.isub, 1) := by decide +kernel
theorem dX2_readNode_7 : decode cX2_readNode 7 = .ok (.istore_n 1, 1) := by decide +kernel
theorem dX2_readNode_8 : decode cX2_readNode 8 = .ok (.aload_n 0, 1) := by decide +kernel
theorem dX2_readNode_9 : decode cX2_readNode 9 = .ok (.getfield 20, 3) := by decide +kernel
theorem dX2_readNode_12 : decode cX2_readNode 12 = .ok (.iconst (-1), 1) := by decide +kernel
theorem dX2_readNode_13 : decode cX2_readNode 13 = .ok (.if_icmp .ne 25, 3) := by decide +kernel
theorem dX2_readNode_16 : decode cX2_readNode 16 = .ok (.iload_n 1, 1) := by decide +kernel
theorem dX2_readNode_17 : decode cX2_readNode 17 = .ok (.ifCond .lt 21, 3) := by decide +kernel
theorem dX2_readNode_20 : decode cX2_readNode 20 = .ok (.iload_n 1, 1) := by decide +kernel
theorem dX2_readNode_21 : decode cX2_readNode 21 = .ok (.bipush 12, 2) := by decide +kernel
theorem dX2_readNode_23 : decode cX2_readNode 23 = .ok (.if_icmp .ge 15, 3) := by decide +kernel
theorem dX2_readNode_26 : decode cX2_readNode 26 = .ok (.aload_n 0, 1) := by decide +kernel
theorem dX2_readNode_27 : decode cX2_readNode 27 = .ok (.dup, 1) := by decide +kernel
theorem dX2_readNode_28 : decode cX2_readNode 28 = .ok (.getfield 31, 3) := by decide +kernel
theorem dX2_readNode_31 : decode cX2_readNode 31 = .ok (.iconst 1, 1) := by decide +kernel
theorem dX2_readNode_32 : decode cX2_readNode 32 = .ok (.iadd, 1) := by decide +kernel
theorem dX2_readNode_33 : decode cX2_readNode 33 = .ok (.putfield 31, 3) := by decide +kernel
theorem dX2_readNode_36 : decode cX2_readNode 36 = .ok (.iload_n 1, 1) := by decide +kernel
theorem dX2_readNode_37 : decode cX2_readNode 37 = .ok (.ireturn, 1) := by decide +kernel
theorem dX2_readNode_38 : decode cX2_readNode 38 = .ok (.aload_n 0, 1) := by decide +kernel
theorem dX2_readNode_39 : decode cX2_readNode 39 = .ok (.aload_n 0, 1) := by decide +kernel
theorem dX2_readNode_40 : decode cX2_readNode 40 = .ok (.getfield 31, 3) := by decide +kernel
theorem dX2_readNode_43 : decode cX2_readNode 43 = .ok (.invokevirtual 67, 3) := by decide +kernel
theorem dX2_readNode_46 : decode cX2_readNode 46 = .ok (.iconst (-1), 1) := by decide +kernel
theorem dX2_readNode_47 : decode cX2_readNode 47 = .ok (.ireturn, 1) := by decide +kernel
theorem dX2_readNumber_0 : decode cX2_readNumber 0 = .ok (.aload_n 0, 1) := by decide +kernel
theorem dX2_readNumber_1 : decode cX2_readNumber 1 = .ok (.getfield 31, 3) := by decide +kernel
theorem dX2_readNumber_4 : decode cX2_readNumber 4 = .ok (.istore_n 3, 1) := by decide +kernel
theorem dX2_readNumber_5 : decode cX2_readNumber 5 = .ok (.iconst 0, 1) := by decide +kernel
theorem dX2_readNumber_6 : decode cX2_readNumber 6 = .ok (.istore 4, 2) := by decide +kernel
theorem dX2_readNumber_8 : decode cX2_readNumber 8 = .ok (.iconst 0, 1) := by decide +kernel
theorem dX2_readNumber_9 : decode cX2_readNumber 9 = .ok (.istore 5, 2) := by decide +kernel
theorem dX2_readNumber_11 : decode cX2_readNumber 11 = .ok (.iload 5, 2) := by decide +kernel
theorem dX2_readNumber_13 : decode cX2_readNumber 13 = .ok (.iload_n 1, 1) := by decide +kernel
theorem dX2_readNumber_14 : decode cX2_readNumber 14 = .ok (.if_icmp .ge 49, 3) := by decide +kernel
theorem dX2_readNumber_17 : decode cX2_readNumber 17 = .ok (.aload_n 0, 1) := by decide +kernel
theorem dX2_readNumber_18 : decode cX2_readNumber 18 = .ok (.getfield 20, 3) := by decide +kernel
theorem dX2_readNumber_21 : decode cX2_readNumber 21 = .ok (.iconst (-1), 1) := by decide +kernel
theorem dX2_readNumber_22 : decode cX2_readNumber 22 = .ok (.if_icmp .ne 41, 3) := by decide +kernel
theorem dX2_readNumber_25 : decode cX2_readNumber 25 = .ok (.aload_n 0, 1) := by decide +kernel
theorem dX2_readNumber_26 : decode cX2_readNumber 26 = .ok (.invokevirtual 74, 3) := by decide +kernel
theorem dX2_readNumber_29 : decode cX2_readNumber 29 = .ok (.ifCond .eq 34, 3) := by decide +kernel
theorem dX2_readNumber_32 : decode cX2_readNumber 32 = .ok (.iload 4, 2) := by decide +kernel
theorem dX2_readNumber_34 : decode cX2_readNumber 34 = .ok (.bipush 10, 2) := by decide +kernel
theorem dX2_readNumber_36 : decode cX2_readNumber 36 = .ok (.imul, 1) := by decide +kernel
theorem dX2_readNumber_37 : decode cX2_readNumber 37 = .ok (.aload_n 0, 1) := by decide +kernel
theorem dX2_readNumber_38 : decode cX2_readNumber 38 = .ok (.invokevirtual 41, 3) := by decide +kernel
theorem dX2_readNumber_41 : decode cX2_readNumber 41 = .ok (.iadd, 1) := by decide +kernel
theorem dX2_readNumber_42 : decode cX2_readNumber 42 = .ok (.bipush 48, 2) := by decide +kernel
theorem dX2_readNumber_44 : decode cX2_readNumber 44 = .ok (.isub, 1) := by decide +kernel
theorem dX2_readNumber_45 : decode cX2_readNumber 45 = .ok (.istore 4, 2) := by decide +kernel
theorem dX2_readNumber_47 : decode cX2_readNumber 47 = .ok (.aload_n 0, 1) := by decide +kernel
theorem dX2_readNumber_48 : decode cX2_readNumber 48 = .ok (.dup, 1) := by decide +kernel
theorem dX2_readNumber_49 : decode cX2_readNumber 49 = .ok (.getfield 31, 3) := by decide +kernel
theorem dX2_readNumber_52 : decode cX2_readNumber 52 = .ok (.iconst 1, 1) := by decide +kernel
theorem dX2_readNumber_53 : decode cX2_readNumber 53 = .ok (.iadd, 1) := by decide +kernel
theorem dX2_readNumber_54 : decode cX2_readNumber 54 = .ok (.putfield 31, 3) := by decide +kernel
theorem dX2_readNumber_57 : decode cX2_readNumber 57 = .ok (.iinc 5 1, 3) := by decide +kernel
theorem dX2_readNumber_60 : decode cX2_readNumber 60 = .ok (.goto (-49), 3) := by decide +kernel
theorem dX2_readNumber_63 : decode cX2_readNumber 63 = .ok (.aload_n 0, 1) := by decide +kernel
theorem dX2_readNumber_64 : decode cX2_readNumber 64 = .ok (.getfield 31, 3) := by decide +kernel
theorem dX2_readNumber_67 : decode cX2_readNumber 67 = .ok (.iload_n 3, 1) := by decide +kernel
theorem dX2_readNumber_68 : decode cX2_readNumber 68 = .ok (.if_icmp .eq 10, 3) := by decide +kernel
theorem dX2_readNumber_71 : decode cX2_readNumber 71 = .ok (.aload_n 0, 1) := by decide +kernel
theorem dX2_readNumber_72 : decode cX2_readNumber 72 = .ok (.invokevirtual 74, 3) := by decide +kernel
theorem dX2_readNumber_75 : decode cX2_readNumber 75 = .ok (.ifCond .eq 14, 3) := by decide +kernel
theorem dX2_readNumber_78 : decode cX2_readNumber 78 = .ok (.aload_n 0, 1) := by decide +kernel
theorem dX2_readNumber_79 : decode cX2_readNumber 79 = .ok (.aload_n 0, 1) := by decide +kernel
theorem dX2_readNumber_80 : decode cX2_readNumber 80 = .ok (.getfield 31, 3) := by decide +kernel
theorem dX2_readNumber_83 : decode cX2_readNumber 83 = .ok (.invokevirtual 67, 3) := by decide +kernel
theorem dX2_readNumber_86 : decode cX2_readNumber 86 = .ok (.goto 14, 3) := by decide +kernel
theorem dX2_readNumber_89 : decode cX2_readNumber 89 = .ok (.iload 4, 2) := by decide +kernel
theorem dX2_readNumber_91 : decode cX2_readNumber 91 = .ok (.iload_n 2, 1) := by decide +kernel
theorem dX2_readNumber_92 : decode cX2_readNumber 92 = .ok (.if_icmp .le 8, 3) := by decide +kernel
theorem dX2_readNumber_95 : decode cX2_readNumber 95 = .ok (.aload_n 0, 1) := by decide +kernel
theorem dX2_readNumber_96 : decode cX2_readNumber 96 = .ok (.iload_n 3, 1) := by decide +kernel
theorem dX2_readNumber_97 : decode cX2_readNumber 97 = .ok (.invokevirtual 67, 3) := by decide +kernel
theorem dX2_readNumber_100 : decode cX2_readNumber 100 = .ok (.iload 4, 2) := by decide +kernel
theorem dX2_readNumber_102 : decode cX2_readNumber 102 = .ok (.ireturn, 1) := by decide +kernel
theorem dX2_isAtDigit_0 : decode cX2_isAtDigit 0 = .ok (.aload_n 0, 1) := by decide +kernel
theorem dX2_isAtDigit_1 : decode cX2_isAtDigit 1 = .ok (.invokevirtual 41, 3) := by decide +kernel
theorem dX2_isAtDigit_4 : decode cX2_isAtDigit 4 = .ok (.bipush 48, 2) := by decide +kernel
theorem dX2_isAtDigit_6 : decode cX2_isAtDigit 6 = .ok (.if_icmp .lt 16, 3) := by decide +kernel
theorem dX2_isAtDigit_9 : decode cX2_isAtDigit 9 = .ok (.aload_n 0, 1) := by decide +kernel
theorem dX2_isAtDigit_10 : decode cX2_isAtDigit 10 = .ok (.invokevirtual 41, 3) := by decide +kernel
theorem dX2_isAtDigit_13 : decode cX2_isAtDigit 13 = .ok (.bipush 57, 2) := by decide +kernel
theorem dX2_isAtDigit_15 : decode cX2_isAtDigit 15 = .ok (.if_icmp .gt 7, 3) := by decide +kernel
theorem dX2_isAtDigit_18 : decode cX2_isAtDigit 18 = .ok (.iconst 1, 1) := by decide +kernel
theorem dX2_isAtDigit_19 : decode cX2_isAtDigit 19 = .ok (.goto 4, 3) := by decide +kernel
theorem dX2_isAtDigit_22 : decode cX2_isAtDigit 22 = .ok (.iconst 0, 1) := by decide +kernel
theorem dX2_isAtDigit_23 : decode cX2_isAtDigit 23 = .ok (.ireturn, 1) := by decide +kernel
theorem dX3_init_0 : decode cX3_init 0 = .ok (.aload_n 0, 1) := by decide +kernel
theorem dX3_init_1 : decode cX3_init 1 = .ok (.invokespecial 3, 3) := by decide +kernel
theorem dX3_init_4 : decode cX3_init 4 = .ok (.aload_n 0, 1) := by decide +kernel
theorem dX3_init_5 : decode cX3_init 5 = .ok (.sipush 4096, 3) := by decide +kernel
theorem dX3_init_8 : decode cX3_init 8 = .ok (.newarray .int, 2) := by decide +kernel
theorem dX3_init_10 : decode cX3_init 10 = .ok (.putfield 9, 3) := by decide +kernel
theorem dX3_init_13 : decode cX3_init 13 = .ok (.aload_n 0, 1) := by decide +kernel
theorem dX3_init_14 : decode cX3_init 14 = .ok (.sipush 4096, 3) := by decide +kernel
theorem dX3_init_17 : decode cX3_init 17 = .ok (.newarray .int, 2) := by decide +kernel
theorem dX3_init_19 : decode cX3_init 19 = .ok (.putfield 15, 3) := by decide +kernel
theorem dX3_init_22 : decode cX3_init 22 = .ok (.aload_n 0, 1) := by decide +kernel
theorem dX3_init_23 : decode cX3_init 23 = .ok (.new 18, 3) := by decide +kernel
theorem dX3_init_26 : decode cX3_init 26 = .ok (.dup, 1) := by decide +kernel
theorem dX3_init_27 : decode cX3_init 27 = .ok (.bipush 12, 2) := by decide +kernel
theorem dX3_init_29 : decode cX3_init 29 = .ok (.invokespecial 20, 3) := by decide +kernel
theorem dX3_init_32 : decode cX3_init 32 = .ok (.putfield 23, 3) := by decide +kernel
theorem dX3_init_35 : decode cX3_init 35 = .ok (.return_, 1) := by decide +kernel
theorem dX3_forget_0 : decode cX3_forget 0 = .ok (.aload_n 0, 1) := by decide +kernel
theorem dX3_forget_1 : decode cX3_forget 1 = .ok (.iconst 0, 1) := by decide +kernel
theorem dX3_forget_2 : decode cX3_forget 2 = .ok (.putfield 27, 3) := by decide +kernel
theorem dX3_forget_5 : decode cX3_forget 5 = .ok (.return_, 1) := by decide +kernel
theorem dX3_learn_0 : decode cX3_learn 0 = .ok (.aload_n 0, 1) := by decide +kernel
theorem dX3_learn_1 : decode cX3_learn 1 = .ok (.getfield 27, 3) := by decide +kernel
theorem dX3_learn_4 : decode cX3_learn 4 = .ok (.ifCond .eq 4, 3) := by decide +kernel
theorem dX3_learn_7 : decode cX3_learn 7 = .ok (.return_, 1) := by decide +kernel
theorem dX3_learn_8 : decode cX3_learn 8 = .ok (.aload_n 0, 1) := by decide +kernel
theorem dX3_learn_9 : decode cX3_learn 9 = .ok (.getfield 9, 3) := by decide +kernel
theorem dX3_learn_12 : decode cX3_learn 12 = .ok (.iconst 0, 1) := by decide +kernel
theorem dX3_learn_13 : decode cX3_learn 13 = .ok (.iconst 0, 1) := by decide +kernel
theorem dX3_learn_14 : decode cX3_learn 14 = .ok (.iastore, 1) := by decide +kernel
theorem dX3_learn_15 : decode cX3_learn 15 = .ok (.aload_n 0, 1) := by decide +kernel
theorem dX3_learn_16 : decode cX3_learn 16 = .ok (.iconst 1, 1) := by decide +kernel
theorem dX3_learn_17 : decode cX3_learn 17 = .ok (.putfield 31, 3) := by decide +kernel
theorem dX3_learn_20 : decode cX3_learn 20 = .ok (.iconst 0, 1) := by decide +kernel
theorem dX3_learn_21 : decode cX3_learn 21 = .ok (.istore_n 2, 1) := by decide +kernel
theorem dX3_learn_22 : decode cX3_learn 22 = .ok (.iload_n 2, 1) := by decide +kernel
theorem dX3_learn_23 : decode cX3_learn 23 = .ok (.aload_n 1, 1) := by decide +kernel
theorem dX3_learn_24 : decode cX3_learn 24 = .ok (.getfield 35, 3) := by decide +kernel
theorem dX3_learn_27 : decode cX3_learn 27 = .ok (.if_icmp .ge 35, 3) := by decide +kernel
theorem dX3_learn_30 : decode cX3_learn 30 = .ok (.aload_n 0, 1) := by decide +kernel
theorem dX3_learn_31 : decode cX3_learn 31 = .ok (.getfield 31, 3) := by decide +kernel
theorem dX3_learn_34 : decode cX3_learn 34 = .ok (.iconst 2, 1) := by decide +kernel
theorem dX3_learn_35 : decode cX3_learn 35 = .ok (.imul, 1) := by decide +kernel
theorem dX3_learn_36 : decode cX3_learn 36 = .ok (.sipush 4096, 3) := by decide +kernel
theorem dX3_learn_39 : decode cX3_learn 39 = .ok (.if_icmp .gt 23, 3) := by decide +kernel
theorem dX3_learn_42 : decode cX3_learn 42 = .ok (.aload_n 1, 1) := by decide +kernel
theorem dX3_learn_43 : decode cX3_learn 43 = .ok (.iload_n 2, 1) := by decide +kernel
theorem dX3_learn_44 : decode cX3_learn 44 = .ok (.aload_n 0, 1) := by decide +kernel
theorem dX3_learn_45 : decode cX3_learn 45 = .ok (.getfield 23, 3) := by decide +kernel
theorem dX3_learn_48 : decode cX3_learn 48 = .ok (.invokevirtual 40, 3) := by decide +kernel
theorem dX3_learn_51 : decode cX3_learn 51 = .ok (.aload_n 0, 1) := by decide +kernel
theorem dX3_learn_52 : decode cX3_learn 52 = .ok (.iload_n 2, 1) := by decide +kernel
theorem dX3_learn_53 : decode cX3_learn 53 = .ok (.invokevirtual 44, 3) := by decide +kernel
theorem dX3_learn_56 : decode cX3_learn 56 = .ok (.iinc 2 1, 3) := by decide +kernel
theorem dX3_learn_59 : decode cX3_learn 59 = .ok (.goto (-37), 3) := by decide +kernel
theorem dX3_learn_62 : decode cX3_learn 62 = .ok (.aload_n 0, 1) := by decide +kernel
theorem dX3_learn_63 : decode cX3_learn 63 = .ok (.aload_n 0, 1) := by decide +kernel
theorem dX3_learn_64 : decode cX3_learn 64 = .ok (.iconst 0, 1) := by decide +kernel
theorem dX3_learn_65 : decode cX3_learn 65 = .ok (.iconst 0, 1) := by decide +kernel
theorem dX3_learn_66 : decode cX3_learn 66 = .ok (.invokevirtual 47, 3) := by decide +kernel
theorem dX3_learn_69 : decode cX3_learn 69 = .ok (.putfield 51, 3) := by decide +kernel
theorem dX3_learn_72 : decode cX3_learn 72 = .ok (.aload_n 0, 1) := by decide +kernel
theorem dX3_learn_73 : decode cX3_learn 73 = .ok (.aload_n 0, 1) := by decide +kernel
theorem dX3_learn_74 : decode cX3_learn 74 = .ok (.aload_n 0, 1) := by decide +kernel
theorem dX3_learn_75 : decode cX3_learn 75 = .ok (.getfield 51, 3) := by decide +kernel
theorem dX3_learn_78 : decode cX3_learn 78 = .ok (.iconst 0, 1) := by decide +kernel
theorem dX3_learn_79 : decode cX3_learn 79 = .ok (.iconst 0, 1) := by decide +kernel
theorem dX3_learn_80 : decode cX3_learn 80 = .ok (.invokevirtual 54, 3) := by decide +kernel
theorem dX3_learn_83 : decode cX3_learn 83 = .ok (.putfield 58, 3) := by decide +kernel
theorem dX3_learn_86 : decode cX3_learn 86 = .ok (.aload_n 0, 1) := by decide +kernel
theorem dX3_learn_87 : decode cX3_learn 87 = .ok (.iconst 1, 1) := by decide +kernel
theorem dX3_learn_88 : decode cX3_learn 88 = .ok (.putfield 27, 3) := by decide +kernel
theorem dX3_learn_91 : decode cX3_learn 91 = .ok (.return_, 1) := by decide +kernel
theorem dX3_addSetsWith_0 : decode cX3_addSetsWith 0 = .ok (.aload_n 0, 1) := by decide +kernel
theorem dX3_addSetsWith_1 : decode cX3_addSetsWith 1 = .ok (.getfield 9, 3) := by decide +kernel
theorem dX3_addSetsWith_4 : decode cX3_addSetsWith 4 = .ok (.aload_n 0, 1) := by decide +kernel
theorem dX3_addSetsWith_5 : decode cX3_addSetsWith 5 = .ok (.getfield 31, 3) := by decide +kernel
theorem dX3_addSetsWith_8 : decode cX3_addSetsWith 8 = .ok (.aload_n 0, 1) := by decide +kernel
theorem dX3_addSetsWith_9 : decode cX3_addSetsWith 9 = .ok (.getfield 23, 3) := by decide +kernel
theorem dX3_addSetsWith_12 : decode cX3_addSetsWith 12 = .ok (.iload_n 1, 1) := by decide +kernel
theorem dX3_addSetsWith_13 : decode cX3_addSetsWith 13 = .ok (.invokestatic 61, 3) := by decide +kernel
theorem dX3_addSetsWith_16 : decode cX3_addSetsWith 16 = .ok (.iconst 0, 1) := by decide +kernel
theorem dX3_addSetsWith_17 : decode cX3_addSetsWith 17 = .ok (.istore_n 2, 1) := by decide +kernel
theorem dX3_addSetsWith_18 : decode cX3_addSetsWith 18 = .ok (.iload_n 2, 1) := by decide +kernel
theorem dX3_addSetsWith_19 : decode cX3_addSetsWith 19 = .ok (.aload_n 0, 1) := by decide +kernel
theorem dX3_addSetsWith_20 : decode cX3_addSetsWith 20 = .ok (.getfield 31, 3) := by decide +kernel
theorem dX3_addSetsWith_23 : decode cX3_addSetsWith 23 = .ok (.if_icmp .ge 43, 3) := by decide +kernel
theorem dX3_addSetsWith_26 : decode cX3_addSetsWith 26 = .ok (.aload_n 0, 1) := by decide +kernel
theorem dX3_addSetsWith_27 : decode cX3_addSetsWith 27 = .ok (.getfield 31, 3) := by decide +kernel
theorem dX3_addSetsWith_30 : decode cX3_addSetsWith 30 = .ok (.iload_n 2, 1) := by decide +kernel
theorem dX3_addSetsWith_31 : decode cX3_addSetsWith 31 = .ok (.iadd, 1) := by decide +kernel
theorem dX3_addSetsWith_32 : decode cX3_addSetsWith 32 = .ok (.aload_n 0, 1) := by decide +kernel
theorem dX3_addSetsWith_33 : decode cX3_addSetsWith 33 = .ok (.getfield 9, 3) := by decide +kernel
theorem dX3_addSetsWith_36 : decode cX3_addSetsWith 36 = .ok (.arraylength, 1) := by decide +kernel
theorem dX3_addSetsWith_37 : decode cX3_addSetsWith 37 = .ok (.if_icmp .ge 29, 3) := by decide +kernel
theorem dX3_addSetsWith_40 : decode cX3_addSetsWith 40 = .ok (.aload_n 0, 1) := by decide +kernel
theorem dX3_addSetsWith_41 : decode cX3_addSetsWith 41 = .ok (.getfield 9, 3) := by decide +kernel
theorem dX3_addSetsWith_44 : decode cX3_addSetsWith 44 = .ok (.aload_n 0, 1) := by decide +kernel
theorem dX3_addSetsWith_45 : decode cX3_addSetsWith 45 = .ok (.getfield 31, 3) := by decide +kernel
theorem dX3_addSetsWith_48 : decode cX3_addSetsWith 48 = .ok (.iload_n 2, 1) := by decide +kernel
theorem dX3_addSetsWith_49 : decode cX3_addSetsWith 49 = .ok (.iadd, 1) := by decide +kernel
theorem dX3_addSetsWith_50 : decode cX3_addSetsWith 50 = .ok (.dup2, 1) := by decide +kernel
theorem dX3_addSetsWith_51 : decode cX3_addSetsWith 51 = .ok (.iaload, 1) := by decide +kernel
theorem dX3_addSetsWith_52 : decode cX3_addSetsWith 52 = .ok (.aload_n 0, 1) := by decide +kernel
theorem dX3_addSetsWith_53 : decode cX3_addSetsWith 53 = .ok (.getfield 9, 3) := by decide +kernel
theorem dX3_addSetsWith_56 : decode cX3_addSetsWith 56 = .ok (.iload_n 2, 1) := by decide +kernel
theorem dX3_addSetsWith_57 : decode cX3_addSetsWith 57 = .ok (.iaload, 1) := by decide +kernel
theorem dX3_addSetsWith_58 : decode cX3_addSetsWith 58 = .ok (.iadd, 1) := by decide +kernel
theorem dX3_addSetsWith_59 : decode cX3_addSetsWith 59 = .ok (.iastore, 1) := by decide +kernel
theorem dX3_addSetsWith_60 : decode cX3_addSetsWith 60 = .ok (.iinc 2 1, 3) := by decide +kernel
theorem dX3_addSetsWith_63 : decode cX3_addSetsWith 63 = .ok (.goto (-45), 3) := by decide +kernel
theorem dX3_addSetsWith_66 : decode cX3_addSetsWith 66 = .ok (.aload_n 0, 1) := by decide +kernel
theorem dX3_addSetsWith_67 : decode cX3_addSetsWith 67 = .ok (.aload_n 0, 1) := by decide +kernel
theorem dX3_addSetsWith_68 : decode cX3_addSetsWith 68 = .ok (.getfield 31, 3) := by decide +kernel
theorem dX3_addSetsWith_71 : decode cX3_addSetsWith 71 = .ok (.iconst 2, 1) := by decide +kernel
theorem dX3_addSetsWith_72 : decode cX3_addSetsWith 72 = .ok (.imul, 1) := by decide +kernel
theorem dX3_addSetsWith_73 : decode cX3_addSetsWith 73 = .ok (.putfield 31, 3) := by decide +kernel
theorem dX3_addSetsWith_76 : decode cX3_addSetsWith 76 = .ok (.return_, 1) := by decide +kernel
theorem dX3_writeSums_0 : decode cX3_writeSums 0 = .ok (.iload_n 1, 1) := by decide +kernel
theorem dX3_writeSums_1 : decode cX3_writeSums 1 = .ok (.ifCond .lt 9, 3) := by decide +kernel
theorem dX3_writeSums_4 : decode cX3_writeSums 4 = .ok (.iload_n 1, 1) := by decide +kernel
theorem dX3_writeSums_5 : decode cX3_writeSums 5 = .ok (.aload_n 0, 1) := by decide +kernel
theorem dX3_writeSums_6 : decode cX3_writeSums 6 = .ok (.arraylength, 1) := by decide +kernel
theorem dX3_writeSums_7 : decode cX3_writeSums 7 = .ok (.if_icmp .lt 4, 3) := by decide +kernel
theorem dX3_writeSums_10 : decode cX3_writeSums 10 = .ok (.return_, 1) := by decide +kernel
theorem dX3_writeSums_11 : decode cX3_writeSums 11 = .ok (.aload_n 0, 1) := by decide +kernel
theorem dX3_writeSums_12 : decode cX3_writeSums 12 = .ok (.iload_n 1, 1) := by decide +kernel
theorem dX3_writeSums_13 : decode cX3_writeSums 13 = .ok (.iconst 0, 1) := by decide +kernel
theorem dX3_writeSums_14 : decode cX3_writeSums 14 = .ok (.iastore, 1) := by decide +kernel
theorem dX3_writeSums_15 : decode cX3_writeSums 15 = .ok (.iconst 1, 1) := by decide +kernel
theorem dX3_writeSums_16 : decode cX3_writeSums 16 = .ok (.istore 4, 2) := by decide +kernel
theorem dX3_writeSums_18 : decode cX3_writeSums 18 = .ok (.iconst 0, 1) := by decide +kernel
theorem dX3_writeSums_19 : decode cX3_writeSums 19 = .ok (.istore 5, 2) := by decide +kernel
theorem dX3_writeSums_21 : decode cX3_writeSums 21 = .ok (.iload 5, 2) := by decide +kernel
theorem dX3_writeSums_23 : decode cX3_writeSums 23 = .ok (.iload_n 3, 1) := by decide +kernel
theorem dX3_writeSums_24 : decode cX3_writeSums 24 = .ok (.if_icmp .ge 76, 3) := by decide +kernel
theorem dX3_writeSums_27 : decode cX3_writeSums 27 = .ok (.iload 5, 2) := by decide +kernel
theorem dX3_writeSums_29 : decode cX3_writeSums 29 = .ok (.bipush 12, 2) := by decide +kernel
theorem dX3_writeSums_31 : decode cX3_writeSums 31 = .ok (.if_icmp .ge 69, 3) := by decide +kernel
theorem dX3_writeSums_34 : decode cX3_writeSums 34 = .ok (.aload_n 2, 1) := by decide +kernel
theorem dX3_writeSums_35 : decode cX3_writeSums 35 = .ok (.iload 5, 2) := by decide +kernel
theorem dX3_writeSums_37 : decode cX3_writeSums 37 = .ok (.invokevirtual 65, 3) := by decide +kernel
theorem dX3_writeSums_40 : decode cX3_writeSums 40 = .ok (.istore 6, 2) := by decide +kernel
theorem dX3_writeSums_42 : decode cX3_writeSums 42 = .ok (.iconst 0, 1) := by decide +kernel
theorem dX3_writeSums_43 : decode cX3_writeSums 43 = .ok (.istore 7, 2) := by decide +kernel
theorem dX3_writeSums_45 : decode cX3_writeSums 45 = .ok (.iload 7, 2) := by decide +kernel
theorem dX3_writeSums_47 : decode cX3_writeSums 47 = .ok (.iload 4, 2) := by decide +kernel
theorem dX3_writeSums_49 : decode cX3_writeSums 49 = .ok (.if_icmp .ge 39, 3) := by decide +kernel
theorem dX3_writeSums_52 : decode cX3_writeSums 52 = .ok (.iload_n 1, 1) := by decide +kernel
theorem dX3_writeSums_53 : decode cX3_writeSums 53 = .ok (.iload 4, 2) := by decide +kernel
theorem dX3_writeSums_55 : decode cX3_writeSums 55 = .ok (.iadd, 1) := by decide +kernel
theorem dX3_writeSums_56 : decode cX3_writeSums 56 = .ok (.iload 7, 2) := by decide +kernel
theorem dX3_writeSums_58 : decode cX3_writeSums 58 = .ok (.iadd, 1) := by decide +kernel
theorem dX3_writeSums_59 : decode cX3_writeSums 59 = .ok (.aload_n 0, 1) := by decide +kernel
theorem dX3_writeSums_60 : decode cX3_writeSums 60 = .ok (.arraylength, 1) := by decide +kernel
theorem dX3_writeSums_61 : decode cX3_writeSums 61 = .ok (.if_icmp .ge 27, 3) := by decide +kernel
theorem dX3_writeSums_64 : decode cX3_writeSums 64 = .ok (.aload_n 0, 1) := by decide +kernel
theorem dX3_writeSums_65 : decode cX3_writeSums 65 = .ok (.iload_n 1, 1) := by decide +kernel
theorem dX3_writeSums_66 : decode cX3_writeSums 66 = .ok (.iload 4, 2) := by decide +kernel
theorem dX3_writeSums_68 : decode cX3_writeSums 68 = .ok (.iadd, 1) := by decide +kernel
theorem dX3_writeSums_69 : decode cX3_writeSums 69 = .ok (.iload 7, 2) := by decide +kernel
theorem dX3_writeSums_71 : decode cX3_writeSums 71 = .ok (.iadd, 1) := by decide +kernel
theorem dX3_writeSums_72 : decode cX3_writeSums 72 = .ok (.aload_n 0, 1) := by decide +kernel
theorem dX3_writeSums_73 : decode cX3_writeSums 73 = .ok (.iload_n 1, 1) := by decide +kernel
theorem dX3_writeSums_74 : decode cX3_writeSums 74 = .ok (.iload 7, 2) := by decide +kernel
theorem dX3_writeSums_76 : decode cX3_writeSums 76 = .ok (.iadd, 1) := by decide +kernel
theorem dX3_writeSums_77 : decode cX3_writeSums 77 = .ok (.iaload, 1) := by decide +kernel
theorem dX3_writeSums_78 : decode cX3_writeSums 78 = .ok (.iload 6, 2) := by decide +kernel
theorem dX3_writeSums_80 : decode cX3_writeSums 80 = .ok (.iadd, 1) := by decide +kernel
theorem dX3_writeSums_81 : decode cX3_writeSums 81 = .ok (.iastore, 1) := by decide +kernel
theorem dX3_writeSums_82 : decode cX3_writeSums 82 = .ok (.iinc 7 1, 3) := by decide +kernel
theorem dX3_writeSums_85 : decode cX3_writeSums 85 = .ok (.goto (-40), 3) := by decide +kernel
theorem dX3_writeSums_88 : decode cX3_writeSums 88 = .ok (.iload 4, 2) := by decide +kernel
theorem dX3_writeSums_90 : decode cX3_writeSums 90 = .ok (.iconst 2, 1) := by decide +kernel
theorem dX3_writeSums_91 : decode cX3_writeSums 91 = .ok (.imul, 1) := by decide +kernel
theorem dX3_writeSums_92 : decode cX3_writeSums 92 = .ok (.istore 4, 2) := by decide +kernel
theorem dX3_writeSums_94 : decode cX3_writeSums 94 = .ok (.iinc 5 1, 3) := by decide +kernel
theorem dX3_writeSums_97 : decode cX3_writeSums 97 = .ok (.goto (-76), 3) := by decide +kernel
theorem dX3_writeSums_100 : decode cX3_writeSums 100 = .ok (.return_, 1) := by decide +kernel
theorem dX3_innerWith_0 : decode cX3_innerWith 0 = .ok (.iload_n 1, 1) := by decide +kernel
theorem dX3_innerWith_1 : decode cX3_innerWith 1 = .ok (.ifCond .lt 12, 3) := by decide +kernel
theorem dX3_innerWith_4 : decode cX3_innerWith 4 = .ok (.iload_n 1, 1) := by decide +kernel
theorem dX3_innerWith_5 : decode cX3_innerWith 5 = .ok (.aload_n 0, 1) := by decide +kernel
theorem dX3_innerWith_6 : decode cX3_innerWith 6 = .ok (.getfield 9, 3) := by decide +kernel
theorem dX3_innerWith_9 : decode cX3_innerWith 9 = .ok (.arraylength, 1) := by decide +kernel
theorem dX3_innerWith_10 : decode cX3_innerWith 10 = .ok (.if_icmp .lt 5, 3) := by decide +kernel
theorem dX3_innerWith_13 : decode cX3_innerWith 13 = .ok (.iconst 0, 1) := by decide +kernel
theorem dX3_innerWith_14 : decode cX3_innerWith 14 = .ok (.ireturn, 1) := by decide +kernel
theorem dX3_innerWith_15 : decode cX3_innerWith 15 = .ok (.iload_n 2, 1) := by decide +kernel
theorem dX3_innerWith_16 : decode cX3_innerWith 16 = .ok (.iload_n 1, 1) := by decide +kernel
theorem dX3_innerWith_17 : decode cX3_innerWith 17 = .ok (.iconst (-1), 1) := by decide +kernel
theorem dX3_innerWith_18 : decode cX3_innerWith 18 = .ok (.ixor, 1) := by decide +kernel
theorem dX3_innerWith_19 : decode cX3_innerWith 19 = .ok (.iand, 1) := by decide +kernel
theorem dX3_innerWith_20 : decode cX3_innerWith 20 = .ok (.ifCond .ne 14, 3) := by decide +kernel
theorem dX3_innerWith_23 : decode cX3_innerWith 23 = .ok (.aload_n 0, 1) := by decide +kernel
theorem dX3_innerWith_24 : decode cX3_innerWith 24 = .ok (.getfield 9, 3) := by decide +kernel
theorem dX3_innerWith_27 : decode cX3_innerWith 27 = .ok (.iload_n 1, 1) := by decide +kernel
theorem dX3_innerWith_28 : decode cX3_innerWith 28 = .ok (.iaload, 1) := by decide +kernel
theorem dX3_innerWith_29 : decode cX3_innerWith 29 = .ok (.iload_n 3, 1) := by decide +kernel
theorem dX3_innerWith_30 : decode cX3_innerWith 30 = .ok (.iadd, 1) := by decide +kernel
theorem dX3_innerWith_31 : decode cX3_innerWith 31 = .ok (.goto 9, 3) := by decide +kernel
theorem dX3_innerWith_34 : decode cX3_innerWith 34 = .ok (.aload_n 0, 1) := by decide +kernel
theorem dX3_innerWith_35 : decode cX3_innerWith 35 = .ok (.getfield 9, 3) := by decide +kernel
theorem dX3_innerWith_38 : decode cX3_innerWith 38 = .ok (.iload_n 1, 1) := by decide +kernel
theorem dX3_innerWith_39 : decode cX3_innerWith 39 = .ok (.iaload, 1) := by decide +kernel
theorem dX3_innerWith_40 : decode cX3_innerWith 40 = .ok (.ireturn, 1) := by decide +kernel
theorem dX3_densestWith_0 : decode cX3_densestWith 0 = .ok (.iconst 0, 1) := by decide +kernel
theorem dX3_densestWith_1 : decode cX3_densestWith 1 = .ok (.istore_n 3, 1) := by decide +kernel
theorem dX3_densestWith_2 : decode cX3_densestWith 2 = .ok (.iconst 0, 1) := by decide +kernel
theorem dX3_densestWith_3 : decode cX3_densestWith 3 = .ok (.istore 4, 2) := by decide +kernel
theorem dX3_densestWith_5 : decode cX3_densestWith 5 = .ok (.iconst 0, 1) := by decide +kernel
theorem dX3_densestWith_6 : decode cX3_densestWith 6 = .ok (.istore 5, 2) := by decide +kernel
theorem dX3_densestWith_8 : decode cX3_densestWith 8 = .ok (.iconst 1, 1) := by decide +kernel
theorem dX3_densestWith_9 : decode cX3_densestWith 9 = .ok (.istore 6, 2) := by decide +kernel
theorem dX3_densestWith_11 : decode cX3_densestWith 11 = .ok (.iload 6, 2) := by decide +kernel
theorem dX3_densestWith_13 : decode cX3_densestWith 13 = .ok (.aload_n 0, 1) := by decide +kernel
theorem dX3_densestWith_14 : decode cX3_densestWith 14 = .ok (.getfield 31, 3) := by decide +kernel
theorem dX3_densestWith_17 : decode cX3_densestWith 17 = .ok (.if_icmp .ge 71, 3) := by decide +kernel
theorem dX3_densestWith_20 : decode cX3_densestWith 20 = .ok (.aload_n 0, 1) := by decide +kernel
theorem dX3_densestWith_21 : decode cX3_densestWith 21 = .ok (.iload 6, 2) := by decide +kernel
theorem dX3_densestWith_23 : decode cX3_densestWith 23 = .ok (.iload_n 1, 1) := by decide +kernel
theorem dX3_densestWith_24 : decode cX3_densestWith 24 = .ok (.iload_n 2, 1) := by decide +kernel
theorem dX3_densestWith_25 : decode cX3_densestWith 25 = .ok (.invokevirtual 69, 3) := by decide +kernel
theorem dX3_densestWith_28 : decode cX3_densestWith 28 = .ok (.istore 7, 2) := by decide +kernel
theorem dX3_densestWith_30 : decode cX3_densestWith 30 = .ok (.iload 6, 2) := by decide +kernel
theorem dX3_densestWith_32 : decode cX3_densestWith 32 = .ok (.invokestatic 72, 3) := by decide +kernel
theorem dX3_densestWith_35 : decode cX3_densestWith 35 = .ok (.istore 8, 2) := by decide +kernel
theorem dX3_densestWith_37 : decode cX3_densestWith 37 = .ok (.iload 7, 2) := by decide +kernel
theorem dX3_densestWith_39 : decode cX3_densestWith 39 = .ok (.iload 5, 2) := by decide +kernel
theorem dX3_densestWith_41 : decode cX3_densestWith 41 = .ok (.imul, 1) := by decide +kernel
theorem dX3_densestWith_42 : decode cX3_densestWith 42 = .ok (.iload 4, 2) := by decide +kernel
theorem dX3_densestWith_44 : decode cX3_densestWith 44 = .ok (.iload 8, 2) := by decide +kernel
theorem dX3_densestWith_46 : decode cX3_densestWith 46 = .ok (.imul, 1) := by decide +kernel
theorem dX3_densestWith_47 : decode cX3_densestWith 47 = .ok (.isub, 1) := by decide +kernel
theorem dX3_densestWith_48 : decode cX3_densestWith 48 = .ok (.istore 9, 2) := by decide +kernel
theorem dX3_densestWith_50 : decode cX3_densestWith 50 = .ok (.iload_n 3, 1) := by decide +kernel
theorem dX3_densestWith_51 : decode cX3_densestWith 51 = .ok (.ifCond .eq 20, 3) := by decide +kernel
theorem dX3_densestWith_54 : decode cX3_densestWith 54 = .ok (.iload 9, 2) := by decide +kernel
theorem dX3_densestWith_56 : decode cX3_densestWith 56 = .ok (.ifCond .gt 15, 3) := by decide +kernel
theorem dX3_densestWith_59 : decode cX3_densestWith 59 = .ok (.iload 9, 2) := by decide +kernel
theorem dX3_densestWith_61 : decode cX3_densestWith 61 = .ok (.ifCond .ne 21, 3) := by decide +kernel
theorem dX3_densestWith_64 : decode cX3_densestWith 64 = .ok (.iload 8, 2) := by decide +kernel
theorem dX3_densestWith_66 : decode cX3_densestWith 66 = .ok (.iload 5, 2) := by decide +kernel
theorem dX3_densestWith_68 : decode cX3_densestWith 68 = .ok (.if_icmp .le 14, 3) := by decide +kernel
theorem dX3_densestWith_71 : decode cX3_densestWith 71 = .ok (.iload 6, 2) := by decide +kernel
theorem dX3_densestWith_73 : decode cX3_densestWith 73 = .ok (.istore_n 3, 1) := by decide +kernel
theorem dX3_densestWith_74 : decode cX3_densestWith 74 = .ok (.iload 7, 2) := by decide +kernel
theorem dX3_densestWith_76 : decode cX3_densestWith 76 = .ok (.istore 4, 2) := by decide +kernel
theorem dX3_densestWith_78 : decode cX3_densestWith 78 = .ok (.iload 8, 2) := by decide +kernel
theorem dX3_densestWith_80 : decode cX3_densestWith 80 = .ok (.istore 5, 2) := by decide +kernel
theorem dX3_densestWith_82 : decode cX3_densestWith 82 = .ok (.iinc 6 1, 3) := by decide +kernel
theorem dX3_densestWith_85 : decode cX3_densestWith 85 = .ok (.goto (-74), 3) := by decide +kernel
theorem dX3_densestWith_88 : decode cX3_densestWith 88 = .ok (.iload_n 3, 1) := by decide +kernel
theorem dX3_densestWith_89 : decode cX3_densestWith 89 = .ok (.ireturn, 1) := by decide +kernel
theorem dX3_leastLoadWith_0 : decode cX3_leastLoadWith 0 = .ok (.aload_n 0, 1) := by decide +kernel
theorem dX3_leastLoadWith_1 : decode cX3_leastLoadWith 1 = .ok (.aload_n 0, 1) := by decide +kernel
theorem dX3_leastLoadWith_2 : decode cX3_leastLoadWith 2 = .ok (.iload_n 1, 1) := by decide +kernel
theorem dX3_leastLoadWith_3 : decode cX3_leastLoadWith 3 = .ok (.iload_n 2, 1) := by decide +kernel
theorem dX3_leastLoadWith_4 : decode cX3_leastLoadWith 4 = .ok (.invokevirtual 47, 3) := by decide +kernel
theorem dX3_leastLoadWith_7 : decode cX3_leastLoadWith 7 = .ok (.iload_n 1, 1) := by decide +kernel
theorem dX3_leastLoadWith_8 : decode cX3_leastLoadWith 8 = .ok (.iload_n 2, 1) := by decide +kernel
theorem dX3_leastLoadWith_9 : decode cX3_leastLoadWith 9 = .ok (.invokevirtual 54, 3) := by decide +kernel
theorem dX3_leastLoadWith_12 : decode cX3_leastLoadWith 12 = .ok (.ireturn, 1) := by decide +kernel
theorem dX3_roundedUpDensity_0 : decode cX3_roundedUpDensity 0 = .ok (.iload_n 1, 1) := by decide +kernel
theorem dX3_roundedUpDensity_1 : decode cX3_roundedUpDensity 1 = .ok (.invokestatic 72, 3) := by decide +kernel
theorem dX3_roundedUpDensity_4 : decode cX3_roundedUpDensity 4 = .ok (.istore 4, 2) := by decide +kernel
theorem dX3_roundedUpDensity_6 : decode cX3_roundedUpDensity 6 = .ok (.iload 4, 2) := by decide +kernel
theorem dX3_roundedUpDensity_8 : decode cX3_roundedUpDensity 8 = .ok (.iconst 1, 1) := by decide +kernel
theorem dX3_roundedUpDensity_9 : decode cX3_roundedUpDensity 9 = .ok (.if_icmp .ge 7, 3) := by decide +kernel
theorem dX3_roundedUpDensity_12 : decode cX3_roundedUpDensity 12 = .ok (.iconst 0, 1) := by decide +kernel
theorem dX3_roundedUpDensity_13 : decode cX3_roundedUpDensity 13 = .ok (.goto 18, 3) := by decide +kernel
theorem dX3_roundedUpDensity_16 : decode cX3_roundedUpDensity 16 = .ok (.aload_n 0, 1) := by decide +kernel
theorem dX3_roundedUpDensity_17 : decode cX3_roundedUpDensity 17 = .ok (.iload_n 1, 1) := by decide +kernel
theorem dX3_roundedUpDensity_18 : decode cX3_roundedUpDensity 18 = .ok (.iload_n 2, 1) := by decide +kernel
theorem dX3_roundedUpDensity_19 : decode cX3_roundedUpDensity 19 = .ok (.iload_n 3, 1) := by decide +kernel
theorem dX3_roundedUpDensity_20 : decode cX3_roundedUpDensity 20 = .ok (.invokevirtual 69, 3) := by decide +kernel
theorem dX3_roundedUpDensity_23 : decode cX3_roundedUpDensity 23 = .ok (.iload 4, 2) := by decide +kernel
theorem dX3_roundedUpDensity_25 : decode cX3_roundedUpDensity 25 = .ok (.iadd, 1) := by decide +kernel
theorem dX3_roundedUpDensity_26 : decode cX3_roundedUpDensity 26 = .ok (.iconst 1, 1) := by decide +kernel
theorem dX3_roundedUpDensity_27 : decode cX3_roundedUpDensity 27 = .ok (.isub, 1) := by decide +kernel
theorem dX3_roundedUpDensity_28 : decode cX3_roundedUpDensity 28 = .ok (.iload 4, 2) := by decide +kernel
theorem dX3_roundedUpDensity_30 : decode cX3_roundedUpDensity 30 = .ok (.idiv, 1) := by decide +kernel
theorem dX3_roundedUpDensity_31 : decode cX3_roundedUpDensity 31 = .ok (.ireturn, 1) := by decide +kernel
theorem dX3_commonOfForcing_0 : decode cX3_commonOfForcing 0 = .ok (.aload_n 0, 1) := by decide +kernel
theorem dX3_commonOfForcing_1 : decode cX3_commonOfForcing 1 = .ok (.getfield 31, 3) := by decide +kernel
theorem dX3_commonOfForcing_4 : decode cX3_commonOfForcing 4 = .ok (.iconst 1, 1) := by decide +kernel
theorem dX3_commonOfForcing_5 : decode cX3_commonOfForcing 5 = .ok (.isub, 1) := by decide +kernel
theorem dX3_commonOfForcing_6 : decode cX3_commonOfForcing 6 = .ok (.istore_n 1, 1) := by decide +kernel
theorem dX3_commonOfForcing_7 : decode cX3_commonOfForcing 7 = .ok (.iconst 1, 1) := by decide +kernel
theorem dX3_commonOfForcing_8 : decode cX3_commonOfForcing 8 = .ok (.istore_n 2, 1) := by decide +kernel
theorem dX3_commonOfForcing_9 : decode cX3_commonOfForcing 9 = .ok (.iload_n 2, 1) := by decide +kernel
theorem dX3_commonOfForcing_10 : decode cX3_commonOfForcing 10 = .ok (.aload_n 0, 1) := by decide +kernel
theorem dX3_commonOfForcing_11 : decode cX3_commonOfForcing 11 = .ok (.getfield 31, 3) := by decide +kernel
theorem dX3_commonOfForcing_14 : decode cX3_commonOfForcing 14 = .ok (.if_icmp .ge 53, 3) := by decide +kernel
theorem dX3_commonOfForcing_17 : decode cX3_commonOfForcing 17 = .ok (.iload_n 2, 1) := by decide +kernel
theorem dX3_commonOfForcing_18 : decode cX3_commonOfForcing 18 = .ok (.aload_n 0, 1) := by decide +kernel
theorem dX3_commonOfForcing_19 : decode cX3_commonOfForcing 19 = .ok (.getfield 9, 3) := by decide +kernel
theorem dX3_commonOfForcing_22 : decode cX3_commonOfForcing 22 = .ok (.arraylength, 1) := by decide +kernel
theorem dX3_commonOfForcing_23 : decode cX3_commonOfForcing 23 = .ok (.if_icmp .ge 44, 3) := by decide +kernel
theorem dX3_commonOfForcing_26 : decode cX3_commonOfForcing 26 = .ok (.aload_n 0, 1) := by decide +kernel
theorem dX3_commonOfForcing_27 : decode cX3_commonOfForcing 27 = .ok (.getfield 9, 3) := by decide +kernel
theorem dX3_commonOfForcing_30 : decode cX3_commonOfForcing 30 = .ok (.iload_n 2, 1) := by decide +kernel
theorem dX3_commonOfForcing_31 : decode cX3_commonOfForcing 31 = .ok (.iaload, 1) := by decide +kernel
theorem dX3_commonOfForcing_32 : decode cX3_commonOfForcing 32 = .ok (.aload_n 0, 1) := by decide +kernel
theorem dX3_commonOfForcing_33 : decode cX3_commonOfForcing 33 = .ok (.getfield 58, 3) := by decide +kernel
theorem dX3_commonOfForcing_36 : decode cX3_commonOfForcing 36 = .ok (.iconst 1, 1) := by decide +kernel
theorem dX3_commonOfForcing_37 : decode cX3_commonOfForcing 37 = .ok (.isub, 1) := by decide +kernel
theorem dX3_commonOfForcing_38 : decode cX3_commonOfForcing 38 = .ok (.iload_n 2, 1) := by decide +kernel
theorem dX3_commonOfForcing_39 : decode cX3_commonOfForcing 39 = .ok (.invokestatic 72, 3) := by decide +kernel
theorem dX3_commonOfForcing_42 : decode cX3_commonOfForcing 42 = .ok (.imul, 1) := by decide +kernel
theorem dX3_commonOfForcing_43 : decode cX3_commonOfForcing 43 = .ok (.isub, 1) := by decide +kernel
theorem dX3_commonOfForcing_44 : decode cX3_commonOfForcing 44 = .ok (.istore_n 3, 1) := by decide +kernel
theorem dX3_commonOfForcing_45 : decode cX3_commonOfForcing 45 = .ok (.iload_n 3, 1) := by decide +kernel
theorem dX3_commonOfForcing_46 : decode cX3_commonOfForcing 46 = .ok (.iconst 1, 1) := by decide +kernel
theorem dX3_commonOfForcing_47 : decode cX3_commonOfForcing 47 = .ok (.if_icmp .le 5, 3) := by decide +kernel
theorem dX3_commonOfForcing_50 : decode cX3_commonOfForcing 50 = .ok (.iconst 0, 1) := by decide +kernel
theorem dX3_commonOfForcing_51 : decode cX3_commonOfForcing 51 = .ok (.ireturn, 1) := by decide +kernel
theorem dX3_commonOfForcing_52 : decode cX3_commonOfForcing 52 = .ok (.iload_n 3, 1) := by decide +kernel
theorem dX3_commonOfForcing_53 : decode cX3_commonOfForcing 53 = .ok (.iconst 1, 1) := by decide +kernel
theorem dX3_commonOfForcing_54 : decode cX3_commonOfForcing 54 = .ok (.if_icmp .ne 7, 3) := by decide +kernel
theorem dX3_commonOfForcing_57 : decode cX3_commonOfForcing 57 = .ok (.iload_n 1, 1) := by decide +kernel
theorem dX3_commonOfForcing_58 : decode cX3_commonOfForcing 58 = .ok (.iload_n 2, 1) := by decide +kernel
theorem dX3_commonOfForcing_59 : decode cX3_commonOfForcing 59 = .ok (.iand, 1) := by decide +kernel
theorem dX3_commonOfForcing_60 : decode cX3_commonOfForcing 60 = .ok (.istore_n 1, 1) := by decide +kernel
theorem dX3_commonOfForcing_61 : decode cX3_commonOfForcing 61 = .ok (.iinc 2 1, 3) := by decide +kernel
theorem dX3_commonOfForcing_64 : decode cX3_commonOfForcing 64 = .ok (.goto (-55), 3) := by decide +kernel
theorem dX3_commonOfForcing_67 : decode cX3_commonOfForcing 67 = .ok (.iload_n 1, 1) := by decide +kernel
theorem dX3_commonOfForcing_68 : decode cX3_commonOfForcing 68 = .ok (.ireturn, 1) := by decide +kernel
theorem dX3_mostOverfull_0 : decode cX3_mostOverfull 0 = .ok (.aload_n 0, 1) := by decide +kernel
theorem dX3_mostOverfull_1 : decode cX3_mostOverfull 1 = .ok (.getfield 15, 3) := by decide +kernel
theorem dX3_mostOverfull_4 : decode cX3_mostOverfull 4 = .ok (.iconst 0, 1) := by decide +kernel
theorem dX3_mostOverfull_5 : decode cX3_mostOverfull 5 = .ok (.aload_n 1, 1) := by decide +kernel
theorem dX3_mostOverfull_6 : decode cX3_mostOverfull 6 = .ok (.iload_n 2, 1) := by decide +kernel
theorem dX3_mostOverfull_7 : decode cX3_mostOverfull 7 = .ok (.invokestatic 61, 3) := by decide +kernel
theorem dX3_mostOverfull_10 : decode cX3_mostOverfull 10 = .ok (.iconst (-1), 1) := by decide +kernel
theorem dX3_mostOverfull_11 : decode cX3_mostOverfull 11 = .ok (.istore_n 3, 1) := by decide +kernel
theorem dX3_mostOverfull_12 : decode cX3_mostOverfull 12 = .ok (.iconst 0, 1) := by decide +kernel
theorem dX3_mostOverfull_13 : decode cX3_mostOverfull 13 = .ok (.istore 4, 2) := by decide +kernel
theorem dX3_mostOverfull_15 : decode cX3_mostOverfull 15 = .ok (.iconst 1, 1) := by decide +kernel
theorem dX3_mostOverfull_16 : decode cX3_mostOverfull 16 = .ok (.istore 5, 2) := by decide +kernel
theorem dX3_mostOverfull_18 : decode cX3_mostOverfull 18 = .ok (.iload 5, 2) := by decide +kernel
theorem dX3_mostOverfull_20 : decode cX3_mostOverfull 20 = .ok (.aload_n 0, 1) := by decide +kernel
theorem dX3_mostOverfull_21 : decode cX3_mostOverfull 21 = .ok (.getfield 31, 3) := by decide +kernel
theorem dX3_mostOverfull_24 : decode cX3_mostOverfull 24 = .ok (.if_icmp .ge 50, 3) := by decide +kernel
theorem dX3_mostOverfull_27 : decode cX3_mostOverfull 27 = .ok (.iload 5, 2) := by decide +kernel
theorem dX3_mostOverfull_29 : decode cX3_mostOverfull 29 = .ok (.aload_n 0, 1) := by decide +kernel
theorem dX3_mostOverfull_30 : decode cX3_mostOverfull 30 = .ok (.getfield 9, 3) := by decide +kernel
theorem dX3_mostOverfull_33 : decode cX3_mostOverfull 33 = .ok (.arraylength, 1) := by decide +kernel
theorem dX3_mostOverfull_34 : decode cX3_mostOverfull 34 = .ok (.if_icmp .ge 40, 3) := by decide +kernel
theorem dX3_mostOverfull_37 : decode cX3_mostOverfull 37 = .ok (.aload_n 0, 1) := by decide +kernel
theorem dX3_mostOverfull_38 : decode cX3_mostOverfull 38 = .ok (.getfield 9, 3) := by decide +kernel
theorem dX3_mostOverfull_41 : decode cX3_mostOverfull 41 = .ok (.iload 5, 2) := by decide +kernel
theorem dX3_mostOverfull_43 : decode cX3_mostOverfull 43 = .ok (.iaload, 1) := by decide +kernel
theorem dX3_mostOverfull_44 : decode cX3_mostOverfull 44 = .ok (.aload_n 0, 1) := by decide +kernel
theorem dX3_mostOverfull_45 : decode cX3_mostOverfull 45 = .ok (.getfield 15, 3) := by decide +kernel
theorem dX3_mostOverfull_48 : decode cX3_mostOverfull 48 = .ok (.iload 5, 2) := by decide +kernel
theorem dX3_mostOverfull_50 : decode cX3_mostOverfull 50 = .ok (.iaload, 1) := by decide +kernel
theorem dX3_mostOverfull_51 : decode cX3_mostOverfull 51 = .ok (.isub, 1) := by decide +kernel
theorem dX3_mostOverfull_52 : decode cX3_mostOverfull 52 = .ok (.istore 6, 2) := by decide +kernel
theorem dX3_mostOverfull_54 : decode cX3_mostOverfull 54 = .ok (.iload 6, 2) := by decide +kernel
theorem dX3_mostOverfull_56 : decode cX3_mostOverfull 56 = .ok (.iload 4, 2) := by decide +kernel
theorem dX3_mostOverfull_58 : decode cX3_mostOverfull 58 = .ok (.if_icmp .le 10, 3) := by decide +kernel
theorem dX3_mostOverfull_61 : decode cX3_mostOverfull 61 = .ok (.iload 6, 2) := by decide +kernel
theorem dX3_mostOverfull_63 : decode cX3_mostOverfull 63 = .ok (.istore 4, 2) := by decide +kernel
theorem dX3_mostOverfull_65 : decode cX3_mostOverfull 65 = .ok (.iload 5, 2) := by decide +kernel
theorem dX3_mostOverfull_67 : decode cX3_mostOverfull 67 = .ok (.istore_n 3, 1) := by decide +kernel
theorem dX3_mostOverfull_68 : decode cX3_mostOverfull 68 = .ok (.iinc 5 1, 3) := by decide +kernel
theorem dX3_mostOverfull_71 : decode cX3_mostOverfull 71 = .ok (.goto (-53), 3) := by decide +kernel
theorem dX3_mostOverfull_74 : decode cX3_mostOverfull 74 = .ok (.iload_n 3, 1) := by decide +kernel
theorem dX3_mostOverfull_75 : decode cX3_mostOverfull 75 = .ok (.ireturn, 1) := by decide +kernel
theorem dX4_init_0 : decode cX4_init 0 = .ok (.aload_n 0, 1) := by decide +kernel
theorem dX4_init_1 : decode cX4_init 1 = .ok (.invokespecial 1, 3) := by decide +kernel
theorem dX4_init_4 : decode cX4_init 4 = .ok (.aload_n 0, 1) := by decide +kernel
theorem dX4_init_5 : decode cX4_init 5 = .ok (.iload_n 1, 1) := by decide +kernel
theorem dX4_init_6 : decode cX4_init 6 = .ok (.ifCond .ge 7, 3) := by decide +kernel
theorem dX4_init_9 : decode cX4_init 9 = .ok (.iconst 0, 1) := by decide +kernel
theorem dX4_init_10 : decode cX4_init 10 = .ok (.goto 4, 3) := by decide +kernel
theorem dX4_init_13 : decode cX4_init 13 = .ok (.iload_n 1, 1) := by decide +kernel
theorem dX4_init_14 : decode cX4_init 14 = .ok (.newarray .int, 2) := by decide +kernel
theorem dX4_init_16 : decode cX4_init 16 = .ok (.putfield 7, 3) := by decide +kernel
theorem dX4_init_19 : decode cX4_init 19 = .ok (.return_, 1) := by decide +kernel
theorem dX4_get_0 : decode cX4_get 0 = .ok (.iload_n 1, 1) := by decide +kernel
theorem dX4_get_1 : decode cX4_get 1 = .ok (.ifCond .lt 21, 3) := by decide +kernel
theorem dX4_get_4 : decode cX4_get 4 = .ok (.iload_n 1, 1) := by decide +kernel
theorem dX4_get_5 : decode cX4_get 5 = .ok (.aload_n 0, 1) := by decide +kernel
theorem dX4_get_6 : decode cX4_get 6 = .ok (.getfield 7, 3) := by decide +kernel
theorem dX4_get_9 : decode cX4_get 9 = .ok (.arraylength, 1) := by decide +kernel
theorem dX4_get_10 : decode cX4_get 10 = .ok (.if_icmp .ge 12, 3) := by decide +kernel
theorem dX4_get_13 : decode cX4_get 13 = .ok (.aload_n 0, 1) := by decide +kernel
theorem dX4_get_14 : decode cX4_get 14 = .ok (.getfield 7, 3) := by decide +kernel
theorem dX4_get_17 : decode cX4_get 17 = .ok (.iload_n 1, 1) := by decide +kernel
theorem dX4_get_18 : decode cX4_get 18 = .ok (.iaload, 1) := by decide +kernel
theorem dX4_get_19 : decode cX4_get 19 = .ok (.goto 4, 3) := by decide +kernel
theorem dX4_get_22 : decode cX4_get 22 = .ok (.iconst 0, 1) := by decide +kernel
theorem dX4_get_23 : decode cX4_get 23 = .ok (.ireturn, 1) := by decide +kernel
theorem dX4_set_0 : decode cX4_set 0 = .ok (.iload_n 1, 1) := by decide +kernel
theorem dX4_set_1 : decode cX4_set 1 = .ok (.ifCond .lt 19, 3) := by decide +kernel
theorem dX4_set_4 : decode cX4_set 4 = .ok (.iload_n 1, 1) := by decide +kernel
theorem dX4_set_5 : decode cX4_set 5 = .ok (.aload_n 0, 1) := by decide +kernel
theorem dX4_set_6 : decode cX4_set 6 = .ok (.getfield 7, 3) := by decide +kernel
theorem dX4_set_9 : decode cX4_set 9 = .ok (.arraylength, 1) := by decide +kernel
theorem dX4_set_10 : decode cX4_set 10 = .ok (.if_icmp .ge 10, 3) := by decide +kernel
theorem dX4_set_13 : decode cX4_set 13 = .ok (.aload_n 0, 1) := by decide +kernel
theorem dX4_set_14 : decode cX4_set 14 = .ok (.getfield 7, 3) := by decide +kernel
theorem dX4_set_17 : decode cX4_set 17 = .ok (.iload_n 1, 1) := by decide +kernel
theorem dX4_set_18 : decode cX4_set 18 = .ok (.iload_n 2, 1) := by decide +kernel
theorem dX4_set_19 : decode cX4_set 19 = .ok (.iastore, 1) := by decide +kernel
theorem dX4_set_20 : decode cX4_set 20 = .ok (.return_, 1) := by decide +kernel
theorem dX4_increase_0 : decode cX4_increase 0 = .ok (.iload_n 1, 1) := by decide +kernel
theorem dX4_increase_1 : decode cX4_increase 1 = .ok (.ifCond .lt 22, 3) := by decide +kernel
theorem dX4_increase_4 : decode cX4_increase 4 = .ok (.iload_n 1, 1) := by decide +kernel
theorem dX4_increase_5 : decode cX4_increase 5 = .ok (.aload_n 0, 1) := by decide +kernel
theorem dX4_increase_6 : decode cX4_increase 6 = .ok (.getfield 7, 3) := by decide +kernel
theorem dX4_increase_9 : decode cX4_increase 9 = .ok (.arraylength, 1) := by decide +kernel
theorem dX4_increase_10 : decode cX4_increase 10 = .ok (.if_icmp .ge 13, 3) := by decide +kernel
theorem dX4_increase_13 : decode cX4_increase 13 = .ok (.aload_n 0, 1) := by decide +kernel
theorem dX4_increase_14 : decode cX4_increase 14 = .ok (.getfield 7, 3) := by decide +kernel
theorem dX4_increase_17 : decode cX4_increase 17 = .ok (.iload_n 1, 1) := by decide +kernel
theorem dX4_increase_18 : decode cX4_increase 18 = .ok (.dup2, 1) := by decide +kernel
theorem dX4_increase_19 : decode cX4_increase 19 = .ok (.iaload, 1) := by decide +kernel
theorem dX4_increase_20 : decode cX4_increase 20 = .ok (.iload_n 2, 1) := by decide +kernel
theorem dX4_increase_21 : decode cX4_increase 21 = .ok (.iadd, 1) := by decide +kernel
theorem dX4_increase_22 : decode cX4_increase 22 = .ok (.iastore, 1) := by decide +kernel
theorem dX4_increase_23 : decode cX4_increase 23 = .ok (.return_, 1) := by decide +kernel
theorem dX4_fill_0 : decode cX4_fill 0 = .ok (.iconst 0, 1) := by decide +kernel
theorem dX4_fill_1 : decode cX4_fill 1 = .ok (.istore_n 2, 1) := by decide +kernel
theorem dX4_fill_2 : decode cX4_fill 2 = .ok (.iload_n 2, 1) := by decide +kernel
theorem dX4_fill_3 : decode cX4_fill 3 = .ok (.aload_n 0, 1) := by decide +kernel
theorem dX4_fill_4 : decode cX4_fill 4 = .ok (.getfield 7, 3) := by decide +kernel
theorem dX4_fill_7 : decode cX4_fill 7 = .ok (.arraylength, 1) := by decide +kernel
theorem dX4_fill_8 : decode cX4_fill 8 = .ok (.if_icmp .ge 16, 3) := by decide +kernel
theorem dX4_fill_11 : decode cX4_fill 11 = .ok (.aload_n 0, 1) := by decide +kernel
theorem dX4_fill_12 : decode cX4_fill 12 = .ok (.getfield 7, 3) := by decide +kernel
theorem dX4_fill_15 : decode cX4_fill 15 = .ok (.iload_n 2, 1) := by decide +kernel
theorem dX4_fill_16 : decode cX4_fill 16 = .ok (.iload_n 1, 1) := by decide +kernel
theorem dX4_fill_17 : decode cX4_fill 17 = .ok (.iastore, 1) := by decide +kernel
theorem dX4_fill_18 : decode cX4_fill 18 = .ok (.iinc 2 1, 3) := by decide +kernel
theorem dX4_fill_21 : decode cX4_fill 21 = .ok (.goto (-19), 3) := by decide +kernel
theorem dX4_fill_24 : decode cX4_fill 24 = .ok (.return_, 1) := by decide +kernel
theorem dX4_copyFrom_0 : decode cX4_copyFrom 0 = .ok (.iconst 0, 1) := by decide +kernel
theorem dX4_copyFrom_1 : decode cX4_copyFrom 1 = .ok (.istore_n 2, 1) := by decide +kernel
theorem dX4_copyFrom_2 : decode cX4_copyFrom 2 = .ok (.iload_n 2, 1) := by decide +kernel
theorem dX4_copyFrom_3 : decode cX4_copyFrom 3 = .ok (.aload_n 0, 1) := by decide +kernel
theorem dX4_copyFrom_4 : decode cX4_copyFrom 4 = .ok (.getfield 7, 3) := by decide +kernel
theorem dX4_copyFrom_7 : decode cX4_copyFrom 7 = .ok (.arraylength, 1) := by decide +kernel
theorem dX4_copyFrom_8 : decode cX4_copyFrom 8 = .ok (.if_icmp .ge 30, 3) := by decide +kernel
theorem dX4_copyFrom_11 : decode cX4_copyFrom 11 = .ok (.iload_n 2, 1) := by decide +kernel
theorem dX4_copyFrom_12 : decode cX4_copyFrom 12 = .ok (.aload_n 1, 1) := by decide +kernel
theorem dX4_copyFrom_13 : decode cX4_copyFrom 13 = .ok (.getfield 7, 3) := by decide +kernel
theorem dX4_copyFrom_16 : decode cX4_copyFrom 16 = .ok (.arraylength, 1) := by decide +kernel
theorem dX4_copyFrom_17 : decode cX4_copyFrom 17 = .ok (.if_icmp .ge 21, 3) := by decide +kernel
theorem dX4_copyFrom_20 : decode cX4_copyFrom 20 = .ok (.aload_n 0, 1) := by decide +kernel
theorem dX4_copyFrom_21 : decode cX4_copyFrom 21 = .ok (.getfield 7, 3) := by decide +kernel
theorem dX4_copyFrom_24 : decode cX4_copyFrom 24 = .ok (.iload_n 2, 1) := by decide +kernel
theorem dX4_copyFrom_25 : decode cX4_copyFrom 25 = .ok (.aload_n 1, 1) := by decide +kernel
theorem dX4_copyFrom_26 : decode cX4_copyFrom 26 = .ok (.getfield 7, 3) := by decide +kernel
theorem dX4_copyFrom_29 : decode cX4_copyFrom 29 = .ok (.iload_n 2, 1) := by decide +kernel
theorem dX4_copyFrom_30 : decode cX4_copyFrom 30 = .ok (.iaload, 1) := by decide +kernel
theorem dX4_copyFrom_31 : decode cX4_copyFrom 31 = .ok (.iastore, 1) := by decide +kernel
theorem dX4_copyFrom_32 : decode cX4_copyFrom 32 = .ok (.iinc 2 1, 3) := by decide +kernel
theorem dX4_copyFrom_35 : decode cX4_copyFrom 35 = .ok (.goto (-33), 3) := by decide +kernel
theorem dX4_copyFrom_38 : decode cX4_copyFrom 38 = .ok (.return_, 1) := by decide +kernel
theorem dX4_closeGap_0 : decode cX4_closeGap 0 = .ok (.iload_n 1, 1) := by decide +kernel
theorem dX4_closeGap_1 : decode cX4_closeGap 1 = .ok (.ifCond .ge 7, 3) := by decide +kernel
theorem dX4_closeGap_4 : decode cX4_closeGap 4 = .ok (.iconst 0, 1) := by decide +kernel
theorem dX4_closeGap_5 : decode cX4_closeGap 5 = .ok (.goto 4, 3) := by decide +kernel
theorem dX4_closeGap_8 : decode cX4_closeGap 8 = .ok (.iload_n 1, 1) := by decide +kernel
theorem dX4_closeGap_9 : decode cX4_closeGap 9 = .ok (.istore_n 2, 1) := by decide +kernel
theorem dX4_closeGap_10 : decode cX4_closeGap 10 = .ok (.iload_n 2, 1) := by decide +kernel
theorem dX4_closeGap_11 : decode cX4_closeGap 11 = .ok (.aload_n 0, 1) := by decide +kernel
theorem dX4_closeGap_12 : decode cX4_closeGap 12 = .ok (.getfield 7, 3) := by decide +kernel
theorem dX4_closeGap_15 : decode cX4_closeGap 15 = .ok (.arraylength, 1) := by decide +kernel
theorem dX4_closeGap_16 : decode cX4_closeGap 16 = .ok (.iconst 1, 1) := by decide +kernel
theorem dX4_closeGap_17 : decode cX4_closeGap 17 = .ok (.isub, 1) := by decide +kernel
theorem dX4_closeGap_18 : decode cX4_closeGap 18 = .ok (.if_icmp .ge 23, 3) := by decide +kernel
theorem dX4_closeGap_21 : decode cX4_closeGap 21 = .ok (.aload_n 0, 1) := by decide +kernel
theorem dX4_closeGap_22 : decode cX4_closeGap 22 = .ok (.getfield 7, 3) := by decide +kernel
theorem dX4_closeGap_25 : decode cX4_closeGap 25 = .ok (.iload_n 2, 1) := by decide +kernel
theorem dX4_closeGap_26 : decode cX4_closeGap 26 = .ok (.aload_n 0, 1) := by decide +kernel
theorem dX4_closeGap_27 : decode cX4_closeGap 27 = .ok (.getfield 7, 3) := by decide +kernel
theorem dX4_closeGap_30 : decode cX4_closeGap 30 = .ok (.iload_n 2, 1) := by decide +kernel
theorem dX4_closeGap_31 : decode cX4_closeGap 31 = .ok (.iconst 1, 1) := by decide +kernel
theorem dX4_closeGap_32 : decode cX4_closeGap 32 = .ok (.iadd, 1) := by decide +kernel
theorem dX4_closeGap_33 : decode cX4_closeGap 33 = .ok (.iaload, 1) := by decide +kernel
theorem dX4_closeGap_34 : decode cX4_closeGap 34 = .ok (.iastore, 1) := by decide +kernel
theorem dX4_closeGap_35 : decode cX4_closeGap 35 = .ok (.iinc 2 1, 3) := by decide +kernel
theorem dX4_closeGap_38 : decode cX4_closeGap 38 = .ok (.goto (-28), 3) := by decide +kernel
theorem dX4_closeGap_41 : decode cX4_closeGap 41 = .ok (.return_, 1) := by decide +kernel
theorem dX5_init_0 : decode cX5_init 0 = .ok (.aload_n 0, 1) := by decide +kernel
theorem dX5_init_1 : decode cX5_init 1 = .ok (.invokespecial 3, 3) := by decide +kernel
theorem dX5_init_4 : decode cX5_init 4 = .ok (.aload_n 0, 1) := by decide +kernel
theorem dX5_init_5 : decode cX5_init 5 = .ok (.new 9, 3) := by decide +kernel
theorem dX5_init_8 : decode cX5_init 8 = .ok (.dup, 1) := by decide +kernel
theorem dX5_init_9 : decode cX5_init 9 = .ok (.bipush 12, 2) := by decide +kernel
theorem dX5_init_11 : decode cX5_init 11 = .ok (.invokespecial 11, 3) := by decide +kernel
theorem dX5_init_14 : decode cX5_init 14 = .ok (.putfield 14, 3) := by decide +kernel
theorem dX5_init_17 : decode cX5_init 17 = .ok (.aload_n 0, 1) := by decide +kernel
theorem dX5_init_18 : decode cX5_init 18 = .ok (.new 9, 3) := by decide +kernel
theorem dX5_init_21 : decode cX5_init 21 = .ok (.dup, 1) := by decide +kernel
theorem dX5_init_22 : decode cX5_init 22 = .ok (.bipush 12, 2) := by decide +kernel
theorem dX5_init_24 : decode cX5_init 24 = .ok (.invokespecial 11, 3) := by decide +kernel
theorem dX5_init_27 : decode cX5_init 27 = .ok (.putfield 20, 3) := by decide +kernel
theorem dX5_init_30 : decode cX5_init 30 = .ok (.aload_n 0, 1) := by decide +kernel
theorem dX5_init_31 : decode cX5_init 31 = .ok (.new 9, 3) := by decide +kernel
theorem dX5_init_34 : decode cX5_init 34 = .ok (.dup, 1) := by decide +kernel
theorem dX5_init_35 : decode cX5_init 35 = .ok (.bipush 12, 2) := by decide +kernel
theorem dX5_init_37 : decode cX5_init 37 = .ok (.invokespecial 11, 3) := by decide +kernel
theorem dX5_init_40 : decode cX5_init 40 = .ok (.putfield 23, 3) := by decide +kernel
theorem dX5_init_43 : decode cX5_init 43 = .ok (.return_, 1) := by decide +kernel
theorem dX5_visitFrom_0 : decode cX5_visitFrom 0 = .ok (.aload_n 0, 1) := by decide +kernel
theorem dX5_visitFrom_1 : decode cX5_visitFrom 1 = .ok (.iload_n 2, 1) := by decide +kernel
theorem dX5_visitFrom_2 : decode cX5_visitFrom 2 = .ok (.putfield 26, 3) := by decide +kernel
theorem dX5_visitFrom_5 : decode cX5_visitFrom 5 = .ok (.aload_n 0, 1) := by decide +kernel
theorem dX5_visitFrom_6 : decode cX5_visitFrom 6 = .ok (.iconst 0, 1) := by decide +kernel
theorem dX5_visitFrom_7 : decode cX5_visitFrom 7 = .ok (.putfield 30, 3) := by decide +kernel
theorem dX5_visitFrom_10 : decode cX5_visitFrom 10 = .ok (.aload_n 0, 1) := by decide +kernel
theorem dX5_visitFrom_11 : decode cX5_visitFrom 11 = .ok (.iconst 0, 1) := by decide +kernel
theorem dX5_visitFrom_12 : decode cX5_visitFrom 12 = .ok (.putfield 33, 3) := by decide +kernel
theorem dX5_visitFrom_15 : decode cX5_visitFrom 15 = .ok (.aload_n 0, 1) := by decide +kernel
theorem dX5_visitFrom_16 : decode cX5_visitFrom 16 = .ok (.iload_n 2, 1) := by decide +kernel
theorem dX5_visitFrom_17 : decode cX5_visitFrom 17 = .ok (.iconst (-1), 1) := by decide +kernel
theorem dX5_visitFrom_18 : decode cX5_visitFrom 18 = .ok (.iconst (-1), 1) := by decide +kernel
theorem dX5_visitFrom_19 : decode cX5_visitFrom 19 = .ok (.invokevirtual 36, 3) := by decide +kernel
theorem dX5_visitFrom_22 : decode cX5_visitFrom 22 = .ok (.iconst 0, 1) := by decide +kernel
theorem dX5_visitFrom_23 : decode cX5_visitFrom 23 = .ok (.istore_n 3, 1) := by decide +kernel
theorem dX5_visitFrom_24 : decode cX5_visitFrom 24 = .ok (.iload_n 3, 1) := by decide +kernel
theorem dX5_visitFrom_25 : decode cX5_visitFrom 25 = .ok (.aload_n 0, 1) := by decide +kernel
theorem dX5_visitFrom_26 : decode cX5_visitFrom 26 = .ok (.getfield 30, 3) := by decide +kernel
theorem dX5_visitFrom_29 : decode cX5_visitFrom 29 = .ok (.if_icmp .ge 71, 3) := by decide +kernel
theorem dX5_visitFrom_32 : decode cX5_visitFrom 32 = .ok (.iload_n 3, 1) := by decide +kernel
theorem dX5_visitFrom_33 : decode cX5_visitFrom 33 = .ok (.bipush 12, 2) := by decide +kernel
theorem dX5_visitFrom_35 : decode cX5_visitFrom 35 = .ok (.if_icmp .ge 65, 3) := by decide +kernel
theorem dX5_visitFrom_38 : decode cX5_visitFrom 38 = .ok (.aload_n 0, 1) := by decide +kernel
theorem dX5_visitFrom_39 : decode cX5_visitFrom 39 = .ok (.getfield 14, 3) := by decide +kernel
theorem dX5_visitFrom_42 : decode cX5_visitFrom 42 = .ok (.iload_n 3, 1) := by decide +kernel
theorem dX5_visitFrom_43 : decode cX5_visitFrom 43 = .ok (.invokevirtual 40, 3) := by decide +kernel
theorem dX5_visitFrom_46 : decode cX5_visitFrom 46 = .ok (.istore 4, 2) := by decide +kernel
theorem dX5_visitFrom_48 : decode cX5_visitFrom 48 = .ok (.iconst 0, 1) := by decide +kernel
theorem dX5_visitFrom_49 : decode cX5_visitFrom 49 = .ok (.istore 5, 2) := by decide +kernel
theorem dX5_visitFrom_51 : decode cX5_visitFrom 51 = .ok (.iload 5, 2) := by decide +kernel
theorem dX5_visitFrom_53 : decode cX5_visitFrom 53 = .ok (.aload_n 1, 1) := by decide +kernel
theorem dX5_visitFrom_54 : decode cX5_visitFrom 54 = .ok (.getfield 44, 3) := by decide +kernel
theorem dX5_visitFrom_57 : decode cX5_visitFrom 57 = .ok (.if_icmp .ge 37, 3) := by decide +kernel
theorem dX5_visitFrom_60 : decode cX5_visitFrom 60 = .ok (.aload_n 1, 1) := by decide +kernel
theorem dX5_visitFrom_61 : decode cX5_visitFrom 61 = .ok (.getfield 49, 3) := by decide +kernel
theorem dX5_visitFrom_64 : decode cX5_visitFrom 64 = .ok (.iload 5, 2) := by decide +kernel
theorem dX5_visitFrom_66 : decode cX5_visitFrom 66 = .ok (.invokevirtual 40, 3) := by decide +kernel
theorem dX5_visitFrom_69 : decode cX5_visitFrom 69 = .ok (.iload 4, 2) := by decide +kernel
theorem dX5_visitFrom_71 : decode cX5_visitFrom 71 = .ok (.if_icmp .ne 17, 3) := by decide +kernel
theorem dX5_visitFrom_74 : decode cX5_visitFrom 74 = .ok (.aload_n 0, 1) := by decide +kernel
theorem dX5_visitFrom_75 : decode cX5_visitFrom 75 = .ok (.aload_n 1, 1) := by decide +kernel
theorem dX5_visitFrom_76 : decode cX5_visitFrom 76 = .ok (.iload 5, 2) := by decide +kernel
theorem dX5_visitFrom_78 : decode cX5_visitFrom 78 = .ok (.invokevirtual 52, 3) := by decide +kernel
theorem dX5_visitFrom_81 : decode cX5_visitFrom 81 = .ok (.iload 5, 2) := by decide +kernel
theorem dX5_visitFrom_83 : decode cX5_visitFrom 83 = .ok (.iload 4, 2) := by decide +kernel
theorem dX5_visitFrom_85 : decode cX5_visitFrom 85 = .ok (.invokevirtual 36, 3) := by decide +kernel
theorem dX5_visitFrom_88 : decode cX5_visitFrom 88 = .ok (.iinc 5 1, 3) := by decide +kernel
theorem dX5_visitFrom_91 : decode cX5_visitFrom 91 = .ok (.goto (-40), 3) := by decide +kernel
theorem dX5_visitFrom_94 : decode cX5_visitFrom 94 = .ok (.iinc 3 1, 3) := by decide +kernel
theorem dX5_visitFrom_97 : decode cX5_visitFrom 97 = .ok (.goto (-73), 3) := by decide +kernel
theorem dX5_visitFrom_100 : decode cX5_visitFrom 100 = .ok (.return_, 1) := by decide +kernel
theorem dX5_visit_0 : decode cX5_visit 0 = .ok (.aload_n 0, 1) := by decide +kernel
theorem dX5_visit_1 : decode cX5_visit 1 = .ok (.iload_n 1, 1) := by decide +kernel
theorem dX5_visit_2 : decode cX5_visit 2 = .ok (.invokevirtual 55, 3) := by decide +kernel
theorem dX5_visit_5 : decode cX5_visit 5 = .ok (.ifCond .ne 55, 3) := by decide +kernel
theorem dX5_visit_8 : decode cX5_visit 8 = .ok (.aload_n 0, 1) := by decide +kernel
theorem dX5_visit_9 : decode cX5_visit 9 = .ok (.dup, 1) := by decide +kernel
theorem dX5_visit_10 : decode cX5_visit 10 = .ok (.getfield 33, 3) := by decide +kernel
theorem dX5_visit_13 : decode cX5_visit 13 = .ok (.iconst 1, 1) := by decide +kernel
theorem dX5_visit_14 : decode cX5_visit 14 = .ok (.iload_n 1, 1) := by decide +kernel
theorem dX5_visit_15 : decode cX5_visit 15 = .ok (.ishl, 1) := by decide +kernel
theorem dX5_visit_16 : decode cX5_visit 16 = .ok (.ior, 1) := by decide +kernel
theorem dX5_visit_17 : decode cX5_visit 17 = .ok (.putfield 33, 3) := by decide +kernel
theorem dX5_visit_20 : decode cX5_visit 20 = .ok (.aload_n 0, 1) := by decide +kernel
theorem dX5_visit_21 : decode cX5_visit 21 = .ok (.getfield 14, 3) := by decide +kernel
theorem dX5_visit_24 : decode cX5_visit 24 = .ok (.aload_n 0, 1) := by decide +kernel
theorem dX5_visit_25 : decode cX5_visit 25 = .ok (.getfield 30, 3) := by decide +kernel
theorem dX5_visit_28 : decode cX5_visit 28 = .ok (.iload_n 1, 1) := by decide +kernel
theorem dX5_visit_29 : decode cX5_visit 29 = .ok (.invokevirtual 59, 3) := by decide +kernel
theorem dX5_visit_32 : decode cX5_visit 32 = .ok (.aload_n 0, 1) := by decide +kernel
theorem dX5_visit_33 : decode cX5_visit 33 = .ok (.getfield 20, 3) := by decide +kernel
theorem dX5_visit_36 : decode cX5_visit 36 = .ok (.iload_n 1, 1) := by decide +kernel
theorem dX5_visit_37 : decode cX5_visit 37 = .ok (.iload_n 2, 1) := by decide +kernel
theorem dX5_visit_38 : decode cX5_visit 38 = .ok (.invokevirtual 59, 3) := by decide +kernel
theorem dX5_visit_41 : decode cX5_visit 41 = .ok (.aload_n 0, 1) := by decide +kernel
theorem dX5_visit_42 : decode cX5_visit 42 = .ok (.getfield 23, 3) := by decide +kernel
theorem dX5_visit_45 : decode cX5_visit 45 = .ok (.iload_n 1, 1) := by decide +kernel
theorem dX5_visit_46 : decode cX5_visit 46 = .ok (.iload_n 3, 1) := by decide +kernel
theorem dX5_visit_47 : decode cX5_visit 47 = .ok (.invokevirtual 59, 3) := by decide +kernel
theorem dX5_visit_50 : decode cX5_visit 50 = .ok (.aload_n 0, 1) := by decide +kernel
theorem dX5_visit_51 : decode cX5_visit 51 = .ok (.dup, 1) := by decide +kernel
theorem dX5_visit_52 : decode cX5_visit 52 = .ok (.getfield 30, 3) := by decide +kernel
theorem dX5_visit_55 : decode cX5_visit 55 = .ok (.iconst 1, 1) := by decide +kernel
theorem dX5_visit_56 : decode cX5_visit 56 = .ok (.iadd, 1) := by decide +kernel
theorem dX5_visit_57 : decode cX5_visit 57 = .ok (.putfield 30, 3) := by decide +kernel
theorem dX5_visit_60 : decode cX5_visit 60 = .ok (.return_, 1) := by decide +kernel
theorem dX5_isVisited_0 : decode cX5_isVisited 0 = .ok (.aload_n 0, 1) := by decide +kernel
theorem dX5_isVisited_1 : decode cX5_isVisited 1 = .ok (.getfield 33, 3) := by decide +kernel
theorem dX5_isVisited_4 : decode cX5_isVisited 4 = .ok (.iconst 1, 1) := by decide +kernel
theorem dX5_isVisited_5 : decode cX5_isVisited 5 = .ok (.iload_n 1, 1) := by decide +kernel
theorem dX5_isVisited_6 : decode cX5_isVisited 6 = .ok (.ishl, 1) := by decide +kernel
theorem dX5_isVisited_7 : decode cX5_isVisited 7 = .ok (.iand, 1) := by decide +kernel
theorem dX5_isVisited_8 : decode cX5_isVisited 8 = .ok (.ifCond .eq 7, 3) := by decide +kernel
theorem dX5_isVisited_11 : decode cX5_isVisited 11 = .ok (.iconst 1, 1) := by decide +kernel
theorem dX5_isVisited_12 : decode cX5_isVisited 12 = .ok (.goto 4, 3) := by decide +kernel
theorem dX5_isVisited_15 : decode cX5_isVisited 15 = .ok (.iconst 0, 1) := by decide +kernel
theorem dX5_isVisited_16 : decode cX5_isVisited 16 = .ok (.ireturn, 1) := by decide +kernel
theorem dX5_lengthTo_0 : decode cX5_lengthTo 0 = .ok (.aload_n 0, 1) := by decide +kernel
theorem dX5_lengthTo_1 : decode cX5_lengthTo 1 = .ok (.iload_n 1, 1) := by decide +kernel
theorem dX5_lengthTo_2 : decode cX5_lengthTo 2 = .ok (.invokevirtual 55, 3) := by decide +kernel
theorem dX5_lengthTo_5 : decode cX5_lengthTo 5 = .ok (.ifCond .ne 5, 3) := by decide +kernel
theorem dX5_lengthTo_8 : decode cX5_lengthTo 8 = .ok (.iconst (-1), 1) := by decide +kernel
theorem dX5_lengthTo_9 : decode cX5_lengthTo 9 = .ok (.ireturn, 1) := by decide +kernel
theorem dX5_lengthTo_10 : decode cX5_lengthTo 10 = .ok (.iconst 0, 1) := by decide +kernel
theorem dX5_lengthTo_11 : decode cX5_lengthTo 11 = .ok (.istore_n 2, 1) := by decide +kernel
theorem dX5_lengthTo_12 : decode cX5_lengthTo 12 = .ok (.iload_n 1, 1) := by decide +kernel
theorem dX5_lengthTo_13 : decode cX5_lengthTo 13 = .ok (.istore_n 3, 1) := by decide +kernel
theorem dX5_lengthTo_14 : decode cX5_lengthTo 14 = .ok (.iload_n 3, 1) := by decide +kernel
theorem dX5_lengthTo_15 : decode cX5_lengthTo 15 = .ok (.aload_n 0, 1) := by decide +kernel
theorem dX5_lengthTo_16 : decode cX5_lengthTo 16 = .ok (.getfield 26, 3) := by decide +kernel
theorem dX5_lengthTo_19 : decode cX5_lengthTo 19 = .ok (.if_icmp .eq 24, 3) := by decide +kernel
theorem dX5_lengthTo_22 : decode cX5_lengthTo 22 = .ok (.iload_n 2, 1) := by decide +kernel
theorem dX5_lengthTo_23 : decode cX5_lengthTo 23 = .ok (.bipush 12, 2) := by decide +kernel
theorem dX5_lengthTo_25 : decode cX5_lengthTo 25 = .ok (.if_icmp .ge 18, 3) := by decide +kernel
theorem dX5_lengthTo_28 : decode cX5_lengthTo 28 = .ok (.iinc 2 1, 3) := by decide +kernel
theorem dX5_lengthTo_31 : decode cX5_lengthTo 31 = .ok (.aload_n 0, 1) := by decide +kernel
theorem dX5_lengthTo_32 : decode cX5_lengthTo 32 = .ok (.getfield 23, 3) := by decide +kernel
theorem dX5_lengthTo_35 : decode cX5_lengthTo 35 = .ok (.iload_n 3, 1) := by decide +kernel
theorem dX5_lengthTo_36 : decode cX5_lengthTo 36 = .ok (.invokevirtual 40, 3) := by decide +kernel
theorem dX5_lengthTo_39 : decode cX5_lengthTo 39 = .ok (.istore_n 3, 1) := by decide +kernel
theorem dX5_lengthTo_40 : decode cX5_lengthTo 40 = .ok (.goto (-26), 3) := by decide +kernel
theorem dX5_lengthTo_43 : decode cX5_lengthTo 43 = .ok (.iload_n 2, 1) := by decide +kernel
theorem dX5_lengthTo_44 : decode cX5_lengthTo 44 = .ok (.ireturn, 1) := by decide +kernel
theorem dX5_slotOnPathTo_0 : decode cX5_slotOnPathTo 0 = .ok (.aload_n 0, 1) := by decide +kernel
theorem dX5_slotOnPathTo_1 : decode cX5_slotOnPathTo 1 = .ok (.iload_n 1, 1) := by decide +kernel
theorem dX5_slotOnPathTo_2 : decode cX5_slotOnPathTo 2 = .ok (.invokevirtual 63, 3) := by decide +kernel
theorem dX5_slotOnPathTo_5 : decode cX5_slotOnPathTo 5 = .ok (.istore_n 3, 1) := by decide +kernel
theorem dX5_slotOnPathTo_6 : decode cX5_slotOnPathTo 6 = .ok (.iload_n 2, 1) := by decide +kernel
theorem dX5_slotOnPathTo_7 : decode cX5_slotOnPathTo 7 = .ok (.ifCond .lt 8, 3) := by decide +kernel
theorem dX5_slotOnPathTo_10 : decode cX5_slotOnPathTo 10 = .ok (.iload_n 2, 1) := by decide +kernel
theorem dX5_slotOnPathTo_11 : decode cX5_slotOnPathTo 11 = .ok (.iload_n 3, 1) := by decide +kernel
theorem dX5_slotOnPathTo_12 : decode cX5_slotOnPathTo 12 = .ok (.if_icmp .lt 5, 3) := by decide +kernel
theorem dX5_slotOnPathTo_15 : decode cX5_slotOnPathTo 15 = .ok (.iconst (-1), 1) := by decide +kernel
theorem dX5_slotOnPathTo_16 : decode cX5_slotOnPathTo 16 = .ok (.ireturn, 1) := by decide +kernel
theorem dX5_slotOnPathTo_17 : decode cX5_slotOnPathTo 17 = .ok (.iload_n 1, 1) := by decide +kernel
theorem dX5_slotOnPathTo_18 : decode cX5_slotOnPathTo 18 = .ok (.istore 4, 2) := by decide +kernel
theorem dX5_slotOnPathTo_20 : decode cX5_slotOnPathTo 20 = .ok (.iload_n 3, 1) := by decide +kernel
theorem dX5_slotOnPathTo_21 : decode cX5_slotOnPathTo 21 = .ok (.iconst 1, 1) := by decide +kernel
theorem dX5_slotOnPathTo_22 : decode cX5_slotOnPathTo 22 = .ok (.isub, 1) := by decide +kernel
theorem dX5_slotOnPathTo_23 : decode cX5_slotOnPathTo 23 = .ok (.istore 5, 2) := by decide +kernel
theorem dX5_slotOnPathTo_25 : decode cX5_slotOnPathTo 25 = .ok (.iload 5, 2) := by decide +kernel
theorem dX5_slotOnPathTo_27 : decode cX5_slotOnPathTo 27 = .ok (.iload_n 2, 1) := by decide +kernel
theorem dX5_slotOnPathTo_28 : decode cX5_slotOnPathTo 28 = .ok (.if_icmp .le 20, 3) := by decide +kernel
theorem dX5_slotOnPathTo_31 : decode cX5_slotOnPathTo 31 = .ok (.aload_n 0, 1) := by decide +kernel
theorem dX5_slotOnPathTo_32 : decode cX5_slotOnPathTo 32 = .ok (.getfield 23, 3) := by decide +kernel
theorem dX5_slotOnPathTo_35 : decode cX5_slotOnPathTo 35 = .ok (.iload 4, 2) := by decide +kernel
theorem dX5_slotOnPathTo_37 : decode cX5_slotOnPathTo 37 = .ok (.invokevirtual 40, 3) := by decide +kernel
theorem dX5_slotOnPathTo_40 : decode cX5_slotOnPathTo 40 = .ok (.istore 4, 2) := by decide +kernel
theorem dX5_slotOnPathTo_42 : decode cX5_slotOnPathTo 42 = .ok (.iinc 5 (-1), 3) := by decide +kernel
theorem dX5_slotOnPathTo_45 : decode cX5_slotOnPathTo 45 = .ok (.goto (-20), 3) := by decide +kernel
theorem dX5_slotOnPathTo_48 : decode cX5_slotOnPathTo 48 = .ok (.aload_n 0, 1) := by decide +kernel
theorem dX5_slotOnPathTo_49 : decode cX5_slotOnPathTo 49 = .ok (.getfield 20, 3) := by decide +kernel
theorem dX5_slotOnPathTo_52 : decode cX5_slotOnPathTo 52 = .ok (.iload 4, 2) := by decide +kernel
theorem dX5_slotOnPathTo_54 : decode cX5_slotOnPathTo 54 = .ok (.invokevirtual 40, 3) := by decide +kernel
theorem dX5_slotOnPathTo_57 : decode cX5_slotOnPathTo 57 = .ok (.ireturn, 1) := by decide +kernel
theorem dX5_firstLighter_0 : decode cX5_firstLighter 0 = .ok (.aload_n 1, 1) := by decide +kernel
theorem dX5_firstLighter_1 : decode cX5_firstLighter 1 = .ok (.getfield 66, 3) := by decide +kernel
theorem dX5_firstLighter_4 : decode cX5_firstLighter 4 = .ok (.aload_n 0, 1) := by decide +kernel
theorem dX5_firstLighter_5 : decode cX5_firstLighter 5 = .ok (.getfield 26, 3) := by decide +kernel
theorem dX5_firstLighter_8 : decode cX5_firstLighter 8 = .ok (.invokevirtual 40, 3) := by decide +kernel
theorem dX5_firstLighter_11 : decode cX5_firstLighter 11 = .ok (.iconst 2, 1) := by decide +kernel
theorem dX5_firstLighter_12 : decode cX5_firstLighter 12 = .ok (.isub, 1) := by decide +kernel
theorem dX5_firstLighter_13 : decode cX5_firstLighter 13 = .ok (.istore_n 2, 1) := by decide +kernel
theorem dX5_firstLighter_14 : decode cX5_firstLighter 14 = .ok (.iconst 0, 1) := by decide +kernel
theorem dX5_firstLighter_15 : decode cX5_firstLighter 15 = .ok (.istore_n 3, 1) := by decide +kernel
theorem dX5_firstLighter_16 : decode cX5_firstLighter 16 = .ok (.iload_n 3, 1) := by decide +kernel
theorem dX5_firstLighter_17 : decode cX5_firstLighter 17 = .ok (.aload_n 0, 1) := by decide +kernel
theorem dX5_firstLighter_18 : decode cX5_firstLighter 18 = .ok (.getfield 30, 3) := by decide +kernel
theorem dX5_firstLighter_21 : decode cX5_firstLighter 21 = .ok (.if_icmp .ge 37, 3) := by decide +kernel
theorem dX5_firstLighter_24 : decode cX5_firstLighter 24 = .ok (.aload_n 1, 1) := by decide +kernel
theorem dX5_firstLighter_25 : decode cX5_firstLighter 25 = .ok (.getfield 66, 3) := by decide +kernel
theorem dX5_firstLighter_28 : decode cX5_firstLighter 28 = .ok (.aload_n 0, 1) := by decide +kernel
theorem dX5_firstLighter_29 : decode cX5_firstLighter 29 = .ok (.getfield 14, 3) := by decide +kernel
theorem dX5_firstLighter_32 : decode cX5_firstLighter 32 = .ok (.iload_n 3, 1) := by decide +kernel
theorem dX5_firstLighter_33 : decode cX5_firstLighter 33 = .ok (.invokevirtual 40, 3) := by decide +kernel
theorem dX5_firstLighter_36 : decode cX5_firstLighter 36 = .ok (.invokevirtual 40, 3) := by decide +kernel
theorem dX5_firstLighter_39 : decode cX5_firstLighter 39 = .ok (.iload_n 2, 1) := by decide +kernel
theorem dX5_firstLighter_40 : decode cX5_firstLighter 40 = .ok (.if_icmp .gt 12, 3) := by decide +kernel
theorem dX5_firstLighter_43 : decode cX5_firstLighter 43 = .ok (.aload_n 0, 1) := by decide +kernel
theorem dX5_firstLighter_44 : decode cX5_firstLighter 44 = .ok (.getfield 14, 3) := by decide +kernel
theorem dX5_firstLighter_47 : decode cX5_firstLighter 47 = .ok (.iload_n 3, 1) := by decide +kernel
theorem dX5_firstLighter_48 : decode cX5_firstLighter 48 = .ok (.invokevirtual 40, 3) := by decide +kernel
theorem dX5_firstLighter_51 : decode cX5_firstLighter 51 = .ok (.ireturn, 1) := by decide +kernel
theorem dX5_firstLighter_52 : decode cX5_firstLighter 52 = .ok (.iinc 3 1, 3) := by decide +kernel
theorem dX5_firstLighter_55 : decode cX5_firstLighter 55 = .ok (.goto (-39), 3) := by decide +kernel
theorem dX5_firstLighter_58 : decode cX5_firstLighter 58 = .ok (.iconst (-1), 1) := by decide +kernel
theorem dX5_firstLighter_59 : decode cX5_firstLighter 59 = .ok (.ireturn, 1) := by decide +kernel
theorem dX5_flipPathTo_0 : decode cX5_flipPathTo 0 = .ok (.aload_n 0, 1) := by decide +kernel
theorem dX5_flipPathTo_1 : decode cX5_flipPathTo 1 = .ok (.iload_n 2, 1) := by decide +kernel
theorem dX5_flipPathTo_2 : decode cX5_flipPathTo 2 = .ok (.invokevirtual 63, 3) := by decide +kernel
theorem dX5_flipPathTo_5 : decode cX5_flipPathTo 5 = .ok (.istore_n 3, 1) := by decide +kernel
theorem dX5_flipPathTo_6 : decode cX5_flipPathTo 6 = .ok (.iload_n 2, 1) := by decide +kernel
theorem dX5_flipPathTo_7 : decode cX5_flipPathTo 7 = .ok (.istore 4, 2) := by decide +kernel
theorem dX5_flipPathTo_9 : decode cX5_flipPathTo 9 = .ok (.iconst 0, 1) := by decide +kernel
theorem dX5_flipPathTo_10 : decode cX5_flipPathTo 10 = .ok (.istore 5, 2) := by decide +kernel
theorem dX5_flipPathTo_12 : decode cX5_flipPathTo 12 = .ok (.iload 5, 2) := by decide +kernel
theorem dX5_flipPathTo_14 : decode cX5_flipPathTo 14 = .ok (.iload_n 3, 1) := by decide +kernel
theorem dX5_flipPathTo_15 : decode cX5_flipPathTo 15 = .ok (.if_icmp .ge 34, 3) := by decide +kernel
theorem dX5_flipPathTo_18 : decode cX5_flipPathTo 18 = .ok (.aload_n 1, 1) := by decide +kernel
theorem dX5_flipPathTo_19 : decode cX5_flipPathTo 19 = .ok (.aload_n 0, 1) := by decide +kernel
theorem dX5_flipPathTo_20 : decode cX5_flipPathTo 20 = .ok (.getfield 20, 3) := by decide +kernel
theorem dX5_flipPathTo_23 : decode cX5_flipPathTo 23 = .ok (.iload 4, 2) := by decide +kernel
theorem dX5_flipPathTo_25 : decode cX5_flipPathTo 25 = .ok (.invokevirtual 40, 3) := by decide +kernel
theorem dX5_flipPathTo_28 : decode cX5_flipPathTo 28 = .ok (.invokevirtual 69, 3) := by decide +kernel
theorem dX5_flipPathTo_31 : decode cX5_flipPathTo 31 = .ok (.pop, 1) := by decide +kernel
theorem dX5_flipPathTo_32 : decode cX5_flipPathTo 32 = .ok (.aload_n 0, 1) := by decide +kernel
theorem dX5_flipPathTo_33 : decode cX5_flipPathTo 33 = .ok (.getfield 23, 3) := by decide +kernel
theorem dX5_flipPathTo_36 : decode cX5_flipPathTo 36 = .ok (.iload 4, 2) := by decide +kernel
theorem dX5_flipPathTo_38 : decode cX5_flipPathTo 38 = .ok (.invokevirtual 40, 3) := by decide +kernel
theorem dX5_flipPathTo_41 : decode cX5_flipPathTo 41 = .ok (.istore 4, 2) := by decide +kernel
theorem dX5_flipPathTo_43 : decode cX5_flipPathTo 43 = .ok (.iinc 5 1, 3) := by decide +kernel
theorem dX5_flipPathTo_46 : decode cX5_flipPathTo 46 = .ok (.goto (-34), 3) := by decide +kernel
theorem dX5_flipPathTo_49 : decode cX5_flipPathTo 49 = .ok (.iload_n 3, 1) := by decide +kernel
theorem dX5_flipPathTo_50 : decode cX5_flipPathTo 50 = .ok (.ireturn, 1) := by decide +kernel
theorem dX5_relieveNode_0 : decode cX5_relieveNode 0 = .ok (.aload_n 0, 1) := by decide +kernel
theorem dX5_relieveNode_1 : decode cX5_relieveNode 1 = .ok (.aload_n 1, 1) := by decide +kernel
theorem dX5_relieveNode_2 : decode cX5_relieveNode 2 = .ok (.iload_n 2, 1) := by decide +kernel
theorem dX5_relieveNode_3 : decode cX5_relieveNode 3 = .ok (.invokevirtual 72, 3) := by decide +kernel
theorem dX5_relieveNode_6 : decode cX5_relieveNode 6 = .ok (.aload_n 0, 1) := by decide +kernel
theorem dX5_relieveNode_7 : decode cX5_relieveNode 7 = .ok (.aload_n 1, 1) := by decide +kernel
theorem dX5_relieveNode_8 : decode cX5_relieveNode 8 = .ok (.invokevirtual 76, 3) := by decide +kernel
theorem dX5_relieveNode_11 : decode cX5_relieveNode 11 = .ok (.istore_n 3, 1) := by decide +kernel
theorem dX5_relieveNode_12 : decode cX5_relieveNode 12 = .ok (.iload_n 3, 1) := by decide +kernel
theorem dX5_relieveNode_13 : decode cX5_relieveNode 13 = .ok (.iconst (-1), 1) := by decide +kernel
theorem dX5_relieveNode_14 : decode cX5_relieveNode 14 = .ok (.if_icmp .ne 7, 3) := by decide +kernel
theorem dX5_relieveNode_17 : decode cX5_relieveNode 17 = .ok (.iconst 0, 1) := by decide +kernel
theorem dX5_relieveNode_18 : decode cX5_relieveNode 18 = .ok (.goto 9, 3) := by decide +kernel
theorem dX5_relieveNode_21 : decode cX5_relieveNode 21 = .ok (.aload_n 0, 1) := by decide +kernel
theorem dX5_relieveNode_22 : decode cX5_relieveNode 22 = .ok (.aload_n 1, 1) := by decide +kernel
theorem dX5_relieveNode_23 : decode cX5_relieveNode 23 = .ok (.iload_n 3, 1) := by decide +kernel
theorem dX5_relieveNode_24 : decode cX5_relieveNode 24 = .ok (.invokevirtual 80, 3) := by decide +kernel
theorem dX5_relieveNode_27 : decode cX5_relieveNode 27 = .ok (.ireturn, 1) := by decide +kernel
theorem dX5_evenOut_0 : decode cX5_evenOut 0 = .ok (.iconst 0, 1) := by decide +kernel
theorem dX5_evenOut_1 : decode cX5_evenOut 1 = .ok (.istore_n 2, 1) := by decide +kernel
theorem dX5_evenOut_2 : decode cX5_evenOut 2 = .ok (.aload_n 1, 1) := by decide +kernel
theorem dX5_evenOut_3 : decode cX5_evenOut 3 = .ok (.invokevirtual 84, 3) := by decide +kernel
theorem dX5_evenOut_6 : decode cX5_evenOut 6 = .ok (.istore_n 3, 1) := by decide +kernel
theorem dX5_evenOut_7 : decode cX5_evenOut 7 = .ok (.iconst 0, 1) := by decide +kernel
theorem dX5_evenOut_8 : decode cX5_evenOut 8 = .ok (.istore 4, 2) := by decide +kernel
theorem dX5_evenOut_10 : decode cX5_evenOut 10 = .ok (.iload 4, 2) := by decide +kernel
theorem dX5_evenOut_12 : decode cX5_evenOut 12 = .ok (.aload_n 1, 1) := by decide +kernel
theorem dX5_evenOut_13 : decode cX5_evenOut 13 = .ok (.getfield 88, 3) := by decide +kernel
theorem dX5_evenOut_16 : decode cX5_evenOut 16 = .ok (.if_icmp .ge 52, 3) := by decide +kernel
theorem dX5_evenOut_19 : decode cX5_evenOut 19 = .ok (.iload_n 2, 1) := by decide +kernel
theorem dX5_evenOut_20 : decode cX5_evenOut 20 = .ok (.ldc 91, 2) := by decide +kernel
theorem dX5_evenOut_22 : decode cX5_evenOut 22 = .ok (.if_icmp .ge 46, 3) := by decide +kernel
theorem dX5_evenOut_25 : decode cX5_evenOut 25 = .ok (.aload_n 1, 1) := by decide +kernel
theorem dX5_evenOut_26 : decode cX5_evenOut 26 = .ok (.getfield 66, 3) := by decide +kernel
theorem dX5_evenOut_29 : decode cX5_evenOut 29 = .ok (.iload 4, 2) := by decide +kernel
theorem dX5_evenOut_31 : decode cX5_evenOut 31 = .ok (.invokevirtual 40, 3) := by decide +kernel
theorem dX5_evenOut_34 : decode cX5_evenOut 34 = .ok (.iload_n 3, 1) := by decide +kernel
theorem dX5_evenOut_35 : decode cX5_evenOut 35 = .ok (.if_icmp .ne 27, 3) := by decide +kernel
theorem dX5_evenOut_38 : decode cX5_evenOut 38 = .ok (.aload_n 0, 1) := by decide +kernel
theorem dX5_evenOut_39 : decode cX5_evenOut 39 = .ok (.aload_n 1, 1) := by decide +kernel
theorem dX5_evenOut_40 : decode cX5_evenOut 40 = .ok (.iload 4, 2) := by decide +kernel
theorem dX5_evenOut_42 : decode cX5_evenOut 42 = .ok (.invokevirtual 92, 3) := by decide +kernel
theorem dX5_evenOut_45 : decode cX5_evenOut 45 = .ok (.ifCond .le 17, 3) := by decide +kernel
theorem dX5_evenOut_48 : decode cX5_evenOut 48 = .ok (.iinc 2 1, 3) := by decide +kernel
theorem dX5_evenOut_51 : decode cX5_evenOut 51 = .ok (.aload_n 1, 1) := by decide +kernel
theorem dX5_evenOut_52 : decode cX5_evenOut 52 = .ok (.invokevirtual 84, 3) := by decide +kernel
theorem dX5_evenOut_55 : decode cX5_evenOut 55 = .ok (.istore_n 3, 1) := by decide +kernel
theorem dX5_evenOut_56 : decode cX5_evenOut 56 = .ok (.iconst 0, 1) := by decide +kernel
theorem dX5_evenOut_57 : decode cX5_evenOut 57 = .ok (.istore 4, 2) := by decide +kernel
theorem dX5_evenOut_59 : decode cX5_evenOut 59 = .ok (.goto (-49), 3) := by decide +kernel
theorem dX5_evenOut_62 : decode cX5_evenOut 62 = .ok (.iinc 4 1, 3) := by decide +kernel
theorem dX5_evenOut_65 : decode cX5_evenOut 65 = .ok (.goto (-55), 3) := by decide +kernel
theorem dX5_evenOut_68 : decode cX5_evenOut 68 = .ok (.iload_n 2, 1) := by decide +kernel
theorem dX5_evenOut_69 : decode cX5_evenOut 69 = .ok (.ireturn, 1) := by decide +kernel
theorem dX6_init_0 : decode cX6_init 0 = .ok (.aload_n 0, 1) := by decide +kernel
theorem dX6_init_1 : decode cX6_init 1 = .ok (.invokespecial 1, 3) := by decide +kernel
theorem dX6_init_4 : decode cX6_init 4 = .ok (.aload_n 0, 1) := by decide +kernel
theorem dX6_init_5 : decode cX6_init 5 = .ok (.new 7, 3) := by decide +kernel
theorem dX6_init_8 : decode cX6_init 8 = .ok (.dup, 1) := by decide +kernel
theorem dX6_init_9 : decode cX6_init 9 = .ok (.invokespecial 9, 3) := by decide +kernel
theorem dX6_init_12 : decode cX6_init 12 = .ok (.putfield 10, 3) := by decide +kernel
theorem dX6_init_15 : decode cX6_init 15 = .ok (.aload_n 0, 1) := by decide +kernel
theorem dX6_init_16 : decode cX6_init 16 = .ok (.new 7, 3) := by decide +kernel
theorem dX6_init_19 : decode cX6_init 19 = .ok (.dup, 1) := by decide +kernel
theorem dX6_init_20 : decode cX6_init 20 = .ok (.invokespecial 9, 3) := by decide +kernel
theorem dX6_init_23 : decode cX6_init 23 = .ok (.putfield 16, 3) := by decide +kernel
theorem dX6_init_26 : decode cX6_init 26 = .ok (.aload_n 0, 1) := by decide +kernel
theorem dX6_init_27 : decode cX6_init 27 = .ok (.new 19, 3) := by decide +kernel
theorem dX6_init_30 : decode cX6_init 30 = .ok (.dup, 1) := by decide +kernel
theorem dX6_init_31 : decode cX6_init 31 = .ok (.invokespecial 21, 3) := by decide +kernel
theorem dX6_init_34 : decode cX6_init 34 = .ok (.putfield 22, 3) := by decide +kernel
theorem dX6_init_37 : decode cX6_init 37 = .ok (.aload_n 0, 1) := by decide +kernel
theorem dX6_init_38 : decode cX6_init 38 = .ok (.new 26, 3) := by decide +kernel
theorem dX6_init_41 : decode cX6_init 41 = .ok (.dup, 1) := by decide +kernel
theorem dX6_init_42 : decode cX6_init 42 = .ok (.invokespecial 28, 3) := by decide +kernel
theorem dX6_init_45 : decode cX6_init 45 = .ok (.putfield 29, 3) := by decide +kernel
theorem dX6_init_48 : decode cX6_init 48 = .ok (.aload_n 0, 1) := by decide +kernel
theorem dX6_init_49 : decode cX6_init 49 = .ok (.new 33, 3) := by decide +kernel
theorem dX6_init_52 : decode cX6_init 52 = .ok (.dup, 1) := by decide +kernel
theorem dX6_init_53 : decode cX6_init 53 = .ok (.invokespecial 35, 3) := by decide +kernel
theorem dX6_init_56 : decode cX6_init 56 = .ok (.putfield 36, 3) := by decide +kernel
theorem dX6_init_59 : decode cX6_init 59 = .ok (.aload_n 0, 1) := by decide +kernel
theorem dX6_init_60 : decode cX6_init 60 = .ok (.new 40, 3) := by decide +kernel
theorem dX6_init_63 : decode cX6_init 63 = .ok (.dup, 1) := by decide +kernel
theorem dX6_init_64 : decode cX6_init 64 = .ok (.invokespecial 42, 3) := by decide +kernel
theorem dX6_init_67 : decode cX6_init 67 = .ok (.putfield 43, 3) := by decide +kernel
theorem dX6_init_70 : decode cX6_init 70 = .ok (.return_, 1) := by decide +kernel
theorem dX6_begin_0 : decode cX6_begin 0 = .ok (.iload_n 1, 1) := by decide +kernel
theorem dX6_begin_1 : decode cX6_begin 1 = .ok (.iconst 2, 1) := by decide +kernel
theorem dX6_begin_2 : decode cX6_begin 2 = .ok (.if_icmp .lt 9, 3) := by decide +kernel
theorem dX6_begin_5 : decode cX6_begin 5 = .ok (.iload_n 1, 1) := by decide +kernel
theorem dX6_begin_6 : decode cX6_begin 6 = .ok (.bipush 12, 2) := by decide +kernel
theorem dX6_begin_8 : decode cX6_begin 8 = .ok (.if_icmp .le 13, 3) := by decide +kernel
theorem dX6_begin_11 : decode cX6_begin 11 = .ok (.new 47, 3) := by decide +kernel
theorem dX6_begin_14 : decode cX6_begin 14 = .ok (.dup, 1) := by decide +kernel
theorem dX6_begin_15 : decode cX6_begin 15 = .ok (.ldc 49, 2) := by decide +kernel
theorem dX6_begin_17 : decode cX6_begin 17 = .ok (.invokespecial 51, 3) := by decide +kernel
theorem dX6_begin_20 : decode cX6_begin 20 = .ok (.athrow, 1) := by decide +kernel
theorem dX6_begin_21 : decode cX6_begin 21 = .ok (.aload_n 0, 1) := by decide +kernel
theorem dX6_begin_22 : decode cX6_begin 22 = .ok (.getfield 10, 3) := by decide +kernel
theorem dX6_begin_25 : decode cX6_begin 25 = .ok (.getfield 54, 3) := by decide +kernel
theorem dX6_begin_28 : decode cX6_begin 28 = .ok (.istore_n 2, 1) := by decide +kernel
theorem dX6_begin_29 : decode cX6_begin 29 = .ok (.aload_n 0, 1) := by decide +kernel
theorem dX6_begin_30 : decode cX6_begin 30 = .ok (.getfield 43, 3) := by decide +kernel
theorem dX6_begin_33 : decode cX6_begin 33 = .ok (.aload_n 0, 1) := by decide +kernel
theorem dX6_begin_34 : decode cX6_begin 34 = .ok (.getfield 10, 3) := by decide +kernel
theorem dX6_begin_37 : decode cX6_begin 37 = .ok (.invokevirtual 58, 3) := by decide +kernel
theorem dX6_begin_40 : decode cX6_begin 40 = .ok (.aload_n 0, 1) := by decide +kernel
theorem dX6_begin_41 : decode cX6_begin 41 = .ok (.getfield 10, 3) := by decide +kernel
theorem dX6_begin_44 : decode cX6_begin 44 = .ok (.iload_n 1, 1) := by decide +kernel
theorem dX6_begin_45 : decode cX6_begin 45 = .ok (.invokevirtual 62, 3) := by decide +kernel
theorem dX6_begin_48 : decode cX6_begin 48 = .ok (.aload_n 0, 1) := by decide +kernel
theorem dX6_begin_49 : decode cX6_begin 49 = .ok (.getfield 29, 3) := by decide +kernel
theorem dX6_begin_52 : decode cX6_begin 52 = .ok (.invokevirtual 66, 3) := by decide +kernel
theorem dX6_begin_55 : decode cX6_begin 55 = .ok (.iload_n 2, 1) := by decide +kernel
theorem dX6_begin_56 : decode cX6_begin 56 = .ok (.ireturn, 1) := by decide +kernel
theorem dX6_add_0 : decode cX6_add 0 = .ok (.aload_n 0, 1) := by decide +kernel
theorem dX6_add_1 : decode cX6_add 1 = .ok (.iload_n 1, 1) := by decide +kernel
theorem dX6_add_2 : decode cX6_add 2 = .ok (.invokevirtual 69, 3) := by decide +kernel
theorem dX6_add_5 : decode cX6_add 5 = .ok (.aload_n 0, 1) := by decide +kernel
theorem dX6_add_6 : decode cX6_add 6 = .ok (.iload_n 2, 1) := by decide +kernel
theorem dX6_add_7 : decode cX6_add 7 = .ok (.invokevirtual 69, 3) := by decide +kernel
theorem dX6_add_10 : decode cX6_add 10 = .ok (.iload_n 1, 1) := by decide +kernel
theorem dX6_add_11 : decode cX6_add 11 = .ok (.iload_n 2, 1) := by decide +kernel
theorem dX6_add_12 : decode cX6_add 12 = .ok (.invokestatic 72, 3) := by decide +kernel
theorem dX6_add_15 : decode cX6_add 15 = .ok (.aload_n 0, 1) := by decide +kernel
theorem dX6_add_16 : decode cX6_add 16 = .ok (.getfield 10, 3) := by decide +kernel
theorem dX6_add_19 : decode cX6_add 19 = .ok (.invokevirtual 76, 3) := by decide +kernel
theorem dX6_add_22 : decode cX6_add 22 = .ok (.ifCond .eq 13, 3) := by decide +kernel
theorem dX6_add_25 : decode cX6_add 25 = .ok (.new 80, 3) := by decide +kernel
theorem dX6_add_28 : decode cX6_add 28 = .ok (.dup, 1) := by decide +kernel
theorem dX6_add_29 : decode cX6_add 29 = .ok (.ldc 82, 2) := by decide +kernel
theorem dX6_add_31 : decode cX6_add 31 = .ok (.invokespecial 84, 3) := by decide +kernel
theorem dX6_add_34 : decode cX6_add 34 = .ok (.athrow, 1) := by decide +kernel
theorem dX6_add_35 : decode cX6_add 35 = .ok (.aload_n 0, 1) := by decide +kernel
theorem dX6_add_36 : decode cX6_add 36 = .ok (.getfield 43, 3) := by decide +kernel
theorem dX6_add_39 : decode cX6_add 39 = .ok (.aload_n 0, 1) := by decide +kernel
theorem dX6_add_40 : decode cX6_add 40 = .ok (.getfield 10, 3) := by decide +kernel
theorem dX6_add_43 : decode cX6_add 43 = .ok (.invokevirtual 58, 3) := by decide +kernel
theorem dX6_add_46 : decode cX6_add 46 = .ok (.aload_n 0, 1) := by decide +kernel
theorem dX6_add_47 : decode cX6_add 47 = .ok (.getfield 29, 3) := by decide +kernel
theorem dX6_add_50 : decode cX6_add 50 = .ok (.invokevirtual 66, 3) := by decide +kernel
theorem dX6_add_53 : decode cX6_add 53 = .ok (.aload_n 0, 1) := by decide +kernel
theorem dX6_add_54 : decode cX6_add 54 = .ok (.getfield 10, 3) := by decide +kernel
theorem dX6_add_57 : decode cX6_add 57 = .ok (.iload_n 1, 1) := by decide +kernel
theorem dX6_add_58 : decode cX6_add 58 = .ok (.iload_n 2, 1) := by decide +kernel
theorem dX6_add_59 : decode cX6_add 59 = .ok (.invokevirtual 85, 3) := by decide +kernel
theorem dX6_add_62 : decode cX6_add 62 = .ok (.ireturn, 1) := by decide +kernel
theorem dX6_remove_0 : decode cX6_remove 0 = .ok (.aload_n 0, 1) := by decide +kernel
theorem dX6_remove_1 : decode cX6_remove 1 = .ok (.iload_n 1, 1) := by decide +kernel
theorem dX6_remove_2 : decode cX6_remove 2 = .ok (.invokevirtual 89, 3) := by decide +kernel
theorem dX6_remove_5 : decode cX6_remove 5 = .ok (.istore_n 2, 1) := by decide +kernel
theorem dX6_remove_6 : decode cX6_remove 6 = .ok (.aload_n 0, 1) := by decide +kernel
theorem dX6_remove_7 : decode cX6_remove 7 = .ok (.getfield 43, 3) := by decide +kernel
theorem dX6_remove_10 : decode cX6_remove 10 = .ok (.aload_n 0, 1) := by decide +kernel
theorem dX6_remove_11 : decode cX6_remove 11 = .ok (.getfield 10, 3) := by decide +kernel
theorem dX6_remove_14 : decode cX6_remove 14 = .ok (.invokevirtual 58, 3) := by decide +kernel
theorem dX6_remove_17 : decode cX6_remove 17 = .ok (.aload_n 0, 1) := by decide +kernel
theorem dX6_remove_18 : decode cX6_remove 18 = .ok (.getfield 29, 3) := by decide +kernel
theorem dX6_remove_21 : decode cX6_remove 21 = .ok (.invokevirtual 66, 3) := by decide +kernel
theorem dX6_remove_24 : decode cX6_remove 24 = .ok (.aload_n 0, 1) := by decide +kernel
theorem dX6_remove_25 : decode cX6_remove 25 = .ok (.getfield 10, 3) := by decide +kernel
theorem dX6_remove_28 : decode cX6_remove 28 = .ok (.iload_n 2, 1) := by decide +kernel
theorem dX6_remove_29 : decode cX6_remove 29 = .ok (.invokevirtual 93, 3) := by decide +kernel
theorem dX6_remove_32 : decode cX6_remove 32 = .ok (.ireturn, 1) := by decide +kernel
theorem dX6_turn_0 : decode cX6_turn 0 = .ok (.aload_n 0, 1) := by decide +kernel
theorem dX6_turn_1 : decode cX6_turn 1 = .ok (.iload_n 1, 1) := by decide +kernel
theorem dX6_turn_2 : decode cX6_turn 2 = .ok (.invokevirtual 89, 3) := by decide +kernel
theorem dX6_turn_5 : decode cX6_turn 5 = .ok (.istore_n 2, 1) := by decide +kernel
theorem dX6_turn_6 : decode cX6_turn 6 = .ok (.aload_n 0, 1) := by decide +kernel
theorem dX6_turn_7 : decode cX6_turn 7 = .ok (.getfield 43, 3) := by decide +kernel
theorem dX6_turn_10 : decode cX6_turn 10 = .ok (.aload_n 0, 1) := by decide +kernel
theorem dX6_turn_11 : decode cX6_turn 11 = .ok (.getfield 10, 3) := by decide +kernel
theorem dX6_turn_14 : decode cX6_turn 14 = .ok (.invokevirtual 58, 3) := by decide +kernel
theorem dX6_turn_17 : decode cX6_turn 17 = .ok (.aload_n 0, 1) := by decide +kernel
theorem dX6_turn_18 : decode cX6_turn 18 = .ok (.getfield 10, 3) := by decide +kernel
theorem dX6_turn_21 : decode cX6_turn 21 = .ok (.iload_n 2, 1) := by decide +kernel
theorem dX6_turn_22 : decode cX6_turn 22 = .ok (.invokevirtual 96, 3) := by decide +kernel
theorem dX6_turn_25 : decode cX6_turn 25 = .ok (.ireturn, 1) := by decide +kernel
theorem dX6_relieve_0 : decode cX6_relieve 0 = .ok (.aload_n 0, 1) := by decide +kernel
theorem dX6_relieve_1 : decode cX6_relieve 1 = .ok (.iload_n 1, 1) := by decide +kernel
theorem dX6_relieve_2 : decode cX6_relieve 2 = .ok (.invokevirtual 69, 3) := by decide +kernel
theorem dX6_relieve_5 : decode cX6_relieve 5 = .ok (.aload_n 0, 1) := by decide +kernel
theorem dX6_relieve_6 : decode cX6_relieve 6 = .ok (.getfield 22, 3) := by decide +kernel
theorem dX6_relieve_9 : decode cX6_relieve 9 = .ok (.aload_n 0, 1) := by decide +kernel
theorem dX6_relieve_10 : decode cX6_relieve 10 = .ok (.getfield 10, 3) := by decide +kernel
theorem dX6_relieve_13 : decode cX6_relieve 13 = .ok (.iload_n 1, 1) := by decide +kernel
theorem dX6_relieve_14 : decode cX6_relieve 14 = .ok (.invokevirtual 99, 3) := by decide +kernel
theorem dX6_relieve_17 : decode cX6_relieve 17 = .ok (.aload_n 0, 1) := by decide +kernel
theorem dX6_relieve_18 : decode cX6_relieve 18 = .ok (.getfield 22, 3) := by decide +kernel
theorem dX6_relieve_21 : decode cX6_relieve 21 = .ok (.aload_n 0, 1) := by decide +kernel
theorem dX6_relieve_22 : decode cX6_relieve 22 = .ok (.getfield 10, 3) := by decide +kernel
theorem dX6_relieve_25 : decode cX6_relieve 25 = .ok (.invokevirtual 103, 3) := by decide +kernel
theorem dX6_relieve_28 : decode cX6_relieve 28 = .ok (.istore_n 2, 1) := by decide +kernel
theorem dX6_relieve_29 : decode cX6_relieve 29 = .ok (.iload_n 2, 1) := by decide +kernel
theorem dX6_relieve_30 : decode cX6_relieve 30 = .ok (.iconst (-1), 1) := by decide +kernel
theorem dX6_relieve_31 : decode cX6_relieve 31 = .ok (.if_icmp .ne 13, 3) := by decide +kernel
theorem dX6_relieve_34 : decode cX6_relieve 34 = .ok (.new 80, 3) := by decide +kernel
theorem dX6_relieve_37 : decode cX6_relieve 37 = .ok (.dup, 1) := by decide +kernel
theorem dX6_relieve_38 : decode cX6_relieve 38 = .ok (.ldc 107, 2) := by decide +kernel
theorem dX6_relieve_40 : decode cX6_relieve 40 = .ok (.invokespecial 84, 3) := by decide +kernel
theorem dX6_relieve_43 : decode cX6_relieve 43 = .ok (.athrow, 1) := by decide +kernel
theorem dX6_relieve_44 : decode cX6_relieve 44 = .ok (.aload_n 0, 1) := by decide +kernel
theorem dX6_relieve_45 : decode cX6_relieve 45 = .ok (.getfield 43, 3) := by decide +kernel
theorem dX6_relieve_48 : decode cX6_relieve 48 = .ok (.aload_n 0, 1) := by decide +kernel
theorem dX6_relieve_49 : decode cX6_relieve 49 = .ok (.getfield 10, 3) := by decide +kernel
theorem dX6_relieve_52 : decode cX6_relieve 52 = .ok (.invokevirtual 58, 3) := by decide +kernel
theorem dX6_relieve_55 : decode cX6_relieve 55 = .ok (.aload_n 0, 1) := by decide +kernel
theorem dX6_relieve_56 : decode cX6_relieve 56 = .ok (.getfield 22, 3) := by decide +kernel
theorem dX6_relieve_59 : decode cX6_relieve 59 = .ok (.aload_n 0, 1) := by decide +kernel
theorem dX6_relieve_60 : decode cX6_relieve 60 = .ok (.getfield 10, 3) := by decide +kernel
theorem dX6_relieve_63 : decode cX6_relieve 63 = .ok (.iload_n 2, 1) := by decide +kernel
theorem dX6_relieve_64 : decode cX6_relieve 64 = .ok (.invokevirtual 109, 3) := by decide +kernel
theorem dX6_relieve_67 : decode cX6_relieve 67 = .ok (.ireturn, 1) := by decide +kernel
theorem dX6_balance_0 : decode cX6_balance 0 = .ok (.aload_n 0, 1) := by decide +kernel
theorem dX6_balance_1 : decode cX6_balance 1 = .ok (.getfield 43, 3) := by decide +kernel
theorem dX6_balance_4 : decode cX6_balance 4 = .ok (.aload_n 0, 1) := by decide +kernel
theorem dX6_balance_5 : decode cX6_balance 5 = .ok (.getfield 10, 3) := by decide +kernel
theorem dX6_balance_8 : decode cX6_balance 8 = .ok (.invokevirtual 58, 3) := by decide +kernel
theorem dX6_balance_11 : decode cX6_balance 11 = .ok (.aload_n 0, 1) := by decide +kernel
theorem dX6_balance_12 : decode cX6_balance 12 = .ok (.getfield 22, 3) := by decide +kernel
theorem dX6_balance_15 : decode cX6_balance 15 = .ok (.aload_n 0, 1) := by decide +kernel
theorem dX6_balance_16 : decode cX6_balance 16 = .ok (.getfield 10, 3) := by decide +kernel
theorem dX6_balance_19 : decode cX6_balance 19 = .ok (.invokevirtual 113, 3) := by decide +kernel
theorem dX6_balance_22 : decode cX6_balance 22 = .ok (.ireturn, 1) := by decide +kernel
theorem dX6_setCapacity_0 : decode cX6_setCapacity 0 = .ok (.aload_n 0, 1) := by decide +kernel
theorem dX6_setCapacity_1 : decode cX6_setCapacity 1 = .ok (.iload_n 1, 1) := by decide +kernel
theorem dX6_setCapacity_2 : decode cX6_setCapacity 2 = .ok (.invokevirtual 69, 3) := by decide +kernel
theorem dX6_setCapacity_5 : decode cX6_setCapacity 5 = .ok (.iload_n 2, 1) := by decide +kernel
theorem dX6_setCapacity_6 : decode cX6_setCapacity 6 = .ok (.ifCond .lt 9, 3) := by decide +kernel
theorem dX6_setCapacity_9 : decode cX6_setCapacity 9 = .ok (.iload_n 2, 1) := by decide +kernel
theorem dX6_setCapacity_10 : decode cX6_setCapacity 10 = .ok (.bipush 40, 2) := by decide +kernel
theorem dX6_setCapacity_12 : decode cX6_setCapacity 12 = .ok (.if_icmp .le 13, 3) := by decide +kernel
theorem dX6_setCapacity_15 : decode cX6_setCapacity 15 = .ok (.new 47, 3) := by decide +kernel
theorem dX6_setCapacity_18 : decode cX6_setCapacity 18 = .ok (.dup, 1) := by decide +kernel
theorem dX6_setCapacity_19 : decode cX6_setCapacity 19 = .ok (.ldc 116, 2) := by decide +kernel
theorem dX6_setCapacity_21 : decode cX6_setCapacity 21 = .ok (.invokespecial 51, 3) := by decide +kernel
theorem dX6_setCapacity_24 : decode cX6_setCapacity 24 = .ok (.athrow, 1) := by decide +kernel
theorem dX6_setCapacity_25 : decode cX6_setCapacity 25 = .ok (.aload_n 0, 1) := by decide +kernel
theorem dX6_setCapacity_26 : decode cX6_setCapacity 26 = .ok (.getfield 10, 3) := by decide +kernel
theorem dX6_setCapacity_29 : decode cX6_setCapacity 29 = .ok (.getfield 118, 3) := by decide +kernel
theorem dX6_setCapacity_32 : decode cX6_setCapacity 32 = .ok (.iload_n 1, 1) := by decide +kernel
theorem dX6_setCapacity_33 : decode cX6_setCapacity 33 = .ok (.invokevirtual 122, 3) := by decide +kernel
theorem dX6_setCapacity_36 : decode cX6_setCapacity 36 = .ok (.istore_n 3, 1) := by decide +kernel
theorem dX6_setCapacity_37 : decode cX6_setCapacity 37 = .ok (.aload_n 0, 1) := by decide +kernel
theorem dX6_setCapacity_38 : decode cX6_setCapacity 38 = .ok (.getfield 43, 3) := by decide +kernel
theorem dX6_setCapacity_41 : decode cX6_setCapacity 41 = .ok (.aload_n 0, 1) := by decide +kernel
theorem dX6_setCapacity_42 : decode cX6_setCapacity 42 = .ok (.getfield 10, 3) := by decide +kernel
theorem dX6_setCapacity_45 : decode cX6_setCapacity 45 = .ok (.invokevirtual 58, 3) := by decide +kernel
theorem dX6_setCapacity_48 : decode cX6_setCapacity 48 = .ok (.aload_n 0, 1) := by decide +kernel
theorem dX6_setCapacity_49 : decode cX6_setCapacity 49 = .ok (.getfield 10, 3) := by decide +kernel
theorem dX6_setCapacity_52 : decode cX6_setCapacity 52 = .ok (.getfield 118, 3) := by decide +kernel
theorem dX6_setCapacity_55 : decode cX6_setCapacity 55 = .ok (.iload_n 1, 1) := by decide +kernel
theorem dX6_setCapacity_56 : decode cX6_setCapacity 56 = .ok (.iload_n 2, 1) := by decide +kernel
theorem dX6_setCapacity_57 : decode cX6_setCapacity 57 = .ok (.invokevirtual 127, 3) := by decide +kernel
theorem dX6_setCapacity_60 : decode cX6_setCapacity 60 = .ok (.iload_n 3, 1) := by decide +kernel
theorem dX6_setCapacity_61 : decode cX6_setCapacity 61 = .ok (.ireturn, 1) := by decide +kernel
theorem dX6_node_0 : decode cX6_node 0 = .ok (.aload_n 0, 1) := by decide +kernel
theorem dX6_node_1 : decode cX6_node 1 = .ok (.iload_n 1, 1) := by decide +kernel
theorem dX6_node_2 : decode cX6_node 2 = .ok (.invokevirtual 69, 3) := by decide +kernel
theorem dX6_node_5 : decode cX6_node 5 = .ok (.iload_n 2, 1) := by decide +kernel
theorem dX6_node_6 : decode cX6_node 6 = .ok (.tableswitch 99 0 4 #[34, 46, 55, 67, 79], 34) := by decide +kernel
theorem dX6_node_40 : decode cX6_node 40 = .ok (.aload_n 0, 1) := by decide +kernel
theorem dX6_node_41 : decode cX6_node 41 = .ok (.getfield 10, 3) := by decide +kernel
theorem dX6_node_44 : decode cX6_node 44 = .ok (.getfield 130, 3) := by decide +kernel
theorem dX6_node_47 : decode cX6_node 47 = .ok (.iload_n 1, 1) := by decide +kernel
theorem dX6_node_48 : decode cX6_node 48 = .ok (.invokevirtual 122, 3) := by decide +kernel
theorem dX6_node_51 : decode cX6_node 51 = .ok (.ireturn, 1) := by decide +kernel
theorem dX6_node_52 : decode cX6_node 52 = .ok (.aload_n 0, 1) := by decide +kernel
theorem dX6_node_53 : decode cX6_node 53 = .ok (.getfield 10, 3) := by decide +kernel
theorem dX6_node_56 : decode cX6_node 56 = .ok (.iload_n 1, 1) := by decide +kernel
theorem dX6_node_57 : decode cX6_node 57 = .ok (.invokevirtual 133, 3) := by decide +kernel
theorem dX6_node_60 : decode cX6_node 60 = .ok (.ireturn, 1) := by decide +kernel
theorem dX6_node_61 : decode cX6_node 61 = .ok (.aload_n 0, 1) := by decide +kernel
theorem dX6_node_62 : decode cX6_node 62 = .ok (.getfield 10, 3) := by decide +kernel
theorem dX6_node_65 : decode cX6_node 65 = .ok (.getfield 118, 3) := by decide +kernel
theorem dX6_node_68 : decode cX6_node 68 = .ok (.iload_n 1, 1) := by decide +kernel
theorem dX6_node_69 : decode cX6_node 69 = .ok (.invokevirtual 122, 3) := by decide +kernel
theorem dX6_node_72 : decode cX6_node 72 = .ok (.ireturn, 1) := by decide +kernel
theorem dX6_node_73 : decode cX6_node 73 = .ok (.aload_n 0, 1) := by decide +kernel
theorem dX6_node_74 : decode cX6_node 74 = .ok (.getfield 10, 3) := by decide +kernel
theorem dX6_node_77 : decode cX6_node 77 = .ok (.iload_n 1, 1) := by decide +kernel
theorem dX6_node_78 : decode cX6_node 78 = .ok (.invokevirtual 136, 3) := by decide +kernel
theorem dX6_node_81 : decode cX6_node 81 = .ok (.invokestatic 139, 3) := by decide +kernel
theorem dX6_node_84 : decode cX6_node 84 = .ok (.ireturn, 1) := by decide +kernel
theorem dX6_node_85 : decode cX6_node 85 = .ok (.aload_n 0, 1) := by decide +kernel
theorem dX6_node_86 : decode cX6_node 86 = .ok (.getfield 22, 3) := by decide +kernel
theorem dX6_node_89 : decode cX6_node 89 = .ok (.aload_n 0, 1) := by decide +kernel
theorem dX6_node_90 : decode cX6_node 90 = .ok (.getfield 10, 3) := by decide +kernel
theorem dX6_node_93 : decode cX6_node 93 = .ok (.iload_n 1, 1) := by decide +kernel
theorem dX6_node_94 : decode cX6_node 94 = .ok (.invokevirtual 99, 3) := by decide +kernel
theorem dX6_node_97 : decode cX6_node 97 = .ok (.aload_n 0, 1) := by decide +kernel
theorem dX6_node_98 : decode cX6_node 98 = .ok (.getfield 22, 3) := by decide +kernel
theorem dX6_node_101 : decode cX6_node 101 = .ok (.getfield 144, 3) := by decide +kernel
theorem dX6_node_104 : decode cX6_node 104 = .ok (.ireturn, 1) := by decide +kernel
theorem dX6_node_105 : decode cX6_node 105 = .ok (.new 47, 3) := by decide +kernel
theorem dX6_node_108 : decode cX6_node 108 = .ok (.dup, 1) := by decide +kernel
theorem dX6_node_109 : decode cX6_node 109 = .ok (.ldc 147, 2) := by decide +kernel
theorem dX6_node_111 : decode cX6_node 111 = .ok (.invokespecial 51, 3) := by decide +kernel
theorem dX6_node_114 : decode cX6_node 114 = .ok (.athrow, 1) := by decide +kernel
theorem dX6_edge_0 : decode cX6_edge 0 = .ok (.aload_n 0, 1) := by decide +kernel
theorem dX6_edge_1 : decode cX6_edge 1 = .ok (.iload_n 1, 1) := by decide +kernel
theorem dX6_edge_2 : decode cX6_edge 2 = .ok (.invokevirtual 89, 3) := by decide +kernel
theorem dX6_edge_5 : decode cX6_edge 5 = .ok (.istore_n 3, 1) := by decide +kernel
theorem dX6_edge_6 : decode cX6_edge 6 = .ok (.iload_n 2, 1) := by decide +kernel
theorem dX6_edge_7 : decode cX6_edge 7 = .ok (.tableswitch 77 0 3 #[29, 41, 53, 65], 29) := by decide +kernel
theorem dX6_edge_36 : decode cX6_edge 36 = .ok (.aload_n 0, 1) := by decide +kernel
theorem dX6_edge_37 : decode cX6_edge 37 = .ok (.getfield 10, 3) := by decide +kernel
theorem dX6_edge_40 : decode cX6_edge 40 = .ok (.getfield 149, 3) := by decide +kernel
theorem dX6_edge_43 : decode cX6_edge 43 = .ok (.iload_n 3, 1) := by decide +kernel
theorem dX6_edge_44 : decode cX6_edge 44 = .ok (.invokevirtual 122, 3) := by decide +kernel
theorem dX6_edge_47 : decode cX6_edge 47 = .ok (.ireturn, 1) := by decide +kernel
theorem dX6_edge_48 : decode cX6_edge 48 = .ok (.aload_n 0, 1) := by decide +kernel
theorem dX6_edge_49 : decode cX6_edge 49 = .ok (.getfield 10, 3) := by decide +kernel
theorem dX6_edge_52 : decode cX6_edge 52 = .ok (.getfield 152, 3) := by decide +kernel
theorem dX6_edge_55 : decode cX6_edge 55 = .ok (.iload_n 3, 1) := by decide +kernel
theorem dX6_edge_56 : decode cX6_edge 56 = .ok (.invokevirtual 122, 3) := by decide +kernel
theorem dX6_edge_59 : decode cX6_edge 59 = .ok (.ireturn, 1) := by decide +kernel
theorem dX6_edge_60 : decode cX6_edge 60 = .ok (.aload_n 0, 1) := by decide +kernel
theorem dX6_edge_61 : decode cX6_edge 61 = .ok (.getfield 10, 3) := by decide +kernel
theorem dX6_edge_64 : decode cX6_edge 64 = .ok (.getfield 155, 3) := by decide +kernel
theorem dX6_edge_67 : decode cX6_edge 67 = .ok (.iload_n 3, 1) := by decide +kernel
theorem dX6_edge_68 : decode cX6_edge 68 = .ok (.invokevirtual 122, 3) := by decide +kernel
theorem dX6_edge_71 : decode cX6_edge 71 = .ok (.ireturn, 1) := by decide +kernel
theorem dX6_edge_72 : decode cX6_edge 72 = .ok (.aload_n 0, 1) := by decide +kernel
theorem dX6_edge_73 : decode cX6_edge 73 = .ok (.getfield 10, 3) := by decide +kernel
theorem dX6_edge_76 : decode cX6_edge 76 = .ok (.getfield 158, 3) := by decide +kernel
theorem dX6_edge_79 : decode cX6_edge 79 = .ok (.iload_n 3, 1) := by decide +kernel
theorem dX6_edge_80 : decode cX6_edge 80 = .ok (.invokevirtual 122, 3) := by decide +kernel
theorem dX6_edge_83 : decode cX6_edge 83 = .ok (.ireturn, 1) := by decide +kernel
theorem dX6_edge_84 : decode cX6_edge 84 = .ok (.new 47, 3) := by decide +kernel
theorem dX6_edge_87 : decode cX6_edge 87 = .ok (.dup, 1) := by decide +kernel
theorem dX6_edge_88 : decode cX6_edge 88 = .ok (.ldc 147, 2) := by decide +kernel
theorem dX6_edge_90 : decode cX6_edge 90 = .ok (.invokespecial 51, 3) := by decide +kernel
theorem dX6_edge_93 : decode cX6_edge 93 = .ok (.athrow, 1) := by decide +kernel
theorem dX6_edgeAt_0 : decode cX6_edgeAt 0 = .ok (.iload_n 1, 1) := by decide +kernel
theorem dX6_edgeAt_1 : decode cX6_edgeAt 1 = .ok (.ifCond .lt 14, 3) := by decide +kernel
theorem dX6_edgeAt_4 : decode cX6_edgeAt 4 = .ok (.iload_n 1, 1) := by decide +kernel
theorem dX6_edgeAt_5 : decode cX6_edgeAt 5 = .ok (.aload_n 0, 1) := by decide +kernel
theorem dX6_edgeAt_6 : decode cX6_edgeAt 6 = .ok (.getfield 10, 3) := by decide +kernel
theorem dX6_edgeAt_9 : decode cX6_edgeAt 9 = .ok (.getfield 54, 3) := by decide +kernel
theorem dX6_edgeAt_12 : decode cX6_edgeAt 12 = .ok (.if_icmp .lt 13, 3) := by decide +kernel
theorem dX6_edgeAt_15 : decode cX6_edgeAt 15 = .ok (.new 161, 3) := by decide +kernel
theorem dX6_edgeAt_18 : decode cX6_edgeAt 18 = .ok (.dup, 1) := by decide +kernel
theorem dX6_edgeAt_19 : decode cX6_edgeAt 19 = .ok (.ldc 163, 2) := by decide +kernel
theorem dX6_edgeAt_21 : decode cX6_edgeAt 21 = .ok (.invokespecial 165, 3) := by decide +kernel
theorem dX6_edgeAt_24 : decode cX6_edgeAt 24 = .ok (.athrow, 1) := by decide +kernel
theorem dX6_edgeAt_25 : decode cX6_edgeAt 25 = .ok (.aload_n 0, 1) := by decide +kernel
end
section
theorem dX6_edgeAt_26 : decode cX6_edgeAt 26 = .ok (.getfield 10, 3) := by decide +kernel
theorem dX6_edgeAt_29 : decode cX6_edgeAt 29 = .ok (.getfield 166, 3) := by decide +kernel
theorem dX6_edgeAt_32 : decode cX6_edgeAt 32 = .ok (.iload_n 1, 1) := by decide +kernel
theorem dX6_edgeAt_33 : decode cX6_edgeAt 33 = .ok (.invokevirtual 122, 3) := by decide +kernel
theorem dX6_edgeAt_36 : decode cX6_edgeAt 36 = .ok (.ireturn, 1) := by decide +kernel
theorem dX6_value_0 : decode cX6_value 0 = .ok (.iload_n 1, 1) := by decide +kernel
theorem dX6_value_1 : decode cX6_value 1 = .ok (.tableswitch 111 0 7 #[47, 55, 63, 71, 79, 87, 95, 103], 47) := by decide +kernel
theorem dX6_value_48 : decode cX6_value 48 = .ok (.aload_n 0, 1) := by decide +kernel
theorem dX6_value_49 : decode cX6_value 49 = .ok (.getfield 10, 3) := by decide +kernel
theorem dX6_value_52 : decode cX6_value 52 = .ok (.getfield 169, 3) := by decide +kernel
theorem dX6_value_55 : decode cX6_value 55 = .ok (.ireturn, 1) := by decide +kernel
theorem dX6_value_56 : decode cX6_value 56 = .ok (.aload_n 0, 1) := by decide +kernel
theorem dX6_value_57 : decode cX6_value 57 = .ok (.getfield 10, 3) := by decide +kernel
theorem dX6_value_60 : decode cX6_value 60 = .ok (.getfield 54, 3) := by decide +kernel
theorem dX6_value_63 : decode cX6_value 63 = .ok (.ireturn, 1) := by decide +kernel
theorem dX6_value_64 : decode cX6_value 64 = .ok (.aload_n 0, 1) := by decide +kernel
theorem dX6_value_65 : decode cX6_value 65 = .ok (.getfield 10, 3) := by decide +kernel
theorem dX6_value_68 : decode cX6_value 68 = .ok (.invokevirtual 172, 3) := by decide +kernel
theorem dX6_value_71 : decode cX6_value 71 = .ok (.ireturn, 1) := by decide +kernel
theorem dX6_value_72 : decode cX6_value 72 = .ok (.aload_n 0, 1) := by decide +kernel
theorem dX6_value_73 : decode cX6_value 73 = .ok (.getfield 10, 3) := by decide +kernel
theorem dX6_value_76 : decode cX6_value 76 = .ok (.invokevirtual 176, 3) := by decide +kernel
theorem dX6_value_79 : decode cX6_value 79 = .ok (.ireturn, 1) := by decide +kernel
theorem dX6_value_80 : decode cX6_value 80 = .ok (.aload_n 0, 1) := by decide +kernel
theorem dX6_value_81 : decode cX6_value 81 = .ok (.getfield 10, 3) := by decide +kernel
theorem dX6_value_84 : decode cX6_value 84 = .ok (.invokevirtual 179, 3) := by decide +kernel
theorem dX6_value_87 : decode cX6_value 87 = .ok (.ireturn, 1) := by decide +kernel
theorem dX6_value_88 : decode cX6_value 88 = .ok (.aload_n 0, 1) := by decide +kernel
theorem dX6_value_89 : decode cX6_value 89 = .ok (.getfield 10, 3) := by decide +kernel
theorem dX6_value_92 : decode cX6_value 92 = .ok (.getfield 182, 3) := by decide +kernel
theorem dX6_value_95 : decode cX6_value 95 = .ok (.ireturn, 1) := by decide +kernel
theorem dX6_value_96 : decode cX6_value 96 = .ok (.aload_n 0, 1) := by decide +kernel
theorem dX6_value_97 : decode cX6_value 97 = .ok (.getfield 10, 3) := by decide +kernel
theorem dX6_value_100 : decode cX6_value 100 = .ok (.getfield 185, 3) := by decide +kernel
theorem dX6_value_103 : decode cX6_value 103 = .ok (.ireturn, 1) := by decide +kernel
theorem dX6_value_104 : decode cX6_value 104 = .ok (.aload_n 0, 1) := by decide +kernel
theorem dX6_value_105 : decode cX6_value 105 = .ok (.getfield 10, 3) := by decide +kernel
theorem dX6_value_108 : decode cX6_value 108 = .ok (.invokevirtual 188, 3) := by decide +kernel
theorem dX6_value_111 : decode cX6_value 111 = .ok (.ireturn, 1) := by decide +kernel
theorem dX6_value_112 : decode cX6_value 112 = .ok (.new 47, 3) := by decide +kernel
theorem dX6_value_115 : decode cX6_value 115 = .ok (.dup, 1) := by decide +kernel
theorem dX6_value_116 : decode cX6_value 116 = .ok (.ldc 147, 2) := by decide +kernel
theorem dX6_value_118 : decode cX6_value 118 = .ok (.invokespecial 51, 3) := by decide +kernel
theorem dX6_value_121 : decode cX6_value 121 = .ok (.athrow, 1) := by decide +kernel
theorem dX6_path_0 : decode cX6_path 0 = .ok (.aload_n 0, 1) := by decide +kernel
theorem dX6_path_1 : decode cX6_path 1 = .ok (.iload_n 1, 1) := by decide +kernel
theorem dX6_path_2 : decode cX6_path 2 = .ok (.invokevirtual 69, 3) := by decide +kernel
theorem dX6_path_5 : decode cX6_path 5 = .ok (.aload_n 0, 1) := by decide +kernel
theorem dX6_path_6 : decode cX6_path 6 = .ok (.iload_n 2, 1) := by decide +kernel
theorem dX6_path_7 : decode cX6_path 7 = .ok (.invokevirtual 69, 3) := by decide +kernel
theorem dX6_path_10 : decode cX6_path 10 = .ok (.aload_n 0, 1) := by decide +kernel
theorem dX6_path_11 : decode cX6_path 11 = .ok (.getfield 22, 3) := by decide +kernel
theorem dX6_path_14 : decode cX6_path 14 = .ok (.aload_n 0, 1) := by decide +kernel
theorem dX6_path_15 : decode cX6_path 15 = .ok (.getfield 10, 3) := by decide +kernel
theorem dX6_path_18 : decode cX6_path 18 = .ok (.iload_n 1, 1) := by decide +kernel
theorem dX6_path_19 : decode cX6_path 19 = .ok (.invokevirtual 99, 3) := by decide +kernel
theorem dX6_path_22 : decode cX6_path 22 = .ok (.aload_n 0, 1) := by decide +kernel
theorem dX6_path_23 : decode cX6_path 23 = .ok (.getfield 22, 3) := by decide +kernel
theorem dX6_path_26 : decode cX6_path 26 = .ok (.iload_n 2, 1) := by decide +kernel
theorem dX6_path_27 : decode cX6_path 27 = .ok (.invokevirtual 191, 3) := by decide +kernel
theorem dX6_path_30 : decode cX6_path 30 = .ok (.ireturn, 1) := by decide +kernel
theorem dX6_step_0 : decode cX6_step 0 = .ok (.aload_n 0, 1) := by decide +kernel
theorem dX6_step_1 : decode cX6_step 1 = .ok (.iload_n 1, 1) := by decide +kernel
theorem dX6_step_2 : decode cX6_step 2 = .ok (.invokevirtual 69, 3) := by decide +kernel
theorem dX6_step_5 : decode cX6_step 5 = .ok (.aload_n 0, 1) := by decide +kernel
theorem dX6_step_6 : decode cX6_step 6 = .ok (.iload_n 2, 1) := by decide +kernel
theorem dX6_step_7 : decode cX6_step 7 = .ok (.invokevirtual 69, 3) := by decide +kernel
theorem dX6_step_10 : decode cX6_step 10 = .ok (.aload_n 0, 1) := by decide +kernel
theorem dX6_step_11 : decode cX6_step 11 = .ok (.getfield 22, 3) := by decide +kernel
theorem dX6_step_14 : decode cX6_step 14 = .ok (.aload_n 0, 1) := by decide +kernel
theorem dX6_step_15 : decode cX6_step 15 = .ok (.getfield 10, 3) := by decide +kernel
theorem dX6_step_18 : decode cX6_step 18 = .ok (.iload_n 1, 1) := by decide +kernel
theorem dX6_step_19 : decode cX6_step 19 = .ok (.invokevirtual 99, 3) := by decide +kernel
theorem dX6_step_22 : decode cX6_step 22 = .ok (.aload_n 0, 1) := by decide +kernel
theorem dX6_step_23 : decode cX6_step 23 = .ok (.getfield 22, 3) := by decide +kernel
theorem dX6_step_26 : decode cX6_step 26 = .ok (.iload_n 2, 1) := by decide +kernel
theorem dX6_step_27 : decode cX6_step 27 = .ok (.iload_n 3, 1) := by decide +kernel
theorem dX6_step_28 : decode cX6_step 28 = .ok (.invokevirtual 194, 3) := by decide +kernel
theorem dX6_step_31 : decode cX6_step 31 = .ok (.istore 4, 2) := by decide +kernel
theorem dX6_step_33 : decode cX6_step 33 = .ok (.iload 4, 2) := by decide +kernel
theorem dX6_step_35 : decode cX6_step 35 = .ok (.iconst (-1), 1) := by decide +kernel
theorem dX6_step_36 : decode cX6_step 36 = .ok (.if_icmp .ne 13, 3) := by decide +kernel
theorem dX6_step_39 : decode cX6_step 39 = .ok (.new 161, 3) := by decide +kernel
theorem dX6_step_42 : decode cX6_step 42 = .ok (.dup, 1) := by decide +kernel
theorem dX6_step_43 : decode cX6_step 43 = .ok (.ldc 197, 2) := by decide +kernel
theorem dX6_step_45 : decode cX6_step 45 = .ok (.invokespecial 165, 3) := by decide +kernel
theorem dX6_step_48 : decode cX6_step 48 = .ok (.athrow, 1) := by decide +kernel
theorem dX6_step_49 : decode cX6_step 49 = .ok (.aload_n 0, 1) := by decide +kernel
theorem dX6_step_50 : decode cX6_step 50 = .ok (.getfield 10, 3) := by decide +kernel
theorem dX6_step_53 : decode cX6_step 53 = .ok (.getfield 166, 3) := by decide +kernel
theorem dX6_step_56 : decode cX6_step 56 = .ok (.iload 4, 2) := by decide +kernel
theorem dX6_step_58 : decode cX6_step 58 = .ok (.invokevirtual 122, 3) := by decide +kernel
theorem dX6_step_61 : decode cX6_step 61 = .ok (.ireturn, 1) := by decide +kernel
theorem dX6_inner_0 : decode cX6_inner 0 = .ok (.iload_n 1, 1) := by decide +kernel
theorem dX6_inner_1 : decode cX6_inner 1 = .ok (.ifCond .le 16, 3) := by decide +kernel
theorem dX6_inner_4 : decode cX6_inner 4 = .ok (.iload_n 1, 1) := by decide +kernel
theorem dX6_inner_5 : decode cX6_inner 5 = .ok (.iconst 1, 1) := by decide +kernel
theorem dX6_inner_6 : decode cX6_inner 6 = .ok (.aload_n 0, 1) := by decide +kernel
theorem dX6_inner_7 : decode cX6_inner 7 = .ok (.getfield 10, 3) := by decide +kernel
theorem dX6_inner_10 : decode cX6_inner 10 = .ok (.getfield 169, 3) := by decide +kernel
theorem dX6_inner_13 : decode cX6_inner 13 = .ok (.ishl, 1) := by decide +kernel
theorem dX6_inner_14 : decode cX6_inner 14 = .ok (.if_icmp .lt 13, 3) := by decide +kernel
theorem dX6_inner_17 : decode cX6_inner 17 = .ok (.new 47, 3) := by decide +kernel
theorem dX6_inner_20 : decode cX6_inner 20 = .ok (.dup, 1) := by decide +kernel
theorem dX6_inner_21 : decode cX6_inner 21 = .ok (.ldc 199, 2) := by decide +kernel
theorem dX6_inner_23 : decode cX6_inner 23 = .ok (.invokespecial 51, 3) := by decide +kernel
theorem dX6_inner_26 : decode cX6_inner 26 = .ok (.athrow, 1) := by decide +kernel
theorem dX6_inner_27 : decode cX6_inner 27 = .ok (.aload_n 0, 1) := by decide +kernel
theorem dX6_inner_28 : decode cX6_inner 28 = .ok (.getfield 10, 3) := by decide +kernel
theorem dX6_inner_31 : decode cX6_inner 31 = .ok (.iload_n 1, 1) := by decide +kernel
theorem dX6_inner_32 : decode cX6_inner 32 = .ok (.invokevirtual 201, 3) := by decide +kernel
theorem dX6_inner_35 : decode cX6_inner 35 = .ok (.ireturn, 1) := by decide +kernel
theorem dX6_densest_0 : decode cX6_densest 0 = .ok (.aload_n 0, 1) := by decide +kernel
theorem dX6_densest_1 : decode cX6_densest 1 = .ok (.getfield 29, 3) := by decide +kernel
theorem dX6_densest_4 : decode cX6_densest 4 = .ok (.aload_n 0, 1) := by decide +kernel
theorem dX6_densest_5 : decode cX6_densest 5 = .ok (.getfield 10, 3) := by decide +kernel
theorem dX6_densest_8 : decode cX6_densest 8 = .ok (.invokevirtual 204, 3) := by decide +kernel
theorem dX6_densest_11 : decode cX6_densest 11 = .ok (.aload_n 0, 1) := by decide +kernel
theorem dX6_densest_12 : decode cX6_densest 12 = .ok (.getfield 29, 3) := by decide +kernel
theorem dX6_densest_15 : decode cX6_densest 15 = .ok (.getfield 207, 3) := by decide +kernel
theorem dX6_densest_18 : decode cX6_densest 18 = .ok (.ireturn, 1) := by decide +kernel
theorem dX6_least_0 : decode cX6_least 0 = .ok (.aload_n 0, 1) := by decide +kernel
theorem dX6_least_1 : decode cX6_least 1 = .ok (.getfield 29, 3) := by decide +kernel
theorem dX6_least_4 : decode cX6_least 4 = .ok (.aload_n 0, 1) := by decide +kernel
theorem dX6_least_5 : decode cX6_least 5 = .ok (.getfield 10, 3) := by decide +kernel
theorem dX6_least_8 : decode cX6_least 8 = .ok (.invokevirtual 204, 3) := by decide +kernel
theorem dX6_least_11 : decode cX6_least 11 = .ok (.aload_n 0, 1) := by decide +kernel
theorem dX6_least_12 : decode cX6_least 12 = .ok (.getfield 29, 3) := by decide +kernel
theorem dX6_least_15 : decode cX6_least 15 = .ok (.getfield 210, 3) := by decide +kernel
theorem dX6_least_18 : decode cX6_least 18 = .ok (.ireturn, 1) := by decide +kernel
theorem dX6_tooDense_0 : decode cX6_tooDense 0 = .ok (.aload_n 0, 1) := by decide +kernel
theorem dX6_tooDense_1 : decode cX6_tooDense 1 = .ok (.getfield 29, 3) := by decide +kernel
theorem dX6_tooDense_4 : decode cX6_tooDense 4 = .ok (.aload_n 0, 1) := by decide +kernel
theorem dX6_tooDense_5 : decode cX6_tooDense 5 = .ok (.getfield 10, 3) := by decide +kernel
theorem dX6_tooDense_8 : decode cX6_tooDense 8 = .ok (.invokevirtual 204, 3) := by decide +kernel
theorem dX6_tooDense_11 : decode cX6_tooDense 11 = .ok (.aload_n 0, 1) := by decide +kernel
theorem dX6_tooDense_12 : decode cX6_tooDense 12 = .ok (.getfield 29, 3) := by decide +kernel
theorem dX6_tooDense_15 : decode cX6_tooDense 15 = .ok (.aload_n 0, 1) := by decide +kernel
theorem dX6_tooDense_16 : decode cX6_tooDense 16 = .ok (.getfield 10, 3) := by decide +kernel
theorem dX6_tooDense_19 : decode cX6_tooDense 19 = .ok (.getfield 118, 3) := by decide +kernel
theorem dX6_tooDense_22 : decode cX6_tooDense 22 = .ok (.aload_n 0, 1) := by decide +kernel
theorem dX6_tooDense_23 : decode cX6_tooDense 23 = .ok (.getfield 10, 3) := by decide +kernel
theorem dX6_tooDense_26 : decode cX6_tooDense 26 = .ok (.getfield 169, 3) := by decide +kernel
theorem dX6_tooDense_29 : decode cX6_tooDense 29 = .ok (.invokevirtual 212, 3) := by decide +kernel
theorem dX6_tooDense_32 : decode cX6_tooDense 32 = .ok (.ireturn, 1) := by decide +kernel
theorem dX6_leastWith_0 : decode cX6_leastWith 0 = .ok (.aload_n 0, 1) := by decide +kernel
theorem dX6_leastWith_1 : decode cX6_leastWith 1 = .ok (.iload_n 1, 1) := by decide +kernel
theorem dX6_leastWith_2 : decode cX6_leastWith 2 = .ok (.invokevirtual 69, 3) := by decide +kernel
theorem dX6_leastWith_5 : decode cX6_leastWith 5 = .ok (.aload_n 0, 1) := by decide +kernel
theorem dX6_leastWith_6 : decode cX6_leastWith 6 = .ok (.iload_n 2, 1) := by decide +kernel
theorem dX6_leastWith_7 : decode cX6_leastWith 7 = .ok (.invokevirtual 69, 3) := by decide +kernel
theorem dX6_leastWith_10 : decode cX6_leastWith 10 = .ok (.iload_n 1, 1) := by decide +kernel
theorem dX6_leastWith_11 : decode cX6_leastWith 11 = .ok (.iload_n 2, 1) := by decide +kernel
theorem dX6_leastWith_12 : decode cX6_leastWith 12 = .ok (.invokestatic 72, 3) := by decide +kernel
theorem dX6_leastWith_15 : decode cX6_leastWith 15 = .ok (.aload_n 0, 1) := by decide +kernel
theorem dX6_leastWith_16 : decode cX6_leastWith 16 = .ok (.getfield 29, 3) := by decide +kernel
theorem dX6_leastWith_19 : decode cX6_leastWith 19 = .ok (.aload_n 0, 1) := by decide +kernel
theorem dX6_leastWith_20 : decode cX6_leastWith 20 = .ok (.getfield 10, 3) := by decide +kernel
theorem dX6_leastWith_23 : decode cX6_leastWith 23 = .ok (.invokevirtual 204, 3) := by decide +kernel
theorem dX6_leastWith_26 : decode cX6_leastWith 26 = .ok (.aload_n 0, 1) := by decide +kernel
theorem dX6_leastWith_27 : decode cX6_leastWith 27 = .ok (.getfield 29, 3) := by decide +kernel
theorem dX6_leastWith_30 : decode cX6_leastWith 30 = .ok (.iconst 1, 1) := by decide +kernel
theorem dX6_leastWith_31 : decode cX6_leastWith 31 = .ok (.iload_n 1, 1) := by decide +kernel
theorem dX6_leastWith_32 : decode cX6_leastWith 32 = .ok (.ishl, 1) := by decide +kernel
theorem dX6_leastWith_33 : decode cX6_leastWith 33 = .ok (.iconst 1, 1) := by decide +kernel
theorem dX6_leastWith_34 : decode cX6_leastWith 34 = .ok (.iload_n 2, 1) := by decide +kernel
theorem dX6_leastWith_35 : decode cX6_leastWith 35 = .ok (.ishl, 1) := by decide +kernel
theorem dX6_leastWith_36 : decode cX6_leastWith 36 = .ok (.ior, 1) := by decide +kernel
theorem dX6_leastWith_37 : decode cX6_leastWith 37 = .ok (.iconst 1, 1) := by decide +kernel
theorem dX6_leastWith_38 : decode cX6_leastWith 38 = .ok (.invokevirtual 216, 3) := by decide +kernel
theorem dX6_leastWith_41 : decode cX6_leastWith 41 = .ok (.ireturn, 1) := by decide +kernel
theorem dX6_leastWithout_0 : decode cX6_leastWithout 0 = .ok (.aload_n 0, 1) := by decide +kernel
theorem dX6_leastWithout_1 : decode cX6_leastWithout 1 = .ok (.iload_n 1, 1) := by decide +kernel
theorem dX6_leastWithout_2 : decode cX6_leastWithout 2 = .ok (.invokevirtual 89, 3) := by decide +kernel
theorem dX6_leastWithout_5 : decode cX6_leastWithout 5 = .ok (.istore_n 2, 1) := by decide +kernel
theorem dX6_leastWithout_6 : decode cX6_leastWithout 6 = .ok (.aload_n 0, 1) := by decide +kernel
theorem dX6_leastWithout_7 : decode cX6_leastWithout 7 = .ok (.getfield 29, 3) := by decide +kernel
theorem dX6_leastWithout_10 : decode cX6_leastWithout 10 = .ok (.aload_n 0, 1) := by decide +kernel
theorem dX6_leastWithout_11 : decode cX6_leastWithout 11 = .ok (.getfield 10, 3) := by decide +kernel
theorem dX6_leastWithout_14 : decode cX6_leastWithout 14 = .ok (.invokevirtual 204, 3) := by decide +kernel
theorem dX6_leastWithout_17 : decode cX6_leastWithout 17 = .ok (.aload_n 0, 1) := by decide +kernel
theorem dX6_leastWithout_18 : decode cX6_leastWithout 18 = .ok (.getfield 29, 3) := by decide +kernel
theorem dX6_leastWithout_21 : decode cX6_leastWithout 21 = .ok (.aload_n 0, 1) := by decide +kernel
theorem dX6_leastWithout_22 : decode cX6_leastWithout 22 = .ok (.getfield 10, 3) := by decide +kernel
theorem dX6_leastWithout_25 : decode cX6_leastWithout 25 = .ok (.iload_n 2, 1) := by decide +kernel
theorem dX6_leastWithout_26 : decode cX6_leastWithout 26 = .ok (.invokevirtual 219, 3) := by decide +kernel
theorem dX6_leastWithout_29 : decode cX6_leastWithout 29 = .ok (.iconst (-1), 1) := by decide +kernel
theorem dX6_leastWithout_30 : decode cX6_leastWithout 30 = .ok (.invokevirtual 216, 3) := by decide +kernel
theorem dX6_leastWithout_33 : decode cX6_leastWithout 33 = .ok (.ireturn, 1) := by decide +kernel
theorem dX6_critical_0 : decode cX6_critical 0 = .ok (.aload_n 0, 1) := by decide +kernel
theorem dX6_critical_1 : decode cX6_critical 1 = .ok (.getfield 29, 3) := by decide +kernel
theorem dX6_critical_4 : decode cX6_critical 4 = .ok (.aload_n 0, 1) := by decide +kernel
theorem dX6_critical_5 : decode cX6_critical 5 = .ok (.getfield 10, 3) := by decide +kernel
theorem dX6_critical_8 : decode cX6_critical 8 = .ok (.invokevirtual 204, 3) := by decide +kernel
theorem dX6_critical_11 : decode cX6_critical 11 = .ok (.aload_n 0, 1) := by decide +kernel
theorem dX6_critical_12 : decode cX6_critical 12 = .ok (.getfield 10, 3) := by decide +kernel
theorem dX6_critical_15 : decode cX6_critical 15 = .ok (.aload_n 0, 1) := by decide +kernel
theorem dX6_critical_16 : decode cX6_critical 16 = .ok (.getfield 29, 3) := by decide +kernel
theorem dX6_critical_19 : decode cX6_critical 19 = .ok (.invokevirtual 222, 3) := by decide +kernel
theorem dX6_critical_22 : decode cX6_critical 22 = .ok (.invokevirtual 225, 3) := by decide +kernel
theorem dX6_critical_25 : decode cX6_critical 25 = .ok (.istore_n 1, 1) := by decide +kernel
theorem dX6_critical_26 : decode cX6_critical 26 = .ok (.iload_n 1, 1) := by decide +kernel
theorem dX6_critical_27 : decode cX6_critical 27 = .ok (.iconst (-1), 1) := by decide +kernel
theorem dX6_critical_28 : decode cX6_critical 28 = .ok (.if_icmp .ne 7, 3) := by decide +kernel
theorem dX6_critical_31 : decode cX6_critical 31 = .ok (.iconst (-1), 1) := by decide +kernel
theorem dX6_critical_32 : decode cX6_critical 32 = .ok (.goto 14, 3) := by decide +kernel
theorem dX6_critical_35 : decode cX6_critical 35 = .ok (.aload_n 0, 1) := by decide +kernel
theorem dX6_critical_36 : decode cX6_critical 36 = .ok (.getfield 10, 3) := by decide +kernel
theorem dX6_critical_39 : decode cX6_critical 39 = .ok (.getfield 166, 3) := by decide +kernel
theorem dX6_critical_42 : decode cX6_critical 42 = .ok (.iload_n 1, 1) := by decide +kernel
theorem dX6_critical_43 : decode cX6_critical 43 = .ok (.invokevirtual 122, 3) := by decide +kernel
theorem dX6_critical_46 : decode cX6_critical 46 = .ok (.ireturn, 1) := by decide +kernel
theorem dX6_turnsToBalance_0 : decode cX6_turnsToBalance 0 = .ok (.aload_n 0, 1) := by decide +kernel
theorem dX6_turnsToBalance_1 : decode cX6_turnsToBalance 1 = .ok (.getfield 16, 3) := by decide +kernel
theorem dX6_turnsToBalance_4 : decode cX6_turnsToBalance 4 = .ok (.aload_n 0, 1) := by decide +kernel
theorem dX6_turnsToBalance_5 : decode cX6_turnsToBalance 5 = .ok (.getfield 10, 3) := by decide +kernel
theorem dX6_turnsToBalance_8 : decode cX6_turnsToBalance 8 = .ok (.invokevirtual 228, 3) := by decide +kernel
theorem dX6_turnsToBalance_11 : decode cX6_turnsToBalance 11 = .ok (.aload_n 0, 1) := by decide +kernel
theorem dX6_turnsToBalance_12 : decode cX6_turnsToBalance 12 = .ok (.getfield 22, 3) := by decide +kernel
theorem dX6_turnsToBalance_15 : decode cX6_turnsToBalance 15 = .ok (.aload_n 0, 1) := by decide +kernel
theorem dX6_turnsToBalance_16 : decode cX6_turnsToBalance 16 = .ok (.getfield 16, 3) := by decide +kernel
theorem dX6_turnsToBalance_19 : decode cX6_turnsToBalance 19 = .ok (.invokevirtual 113, 3) := by decide +kernel
theorem dX6_turnsToBalance_22 : decode cX6_turnsToBalance 22 = .ok (.pop, 1) := by decide +kernel
theorem dX6_turnsToBalance_23 : decode cX6_turnsToBalance 23 = .ok (.aload_n 0, 1) := by decide +kernel
theorem dX6_turnsToBalance_24 : decode cX6_turnsToBalance 24 = .ok (.getfield 16, 3) := by decide +kernel
theorem dX6_turnsToBalance_27 : decode cX6_turnsToBalance 27 = .ok (.getfield 182, 3) := by decide +kernel
theorem dX6_turnsToBalance_30 : decode cX6_turnsToBalance 30 = .ok (.aload_n 0, 1) := by decide +kernel
theorem dX6_turnsToBalance_31 : decode cX6_turnsToBalance 31 = .ok (.getfield 10, 3) := by decide +kernel
theorem dX6_turnsToBalance_34 : decode cX6_turnsToBalance 34 = .ok (.getfield 182, 3) := by decide +kernel
theorem dX6_turnsToBalance_37 : decode cX6_turnsToBalance 37 = .ok (.isub, 1) := by decide +kernel
theorem dX6_turnsToBalance_38 : decode cX6_turnsToBalance 38 = .ok (.ireturn, 1) := by decide +kernel
theorem dX6_leastCapacity_0 : decode cX6_leastCapacity 0 = .ok (.aload_n 0, 1) := by decide +kernel
theorem dX6_leastCapacity_1 : decode cX6_leastCapacity 1 = .ok (.getfield 29, 3) := by decide +kernel
theorem dX6_leastCapacity_4 : decode cX6_leastCapacity 4 = .ok (.aload_n 0, 1) := by decide +kernel
theorem dX6_leastCapacity_5 : decode cX6_leastCapacity 5 = .ok (.getfield 10, 3) := by decide +kernel
theorem dX6_leastCapacity_8 : decode cX6_leastCapacity 8 = .ok (.invokevirtual 204, 3) := by decide +kernel
theorem dX6_leastCapacity_11 : decode cX6_leastCapacity 11 = .ok (.aload_n 0, 1) := by decide +kernel
theorem dX6_leastCapacity_12 : decode cX6_leastCapacity 12 = .ok (.getfield 29, 3) := by decide +kernel
theorem dX6_leastCapacity_15 : decode cX6_leastCapacity 15 = .ok (.getfield 210, 3) := by decide +kernel
theorem dX6_leastCapacity_18 : decode cX6_leastCapacity 18 = .ok (.ireturn, 1) := by decide +kernel
theorem dX6_density_0 : decode cX6_density 0 = .ok (.aload_n 0, 1) := by decide +kernel
theorem dX6_density_1 : decode cX6_density 1 = .ok (.getfield 29, 3) := by decide +kernel
theorem dX6_density_4 : decode cX6_density 4 = .ok (.aload_n 0, 1) := by decide +kernel
theorem dX6_density_5 : decode cX6_density 5 = .ok (.getfield 10, 3) := by decide +kernel
theorem dX6_density_8 : decode cX6_density 8 = .ok (.invokevirtual 204, 3) := by decide +kernel
theorem dX6_density_11 : decode cX6_density 11 = .ok (.aload_n 0, 1) := by decide +kernel
theorem dX6_density_12 : decode cX6_density 12 = .ok (.getfield 29, 3) := by decide +kernel
theorem dX6_density_15 : decode cX6_density 15 = .ok (.getfield 207, 3) := by decide +kernel
theorem dX6_density_18 : decode cX6_density 18 = .ok (.invokestatic 139, 3) := by decide +kernel
theorem dX6_density_21 : decode cX6_density 21 = .ok (.istore_n 1, 1) := by decide +kernel
theorem dX6_density_22 : decode cX6_density 22 = .ok (.iload_n 1, 1) := by decide +kernel
theorem dX6_density_23 : decode cX6_density 23 = .ok (.iconst 1, 1) := by decide +kernel
theorem dX6_density_24 : decode cX6_density 24 = .ok (.if_icmp .ge 5, 3) := by decide +kernel
theorem dX6_density_27 : decode cX6_density 27 = .ok (.dconst 0, 1) := by decide +kernel
theorem dX6_density_28 : decode cX6_density 28 = .ok (.dreturn, 1) := by decide +kernel
theorem dX6_density_29 : decode cX6_density 29 = .ok (.aload_n 0, 1) := by decide +kernel
theorem dX6_density_30 : decode cX6_density 30 = .ok (.getfield 10, 3) := by decide +kernel
theorem dX6_density_33 : decode cX6_density 33 = .ok (.aload_n 0, 1) := by decide +kernel
theorem dX6_density_34 : decode cX6_density 34 = .ok (.getfield 29, 3) := by decide +kernel
theorem dX6_density_37 : decode cX6_density 37 = .ok (.getfield 207, 3) := by decide +kernel
theorem dX6_density_40 : decode cX6_density 40 = .ok (.invokevirtual 201, 3) := by decide +kernel
theorem dX6_density_43 : decode cX6_density 43 = .ok (.i2d, 1) := by decide +kernel
theorem dX6_density_44 : decode cX6_density 44 = .ok (.iload_n 1, 1) := by decide +kernel
theorem dX6_density_45 : decode cX6_density 45 = .ok (.i2d, 1) := by decide +kernel
theorem dX6_density_46 : decode cX6_density 46 = .ok (.ddiv, 1) := by decide +kernel
theorem dX6_density_47 : decode cX6_density 47 = .ok (.dreturn, 1) := by decide +kernel
theorem dX6_append_0 : decode cX6_append 0 = .ok (.iload_n 1, 1) := by decide +kernel
theorem dX6_append_1 : decode cX6_append 1 = .ok (.ifCond .lt 9, 3) := by decide +kernel
theorem dX6_append_4 : decode cX6_append 4 = .ok (.iload_n 1, 1) := by decide +kernel
theorem dX6_append_5 : decode cX6_append 5 = .ok (.bipush 127, 2) := by decide +kernel
theorem dX6_append_7 : decode cX6_append 7 = .ok (.if_icmp .le 13, 3) := by decide +kernel
theorem dX6_append_10 : decode cX6_append 10 = .ok (.new 47, 3) := by decide +kernel
theorem dX6_append_13 : decode cX6_append 13 = .ok (.dup, 1) := by decide +kernel
theorem dX6_append_14 : decode cX6_append 14 = .ok (.ldc 231, 2) := by decide +kernel
theorem dX6_append_16 : decode cX6_append 16 = .ok (.invokespecial 51, 3) := by decide +kernel
theorem dX6_append_19 : decode cX6_append 19 = .ok (.athrow, 1) := by decide +kernel
theorem dX6_append_20 : decode cX6_append 20 = .ok (.aload_n 0, 1) := by decide +kernel
theorem dX6_append_21 : decode cX6_append 21 = .ok (.getfield 36, 3) := by decide +kernel
theorem dX6_append_24 : decode cX6_append 24 = .ok (.getfield 233, 3) := by decide +kernel
theorem dX6_append_27 : decode cX6_append 27 = .ok (.bipush 100, 2) := by decide +kernel
theorem dX6_append_29 : decode cX6_append 29 = .ok (.if_icmp .lt 13, 3) := by decide +kernel
theorem dX6_append_32 : decode cX6_append 32 = .ok (.new 80, 3) := by decide +kernel
theorem dX6_append_35 : decode cX6_append 35 = .ok (.dup, 1) := by decide +kernel
theorem dX6_append_36 : decode cX6_append 36 = .ok (.ldc 236, 2) := by decide +kernel
theorem dX6_append_38 : decode cX6_append 38 = .ok (.invokespecial 84, 3) := by decide +kernel
theorem dX6_append_41 : decode cX6_append 41 = .ok (.athrow, 1) := by decide +kernel
theorem dX6_append_42 : decode cX6_append 42 = .ok (.aload_n 0, 1) := by decide +kernel
theorem dX6_append_43 : decode cX6_append 43 = .ok (.getfield 36, 3) := by decide +kernel
theorem dX6_append_46 : decode cX6_append 46 = .ok (.iload_n 1, 1) := by decide +kernel
theorem dX6_append_47 : decode cX6_append 47 = .ok (.invokevirtual 238, 3) := by decide +kernel
theorem dX6_append_50 : decode cX6_append 50 = .ok (.ireturn, 1) := by decide +kernel
theorem dX6_clearText_0 : decode cX6_clearText 0 = .ok (.aload_n 0, 1) := by decide +kernel
theorem dX6_clearText_1 : decode cX6_clearText 1 = .ok (.getfield 36, 3) := by decide +kernel
theorem dX6_clearText_4 : decode cX6_clearText 4 = .ok (.invokevirtual 241, 3) := by decide +kernel
theorem dX6_clearText_7 : decode cX6_clearText 7 = .ok (.ireturn, 1) := by decide +kernel
theorem dX6_carryOut_0 : decode cX6_carryOut 0 = .ok (.aload_n 0, 1) := by decide +kernel
theorem dX6_carryOut_1 : decode cX6_carryOut 1 = .ok (.getfield 36, 3) := by decide +kernel
theorem dX6_carryOut_4 : decode cX6_carryOut 4 = .ok (.invokevirtual 244, 3) := by decide +kernel
theorem dX6_carryOut_7 : decode cX6_carryOut 7 = .ok (.istore_n 1, 1) := by decide +kernel
theorem dX6_carryOut_8 : decode cX6_carryOut 8 = .ok (.iload_n 1, 1) := by decide +kernel
theorem dX6_carryOut_9 : decode cX6_carryOut 9 = .ok (.iconst (-1), 1) := by decide +kernel
theorem dX6_carryOut_10 : decode cX6_carryOut 10 = .ok (.if_icmp .eq 8, 3) := by decide +kernel
theorem dX6_carryOut_13 : decode cX6_carryOut 13 = .ok (.bipush (-10), 2) := by decide +kernel
theorem dX6_carryOut_15 : decode cX6_carryOut 15 = .ok (.iload_n 1, 1) := by decide +kernel
theorem dX6_carryOut_16 : decode cX6_carryOut 16 = .ok (.isub, 1) := by decide +kernel
theorem dX6_carryOut_17 : decode cX6_carryOut 17 = .ok (.ireturn, 1) := by decide +kernel
theorem dX6_carryOut_18 : decode cX6_carryOut 18 = .ok (.aload_n 0, 1) := by decide +kernel
theorem dX6_carryOut_19 : decode cX6_carryOut 19 = .ok (.getfield 43, 3) := by decide +kernel
theorem dX6_carryOut_22 : decode cX6_carryOut 22 = .ok (.aload_n 0, 1) := by decide +kernel
theorem dX6_carryOut_23 : decode cX6_carryOut 23 = .ok (.getfield 10, 3) := by decide +kernel
theorem dX6_carryOut_26 : decode cX6_carryOut 26 = .ok (.invokevirtual 58, 3) := by decide +kernel
theorem dX6_carryOut_29 : decode cX6_carryOut 29 = .ok (.aload_n 0, 1) := by decide +kernel
theorem dX6_carryOut_30 : decode cX6_carryOut 30 = .ok (.getfield 29, 3) := by decide +kernel
theorem dX6_carryOut_33 : decode cX6_carryOut 33 = .ok (.invokevirtual 66, 3) := by decide +kernel
theorem dX6_carryOut_36 : decode cX6_carryOut 36 = .ok (.aload_n 0, 1) := by decide +kernel
theorem dX6_carryOut_37 : decode cX6_carryOut 37 = .ok (.getfield 36, 3) := by decide +kernel
theorem dX6_carryOut_40 : decode cX6_carryOut 40 = .ok (.invokevirtual 247, 3) := by decide +kernel
theorem dX6_carryOut_43 : decode cX6_carryOut 43 = .ok (.iconst 0, 1) := by decide +kernel
theorem dX6_carryOut_44 : decode cX6_carryOut 44 = .ok (.istore_n 2, 1) := by decide +kernel
theorem dX6_carryOut_45 : decode cX6_carryOut 45 = .ok (.iload_n 2, 1) := by decide +kernel
theorem dX6_carryOut_46 : decode cX6_carryOut 46 = .ok (.bipush 100, 2) := by decide +kernel
theorem dX6_carryOut_48 : decode cX6_carryOut 48 = .ok (.if_icmp .ge 26, 3) := by decide +kernel
theorem dX6_carryOut_51 : decode cX6_carryOut 51 = .ok (.aload_n 0, 1) := by decide +kernel
theorem dX6_carryOut_52 : decode cX6_carryOut 52 = .ok (.getfield 36, 3) := by decide +kernel
theorem dX6_carryOut_55 : decode cX6_carryOut 55 = .ok (.invokevirtual 250, 3) := by decide +kernel
theorem dX6_carryOut_58 : decode cX6_carryOut 58 = .ok (.ifCond .eq 16, 3) := by decide +kernel
theorem dX6_carryOut_61 : decode cX6_carryOut 61 = .ok (.aload_n 0, 1) := by decide +kernel
theorem dX6_carryOut_62 : decode cX6_carryOut 62 = .ok (.invokevirtual 253, 3) := by decide +kernel
theorem dX6_carryOut_65 : decode cX6_carryOut 65 = .ok (.ifCond .eq 9, 3) := by decide +kernel
theorem dX6_carryOut_68 : decode cX6_carryOut 68 = .ok (.iinc 2 1, 3) := by decide +kernel
theorem dX6_carryOut_71 : decode cX6_carryOut 71 = .ok (.goto (-26), 3) := by decide +kernel
theorem dX6_carryOut_74 : decode cX6_carryOut 74 = .ok (.iload_n 2, 1) := by decide +kernel
theorem dX6_carryOut_75 : decode cX6_carryOut 75 = .ok (.ireturn, 1) := by decide +kernel
theorem dX6_undo_0 : decode cX6_undo 0 = .ok (.aload_n 0, 1) := by decide +kernel
theorem dX6_undo_1 : decode cX6_undo 1 = .ok (.getfield 43, 3) := by decide +kernel
theorem dX6_undo_4 : decode cX6_undo 4 = .ok (.getfield 256, 3) := by decide +kernel
theorem dX6_undo_7 : decode cX6_undo 7 = .ok (.ifCond .ne 14, 3) := by decide +kernel
theorem dX6_undo_10 : decode cX6_undo 10 = .ok (.new 80, 3) := by decide +kernel
theorem dX6_undo_13 : decode cX6_undo 13 = .ok (.dup, 1) := by decide +kernel
theorem dX6_undo_14 : decode cX6_undo 14 = .ok (.ldc_w 259, 3) := by decide +kernel
theorem dX6_undo_17 : decode cX6_undo 17 = .ok (.invokespecial 84, 3) := by decide +kernel
theorem dX6_undo_20 : decode cX6_undo 20 = .ok (.athrow, 1) := by decide +kernel
theorem dX6_undo_21 : decode cX6_undo 21 = .ok (.aload_n 0, 1) := by decide +kernel
theorem dX6_undo_22 : decode cX6_undo 22 = .ok (.getfield 43, 3) := by decide +kernel
theorem dX6_undo_25 : decode cX6_undo 25 = .ok (.aload_n 0, 1) := by decide +kernel
theorem dX6_undo_26 : decode cX6_undo 26 = .ok (.getfield 10, 3) := by decide +kernel
theorem dX6_undo_29 : decode cX6_undo 29 = .ok (.invokevirtual 261, 3) := by decide +kernel
theorem dX6_undo_32 : decode cX6_undo 32 = .ok (.aload_n 0, 1) := by decide +kernel
theorem dX6_undo_33 : decode cX6_undo 33 = .ok (.getfield 29, 3) := by decide +kernel
theorem dX6_undo_36 : decode cX6_undo 36 = .ok (.invokevirtual 66, 3) := by decide +kernel
theorem dX6_undo_39 : decode cX6_undo 39 = .ok (.aload_n 0, 1) := by decide +kernel
theorem dX6_undo_40 : decode cX6_undo 40 = .ok (.getfield 43, 3) := by decide +kernel
theorem dX6_undo_43 : decode cX6_undo 43 = .ok (.getfield 256, 3) := by decide +kernel
theorem dX6_undo_46 : decode cX6_undo 46 = .ok (.ireturn, 1) := by decide +kernel
theorem dX6_digest_0 : decode cX6_digest 0 = .ok (.ldc2_w 264, 3) := by decide +kernel
theorem dX6_digest_3 : decode cX6_digest 3 = .ok (.aload_n 0, 1) := by decide +kernel
theorem dX6_digest_4 : decode cX6_digest 4 = .ok (.getfield 36, 3) := by decide +kernel
theorem dX6_digest_7 : decode cX6_digest 7 = .ok (.getfield 233, 3) := by decide +kernel
theorem dX6_digest_10 : decode cX6_digest 10 = .ok (.i2l, 1) := by decide +kernel
theorem dX6_digest_11 : decode cX6_digest 11 = .ok (.invokestatic 266, 3) := by decide +kernel
theorem dX6_digest_14 : decode cX6_digest 14 = .ok (.lstore_n 1, 1) := by decide +kernel
theorem dX6_digest_15 : decode cX6_digest 15 = .ok (.iconst 0, 1) := by decide +kernel
theorem dX6_digest_16 : decode cX6_digest 16 = .ok (.istore_n 3, 1) := by decide +kernel
theorem dX6_digest_17 : decode cX6_digest 17 = .ok (.iload_n 3, 1) := by decide +kernel
theorem dX6_digest_18 : decode cX6_digest 18 = .ok (.bipush 8, 2) := by decide +kernel
theorem dX6_digest_20 : decode cX6_digest 20 = .ok (.if_icmp .ge 20, 3) := by decide +kernel
theorem dX6_digest_23 : decode cX6_digest 23 = .ok (.lload_n 1, 1) := by decide +kernel
theorem dX6_digest_24 : decode cX6_digest 24 = .ok (.aload_n 0, 1) := by decide +kernel
theorem dX6_digest_25 : decode cX6_digest 25 = .ok (.iload_n 3, 1) := by decide +kernel
theorem dX6_digest_26 : decode cX6_digest 26 = .ok (.invokevirtual 270, 3) := by decide +kernel
theorem dX6_digest_29 : decode cX6_digest 29 = .ok (.i2l, 1) := by decide +kernel
theorem dX6_digest_30 : decode cX6_digest 30 = .ok (.invokestatic 266, 3) := by decide +kernel
theorem dX6_digest_33 : decode cX6_digest 33 = .ok (.lstore_n 1, 1) := by decide +kernel
theorem dX6_digest_34 : decode cX6_digest 34 = .ok (.iinc 3 1, 3) := by decide +kernel
theorem dX6_digest_37 : decode cX6_digest 37 = .ok (.goto (-20), 3) := by decide +kernel
theorem dX6_digest_40 : decode cX6_digest 40 = .ok (.iconst 0, 1) := by decide +kernel
theorem dX6_digest_41 : decode cX6_digest 41 = .ok (.istore_n 3, 1) := by decide +kernel
theorem dX6_digest_42 : decode cX6_digest 42 = .ok (.iload_n 3, 1) := by decide +kernel
theorem dX6_digest_43 : decode cX6_digest 43 = .ok (.aload_n 0, 1) := by decide +kernel
theorem dX6_digest_44 : decode cX6_digest 44 = .ok (.getfield 10, 3) := by decide +kernel
theorem dX6_digest_47 : decode cX6_digest 47 = .ok (.getfield 169, 3) := by decide +kernel
theorem dX6_digest_50 : decode cX6_digest 50 = .ok (.if_icmp .ge 37, 3) := by decide +kernel
theorem dX6_digest_53 : decode cX6_digest 53 = .ok (.iconst 0, 1) := by decide +kernel
theorem dX6_digest_54 : decode cX6_digest 54 = .ok (.istore 4, 2) := by decide +kernel
theorem dX6_digest_56 : decode cX6_digest 56 = .ok (.iload 4, 2) := by decide +kernel
theorem dX6_digest_58 : decode cX6_digest 58 = .ok (.iconst 5, 1) := by decide +kernel
theorem dX6_digest_59 : decode cX6_digest 59 = .ok (.if_icmp .ge 22, 3) := by decide +kernel
theorem dX6_digest_62 : decode cX6_digest 62 = .ok (.lload_n 1, 1) := by decide +kernel
theorem dX6_digest_63 : decode cX6_digest 63 = .ok (.aload_n 0, 1) := by decide +kernel
theorem dX6_digest_64 : decode cX6_digest 64 = .ok (.iload_n 3, 1) := by decide +kernel
theorem dX6_digest_65 : decode cX6_digest 65 = .ok (.iload 4, 2) := by decide +kernel
theorem dX6_digest_67 : decode cX6_digest 67 = .ok (.invokevirtual 273, 3) := by decide +kernel
theorem dX6_digest_70 : decode cX6_digest 70 = .ok (.i2l, 1) := by decide +kernel
theorem dX6_digest_71 : decode cX6_digest 71 = .ok (.invokestatic 266, 3) := by decide +kernel
theorem dX6_digest_74 : decode cX6_digest 74 = .ok (.lstore_n 1, 1) := by decide +kernel
theorem dX6_digest_75 : decode cX6_digest 75 = .ok (.iinc 4 1, 3) := by decide +kernel
theorem dX6_digest_78 : decode cX6_digest 78 = .ok (.goto (-22), 3) := by decide +kernel
theorem dX6_digest_81 : decode cX6_digest 81 = .ok (.iinc 3 1, 3) := by decide +kernel
theorem dX6_digest_84 : decode cX6_digest 84 = .ok (.goto (-42), 3) := by decide +kernel
theorem dX6_digest_87 : decode cX6_digest 87 = .ok (.iconst 0, 1) := by decide +kernel
theorem dX6_digest_88 : decode cX6_digest 88 = .ok (.istore_n 3, 1) := by decide +kernel
theorem dX6_digest_89 : decode cX6_digest 89 = .ok (.iload_n 3, 1) := by decide +kernel
theorem dX6_digest_90 : decode cX6_digest 90 = .ok (.aload_n 0, 1) := by decide +kernel
theorem dX6_digest_91 : decode cX6_digest 91 = .ok (.getfield 10, 3) := by decide +kernel
theorem dX6_digest_94 : decode cX6_digest 94 = .ok (.getfield 54, 3) := by decide +kernel
theorem dX6_digest_97 : decode cX6_digest 97 = .ok (.if_icmp .ge 59, 3) := by decide +kernel
theorem dX6_digest_100 : decode cX6_digest 100 = .ok (.aload_n 0, 1) := by decide +kernel
theorem dX6_digest_101 : decode cX6_digest 101 = .ok (.getfield 10, 3) := by decide +kernel
theorem dX6_digest_104 : decode cX6_digest 104 = .ok (.getfield 166, 3) := by decide +kernel
theorem dX6_digest_107 : decode cX6_digest 107 = .ok (.iload_n 3, 1) := by decide +kernel
theorem dX6_digest_108 : decode cX6_digest 108 = .ok (.invokevirtual 122, 3) := by decide +kernel
theorem dX6_digest_111 : decode cX6_digest 111 = .ok (.istore 4, 2) := by decide +kernel
theorem dX6_digest_113 : decode cX6_digest 113 = .ok (.lload_n 1, 1) := by decide +kernel
theorem dX6_digest_114 : decode cX6_digest 114 = .ok (.iload 4, 2) := by decide +kernel
theorem dX6_digest_116 : decode cX6_digest 116 = .ok (.i2l, 1) := by decide +kernel
theorem dX6_digest_117 : decode cX6_digest 117 = .ok (.invokestatic 266, 3) := by decide +kernel
theorem dX6_digest_120 : decode cX6_digest 120 = .ok (.lstore_n 1, 1) := by decide +kernel
theorem dX6_digest_121 : decode cX6_digest 121 = .ok (.iconst 0, 1) := by decide +kernel
theorem dX6_digest_122 : decode cX6_digest 122 = .ok (.istore 5, 2) := by decide +kernel
theorem dX6_digest_124 : decode cX6_digest 124 = .ok (.iload 5, 2) := by decide +kernel
theorem dX6_digest_126 : decode cX6_digest 126 = .ok (.iconst 4, 1) := by decide +kernel
theorem dX6_digest_127 : decode cX6_digest 127 = .ok (.if_icmp .ge 23, 3) := by decide +kernel
theorem dX6_digest_130 : decode cX6_digest 130 = .ok (.lload_n 1, 1) := by decide +kernel
theorem dX6_digest_131 : decode cX6_digest 131 = .ok (.aload_n 0, 1) := by decide +kernel
theorem dX6_digest_132 : decode cX6_digest 132 = .ok (.iload 4, 2) := by decide +kernel
theorem dX6_digest_134 : decode cX6_digest 134 = .ok (.iload 5, 2) := by decide +kernel
theorem dX6_digest_136 : decode cX6_digest 136 = .ok (.invokevirtual 276, 3) := by decide +kernel
theorem dX6_digest_139 : decode cX6_digest 139 = .ok (.i2l, 1) := by decide +kernel
theorem dX6_digest_140 : decode cX6_digest 140 = .ok (.invokestatic 266, 3) := by decide +kernel
theorem dX6_digest_143 : decode cX6_digest 143 = .ok (.lstore_n 1, 1) := by decide +kernel
theorem dX6_digest_144 : decode cX6_digest 144 = .ok (.iinc 5 1, 3) := by decide +kernel
theorem dX6_digest_147 : decode cX6_digest 147 = .ok (.goto (-23), 3) := by decide +kernel
theorem dX6_digest_150 : decode cX6_digest 150 = .ok (.iinc 3 1, 3) := by decide +kernel
theorem dX6_digest_153 : decode cX6_digest 153 = .ok (.goto (-64), 3) := by decide +kernel
theorem dX6_digest_156 : decode cX6_digest 156 = .ok (.lload_n 1, 1) := by decide +kernel
theorem dX6_digest_157 : decode cX6_digest 157 = .ok (.aload_n 0, 1) := by decide +kernel
theorem dX6_digest_158 : decode cX6_digest 158 = .ok (.invokevirtual 279, 3) := by decide +kernel
theorem dX6_digest_161 : decode cX6_digest 161 = .ok (.i2l, 1) := by decide +kernel
theorem dX6_digest_162 : decode cX6_digest 162 = .ok (.invokestatic 266, 3) := by decide +kernel
theorem dX6_digest_165 : decode cX6_digest 165 = .ok (.lstore_n 1, 1) := by decide +kernel
theorem dX6_digest_166 : decode cX6_digest 166 = .ok (.lload_n 1, 1) := by decide +kernel
theorem dX6_digest_167 : decode cX6_digest 167 = .ok (.aload_n 0, 1) := by decide +kernel
theorem dX6_digest_168 : decode cX6_digest 168 = .ok (.invokevirtual 282, 3) := by decide +kernel
theorem dX6_digest_171 : decode cX6_digest 171 = .ok (.i2l, 1) := by decide +kernel
theorem dX6_digest_172 : decode cX6_digest 172 = .ok (.invokestatic 266, 3) := by decide +kernel
theorem dX6_digest_175 : decode cX6_digest 175 = .ok (.lstore_n 1, 1) := by decide +kernel
theorem dX6_digest_176 : decode cX6_digest 176 = .ok (.lload_n 1, 1) := by decide +kernel
theorem dX6_digest_177 : decode cX6_digest 177 = .ok (.aload_n 0, 1) := by decide +kernel
theorem dX6_digest_178 : decode cX6_digest 178 = .ok (.invokevirtual 285, 3) := by decide +kernel
theorem dX6_digest_181 : decode cX6_digest 181 = .ok (.i2l, 1) := by decide +kernel
theorem dX6_digest_182 : decode cX6_digest 182 = .ok (.invokestatic 266, 3) := by decide +kernel
theorem dX6_digest_185 : decode cX6_digest 185 = .ok (.lstore_n 1, 1) := by decide +kernel
theorem dX6_digest_186 : decode cX6_digest 186 = .ok (.lload_n 1, 1) := by decide +kernel
theorem dX6_digest_187 : decode cX6_digest 187 = .ok (.aload_n 0, 1) := by decide +kernel
theorem dX6_digest_188 : decode cX6_digest 188 = .ok (.getfield 43, 3) := by decide +kernel
theorem dX6_digest_191 : decode cX6_digest 191 = .ok (.getfield 256, 3) := by decide +kernel
theorem dX6_digest_194 : decode cX6_digest 194 = .ok (.i2l, 1) := by decide +kernel
theorem dX6_digest_195 : decode cX6_digest 195 = .ok (.invokestatic 266, 3) := by decide +kernel
theorem dX6_digest_198 : decode cX6_digest 198 = .ok (.lreturn, 1) := by decide +kernel
theorem dX6_mix_0 : decode cX6_mix 0 = .ok (.ldc2_w 288, 3) := by decide +kernel
theorem dX6_mix_3 : decode cX6_mix 3 = .ok (.lload_n 0, 1) := by decide +kernel
theorem dX6_mix_4 : decode cX6_mix 4 = .ok (.lmul, 1) := by decide +kernel
theorem dX6_mix_5 : decode cX6_mix 5 = .ok (.lload_n 2, 1) := by decide +kernel
theorem dX6_mix_6 : decode cX6_mix 6 = .ok (.ladd, 1) := by decide +kernel
theorem dX6_mix_7 : decode cX6_mix 7 = .ok (.lreturn, 1) := by decide +kernel
theorem dX6_checkNode_0 : decode cX6_checkNode 0 = .ok (.aload_n 0, 1) := by decide +kernel
theorem dX6_checkNode_1 : decode cX6_checkNode 1 = .ok (.getfield 10, 3) := by decide +kernel
theorem dX6_checkNode_4 : decode cX6_checkNode 4 = .ok (.iload_n 1, 1) := by decide +kernel
theorem dX6_checkNode_5 : decode cX6_checkNode 5 = .ok (.invokevirtual 290, 3) := by decide +kernel
theorem dX6_checkNode_8 : decode cX6_checkNode 8 = .ok (.ifCond .ne 14, 3) := by decide +kernel
theorem dX6_checkNode_11 : decode cX6_checkNode 11 = .ok (.new 161, 3) := by decide +kernel
theorem dX6_checkNode_14 : decode cX6_checkNode 14 = .ok (.dup, 1) := by decide +kernel
theorem dX6_checkNode_15 : decode cX6_checkNode 15 = .ok (.ldc_w 294, 3) := by decide +kernel
theorem dX6_checkNode_18 : decode cX6_checkNode 18 = .ok (.invokespecial 165, 3) := by decide +kernel
theorem dX6_checkNode_21 : decode cX6_checkNode 21 = .ok (.athrow, 1) := by decide +kernel
theorem dX6_checkNode_22 : decode cX6_checkNode 22 = .ok (.return_, 1) := by decide +kernel
theorem dX6_checkDifferent_0 : decode cX6_checkDifferent 0 = .ok (.iload_n 0, 1) := by decide +kernel
theorem dX6_checkDifferent_1 : decode cX6_checkDifferent 1 = .ok (.iload_n 1, 1) := by decide +kernel
theorem dX6_checkDifferent_2 : decode cX6_checkDifferent 2 = .ok (.if_icmp .ne 14, 3) := by decide +kernel
theorem dX6_checkDifferent_5 : decode cX6_checkDifferent 5 = .ok (.new 47, 3) := by decide +kernel
theorem dX6_checkDifferent_8 : decode cX6_checkDifferent 8 = .ok (.dup, 1) := by decide +kernel
theorem dX6_checkDifferent_9 : decode cX6_checkDifferent 9 = .ok (.ldc_w 296, 3) := by decide +kernel
theorem dX6_checkDifferent_12 : decode cX6_checkDifferent 12 = .ok (.invokespecial 51, 3) := by decide +kernel
theorem dX6_checkDifferent_15 : decode cX6_checkDifferent 15 = .ok (.athrow, 1) := by decide +kernel
theorem dX6_checkDifferent_16 : decode cX6_checkDifferent 16 = .ok (.return_, 1) := by decide +kernel
theorem dX6_checkedSlot_0 : decode cX6_checkedSlot 0 = .ok (.aload_n 0, 1) := by decide +kernel
theorem dX6_checkedSlot_1 : decode cX6_checkedSlot 1 = .ok (.getfield 10, 3) := by decide +kernel
theorem dX6_checkedSlot_4 : decode cX6_checkedSlot 4 = .ok (.iload_n 1, 1) := by decide +kernel
theorem dX6_checkedSlot_5 : decode cX6_checkedSlot 5 = .ok (.invokevirtual 298, 3) := by decide +kernel
theorem dX6_checkedSlot_8 : decode cX6_checkedSlot 8 = .ok (.istore_n 2, 1) := by decide +kernel
theorem dX6_checkedSlot_9 : decode cX6_checkedSlot 9 = .ok (.iload_n 2, 1) := by decide +kernel
theorem dX6_checkedSlot_10 : decode cX6_checkedSlot 10 = .ok (.iconst (-1), 1) := by decide +kernel
theorem dX6_checkedSlot_11 : decode cX6_checkedSlot 11 = .ok (.if_icmp .ne 14, 3) := by decide +kernel
theorem dX6_checkedSlot_14 : decode cX6_checkedSlot 14 = .ok (.new 301, 3) := by decide +kernel
theorem dX6_checkedSlot_17 : decode cX6_checkedSlot 17 = .ok (.dup, 1) := by decide +kernel
theorem dX6_checkedSlot_18 : decode cX6_checkedSlot 18 = .ok (.ldc_w 303, 3) := by decide +kernel
theorem dX6_checkedSlot_21 : decode cX6_checkedSlot 21 = .ok (.invokespecial 305, 3) := by decide +kernel
theorem dX6_checkedSlot_24 : decode cX6_checkedSlot 24 = .ok (.athrow, 1) := by decide +kernel
theorem dX6_checkedSlot_25 : decode cX6_checkedSlot 25 = .ok (.iload_n 2, 1) := by decide +kernel
theorem dX6_checkedSlot_26 : decode cX6_checkedSlot 26 = .ok (.ireturn, 1) := by decide +kernel
theorem dX6_obeyOrder_0 : decode cX6_obeyOrder 0 = .ok (.aload_n 0, 1) := by decide +kernel
theorem dX6_obeyOrder_1 : decode cX6_obeyOrder 1 = .ok (.getfield 36, 3) := by decide +kernel
theorem dX6_obeyOrder_4 : decode cX6_obeyOrder 4 = .ok (.getfield 306, 3) := by decide +kernel
theorem dX6_obeyOrder_7 : decode cX6_obeyOrder 7 = .ok (.lookupswitch 179 #[(43, 57), (45, 76), (98, 146), (99, 160), (114, 102), (116, 76)], 57) := by decide +kernel
theorem dX6_obeyOrder_64 : decode cX6_obeyOrder 64 = .ok (.aload_n 0, 1) := by decide +kernel
theorem dX6_obeyOrder_65 : decode cX6_obeyOrder 65 = .ok (.aload_n 0, 1) := by decide +kernel
theorem dX6_obeyOrder_66 : decode cX6_obeyOrder 66 = .ok (.getfield 36, 3) := by decide +kernel
theorem dX6_obeyOrder_69 : decode cX6_obeyOrder 69 = .ok (.getfield 309, 3) := by decide +kernel
theorem dX6_obeyOrder_72 : decode cX6_obeyOrder 72 = .ok (.aload_n 0, 1) := by decide +kernel
theorem dX6_obeyOrder_73 : decode cX6_obeyOrder 73 = .ok (.getfield 36, 3) := by decide +kernel
theorem dX6_obeyOrder_76 : decode cX6_obeyOrder 76 = .ok (.getfield 312, 3) := by decide +kernel
theorem dX6_obeyOrder_79 : decode cX6_obeyOrder 79 = .ok (.invokevirtual 315, 3) := by decide +kernel
theorem dX6_obeyOrder_82 : decode cX6_obeyOrder 82 = .ok (.ireturn, 1) := by decide +kernel
theorem dX6_obeyOrder_83 : decode cX6_obeyOrder 83 = .ok (.aload_n 0, 1) := by decide +kernel
theorem dX6_obeyOrder_84 : decode cX6_obeyOrder 84 = .ok (.aload_n 0, 1) := by decide +kernel
theorem dX6_obeyOrder_85 : decode cX6_obeyOrder 85 = .ok (.getfield 36, 3) := by decide +kernel
theorem dX6_obeyOrder_88 : decode cX6_obeyOrder 88 = .ok (.getfield 306, 3) := by decide +kernel
theorem dX6_obeyOrder_91 : decode cX6_obeyOrder 91 = .ok (.aload_n 0, 1) := by decide +kernel
theorem dX6_obeyOrder_92 : decode cX6_obeyOrder 92 = .ok (.getfield 10, 3) := by decide +kernel
theorem dX6_obeyOrder_95 : decode cX6_obeyOrder 95 = .ok (.aload_n 0, 1) := by decide +kernel
theorem dX6_obeyOrder_96 : decode cX6_obeyOrder 96 = .ok (.getfield 36, 3) := by decide +kernel
theorem dX6_obeyOrder_99 : decode cX6_obeyOrder 99 = .ok (.getfield 319, 3) := by decide +kernel
theorem dX6_obeyOrder_102 : decode cX6_obeyOrder 102 = .ok (.invokevirtual 298, 3) := by decide +kernel
theorem dX6_obeyOrder_105 : decode cX6_obeyOrder 105 = .ok (.invokevirtual 322, 3) := by decide +kernel
theorem dX6_obeyOrder_108 : decode cX6_obeyOrder 108 = .ok (.ireturn, 1) := by decide +kernel
theorem dX6_obeyOrder_109 : decode cX6_obeyOrder 109 = .ok (.aload_n 0, 1) := by decide +kernel
theorem dX6_obeyOrder_110 : decode cX6_obeyOrder 110 = .ok (.getfield 10, 3) := by decide +kernel
theorem dX6_obeyOrder_113 : decode cX6_obeyOrder 113 = .ok (.aload_n 0, 1) := by decide +kernel
theorem dX6_obeyOrder_114 : decode cX6_obeyOrder 114 = .ok (.getfield 36, 3) := by decide +kernel
theorem dX6_obeyOrder_117 : decode cX6_obeyOrder 117 = .ok (.getfield 309, 3) := by decide +kernel
theorem dX6_obeyOrder_120 : decode cX6_obeyOrder 120 = .ok (.invokevirtual 290, 3) := by decide +kernel
theorem dX6_obeyOrder_123 : decode cX6_obeyOrder 123 = .ok (.ifCond .eq 28, 3) := by decide +kernel
theorem dX6_obeyOrder_126 : decode cX6_obeyOrder 126 = .ok (.aload_n 0, 1) := by decide +kernel
theorem dX6_obeyOrder_127 : decode cX6_obeyOrder 127 = .ok (.getfield 22, 3) := by decide +kernel
theorem dX6_obeyOrder_130 : decode cX6_obeyOrder 130 = .ok (.aload_n 0, 1) := by decide +kernel
theorem dX6_obeyOrder_131 : decode cX6_obeyOrder 131 = .ok (.getfield 10, 3) := by decide +kernel
theorem dX6_obeyOrder_134 : decode cX6_obeyOrder 134 = .ok (.aload_n 0, 1) := by decide +kernel
theorem dX6_obeyOrder_135 : decode cX6_obeyOrder 135 = .ok (.getfield 36, 3) := by decide +kernel
theorem dX6_obeyOrder_138 : decode cX6_obeyOrder 138 = .ok (.getfield 309, 3) := by decide +kernel
theorem dX6_obeyOrder_141 : decode cX6_obeyOrder 141 = .ok (.invokevirtual 325, 3) := by decide +kernel
theorem dX6_obeyOrder_144 : decode cX6_obeyOrder 144 = .ok (.ifCond .le 7, 3) := by decide +kernel
theorem dX6_obeyOrder_147 : decode cX6_obeyOrder 147 = .ok (.iconst 1, 1) := by decide +kernel
theorem dX6_obeyOrder_148 : decode cX6_obeyOrder 148 = .ok (.goto 4, 3) := by decide +kernel
theorem dX6_obeyOrder_151 : decode cX6_obeyOrder 151 = .ok (.iconst 0, 1) := by decide +kernel
theorem dX6_obeyOrder_152 : decode cX6_obeyOrder 152 = .ok (.ireturn, 1) := by decide +kernel
theorem dX6_obeyOrder_153 : decode cX6_obeyOrder 153 = .ok (.aload_n 0, 1) := by decide +kernel
theorem dX6_obeyOrder_154 : decode cX6_obeyOrder 154 = .ok (.getfield 22, 3) := by decide +kernel
theorem dX6_obeyOrder_157 : decode cX6_obeyOrder 157 = .ok (.aload_n 0, 1) := by decide +kernel
theorem dX6_obeyOrder_158 : decode cX6_obeyOrder 158 = .ok (.getfield 10, 3) := by decide +kernel
theorem dX6_obeyOrder_161 : decode cX6_obeyOrder 161 = .ok (.invokevirtual 113, 3) := by decide +kernel
theorem dX6_obeyOrder_164 : decode cX6_obeyOrder 164 = .ok (.pop, 1) := by decide +kernel
theorem dX6_obeyOrder_165 : decode cX6_obeyOrder 165 = .ok (.iconst 1, 1) := by decide +kernel
theorem dX6_obeyOrder_166 : decode cX6_obeyOrder 166 = .ok (.ireturn, 1) := by decide +kernel
theorem dX6_obeyOrder_167 : decode cX6_obeyOrder 167 = .ok (.aload_n 0, 1) := by decide +kernel
theorem dX6_obeyOrder_168 : decode cX6_obeyOrder 168 = .ok (.aload_n 0, 1) := by decide +kernel
theorem dX6_obeyOrder_169 : decode cX6_obeyOrder 169 = .ok (.getfield 36, 3) := by decide +kernel
theorem dX6_obeyOrder_172 : decode cX6_obeyOrder 172 = .ok (.getfield 309, 3) := by decide +kernel
theorem dX6_obeyOrder_175 : decode cX6_obeyOrder 175 = .ok (.aload_n 0, 1) := by decide +kernel
theorem dX6_obeyOrder_176 : decode cX6_obeyOrder 176 = .ok (.getfield 36, 3) := by decide +kernel
theorem dX6_obeyOrder_179 : decode cX6_obeyOrder 179 = .ok (.getfield 319, 3) := by decide +kernel
theorem dX6_obeyOrder_182 : decode cX6_obeyOrder 182 = .ok (.invokevirtual 328, 3) := by decide +kernel
theorem dX6_obeyOrder_185 : decode cX6_obeyOrder 185 = .ok (.ireturn, 1) := by decide +kernel
theorem dX6_obeyOrder_186 : decode cX6_obeyOrder 186 = .ok (.iconst 0, 1) := by decide +kernel
theorem dX6_obeyOrder_187 : decode cX6_obeyOrder 187 = .ok (.ireturn, 1) := by decide +kernel
theorem dX6_obeyAdding_0 : decode cX6_obeyAdding 0 = .ok (.aload_n 0, 1) := by decide +kernel
theorem dX6_obeyAdding_1 : decode cX6_obeyAdding 1 = .ok (.getfield 10, 3) := by decide +kernel
theorem dX6_obeyAdding_4 : decode cX6_obeyAdding 4 = .ok (.iload_n 1, 1) := by decide +kernel
theorem dX6_obeyAdding_5 : decode cX6_obeyAdding 5 = .ok (.invokevirtual 290, 3) := by decide +kernel
theorem dX6_obeyAdding_8 : decode cX6_obeyAdding 8 = .ok (.ifCond .eq 29, 3) := by decide +kernel
theorem dX6_obeyAdding_11 : decode cX6_obeyAdding 11 = .ok (.aload_n 0, 1) := by decide +kernel
theorem dX6_obeyAdding_12 : decode cX6_obeyAdding 12 = .ok (.getfield 10, 3) := by decide +kernel
theorem dX6_obeyAdding_15 : decode cX6_obeyAdding 15 = .ok (.iload_n 2, 1) := by decide +kernel
theorem dX6_obeyAdding_16 : decode cX6_obeyAdding 16 = .ok (.invokevirtual 290, 3) := by decide +kernel
theorem dX6_obeyAdding_19 : decode cX6_obeyAdding 19 = .ok (.ifCond .eq 18, 3) := by decide +kernel
theorem dX6_obeyAdding_22 : decode cX6_obeyAdding 22 = .ok (.iload_n 1, 1) := by decide +kernel
theorem dX6_obeyAdding_23 : decode cX6_obeyAdding 23 = .ok (.iload_n 2, 1) := by decide +kernel
theorem dX6_obeyAdding_24 : decode cX6_obeyAdding 24 = .ok (.if_icmp .eq 13, 3) := by decide +kernel
theorem dX6_obeyAdding_27 : decode cX6_obeyAdding 27 = .ok (.aload_n 0, 1) := by decide +kernel
theorem dX6_obeyAdding_28 : decode cX6_obeyAdding 28 = .ok (.getfield 10, 3) := by decide +kernel
theorem dX6_obeyAdding_31 : decode cX6_obeyAdding 31 = .ok (.invokevirtual 76, 3) := by decide +kernel
theorem dX6_obeyAdding_34 : decode cX6_obeyAdding 34 = .ok (.ifCond .eq 5, 3) := by decide +kernel
theorem dX6_obeyAdding_37 : decode cX6_obeyAdding 37 = .ok (.iconst 0, 1) := by decide +kernel
theorem dX6_obeyAdding_38 : decode cX6_obeyAdding 38 = .ok (.ireturn, 1) := by decide +kernel
theorem dX6_obeyAdding_39 : decode cX6_obeyAdding 39 = .ok (.aload_n 0, 1) := by decide +kernel
theorem dX6_obeyAdding_40 : decode cX6_obeyAdding 40 = .ok (.getfield 10, 3) := by decide +kernel
theorem dX6_obeyAdding_43 : decode cX6_obeyAdding 43 = .ok (.iload_n 1, 1) := by decide +kernel
theorem dX6_obeyAdding_44 : decode cX6_obeyAdding 44 = .ok (.iload_n 2, 1) := by decide +kernel
theorem dX6_obeyAdding_45 : decode cX6_obeyAdding 45 = .ok (.invokevirtual 85, 3) := by decide +kernel
theorem dX6_obeyAdding_48 : decode cX6_obeyAdding 48 = .ok (.pop, 1) := by decide +kernel
theorem dX6_obeyAdding_49 : decode cX6_obeyAdding 49 = .ok (.iconst 1, 1) := by decide +kernel
theorem dX6_obeyAdding_50 : decode cX6_obeyAdding 50 = .ok (.ireturn, 1) := by decide +kernel
theorem dX6_obeyForEdge_0 : decode cX6_obeyForEdge 0 = .ok (.iload_n 2, 1) := by decide +kernel
theorem dX6_obeyForEdge_1 : decode cX6_obeyForEdge 1 = .ok (.iconst (-1), 1) := by decide +kernel
theorem dX6_obeyForEdge_2 : decode cX6_obeyForEdge 2 = .ok (.if_icmp .ne 5, 3) := by decide +kernel
theorem dX6_obeyForEdge_5 : decode cX6_obeyForEdge 5 = .ok (.iconst 0, 1) := by decide +kernel
theorem dX6_obeyForEdge_6 : decode cX6_obeyForEdge 6 = .ok (.ireturn, 1) := by decide +kernel
theorem dX6_obeyForEdge_7 : decode cX6_obeyForEdge 7 = .ok (.iload_n 1, 1) := by decide +kernel
theorem dX6_obeyForEdge_8 : decode cX6_obeyForEdge 8 = .ok (.bipush 45, 2) := by decide +kernel
theorem dX6_obeyForEdge_10 : decode cX6_obeyForEdge 10 = .ok (.if_icmp .ne 15, 3) := by decide +kernel
theorem dX6_obeyForEdge_13 : decode cX6_obeyForEdge 13 = .ok (.aload_n 0, 1) := by decide +kernel
theorem dX6_obeyForEdge_14 : decode cX6_obeyForEdge 14 = .ok (.getfield 10, 3) := by decide +kernel
theorem dX6_obeyForEdge_17 : decode cX6_obeyForEdge 17 = .ok (.iload_n 2, 1) := by decide +kernel
theorem dX6_obeyForEdge_18 : decode cX6_obeyForEdge 18 = .ok (.invokevirtual 93, 3) := by decide +kernel
theorem dX6_obeyForEdge_21 : decode cX6_obeyForEdge 21 = .ok (.pop, 1) := by decide +kernel
theorem dX6_obeyForEdge_22 : decode cX6_obeyForEdge 22 = .ok (.goto 12, 3) := by decide +kernel
theorem dX6_obeyForEdge_25 : decode cX6_obeyForEdge 25 = .ok (.aload_n 0, 1) := by decide +kernel
theorem dX6_obeyForEdge_26 : decode cX6_obeyForEdge 26 = .ok (.getfield 10, 3) := by decide +kernel
theorem dX6_obeyForEdge_29 : decode cX6_obeyForEdge 29 = .ok (.iload_n 2, 1) := by decide +kernel
theorem dX6_obeyForEdge_30 : decode cX6_obeyForEdge 30 = .ok (.invokevirtual 96, 3) := by decide +kernel
theorem dX6_obeyForEdge_33 : decode cX6_obeyForEdge 33 = .ok (.pop, 1) := by decide +kernel
theorem dX6_obeyForEdge_34 : decode cX6_obeyForEdge 34 = .ok (.iconst 1, 1) := by decide +kernel
theorem dX6_obeyForEdge_35 : decode cX6_obeyForEdge 35 = .ok (.ireturn, 1) := by decide +kernel
theorem dX6_obeyCapacity_0 : decode cX6_obeyCapacity 0 = .ok (.aload_n 0, 1) := by decide +kernel
theorem dX6_obeyCapacity_1 : decode cX6_obeyCapacity 1 = .ok (.getfield 10, 3) := by decide +kernel
theorem dX6_obeyCapacity_4 : decode cX6_obeyCapacity 4 = .ok (.iload_n 1, 1) := by decide +kernel
theorem dX6_obeyCapacity_5 : decode cX6_obeyCapacity 5 = .ok (.invokevirtual 290, 3) := by decide +kernel
theorem dX6_obeyCapacity_8 : decode cX6_obeyCapacity 8 = .ok (.ifCond .ne 5, 3) := by decide +kernel
theorem dX6_obeyCapacity_11 : decode cX6_obeyCapacity 11 = .ok (.iconst 0, 1) := by decide +kernel
theorem dX6_obeyCapacity_12 : decode cX6_obeyCapacity 12 = .ok (.ireturn, 1) := by decide +kernel
theorem dX6_obeyCapacity_13 : decode cX6_obeyCapacity 13 = .ok (.aload_n 0, 1) := by decide +kernel
theorem dX6_obeyCapacity_14 : decode cX6_obeyCapacity 14 = .ok (.getfield 10, 3) := by decide +kernel
theorem dX6_obeyCapacity_17 : decode cX6_obeyCapacity 17 = .ok (.getfield 118, 3) := by decide +kernel
theorem dX6_obeyCapacity_20 : decode cX6_obeyCapacity 20 = .ok (.iload_n 1, 1) := by decide +kernel
theorem dX6_obeyCapacity_21 : decode cX6_obeyCapacity 21 = .ok (.iload_n 2, 1) := by decide +kernel
theorem dX6_obeyCapacity_22 : decode cX6_obeyCapacity 22 = .ok (.invokevirtual 127, 3) := by decide +kernel
theorem dX6_obeyCapacity_25 : decode cX6_obeyCapacity 25 = .ok (.iconst 1, 1) := by decide +kernel
theorem dX6_obeyCapacity_26 : decode cX6_obeyCapacity 26 = .ok (.ireturn, 1) := by decide +kernel
theorem dX7_init_0 : decode cX7_init 0 = .ok (.aload_n 0, 1) := by decide +kernel
theorem dX7_init_1 : decode cX7_init 1 = .ok (.invokespecial 1, 3) := by decide +kernel
theorem dX7_init_4 : decode cX7_init 4 = .ok (.aload_n 0, 1) := by decide +kernel
theorem dX7_init_5 : decode cX7_init 5 = .ok (.sipush 216, 3) := by decide +kernel
theorem dX7_init_8 : decode cX7_init 8 = .ok (.newarray .int, 2) := by decide +kernel
theorem dX7_init_10 : decode cX7_init 10 = .ok (.putfield 7, 3) := by decide +kernel
theorem dX7_init_13 : decode cX7_init 13 = .ok (.aload_n 0, 1) := by decide +kernel
theorem dX7_init_14 : decode cX7_init 14 = .ok (.sipush 216, 3) := by decide +kernel
theorem dX7_init_17 : decode cX7_init 17 = .ok (.newarray .int, 2) := by decide +kernel
theorem dX7_init_19 : decode cX7_init 19 = .ok (.putfield 13, 3) := by decide +kernel
theorem dX7_init_22 : decode cX7_init 22 = .ok (.aload_n 0, 1) := by decide +kernel
theorem dX7_init_23 : decode cX7_init 23 = .ok (.sipush 864, 3) := by decide +kernel
theorem dX7_init_26 : decode cX7_init 26 = .ok (.newarray .int, 2) := by decide +kernel
theorem dX7_init_28 : decode cX7_init 28 = .ok (.putfield 16, 3) := by decide +kernel
theorem dX7_init_31 : decode cX7_init 31 = .ok (.aload_n 0, 1) := by decide +kernel
theorem dX7_init_32 : decode cX7_init 32 = .ok (.bipush 100, 2) := by decide +kernel
theorem dX7_init_34 : decode cX7_init 34 = .ok (.newarray .int, 2) := by decide +kernel
theorem dX7_init_36 : decode cX7_init 36 = .ok (.putfield 19, 3) := by decide +kernel
theorem dX7_init_39 : decode cX7_init 39 = .ok (.aload_n 0, 1) := by decide +kernel
theorem dX7_init_40 : decode cX7_init 40 = .ok (.bipush 12, 2) := by decide +kernel
theorem dX7_init_42 : decode cX7_init 42 = .ok (.newarray .int, 2) := by decide +kernel
theorem dX7_init_44 : decode cX7_init 44 = .ok (.putfield 22, 3) := by decide +kernel
theorem dX7_init_47 : decode cX7_init 47 = .ok (.aload_n 0, 1) := by decide +kernel
theorem dX7_init_48 : decode cX7_init 48 = .ok (.bipush 12, 2) := by decide +kernel
theorem dX7_init_50 : decode cX7_init 50 = .ok (.newarray .int, 2) := by decide +kernel
theorem dX7_init_52 : decode cX7_init 52 = .ok (.putfield 25, 3) := by decide +kernel
theorem dX7_init_55 : decode cX7_init 55 = .ok (.aload_n 0, 1) := by decide +kernel
theorem dX7_init_56 : decode cX7_init 56 = .ok (.bipush 6, 2) := by decide +kernel
theorem dX7_init_58 : decode cX7_init 58 = .ok (.invokevirtual 28, 3) := by decide +kernel
theorem dX7_init_61 : decode cX7_init 61 = .ok (.return_, 1) := by decide +kernel
theorem dX7_thrown_0 : decode cX7_thrown 0 = .ok (.aload_n 0, 1) := by decide +kernel
theorem dX7_thrown_1 : decode cX7_thrown 1 = .ok (.getfield 32, 3) := by decide +kernel
theorem dX7_thrown_4 : decode cX7_thrown 4 = .ok (.ireturn, 1) := by decide +kernel
theorem dX7_in_0 : decode cX7_in 0 = .ok (.iload_n 0, 1) := by decide +kernel
theorem dX7_in_1 : decode cX7_in 1 = .ok (.iload_n 1, 1) := by decide +kernel
theorem dX7_in_2 : decode cX7_in 2 = .ok (.if_icmp .lt 12, 3) := by decide +kernel
theorem dX7_in_5 : decode cX7_in 5 = .ok (.iload_n 0, 1) := by decide +kernel
theorem dX7_in_6 : decode cX7_in 6 = .ok (.iload_n 2, 1) := by decide +kernel
theorem dX7_in_7 : decode cX7_in 7 = .ok (.if_icmp .gt 7, 3) := by decide +kernel
theorem dX7_in_10 : decode cX7_in 10 = .ok (.iconst 1, 1) := by decide +kernel
theorem dX7_in_11 : decode cX7_in 11 = .ok (.goto 4, 3) := by decide +kernel
theorem dX7_in_14 : decode cX7_in 14 = .ok (.iconst 0, 1) := by decide +kernel
theorem dX7_in_15 : decode cX7_in 15 = .ok (.ireturn, 1) := by decide +kernel
theorem dX7_refuses_0 : decode cX7_refuses 0 = .ok (.aload_n 0, 1) := by decide +kernel
theorem dX7_refuses_1 : decode cX7_refuses 1 = .ok (.iload_n 1, 1) := by decide +kernel
theorem dX7_refuses_2 : decode cX7_refuses 2 = .ok (.ifCond .eq 7, 3) := by decide +kernel
theorem dX7_refuses_5 : decode cX7_refuses 5 = .ok (.iconst 1, 1) := by decide +kernel
theorem dX7_refuses_6 : decode cX7_refuses 6 = .ok (.goto 20, 3) := by decide +kernel
theorem dX7_refuses_9 : decode cX7_refuses 9 = .ok (.iload_n 2, 1) := by decide +kernel
theorem dX7_refuses_10 : decode cX7_refuses 10 = .ok (.ifCond .eq 7, 3) := by decide +kernel
theorem dX7_refuses_13 : decode cX7_refuses 13 = .ok (.iconst 2, 1) := by decide +kernel
theorem dX7_refuses_14 : decode cX7_refuses 14 = .ok (.goto 12, 3) := by decide +kernel
theorem dX7_refuses_17 : decode cX7_refuses 17 = .ok (.iload_n 3, 1) := by decide +kernel
theorem dX7_refuses_18 : decode cX7_refuses 18 = .ok (.ifCond .eq 7, 3) := by decide +kernel
theorem dX7_refuses_21 : decode cX7_refuses 21 = .ok (.iconst 3, 1) := by decide +kernel
theorem dX7_refuses_22 : decode cX7_refuses 22 = .ok (.goto 4, 3) := by decide +kernel
theorem dX7_refuses_25 : decode cX7_refuses 25 = .ok (.iconst 0, 1) := by decide +kernel
theorem dX7_refuses_26 : decode cX7_refuses 26 = .ok (.putfield 32, 3) := by decide +kernel
theorem dX7_refuses_29 : decode cX7_refuses 29 = .ok (.aload_n 0, 1) := by decide +kernel
theorem dX7_refuses_30 : decode cX7_refuses 30 = .ok (.getfield 32, 3) := by decide +kernel
theorem dX7_refuses_33 : decode cX7_refuses 33 = .ok (.ifCond .eq 7, 3) := by decide +kernel
theorem dX7_refuses_36 : decode cX7_refuses 36 = .ok (.iconst 1, 1) := by decide +kernel
theorem dX7_refuses_37 : decode cX7_refuses 37 = .ok (.goto 4, 3) := by decide +kernel
theorem dX7_refuses_40 : decode cX7_refuses 40 = .ok (.iconst 0, 1) := by decide +kernel
theorem dX7_refuses_41 : decode cX7_refuses 41 = .ok (.ireturn, 1) := by decide +kernel
theorem dX7_begins_0 : decode cX7_begins 0 = .ok (.iconst 0, 1) := by decide +kernel
theorem dX7_begins_1 : decode cX7_begins 1 = .ok (.istore_n 2, 1) := by decide +kernel
theorem dX7_begins_2 : decode cX7_begins 2 = .ok (.iload_n 2, 1) := by decide +kernel
theorem dX7_begins_3 : decode cX7_begins 3 = .ok (.sipush 216, 3) := by decide +kernel
theorem dX7_begins_6 : decode cX7_begins 6 = .ok (.if_icmp .ge 16, 3) := by decide +kernel
theorem dX7_begins_9 : decode cX7_begins 9 = .ok (.aload_n 0, 1) := by decide +kernel
theorem dX7_begins_10 : decode cX7_begins 10 = .ok (.getfield 7, 3) := by decide +kernel
theorem dX7_begins_13 : decode cX7_begins 13 = .ok (.iload_n 2, 1) := by decide +kernel
theorem dX7_begins_14 : decode cX7_begins 14 = .ok (.iconst 0, 1) := by decide +kernel
theorem dX7_begins_15 : decode cX7_begins 15 = .ok (.iastore, 1) := by decide +kernel
theorem dX7_begins_16 : decode cX7_begins 16 = .ok (.iinc 2 1, 3) := by decide +kernel
theorem dX7_begins_19 : decode cX7_begins 19 = .ok (.goto (-17), 3) := by decide +kernel
theorem dX7_begins_22 : decode cX7_begins 22 = .ok (.aload_n 0, 1) := by decide +kernel
theorem dX7_begins_23 : decode cX7_begins 23 = .ok (.getfield 7, 3) := by decide +kernel
theorem dX7_begins_26 : decode cX7_begins 26 = .ok (.iconst 0, 1) := by decide +kernel
theorem dX7_begins_27 : decode cX7_begins 27 = .ok (.iload_n 1, 1) := by decide +kernel
theorem dX7_begins_28 : decode cX7_begins 28 = .ok (.iastore, 1) := by decide +kernel
theorem dX7_begins_29 : decode cX7_begins 29 = .ok (.iconst 0, 1) := by decide +kernel
theorem dX7_begins_30 : decode cX7_begins 30 = .ok (.istore_n 2, 1) := by decide +kernel
theorem dX7_begins_31 : decode cX7_begins 31 = .ok (.iload_n 2, 1) := by decide +kernel
theorem dX7_begins_32 : decode cX7_begins 32 = .ok (.bipush 12, 2) := by decide +kernel
theorem dX7_begins_34 : decode cX7_begins 34 = .ok (.if_icmp .ge 18, 3) := by decide +kernel
theorem dX7_begins_37 : decode cX7_begins 37 = .ok (.aload_n 0, 1) := by decide +kernel
theorem dX7_begins_38 : decode cX7_begins 38 = .ok (.getfield 7, 3) := by decide +kernel
theorem dX7_begins_41 : decode cX7_begins 41 = .ok (.iconst 4, 1) := by decide +kernel
theorem dX7_begins_42 : decode cX7_begins 42 = .ok (.iload_n 2, 1) := by decide +kernel
theorem dX7_begins_43 : decode cX7_begins 43 = .ok (.iadd, 1) := by decide +kernel
theorem dX7_begins_44 : decode cX7_begins 44 = .ok (.iconst 3, 1) := by decide +kernel
theorem dX7_begins_45 : decode cX7_begins 45 = .ok (.iastore, 1) := by decide +kernel
theorem dX7_begins_46 : decode cX7_begins 46 = .ok (.iinc 2 1, 3) := by decide +kernel
theorem dX7_begins_49 : decode cX7_begins 49 = .ok (.goto (-18), 3) := by decide +kernel
theorem dX7_begins_52 : decode cX7_begins 52 = .ok (.return_, 1) := by decide +kernel
theorem dX7_isNode_0 : decode cX7_isNode 0 = .ok (.iload_n 1, 1) := by decide +kernel
theorem dX7_isNode_1 : decode cX7_isNode 1 = .ok (.iconst 0, 1) := by decide +kernel
theorem dX7_isNode_2 : decode cX7_isNode 2 = .ok (.aload_n 0, 1) := by decide +kernel
theorem dX7_isNode_3 : decode cX7_isNode 3 = .ok (.getfield 7, 3) := by decide +kernel
theorem dX7_isNode_6 : decode cX7_isNode 6 = .ok (.iconst 0, 1) := by decide +kernel
theorem dX7_isNode_7 : decode cX7_isNode 7 = .ok (.iaload, 1) := by decide +kernel
theorem dX7_isNode_8 : decode cX7_isNode 8 = .ok (.iconst 1, 1) := by decide +kernel
theorem dX7_isNode_9 : decode cX7_isNode 9 = .ok (.isub, 1) := by decide +kernel
theorem dX7_isNode_10 : decode cX7_isNode 10 = .ok (.invokestatic 36, 3) := by decide +kernel
theorem dX7_isNode_13 : decode cX7_isNode 13 = .ok (.ireturn, 1) := by decide +kernel
theorem dX7_copy_0 : decode cX7_copy 0 = .ok (.iconst 0, 1) := by decide +kernel
theorem dX7_copy_1 : decode cX7_copy 1 = .ok (.istore_n 1, 1) := by decide +kernel
theorem dX7_copy_2 : decode cX7_copy 2 = .ok (.iload_n 1, 1) := by decide +kernel
theorem dX7_copy_3 : decode cX7_copy 3 = .ok (.sipush 216, 3) := by decide +kernel
theorem dX7_copy_6 : decode cX7_copy 6 = .ok (.if_icmp .ge 21, 3) := by decide +kernel
theorem dX7_copy_9 : decode cX7_copy 9 = .ok (.aload_n 0, 1) := by decide +kernel
theorem dX7_copy_10 : decode cX7_copy 10 = .ok (.getfield 13, 3) := by decide +kernel
theorem dX7_copy_13 : decode cX7_copy 13 = .ok (.iload_n 1, 1) := by decide +kernel
theorem dX7_copy_14 : decode cX7_copy 14 = .ok (.aload_n 0, 1) := by decide +kernel
theorem dX7_copy_15 : decode cX7_copy 15 = .ok (.getfield 7, 3) := by decide +kernel
theorem dX7_copy_18 : decode cX7_copy 18 = .ok (.iload_n 1, 1) := by decide +kernel
theorem dX7_copy_19 : decode cX7_copy 19 = .ok (.iaload, 1) := by decide +kernel
theorem dX7_copy_20 : decode cX7_copy 20 = .ok (.iastore, 1) := by decide +kernel
theorem dX7_copy_21 : decode cX7_copy 21 = .ok (.iinc 1 1, 3) := by decide +kernel
theorem dX7_copy_24 : decode cX7_copy 24 = .ok (.goto (-22), 3) := by decide +kernel
theorem dX7_copy_27 : decode cX7_copy 27 = .ok (.return_, 1) := by decide +kernel
theorem dX7_back_0 : decode cX7_back 0 = .ok (.iconst 0, 1) := by decide +kernel
theorem dX7_back_1 : decode cX7_back 1 = .ok (.istore_n 1, 1) := by decide +kernel
theorem dX7_back_2 : decode cX7_back 2 = .ok (.iload_n 1, 1) := by decide +kernel
theorem dX7_back_3 : decode cX7_back 3 = .ok (.sipush 216, 3) := by decide +kernel
theorem dX7_back_6 : decode cX7_back 6 = .ok (.if_icmp .ge 21, 3) := by decide +kernel
theorem dX7_back_9 : decode cX7_back 9 = .ok (.aload_n 0, 1) := by decide +kernel
theorem dX7_back_10 : decode cX7_back 10 = .ok (.getfield 7, 3) := by decide +kernel
theorem dX7_back_13 : decode cX7_back 13 = .ok (.iload_n 1, 1) := by decide +kernel
theorem dX7_back_14 : decode cX7_back 14 = .ok (.aload_n 0, 1) := by decide +kernel
theorem dX7_back_15 : decode cX7_back 15 = .ok (.getfield 13, 3) := by decide +kernel
theorem dX7_back_18 : decode cX7_back 18 = .ok (.iload_n 1, 1) := by decide +kernel
theorem dX7_back_19 : decode cX7_back 19 = .ok (.iaload, 1) := by decide +kernel
theorem dX7_back_20 : decode cX7_back 20 = .ok (.iastore, 1) := by decide +kernel
theorem dX7_back_21 : decode cX7_back 21 = .ok (.iinc 1 1, 3) := by decide +kernel
theorem dX7_back_24 : decode cX7_back 24 = .ok (.goto (-22), 3) := by decide +kernel
theorem dX7_back_27 : decode cX7_back 27 = .ok (.return_, 1) := by decide +kernel
theorem dX7_save_0 : decode cX7_save 0 = .ok (.iconst 0, 1) := by decide +kernel
theorem dX7_save_1 : decode cX7_save 1 = .ok (.istore_n 1, 1) := by decide +kernel
theorem dX7_save_2 : decode cX7_save 2 = .ok (.iload_n 1, 1) := by decide +kernel
theorem dX7_save_3 : decode cX7_save 3 = .ok (.sipush 216, 3) := by decide +kernel
theorem dX7_save_6 : decode cX7_save 6 = .ok (.if_icmp .ge 30, 3) := by decide +kernel
theorem dX7_save_9 : decode cX7_save 9 = .ok (.aload_n 0, 1) := by decide +kernel
theorem dX7_save_10 : decode cX7_save 10 = .ok (.getfield 16, 3) := by decide +kernel
theorem dX7_save_13 : decode cX7_save 13 = .ok (.sipush 216, 3) := by decide +kernel
theorem dX7_save_16 : decode cX7_save 16 = .ok (.aload_n 0, 1) := by decide +kernel
theorem dX7_save_17 : decode cX7_save 17 = .ok (.getfield 40, 3) := by decide +kernel
theorem dX7_save_20 : decode cX7_save 20 = .ok (.imul, 1) := by decide +kernel
theorem dX7_save_21 : decode cX7_save 21 = .ok (.iload_n 1, 1) := by decide +kernel
theorem dX7_save_22 : decode cX7_save 22 = .ok (.iadd, 1) := by decide +kernel
theorem dX7_save_23 : decode cX7_save 23 = .ok (.aload_n 0, 1) := by decide +kernel
theorem dX7_save_24 : decode cX7_save 24 = .ok (.getfield 7, 3) := by decide +kernel
theorem dX7_save_27 : decode cX7_save 27 = .ok (.iload_n 1, 1) := by decide +kernel
theorem dX7_save_28 : decode cX7_save 28 = .ok (.iaload, 1) := by decide +kernel
theorem dX7_save_29 : decode cX7_save 29 = .ok (.iastore, 1) := by decide +kernel
theorem dX7_save_30 : decode cX7_save 30 = .ok (.iinc 1 1, 3) := by decide +kernel
theorem dX7_save_33 : decode cX7_save 33 = .ok (.goto (-31), 3) := by decide +kernel
theorem dX7_save_36 : decode cX7_save 36 = .ok (.aload_n 0, 1) := by decide +kernel
theorem dX7_save_37 : decode cX7_save 37 = .ok (.aload_n 0, 1) := by decide +kernel
theorem dX7_save_38 : decode cX7_save 38 = .ok (.getfield 40, 3) := by decide +kernel
theorem dX7_save_41 : decode cX7_save 41 = .ok (.iconst 1, 1) := by decide +kernel
theorem dX7_save_42 : decode cX7_save 42 = .ok (.iadd, 1) := by decide +kernel
theorem dX7_save_43 : decode cX7_save 43 = .ok (.iconst 4, 1) := by decide +kernel
theorem dX7_save_44 : decode cX7_save 44 = .ok (.irem, 1) := by decide +kernel
theorem dX7_save_45 : decode cX7_save 45 = .ok (.putfield 40, 3) := by decide +kernel
theorem dX7_save_48 : decode cX7_save 48 = .ok (.aload_n 0, 1) := by decide +kernel
theorem dX7_save_49 : decode cX7_save 49 = .ok (.aload_n 0, 1) := by decide +kernel
theorem dX7_save_50 : decode cX7_save 50 = .ok (.getfield 43, 3) := by decide +kernel
theorem dX7_save_53 : decode cX7_save 53 = .ok (.iconst 4, 1) := by decide +kernel
theorem dX7_save_54 : decode cX7_save 54 = .ok (.if_icmp .ge 12, 3) := by decide +kernel
theorem dX7_save_57 : decode cX7_save 57 = .ok (.aload_n 0, 1) := by decide +kernel
theorem dX7_save_58 : decode cX7_save 58 = .ok (.getfield 43, 3) := by decide +kernel
theorem dX7_save_61 : decode cX7_save 61 = .ok (.iconst 1, 1) := by decide +kernel
theorem dX7_save_62 : decode cX7_save 62 = .ok (.iadd, 1) := by decide +kernel
theorem dX7_save_63 : decode cX7_save 63 = .ok (.goto 4, 3) := by decide +kernel
theorem dX7_save_66 : decode cX7_save 66 = .ok (.iconst 4, 1) := by decide +kernel
theorem dX7_save_67 : decode cX7_save 67 = .ok (.putfield 43, 3) := by decide +kernel
theorem dX7_save_70 : decode cX7_save 70 = .ok (.return_, 1) := by decide +kernel
theorem dX7_undo_0 : decode cX7_undo 0 = .ok (.aload_n 0, 1) := by decide +kernel
theorem dX7_undo_1 : decode cX7_undo 1 = .ok (.aload_n 0, 1) := by decide +kernel
theorem dX7_undo_2 : decode cX7_undo 2 = .ok (.getfield 43, 3) := by decide +kernel
theorem dX7_undo_5 : decode cX7_undo 5 = .ok (.ifCond .ne 7, 3) := by decide +kernel
theorem dX7_undo_8 : decode cX7_undo 8 = .ok (.iconst 1, 1) := by decide +kernel
theorem dX7_undo_9 : decode cX7_undo 9 = .ok (.goto 4, 3) := by decide +kernel
theorem dX7_undo_12 : decode cX7_undo 12 = .ok (.iconst 0, 1) := by decide +kernel
theorem dX7_undo_13 : decode cX7_undo 13 = .ok (.iconst 0, 1) := by decide +kernel
theorem dX7_undo_14 : decode cX7_undo 14 = .ok (.iconst 0, 1) := by decide +kernel
theorem dX7_undo_15 : decode cX7_undo 15 = .ok (.invokevirtual 46, 3) := by decide +kernel
theorem dX7_undo_18 : decode cX7_undo 18 = .ok (.ifCond .eq 5, 3) := by decide +kernel
theorem dX7_undo_21 : decode cX7_undo 21 = .ok (.iconst 0, 1) := by decide +kernel
theorem dX7_undo_22 : decode cX7_undo 22 = .ok (.ireturn, 1) := by decide +kernel
theorem dX7_undo_23 : decode cX7_undo 23 = .ok (.aload_n 0, 1) := by decide +kernel
theorem dX7_undo_24 : decode cX7_undo 24 = .ok (.aload_n 0, 1) := by decide +kernel
theorem dX7_undo_25 : decode cX7_undo 25 = .ok (.getfield 40, 3) := by decide +kernel
theorem dX7_undo_28 : decode cX7_undo 28 = .ok (.iconst 4, 1) := by decide +kernel
theorem dX7_undo_29 : decode cX7_undo 29 = .ok (.iadd, 1) := by decide +kernel
theorem dX7_undo_30 : decode cX7_undo 30 = .ok (.iconst 1, 1) := by decide +kernel
theorem dX7_undo_31 : decode cX7_undo 31 = .ok (.isub, 1) := by decide +kernel
theorem dX7_undo_32 : decode cX7_undo 32 = .ok (.iconst 4, 1) := by decide +kernel
theorem dX7_undo_33 : decode cX7_undo 33 = .ok (.irem, 1) := by decide +kernel
theorem dX7_undo_34 : decode cX7_undo 34 = .ok (.putfield 40, 3) := by decide +kernel
theorem dX7_undo_37 : decode cX7_undo 37 = .ok (.aload_n 0, 1) := by decide +kernel
theorem dX7_undo_38 : decode cX7_undo 38 = .ok (.dup, 1) := by decide +kernel
theorem dX7_undo_39 : decode cX7_undo 39 = .ok (.getfield 43, 3) := by decide +kernel
theorem dX7_undo_42 : decode cX7_undo 42 = .ok (.iconst 1, 1) := by decide +kernel
theorem dX7_undo_43 : decode cX7_undo 43 = .ok (.isub, 1) := by decide +kernel
theorem dX7_undo_44 : decode cX7_undo 44 = .ok (.putfield 43, 3) := by decide +kernel
theorem dX7_undo_47 : decode cX7_undo 47 = .ok (.iconst 0, 1) := by decide +kernel
theorem dX7_undo_48 : decode cX7_undo 48 = .ok (.istore_n 1, 1) := by decide +kernel
theorem dX7_undo_49 : decode cX7_undo 49 = .ok (.iload_n 1, 1) := by decide +kernel
theorem dX7_undo_50 : decode cX7_undo 50 = .ok (.sipush 216, 3) := by decide +kernel
theorem dX7_undo_53 : decode cX7_undo 53 = .ok (.if_icmp .ge 30, 3) := by decide +kernel
theorem dX7_undo_56 : decode cX7_undo 56 = .ok (.aload_n 0, 1) := by decide +kernel
theorem dX7_undo_57 : decode cX7_undo 57 = .ok (.getfield 7, 3) := by decide +kernel
theorem dX7_undo_60 : decode cX7_undo 60 = .ok (.iload_n 1, 1) := by decide +kernel
theorem dX7_undo_61 : decode cX7_undo 61 = .ok (.aload_n 0, 1) := by decide +kernel
theorem dX7_undo_62 : decode cX7_undo 62 = .ok (.getfield 16, 3) := by decide +kernel
theorem dX7_undo_65 : decode cX7_undo 65 = .ok (.sipush 216, 3) := by decide +kernel
theorem dX7_undo_68 : decode cX7_undo 68 = .ok (.aload_n 0, 1) := by decide +kernel
theorem dX7_undo_69 : decode cX7_undo 69 = .ok (.getfield 40, 3) := by decide +kernel
theorem dX7_undo_72 : decode cX7_undo 72 = .ok (.imul, 1) := by decide +kernel
theorem dX7_undo_73 : decode cX7_undo 73 = .ok (.iload_n 1, 1) := by decide +kernel
theorem dX7_undo_74 : decode cX7_undo 74 = .ok (.iadd, 1) := by decide +kernel
theorem dX7_undo_75 : decode cX7_undo 75 = .ok (.iaload, 1) := by decide +kernel
theorem dX7_undo_76 : decode cX7_undo 76 = .ok (.iastore, 1) := by decide +kernel
theorem dX7_undo_77 : decode cX7_undo 77 = .ok (.iinc 1 1, 3) := by decide +kernel
theorem dX7_undo_80 : decode cX7_undo 80 = .ok (.goto (-31), 3) := by decide +kernel
theorem dX7_undo_83 : decode cX7_undo 83 = .ok (.aload_n 0, 1) := by decide +kernel
theorem dX7_undo_84 : decode cX7_undo 84 = .ok (.getfield 43, 3) := by decide +kernel
theorem dX7_undo_87 : decode cX7_undo 87 = .ok (.ireturn, 1) := by decide +kernel
theorem dX7_placeOf_0 : decode cX7_placeOf 0 = .ok (.iconst 0, 1) := by decide +kernel
theorem dX7_placeOf_1 : decode cX7_placeOf 1 = .ok (.istore_n 2, 1) := by decide +kernel
theorem dX7_placeOf_2 : decode cX7_placeOf 2 = .ok (.iload_n 2, 1) := by decide +kernel
theorem dX7_placeOf_3 : decode cX7_placeOf 3 = .ok (.aload_n 0, 1) := by decide +kernel
theorem dX7_placeOf_4 : decode cX7_placeOf 4 = .ok (.getfield 7, 3) := by decide +kernel
theorem dX7_placeOf_7 : decode cX7_placeOf 7 = .ok (.iconst 3, 1) := by decide +kernel
theorem dX7_placeOf_8 : decode cX7_placeOf 8 = .ok (.iaload, 1) := by decide +kernel
theorem dX7_placeOf_9 : decode cX7_placeOf 9 = .ok (.if_icmp .ge 24, 3) := by decide +kernel
theorem dX7_placeOf_12 : decode cX7_placeOf 12 = .ok (.aload_n 0, 1) := by decide +kernel
theorem dX7_placeOf_13 : decode cX7_placeOf 13 = .ok (.getfield 7, 3) := by decide +kernel
theorem dX7_placeOf_16 : decode cX7_placeOf 16 = .ok (.bipush 16, 2) := by decide +kernel
theorem dX7_placeOf_18 : decode cX7_placeOf 18 = .ok (.iload_n 2, 1) := by decide +kernel
theorem dX7_placeOf_19 : decode cX7_placeOf 19 = .ok (.iadd, 1) := by decide +kernel
theorem dX7_placeOf_20 : decode cX7_placeOf 20 = .ok (.iaload, 1) := by decide +kernel
theorem dX7_placeOf_21 : decode cX7_placeOf 21 = .ok (.iload_n 1, 1) := by decide +kernel
theorem dX7_placeOf_22 : decode cX7_placeOf 22 = .ok (.if_icmp .ne 5, 3) := by decide +kernel
theorem dX7_placeOf_25 : decode cX7_placeOf 25 = .ok (.iload_n 2, 1) := by decide +kernel
theorem dX7_placeOf_26 : decode cX7_placeOf 26 = .ok (.ireturn, 1) := by decide +kernel
theorem dX7_placeOf_27 : decode cX7_placeOf 27 = .ok (.iinc 2 1, 3) := by decide +kernel
theorem dX7_placeOf_30 : decode cX7_placeOf 30 = .ok (.goto (-28), 3) := by decide +kernel
theorem dX7_placeOf_33 : decode cX7_placeOf 33 = .ok (.iconst (-1), 1) := by decide +kernel
theorem dX7_placeOf_34 : decode cX7_placeOf 34 = .ok (.ireturn, 1) := by decide +kernel
theorem dX7_holder_0 : decode cX7_holder 0 = .ok (.aload_n 0, 1) := by decide +kernel
theorem dX7_holder_1 : decode cX7_holder 1 = .ok (.getfield 7, 3) := by decide +kernel
theorem dX7_holder_4 : decode cX7_holder 4 = .ok (.sipush 136, 3) := by decide +kernel
theorem dX7_holder_7 : decode cX7_holder 7 = .ok (.iload_n 1, 1) := by decide +kernel
theorem dX7_holder_8 : decode cX7_holder 8 = .ok (.iadd, 1) := by decide +kernel
theorem dX7_holder_9 : decode cX7_holder 9 = .ok (.iaload, 1) := by decide +kernel
theorem dX7_holder_10 : decode cX7_holder 10 = .ok (.ifCond .ne 15, 3) := by decide +kernel
theorem dX7_holder_13 : decode cX7_holder 13 = .ok (.aload_n 0, 1) := by decide +kernel
theorem dX7_holder_14 : decode cX7_holder 14 = .ok (.getfield 7, 3) := by decide +kernel
theorem dX7_holder_17 : decode cX7_holder 17 = .ok (.bipush 56, 2) := by decide +kernel
theorem dX7_holder_19 : decode cX7_holder 19 = .ok (.iload_n 1, 1) := by decide +kernel
theorem dX7_holder_20 : decode cX7_holder 20 = .ok (.iadd, 1) := by decide +kernel
theorem dX7_holder_21 : decode cX7_holder 21 = .ok (.iaload, 1) := by decide +kernel
theorem dX7_holder_22 : decode cX7_holder 22 = .ok (.goto 12, 3) := by decide +kernel
theorem dX7_holder_25 : decode cX7_holder 25 = .ok (.aload_n 0, 1) := by decide +kernel
theorem dX7_holder_26 : decode cX7_holder 26 = .ok (.getfield 7, 3) := by decide +kernel
theorem dX7_holder_29 : decode cX7_holder 29 = .ok (.bipush 96, 2) := by decide +kernel
theorem dX7_holder_31 : decode cX7_holder 31 = .ok (.iload_n 1, 1) := by decide +kernel
theorem dX7_holder_32 : decode cX7_holder 32 = .ok (.iadd, 1) := by decide +kernel
theorem dX7_holder_33 : decode cX7_holder 33 = .ok (.iaload, 1) := by decide +kernel
theorem dX7_holder_34 : decode cX7_holder 34 = .ok (.ireturn, 1) := by decide +kernel
theorem dX7_other_0 : decode cX7_other 0 = .ok (.aload_n 0, 1) := by decide +kernel
theorem dX7_other_1 : decode cX7_other 1 = .ok (.getfield 7, 3) := by decide +kernel
theorem dX7_other_4 : decode cX7_other 4 = .ok (.sipush 136, 3) := by decide +kernel
theorem dX7_other_7 : decode cX7_other 7 = .ok (.iload_n 1, 1) := by decide +kernel
theorem dX7_other_8 : decode cX7_other 8 = .ok (.iadd, 1) := by decide +kernel
theorem dX7_other_9 : decode cX7_other 9 = .ok (.iaload, 1) := by decide +kernel
theorem dX7_other_10 : decode cX7_other 10 = .ok (.ifCond .ne 15, 3) := by decide +kernel
theorem dX7_other_13 : decode cX7_other 13 = .ok (.aload_n 0, 1) := by decide +kernel
theorem dX7_other_14 : decode cX7_other 14 = .ok (.getfield 7, 3) := by decide +kernel
theorem dX7_other_17 : decode cX7_other 17 = .ok (.bipush 96, 2) := by decide +kernel
theorem dX7_other_19 : decode cX7_other 19 = .ok (.iload_n 1, 1) := by decide +kernel
theorem dX7_other_20 : decode cX7_other 20 = .ok (.iadd, 1) := by decide +kernel
theorem dX7_other_21 : decode cX7_other 21 = .ok (.iaload, 1) := by decide +kernel
theorem dX7_other_22 : decode cX7_other 22 = .ok (.goto 12, 3) := by decide +kernel
theorem dX7_other_25 : decode cX7_other 25 = .ok (.aload_n 0, 1) := by decide +kernel
theorem dX7_other_26 : decode cX7_other 26 = .ok (.getfield 7, 3) := by decide +kernel
theorem dX7_other_29 : decode cX7_other 29 = .ok (.bipush 56, 2) := by decide +kernel
theorem dX7_other_31 : decode cX7_other 31 = .ok (.iload_n 1, 1) := by decide +kernel
theorem dX7_other_32 : decode cX7_other 32 = .ok (.iadd, 1) := by decide +kernel
theorem dX7_other_33 : decode cX7_other 33 = .ok (.iaload, 1) := by decide +kernel
theorem dX7_other_34 : decode cX7_other 34 = .ok (.ireturn, 1) := by decide +kernel
theorem dX7_load_0 : decode cX7_load 0 = .ok (.iconst 0, 1) := by decide +kernel
theorem dX7_load_1 : decode cX7_load 1 = .ok (.istore_n 2, 1) := by decide +kernel
theorem dX7_load_2 : decode cX7_load 2 = .ok (.iconst 0, 1) := by decide +kernel
theorem dX7_load_3 : decode cX7_load 3 = .ok (.istore_n 3, 1) := by decide +kernel
theorem dX7_load_4 : decode cX7_load 4 = .ok (.iload_n 3, 1) := by decide +kernel
theorem dX7_load_5 : decode cX7_load 5 = .ok (.aload_n 0, 1) := by decide +kernel
theorem dX7_load_6 : decode cX7_load 6 = .ok (.getfield 7, 3) := by decide +kernel
theorem dX7_load_9 : decode cX7_load 9 = .ok (.iconst 3, 1) := by decide +kernel
theorem dX7_load_10 : decode cX7_load 10 = .ok (.iaload, 1) := by decide +kernel
theorem dX7_load_11 : decode cX7_load 11 = .ok (.if_icmp .ge 26, 3) := by decide +kernel
theorem dX7_load_14 : decode cX7_load 14 = .ok (.iload_n 2, 1) := by decide +kernel
theorem dX7_load_15 : decode cX7_load 15 = .ok (.aload_n 0, 1) := by decide +kernel
theorem dX7_load_16 : decode cX7_load 16 = .ok (.iload_n 3, 1) := by decide +kernel
theorem dX7_load_17 : decode cX7_load 17 = .ok (.invokevirtual 50, 3) := by decide +kernel
theorem dX7_load_20 : decode cX7_load 20 = .ok (.iload_n 1, 1) := by decide +kernel
theorem dX7_load_21 : decode cX7_load 21 = .ok (.if_icmp .ne 7, 3) := by decide +kernel
theorem dX7_load_24 : decode cX7_load 24 = .ok (.iconst 1, 1) := by decide +kernel
theorem dX7_load_25 : decode cX7_load 25 = .ok (.goto 4, 3) := by decide +kernel
theorem dX7_load_28 : decode cX7_load 28 = .ok (.iconst 0, 1) := by decide +kernel
theorem dX7_load_29 : decode cX7_load 29 = .ok (.iadd, 1) := by decide +kernel
theorem dX7_load_30 : decode cX7_load 30 = .ok (.istore_n 2, 1) := by decide +kernel
theorem dX7_load_31 : decode cX7_load 31 = .ok (.iinc 3 1, 3) := by decide +kernel
theorem dX7_load_34 : decode cX7_load 34 = .ok (.goto (-30), 3) := by decide +kernel
theorem dX7_load_37 : decode cX7_load 37 = .ok (.iload_n 2, 1) := by decide +kernel
theorem dX7_load_38 : decode cX7_load 38 = .ok (.ireturn, 1) := by decide +kernel
theorem dX7_turns_0 : decode cX7_turns 0 = .ok (.aload_n 0, 1) := by decide +kernel
theorem dX7_turns_1 : decode cX7_turns 1 = .ok (.getfield 7, 3) := by decide +kernel
theorem dX7_turns_4 : decode cX7_turns 4 = .ok (.sipush 136, 3) := by decide +kernel
theorem dX7_turns_7 : decode cX7_turns 7 = .ok (.iload_n 1, 1) := by decide +kernel
theorem dX7_turns_8 : decode cX7_turns 8 = .ok (.iadd, 1) := by decide +kernel
theorem dX7_turns_9 : decode cX7_turns 9 = .ok (.iconst 1, 1) := by decide +kernel
theorem dX7_turns_10 : decode cX7_turns 10 = .ok (.aload_n 0, 1) := by decide +kernel
theorem dX7_turns_11 : decode cX7_turns 11 = .ok (.getfield 7, 3) := by decide +kernel
theorem dX7_turns_14 : decode cX7_turns 14 = .ok (.sipush 136, 3) := by decide +kernel
theorem dX7_turns_17 : decode cX7_turns 17 = .ok (.iload_n 1, 1) := by decide +kernel
theorem dX7_turns_18 : decode cX7_turns 18 = .ok (.iadd, 1) := by decide +kernel
theorem dX7_turns_19 : decode cX7_turns 19 = .ok (.iaload, 1) := by decide +kernel
theorem dX7_turns_20 : decode cX7_turns 20 = .ok (.isub, 1) := by decide +kernel
theorem dX7_turns_21 : decode cX7_turns 21 = .ok (.iastore, 1) := by decide +kernel
theorem dX7_turns_22 : decode cX7_turns 22 = .ok (.aload_n 0, 1) := by decide +kernel
theorem dX7_turns_23 : decode cX7_turns 23 = .ok (.getfield 7, 3) := by decide +kernel
theorem dX7_turns_26 : decode cX7_turns 26 = .ok (.sipush 176, 3) := by decide +kernel
theorem dX7_turns_29 : decode cX7_turns 29 = .ok (.iload_n 1, 1) := by decide +kernel
theorem dX7_turns_30 : decode cX7_turns 30 = .ok (.iadd, 1) := by decide +kernel
theorem dX7_turns_31 : decode cX7_turns 31 = .ok (.dup2, 1) := by decide +kernel
theorem dX7_turns_32 : decode cX7_turns 32 = .ok (.iaload, 1) := by decide +kernel
theorem dX7_turns_33 : decode cX7_turns 33 = .ok (.iconst 1, 1) := by decide +kernel
theorem dX7_turns_34 : decode cX7_turns 34 = .ok (.iadd, 1) := by decide +kernel
theorem dX7_turns_35 : decode cX7_turns 35 = .ok (.iastore, 1) := by decide +kernel
theorem dX7_turns_36 : decode cX7_turns 36 = .ok (.aload_n 0, 1) := by decide +kernel
theorem dX7_turns_37 : decode cX7_turns 37 = .ok (.getfield 7, 3) := by decide +kernel
theorem dX7_turns_40 : decode cX7_turns 40 = .ok (.iconst 2, 1) := by decide +kernel
theorem dX7_turns_41 : decode cX7_turns 41 = .ok (.dup2, 1) := by decide +kernel
theorem dX7_turns_42 : decode cX7_turns 42 = .ok (.iaload, 1) := by decide +kernel
theorem dX7_turns_43 : decode cX7_turns 43 = .ok (.iconst 1, 1) := by decide +kernel
theorem dX7_turns_44 : decode cX7_turns 44 = .ok (.iadd, 1) := by decide +kernel
theorem dX7_turns_45 : decode cX7_turns 45 = .ok (.iastore, 1) := by decide +kernel
theorem dX7_turns_46 : decode cX7_turns 46 = .ok (.return_, 1) := by decide +kernel
theorem dX7_adds_0 : decode cX7_adds 0 = .ok (.aload_n 0, 1) := by decide +kernel
theorem dX7_adds_1 : decode cX7_adds 1 = .ok (.getfield 7, 3) := by decide +kernel
theorem dX7_adds_4 : decode cX7_adds 4 = .ok (.iconst 3, 1) := by decide +kernel
theorem dX7_adds_5 : decode cX7_adds 5 = .ok (.iaload, 1) := by decide +kernel
theorem dX7_adds_6 : decode cX7_adds 6 = .ok (.istore_n 3, 1) := by decide +kernel
theorem dX7_adds_7 : decode cX7_adds 7 = .ok (.aload_n 0, 1) := by decide +kernel
theorem dX7_adds_8 : decode cX7_adds 8 = .ok (.getfield 7, 3) := by decide +kernel
theorem dX7_adds_11 : decode cX7_adds 11 = .ok (.bipush 16, 2) := by decide +kernel
theorem dX7_adds_13 : decode cX7_adds 13 = .ok (.iload_n 3, 1) := by decide +kernel
theorem dX7_adds_14 : decode cX7_adds 14 = .ok (.iadd, 1) := by decide +kernel
theorem dX7_adds_15 : decode cX7_adds 15 = .ok (.aload_n 0, 1) := by decide +kernel
theorem dX7_adds_16 : decode cX7_adds 16 = .ok (.getfield 7, 3) := by decide +kernel
theorem dX7_adds_19 : decode cX7_adds 19 = .ok (.iconst 1, 1) := by decide +kernel
theorem dX7_adds_20 : decode cX7_adds 20 = .ok (.iaload, 1) := by decide +kernel
theorem dX7_adds_21 : decode cX7_adds 21 = .ok (.iastore, 1) := by decide +kernel
theorem dX7_adds_22 : decode cX7_adds 22 = .ok (.aload_n 0, 1) := by decide +kernel
theorem dX7_adds_23 : decode cX7_adds 23 = .ok (.getfield 7, 3) := by decide +kernel
theorem dX7_adds_26 : decode cX7_adds 26 = .ok (.bipush 56, 2) := by decide +kernel
theorem dX7_adds_28 : decode cX7_adds 28 = .ok (.iload_n 3, 1) := by decide +kernel
theorem dX7_adds_29 : decode cX7_adds 29 = .ok (.iadd, 1) := by decide +kernel
theorem dX7_adds_30 : decode cX7_adds 30 = .ok (.iload_n 1, 1) := by decide +kernel
theorem dX7_adds_31 : decode cX7_adds 31 = .ok (.iastore, 1) := by decide +kernel
theorem dX7_adds_32 : decode cX7_adds 32 = .ok (.aload_n 0, 1) := by decide +kernel
theorem dX7_adds_33 : decode cX7_adds 33 = .ok (.getfield 7, 3) := by decide +kernel
theorem dX7_adds_36 : decode cX7_adds 36 = .ok (.bipush 96, 2) := by decide +kernel
theorem dX7_adds_38 : decode cX7_adds 38 = .ok (.iload_n 3, 1) := by decide +kernel
theorem dX7_adds_39 : decode cX7_adds 39 = .ok (.iadd, 1) := by decide +kernel
theorem dX7_adds_40 : decode cX7_adds 40 = .ok (.iload_n 2, 1) := by decide +kernel
theorem dX7_adds_41 : decode cX7_adds 41 = .ok (.iastore, 1) := by decide +kernel
theorem dX7_adds_42 : decode cX7_adds 42 = .ok (.aload_n 0, 1) := by decide +kernel
theorem dX7_adds_43 : decode cX7_adds 43 = .ok (.getfield 7, 3) := by decide +kernel
theorem dX7_adds_46 : decode cX7_adds 46 = .ok (.sipush 136, 3) := by decide +kernel
theorem dX7_adds_49 : decode cX7_adds 49 = .ok (.iload_n 3, 1) := by decide +kernel
theorem dX7_adds_50 : decode cX7_adds 50 = .ok (.iadd, 1) := by decide +kernel
theorem dX7_adds_51 : decode cX7_adds 51 = .ok (.aload_n 0, 1) := by decide +kernel
theorem dX7_adds_52 : decode cX7_adds 52 = .ok (.iload_n 2, 1) := by decide +kernel
theorem dX7_adds_53 : decode cX7_adds 53 = .ok (.invokevirtual 54, 3) := by decide +kernel
theorem dX7_adds_56 : decode cX7_adds 56 = .ok (.aload_n 0, 1) := by decide +kernel
theorem dX7_adds_57 : decode cX7_adds 57 = .ok (.iload_n 1, 1) := by decide +kernel
theorem dX7_adds_58 : decode cX7_adds 58 = .ok (.invokevirtual 54, 3) := by decide +kernel
theorem dX7_adds_61 : decode cX7_adds 61 = .ok (.if_icmp .ge 7, 3) := by decide +kernel
theorem dX7_adds_64 : decode cX7_adds 64 = .ok (.iconst 1, 1) := by decide +kernel
theorem dX7_adds_65 : decode cX7_adds 65 = .ok (.goto 4, 3) := by decide +kernel
theorem dX7_adds_68 : decode cX7_adds 68 = .ok (.iconst 0, 1) := by decide +kernel
theorem dX7_adds_69 : decode cX7_adds 69 = .ok (.iastore, 1) := by decide +kernel
theorem dX7_adds_70 : decode cX7_adds 70 = .ok (.aload_n 0, 1) := by decide +kernel
theorem dX7_adds_71 : decode cX7_adds 71 = .ok (.getfield 7, 3) := by decide +kernel
theorem dX7_adds_74 : decode cX7_adds 74 = .ok (.sipush 176, 3) := by decide +kernel
theorem dX7_adds_77 : decode cX7_adds 77 = .ok (.iload_n 3, 1) := by decide +kernel
theorem dX7_adds_78 : decode cX7_adds 78 = .ok (.iadd, 1) := by decide +kernel
theorem dX7_adds_79 : decode cX7_adds 79 = .ok (.iconst 0, 1) := by decide +kernel
theorem dX7_adds_80 : decode cX7_adds 80 = .ok (.iastore, 1) := by decide +kernel
theorem dX7_adds_81 : decode cX7_adds 81 = .ok (.aload_n 0, 1) := by decide +kernel
theorem dX7_adds_82 : decode cX7_adds 82 = .ok (.getfield 7, 3) := by decide +kernel
theorem dX7_adds_85 : decode cX7_adds 85 = .ok (.iconst 3, 1) := by decide +kernel
theorem dX7_adds_86 : decode cX7_adds 86 = .ok (.dup2, 1) := by decide +kernel
theorem dX7_adds_87 : decode cX7_adds 87 = .ok (.iaload, 1) := by decide +kernel
theorem dX7_adds_88 : decode cX7_adds 88 = .ok (.iconst 1, 1) := by decide +kernel
theorem dX7_adds_89 : decode cX7_adds 89 = .ok (.iadd, 1) := by decide +kernel
theorem dX7_adds_90 : decode cX7_adds 90 = .ok (.iastore, 1) := by decide +kernel
theorem dX7_adds_91 : decode cX7_adds 91 = .ok (.aload_n 0, 1) := by decide +kernel
theorem dX7_adds_92 : decode cX7_adds 92 = .ok (.getfield 7, 3) := by decide +kernel
theorem dX7_adds_95 : decode cX7_adds 95 = .ok (.iconst 1, 1) := by decide +kernel
theorem dX7_adds_96 : decode cX7_adds 96 = .ok (.dup2, 1) := by decide +kernel
theorem dX7_adds_97 : decode cX7_adds 97 = .ok (.iaload, 1) := by decide +kernel
theorem dX7_adds_98 : decode cX7_adds 98 = .ok (.iconst 1, 1) := by decide +kernel
theorem dX7_adds_99 : decode cX7_adds 99 = .ok (.iadd, 1) := by decide +kernel
theorem dX7_adds_100 : decode cX7_adds 100 = .ok (.iastore, 1) := by decide +kernel
theorem dX7_adds_101 : decode cX7_adds 101 = .ok (.aload_n 0, 1) := by decide +kernel
theorem dX7_adds_102 : decode cX7_adds 102 = .ok (.getfield 7, 3) := by decide +kernel
theorem dX7_adds_105 : decode cX7_adds 105 = .ok (.iconst 1, 1) := by decide +kernel
theorem dX7_adds_106 : decode cX7_adds 106 = .ok (.iaload, 1) := by decide +kernel
theorem dX7_adds_107 : decode cX7_adds 107 = .ok (.iconst 1, 1) := by decide +kernel
theorem dX7_adds_108 : decode cX7_adds 108 = .ok (.isub, 1) := by decide +kernel
theorem dX7_adds_109 : decode cX7_adds 109 = .ok (.ireturn, 1) := by decide +kernel
theorem dX7_removes_0 : decode cX7_removes 0 = .ok (.aload_n 0, 1) := by decide +kernel
theorem dX7_removes_1 : decode cX7_removes 1 = .ok (.iload_n 1, 1) := by decide +kernel
theorem dX7_removes_2 : decode cX7_removes 2 = .ok (.invokevirtual 50, 3) := by decide +kernel
theorem dX7_removes_5 : decode cX7_removes 5 = .ok (.istore_n 2, 1) := by decide +kernel
theorem dX7_removes_6 : decode cX7_removes 6 = .ok (.aload_n 0, 1) := by decide +kernel
theorem dX7_removes_7 : decode cX7_removes 7 = .ok (.getfield 7, 3) := by decide +kernel
theorem dX7_removes_10 : decode cX7_removes 10 = .ok (.iconst 3, 1) := by decide +kernel
theorem dX7_removes_11 : decode cX7_removes 11 = .ok (.dup2, 1) := by decide +kernel
theorem dX7_removes_12 : decode cX7_removes 12 = .ok (.iaload, 1) := by decide +kernel
theorem dX7_removes_13 : decode cX7_removes 13 = .ok (.iconst 1, 1) := by decide +kernel
theorem dX7_removes_14 : decode cX7_removes 14 = .ok (.isub, 1) := by decide +kernel
theorem dX7_removes_15 : decode cX7_removes 15 = .ok (.iastore, 1) := by decide +kernel
theorem dX7_removes_16 : decode cX7_removes 16 = .ok (.iload_n 1, 1) := by decide +kernel
theorem dX7_removes_17 : decode cX7_removes 17 = .ok (.istore_n 3, 1) := by decide +kernel
theorem dX7_removes_18 : decode cX7_removes 18 = .ok (.iload_n 3, 1) := by decide +kernel
theorem dX7_removes_19 : decode cX7_removes 19 = .ok (.aload_n 0, 1) := by decide +kernel
theorem dX7_removes_20 : decode cX7_removes 20 = .ok (.getfield 7, 3) := by decide +kernel
theorem dX7_removes_23 : decode cX7_removes 23 = .ok (.iconst 3, 1) := by decide +kernel
theorem dX7_removes_24 : decode cX7_removes 24 = .ok (.iaload, 1) := by decide +kernel
theorem dX7_removes_25 : decode cX7_removes 25 = .ok (.if_icmp .ge 47, 3) := by decide +kernel
theorem dX7_removes_28 : decode cX7_removes 28 = .ok (.bipush 16, 2) := by decide +kernel
theorem dX7_removes_30 : decode cX7_removes 30 = .ok (.istore 4, 2) := by decide +kernel
theorem dX7_removes_32 : decode cX7_removes 32 = .ok (.iload 4, 2) := by decide +kernel
theorem dX7_removes_34 : decode cX7_removes 34 = .ok (.sipush 216, 3) := by decide +kernel
theorem dX7_removes_37 : decode cX7_removes 37 = .ok (.if_icmp .ge 29, 3) := by decide +kernel
theorem dX7_removes_40 : decode cX7_removes 40 = .ok (.aload_n 0, 1) := by decide +kernel
theorem dX7_removes_41 : decode cX7_removes 41 = .ok (.getfield 7, 3) := by decide +kernel
theorem dX7_removes_44 : decode cX7_removes 44 = .ok (.iload 4, 2) := by decide +kernel
theorem dX7_removes_46 : decode cX7_removes 46 = .ok (.iload_n 3, 1) := by decide +kernel
theorem dX7_removes_47 : decode cX7_removes 47 = .ok (.iadd, 1) := by decide +kernel
theorem dX7_removes_48 : decode cX7_removes 48 = .ok (.aload_n 0, 1) := by decide +kernel
theorem dX7_removes_49 : decode cX7_removes 49 = .ok (.getfield 7, 3) := by decide +kernel
theorem dX7_removes_52 : decode cX7_removes 52 = .ok (.iload 4, 2) := by decide +kernel
theorem dX7_removes_54 : decode cX7_removes 54 = .ok (.iload_n 3, 1) := by decide +kernel
theorem dX7_removes_55 : decode cX7_removes 55 = .ok (.iadd, 1) := by decide +kernel
theorem dX7_removes_56 : decode cX7_removes 56 = .ok (.iconst 1, 1) := by decide +kernel
theorem dX7_removes_57 : decode cX7_removes 57 = .ok (.iadd, 1) := by decide +kernel
theorem dX7_removes_58 : decode cX7_removes 58 = .ok (.iaload, 1) := by decide +kernel
theorem dX7_removes_59 : decode cX7_removes 59 = .ok (.iastore, 1) := by decide +kernel
theorem dX7_removes_60 : decode cX7_removes 60 = .ok (.iinc 4 40, 3) := by decide +kernel
theorem dX7_removes_63 : decode cX7_removes 63 = .ok (.goto (-31), 3) := by decide +kernel
theorem dX7_removes_66 : decode cX7_removes 66 = .ok (.iinc 3 1, 3) := by decide +kernel
theorem dX7_removes_69 : decode cX7_removes 69 = .ok (.goto (-51), 3) := by decide +kernel
theorem dX7_removes_72 : decode cX7_removes 72 = .ok (.iload_n 2, 1) := by decide +kernel
theorem dX7_removes_73 : decode cX7_removes 73 = .ok (.ireturn, 1) := by decide +kernel
theorem dX7_begin_0 : decode cX7_begin 0 = .ok (.aload_n 0, 1) := by decide +kernel
theorem dX7_begin_1 : decode cX7_begin 1 = .ok (.iload_n 1, 1) := by decide +kernel
theorem dX7_begin_2 : decode cX7_begin 2 = .ok (.iconst 2, 1) := by decide +kernel
theorem dX7_begin_3 : decode cX7_begin 3 = .ok (.bipush 12, 2) := by decide +kernel
theorem dX7_begin_5 : decode cX7_begin 5 = .ok (.invokestatic 36, 3) := by decide +kernel
theorem dX7_begin_8 : decode cX7_begin 8 = .ok (.ifCond .ne 7, 3) := by decide +kernel
theorem dX7_begin_11 : decode cX7_begin 11 = .ok (.iconst 1, 1) := by decide +kernel
theorem dX7_begin_12 : decode cX7_begin 12 = .ok (.goto 4, 3) := by decide +kernel
theorem dX7_begin_15 : decode cX7_begin 15 = .ok (.iconst 0, 1) := by decide +kernel
theorem dX7_begin_16 : decode cX7_begin 16 = .ok (.iconst 0, 1) := by decide +kernel
theorem dX7_begin_17 : decode cX7_begin 17 = .ok (.iconst 0, 1) := by decide +kernel
theorem dX7_begin_18 : decode cX7_begin 18 = .ok (.invokevirtual 46, 3) := by decide +kernel
theorem dX7_begin_21 : decode cX7_begin 21 = .ok (.ifCond .eq 5, 3) := by decide +kernel
theorem dX7_begin_24 : decode cX7_begin 24 = .ok (.iconst 0, 1) := by decide +kernel
theorem dX7_begin_25 : decode cX7_begin 25 = .ok (.ireturn, 1) := by decide +kernel
theorem dX7_begin_26 : decode cX7_begin 26 = .ok (.aload_n 0, 1) := by decide +kernel
theorem dX7_begin_27 : decode cX7_begin 27 = .ok (.invokevirtual 57, 3) := by decide +kernel
theorem dX7_begin_30 : decode cX7_begin 30 = .ok (.aload_n 0, 1) := by decide +kernel
theorem dX7_begin_31 : decode cX7_begin 31 = .ok (.getfield 7, 3) := by decide +kernel
theorem dX7_begin_34 : decode cX7_begin 34 = .ok (.iconst 3, 1) := by decide +kernel
theorem dX7_begin_35 : decode cX7_begin 35 = .ok (.iaload, 1) := by decide +kernel
theorem dX7_begin_36 : decode cX7_begin 36 = .ok (.istore_n 2, 1) := by decide +kernel
theorem dX7_begin_37 : decode cX7_begin 37 = .ok (.aload_n 0, 1) := by decide +kernel
theorem dX7_begin_38 : decode cX7_begin 38 = .ok (.iload_n 1, 1) := by decide +kernel
theorem dX7_begin_39 : decode cX7_begin 39 = .ok (.invokevirtual 28, 3) := by decide +kernel
theorem dX7_begin_42 : decode cX7_begin 42 = .ok (.iload_n 2, 1) := by decide +kernel
theorem dX7_begin_43 : decode cX7_begin 43 = .ok (.ireturn, 1) := by decide +kernel
theorem dX7_refusesAdd_0 : decode cX7_refusesAdd 0 = .ok (.aload_n 0, 1) := by decide +kernel
theorem dX7_refusesAdd_1 : decode cX7_refusesAdd 1 = .ok (.aload_n 0, 1) := by decide +kernel
theorem dX7_refusesAdd_2 : decode cX7_refusesAdd 2 = .ok (.iload_n 1, 1) := by decide +kernel
theorem dX7_refusesAdd_3 : decode cX7_refusesAdd 3 = .ok (.invokevirtual 60, 3) := by decide +kernel
theorem dX7_refusesAdd_6 : decode cX7_refusesAdd 6 = .ok (.ifCond .eq 11, 3) := by decide +kernel
theorem dX7_refusesAdd_9 : decode cX7_refusesAdd 9 = .ok (.aload_n 0, 1) := by decide +kernel
theorem dX7_refusesAdd_10 : decode cX7_refusesAdd 10 = .ok (.iload_n 2, 1) := by decide +kernel
theorem dX7_refusesAdd_11 : decode cX7_refusesAdd 11 = .ok (.invokevirtual 60, 3) := by decide +kernel
theorem dX7_refusesAdd_14 : decode cX7_refusesAdd 14 = .ok (.ifCond .ne 7, 3) := by decide +kernel
theorem dX7_refusesAdd_17 : decode cX7_refusesAdd 17 = .ok (.iconst 1, 1) := by decide +kernel
theorem dX7_refusesAdd_18 : decode cX7_refusesAdd 18 = .ok (.goto 4, 3) := by decide +kernel
theorem dX7_refusesAdd_21 : decode cX7_refusesAdd 21 = .ok (.iconst 0, 1) := by decide +kernel
theorem dX7_refusesAdd_22 : decode cX7_refusesAdd 22 = .ok (.iload_n 1, 1) := by decide +kernel
theorem dX7_refusesAdd_23 : decode cX7_refusesAdd 23 = .ok (.iload_n 2, 1) := by decide +kernel
theorem dX7_refusesAdd_24 : decode cX7_refusesAdd 24 = .ok (.if_icmp .ne 7, 3) := by decide +kernel
theorem dX7_refusesAdd_27 : decode cX7_refusesAdd 27 = .ok (.iconst 1, 1) := by decide +kernel
theorem dX7_refusesAdd_28 : decode cX7_refusesAdd 28 = .ok (.goto 4, 3) := by decide +kernel
theorem dX7_refusesAdd_31 : decode cX7_refusesAdd 31 = .ok (.iconst 0, 1) := by decide +kernel
theorem dX7_refusesAdd_32 : decode cX7_refusesAdd 32 = .ok (.aload_n 0, 1) := by decide +kernel
theorem dX7_refusesAdd_33 : decode cX7_refusesAdd 33 = .ok (.getfield 7, 3) := by decide +kernel
theorem dX7_refusesAdd_36 : decode cX7_refusesAdd 36 = .ok (.iconst 3, 1) := by decide +kernel
theorem dX7_refusesAdd_37 : decode cX7_refusesAdd 37 = .ok (.iaload, 1) := by decide +kernel
theorem dX7_refusesAdd_38 : decode cX7_refusesAdd 38 = .ok (.bipush 40, 2) := by decide +kernel
theorem dX7_refusesAdd_40 : decode cX7_refusesAdd 40 = .ok (.if_icmp .ne 7, 3) := by decide +kernel
theorem dX7_refusesAdd_43 : decode cX7_refusesAdd 43 = .ok (.iconst 1, 1) := by decide +kernel
theorem dX7_refusesAdd_44 : decode cX7_refusesAdd 44 = .ok (.goto 4, 3) := by decide +kernel
theorem dX7_refusesAdd_47 : decode cX7_refusesAdd 47 = .ok (.iconst 0, 1) := by decide +kernel
theorem dX7_refusesAdd_48 : decode cX7_refusesAdd 48 = .ok (.invokevirtual 46, 3) := by decide +kernel
theorem dX7_refusesAdd_51 : decode cX7_refusesAdd 51 = .ok (.ireturn, 1) := by decide +kernel
theorem dX7_add_0 : decode cX7_add 0 = .ok (.aload_n 0, 1) := by decide +kernel
theorem dX7_add_1 : decode cX7_add 1 = .ok (.iload_n 1, 1) := by decide +kernel
theorem dX7_add_2 : decode cX7_add 2 = .ok (.iload_n 2, 1) := by decide +kernel
theorem dX7_add_3 : decode cX7_add 3 = .ok (.invokevirtual 64, 3) := by decide +kernel
theorem dX7_add_6 : decode cX7_add 6 = .ok (.ifCond .eq 5, 3) := by decide +kernel
theorem dX7_add_9 : decode cX7_add 9 = .ok (.iconst 0, 1) := by decide +kernel
theorem dX7_add_10 : decode cX7_add 10 = .ok (.ireturn, 1) := by decide +kernel
theorem dX7_add_11 : decode cX7_add 11 = .ok (.aload_n 0, 1) := by decide +kernel
theorem dX7_add_12 : decode cX7_add 12 = .ok (.invokevirtual 57, 3) := by decide +kernel
theorem dX7_add_15 : decode cX7_add 15 = .ok (.aload_n 0, 1) := by decide +kernel
theorem dX7_add_16 : decode cX7_add 16 = .ok (.iload_n 1, 1) := by decide +kernel
theorem dX7_add_17 : decode cX7_add 17 = .ok (.iload_n 2, 1) := by decide +kernel
theorem dX7_add_18 : decode cX7_add 18 = .ok (.invokevirtual 68, 3) := by decide +kernel
theorem dX7_add_21 : decode cX7_add 21 = .ok (.ireturn, 1) := by decide +kernel
theorem dX7_refusesEdge_0 : decode cX7_refusesEdge 0 = .ok (.aload_n 0, 1) := by decide +kernel
theorem dX7_refusesEdge_1 : decode cX7_refusesEdge 1 = .ok (.aload_n 0, 1) := by decide +kernel
theorem dX7_refusesEdge_2 : decode cX7_refusesEdge 2 = .ok (.iload_n 1, 1) := by decide +kernel
theorem dX7_refusesEdge_3 : decode cX7_refusesEdge 3 = .ok (.invokevirtual 72, 3) := by decide +kernel
theorem dX7_refusesEdge_6 : decode cX7_refusesEdge 6 = .ok (.ifCond .ge 7, 3) := by decide +kernel
theorem dX7_refusesEdge_9 : decode cX7_refusesEdge 9 = .ok (.iconst 1, 1) := by decide +kernel
theorem dX7_refusesEdge_10 : decode cX7_refusesEdge 10 = .ok (.goto 4, 3) := by decide +kernel
theorem dX7_refusesEdge_13 : decode cX7_refusesEdge 13 = .ok (.iconst 0, 1) := by decide +kernel
theorem dX7_refusesEdge_14 : decode cX7_refusesEdge 14 = .ok (.iconst 0, 1) := by decide +kernel
theorem dX7_refusesEdge_15 : decode cX7_refusesEdge 15 = .ok (.iconst 0, 1) := by decide +kernel
theorem dX7_refusesEdge_16 : decode cX7_refusesEdge 16 = .ok (.invokevirtual 46, 3) := by decide +kernel
theorem dX7_refusesEdge_19 : decode cX7_refusesEdge 19 = .ok (.ireturn, 1) := by decide +kernel
theorem dX7_remove_0 : decode cX7_remove 0 = .ok (.aload_n 0, 1) := by decide +kernel
theorem dX7_remove_1 : decode cX7_remove 1 = .ok (.iload_n 1, 1) := by decide +kernel
theorem dX7_remove_2 : decode cX7_remove 2 = .ok (.invokevirtual 75, 3) := by decide +kernel
theorem dX7_remove_5 : decode cX7_remove 5 = .ok (.ifCond .eq 5, 3) := by decide +kernel
theorem dX7_remove_8 : decode cX7_remove 8 = .ok (.iconst 0, 1) := by decide +kernel
theorem dX7_remove_9 : decode cX7_remove 9 = .ok (.ireturn, 1) := by decide +kernel
theorem dX7_remove_10 : decode cX7_remove 10 = .ok (.aload_n 0, 1) := by decide +kernel
theorem dX7_remove_11 : decode cX7_remove 11 = .ok (.invokevirtual 57, 3) := by decide +kernel
theorem dX7_remove_14 : decode cX7_remove 14 = .ok (.aload_n 0, 1) := by decide +kernel
theorem dX7_remove_15 : decode cX7_remove 15 = .ok (.aload_n 0, 1) := by decide +kernel
theorem dX7_remove_16 : decode cX7_remove 16 = .ok (.iload_n 1, 1) := by decide +kernel
theorem dX7_remove_17 : decode cX7_remove 17 = .ok (.invokevirtual 72, 3) := by decide +kernel
theorem dX7_remove_20 : decode cX7_remove 20 = .ok (.invokevirtual 78, 3) := by decide +kernel
theorem dX7_remove_23 : decode cX7_remove 23 = .ok (.ireturn, 1) := by decide +kernel
theorem dX7_turn_0 : decode cX7_turn 0 = .ok (.aload_n 0, 1) := by decide +kernel
theorem dX7_turn_1 : decode cX7_turn 1 = .ok (.iload_n 1, 1) := by decide +kernel
theorem dX7_turn_2 : decode cX7_turn 2 = .ok (.invokevirtual 75, 3) := by decide +kernel
theorem dX7_turn_5 : decode cX7_turn 5 = .ok (.ifCond .eq 5, 3) := by decide +kernel
theorem dX7_turn_8 : decode cX7_turn 8 = .ok (.iconst 0, 1) := by decide +kernel
theorem dX7_turn_9 : decode cX7_turn 9 = .ok (.ireturn, 1) := by decide +kernel
theorem dX7_turn_10 : decode cX7_turn 10 = .ok (.aload_n 0, 1) := by decide +kernel
theorem dX7_turn_11 : decode cX7_turn 11 = .ok (.invokevirtual 57, 3) := by decide +kernel
theorem dX7_turn_14 : decode cX7_turn 14 = .ok (.aload_n 0, 1) := by decide +kernel
theorem dX7_turn_15 : decode cX7_turn 15 = .ok (.iload_n 1, 1) := by decide +kernel
theorem dX7_turn_16 : decode cX7_turn 16 = .ok (.invokevirtual 72, 3) := by decide +kernel
theorem dX7_turn_19 : decode cX7_turn 19 = .ok (.istore_n 2, 1) := by decide +kernel
theorem dX7_turn_20 : decode cX7_turn 20 = .ok (.aload_n 0, 1) := by decide +kernel
theorem dX7_turn_21 : decode cX7_turn 21 = .ok (.iload_n 2, 1) := by decide +kernel
theorem dX7_turn_22 : decode cX7_turn 22 = .ok (.invokevirtual 81, 3) := by decide +kernel
theorem dX7_turn_25 : decode cX7_turn 25 = .ok (.aload_n 0, 1) := by decide +kernel
theorem dX7_turn_26 : decode cX7_turn 26 = .ok (.iload_n 2, 1) := by decide +kernel
theorem dX7_turn_27 : decode cX7_turn 27 = .ok (.invokevirtual 50, 3) := by decide +kernel
theorem dX7_turn_30 : decode cX7_turn 30 = .ok (.ireturn, 1) := by decide +kernel
theorem dX7_visits_0 : decode cX7_visits 0 = .ok (.aload_n 0, 1) := by decide +kernel
theorem dX7_visits_1 : decode cX7_visits 1 = .ok (.getfield 22, 3) := by decide +kernel
theorem dX7_visits_4 : decode cX7_visits 4 = .ok (.iconst 0, 1) := by decide +kernel
theorem dX7_visits_5 : decode cX7_visits 5 = .ok (.iload_n 1, 1) := by decide +kernel
theorem dX7_visits_6 : decode cX7_visits 6 = .ok (.iastore, 1) := by decide +kernel
theorem dX7_visits_7 : decode cX7_visits 7 = .ok (.aload_n 0, 1) := by decide +kernel
theorem dX7_visits_8 : decode cX7_visits 8 = .ok (.iconst 1, 1) := by decide +kernel
theorem dX7_visits_9 : decode cX7_visits 9 = .ok (.putfield 84, 3) := by decide +kernel
theorem dX7_visits_12 : decode cX7_visits 12 = .ok (.aload_n 0, 1) := by decide +kernel
theorem dX7_visits_13 : decode cX7_visits 13 = .ok (.iconst 1, 1) := by decide +kernel
theorem dX7_visits_14 : decode cX7_visits 14 = .ok (.iload_n 1, 1) := by decide +kernel
theorem dX7_visits_15 : decode cX7_visits 15 = .ok (.ishl, 1) := by decide +kernel
theorem dX7_visits_16 : decode cX7_visits 16 = .ok (.putfield 87, 3) := by decide +kernel
theorem dX7_visits_19 : decode cX7_visits 19 = .ok (.aload_n 0, 1) := by decide +kernel
theorem dX7_visits_20 : decode cX7_visits 20 = .ok (.getfield 25, 3) := by decide +kernel
theorem dX7_visits_23 : decode cX7_visits 23 = .ok (.iload_n 1, 1) := by decide +kernel
theorem dX7_visits_24 : decode cX7_visits 24 = .ok (.iconst (-1), 1) := by decide +kernel
theorem dX7_visits_25 : decode cX7_visits 25 = .ok (.iastore, 1) := by decide +kernel
theorem dX7_visits_26 : decode cX7_visits 26 = .ok (.iconst 0, 1) := by decide +kernel
theorem dX7_visits_27 : decode cX7_visits 27 = .ok (.istore_n 2, 1) := by decide +kernel
theorem dX7_visits_28 : decode cX7_visits 28 = .ok (.iload_n 2, 1) := by decide +kernel
theorem dX7_visits_29 : decode cX7_visits 29 = .ok (.aload_n 0, 1) := by decide +kernel
theorem dX7_visits_30 : decode cX7_visits 30 = .ok (.getfield 84, 3) := by decide +kernel
theorem dX7_visits_33 : decode cX7_visits 33 = .ok (.if_icmp .ge 102, 3) := by decide +kernel
theorem dX7_visits_36 : decode cX7_visits 36 = .ok (.iconst 0, 1) := by decide +kernel
theorem dX7_visits_37 : decode cX7_visits 37 = .ok (.istore_n 3, 1) := by decide +kernel
theorem dX7_visits_38 : decode cX7_visits 38 = .ok (.iload_n 3, 1) := by decide +kernel
theorem dX7_visits_39 : decode cX7_visits 39 = .ok (.aload_n 0, 1) := by decide +kernel
theorem dX7_visits_40 : decode cX7_visits 40 = .ok (.getfield 7, 3) := by decide +kernel
theorem dX7_visits_43 : decode cX7_visits 43 = .ok (.iconst 3, 1) := by decide +kernel
theorem dX7_visits_44 : decode cX7_visits 44 = .ok (.iaload, 1) := by decide +kernel
theorem dX7_visits_45 : decode cX7_visits 45 = .ok (.if_icmp .ge 84, 3) := by decide +kernel
theorem dX7_visits_48 : decode cX7_visits 48 = .ok (.aload_n 0, 1) := by decide +kernel
theorem dX7_visits_49 : decode cX7_visits 49 = .ok (.iload_n 3, 1) := by decide +kernel
theorem dX7_visits_50 : decode cX7_visits 50 = .ok (.invokevirtual 90, 3) := by decide +kernel
theorem dX7_visits_53 : decode cX7_visits 53 = .ok (.istore 4, 2) := by decide +kernel
theorem dX7_visits_55 : decode cX7_visits 55 = .ok (.aload_n 0, 1) := by decide +kernel
theorem dX7_visits_56 : decode cX7_visits 56 = .ok (.iload_n 3, 1) := by decide +kernel
theorem dX7_visits_57 : decode cX7_visits 57 = .ok (.invokevirtual 50, 3) := by decide +kernel
theorem dX7_visits_60 : decode cX7_visits 60 = .ok (.aload_n 0, 1) := by decide +kernel
theorem dX7_visits_61 : decode cX7_visits 61 = .ok (.getfield 22, 3) := by decide +kernel
theorem dX7_visits_64 : decode cX7_visits 64 = .ok (.iload_n 2, 1) := by decide +kernel
theorem dX7_visits_65 : decode cX7_visits 65 = .ok (.iaload, 1) := by decide +kernel
theorem dX7_visits_66 : decode cX7_visits 66 = .ok (.if_icmp .ne 57, 3) := by decide +kernel
theorem dX7_visits_69 : decode cX7_visits 69 = .ok (.aload_n 0, 1) := by decide +kernel
theorem dX7_visits_70 : decode cX7_visits 70 = .ok (.getfield 87, 3) := by decide +kernel
theorem dX7_visits_73 : decode cX7_visits 73 = .ok (.iload 4, 2) := by decide +kernel
theorem dX7_visits_75 : decode cX7_visits 75 = .ok (.ishr, 1) := by decide +kernel
theorem dX7_visits_76 : decode cX7_visits 76 = .ok (.iconst 1, 1) := by decide +kernel
theorem dX7_visits_77 : decode cX7_visits 77 = .ok (.iand, 1) := by decide +kernel
theorem dX7_visits_78 : decode cX7_visits 78 = .ok (.ifCond .ne 45, 3) := by decide +kernel
theorem dX7_visits_81 : decode cX7_visits 81 = .ok (.aload_n 0, 1) := by decide +kernel
theorem dX7_visits_82 : decode cX7_visits 82 = .ok (.dup, 1) := by decide +kernel
theorem dX7_visits_83 : decode cX7_visits 83 = .ok (.getfield 87, 3) := by decide +kernel
theorem dX7_visits_86 : decode cX7_visits 86 = .ok (.iconst 1, 1) := by decide +kernel
theorem dX7_visits_87 : decode cX7_visits 87 = .ok (.iload 4, 2) := by decide +kernel
theorem dX7_visits_89 : decode cX7_visits 89 = .ok (.ishl, 1) := by decide +kernel
theorem dX7_visits_90 : decode cX7_visits 90 = .ok (.ior, 1) := by decide +kernel
theorem dX7_visits_91 : decode cX7_visits 91 = .ok (.putfield 87, 3) := by decide +kernel
theorem dX7_visits_94 : decode cX7_visits 94 = .ok (.aload_n 0, 1) := by decide +kernel
theorem dX7_visits_95 : decode cX7_visits 95 = .ok (.getfield 25, 3) := by decide +kernel
theorem dX7_visits_98 : decode cX7_visits 98 = .ok (.iload 4, 2) := by decide +kernel
theorem dX7_visits_100 : decode cX7_visits 100 = .ok (.iload_n 3, 1) := by decide +kernel
theorem dX7_visits_101 : decode cX7_visits 101 = .ok (.iastore, 1) := by decide +kernel
theorem dX7_visits_102 : decode cX7_visits 102 = .ok (.aload_n 0, 1) := by decide +kernel
theorem dX7_visits_103 : decode cX7_visits 103 = .ok (.getfield 22, 3) := by decide +kernel
theorem dX7_visits_106 : decode cX7_visits 106 = .ok (.aload_n 0, 1) := by decide +kernel
theorem dX7_visits_107 : decode cX7_visits 107 = .ok (.getfield 84, 3) := by decide +kernel
theorem dX7_visits_110 : decode cX7_visits 110 = .ok (.iload 4, 2) := by decide +kernel
theorem dX7_visits_112 : decode cX7_visits 112 = .ok (.iastore, 1) := by decide +kernel
theorem dX7_visits_113 : decode cX7_visits 113 = .ok (.aload_n 0, 1) := by decide +kernel
theorem dX7_visits_114 : decode cX7_visits 114 = .ok (.dup, 1) := by decide +kernel
theorem dX7_visits_115 : decode cX7_visits 115 = .ok (.getfield 84, 3) := by decide +kernel
theorem dX7_visits_118 : decode cX7_visits 118 = .ok (.iconst 1, 1) := by decide +kernel
theorem dX7_visits_119 : decode cX7_visits 119 = .ok (.iadd, 1) := by decide +kernel
theorem dX7_visits_120 : decode cX7_visits 120 = .ok (.putfield 84, 3) := by decide +kernel
theorem dX7_visits_123 : decode cX7_visits 123 = .ok (.iinc 3 1, 3) := by decide +kernel
theorem dX7_visits_126 : decode cX7_visits 126 = .ok (.goto (-88), 3) := by decide +kernel
theorem dX7_visits_129 : decode cX7_visits 129 = .ok (.iinc 2 1, 3) := by decide +kernel
theorem dX7_visits_132 : decode cX7_visits 132 = .ok (.goto (-104), 3) := by decide +kernel
theorem dX7_visits_135 : decode cX7_visits 135 = .ok (.return_, 1) := by decide +kernel
theorem dX7_lengthTo_0 : decode cX7_lengthTo 0 = .ok (.iconst 0, 1) := by decide +kernel
theorem dX7_lengthTo_1 : decode cX7_lengthTo 1 = .ok (.istore_n 2, 1) := by decide +kernel
theorem dX7_lengthTo_2 : decode cX7_lengthTo 2 = .ok (.iload_n 1, 1) := by decide +kernel
theorem dX7_lengthTo_3 : decode cX7_lengthTo 3 = .ok (.istore_n 3, 1) := by decide +kernel
theorem dX7_lengthTo_4 : decode cX7_lengthTo 4 = .ok (.aload_n 0, 1) := by decide +kernel
theorem dX7_lengthTo_5 : decode cX7_lengthTo 5 = .ok (.getfield 25, 3) := by decide +kernel
theorem dX7_lengthTo_8 : decode cX7_lengthTo 8 = .ok (.iload_n 3, 1) := by decide +kernel
theorem dX7_lengthTo_9 : decode cX7_lengthTo 9 = .ok (.iaload, 1) := by decide +kernel
theorem dX7_lengthTo_10 : decode cX7_lengthTo 10 = .ok (.ifCond .lt 20, 3) := by decide +kernel
theorem dX7_lengthTo_13 : decode cX7_lengthTo 13 = .ok (.aload_n 0, 1) := by decide +kernel
theorem dX7_lengthTo_14 : decode cX7_lengthTo 14 = .ok (.aload_n 0, 1) := by decide +kernel
theorem dX7_lengthTo_15 : decode cX7_lengthTo 15 = .ok (.getfield 25, 3) := by decide +kernel
theorem dX7_lengthTo_18 : decode cX7_lengthTo 18 = .ok (.iload_n 3, 1) := by decide +kernel
theorem dX7_lengthTo_19 : decode cX7_lengthTo 19 = .ok (.iaload, 1) := by decide +kernel
theorem dX7_lengthTo_20 : decode cX7_lengthTo 20 = .ok (.invokevirtual 50, 3) := by decide +kernel
theorem dX7_lengthTo_23 : decode cX7_lengthTo 23 = .ok (.istore_n 3, 1) := by decide +kernel
theorem dX7_lengthTo_24 : decode cX7_lengthTo 24 = .ok (.iinc 2 1, 3) := by decide +kernel
theorem dX7_lengthTo_27 : decode cX7_lengthTo 27 = .ok (.goto (-23), 3) := by decide +kernel
theorem dX7_lengthTo_30 : decode cX7_lengthTo 30 = .ok (.iload_n 2, 1) := by decide +kernel
theorem dX7_lengthTo_31 : decode cX7_lengthTo 31 = .ok (.ireturn, 1) := by decide +kernel
theorem dX7_reliefOf_0 : decode cX7_reliefOf 0 = .ok (.aload_n 0, 1) := by decide +kernel
theorem dX7_reliefOf_1 : decode cX7_reliefOf 1 = .ok (.iload_n 1, 1) := by decide +kernel
theorem dX7_reliefOf_2 : decode cX7_reliefOf 2 = .ok (.invokevirtual 93, 3) := by decide +kernel
theorem dX7_reliefOf_5 : decode cX7_reliefOf 5 = .ok (.aload_n 0, 1) := by decide +kernel
theorem dX7_reliefOf_6 : decode cX7_reliefOf 6 = .ok (.iload_n 1, 1) := by decide +kernel
theorem dX7_reliefOf_7 : decode cX7_reliefOf 7 = .ok (.invokevirtual 54, 3) := by decide +kernel
theorem dX7_reliefOf_10 : decode cX7_reliefOf 10 = .ok (.istore_n 2, 1) := by decide +kernel
theorem dX7_reliefOf_11 : decode cX7_reliefOf 11 = .ok (.iconst 1, 1) := by decide +kernel
theorem dX7_reliefOf_12 : decode cX7_reliefOf 12 = .ok (.istore_n 3, 1) := by decide +kernel
theorem dX7_reliefOf_13 : decode cX7_reliefOf 13 = .ok (.iload_n 3, 1) := by decide +kernel
theorem dX7_reliefOf_14 : decode cX7_reliefOf 14 = .ok (.aload_n 0, 1) := by decide +kernel
theorem dX7_reliefOf_15 : decode cX7_reliefOf 15 = .ok (.getfield 84, 3) := by decide +kernel
theorem dX7_reliefOf_18 : decode cX7_reliefOf 18 = .ok (.if_icmp .ge 32, 3) := by decide +kernel
theorem dX7_reliefOf_21 : decode cX7_reliefOf 21 = .ok (.aload_n 0, 1) := by decide +kernel
theorem dX7_reliefOf_22 : decode cX7_reliefOf 22 = .ok (.aload_n 0, 1) := by decide +kernel
theorem dX7_reliefOf_23 : decode cX7_reliefOf 23 = .ok (.getfield 22, 3) := by decide +kernel
theorem dX7_reliefOf_26 : decode cX7_reliefOf 26 = .ok (.iload_n 3, 1) := by decide +kernel
theorem dX7_reliefOf_27 : decode cX7_reliefOf 27 = .ok (.iaload, 1) := by decide +kernel
theorem dX7_reliefOf_28 : decode cX7_reliefOf 28 = .ok (.invokevirtual 54, 3) := by decide +kernel
theorem dX7_reliefOf_31 : decode cX7_reliefOf 31 = .ok (.iload_n 2, 1) := by decide +kernel
theorem dX7_reliefOf_32 : decode cX7_reliefOf 32 = .ok (.iconst 2, 1) := by decide +kernel
theorem dX7_reliefOf_33 : decode cX7_reliefOf 33 = .ok (.isub, 1) := by decide +kernel
theorem dX7_reliefOf_34 : decode cX7_reliefOf 34 = .ok (.if_icmp .gt 10, 3) := by decide +kernel
theorem dX7_reliefOf_37 : decode cX7_reliefOf 37 = .ok (.aload_n 0, 1) := by decide +kernel
theorem dX7_reliefOf_38 : decode cX7_reliefOf 38 = .ok (.getfield 22, 3) := by decide +kernel
theorem dX7_reliefOf_41 : decode cX7_reliefOf 41 = .ok (.iload_n 3, 1) := by decide +kernel
theorem dX7_reliefOf_42 : decode cX7_reliefOf 42 = .ok (.iaload, 1) := by decide +kernel
theorem dX7_reliefOf_43 : decode cX7_reliefOf 43 = .ok (.ireturn, 1) := by decide +kernel
theorem dX7_reliefOf_44 : decode cX7_reliefOf 44 = .ok (.iinc 3 1, 3) := by decide +kernel
theorem dX7_reliefOf_47 : decode cX7_reliefOf 47 = .ok (.goto (-34), 3) := by decide +kernel
theorem dX7_reliefOf_50 : decode cX7_reliefOf 50 = .ok (.iconst (-1), 1) := by decide +kernel
theorem dX7_reliefOf_51 : decode cX7_reliefOf 51 = .ok (.ireturn, 1) := by decide +kernel
theorem dX7_relieves_0 : decode cX7_relieves 0 = .ok (.aload_n 0, 1) := by decide +kernel
theorem dX7_relieves_1 : decode cX7_relieves 1 = .ok (.iload_n 1, 1) := by decide +kernel
theorem dX7_relieves_2 : decode cX7_relieves 2 = .ok (.invokevirtual 96, 3) := by decide +kernel
theorem dX7_relieves_5 : decode cX7_relieves 5 = .ok (.istore_n 2, 1) := by decide +kernel
theorem dX7_relieves_6 : decode cX7_relieves 6 = .ok (.iconst 0, 1) := by decide +kernel
theorem dX7_relieves_7 : decode cX7_relieves 7 = .ok (.istore_n 3, 1) := by decide +kernel
theorem dX7_relieves_8 : decode cX7_relieves 8 = .ok (.iload_n 2, 1) := by decide +kernel
theorem dX7_relieves_9 : decode cX7_relieves 9 = .ok (.ifCond .lt 39, 3) := by decide +kernel
theorem dX7_relieves_12 : decode cX7_relieves 12 = .ok (.aload_n 0, 1) := by decide +kernel
theorem dX7_relieves_13 : decode cX7_relieves 13 = .ok (.getfield 25, 3) := by decide +kernel
theorem dX7_relieves_16 : decode cX7_relieves 16 = .ok (.iload_n 2, 1) := by decide +kernel
theorem dX7_relieves_17 : decode cX7_relieves 17 = .ok (.iaload, 1) := by decide +kernel
theorem dX7_relieves_18 : decode cX7_relieves 18 = .ok (.ifCond .lt 30, 3) := by decide +kernel
theorem dX7_relieves_21 : decode cX7_relieves 21 = .ok (.aload_n 0, 1) := by decide +kernel
theorem dX7_relieves_22 : decode cX7_relieves 22 = .ok (.getfield 25, 3) := by decide +kernel
theorem dX7_relieves_25 : decode cX7_relieves 25 = .ok (.iload_n 2, 1) := by decide +kernel
theorem dX7_relieves_26 : decode cX7_relieves 26 = .ok (.iaload, 1) := by decide +kernel
theorem dX7_relieves_27 : decode cX7_relieves 27 = .ok (.istore 4, 2) := by decide +kernel
theorem dX7_relieves_29 : decode cX7_relieves 29 = .ok (.aload_n 0, 1) := by decide +kernel
theorem dX7_relieves_30 : decode cX7_relieves 30 = .ok (.iload 4, 2) := by decide +kernel
theorem dX7_relieves_32 : decode cX7_relieves 32 = .ok (.invokevirtual 50, 3) := by decide +kernel
theorem dX7_relieves_35 : decode cX7_relieves 35 = .ok (.istore_n 2, 1) := by decide +kernel
theorem dX7_relieves_36 : decode cX7_relieves 36 = .ok (.aload_n 0, 1) := by decide +kernel
theorem dX7_relieves_37 : decode cX7_relieves 37 = .ok (.iload 4, 2) := by decide +kernel
theorem dX7_relieves_39 : decode cX7_relieves 39 = .ok (.invokevirtual 81, 3) := by decide +kernel
theorem dX7_relieves_42 : decode cX7_relieves 42 = .ok (.iinc 3 1, 3) := by decide +kernel
theorem dX7_relieves_45 : decode cX7_relieves 45 = .ok (.goto (-37), 3) := by decide +kernel
theorem dX7_relieves_48 : decode cX7_relieves 48 = .ok (.iload_n 3, 1) := by decide +kernel
theorem dX7_relieves_49 : decode cX7_relieves 49 = .ok (.ireturn, 1) := by decide +kernel
theorem dX7_greatest_0 : decode cX7_greatest 0 = .ok (.iconst 0, 1) := by decide +kernel
theorem dX7_greatest_1 : decode cX7_greatest 1 = .ok (.istore_n 1, 1) := by decide +kernel
theorem dX7_greatest_2 : decode cX7_greatest 2 = .ok (.iconst 0, 1) := by decide +kernel
theorem dX7_greatest_3 : decode cX7_greatest 3 = .ok (.istore_n 2, 1) := by decide +kernel
theorem dX7_greatest_4 : decode cX7_greatest 4 = .ok (.iload_n 2, 1) := by decide +kernel
theorem dX7_greatest_5 : decode cX7_greatest 5 = .ok (.aload_n 0, 1) := by decide +kernel
theorem dX7_greatest_6 : decode cX7_greatest 6 = .ok (.getfield 7, 3) := by decide +kernel
theorem dX7_greatest_9 : decode cX7_greatest 9 = .ok (.iconst 0, 1) := by decide +kernel
theorem dX7_greatest_10 : decode cX7_greatest 10 = .ok (.iaload, 1) := by decide +kernel
theorem dX7_greatest_11 : decode cX7_greatest 11 = .ok (.if_icmp .ge 28, 3) := by decide +kernel
theorem dX7_greatest_14 : decode cX7_greatest 14 = .ok (.aload_n 0, 1) := by decide +kernel
theorem dX7_greatest_15 : decode cX7_greatest 15 = .ok (.iload_n 2, 1) := by decide +kernel
theorem dX7_greatest_16 : decode cX7_greatest 16 = .ok (.invokevirtual 54, 3) := by decide +kernel
theorem dX7_greatest_19 : decode cX7_greatest 19 = .ok (.iload_n 1, 1) := by decide +kernel
theorem dX7_greatest_20 : decode cX7_greatest 20 = .ok (.if_icmp .le 11, 3) := by decide +kernel
theorem dX7_greatest_23 : decode cX7_greatest 23 = .ok (.aload_n 0, 1) := by decide +kernel
theorem dX7_greatest_24 : decode cX7_greatest 24 = .ok (.iload_n 2, 1) := by decide +kernel
theorem dX7_greatest_25 : decode cX7_greatest 25 = .ok (.invokevirtual 54, 3) := by decide +kernel
theorem dX7_greatest_28 : decode cX7_greatest 28 = .ok (.goto 4, 3) := by decide +kernel
theorem dX7_greatest_31 : decode cX7_greatest 31 = .ok (.iload_n 1, 1) := by decide +kernel
theorem dX7_greatest_32 : decode cX7_greatest 32 = .ok (.istore_n 1, 1) := by decide +kernel
theorem dX7_greatest_33 : decode cX7_greatest 33 = .ok (.iinc 2 1, 3) := by decide +kernel
theorem dX7_greatest_36 : decode cX7_greatest 36 = .ok (.goto (-32), 3) := by decide +kernel
theorem dX7_greatest_39 : decode cX7_greatest 39 = .ok (.iload_n 1, 1) := by decide +kernel
theorem dX7_greatest_40 : decode cX7_greatest 40 = .ok (.ireturn, 1) := by decide +kernel
theorem dX7_balances_0 : decode cX7_balances 0 = .ok (.iconst 0, 1) := by decide +kernel
theorem dX7_balances_1 : decode cX7_balances 1 = .ok (.istore_n 1, 1) := by decide +kernel
theorem dX7_balances_2 : decode cX7_balances 2 = .ok (.iconst 1, 1) := by decide +kernel
theorem dX7_balances_3 : decode cX7_balances 3 = .ok (.istore_n 2, 1) := by decide +kernel
theorem dX7_balances_4 : decode cX7_balances 4 = .ok (.iload_n 2, 1) := by decide +kernel
theorem dX7_balances_5 : decode cX7_balances 5 = .ok (.ifCond .eq 74, 3) := by decide +kernel
theorem dX7_balances_8 : decode cX7_balances 8 = .ok (.iconst 0, 1) := by decide +kernel
theorem dX7_balances_9 : decode cX7_balances 9 = .ok (.istore_n 2, 1) := by decide +kernel
theorem dX7_balances_10 : decode cX7_balances 10 = .ok (.aload_n 0, 1) := by decide +kernel
theorem dX7_balances_11 : decode cX7_balances 11 = .ok (.invokevirtual 99, 3) := by decide +kernel
theorem dX7_balances_14 : decode cX7_balances 14 = .ok (.istore_n 3, 1) := by decide +kernel
theorem dX7_balances_15 : decode cX7_balances 15 = .ok (.iconst 0, 1) := by decide +kernel
theorem dX7_balances_16 : decode cX7_balances 16 = .ok (.istore 4, 2) := by decide +kernel
theorem dX7_balances_18 : decode cX7_balances 18 = .ok (.iload 4, 2) := by decide +kernel
theorem dX7_balances_20 : decode cX7_balances 20 = .ok (.aload_n 0, 1) := by decide +kernel
theorem dX7_balances_21 : decode cX7_balances 21 = .ok (.getfield 7, 3) := by decide +kernel
theorem dX7_balances_24 : decode cX7_balances 24 = .ok (.iconst 0, 1) := by decide +kernel
theorem dX7_balances_25 : decode cX7_balances 25 = .ok (.iaload, 1) := by decide +kernel
theorem dX7_balances_26 : decode cX7_balances 26 = .ok (.if_icmp .ge 38, 3) := by decide +kernel
theorem dX7_balances_29 : decode cX7_balances 29 = .ok (.iload_n 2, 1) := by decide +kernel
theorem dX7_balances_30 : decode cX7_balances 30 = .ok (.ifCond .ne 34, 3) := by decide +kernel
theorem dX7_balances_33 : decode cX7_balances 33 = .ok (.aload_n 0, 1) := by decide +kernel
theorem dX7_balances_34 : decode cX7_balances 34 = .ok (.iload 4, 2) := by decide +kernel
theorem dX7_balances_36 : decode cX7_balances 36 = .ok (.invokevirtual 54, 3) := by decide +kernel
theorem dX7_balances_39 : decode cX7_balances 39 = .ok (.iload_n 3, 1) := by decide +kernel
theorem dX7_balances_40 : decode cX7_balances 40 = .ok (.if_icmp .ne 16, 3) := by decide +kernel
theorem dX7_balances_43 : decode cX7_balances 43 = .ok (.aload_n 0, 1) := by decide +kernel
theorem dX7_balances_44 : decode cX7_balances 44 = .ok (.iload 4, 2) := by decide +kernel
theorem dX7_balances_46 : decode cX7_balances 46 = .ok (.invokevirtual 103, 3) := by decide +kernel
theorem dX7_balances_49 : decode cX7_balances 49 = .ok (.ifCond .le 7, 3) := by decide +kernel
theorem dX7_balances_52 : decode cX7_balances 52 = .ok (.iconst 1, 1) := by decide +kernel
theorem dX7_balances_53 : decode cX7_balances 53 = .ok (.goto 4, 3) := by decide +kernel
theorem dX7_balances_56 : decode cX7_balances 56 = .ok (.iconst 0, 1) := by decide +kernel
theorem dX7_balances_57 : decode cX7_balances 57 = .ok (.istore_n 2, 1) := by decide +kernel
theorem dX7_balances_58 : decode cX7_balances 58 = .ok (.iinc 4 1, 3) := by decide +kernel
theorem dX7_balances_61 : decode cX7_balances 61 = .ok (.goto (-43), 3) := by decide +kernel
theorem dX7_balances_64 : decode cX7_balances 64 = .ok (.iload_n 1, 1) := by decide +kernel
theorem dX7_balances_65 : decode cX7_balances 65 = .ok (.iload_n 2, 1) := by decide +kernel
theorem dX7_balances_66 : decode cX7_balances 66 = .ok (.ifCond .eq 7, 3) := by decide +kernel
theorem dX7_balances_69 : decode cX7_balances 69 = .ok (.iconst 1, 1) := by decide +kernel
theorem dX7_balances_70 : decode cX7_balances 70 = .ok (.goto 4, 3) := by decide +kernel
theorem dX7_balances_73 : decode cX7_balances 73 = .ok (.iconst 0, 1) := by decide +kernel
theorem dX7_balances_74 : decode cX7_balances 74 = .ok (.iadd, 1) := by decide +kernel
theorem dX7_balances_75 : decode cX7_balances 75 = .ok (.istore_n 1, 1) := by decide +kernel
theorem dX7_balances_76 : decode cX7_balances 76 = .ok (.goto (-72), 3) := by decide +kernel
theorem dX7_balances_79 : decode cX7_balances 79 = .ok (.iload_n 1, 1) := by decide +kernel
theorem dX7_balances_80 : decode cX7_balances 80 = .ok (.ireturn, 1) := by decide +kernel
theorem dX7_refusesRelief_0 : decode cX7_refusesRelief 0 = .ok (.aload_n 0, 1) := by decide +kernel
theorem dX7_refusesRelief_1 : decode cX7_refusesRelief 1 = .ok (.aload_n 0, 1) := by decide +kernel
theorem dX7_refusesRelief_2 : decode cX7_refusesRelief 2 = .ok (.iload_n 1, 1) := by decide +kernel
theorem dX7_refusesRelief_3 : decode cX7_refusesRelief 3 = .ok (.invokevirtual 60, 3) := by decide +kernel
theorem dX7_refusesRelief_6 : decode cX7_refusesRelief 6 = .ok (.ifCond .ne 7, 3) := by decide +kernel
theorem dX7_refusesRelief_9 : decode cX7_refusesRelief 9 = .ok (.iconst 1, 1) := by decide +kernel
theorem dX7_refusesRelief_10 : decode cX7_refusesRelief 10 = .ok (.goto 4, 3) := by decide +kernel
theorem dX7_refusesRelief_13 : decode cX7_refusesRelief 13 = .ok (.iconst 0, 1) := by decide +kernel
theorem dX7_refusesRelief_14 : decode cX7_refusesRelief 14 = .ok (.aload_n 0, 1) := by decide +kernel
theorem dX7_refusesRelief_15 : decode cX7_refusesRelief 15 = .ok (.iload_n 1, 1) := by decide +kernel
theorem dX7_refusesRelief_16 : decode cX7_refusesRelief 16 = .ok (.invokevirtual 60, 3) := by decide +kernel
theorem dX7_refusesRelief_19 : decode cX7_refusesRelief 19 = .ok (.ifCond .eq 15, 3) := by decide +kernel
theorem dX7_refusesRelief_22 : decode cX7_refusesRelief 22 = .ok (.aload_n 0, 1) := by decide +kernel
theorem dX7_refusesRelief_23 : decode cX7_refusesRelief 23 = .ok (.iload_n 1, 1) := by decide +kernel
theorem dX7_refusesRelief_24 : decode cX7_refusesRelief 24 = .ok (.invokevirtual 96, 3) := by decide +kernel
theorem dX7_refusesRelief_27 : decode cX7_refusesRelief 27 = .ok (.ifCond .ge 7, 3) := by decide +kernel
theorem dX7_refusesRelief_30 : decode cX7_refusesRelief 30 = .ok (.iconst 1, 1) := by decide +kernel
theorem dX7_refusesRelief_31 : decode cX7_refusesRelief 31 = .ok (.goto 4, 3) := by decide +kernel
theorem dX7_refusesRelief_34 : decode cX7_refusesRelief 34 = .ok (.iconst 0, 1) := by decide +kernel
theorem dX7_refusesRelief_35 : decode cX7_refusesRelief 35 = .ok (.iconst 0, 1) := by decide +kernel
theorem dX7_refusesRelief_36 : decode cX7_refusesRelief 36 = .ok (.invokevirtual 46, 3) := by decide +kernel
theorem dX7_refusesRelief_39 : decode cX7_refusesRelief 39 = .ok (.ireturn, 1) := by decide +kernel
theorem dX7_relieve_0 : decode cX7_relieve 0 = .ok (.aload_n 0, 1) := by decide +kernel
theorem dX7_relieve_1 : decode cX7_relieve 1 = .ok (.iload_n 1, 1) := by decide +kernel
theorem dX7_relieve_2 : decode cX7_relieve 2 = .ok (.invokevirtual 106, 3) := by decide +kernel
theorem dX7_relieve_5 : decode cX7_relieve 5 = .ok (.ifCond .eq 5, 3) := by decide +kernel
theorem dX7_relieve_8 : decode cX7_relieve 8 = .ok (.iconst 0, 1) := by decide +kernel
theorem dX7_relieve_9 : decode cX7_relieve 9 = .ok (.ireturn, 1) := by decide +kernel
theorem dX7_relieve_10 : decode cX7_relieve 10 = .ok (.aload_n 0, 1) := by decide +kernel
theorem dX7_relieve_11 : decode cX7_relieve 11 = .ok (.invokevirtual 57, 3) := by decide +kernel
theorem dX7_relieve_14 : decode cX7_relieve 14 = .ok (.aload_n 0, 1) := by decide +kernel
theorem dX7_relieve_15 : decode cX7_relieve 15 = .ok (.iload_n 1, 1) := by decide +kernel
theorem dX7_relieve_16 : decode cX7_relieve 16 = .ok (.invokevirtual 103, 3) := by decide +kernel
theorem dX7_relieve_19 : decode cX7_relieve 19 = .ok (.ireturn, 1) := by decide +kernel
theorem dX7_balance_0 : decode cX7_balance 0 = .ok (.aload_n 0, 1) := by decide +kernel
theorem dX7_balance_1 : decode cX7_balance 1 = .ok (.iconst 0, 1) := by decide +kernel
theorem dX7_balance_2 : decode cX7_balance 2 = .ok (.putfield 32, 3) := by decide +kernel
theorem dX7_balance_5 : decode cX7_balance 5 = .ok (.aload_n 0, 1) := by decide +kernel
theorem dX7_balance_6 : decode cX7_balance 6 = .ok (.invokevirtual 57, 3) := by decide +kernel
theorem dX7_balance_9 : decode cX7_balance 9 = .ok (.aload_n 0, 1) := by decide +kernel
theorem dX7_balance_10 : decode cX7_balance 10 = .ok (.invokevirtual 109, 3) := by decide +kernel
theorem dX7_balance_13 : decode cX7_balance 13 = .ok (.ireturn, 1) := by decide +kernel
theorem dX7_refusesCapacity_0 : decode cX7_refusesCapacity 0 = .ok (.aload_n 0, 1) := by decide +kernel
theorem dX7_refusesCapacity_1 : decode cX7_refusesCapacity 1 = .ok (.aload_n 0, 1) := by decide +kernel
theorem dX7_refusesCapacity_2 : decode cX7_refusesCapacity 2 = .ok (.iload_n 1, 1) := by decide +kernel
theorem dX7_refusesCapacity_3 : decode cX7_refusesCapacity 3 = .ok (.invokevirtual 60, 3) := by decide +kernel
theorem dX7_refusesCapacity_6 : decode cX7_refusesCapacity 6 = .ok (.ifCond .ne 7, 3) := by decide +kernel
theorem dX7_refusesCapacity_9 : decode cX7_refusesCapacity 9 = .ok (.iconst 1, 1) := by decide +kernel
theorem dX7_refusesCapacity_10 : decode cX7_refusesCapacity 10 = .ok (.goto 4, 3) := by decide +kernel
theorem dX7_refusesCapacity_13 : decode cX7_refusesCapacity 13 = .ok (.iconst 0, 1) := by decide +kernel
theorem dX7_refusesCapacity_14 : decode cX7_refusesCapacity 14 = .ok (.iload_n 2, 1) := by decide +kernel
theorem dX7_refusesCapacity_15 : decode cX7_refusesCapacity 15 = .ok (.iconst 0, 1) := by decide +kernel
theorem dX7_refusesCapacity_16 : decode cX7_refusesCapacity 16 = .ok (.bipush 40, 2) := by decide +kernel
theorem dX7_refusesCapacity_18 : decode cX7_refusesCapacity 18 = .ok (.invokestatic 36, 3) := by decide +kernel
theorem dX7_refusesCapacity_21 : decode cX7_refusesCapacity 21 = .ok (.ifCond .ne 7, 3) := by decide +kernel
theorem dX7_refusesCapacity_24 : decode cX7_refusesCapacity 24 = .ok (.iconst 1, 1) := by decide +kernel
theorem dX7_refusesCapacity_25 : decode cX7_refusesCapacity 25 = .ok (.goto 4, 3) := by decide +kernel
theorem dX7_refusesCapacity_28 : decode cX7_refusesCapacity 28 = .ok (.iconst 0, 1) := by decide +kernel
theorem dX7_refusesCapacity_29 : decode cX7_refusesCapacity 29 = .ok (.iconst 0, 1) := by decide +kernel
theorem dX7_refusesCapacity_30 : decode cX7_refusesCapacity 30 = .ok (.invokevirtual 46, 3) := by decide +kernel
theorem dX7_refusesCapacity_33 : decode cX7_refusesCapacity 33 = .ok (.ireturn, 1) := by decide +kernel
theorem dX7_sets_0 : decode cX7_sets 0 = .ok (.aload_n 0, 1) := by decide +kernel
theorem dX7_sets_1 : decode cX7_sets 1 = .ok (.getfield 7, 3) := by decide +kernel
theorem dX7_sets_4 : decode cX7_sets 4 = .ok (.iconst 4, 1) := by decide +kernel
theorem dX7_sets_5 : decode cX7_sets 5 = .ok (.iload_n 1, 1) := by decide +kernel
theorem dX7_sets_6 : decode cX7_sets 6 = .ok (.iadd, 1) := by decide +kernel
theorem dX7_sets_7 : decode cX7_sets 7 = .ok (.iaload, 1) := by decide +kernel
theorem dX7_sets_8 : decode cX7_sets 8 = .ok (.istore_n 3, 1) := by decide +kernel
theorem dX7_sets_9 : decode cX7_sets 9 = .ok (.aload_n 0, 1) := by decide +kernel
theorem dX7_sets_10 : decode cX7_sets 10 = .ok (.getfield 7, 3) := by decide +kernel
theorem dX7_sets_13 : decode cX7_sets 13 = .ok (.iconst 4, 1) := by decide +kernel
theorem dX7_sets_14 : decode cX7_sets 14 = .ok (.iload_n 1, 1) := by decide +kernel
theorem dX7_sets_15 : decode cX7_sets 15 = .ok (.iadd, 1) := by decide +kernel
theorem dX7_sets_16 : decode cX7_sets 16 = .ok (.iload_n 2, 1) := by decide +kernel
theorem dX7_sets_17 : decode cX7_sets 17 = .ok (.iastore, 1) := by decide +kernel
theorem dX7_sets_18 : decode cX7_sets 18 = .ok (.iload_n 3, 1) := by decide +kernel
theorem dX7_sets_19 : decode cX7_sets 19 = .ok (.ireturn, 1) := by decide +kernel
theorem dX7_setCapacity_0 : decode cX7_setCapacity 0 = .ok (.aload_n 0, 1) := by decide +kernel
theorem dX7_setCapacity_1 : decode cX7_setCapacity 1 = .ok (.iload_n 1, 1) := by decide +kernel
theorem dX7_setCapacity_2 : decode cX7_setCapacity 2 = .ok (.iload_n 2, 1) := by decide +kernel
theorem dX7_setCapacity_3 : decode cX7_setCapacity 3 = .ok (.invokevirtual 112, 3) := by decide +kernel
theorem dX7_setCapacity_6 : decode cX7_setCapacity 6 = .ok (.ifCond .eq 5, 3) := by decide +kernel
theorem dX7_setCapacity_9 : decode cX7_setCapacity 9 = .ok (.iconst 0, 1) := by decide +kernel
theorem dX7_setCapacity_10 : decode cX7_setCapacity 10 = .ok (.ireturn, 1) := by decide +kernel
theorem dX7_setCapacity_11 : decode cX7_setCapacity 11 = .ok (.aload_n 0, 1) := by decide +kernel
theorem dX7_setCapacity_12 : decode cX7_setCapacity 12 = .ok (.invokevirtual 57, 3) := by decide +kernel
theorem dX7_setCapacity_15 : decode cX7_setCapacity 15 = .ok (.aload_n 0, 1) := by decide +kernel
theorem dX7_setCapacity_16 : decode cX7_setCapacity 16 = .ok (.iload_n 1, 1) := by decide +kernel
theorem dX7_setCapacity_17 : decode cX7_setCapacity 17 = .ok (.iload_n 2, 1) := by decide +kernel
theorem dX7_setCapacity_18 : decode cX7_setCapacity 18 = .ok (.invokevirtual 115, 3) := by decide +kernel
theorem dX7_setCapacity_21 : decode cX7_setCapacity 21 = .ok (.ireturn, 1) := by decide +kernel
theorem dX7_bits_0 : decode cX7_bits 0 = .ok (.iconst 0, 1) := by decide +kernel
theorem dX7_bits_1 : decode cX7_bits 1 = .ok (.istore_n 1, 1) := by decide +kernel
theorem dX7_bits_2 : decode cX7_bits 2 = .ok (.iload_n 0, 1) := by decide +kernel
theorem dX7_bits_3 : decode cX7_bits 3 = .ok (.istore_n 2, 1) := by decide +kernel
theorem dX7_bits_4 : decode cX7_bits 4 = .ok (.iload_n 2, 1) := by decide +kernel
theorem dX7_bits_5 : decode cX7_bits 5 = .ok (.ifCond .eq 15, 3) := by decide +kernel
theorem dX7_bits_8 : decode cX7_bits 8 = .ok (.iinc 1 1, 3) := by decide +kernel
theorem dX7_bits_11 : decode cX7_bits 11 = .ok (.iload_n 2, 1) := by decide +kernel
theorem dX7_bits_12 : decode cX7_bits 12 = .ok (.iload_n 2, 1) := by decide +kernel
theorem dX7_bits_13 : decode cX7_bits 13 = .ok (.iconst 1, 1) := by decide +kernel
theorem dX7_bits_14 : decode cX7_bits 14 = .ok (.isub, 1) := by decide +kernel
theorem dX7_bits_15 : decode cX7_bits 15 = .ok (.iand, 1) := by decide +kernel
theorem dX7_bits_16 : decode cX7_bits 16 = .ok (.istore_n 2, 1) := by decide +kernel
theorem dX7_bits_17 : decode cX7_bits 17 = .ok (.goto (-13), 3) := by decide +kernel
theorem dX7_bits_20 : decode cX7_bits 20 = .ok (.iload_n 1, 1) := by decide +kernel
theorem dX7_bits_21 : decode cX7_bits 21 = .ok (.ireturn, 1) := by decide +kernel
theorem dX7_neighbours_0 : decode cX7_neighbours 0 = .ok (.iconst 0, 1) := by decide +kernel
theorem dX7_neighbours_1 : decode cX7_neighbours 1 = .ok (.istore_n 2, 1) := by decide +kernel
theorem dX7_neighbours_2 : decode cX7_neighbours 2 = .ok (.iconst 0, 1) := by decide +kernel
theorem dX7_neighbours_3 : decode cX7_neighbours 3 = .ok (.istore_n 3, 1) := by decide +kernel
theorem dX7_neighbours_4 : decode cX7_neighbours 4 = .ok (.iload_n 3, 1) := by decide +kernel
theorem dX7_neighbours_5 : decode cX7_neighbours 5 = .ok (.aload_n 0, 1) := by decide +kernel
theorem dX7_neighbours_6 : decode cX7_neighbours 6 = .ok (.getfield 7, 3) := by decide +kernel
theorem dX7_neighbours_9 : decode cX7_neighbours 9 = .ok (.iconst 3, 1) := by decide +kernel
theorem dX7_neighbours_10 : decode cX7_neighbours 10 = .ok (.iaload, 1) := by decide +kernel
theorem dX7_neighbours_11 : decode cX7_neighbours 11 = .ok (.if_icmp .ge 67, 3) := by decide +kernel
theorem dX7_neighbours_14 : decode cX7_neighbours 14 = .ok (.iload_n 2, 1) := by decide +kernel
theorem dX7_neighbours_15 : decode cX7_neighbours 15 = .ok (.aload_n 0, 1) := by decide +kernel
theorem dX7_neighbours_16 : decode cX7_neighbours 16 = .ok (.getfield 7, 3) := by decide +kernel
theorem dX7_neighbours_19 : decode cX7_neighbours 19 = .ok (.bipush 56, 2) := by decide +kernel
theorem dX7_neighbours_21 : decode cX7_neighbours 21 = .ok (.iload_n 3, 1) := by decide +kernel
theorem dX7_neighbours_22 : decode cX7_neighbours 22 = .ok (.iadd, 1) := by decide +kernel
theorem dX7_neighbours_23 : decode cX7_neighbours 23 = .ok (.iaload, 1) := by decide +kernel
theorem dX7_neighbours_24 : decode cX7_neighbours 24 = .ok (.iload_n 1, 1) := by decide +kernel
theorem dX7_neighbours_25 : decode cX7_neighbours 25 = .ok (.if_icmp .ne 17, 3) := by decide +kernel
theorem dX7_neighbours_28 : decode cX7_neighbours 28 = .ok (.iconst 1, 1) := by decide +kernel
theorem dX7_neighbours_29 : decode cX7_neighbours 29 = .ok (.aload_n 0, 1) := by decide +kernel
theorem dX7_neighbours_30 : decode cX7_neighbours 30 = .ok (.getfield 7, 3) := by decide +kernel
theorem dX7_neighbours_33 : decode cX7_neighbours 33 = .ok (.bipush 96, 2) := by decide +kernel
theorem dX7_neighbours_35 : decode cX7_neighbours 35 = .ok (.iload_n 3, 1) := by decide +kernel
theorem dX7_neighbours_36 : decode cX7_neighbours 36 = .ok (.iadd, 1) := by decide +kernel
theorem dX7_neighbours_37 : decode cX7_neighbours 37 = .ok (.iaload, 1) := by decide +kernel
theorem dX7_neighbours_38 : decode cX7_neighbours 38 = .ok (.ishl, 1) := by decide +kernel
theorem dX7_neighbours_39 : decode cX7_neighbours 39 = .ok (.goto 31, 3) := by decide +kernel
theorem dX7_neighbours_42 : decode cX7_neighbours 42 = .ok (.aload_n 0, 1) := by decide +kernel
theorem dX7_neighbours_43 : decode cX7_neighbours 43 = .ok (.getfield 7, 3) := by decide +kernel
theorem dX7_neighbours_46 : decode cX7_neighbours 46 = .ok (.bipush 96, 2) := by decide +kernel
theorem dX7_neighbours_48 : decode cX7_neighbours 48 = .ok (.iload_n 3, 1) := by decide +kernel
theorem dX7_neighbours_49 : decode cX7_neighbours 49 = .ok (.iadd, 1) := by decide +kernel
theorem dX7_neighbours_50 : decode cX7_neighbours 50 = .ok (.iaload, 1) := by decide +kernel
theorem dX7_neighbours_51 : decode cX7_neighbours 51 = .ok (.iload_n 1, 1) := by decide +kernel
theorem dX7_neighbours_52 : decode cX7_neighbours 52 = .ok (.if_icmp .ne 17, 3) := by decide +kernel
theorem dX7_neighbours_55 : decode cX7_neighbours 55 = .ok (.iconst 1, 1) := by decide +kernel
theorem dX7_neighbours_56 : decode cX7_neighbours 56 = .ok (.aload_n 0, 1) := by decide +kernel
theorem dX7_neighbours_57 : decode cX7_neighbours 57 = .ok (.getfield 7, 3) := by decide +kernel
theorem dX7_neighbours_60 : decode cX7_neighbours 60 = .ok (.bipush 56, 2) := by decide +kernel
theorem dX7_neighbours_62 : decode cX7_neighbours 62 = .ok (.iload_n 3, 1) := by decide +kernel
theorem dX7_neighbours_63 : decode cX7_neighbours 63 = .ok (.iadd, 1) := by decide +kernel
theorem dX7_neighbours_64 : decode cX7_neighbours 64 = .ok (.iaload, 1) := by decide +kernel
theorem dX7_neighbours_65 : decode cX7_neighbours 65 = .ok (.ishl, 1) := by decide +kernel
theorem dX7_neighbours_66 : decode cX7_neighbours 66 = .ok (.goto 4, 3) := by decide +kernel
theorem dX7_neighbours_69 : decode cX7_neighbours 69 = .ok (.iconst 0, 1) := by decide +kernel
theorem dX7_neighbours_70 : decode cX7_neighbours 70 = .ok (.ior, 1) := by decide +kernel
theorem dX7_neighbours_71 : decode cX7_neighbours 71 = .ok (.istore_n 2, 1) := by decide +kernel
theorem dX7_neighbours_72 : decode cX7_neighbours 72 = .ok (.iinc 3 1, 3) := by decide +kernel
theorem dX7_neighbours_75 : decode cX7_neighbours 75 = .ok (.goto (-71), 3) := by decide +kernel
theorem dX7_neighbours_78 : decode cX7_neighbours 78 = .ok (.iload_n 2, 1) := by decide +kernel
theorem dX7_neighbours_79 : decode cX7_neighbours 79 = .ok (.ireturn, 1) := by decide +kernel
theorem dX7_degree_0 : decode cX7_degree 0 = .ok (.iconst 0, 1) := by decide +kernel
theorem dX7_degree_1 : decode cX7_degree 1 = .ok (.istore_n 2, 1) := by decide +kernel
theorem dX7_degree_2 : decode cX7_degree 2 = .ok (.iconst 0, 1) := by decide +kernel
theorem dX7_degree_3 : decode cX7_degree 3 = .ok (.istore_n 3, 1) := by decide +kernel
theorem dX7_degree_4 : decode cX7_degree 4 = .ok (.iload_n 3, 1) := by decide +kernel
theorem dX7_degree_5 : decode cX7_degree 5 = .ok (.aload_n 0, 1) := by decide +kernel
theorem dX7_degree_6 : decode cX7_degree 6 = .ok (.getfield 7, 3) := by decide +kernel
theorem dX7_degree_9 : decode cX7_degree 9 = .ok (.iconst 3, 1) := by decide +kernel
theorem dX7_degree_10 : decode cX7_degree 10 = .ok (.iaload, 1) := by decide +kernel
theorem dX7_degree_11 : decode cX7_degree 11 = .ok (.if_icmp .ge 43, 3) := by decide +kernel
theorem dX7_degree_14 : decode cX7_degree 14 = .ok (.iload_n 2, 1) := by decide +kernel
theorem dX7_degree_15 : decode cX7_degree 15 = .ok (.aload_n 0, 1) := by decide +kernel
theorem dX7_degree_16 : decode cX7_degree 16 = .ok (.getfield 7, 3) := by decide +kernel
theorem dX7_degree_19 : decode cX7_degree 19 = .ok (.bipush 56, 2) := by decide +kernel
theorem dX7_degree_21 : decode cX7_degree 21 = .ok (.iload_n 3, 1) := by decide +kernel
theorem dX7_degree_22 : decode cX7_degree 22 = .ok (.iadd, 1) := by decide +kernel
theorem dX7_degree_23 : decode cX7_degree 23 = .ok (.iaload, 1) := by decide +kernel
theorem dX7_degree_24 : decode cX7_degree 24 = .ok (.iload_n 1, 1) := by decide +kernel
theorem dX7_degree_25 : decode cX7_degree 25 = .ok (.if_icmp .eq 16, 3) := by decide +kernel
theorem dX7_degree_28 : decode cX7_degree 28 = .ok (.aload_n 0, 1) := by decide +kernel
theorem dX7_degree_29 : decode cX7_degree 29 = .ok (.getfield 7, 3) := by decide +kernel
theorem dX7_degree_32 : decode cX7_degree 32 = .ok (.bipush 96, 2) := by decide +kernel
theorem dX7_degree_34 : decode cX7_degree 34 = .ok (.iload_n 3, 1) := by decide +kernel
theorem dX7_degree_35 : decode cX7_degree 35 = .ok (.iadd, 1) := by decide +kernel
theorem dX7_degree_36 : decode cX7_degree 36 = .ok (.iaload, 1) := by decide +kernel
theorem dX7_degree_37 : decode cX7_degree 37 = .ok (.iload_n 1, 1) := by decide +kernel
theorem dX7_degree_38 : decode cX7_degree 38 = .ok (.if_icmp .ne 7, 3) := by decide +kernel
theorem dX7_degree_41 : decode cX7_degree 41 = .ok (.iconst 1, 1) := by decide +kernel
theorem dX7_degree_42 : decode cX7_degree 42 = .ok (.goto 4, 3) := by decide +kernel
theorem dX7_degree_45 : decode cX7_degree 45 = .ok (.iconst 0, 1) := by decide +kernel
theorem dX7_degree_46 : decode cX7_degree 46 = .ok (.iadd, 1) := by decide +kernel
theorem dX7_degree_47 : decode cX7_degree 47 = .ok (.istore_n 2, 1) := by decide +kernel
theorem dX7_degree_48 : decode cX7_degree 48 = .ok (.iinc 3 1, 3) := by decide +kernel
theorem dX7_degree_51 : decode cX7_degree 51 = .ok (.goto (-47), 3) := by decide +kernel
theorem dX7_degree_54 : decode cX7_degree 54 = .ok (.iload_n 2, 1) := by decide +kernel
theorem dX7_degree_55 : decode cX7_degree 55 = .ok (.ireturn, 1) := by decide +kernel
theorem dX7_nodeOf_0 : decode cX7_nodeOf 0 = .ok (.iload_n 2, 1) := by decide +kernel
theorem dX7_nodeOf_1 : decode cX7_nodeOf 1 = .ok (.tableswitch 61 0 3 #[31, 37, 43, 52], 31) := by decide +kernel
theorem dX7_nodeOf_32 : decode cX7_nodeOf 32 = .ok (.aload_n 0, 1) := by decide +kernel
theorem dX7_nodeOf_33 : decode cX7_nodeOf 33 = .ok (.iload_n 1, 1) := by decide +kernel
theorem dX7_nodeOf_34 : decode cX7_nodeOf 34 = .ok (.invokevirtual 54, 3) := by decide +kernel
theorem dX7_nodeOf_37 : decode cX7_nodeOf 37 = .ok (.ireturn, 1) := by decide +kernel
theorem dX7_nodeOf_38 : decode cX7_nodeOf 38 = .ok (.aload_n 0, 1) := by decide +kernel
theorem dX7_nodeOf_39 : decode cX7_nodeOf 39 = .ok (.iload_n 1, 1) := by decide +kernel
theorem dX7_nodeOf_40 : decode cX7_nodeOf 40 = .ok (.invokevirtual 118, 3) := by decide +kernel
theorem dX7_nodeOf_43 : decode cX7_nodeOf 43 = .ok (.ireturn, 1) := by decide +kernel
theorem dX7_nodeOf_44 : decode cX7_nodeOf 44 = .ok (.aload_n 0, 1) := by decide +kernel
theorem dX7_nodeOf_45 : decode cX7_nodeOf 45 = .ok (.getfield 7, 3) := by decide +kernel
theorem dX7_nodeOf_48 : decode cX7_nodeOf 48 = .ok (.iconst 4, 1) := by decide +kernel
theorem dX7_nodeOf_49 : decode cX7_nodeOf 49 = .ok (.iload_n 1, 1) := by decide +kernel
theorem dX7_nodeOf_50 : decode cX7_nodeOf 50 = .ok (.iadd, 1) := by decide +kernel
theorem dX7_nodeOf_51 : decode cX7_nodeOf 51 = .ok (.iaload, 1) := by decide +kernel
theorem dX7_nodeOf_52 : decode cX7_nodeOf 52 = .ok (.ireturn, 1) := by decide +kernel
theorem dX7_nodeOf_53 : decode cX7_nodeOf 53 = .ok (.aload_n 0, 1) := by decide +kernel
theorem dX7_nodeOf_54 : decode cX7_nodeOf 54 = .ok (.iload_n 1, 1) := by decide +kernel
theorem dX7_nodeOf_55 : decode cX7_nodeOf 55 = .ok (.invokevirtual 121, 3) := by decide +kernel
theorem dX7_nodeOf_58 : decode cX7_nodeOf 58 = .ok (.invokestatic 124, 3) := by decide +kernel
theorem dX7_nodeOf_61 : decode cX7_nodeOf 61 = .ok (.ireturn, 1) := by decide +kernel
theorem dX7_nodeOf_62 : decode cX7_nodeOf 62 = .ok (.aload_n 0, 1) := by decide +kernel
theorem dX7_nodeOf_63 : decode cX7_nodeOf 63 = .ok (.iload_n 1, 1) := by decide +kernel
theorem dX7_nodeOf_64 : decode cX7_nodeOf 64 = .ok (.invokevirtual 93, 3) := by decide +kernel
theorem dX7_nodeOf_67 : decode cX7_nodeOf 67 = .ok (.aload_n 0, 1) := by decide +kernel
theorem dX7_nodeOf_68 : decode cX7_nodeOf 68 = .ok (.getfield 87, 3) := by decide +kernel
theorem dX7_nodeOf_71 : decode cX7_nodeOf 71 = .ok (.ireturn, 1) := by decide +kernel
theorem dX7_node_0 : decode cX7_node 0 = .ok (.aload_n 0, 1) := by decide +kernel
theorem dX7_node_1 : decode cX7_node 1 = .ok (.aload_n 0, 1) := by decide +kernel
theorem dX7_node_2 : decode cX7_node 2 = .ok (.iload_n 1, 1) := by decide +kernel
theorem dX7_node_3 : decode cX7_node 3 = .ok (.invokevirtual 60, 3) := by decide +kernel
theorem dX7_node_6 : decode cX7_node 6 = .ok (.ifCond .ne 7, 3) := by decide +kernel
theorem dX7_node_9 : decode cX7_node 9 = .ok (.iconst 1, 1) := by decide +kernel
theorem dX7_node_10 : decode cX7_node 10 = .ok (.goto 4, 3) := by decide +kernel
theorem dX7_node_13 : decode cX7_node 13 = .ok (.iconst 0, 1) := by decide +kernel
theorem dX7_node_14 : decode cX7_node 14 = .ok (.iload_n 2, 1) := by decide +kernel
theorem dX7_node_15 : decode cX7_node 15 = .ok (.iconst 0, 1) := by decide +kernel
theorem dX7_node_16 : decode cX7_node 16 = .ok (.iconst 4, 1) := by decide +kernel
theorem dX7_node_17 : decode cX7_node 17 = .ok (.invokestatic 36, 3) := by decide +kernel
theorem dX7_node_20 : decode cX7_node 20 = .ok (.ifCond .ne 7, 3) := by decide +kernel
theorem dX7_node_23 : decode cX7_node 23 = .ok (.iconst 1, 1) := by decide +kernel
theorem dX7_node_24 : decode cX7_node 24 = .ok (.goto 4, 3) := by decide +kernel
theorem dX7_node_27 : decode cX7_node 27 = .ok (.iconst 0, 1) := by decide +kernel
theorem dX7_node_28 : decode cX7_node 28 = .ok (.iconst 0, 1) := by decide +kernel
theorem dX7_node_29 : decode cX7_node 29 = .ok (.invokevirtual 46, 3) := by decide +kernel
theorem dX7_node_32 : decode cX7_node 32 = .ok (.ifCond .eq 7, 3) := by decide +kernel
theorem dX7_node_35 : decode cX7_node 35 = .ok (.iconst 0, 1) := by decide +kernel
theorem dX7_node_36 : decode cX7_node 36 = .ok (.goto 9, 3) := by decide +kernel
theorem dX7_node_39 : decode cX7_node 39 = .ok (.aload_n 0, 1) := by decide +kernel
theorem dX7_node_40 : decode cX7_node 40 = .ok (.iload_n 1, 1) := by decide +kernel
theorem dX7_node_41 : decode cX7_node 41 = .ok (.iload_n 2, 1) := by decide +kernel
theorem dX7_node_42 : decode cX7_node 42 = .ok (.invokevirtual 127, 3) := by decide +kernel
theorem dX7_node_45 : decode cX7_node 45 = .ok (.ireturn, 1) := by decide +kernel
theorem dX7_edgeOf_0 : decode cX7_edgeOf 0 = .ok (.iload_n 2, 1) := by decide +kernel
theorem dX7_edgeOf_1 : decode cX7_edgeOf 1 = .ok (.ifCond .ne 15, 3) := by decide +kernel
theorem dX7_edgeOf_4 : decode cX7_edgeOf 4 = .ok (.aload_n 0, 1) := by decide +kernel
theorem dX7_edgeOf_5 : decode cX7_edgeOf 5 = .ok (.getfield 7, 3) := by decide +kernel
theorem dX7_edgeOf_8 : decode cX7_edgeOf 8 = .ok (.bipush 56, 2) := by decide +kernel
theorem dX7_edgeOf_10 : decode cX7_edgeOf 10 = .ok (.iload_n 1, 1) := by decide +kernel
theorem dX7_edgeOf_11 : decode cX7_edgeOf 11 = .ok (.iadd, 1) := by decide +kernel
theorem dX7_edgeOf_12 : decode cX7_edgeOf 12 = .ok (.iaload, 1) := by decide +kernel
theorem dX7_edgeOf_13 : decode cX7_edgeOf 13 = .ok (.goto 43, 3) := by decide +kernel
theorem dX7_edgeOf_16 : decode cX7_edgeOf 16 = .ok (.iload_n 2, 1) := by decide +kernel
theorem dX7_edgeOf_17 : decode cX7_edgeOf 17 = .ok (.iconst 1, 1) := by decide +kernel
theorem dX7_edgeOf_18 : decode cX7_edgeOf 18 = .ok (.if_icmp .ne 15, 3) := by decide +kernel
theorem dX7_edgeOf_21 : decode cX7_edgeOf 21 = .ok (.aload_n 0, 1) := by decide +kernel
theorem dX7_edgeOf_22 : decode cX7_edgeOf 22 = .ok (.getfield 7, 3) := by decide +kernel
theorem dX7_edgeOf_25 : decode cX7_edgeOf 25 = .ok (.bipush 96, 2) := by decide +kernel
theorem dX7_edgeOf_27 : decode cX7_edgeOf 27 = .ok (.iload_n 1, 1) := by decide +kernel
theorem dX7_edgeOf_28 : decode cX7_edgeOf 28 = .ok (.iadd, 1) := by decide +kernel
theorem dX7_edgeOf_29 : decode cX7_edgeOf 29 = .ok (.iaload, 1) := by decide +kernel
theorem dX7_edgeOf_30 : decode cX7_edgeOf 30 = .ok (.goto 26, 3) := by decide +kernel
theorem dX7_edgeOf_33 : decode cX7_edgeOf 33 = .ok (.iload_n 2, 1) := by decide +kernel
theorem dX7_edgeOf_34 : decode cX7_edgeOf 34 = .ok (.iconst 2, 1) := by decide +kernel
theorem dX7_edgeOf_35 : decode cX7_edgeOf 35 = .ok (.if_icmp .ne 11, 3) := by decide +kernel
theorem dX7_edgeOf_38 : decode cX7_edgeOf 38 = .ok (.aload_n 0, 1) := by decide +kernel
theorem dX7_edgeOf_39 : decode cX7_edgeOf 39 = .ok (.iload_n 1, 1) := by decide +kernel
theorem dX7_edgeOf_40 : decode cX7_edgeOf 40 = .ok (.invokevirtual 50, 3) := by decide +kernel
theorem dX7_edgeOf_43 : decode cX7_edgeOf 43 = .ok (.goto 13, 3) := by decide +kernel
theorem dX7_edgeOf_46 : decode cX7_edgeOf 46 = .ok (.aload_n 0, 1) := by decide +kernel
theorem dX7_edgeOf_47 : decode cX7_edgeOf 47 = .ok (.getfield 7, 3) := by decide +kernel
theorem dX7_edgeOf_50 : decode cX7_edgeOf 50 = .ok (.sipush 176, 3) := by decide +kernel
theorem dX7_edgeOf_53 : decode cX7_edgeOf 53 = .ok (.iload_n 1, 1) := by decide +kernel
theorem dX7_edgeOf_54 : decode cX7_edgeOf 54 = .ok (.iadd, 1) := by decide +kernel
theorem dX7_edgeOf_55 : decode cX7_edgeOf 55 = .ok (.iaload, 1) := by decide +kernel
theorem dX7_edgeOf_56 : decode cX7_edgeOf 56 = .ok (.ireturn, 1) := by decide +kernel
theorem dX7_edge_0 : decode cX7_edge 0 = .ok (.aload_n 0, 1) := by decide +kernel
theorem dX7_edge_1 : decode cX7_edge 1 = .ok (.aload_n 0, 1) := by decide +kernel
theorem dX7_edge_2 : decode cX7_edge 2 = .ok (.iload_n 1, 1) := by decide +kernel
theorem dX7_edge_3 : decode cX7_edge 3 = .ok (.invokevirtual 72, 3) := by decide +kernel
theorem dX7_edge_6 : decode cX7_edge 6 = .ok (.ifCond .ge 7, 3) := by decide +kernel
theorem dX7_edge_9 : decode cX7_edge 9 = .ok (.iconst 1, 1) := by decide +kernel
theorem dX7_edge_10 : decode cX7_edge 10 = .ok (.goto 4, 3) := by decide +kernel
theorem dX7_edge_13 : decode cX7_edge 13 = .ok (.iconst 0, 1) := by decide +kernel
theorem dX7_edge_14 : decode cX7_edge 14 = .ok (.iload_n 2, 1) := by decide +kernel
theorem dX7_edge_15 : decode cX7_edge 15 = .ok (.iconst 0, 1) := by decide +kernel
theorem dX7_edge_16 : decode cX7_edge 16 = .ok (.iconst 3, 1) := by decide +kernel
theorem dX7_edge_17 : decode cX7_edge 17 = .ok (.invokestatic 36, 3) := by decide +kernel
theorem dX7_edge_20 : decode cX7_edge 20 = .ok (.ifCond .ne 7, 3) := by decide +kernel
theorem dX7_edge_23 : decode cX7_edge 23 = .ok (.iconst 1, 1) := by decide +kernel
theorem dX7_edge_24 : decode cX7_edge 24 = .ok (.goto 4, 3) := by decide +kernel
theorem dX7_edge_27 : decode cX7_edge 27 = .ok (.iconst 0, 1) := by decide +kernel
theorem dX7_edge_28 : decode cX7_edge 28 = .ok (.iconst 0, 1) := by decide +kernel
theorem dX7_edge_29 : decode cX7_edge 29 = .ok (.invokevirtual 46, 3) := by decide +kernel
theorem dX7_edge_32 : decode cX7_edge 32 = .ok (.ifCond .eq 7, 3) := by decide +kernel
theorem dX7_edge_35 : decode cX7_edge 35 = .ok (.iconst 0, 1) := by decide +kernel
theorem dX7_edge_36 : decode cX7_edge 36 = .ok (.goto 13, 3) := by decide +kernel
theorem dX7_edge_39 : decode cX7_edge 39 = .ok (.aload_n 0, 1) := by decide +kernel
theorem dX7_edge_40 : decode cX7_edge 40 = .ok (.aload_n 0, 1) := by decide +kernel
theorem dX7_edge_41 : decode cX7_edge 41 = .ok (.iload_n 1, 1) := by decide +kernel
theorem dX7_edge_42 : decode cX7_edge 42 = .ok (.invokevirtual 72, 3) := by decide +kernel
theorem dX7_edge_45 : decode cX7_edge 45 = .ok (.iload_n 2, 1) := by decide +kernel
theorem dX7_edge_46 : decode cX7_edge 46 = .ok (.invokevirtual 130, 3) := by decide +kernel
theorem dX7_edge_49 : decode cX7_edge 49 = .ok (.ireturn, 1) := by decide +kernel
theorem dX7_edgeAt_0 : decode cX7_edgeAt 0 = .ok (.aload_n 0, 1) := by decide +kernel
theorem dX7_edgeAt_1 : decode cX7_edgeAt 1 = .ok (.iload_n 1, 1) := by decide +kernel
theorem dX7_edgeAt_2 : decode cX7_edgeAt 2 = .ok (.iconst 0, 1) := by decide +kernel
theorem dX7_edgeAt_3 : decode cX7_edgeAt 3 = .ok (.aload_n 0, 1) := by decide +kernel
theorem dX7_edgeAt_4 : decode cX7_edgeAt 4 = .ok (.getfield 7, 3) := by decide +kernel
theorem dX7_edgeAt_7 : decode cX7_edgeAt 7 = .ok (.iconst 3, 1) := by decide +kernel
theorem dX7_edgeAt_8 : decode cX7_edgeAt 8 = .ok (.iaload, 1) := by decide +kernel
theorem dX7_edgeAt_9 : decode cX7_edgeAt 9 = .ok (.iconst 1, 1) := by decide +kernel
theorem dX7_edgeAt_10 : decode cX7_edgeAt 10 = .ok (.isub, 1) := by decide +kernel
theorem dX7_edgeAt_11 : decode cX7_edgeAt 11 = .ok (.invokestatic 36, 3) := by decide +kernel
theorem dX7_edgeAt_14 : decode cX7_edgeAt 14 = .ok (.ifCond .ne 7, 3) := by decide +kernel
theorem dX7_edgeAt_17 : decode cX7_edgeAt 17 = .ok (.iconst 1, 1) := by decide +kernel
theorem dX7_edgeAt_18 : decode cX7_edgeAt 18 = .ok (.goto 4, 3) := by decide +kernel
theorem dX7_edgeAt_21 : decode cX7_edgeAt 21 = .ok (.iconst 0, 1) := by decide +kernel
theorem dX7_edgeAt_22 : decode cX7_edgeAt 22 = .ok (.iconst 0, 1) := by decide +kernel
theorem dX7_edgeAt_23 : decode cX7_edgeAt 23 = .ok (.iconst 0, 1) := by decide +kernel
theorem dX7_edgeAt_24 : decode cX7_edgeAt 24 = .ok (.invokevirtual 46, 3) := by decide +kernel
theorem dX7_edgeAt_27 : decode cX7_edgeAt 27 = .ok (.ifCond .eq 7, 3) := by decide +kernel
theorem dX7_edgeAt_30 : decode cX7_edgeAt 30 = .ok (.iconst 0, 1) := by decide +kernel
theorem dX7_edgeAt_31 : decode cX7_edgeAt 31 = .ok (.goto 12, 3) := by decide +kernel
theorem dX7_edgeAt_34 : decode cX7_edgeAt 34 = .ok (.aload_n 0, 1) := by decide +kernel
theorem dX7_edgeAt_35 : decode cX7_edgeAt 35 = .ok (.getfield 7, 3) := by decide +kernel
theorem dX7_edgeAt_38 : decode cX7_edgeAt 38 = .ok (.bipush 16, 2) := by decide +kernel
theorem dX7_edgeAt_40 : decode cX7_edgeAt 40 = .ok (.iload_n 1, 1) := by decide +kernel
theorem dX7_edgeAt_41 : decode cX7_edgeAt 41 = .ok (.iadd, 1) := by decide +kernel
theorem dX7_edgeAt_42 : decode cX7_edgeAt 42 = .ok (.iaload, 1) := by decide +kernel
theorem dX7_edgeAt_43 : decode cX7_edgeAt 43 = .ok (.ireturn, 1) := by decide +kernel
theorem dX7_valueOf_0 : decode cX7_valueOf 0 = .ok (.bipush 40, 2) := by decide +kernel
theorem dX7_valueOf_2 : decode cX7_valueOf 2 = .ok (.istore_n 2, 1) := by decide +kernel
theorem dX7_valueOf_3 : decode cX7_valueOf 3 = .ok (.iconst 0, 1) := by decide +kernel
theorem dX7_valueOf_4 : decode cX7_valueOf 4 = .ok (.istore_n 3, 1) := by decide +kernel
theorem dX7_valueOf_5 : decode cX7_valueOf 5 = .ok (.iconst 0, 1) := by decide +kernel
theorem dX7_valueOf_6 : decode cX7_valueOf 6 = .ok (.istore 4, 2) := by decide +kernel
theorem dX7_valueOf_8 : decode cX7_valueOf 8 = .ok (.iconst 0, 1) := by decide +kernel
theorem dX7_valueOf_9 : decode cX7_valueOf 9 = .ok (.istore 5, 2) := by decide +kernel
theorem dX7_valueOf_11 : decode cX7_valueOf 11 = .ok (.iload 5, 2) := by decide +kernel
theorem dX7_valueOf_13 : decode cX7_valueOf 13 = .ok (.aload_n 0, 1) := by decide +kernel
theorem dX7_valueOf_14 : decode cX7_valueOf 14 = .ok (.getfield 7, 3) := by decide +kernel
theorem dX7_valueOf_17 : decode cX7_valueOf 17 = .ok (.iconst 0, 1) := by decide +kernel
theorem dX7_valueOf_18 : decode cX7_valueOf 18 = .ok (.iaload, 1) := by decide +kernel
theorem dX7_valueOf_19 : decode cX7_valueOf 19 = .ok (.if_icmp .ge 62, 3) := by decide +kernel
theorem dX7_valueOf_22 : decode cX7_valueOf 22 = .ok (.aload_n 0, 1) := by decide +kernel
theorem dX7_valueOf_23 : decode cX7_valueOf 23 = .ok (.iload 5, 2) := by decide +kernel
theorem dX7_valueOf_25 : decode cX7_valueOf 25 = .ok (.invokevirtual 54, 3) := by decide +kernel
theorem dX7_valueOf_28 : decode cX7_valueOf 28 = .ok (.istore 6, 2) := by decide +kernel
theorem dX7_valueOf_30 : decode cX7_valueOf 30 = .ok (.iload 6, 2) := by decide +kernel
theorem dX7_valueOf_32 : decode cX7_valueOf 32 = .ok (.iload_n 2, 1) := by decide +kernel
theorem dX7_valueOf_33 : decode cX7_valueOf 33 = .ok (.if_icmp .ge 8, 3) := by decide +kernel
theorem dX7_valueOf_36 : decode cX7_valueOf 36 = .ok (.iload 6, 2) := by decide +kernel
theorem dX7_valueOf_38 : decode cX7_valueOf 38 = .ok (.goto 4, 3) := by decide +kernel
theorem dX7_valueOf_41 : decode cX7_valueOf 41 = .ok (.iload_n 2, 1) := by decide +kernel
theorem dX7_valueOf_42 : decode cX7_valueOf 42 = .ok (.istore_n 2, 1) := by decide +kernel
theorem dX7_valueOf_43 : decode cX7_valueOf 43 = .ok (.iload_n 3, 1) := by decide +kernel
theorem dX7_valueOf_44 : decode cX7_valueOf 44 = .ok (.iload 6, 2) := by decide +kernel
theorem dX7_valueOf_46 : decode cX7_valueOf 46 = .ok (.iload 6, 2) := by decide +kernel
theorem dX7_valueOf_48 : decode cX7_valueOf 48 = .ok (.imul, 1) := by decide +kernel
theorem dX7_valueOf_49 : decode cX7_valueOf 49 = .ok (.iadd, 1) := by decide +kernel
theorem dX7_valueOf_50 : decode cX7_valueOf 50 = .ok (.istore_n 3, 1) := by decide +kernel
theorem dX7_valueOf_51 : decode cX7_valueOf 51 = .ok (.iload 4, 2) := by decide +kernel
theorem dX7_valueOf_53 : decode cX7_valueOf 53 = .ok (.iload 6, 2) := by decide +kernel
theorem dX7_valueOf_55 : decode cX7_valueOf 55 = .ok (.aload_n 0, 1) := by decide +kernel
theorem dX7_valueOf_56 : decode cX7_valueOf 56 = .ok (.getfield 7, 3) := by decide +kernel
theorem dX7_valueOf_59 : decode cX7_valueOf 59 = .ok (.iconst 4, 1) := by decide +kernel
theorem dX7_valueOf_60 : decode cX7_valueOf 60 = .ok (.iload 5, 2) := by decide +kernel
theorem dX7_valueOf_62 : decode cX7_valueOf 62 = .ok (.iadd, 1) := by decide +kernel
theorem dX7_valueOf_63 : decode cX7_valueOf 63 = .ok (.iaload, 1) := by decide +kernel
theorem dX7_valueOf_64 : decode cX7_valueOf 64 = .ok (.if_icmp .le 7, 3) := by decide +kernel
theorem dX7_valueOf_67 : decode cX7_valueOf 67 = .ok (.iconst 1, 1) := by decide +kernel
theorem dX7_valueOf_68 : decode cX7_valueOf 68 = .ok (.goto 4, 3) := by decide +kernel
theorem dX7_valueOf_71 : decode cX7_valueOf 71 = .ok (.iconst 0, 1) := by decide +kernel
theorem dX7_valueOf_72 : decode cX7_valueOf 72 = .ok (.iadd, 1) := by decide +kernel
theorem dX7_valueOf_73 : decode cX7_valueOf 73 = .ok (.istore 4, 2) := by decide +kernel
theorem dX7_valueOf_75 : decode cX7_valueOf 75 = .ok (.iinc 5 1, 3) := by decide +kernel
theorem dX7_valueOf_78 : decode cX7_valueOf 78 = .ok (.goto (-67), 3) := by decide +kernel
theorem dX7_valueOf_81 : decode cX7_valueOf 81 = .ok (.iload_n 1, 1) := by decide +kernel
theorem dX7_valueOf_82 : decode cX7_valueOf 82 = .ok (.tableswitch 79 0 6 #[42, 49, 56, 61, 63, 65, 72], 42) := by decide +kernel
theorem dX7_valueOf_124 : decode cX7_valueOf 124 = .ok (.aload_n 0, 1) := by decide +kernel
theorem dX7_valueOf_125 : decode cX7_valueOf 125 = .ok (.getfield 7, 3) := by decide +kernel
theorem dX7_valueOf_128 : decode cX7_valueOf 128 = .ok (.iconst 0, 1) := by decide +kernel
theorem dX7_valueOf_129 : decode cX7_valueOf 129 = .ok (.iaload, 1) := by decide +kernel
theorem dX7_valueOf_130 : decode cX7_valueOf 130 = .ok (.ireturn, 1) := by decide +kernel
theorem dX7_valueOf_131 : decode cX7_valueOf 131 = .ok (.aload_n 0, 1) := by decide +kernel
theorem dX7_valueOf_132 : decode cX7_valueOf 132 = .ok (.getfield 7, 3) := by decide +kernel
theorem dX7_valueOf_135 : decode cX7_valueOf 135 = .ok (.iconst 3, 1) := by decide +kernel
theorem dX7_valueOf_136 : decode cX7_valueOf 136 = .ok (.iaload, 1) := by decide +kernel
theorem dX7_valueOf_137 : decode cX7_valueOf 137 = .ok (.ireturn, 1) := by decide +kernel
theorem dX7_valueOf_138 : decode cX7_valueOf 138 = .ok (.aload_n 0, 1) := by decide +kernel
theorem dX7_valueOf_139 : decode cX7_valueOf 139 = .ok (.invokevirtual 99, 3) := by decide +kernel
theorem dX7_valueOf_142 : decode cX7_valueOf 142 = .ok (.ireturn, 1) := by decide +kernel
theorem dX7_valueOf_143 : decode cX7_valueOf 143 = .ok (.iload_n 2, 1) := by decide +kernel
theorem dX7_valueOf_144 : decode cX7_valueOf 144 = .ok (.ireturn, 1) := by decide +kernel
theorem dX7_valueOf_145 : decode cX7_valueOf 145 = .ok (.iload_n 3, 1) := by decide +kernel
theorem dX7_valueOf_146 : decode cX7_valueOf 146 = .ok (.ireturn, 1) := by decide +kernel
theorem dX7_valueOf_147 : decode cX7_valueOf 147 = .ok (.aload_n 0, 1) := by decide +kernel
theorem dX7_valueOf_148 : decode cX7_valueOf 148 = .ok (.getfield 7, 3) := by decide +kernel
theorem dX7_valueOf_151 : decode cX7_valueOf 151 = .ok (.iconst 2, 1) := by decide +kernel
theorem dX7_valueOf_152 : decode cX7_valueOf 152 = .ok (.iaload, 1) := by decide +kernel
theorem dX7_valueOf_153 : decode cX7_valueOf 153 = .ok (.ireturn, 1) := by decide +kernel
theorem dX7_valueOf_154 : decode cX7_valueOf 154 = .ok (.aload_n 0, 1) := by decide +kernel
theorem dX7_valueOf_155 : decode cX7_valueOf 155 = .ok (.getfield 7, 3) := by decide +kernel
theorem dX7_valueOf_158 : decode cX7_valueOf 158 = .ok (.iconst 1, 1) := by decide +kernel
theorem dX7_valueOf_159 : decode cX7_valueOf 159 = .ok (.iaload, 1) := by decide +kernel
theorem dX7_valueOf_160 : decode cX7_valueOf 160 = .ok (.ireturn, 1) := by decide +kernel
theorem dX7_valueOf_161 : decode cX7_valueOf 161 = .ok (.iload 4, 2) := by decide +kernel
theorem dX7_valueOf_163 : decode cX7_valueOf 163 = .ok (.ireturn, 1) := by decide +kernel
theorem dX7_value_0 : decode cX7_value 0 = .ok (.aload_n 0, 1) := by decide +kernel
theorem dX7_value_1 : decode cX7_value 1 = .ok (.iload_n 1, 1) := by decide +kernel
theorem dX7_value_2 : decode cX7_value 2 = .ok (.iconst 0, 1) := by decide +kernel
theorem dX7_value_3 : decode cX7_value 3 = .ok (.bipush 7, 2) := by decide +kernel
theorem dX7_value_5 : decode cX7_value 5 = .ok (.invokestatic 36, 3) := by decide +kernel
theorem dX7_value_8 : decode cX7_value 8 = .ok (.ifCond .ne 7, 3) := by decide +kernel
theorem dX7_value_11 : decode cX7_value 11 = .ok (.iconst 1, 1) := by decide +kernel
theorem dX7_value_12 : decode cX7_value 12 = .ok (.goto 4, 3) := by decide +kernel
theorem dX7_value_15 : decode cX7_value 15 = .ok (.iconst 0, 1) := by decide +kernel
theorem dX7_value_16 : decode cX7_value 16 = .ok (.iconst 0, 1) := by decide +kernel
theorem dX7_value_17 : decode cX7_value 17 = .ok (.iconst 0, 1) := by decide +kernel
theorem dX7_value_18 : decode cX7_value 18 = .ok (.invokevirtual 46, 3) := by decide +kernel
theorem dX7_value_21 : decode cX7_value 21 = .ok (.ifCond .eq 7, 3) := by decide +kernel
theorem dX7_value_24 : decode cX7_value 24 = .ok (.iconst 0, 1) := by decide +kernel
theorem dX7_value_25 : decode cX7_value 25 = .ok (.goto 8, 3) := by decide +kernel
theorem dX7_value_28 : decode cX7_value 28 = .ok (.aload_n 0, 1) := by decide +kernel
theorem dX7_value_29 : decode cX7_value 29 = .ok (.iload_n 1, 1) := by decide +kernel
theorem dX7_value_30 : decode cX7_value 30 = .ok (.invokevirtual 133, 3) := by decide +kernel
theorem dX7_value_33 : decode cX7_value 33 = .ok (.ireturn, 1) := by decide +kernel
theorem dX7_pathOf_0 : decode cX7_pathOf 0 = .ok (.aload_n 0, 1) := by decide +kernel
theorem dX7_pathOf_1 : decode cX7_pathOf 1 = .ok (.iload_n 1, 1) := by decide +kernel
theorem dX7_pathOf_2 : decode cX7_pathOf 2 = .ok (.invokevirtual 93, 3) := by decide +kernel
theorem dX7_pathOf_5 : decode cX7_pathOf 5 = .ok (.aload_n 0, 1) := by decide +kernel
theorem dX7_pathOf_6 : decode cX7_pathOf 6 = .ok (.getfield 87, 3) := by decide +kernel
theorem dX7_pathOf_9 : decode cX7_pathOf 9 = .ok (.iload_n 2, 1) := by decide +kernel
theorem dX7_pathOf_10 : decode cX7_pathOf 10 = .ok (.ishr, 1) := by decide +kernel
theorem dX7_pathOf_11 : decode cX7_pathOf 11 = .ok (.iconst 1, 1) := by decide +kernel
theorem dX7_pathOf_12 : decode cX7_pathOf 12 = .ok (.iand, 1) := by decide +kernel
theorem dX7_pathOf_13 : decode cX7_pathOf 13 = .ok (.ifCond .ne 7, 3) := by decide +kernel
theorem dX7_pathOf_16 : decode cX7_pathOf 16 = .ok (.iconst (-1), 1) := by decide +kernel
theorem dX7_pathOf_17 : decode cX7_pathOf 17 = .ok (.goto 8, 3) := by decide +kernel
theorem dX7_pathOf_20 : decode cX7_pathOf 20 = .ok (.aload_n 0, 1) := by decide +kernel
theorem dX7_pathOf_21 : decode cX7_pathOf 21 = .ok (.iload_n 2, 1) := by decide +kernel
theorem dX7_pathOf_22 : decode cX7_pathOf 22 = .ok (.invokevirtual 136, 3) := by decide +kernel
theorem dX7_pathOf_25 : decode cX7_pathOf 25 = .ok (.ireturn, 1) := by decide +kernel
theorem dX7_path_0 : decode cX7_path 0 = .ok (.aload_n 0, 1) := by decide +kernel
theorem dX7_path_1 : decode cX7_path 1 = .ok (.aload_n 0, 1) := by decide +kernel
theorem dX7_path_2 : decode cX7_path 2 = .ok (.iload_n 1, 1) := by decide +kernel
theorem dX7_path_3 : decode cX7_path 3 = .ok (.invokevirtual 60, 3) := by decide +kernel
theorem dX7_path_6 : decode cX7_path 6 = .ok (.ifCond .eq 11, 3) := by decide +kernel
theorem dX7_path_9 : decode cX7_path 9 = .ok (.aload_n 0, 1) := by decide +kernel
theorem dX7_path_10 : decode cX7_path 10 = .ok (.iload_n 2, 1) := by decide +kernel
theorem dX7_path_11 : decode cX7_path 11 = .ok (.invokevirtual 60, 3) := by decide +kernel
theorem dX7_path_14 : decode cX7_path 14 = .ok (.ifCond .ne 7, 3) := by decide +kernel
theorem dX7_path_17 : decode cX7_path 17 = .ok (.iconst 1, 1) := by decide +kernel
theorem dX7_path_18 : decode cX7_path 18 = .ok (.goto 4, 3) := by decide +kernel
theorem dX7_path_21 : decode cX7_path 21 = .ok (.iconst 0, 1) := by decide +kernel
theorem dX7_path_22 : decode cX7_path 22 = .ok (.iconst 0, 1) := by decide +kernel
theorem dX7_path_23 : decode cX7_path 23 = .ok (.iconst 0, 1) := by decide +kernel
theorem dX7_path_24 : decode cX7_path 24 = .ok (.invokevirtual 46, 3) := by decide +kernel
theorem dX7_path_27 : decode cX7_path 27 = .ok (.ifCond .eq 7, 3) := by decide +kernel
theorem dX7_path_30 : decode cX7_path 30 = .ok (.iconst 0, 1) := by decide +kernel
theorem dX7_path_31 : decode cX7_path 31 = .ok (.goto 9, 3) := by decide +kernel
theorem dX7_path_34 : decode cX7_path 34 = .ok (.aload_n 0, 1) := by decide +kernel
theorem dX7_path_35 : decode cX7_path 35 = .ok (.iload_n 1, 1) := by decide +kernel
theorem dX7_path_36 : decode cX7_path 36 = .ok (.iload_n 2, 1) := by decide +kernel
theorem dX7_path_37 : decode cX7_path 37 = .ok (.invokevirtual 139, 3) := by decide +kernel
theorem dX7_path_40 : decode cX7_path 40 = .ok (.ireturn, 1) := by decide +kernel
theorem dX7_step_0 : decode cX7_step 0 = .ok (.aload_n 0, 1) := by decide +kernel
theorem dX7_step_1 : decode cX7_step 1 = .ok (.aload_n 0, 1) := by decide +kernel
theorem dX7_step_2 : decode cX7_step 2 = .ok (.iload_n 1, 1) := by decide +kernel
theorem dX7_step_3 : decode cX7_step 3 = .ok (.invokevirtual 60, 3) := by decide +kernel
theorem dX7_step_6 : decode cX7_step 6 = .ok (.ifCond .eq 27, 3) := by decide +kernel
theorem dX7_step_9 : decode cX7_step 9 = .ok (.aload_n 0, 1) := by decide +kernel
theorem dX7_step_10 : decode cX7_step 10 = .ok (.iload_n 2, 1) := by decide +kernel
theorem dX7_step_11 : decode cX7_step 11 = .ok (.invokevirtual 60, 3) := by decide +kernel
theorem dX7_step_14 : decode cX7_step 14 = .ok (.ifCond .eq 19, 3) := by decide +kernel
theorem dX7_step_17 : decode cX7_step 17 = .ok (.iload_n 3, 1) := by decide +kernel
theorem dX7_step_18 : decode cX7_step 18 = .ok (.iconst 0, 1) := by decide +kernel
theorem dX7_step_19 : decode cX7_step 19 = .ok (.aload_n 0, 1) := by decide +kernel
theorem dX7_step_20 : decode cX7_step 20 = .ok (.iload_n 1, 1) := by decide +kernel
theorem dX7_step_21 : decode cX7_step 21 = .ok (.iload_n 2, 1) := by decide +kernel
theorem dX7_step_22 : decode cX7_step 22 = .ok (.invokevirtual 139, 3) := by decide +kernel
theorem dX7_step_25 : decode cX7_step 25 = .ok (.iconst 1, 1) := by decide +kernel
theorem dX7_step_26 : decode cX7_step 26 = .ok (.isub, 1) := by decide +kernel
theorem dX7_step_27 : decode cX7_step 27 = .ok (.invokestatic 36, 3) := by decide +kernel
theorem dX7_step_30 : decode cX7_step 30 = .ok (.ifCond .ne 7, 3) := by decide +kernel
theorem dX7_step_33 : decode cX7_step 33 = .ok (.iconst 1, 1) := by decide +kernel
theorem dX7_step_34 : decode cX7_step 34 = .ok (.goto 4, 3) := by decide +kernel
theorem dX7_step_37 : decode cX7_step 37 = .ok (.iconst 0, 1) := by decide +kernel
theorem dX7_step_38 : decode cX7_step 38 = .ok (.iconst 0, 1) := by decide +kernel
theorem dX7_step_39 : decode cX7_step 39 = .ok (.iconst 0, 1) := by decide +kernel
theorem dX7_step_40 : decode cX7_step 40 = .ok (.invokevirtual 46, 3) := by decide +kernel
theorem dX7_step_43 : decode cX7_step 43 = .ok (.ifCond .eq 5, 3) := by decide +kernel
theorem dX7_step_46 : decode cX7_step 46 = .ok (.iconst 0, 1) := by decide +kernel
theorem dX7_step_47 : decode cX7_step 47 = .ok (.ireturn, 1) := by decide +kernel
theorem dX7_step_48 : decode cX7_step 48 = .ok (.iload_n 2, 1) := by decide +kernel
theorem dX7_step_49 : decode cX7_step 49 = .ok (.istore 4, 2) := by decide +kernel
theorem dX7_step_51 : decode cX7_step 51 = .ok (.aload_n 0, 1) := by decide +kernel
theorem dX7_step_52 : decode cX7_step 52 = .ok (.iload_n 2, 1) := by decide +kernel
theorem dX7_step_53 : decode cX7_step 53 = .ok (.invokevirtual 136, 3) := by decide +kernel
theorem dX7_step_56 : decode cX7_step 56 = .ok (.iconst 1, 1) := by decide +kernel
theorem dX7_step_57 : decode cX7_step 57 = .ok (.isub, 1) := by decide +kernel
theorem dX7_step_58 : decode cX7_step 58 = .ok (.istore 5, 2) := by decide +kernel
theorem dX7_step_60 : decode cX7_step 60 = .ok (.iload 5, 2) := by decide +kernel
theorem dX7_step_62 : decode cX7_step 62 = .ok (.iload_n 3, 1) := by decide +kernel
theorem dX7_step_63 : decode cX7_step 63 = .ok (.if_icmp .le 22, 3) := by decide +kernel
theorem dX7_step_66 : decode cX7_step 66 = .ok (.aload_n 0, 1) := by decide +kernel
theorem dX7_step_67 : decode cX7_step 67 = .ok (.aload_n 0, 1) := by decide +kernel
theorem dX7_step_68 : decode cX7_step 68 = .ok (.getfield 25, 3) := by decide +kernel
theorem dX7_step_71 : decode cX7_step 71 = .ok (.iload 4, 2) := by decide +kernel
theorem dX7_step_73 : decode cX7_step 73 = .ok (.iaload, 1) := by decide +kernel
theorem dX7_step_74 : decode cX7_step 74 = .ok (.invokevirtual 50, 3) := by decide +kernel
theorem dX7_step_77 : decode cX7_step 77 = .ok (.istore 4, 2) := by decide +kernel
theorem dX7_step_79 : decode cX7_step 79 = .ok (.iinc 5 (-1), 3) := by decide +kernel
theorem dX7_step_82 : decode cX7_step 82 = .ok (.goto (-22), 3) := by decide +kernel
theorem dX7_step_85 : decode cX7_step 85 = .ok (.aload_n 0, 1) := by decide +kernel
theorem dX7_step_86 : decode cX7_step 86 = .ok (.getfield 7, 3) := by decide +kernel
theorem dX7_step_89 : decode cX7_step 89 = .ok (.bipush 16, 2) := by decide +kernel
theorem dX7_step_91 : decode cX7_step 91 = .ok (.aload_n 0, 1) := by decide +kernel
theorem dX7_step_92 : decode cX7_step 92 = .ok (.getfield 25, 3) := by decide +kernel
theorem dX7_step_95 : decode cX7_step 95 = .ok (.iload 4, 2) := by decide +kernel
theorem dX7_step_97 : decode cX7_step 97 = .ok (.iaload, 1) := by decide +kernel
theorem dX7_step_98 : decode cX7_step 98 = .ok (.iadd, 1) := by decide +kernel
theorem dX7_step_99 : decode cX7_step 99 = .ok (.iaload, 1) := by decide +kernel
theorem dX7_step_100 : decode cX7_step 100 = .ok (.ireturn, 1) := by decide +kernel
theorem dX7_innerOf_0 : decode cX7_innerOf 0 = .ok (.iload_n 3, 1) := by decide +kernel
theorem dX7_innerOf_1 : decode cX7_innerOf 1 = .ok (.ifCond .eq 14, 3) := by decide +kernel
theorem dX7_innerOf_4 : decode cX7_innerOf 4 = .ok (.iload_n 1, 1) := by decide +kernel
theorem dX7_innerOf_5 : decode cX7_innerOf 5 = .ok (.iload_n 3, 1) := by decide +kernel
theorem dX7_innerOf_6 : decode cX7_innerOf 6 = .ok (.iand, 1) := by decide +kernel
theorem dX7_innerOf_7 : decode cX7_innerOf 7 = .ok (.iload_n 3, 1) := by decide +kernel
theorem dX7_innerOf_8 : decode cX7_innerOf 8 = .ok (.if_icmp .ne 7, 3) := by decide +kernel
theorem dX7_innerOf_11 : decode cX7_innerOf 11 = .ok (.iconst 1, 1) := by decide +kernel
theorem dX7_innerOf_12 : decode cX7_innerOf 12 = .ok (.goto 4, 3) := by decide +kernel
theorem dX7_innerOf_15 : decode cX7_innerOf 15 = .ok (.iconst 0, 1) := by decide +kernel
theorem dX7_innerOf_16 : decode cX7_innerOf 16 = .ok (.istore 4, 2) := by decide +kernel
theorem dX7_innerOf_18 : decode cX7_innerOf 18 = .ok (.iconst 0, 1) := by decide +kernel
theorem dX7_innerOf_19 : decode cX7_innerOf 19 = .ok (.istore 5, 2) := by decide +kernel
theorem dX7_innerOf_21 : decode cX7_innerOf 21 = .ok (.iload 5, 2) := by decide +kernel
theorem dX7_innerOf_23 : decode cX7_innerOf 23 = .ok (.aload_n 0, 1) := by decide +kernel
theorem dX7_innerOf_24 : decode cX7_innerOf 24 = .ok (.getfield 7, 3) := by decide +kernel
theorem dX7_innerOf_27 : decode cX7_innerOf 27 = .ok (.iconst 3, 1) := by decide +kernel
theorem dX7_innerOf_28 : decode cX7_innerOf 28 = .ok (.iaload, 1) := by decide +kernel
theorem dX7_innerOf_29 : decode cX7_innerOf 29 = .ok (.if_icmp .ge 61, 3) := by decide +kernel
theorem dX7_innerOf_32 : decode cX7_innerOf 32 = .ok (.iload 4, 2) := by decide +kernel
theorem dX7_innerOf_34 : decode cX7_innerOf 34 = .ok (.iload 5, 2) := by decide +kernel
theorem dX7_innerOf_36 : decode cX7_innerOf 36 = .ok (.iload_n 2, 1) := by decide +kernel
theorem dX7_innerOf_37 : decode cX7_innerOf 37 = .ok (.if_icmp .eq 43, 3) := by decide +kernel
theorem dX7_innerOf_40 : decode cX7_innerOf 40 = .ok (.iload_n 1, 1) := by decide +kernel
theorem dX7_innerOf_41 : decode cX7_innerOf 41 = .ok (.aload_n 0, 1) := by decide +kernel
theorem dX7_innerOf_42 : decode cX7_innerOf 42 = .ok (.getfield 7, 3) := by decide +kernel
theorem dX7_innerOf_45 : decode cX7_innerOf 45 = .ok (.bipush 56, 2) := by decide +kernel
theorem dX7_innerOf_47 : decode cX7_innerOf 47 = .ok (.iload 5, 2) := by decide +kernel
theorem dX7_innerOf_49 : decode cX7_innerOf 49 = .ok (.iadd, 1) := by decide +kernel
theorem dX7_innerOf_50 : decode cX7_innerOf 50 = .ok (.iaload, 1) := by decide +kernel
theorem dX7_innerOf_51 : decode cX7_innerOf 51 = .ok (.ishr, 1) := by decide +kernel
end
section
theorem dX7_innerOf_52 : decode cX7_innerOf 52 = .ok (.iconst 1, 1) := by decide +kernel
theorem dX7_innerOf_53 : decode cX7_innerOf 53 = .ok (.iand, 1) := by decide +kernel
theorem dX7_innerOf_54 : decode cX7_innerOf 54 = .ok (.iconst 1, 1) := by decide +kernel
theorem dX7_innerOf_55 : decode cX7_innerOf 55 = .ok (.if_icmp .ne 25, 3) := by decide +kernel
theorem dX7_innerOf_58 : decode cX7_innerOf 58 = .ok (.iload_n 1, 1) := by decide +kernel
theorem dX7_innerOf_59 : decode cX7_innerOf 59 = .ok (.aload_n 0, 1) := by decide +kernel
theorem dX7_innerOf_60 : decode cX7_innerOf 60 = .ok (.getfield 7, 3) := by decide +kernel
theorem dX7_innerOf_63 : decode cX7_innerOf 63 = .ok (.bipush 96, 2) := by decide +kernel
theorem dX7_innerOf_65 : decode cX7_innerOf 65 = .ok (.iload 5, 2) := by decide +kernel
theorem dX7_innerOf_67 : decode cX7_innerOf 67 = .ok (.iadd, 1) := by decide +kernel
theorem dX7_innerOf_68 : decode cX7_innerOf 68 = .ok (.iaload, 1) := by decide +kernel
theorem dX7_innerOf_69 : decode cX7_innerOf 69 = .ok (.ishr, 1) := by decide +kernel
theorem dX7_innerOf_70 : decode cX7_innerOf 70 = .ok (.iconst 1, 1) := by decide +kernel
theorem dX7_innerOf_71 : decode cX7_innerOf 71 = .ok (.iand, 1) := by decide +kernel
theorem dX7_innerOf_72 : decode cX7_innerOf 72 = .ok (.iconst 1, 1) := by decide +kernel
theorem dX7_innerOf_73 : decode cX7_innerOf 73 = .ok (.if_icmp .ne 7, 3) := by decide +kernel
theorem dX7_innerOf_76 : decode cX7_innerOf 76 = .ok (.iconst 1, 1) := by decide +kernel
theorem dX7_innerOf_77 : decode cX7_innerOf 77 = .ok (.goto 4, 3) := by decide +kernel
theorem dX7_innerOf_80 : decode cX7_innerOf 80 = .ok (.iconst 0, 1) := by decide +kernel
theorem dX7_innerOf_81 : decode cX7_innerOf 81 = .ok (.iadd, 1) := by decide +kernel
theorem dX7_innerOf_82 : decode cX7_innerOf 82 = .ok (.istore 4, 2) := by decide +kernel
theorem dX7_innerOf_84 : decode cX7_innerOf 84 = .ok (.iinc 5 1, 3) := by decide +kernel
theorem dX7_innerOf_87 : decode cX7_innerOf 87 = .ok (.goto (-66), 3) := by decide +kernel
theorem dX7_innerOf_90 : decode cX7_innerOf 90 = .ok (.iload 4, 2) := by decide +kernel
theorem dX7_innerOf_92 : decode cX7_innerOf 92 = .ok (.ireturn, 1) := by decide +kernel
theorem dX7_densestOf_0 : decode cX7_densestOf 0 = .ok (.iconst 1, 1) := by decide +kernel
theorem dX7_densestOf_1 : decode cX7_densestOf 1 = .ok (.istore_n 3, 1) := by decide +kernel
theorem dX7_densestOf_2 : decode cX7_densestOf 2 = .ok (.iconst 0, 1) := by decide +kernel
theorem dX7_densestOf_3 : decode cX7_densestOf 3 = .ok (.istore 4, 2) := by decide +kernel
theorem dX7_densestOf_5 : decode cX7_densestOf 5 = .ok (.iconst 1, 1) := by decide +kernel
theorem dX7_densestOf_6 : decode cX7_densestOf 6 = .ok (.istore 5, 2) := by decide +kernel
theorem dX7_densestOf_8 : decode cX7_densestOf 8 = .ok (.iconst 1, 1) := by decide +kernel
theorem dX7_densestOf_9 : decode cX7_densestOf 9 = .ok (.istore 6, 2) := by decide +kernel
theorem dX7_densestOf_11 : decode cX7_densestOf 11 = .ok (.iload 6, 2) := by decide +kernel
theorem dX7_densestOf_13 : decode cX7_densestOf 13 = .ok (.iconst 1, 1) := by decide +kernel
theorem dX7_densestOf_14 : decode cX7_densestOf 14 = .ok (.aload_n 0, 1) := by decide +kernel
theorem dX7_densestOf_15 : decode cX7_densestOf 15 = .ok (.getfield 7, 3) := by decide +kernel
theorem dX7_densestOf_18 : decode cX7_densestOf 18 = .ok (.iconst 0, 1) := by decide +kernel
theorem dX7_densestOf_19 : decode cX7_densestOf 19 = .ok (.iaload, 1) := by decide +kernel
theorem dX7_densestOf_20 : decode cX7_densestOf 20 = .ok (.ishl, 1) := by decide +kernel
theorem dX7_densestOf_21 : decode cX7_densestOf 21 = .ok (.if_icmp .ge 67, 3) := by decide +kernel
theorem dX7_densestOf_24 : decode cX7_densestOf 24 = .ok (.iload 6, 2) := by decide +kernel
theorem dX7_densestOf_26 : decode cX7_densestOf 26 = .ok (.invokestatic 124, 3) := by decide +kernel
theorem dX7_densestOf_29 : decode cX7_densestOf 29 = .ok (.istore 7, 2) := by decide +kernel
theorem dX7_densestOf_31 : decode cX7_densestOf 31 = .ok (.aload_n 0, 1) := by decide +kernel
theorem dX7_densestOf_32 : decode cX7_densestOf 32 = .ok (.iload 6, 2) := by decide +kernel
theorem dX7_densestOf_34 : decode cX7_densestOf 34 = .ok (.iload_n 1, 1) := by decide +kernel
theorem dX7_densestOf_35 : decode cX7_densestOf 35 = .ok (.iload_n 2, 1) := by decide +kernel
theorem dX7_densestOf_36 : decode cX7_densestOf 36 = .ok (.invokevirtual 142, 3) := by decide +kernel
theorem dX7_densestOf_39 : decode cX7_densestOf 39 = .ok (.istore 8, 2) := by decide +kernel
theorem dX7_densestOf_41 : decode cX7_densestOf 41 = .ok (.iload 8, 2) := by decide +kernel
theorem dX7_densestOf_43 : decode cX7_densestOf 43 = .ok (.iload 5, 2) := by decide +kernel
theorem dX7_densestOf_45 : decode cX7_densestOf 45 = .ok (.imul, 1) := by decide +kernel
theorem dX7_densestOf_46 : decode cX7_densestOf 46 = .ok (.iload 4, 2) := by decide +kernel
theorem dX7_densestOf_48 : decode cX7_densestOf 48 = .ok (.iload 7, 2) := by decide +kernel
theorem dX7_densestOf_50 : decode cX7_densestOf 50 = .ok (.imul, 1) := by decide +kernel
theorem dX7_densestOf_51 : decode cX7_densestOf 51 = .ok (.isub, 1) := by decide +kernel
theorem dX7_densestOf_52 : decode cX7_densestOf 52 = .ok (.istore 9, 2) := by decide +kernel
theorem dX7_densestOf_54 : decode cX7_densestOf 54 = .ok (.iload 9, 2) := by decide +kernel
theorem dX7_densestOf_56 : decode cX7_densestOf 56 = .ok (.ifCond .gt 15, 3) := by decide +kernel
theorem dX7_densestOf_59 : decode cX7_densestOf 59 = .ok (.iload 9, 2) := by decide +kernel
theorem dX7_densestOf_61 : decode cX7_densestOf 61 = .ok (.ifCond .ne 21, 3) := by decide +kernel
theorem dX7_densestOf_64 : decode cX7_densestOf 64 = .ok (.iload 7, 2) := by decide +kernel
theorem dX7_densestOf_66 : decode cX7_densestOf 66 = .ok (.iload 5, 2) := by decide +kernel
theorem dX7_densestOf_68 : decode cX7_densestOf 68 = .ok (.if_icmp .le 14, 3) := by decide +kernel
theorem dX7_densestOf_71 : decode cX7_densestOf 71 = .ok (.iload 6, 2) := by decide +kernel
theorem dX7_densestOf_73 : decode cX7_densestOf 73 = .ok (.istore_n 3, 1) := by decide +kernel
theorem dX7_densestOf_74 : decode cX7_densestOf 74 = .ok (.iload 8, 2) := by decide +kernel
theorem dX7_densestOf_76 : decode cX7_densestOf 76 = .ok (.istore 4, 2) := by decide +kernel
theorem dX7_densestOf_78 : decode cX7_densestOf 78 = .ok (.iload 7, 2) := by decide +kernel
theorem dX7_densestOf_80 : decode cX7_densestOf 80 = .ok (.istore 5, 2) := by decide +kernel
theorem dX7_densestOf_82 : decode cX7_densestOf 82 = .ok (.iinc 6 1, 3) := by decide +kernel
theorem dX7_densestOf_85 : decode cX7_densestOf 85 = .ok (.goto (-74), 3) := by decide +kernel
theorem dX7_densestOf_88 : decode cX7_densestOf 88 = .ok (.iload_n 3, 1) := by decide +kernel
theorem dX7_densestOf_89 : decode cX7_densestOf 89 = .ok (.ireturn, 1) := by decide +kernel
theorem dX7_leastOf_0 : decode cX7_leastOf 0 = .ok (.aload_n 0, 1) := by decide +kernel
theorem dX7_leastOf_1 : decode cX7_leastOf 1 = .ok (.iload_n 1, 1) := by decide +kernel
theorem dX7_leastOf_2 : decode cX7_leastOf 2 = .ok (.iload_n 2, 1) := by decide +kernel
theorem dX7_leastOf_3 : decode cX7_leastOf 3 = .ok (.invokevirtual 146, 3) := by decide +kernel
theorem dX7_leastOf_6 : decode cX7_leastOf 6 = .ok (.istore_n 3, 1) := by decide +kernel
theorem dX7_leastOf_7 : decode cX7_leastOf 7 = .ok (.iload_n 3, 1) := by decide +kernel
theorem dX7_leastOf_8 : decode cX7_leastOf 8 = .ok (.invokestatic 124, 3) := by decide +kernel
theorem dX7_leastOf_11 : decode cX7_leastOf 11 = .ok (.istore 4, 2) := by decide +kernel
theorem dX7_leastOf_13 : decode cX7_leastOf 13 = .ok (.aload_n 0, 1) := by decide +kernel
theorem dX7_leastOf_14 : decode cX7_leastOf 14 = .ok (.iload_n 3, 1) := by decide +kernel
theorem dX7_leastOf_15 : decode cX7_leastOf 15 = .ok (.iload_n 1, 1) := by decide +kernel
theorem dX7_leastOf_16 : decode cX7_leastOf 16 = .ok (.iload_n 2, 1) := by decide +kernel
theorem dX7_leastOf_17 : decode cX7_leastOf 17 = .ok (.invokevirtual 142, 3) := by decide +kernel
theorem dX7_leastOf_20 : decode cX7_leastOf 20 = .ok (.iload 4, 2) := by decide +kernel
theorem dX7_leastOf_22 : decode cX7_leastOf 22 = .ok (.iadd, 1) := by decide +kernel
theorem dX7_leastOf_23 : decode cX7_leastOf 23 = .ok (.iconst 1, 1) := by decide +kernel
theorem dX7_leastOf_24 : decode cX7_leastOf 24 = .ok (.isub, 1) := by decide +kernel
theorem dX7_leastOf_25 : decode cX7_leastOf 25 = .ok (.iload 4, 2) := by decide +kernel
theorem dX7_leastOf_27 : decode cX7_leastOf 27 = .ok (.idiv, 1) := by decide +kernel
theorem dX7_leastOf_28 : decode cX7_leastOf 28 = .ok (.ireturn, 1) := by decide +kernel
theorem dX7_inner_0 : decode cX7_inner 0 = .ok (.aload_n 0, 1) := by decide +kernel
theorem dX7_inner_1 : decode cX7_inner 1 = .ok (.iload_n 1, 1) := by decide +kernel
theorem dX7_inner_2 : decode cX7_inner 2 = .ok (.iconst 1, 1) := by decide +kernel
theorem dX7_inner_3 : decode cX7_inner 3 = .ok (.iconst 1, 1) := by decide +kernel
theorem dX7_inner_4 : decode cX7_inner 4 = .ok (.aload_n 0, 1) := by decide +kernel
theorem dX7_inner_5 : decode cX7_inner 5 = .ok (.getfield 7, 3) := by decide +kernel
theorem dX7_inner_8 : decode cX7_inner 8 = .ok (.iconst 0, 1) := by decide +kernel
theorem dX7_inner_9 : decode cX7_inner 9 = .ok (.iaload, 1) := by decide +kernel
theorem dX7_inner_10 : decode cX7_inner 10 = .ok (.ishl, 1) := by decide +kernel
theorem dX7_inner_11 : decode cX7_inner 11 = .ok (.iconst 1, 1) := by decide +kernel
theorem dX7_inner_12 : decode cX7_inner 12 = .ok (.isub, 1) := by decide +kernel
theorem dX7_inner_13 : decode cX7_inner 13 = .ok (.invokestatic 36, 3) := by decide +kernel
theorem dX7_inner_16 : decode cX7_inner 16 = .ok (.ifCond .ne 7, 3) := by decide +kernel
theorem dX7_inner_19 : decode cX7_inner 19 = .ok (.iconst 1, 1) := by decide +kernel
theorem dX7_inner_20 : decode cX7_inner 20 = .ok (.goto 4, 3) := by decide +kernel
theorem dX7_inner_23 : decode cX7_inner 23 = .ok (.iconst 0, 1) := by decide +kernel
theorem dX7_inner_24 : decode cX7_inner 24 = .ok (.iconst 0, 1) := by decide +kernel
theorem dX7_inner_25 : decode cX7_inner 25 = .ok (.iconst 0, 1) := by decide +kernel
theorem dX7_inner_26 : decode cX7_inner 26 = .ok (.invokevirtual 46, 3) := by decide +kernel
theorem dX7_inner_29 : decode cX7_inner 29 = .ok (.ifCond .eq 7, 3) := by decide +kernel
theorem dX7_inner_32 : decode cX7_inner 32 = .ok (.iconst 0, 1) := by decide +kernel
theorem dX7_inner_33 : decode cX7_inner 33 = .ok (.goto 10, 3) := by decide +kernel
theorem dX7_inner_36 : decode cX7_inner 36 = .ok (.aload_n 0, 1) := by decide +kernel
theorem dX7_inner_37 : decode cX7_inner 37 = .ok (.iload_n 1, 1) := by decide +kernel
theorem dX7_inner_38 : decode cX7_inner 38 = .ok (.iconst (-1), 1) := by decide +kernel
theorem dX7_inner_39 : decode cX7_inner 39 = .ok (.iconst 0, 1) := by decide +kernel
theorem dX7_inner_40 : decode cX7_inner 40 = .ok (.invokevirtual 142, 3) := by decide +kernel
theorem dX7_inner_43 : decode cX7_inner 43 = .ok (.ireturn, 1) := by decide +kernel
theorem dX7_densest_0 : decode cX7_densest 0 = .ok (.aload_n 0, 1) := by decide +kernel
theorem dX7_densest_1 : decode cX7_densest 1 = .ok (.iconst 0, 1) := by decide +kernel
theorem dX7_densest_2 : decode cX7_densest 2 = .ok (.putfield 32, 3) := by decide +kernel
theorem dX7_densest_5 : decode cX7_densest 5 = .ok (.aload_n 0, 1) := by decide +kernel
theorem dX7_densest_6 : decode cX7_densest 6 = .ok (.iconst (-1), 1) := by decide +kernel
theorem dX7_densest_7 : decode cX7_densest 7 = .ok (.iconst 0, 1) := by decide +kernel
theorem dX7_densest_8 : decode cX7_densest 8 = .ok (.invokevirtual 146, 3) := by decide +kernel
theorem dX7_densest_11 : decode cX7_densest 11 = .ok (.ireturn, 1) := by decide +kernel
theorem dX7_least_0 : decode cX7_least 0 = .ok (.aload_n 0, 1) := by decide +kernel
theorem dX7_least_1 : decode cX7_least 1 = .ok (.iconst 0, 1) := by decide +kernel
theorem dX7_least_2 : decode cX7_least 2 = .ok (.putfield 32, 3) := by decide +kernel
theorem dX7_least_5 : decode cX7_least 5 = .ok (.aload_n 0, 1) := by decide +kernel
theorem dX7_least_6 : decode cX7_least 6 = .ok (.iconst (-1), 1) := by decide +kernel
theorem dX7_least_7 : decode cX7_least 7 = .ok (.iconst 0, 1) := by decide +kernel
theorem dX7_least_8 : decode cX7_least 8 = .ok (.invokevirtual 149, 3) := by decide +kernel
theorem dX7_least_11 : decode cX7_least 11 = .ok (.ireturn, 1) := by decide +kernel
theorem dX7_tooDense_0 : decode cX7_tooDense 0 = .ok (.aload_n 0, 1) := by decide +kernel
theorem dX7_tooDense_1 : decode cX7_tooDense 1 = .ok (.iconst 0, 1) := by decide +kernel
theorem dX7_tooDense_2 : decode cX7_tooDense 2 = .ok (.putfield 32, 3) := by decide +kernel
theorem dX7_tooDense_5 : decode cX7_tooDense 5 = .ok (.iconst (-1), 1) := by decide +kernel
theorem dX7_tooDense_6 : decode cX7_tooDense 6 = .ok (.istore_n 1, 1) := by decide +kernel
theorem dX7_tooDense_7 : decode cX7_tooDense 7 = .ok (.iconst 0, 1) := by decide +kernel
theorem dX7_tooDense_8 : decode cX7_tooDense 8 = .ok (.istore_n 2, 1) := by decide +kernel
theorem dX7_tooDense_9 : decode cX7_tooDense 9 = .ok (.iconst 1, 1) := by decide +kernel
theorem dX7_tooDense_10 : decode cX7_tooDense 10 = .ok (.istore_n 3, 1) := by decide +kernel
theorem dX7_tooDense_11 : decode cX7_tooDense 11 = .ok (.iload_n 3, 1) := by decide +kernel
theorem dX7_tooDense_12 : decode cX7_tooDense 12 = .ok (.iconst 1, 1) := by decide +kernel
theorem dX7_tooDense_13 : decode cX7_tooDense 13 = .ok (.aload_n 0, 1) := by decide +kernel
theorem dX7_tooDense_14 : decode cX7_tooDense 14 = .ok (.getfield 7, 3) := by decide +kernel
theorem dX7_tooDense_17 : decode cX7_tooDense 17 = .ok (.iconst 0, 1) := by decide +kernel
theorem dX7_tooDense_18 : decode cX7_tooDense 18 = .ok (.iaload, 1) := by decide +kernel
theorem dX7_tooDense_19 : decode cX7_tooDense 19 = .ok (.ishl, 1) := by decide +kernel
theorem dX7_tooDense_20 : decode cX7_tooDense 20 = .ok (.if_icmp .ge 91, 3) := by decide +kernel
theorem dX7_tooDense_23 : decode cX7_tooDense 23 = .ok (.aload_n 0, 1) := by decide +kernel
theorem dX7_tooDense_24 : decode cX7_tooDense 24 = .ok (.iload_n 3, 1) := by decide +kernel
theorem dX7_tooDense_25 : decode cX7_tooDense 25 = .ok (.iconst (-1), 1) := by decide +kernel
theorem dX7_tooDense_26 : decode cX7_tooDense 26 = .ok (.iconst 0, 1) := by decide +kernel
theorem dX7_tooDense_27 : decode cX7_tooDense 27 = .ok (.invokevirtual 142, 3) := by decide +kernel
theorem dX7_tooDense_30 : decode cX7_tooDense 30 = .ok (.istore 4, 2) := by decide +kernel
theorem dX7_tooDense_32 : decode cX7_tooDense 32 = .ok (.iconst 0, 1) := by decide +kernel
theorem dX7_tooDense_33 : decode cX7_tooDense 33 = .ok (.istore 5, 2) := by decide +kernel
theorem dX7_tooDense_35 : decode cX7_tooDense 35 = .ok (.iload 5, 2) := by decide +kernel
theorem dX7_tooDense_37 : decode cX7_tooDense 37 = .ok (.aload_n 0, 1) := by decide +kernel
theorem dX7_tooDense_38 : decode cX7_tooDense 38 = .ok (.getfield 7, 3) := by decide +kernel
theorem dX7_tooDense_41 : decode cX7_tooDense 41 = .ok (.iconst 0, 1) := by decide +kernel
theorem dX7_tooDense_42 : decode cX7_tooDense 42 = .ok (.iaload, 1) := by decide +kernel
theorem dX7_tooDense_43 : decode cX7_tooDense 43 = .ok (.if_icmp .ge 37, 3) := by decide +kernel
theorem dX7_tooDense_46 : decode cX7_tooDense 46 = .ok (.iload 4, 2) := by decide +kernel
theorem dX7_tooDense_48 : decode cX7_tooDense 48 = .ok (.iload_n 3, 1) := by decide +kernel
theorem dX7_tooDense_49 : decode cX7_tooDense 49 = .ok (.iload 5, 2) := by decide +kernel
theorem dX7_tooDense_51 : decode cX7_tooDense 51 = .ok (.ishr, 1) := by decide +kernel
theorem dX7_tooDense_52 : decode cX7_tooDense 52 = .ok (.iconst 1, 1) := by decide +kernel
theorem dX7_tooDense_53 : decode cX7_tooDense 53 = .ok (.iand, 1) := by decide +kernel
theorem dX7_tooDense_54 : decode cX7_tooDense 54 = .ok (.iconst 1, 1) := by decide +kernel
theorem dX7_tooDense_55 : decode cX7_tooDense 55 = .ok (.if_icmp .ne 15, 3) := by decide +kernel
theorem dX7_tooDense_58 : decode cX7_tooDense 58 = .ok (.aload_n 0, 1) := by decide +kernel
theorem dX7_tooDense_59 : decode cX7_tooDense 59 = .ok (.getfield 7, 3) := by decide +kernel
theorem dX7_tooDense_62 : decode cX7_tooDense 62 = .ok (.iconst 4, 1) := by decide +kernel
theorem dX7_tooDense_63 : decode cX7_tooDense 63 = .ok (.iload 5, 2) := by decide +kernel
theorem dX7_tooDense_65 : decode cX7_tooDense 65 = .ok (.iadd, 1) := by decide +kernel
theorem dX7_tooDense_66 : decode cX7_tooDense 66 = .ok (.iaload, 1) := by decide +kernel
theorem dX7_tooDense_67 : decode cX7_tooDense 67 = .ok (.goto 4, 3) := by decide +kernel
theorem dX7_tooDense_70 : decode cX7_tooDense 70 = .ok (.iconst 0, 1) := by decide +kernel
theorem dX7_tooDense_71 : decode cX7_tooDense 71 = .ok (.isub, 1) := by decide +kernel
theorem dX7_tooDense_72 : decode cX7_tooDense 72 = .ok (.istore 4, 2) := by decide +kernel
theorem dX7_tooDense_74 : decode cX7_tooDense 74 = .ok (.iinc 5 1, 3) := by decide +kernel
theorem dX7_tooDense_77 : decode cX7_tooDense 77 = .ok (.goto (-42), 3) := by decide +kernel
theorem dX7_tooDense_80 : decode cX7_tooDense 80 = .ok (.iload 4, 2) := by decide +kernel
theorem dX7_tooDense_82 : decode cX7_tooDense 82 = .ok (.iload_n 2, 1) := by decide +kernel
theorem dX7_tooDense_83 : decode cX7_tooDense 83 = .ok (.if_icmp .le 7, 3) := by decide +kernel
theorem dX7_tooDense_86 : decode cX7_tooDense 86 = .ok (.iload_n 3, 1) := by decide +kernel
theorem dX7_tooDense_87 : decode cX7_tooDense 87 = .ok (.goto 4, 3) := by decide +kernel
theorem dX7_tooDense_90 : decode cX7_tooDense 90 = .ok (.iload_n 1, 1) := by decide +kernel
theorem dX7_tooDense_91 : decode cX7_tooDense 91 = .ok (.istore_n 1, 1) := by decide +kernel
theorem dX7_tooDense_92 : decode cX7_tooDense 92 = .ok (.iload 4, 2) := by decide +kernel
theorem dX7_tooDense_94 : decode cX7_tooDense 94 = .ok (.iload_n 2, 1) := by decide +kernel
theorem dX7_tooDense_95 : decode cX7_tooDense 95 = .ok (.if_icmp .le 8, 3) := by decide +kernel
theorem dX7_tooDense_98 : decode cX7_tooDense 98 = .ok (.iload 4, 2) := by decide +kernel
theorem dX7_tooDense_100 : decode cX7_tooDense 100 = .ok (.goto 4, 3) := by decide +kernel
theorem dX7_tooDense_103 : decode cX7_tooDense 103 = .ok (.iload_n 2, 1) := by decide +kernel
theorem dX7_tooDense_104 : decode cX7_tooDense 104 = .ok (.istore_n 2, 1) := by decide +kernel
theorem dX7_tooDense_105 : decode cX7_tooDense 105 = .ok (.iinc 3 1, 3) := by decide +kernel
theorem dX7_tooDense_108 : decode cX7_tooDense 108 = .ok (.goto (-97), 3) := by decide +kernel
theorem dX7_tooDense_111 : decode cX7_tooDense 111 = .ok (.iload_n 1, 1) := by decide +kernel
theorem dX7_tooDense_112 : decode cX7_tooDense 112 = .ok (.ireturn, 1) := by decide +kernel
theorem dX7_leastWith_0 : decode cX7_leastWith 0 = .ok (.aload_n 0, 1) := by decide +kernel
theorem dX7_leastWith_1 : decode cX7_leastWith 1 = .ok (.aload_n 0, 1) := by decide +kernel
theorem dX7_leastWith_2 : decode cX7_leastWith 2 = .ok (.iload_n 1, 1) := by decide +kernel
theorem dX7_leastWith_3 : decode cX7_leastWith 3 = .ok (.invokevirtual 60, 3) := by decide +kernel
theorem dX7_leastWith_6 : decode cX7_leastWith 6 = .ok (.ifCond .eq 11, 3) := by decide +kernel
theorem dX7_leastWith_9 : decode cX7_leastWith 9 = .ok (.aload_n 0, 1) := by decide +kernel
theorem dX7_leastWith_10 : decode cX7_leastWith 10 = .ok (.iload_n 2, 1) := by decide +kernel
theorem dX7_leastWith_11 : decode cX7_leastWith 11 = .ok (.invokevirtual 60, 3) := by decide +kernel
theorem dX7_leastWith_14 : decode cX7_leastWith 14 = .ok (.ifCond .ne 7, 3) := by decide +kernel
theorem dX7_leastWith_17 : decode cX7_leastWith 17 = .ok (.iconst 1, 1) := by decide +kernel
theorem dX7_leastWith_18 : decode cX7_leastWith 18 = .ok (.goto 4, 3) := by decide +kernel
theorem dX7_leastWith_21 : decode cX7_leastWith 21 = .ok (.iconst 0, 1) := by decide +kernel
theorem dX7_leastWith_22 : decode cX7_leastWith 22 = .ok (.iload_n 1, 1) := by decide +kernel
theorem dX7_leastWith_23 : decode cX7_leastWith 23 = .ok (.iload_n 2, 1) := by decide +kernel
theorem dX7_leastWith_24 : decode cX7_leastWith 24 = .ok (.if_icmp .ne 7, 3) := by decide +kernel
theorem dX7_leastWith_27 : decode cX7_leastWith 27 = .ok (.iconst 1, 1) := by decide +kernel
theorem dX7_leastWith_28 : decode cX7_leastWith 28 = .ok (.goto 4, 3) := by decide +kernel
theorem dX7_leastWith_31 : decode cX7_leastWith 31 = .ok (.iconst 0, 1) := by decide +kernel
theorem dX7_leastWith_32 : decode cX7_leastWith 32 = .ok (.iconst 0, 1) := by decide +kernel
theorem dX7_leastWith_33 : decode cX7_leastWith 33 = .ok (.invokevirtual 46, 3) := by decide +kernel
theorem dX7_leastWith_36 : decode cX7_leastWith 36 = .ok (.ifCond .eq 7, 3) := by decide +kernel
theorem dX7_leastWith_39 : decode cX7_leastWith 39 = .ok (.iconst 0, 1) := by decide +kernel
theorem dX7_leastWith_40 : decode cX7_leastWith 40 = .ok (.goto 15, 3) := by decide +kernel
theorem dX7_leastWith_43 : decode cX7_leastWith 43 = .ok (.aload_n 0, 1) := by decide +kernel
theorem dX7_leastWith_44 : decode cX7_leastWith 44 = .ok (.iconst (-1), 1) := by decide +kernel
theorem dX7_leastWith_45 : decode cX7_leastWith 45 = .ok (.iconst 1, 1) := by decide +kernel
theorem dX7_leastWith_46 : decode cX7_leastWith 46 = .ok (.iload_n 1, 1) := by decide +kernel
theorem dX7_leastWith_47 : decode cX7_leastWith 47 = .ok (.ishl, 1) := by decide +kernel
theorem dX7_leastWith_48 : decode cX7_leastWith 48 = .ok (.iconst 1, 1) := by decide +kernel
theorem dX7_leastWith_49 : decode cX7_leastWith 49 = .ok (.iload_n 2, 1) := by decide +kernel
theorem dX7_leastWith_50 : decode cX7_leastWith 50 = .ok (.ishl, 1) := by decide +kernel
theorem dX7_leastWith_51 : decode cX7_leastWith 51 = .ok (.ior, 1) := by decide +kernel
theorem dX7_leastWith_52 : decode cX7_leastWith 52 = .ok (.invokevirtual 149, 3) := by decide +kernel
theorem dX7_leastWith_55 : decode cX7_leastWith 55 = .ok (.ireturn, 1) := by decide +kernel
theorem dX7_leastWithout_0 : decode cX7_leastWithout 0 = .ok (.aload_n 0, 1) := by decide +kernel
theorem dX7_leastWithout_1 : decode cX7_leastWithout 1 = .ok (.iload_n 1, 1) := by decide +kernel
theorem dX7_leastWithout_2 : decode cX7_leastWithout 2 = .ok (.invokevirtual 75, 3) := by decide +kernel
theorem dX7_leastWithout_5 : decode cX7_leastWithout 5 = .ok (.ifCond .eq 7, 3) := by decide +kernel
theorem dX7_leastWithout_8 : decode cX7_leastWithout 8 = .ok (.iconst 0, 1) := by decide +kernel
theorem dX7_leastWithout_9 : decode cX7_leastWithout 9 = .ok (.goto 13, 3) := by decide +kernel
theorem dX7_leastWithout_12 : decode cX7_leastWithout 12 = .ok (.aload_n 0, 1) := by decide +kernel
theorem dX7_leastWithout_13 : decode cX7_leastWithout 13 = .ok (.aload_n 0, 1) := by decide +kernel
theorem dX7_leastWithout_14 : decode cX7_leastWithout 14 = .ok (.iload_n 1, 1) := by decide +kernel
theorem dX7_leastWithout_15 : decode cX7_leastWithout 15 = .ok (.invokevirtual 72, 3) := by decide +kernel
theorem dX7_leastWithout_18 : decode cX7_leastWithout 18 = .ok (.iconst 0, 1) := by decide +kernel
theorem dX7_leastWithout_19 : decode cX7_leastWithout 19 = .ok (.invokevirtual 149, 3) := by decide +kernel
theorem dX7_leastWithout_22 : decode cX7_leastWithout 22 = .ok (.ireturn, 1) := by decide +kernel
theorem dX7_critical_0 : decode cX7_critical 0 = .ok (.aload_n 0, 1) := by decide +kernel
theorem dX7_critical_1 : decode cX7_critical 1 = .ok (.iconst 0, 1) := by decide +kernel
theorem dX7_critical_2 : decode cX7_critical 2 = .ok (.putfield 32, 3) := by decide +kernel
theorem dX7_critical_5 : decode cX7_critical 5 = .ok (.aload_n 0, 1) := by decide +kernel
theorem dX7_critical_6 : decode cX7_critical 6 = .ok (.iconst (-1), 1) := by decide +kernel
theorem dX7_critical_7 : decode cX7_critical 7 = .ok (.iconst 0, 1) := by decide +kernel
theorem dX7_critical_8 : decode cX7_critical 8 = .ok (.invokevirtual 149, 3) := by decide +kernel
theorem dX7_critical_11 : decode cX7_critical 11 = .ok (.istore_n 1, 1) := by decide +kernel
theorem dX7_critical_12 : decode cX7_critical 12 = .ok (.iconst 0, 1) := by decide +kernel
theorem dX7_critical_13 : decode cX7_critical 13 = .ok (.istore_n 2, 1) := by decide +kernel
theorem dX7_critical_14 : decode cX7_critical 14 = .ok (.iload_n 2, 1) := by decide +kernel
theorem dX7_critical_15 : decode cX7_critical 15 = .ok (.aload_n 0, 1) := by decide +kernel
theorem dX7_critical_16 : decode cX7_critical 16 = .ok (.getfield 7, 3) := by decide +kernel
theorem dX7_critical_19 : decode cX7_critical 19 = .ok (.iconst 3, 1) := by decide +kernel
theorem dX7_critical_20 : decode cX7_critical 20 = .ok (.iaload, 1) := by decide +kernel
theorem dX7_critical_21 : decode cX7_critical 21 = .ok (.if_icmp .ge 29, 3) := by decide +kernel
theorem dX7_critical_24 : decode cX7_critical 24 = .ok (.aload_n 0, 1) := by decide +kernel
theorem dX7_critical_25 : decode cX7_critical 25 = .ok (.iload_n 2, 1) := by decide +kernel
theorem dX7_critical_26 : decode cX7_critical 26 = .ok (.iconst 0, 1) := by decide +kernel
theorem dX7_critical_27 : decode cX7_critical 27 = .ok (.invokevirtual 149, 3) := by decide +kernel
theorem dX7_critical_30 : decode cX7_critical 30 = .ok (.iload_n 1, 1) := by decide +kernel
theorem dX7_critical_31 : decode cX7_critical 31 = .ok (.if_icmp .ge 13, 3) := by decide +kernel
theorem dX7_critical_34 : decode cX7_critical 34 = .ok (.aload_n 0, 1) := by decide +kernel
theorem dX7_critical_35 : decode cX7_critical 35 = .ok (.getfield 7, 3) := by decide +kernel
theorem dX7_critical_38 : decode cX7_critical 38 = .ok (.bipush 16, 2) := by decide +kernel
theorem dX7_critical_40 : decode cX7_critical 40 = .ok (.iload_n 2, 1) := by decide +kernel
theorem dX7_critical_41 : decode cX7_critical 41 = .ok (.iadd, 1) := by decide +kernel
theorem dX7_critical_42 : decode cX7_critical 42 = .ok (.iaload, 1) := by decide +kernel
theorem dX7_critical_43 : decode cX7_critical 43 = .ok (.ireturn, 1) := by decide +kernel
theorem dX7_critical_44 : decode cX7_critical 44 = .ok (.iinc 2 1, 3) := by decide +kernel
theorem dX7_critical_47 : decode cX7_critical 47 = .ok (.goto (-33), 3) := by decide +kernel
theorem dX7_critical_50 : decode cX7_critical 50 = .ok (.iconst (-1), 1) := by decide +kernel
theorem dX7_critical_51 : decode cX7_critical 51 = .ok (.ireturn, 1) := by decide +kernel
theorem dX7_turnsToBalance_0 : decode cX7_turnsToBalance 0 = .ok (.aload_n 0, 1) := by decide +kernel
theorem dX7_turnsToBalance_1 : decode cX7_turnsToBalance 1 = .ok (.iconst 0, 1) := by decide +kernel
theorem dX7_turnsToBalance_2 : decode cX7_turnsToBalance 2 = .ok (.putfield 32, 3) := by decide +kernel
theorem dX7_turnsToBalance_5 : decode cX7_turnsToBalance 5 = .ok (.aload_n 0, 1) := by decide +kernel
theorem dX7_turnsToBalance_6 : decode cX7_turnsToBalance 6 = .ok (.invokevirtual 152, 3) := by decide +kernel
theorem dX7_turnsToBalance_9 : decode cX7_turnsToBalance 9 = .ok (.aload_n 0, 1) := by decide +kernel
theorem dX7_turnsToBalance_10 : decode cX7_turnsToBalance 10 = .ok (.invokevirtual 109, 3) := by decide +kernel
theorem dX7_turnsToBalance_13 : decode cX7_turnsToBalance 13 = .ok (.pop, 1) := by decide +kernel
theorem dX7_turnsToBalance_14 : decode cX7_turnsToBalance 14 = .ok (.aload_n 0, 1) := by decide +kernel
theorem dX7_turnsToBalance_15 : decode cX7_turnsToBalance 15 = .ok (.getfield 7, 3) := by decide +kernel
theorem dX7_turnsToBalance_18 : decode cX7_turnsToBalance 18 = .ok (.iconst 2, 1) := by decide +kernel
theorem dX7_turnsToBalance_19 : decode cX7_turnsToBalance 19 = .ok (.iaload, 1) := by decide +kernel
theorem dX7_turnsToBalance_20 : decode cX7_turnsToBalance 20 = .ok (.aload_n 0, 1) := by decide +kernel
theorem dX7_turnsToBalance_21 : decode cX7_turnsToBalance 21 = .ok (.getfield 13, 3) := by decide +kernel
theorem dX7_turnsToBalance_24 : decode cX7_turnsToBalance 24 = .ok (.iconst 2, 1) := by decide +kernel
theorem dX7_turnsToBalance_25 : decode cX7_turnsToBalance 25 = .ok (.iaload, 1) := by decide +kernel
theorem dX7_turnsToBalance_26 : decode cX7_turnsToBalance 26 = .ok (.isub, 1) := by decide +kernel
theorem dX7_turnsToBalance_27 : decode cX7_turnsToBalance 27 = .ok (.istore_n 1, 1) := by decide +kernel
theorem dX7_turnsToBalance_28 : decode cX7_turnsToBalance 28 = .ok (.aload_n 0, 1) := by decide +kernel
theorem dX7_turnsToBalance_29 : decode cX7_turnsToBalance 29 = .ok (.invokevirtual 155, 3) := by decide +kernel
theorem dX7_turnsToBalance_32 : decode cX7_turnsToBalance 32 = .ok (.iload_n 1, 1) := by decide +kernel
theorem dX7_turnsToBalance_33 : decode cX7_turnsToBalance 33 = .ok (.ireturn, 1) := by decide +kernel
theorem dX7_leastCapacity_0 : decode cX7_leastCapacity 0 = .ok (.aload_n 0, 1) := by decide +kernel
theorem dX7_leastCapacity_1 : decode cX7_leastCapacity 1 = .ok (.invokevirtual 158, 3) := by decide +kernel
theorem dX7_leastCapacity_4 : decode cX7_leastCapacity 4 = .ok (.ireturn, 1) := by decide +kernel
theorem dX7_density_0 : decode cX7_density 0 = .ok (.aload_n 0, 1) := by decide +kernel
theorem dX7_density_1 : decode cX7_density 1 = .ok (.iconst 0, 1) := by decide +kernel
theorem dX7_density_2 : decode cX7_density 2 = .ok (.putfield 32, 3) := by decide +kernel
theorem dX7_density_5 : decode cX7_density 5 = .ok (.aload_n 0, 1) := by decide +kernel
theorem dX7_density_6 : decode cX7_density 6 = .ok (.iconst (-1), 1) := by decide +kernel
theorem dX7_density_7 : decode cX7_density 7 = .ok (.iconst 0, 1) := by decide +kernel
theorem dX7_density_8 : decode cX7_density 8 = .ok (.invokevirtual 146, 3) := by decide +kernel
theorem dX7_density_11 : decode cX7_density 11 = .ok (.istore_n 1, 1) := by decide +kernel
theorem dX7_density_12 : decode cX7_density 12 = .ok (.aload_n 0, 1) := by decide +kernel
theorem dX7_density_13 : decode cX7_density 13 = .ok (.iload_n 1, 1) := by decide +kernel
theorem dX7_density_14 : decode cX7_density 14 = .ok (.iconst (-1), 1) := by decide +kernel
theorem dX7_density_15 : decode cX7_density 15 = .ok (.iconst 0, 1) := by decide +kernel
theorem dX7_density_16 : decode cX7_density 16 = .ok (.invokevirtual 142, 3) := by decide +kernel
theorem dX7_density_19 : decode cX7_density 19 = .ok (.i2d, 1) := by decide +kernel
theorem dX7_density_20 : decode cX7_density 20 = .ok (.iload_n 1, 1) := by decide +kernel
theorem dX7_density_21 : decode cX7_density 21 = .ok (.invokestatic 124, 3) := by decide +kernel
theorem dX7_density_24 : decode cX7_density 24 = .ok (.i2d, 1) := by decide +kernel
theorem dX7_density_25 : decode cX7_density 25 = .ok (.ddiv, 1) := by decide +kernel
theorem dX7_density_26 : decode cX7_density 26 = .ok (.dreturn, 1) := by decide +kernel
theorem dX7_append_0 : decode cX7_append 0 = .ok (.aload_n 0, 1) := by decide +kernel
theorem dX7_append_1 : decode cX7_append 1 = .ok (.iload_n 1, 1) := by decide +kernel
theorem dX7_append_2 : decode cX7_append 2 = .ok (.iconst 0, 1) := by decide +kernel
theorem dX7_append_3 : decode cX7_append 3 = .ok (.bipush 127, 2) := by decide +kernel
theorem dX7_append_5 : decode cX7_append 5 = .ok (.invokestatic 36, 3) := by decide +kernel
theorem dX7_append_8 : decode cX7_append 8 = .ok (.ifCond .ne 7, 3) := by decide +kernel
theorem dX7_append_11 : decode cX7_append 11 = .ok (.iconst 1, 1) := by decide +kernel
theorem dX7_append_12 : decode cX7_append 12 = .ok (.goto 4, 3) := by decide +kernel
theorem dX7_append_15 : decode cX7_append 15 = .ok (.iconst 0, 1) := by decide +kernel
theorem dX7_append_16 : decode cX7_append 16 = .ok (.aload_n 0, 1) := by decide +kernel
theorem dX7_append_17 : decode cX7_append 17 = .ok (.getfield 161, 3) := by decide +kernel
theorem dX7_append_20 : decode cX7_append 20 = .ok (.bipush 100, 2) := by decide +kernel
theorem dX7_append_22 : decode cX7_append 22 = .ok (.if_icmp .ne 7, 3) := by decide +kernel
theorem dX7_append_25 : decode cX7_append 25 = .ok (.iconst 1, 1) := by decide +kernel
theorem dX7_append_26 : decode cX7_append 26 = .ok (.goto 4, 3) := by decide +kernel
theorem dX7_append_29 : decode cX7_append 29 = .ok (.iconst 0, 1) := by decide +kernel
theorem dX7_append_30 : decode cX7_append 30 = .ok (.iconst 0, 1) := by decide +kernel
theorem dX7_append_31 : decode cX7_append 31 = .ok (.invokevirtual 46, 3) := by decide +kernel
theorem dX7_append_34 : decode cX7_append 34 = .ok (.ifCond .eq 5, 3) := by decide +kernel
theorem dX7_append_37 : decode cX7_append 37 = .ok (.iconst 0, 1) := by decide +kernel
theorem dX7_append_38 : decode cX7_append 38 = .ok (.ireturn, 1) := by decide +kernel
theorem dX7_append_39 : decode cX7_append 39 = .ok (.aload_n 0, 1) := by decide +kernel
theorem dX7_append_40 : decode cX7_append 40 = .ok (.getfield 19, 3) := by decide +kernel
theorem dX7_append_43 : decode cX7_append 43 = .ok (.aload_n 0, 1) := by decide +kernel
theorem dX7_append_44 : decode cX7_append 44 = .ok (.getfield 161, 3) := by decide +kernel
theorem dX7_append_47 : decode cX7_append 47 = .ok (.iload_n 1, 1) := by decide +kernel
theorem dX7_append_48 : decode cX7_append 48 = .ok (.iastore, 1) := by decide +kernel
theorem dX7_append_49 : decode cX7_append 49 = .ok (.aload_n 0, 1) := by decide +kernel
theorem dX7_append_50 : decode cX7_append 50 = .ok (.dup, 1) := by decide +kernel
theorem dX7_append_51 : decode cX7_append 51 = .ok (.getfield 161, 3) := by decide +kernel
theorem dX7_append_54 : decode cX7_append 54 = .ok (.iconst 1, 1) := by decide +kernel
theorem dX7_append_55 : decode cX7_append 55 = .ok (.iadd, 1) := by decide +kernel
theorem dX7_append_56 : decode cX7_append 56 = .ok (.putfield 161, 3) := by decide +kernel
theorem dX7_append_59 : decode cX7_append 59 = .ok (.aload_n 0, 1) := by decide +kernel
theorem dX7_append_60 : decode cX7_append 60 = .ok (.getfield 161, 3) := by decide +kernel
theorem dX7_append_63 : decode cX7_append 63 = .ok (.ireturn, 1) := by decide +kernel
theorem dX7_clearText_0 : decode cX7_clearText 0 = .ok (.aload_n 0, 1) := by decide +kernel
theorem dX7_clearText_1 : decode cX7_clearText 1 = .ok (.iconst 0, 1) := by decide +kernel
theorem dX7_clearText_2 : decode cX7_clearText 2 = .ok (.putfield 32, 3) := by decide +kernel
theorem dX7_clearText_5 : decode cX7_clearText 5 = .ok (.aload_n 0, 1) := by decide +kernel
theorem dX7_clearText_6 : decode cX7_clearText 6 = .ok (.getfield 161, 3) := by decide +kernel
theorem dX7_clearText_9 : decode cX7_clearText 9 = .ok (.istore_n 1, 1) := by decide +kernel
theorem dX7_clearText_10 : decode cX7_clearText 10 = .ok (.aload_n 0, 1) := by decide +kernel
theorem dX7_clearText_11 : decode cX7_clearText 11 = .ok (.iconst 0, 1) := by decide +kernel
theorem dX7_clearText_12 : decode cX7_clearText 12 = .ok (.putfield 161, 3) := by decide +kernel
theorem dX7_clearText_15 : decode cX7_clearText 15 = .ok (.iload_n 1, 1) := by decide +kernel
theorem dX7_clearText_16 : decode cX7_clearText 16 = .ok (.ireturn, 1) := by decide +kernel
theorem dX7_here_0 : decode cX7_here 0 = .ok (.aload_n 0, 1) := by decide +kernel
theorem dX7_here_1 : decode cX7_here 1 = .ok (.getfield 164, 3) := by decide +kernel
theorem dX7_here_4 : decode cX7_here 4 = .ok (.aload_n 0, 1) := by decide +kernel
theorem dX7_here_5 : decode cX7_here 5 = .ok (.getfield 161, 3) := by decide +kernel
theorem dX7_here_8 : decode cX7_here 8 = .ok (.if_icmp .ge 15, 3) := by decide +kernel
theorem dX7_here_11 : decode cX7_here 11 = .ok (.aload_n 0, 1) := by decide +kernel
theorem dX7_here_12 : decode cX7_here 12 = .ok (.getfield 19, 3) := by decide +kernel
theorem dX7_here_15 : decode cX7_here 15 = .ok (.aload_n 0, 1) := by decide +kernel
theorem dX7_here_16 : decode cX7_here 16 = .ok (.getfield 164, 3) := by decide +kernel
theorem dX7_here_19 : decode cX7_here 19 = .ok (.iaload, 1) := by decide +kernel
theorem dX7_here_20 : decode cX7_here 20 = .ok (.goto 4, 3) := by decide +kernel
theorem dX7_here_23 : decode cX7_here 23 = .ok (.iconst (-1), 1) := by decide +kernel
theorem dX7_here_24 : decode cX7_here 24 = .ok (.ireturn, 1) := by decide +kernel
theorem dX7_takes_0 : decode cX7_takes 0 = .ok (.aload_n 0, 1) := by decide +kernel
theorem dX7_takes_1 : decode cX7_takes 1 = .ok (.invokevirtual 167, 3) := by decide +kernel
theorem dX7_takes_4 : decode cX7_takes 4 = .ok (.iload_n 1, 1) := by decide +kernel
theorem dX7_takes_5 : decode cX7_takes 5 = .ok (.iload_n 2, 1) := by decide +kernel
theorem dX7_takes_6 : decode cX7_takes 6 = .ok (.invokestatic 36, 3) := by decide +kernel
theorem dX7_takes_9 : decode cX7_takes 9 = .ok (.istore_n 3, 1) := by decide +kernel
theorem dX7_takes_10 : decode cX7_takes 10 = .ok (.aload_n 0, 1) := by decide +kernel
theorem dX7_takes_11 : decode cX7_takes 11 = .ok (.iload_n 3, 1) := by decide +kernel
theorem dX7_takes_12 : decode cX7_takes 12 = .ok (.ifCond .eq 10, 3) := by decide +kernel
theorem dX7_takes_15 : decode cX7_takes 15 = .ok (.aload_n 0, 1) := by decide +kernel
theorem dX7_takes_16 : decode cX7_takes 16 = .ok (.getfield 170, 3) := by decide +kernel
theorem dX7_takes_19 : decode cX7_takes 19 = .ok (.goto 7, 3) := by decide +kernel
theorem dX7_takes_22 : decode cX7_takes 22 = .ok (.aload_n 0, 1) := by decide +kernel
theorem dX7_takes_23 : decode cX7_takes 23 = .ok (.getfield 164, 3) := by decide +kernel
theorem dX7_takes_26 : decode cX7_takes 26 = .ok (.putfield 170, 3) := by decide +kernel
theorem dX7_takes_29 : decode cX7_takes 29 = .ok (.aload_n 0, 1) := by decide +kernel
theorem dX7_takes_30 : decode cX7_takes 30 = .ok (.dup, 1) := by decide +kernel
theorem dX7_takes_31 : decode cX7_takes 31 = .ok (.getfield 164, 3) := by decide +kernel
theorem dX7_takes_34 : decode cX7_takes 34 = .ok (.iload_n 3, 1) := by decide +kernel
theorem dX7_takes_35 : decode cX7_takes 35 = .ok (.ifCond .eq 7, 3) := by decide +kernel
theorem dX7_takes_38 : decode cX7_takes 38 = .ok (.iconst 1, 1) := by decide +kernel
theorem dX7_takes_39 : decode cX7_takes 39 = .ok (.goto 4, 3) := by decide +kernel
theorem dX7_takes_42 : decode cX7_takes 42 = .ok (.iconst 0, 1) := by decide +kernel
theorem dX7_takes_43 : decode cX7_takes 43 = .ok (.iadd, 1) := by decide +kernel
theorem dX7_takes_44 : decode cX7_takes 44 = .ok (.putfield 164, 3) := by decide +kernel
theorem dX7_takes_47 : decode cX7_takes 47 = .ok (.iload_n 3, 1) := by decide +kernel
theorem dX7_takes_48 : decode cX7_takes 48 = .ok (.ireturn, 1) := by decide +kernel
theorem dX7_number_0 : decode cX7_number 0 = .ok (.aload_n 0, 1) := by decide +kernel
theorem dX7_number_1 : decode cX7_number 1 = .ok (.getfield 164, 3) := by decide +kernel
theorem dX7_number_4 : decode cX7_number 4 = .ok (.istore_n 3, 1) := by decide +kernel
theorem dX7_number_5 : decode cX7_number 5 = .ok (.aload_n 0, 1) := by decide +kernel
theorem dX7_number_6 : decode cX7_number 6 = .ok (.bipush 48, 2) := by decide +kernel
theorem dX7_number_8 : decode cX7_number 8 = .ok (.bipush 57, 2) := by decide +kernel
theorem dX7_number_10 : decode cX7_number 10 = .ok (.invokevirtual 173, 3) := by decide +kernel
theorem dX7_number_13 : decode cX7_number 13 = .ok (.ifCond .ne 5, 3) := by decide +kernel
theorem dX7_number_16 : decode cX7_number 16 = .ok (.iconst (-1), 1) := by decide +kernel
theorem dX7_number_17 : decode cX7_number 17 = .ok (.ireturn, 1) := by decide +kernel
theorem dX7_number_18 : decode cX7_number 18 = .ok (.aload_n 0, 1) := by decide +kernel
theorem dX7_number_19 : decode cX7_number 19 = .ok (.getfield 19, 3) := by decide +kernel
theorem dX7_number_22 : decode cX7_number 22 = .ok (.iload_n 3, 1) := by decide +kernel
theorem dX7_number_23 : decode cX7_number 23 = .ok (.iaload, 1) := by decide +kernel
theorem dX7_number_24 : decode cX7_number 24 = .ok (.bipush 48, 2) := by decide +kernel
theorem dX7_number_26 : decode cX7_number 26 = .ok (.isub, 1) := by decide +kernel
theorem dX7_number_27 : decode cX7_number 27 = .ok (.istore 4, 2) := by decide +kernel
theorem dX7_number_29 : decode cX7_number 29 = .ok (.iconst 1, 1) := by decide +kernel
theorem dX7_number_30 : decode cX7_number 30 = .ok (.istore 5, 2) := by decide +kernel
theorem dX7_number_32 : decode cX7_number 32 = .ok (.iload 5, 2) := by decide +kernel
theorem dX7_number_34 : decode cX7_number 34 = .ok (.iload_n 1, 1) := by decide +kernel
theorem dX7_number_35 : decode cX7_number 35 = .ok (.if_icmp .ge 48, 3) := by decide +kernel
theorem dX7_number_38 : decode cX7_number 38 = .ok (.aload_n 0, 1) := by decide +kernel
theorem dX7_number_39 : decode cX7_number 39 = .ok (.invokevirtual 167, 3) := by decide +kernel
theorem dX7_number_42 : decode cX7_number 42 = .ok (.bipush 48, 2) := by decide +kernel
theorem dX7_number_44 : decode cX7_number 44 = .ok (.bipush 57, 2) := by decide +kernel
theorem dX7_number_46 : decode cX7_number 46 = .ok (.invokestatic 36, 3) := by decide +kernel
theorem dX7_number_49 : decode cX7_number 49 = .ok (.ifCond .eq 34, 3) := by decide +kernel
theorem dX7_number_52 : decode cX7_number 52 = .ok (.bipush 10, 2) := by decide +kernel
theorem dX7_number_54 : decode cX7_number 54 = .ok (.iload 4, 2) := by decide +kernel
theorem dX7_number_56 : decode cX7_number 56 = .ok (.imul, 1) := by decide +kernel
theorem dX7_number_57 : decode cX7_number 57 = .ok (.aload_n 0, 1) := by decide +kernel
theorem dX7_number_58 : decode cX7_number 58 = .ok (.invokevirtual 167, 3) := by decide +kernel
theorem dX7_number_61 : decode cX7_number 61 = .ok (.iadd, 1) := by decide +kernel
theorem dX7_number_62 : decode cX7_number 62 = .ok (.bipush 48, 2) := by decide +kernel
theorem dX7_number_64 : decode cX7_number 64 = .ok (.isub, 1) := by decide +kernel
theorem dX7_number_65 : decode cX7_number 65 = .ok (.istore 4, 2) := by decide +kernel
theorem dX7_number_67 : decode cX7_number 67 = .ok (.aload_n 0, 1) := by decide +kernel
theorem dX7_number_68 : decode cX7_number 68 = .ok (.dup, 1) := by decide +kernel
theorem dX7_number_69 : decode cX7_number 69 = .ok (.getfield 164, 3) := by decide +kernel
theorem dX7_number_72 : decode cX7_number 72 = .ok (.iconst 1, 1) := by decide +kernel
theorem dX7_number_73 : decode cX7_number 73 = .ok (.iadd, 1) := by decide +kernel
theorem dX7_number_74 : decode cX7_number 74 = .ok (.putfield 164, 3) := by decide +kernel
theorem dX7_number_77 : decode cX7_number 77 = .ok (.iinc 5 1, 3) := by decide +kernel
theorem dX7_number_80 : decode cX7_number 80 = .ok (.goto (-48), 3) := by decide +kernel
theorem dX7_number_83 : decode cX7_number 83 = .ok (.aload_n 0, 1) := by decide +kernel
theorem dX7_number_84 : decode cX7_number 84 = .ok (.invokevirtual 167, 3) := by decide +kernel
theorem dX7_number_87 : decode cX7_number 87 = .ok (.bipush 48, 2) := by decide +kernel
theorem dX7_number_89 : decode cX7_number 89 = .ok (.bipush 57, 2) := by decide +kernel
theorem dX7_number_91 : decode cX7_number 91 = .ok (.invokestatic 36, 3) := by decide +kernel
theorem dX7_number_94 : decode cX7_number 94 = .ok (.ifCond .eq 13, 3) := by decide +kernel
theorem dX7_number_97 : decode cX7_number 97 = .ok (.aload_n 0, 1) := by decide +kernel
theorem dX7_number_98 : decode cX7_number 98 = .ok (.aload_n 0, 1) := by decide +kernel
theorem dX7_number_99 : decode cX7_number 99 = .ok (.getfield 164, 3) := by decide +kernel
theorem dX7_number_102 : decode cX7_number 102 = .ok (.putfield 170, 3) := by decide +kernel
theorem dX7_number_105 : decode cX7_number 105 = .ok (.iconst (-1), 1) := by decide +kernel
theorem dX7_number_106 : decode cX7_number 106 = .ok (.ireturn, 1) := by decide +kernel
theorem dX7_number_107 : decode cX7_number 107 = .ok (.aload_n 0, 1) := by decide +kernel
theorem dX7_number_108 : decode cX7_number 108 = .ok (.iload 4, 2) := by decide +kernel
theorem dX7_number_110 : decode cX7_number 110 = .ok (.iload_n 2, 1) := by decide +kernel
theorem dX7_number_111 : decode cX7_number 111 = .ok (.if_icmp .le 7, 3) := by decide +kernel
theorem dX7_number_114 : decode cX7_number 114 = .ok (.iload_n 3, 1) := by decide +kernel
theorem dX7_number_115 : decode cX7_number 115 = .ok (.goto 7, 3) := by decide +kernel
theorem dX7_number_118 : decode cX7_number 118 = .ok (.aload_n 0, 1) := by decide +kernel
theorem dX7_number_119 : decode cX7_number 119 = .ok (.getfield 170, 3) := by decide +kernel
theorem dX7_number_122 : decode cX7_number 122 = .ok (.putfield 170, 3) := by decide +kernel
theorem dX7_number_125 : decode cX7_number 125 = .ok (.iload 4, 2) := by decide +kernel
theorem dX7_number_127 : decode cX7_number 127 = .ok (.iload_n 2, 1) := by decide +kernel
theorem dX7_number_128 : decode cX7_number 128 = .ok (.if_icmp .le 7, 3) := by decide +kernel
theorem dX7_number_131 : decode cX7_number 131 = .ok (.iconst (-1), 1) := by decide +kernel
theorem dX7_number_132 : decode cX7_number 132 = .ok (.goto 5, 3) := by decide +kernel
theorem dX7_number_135 : decode cX7_number 135 = .ok (.iload 4, 2) := by decide +kernel
theorem dX7_number_137 : decode cX7_number 137 = .ok (.ireturn, 1) := by decide +kernel
theorem dX7_readsOrder_0 : decode cX7_readsOrder 0 = .ok (.aload_n 0, 1) := by decide +kernel
theorem dX7_readsOrder_1 : decode cX7_readsOrder 1 = .ok (.aload_n 0, 1) := by decide +kernel
theorem dX7_readsOrder_2 : decode cX7_readsOrder 2 = .ok (.invokevirtual 167, 3) := by decide +kernel
theorem dX7_readsOrder_5 : decode cX7_readsOrder 5 = .ok (.putfield 176, 3) := by decide +kernel
theorem dX7_readsOrder_8 : decode cX7_readsOrder 8 = .ok (.aload_n 0, 1) := by decide +kernel
theorem dX7_readsOrder_9 : decode cX7_readsOrder 9 = .ok (.iconst 0, 1) := by decide +kernel
theorem dX7_readsOrder_10 : decode cX7_readsOrder 10 = .ok (.putfield 179, 3) := by decide +kernel
theorem dX7_readsOrder_13 : decode cX7_readsOrder 13 = .ok (.aload_n 0, 1) := by decide +kernel
theorem dX7_readsOrder_14 : decode cX7_readsOrder 14 = .ok (.iconst 0, 1) := by decide +kernel
theorem dX7_readsOrder_15 : decode cX7_readsOrder 15 = .ok (.putfield 182, 3) := by decide +kernel
theorem dX7_readsOrder_18 : decode cX7_readsOrder 18 = .ok (.aload_n 0, 1) := by decide +kernel
theorem dX7_readsOrder_19 : decode cX7_readsOrder 19 = .ok (.getfield 176, 3) := by decide +kernel
theorem dX7_readsOrder_22 : decode cX7_readsOrder 22 = .ok (.bipush 43, 2) := by decide +kernel
theorem dX7_readsOrder_24 : decode cX7_readsOrder 24 = .ok (.if_icmp .eq 58, 3) := by decide +kernel
theorem dX7_readsOrder_27 : decode cX7_readsOrder 27 = .ok (.aload_n 0, 1) := by decide +kernel
theorem dX7_readsOrder_28 : decode cX7_readsOrder 28 = .ok (.getfield 176, 3) := by decide +kernel
theorem dX7_readsOrder_31 : decode cX7_readsOrder 31 = .ok (.bipush 45, 2) := by decide +kernel
theorem dX7_readsOrder_33 : decode cX7_readsOrder 33 = .ok (.if_icmp .eq 49, 3) := by decide +kernel
theorem dX7_readsOrder_36 : decode cX7_readsOrder 36 = .ok (.aload_n 0, 1) := by decide +kernel
theorem dX7_readsOrder_37 : decode cX7_readsOrder 37 = .ok (.getfield 176, 3) := by decide +kernel
theorem dX7_readsOrder_40 : decode cX7_readsOrder 40 = .ok (.bipush 116, 2) := by decide +kernel
theorem dX7_readsOrder_42 : decode cX7_readsOrder 42 = .ok (.if_icmp .eq 40, 3) := by decide +kernel
theorem dX7_readsOrder_45 : decode cX7_readsOrder 45 = .ok (.aload_n 0, 1) := by decide +kernel
theorem dX7_readsOrder_46 : decode cX7_readsOrder 46 = .ok (.getfield 176, 3) := by decide +kernel
theorem dX7_readsOrder_49 : decode cX7_readsOrder 49 = .ok (.bipush 114, 2) := by decide +kernel
theorem dX7_readsOrder_51 : decode cX7_readsOrder 51 = .ok (.if_icmp .eq 31, 3) := by decide +kernel
theorem dX7_readsOrder_54 : decode cX7_readsOrder 54 = .ok (.aload_n 0, 1) := by decide +kernel
theorem dX7_readsOrder_55 : decode cX7_readsOrder 55 = .ok (.getfield 176, 3) := by decide +kernel
theorem dX7_readsOrder_58 : decode cX7_readsOrder 58 = .ok (.bipush 98, 2) := by decide +kernel
theorem dX7_readsOrder_60 : decode cX7_readsOrder 60 = .ok (.if_icmp .eq 22, 3) := by decide +kernel
theorem dX7_readsOrder_63 : decode cX7_readsOrder 63 = .ok (.aload_n 0, 1) := by decide +kernel
theorem dX7_readsOrder_64 : decode cX7_readsOrder 64 = .ok (.getfield 176, 3) := by decide +kernel
theorem dX7_readsOrder_67 : decode cX7_readsOrder 67 = .ok (.bipush 99, 2) := by decide +kernel
theorem dX7_readsOrder_69 : decode cX7_readsOrder 69 = .ok (.if_icmp .eq 13, 3) := by decide +kernel
theorem dX7_readsOrder_72 : decode cX7_readsOrder 72 = .ok (.aload_n 0, 1) := by decide +kernel
theorem dX7_readsOrder_73 : decode cX7_readsOrder 73 = .ok (.aload_n 0, 1) := by decide +kernel
theorem dX7_readsOrder_74 : decode cX7_readsOrder 74 = .ok (.getfield 164, 3) := by decide +kernel
theorem dX7_readsOrder_77 : decode cX7_readsOrder 77 = .ok (.putfield 170, 3) := by decide +kernel
theorem dX7_readsOrder_80 : decode cX7_readsOrder 80 = .ok (.iconst 0, 1) := by decide +kernel
theorem dX7_readsOrder_81 : decode cX7_readsOrder 81 = .ok (.ireturn, 1) := by decide +kernel
theorem dX7_readsOrder_82 : decode cX7_readsOrder 82 = .ok (.aload_n 0, 1) := by decide +kernel
theorem dX7_readsOrder_83 : decode cX7_readsOrder 83 = .ok (.dup, 1) := by decide +kernel
theorem dX7_readsOrder_84 : decode cX7_readsOrder 84 = .ok (.getfield 164, 3) := by decide +kernel
theorem dX7_readsOrder_87 : decode cX7_readsOrder 87 = .ok (.iconst 1, 1) := by decide +kernel
theorem dX7_readsOrder_88 : decode cX7_readsOrder 88 = .ok (.iadd, 1) := by decide +kernel
theorem dX7_readsOrder_89 : decode cX7_readsOrder 89 = .ok (.putfield 164, 3) := by decide +kernel
theorem dX7_readsOrder_92 : decode cX7_readsOrder 92 = .ok (.iconst 1, 1) := by decide +kernel
theorem dX7_readsOrder_93 : decode cX7_readsOrder 93 = .ok (.istore_n 1, 1) := by decide +kernel
theorem dX7_readsOrder_94 : decode cX7_readsOrder 94 = .ok (.aload_n 0, 1) := by decide +kernel
theorem dX7_readsOrder_95 : decode cX7_readsOrder 95 = .ok (.getfield 176, 3) := by decide +kernel
theorem dX7_readsOrder_98 : decode cX7_readsOrder 98 = .ok (.bipush 43, 2) := by decide +kernel
theorem dX7_readsOrder_100 : decode cX7_readsOrder 100 = .ok (.if_icmp .eq 21, 3) := by decide +kernel
theorem dX7_readsOrder_103 : decode cX7_readsOrder 103 = .ok (.aload_n 0, 1) := by decide +kernel
theorem dX7_readsOrder_104 : decode cX7_readsOrder 104 = .ok (.getfield 176, 3) := by decide +kernel
theorem dX7_readsOrder_107 : decode cX7_readsOrder 107 = .ok (.bipush 114, 2) := by decide +kernel
theorem dX7_readsOrder_109 : decode cX7_readsOrder 109 = .ok (.if_icmp .eq 12, 3) := by decide +kernel
theorem dX7_readsOrder_112 : decode cX7_readsOrder 112 = .ok (.aload_n 0, 1) := by decide +kernel
theorem dX7_readsOrder_113 : decode cX7_readsOrder 113 = .ok (.getfield 176, 3) := by decide +kernel
theorem dX7_readsOrder_116 : decode cX7_readsOrder 116 = .ok (.bipush 99, 2) := by decide +kernel
theorem dX7_readsOrder_118 : decode cX7_readsOrder 118 = .ok (.if_icmp .ne 38, 3) := by decide +kernel
theorem dX7_readsOrder_121 : decode cX7_readsOrder 121 = .ok (.aload_n 0, 1) := by decide +kernel
theorem dX7_readsOrder_122 : decode cX7_readsOrder 122 = .ok (.bipush 97, 2) := by decide +kernel
theorem dX7_readsOrder_124 : decode cX7_readsOrder 124 = .ok (.bipush 108, 2) := by decide +kernel
theorem dX7_readsOrder_126 : decode cX7_readsOrder 126 = .ok (.invokevirtual 173, 3) := by decide +kernel
theorem dX7_readsOrder_129 : decode cX7_readsOrder 129 = .ok (.istore_n 1, 1) := by decide +kernel
theorem dX7_readsOrder_130 : decode cX7_readsOrder 130 = .ok (.aload_n 0, 1) := by decide +kernel
theorem dX7_readsOrder_131 : decode cX7_readsOrder 131 = .ok (.iload_n 1, 1) := by decide +kernel
theorem dX7_readsOrder_132 : decode cX7_readsOrder 132 = .ok (.ifCond .eq 20, 3) := by decide +kernel
theorem dX7_readsOrder_135 : decode cX7_readsOrder 135 = .ok (.aload_n 0, 1) := by decide +kernel
theorem dX7_readsOrder_136 : decode cX7_readsOrder 136 = .ok (.getfield 19, 3) := by decide +kernel
theorem dX7_readsOrder_139 : decode cX7_readsOrder 139 = .ok (.aload_n 0, 1) := by decide +kernel
theorem dX7_readsOrder_140 : decode cX7_readsOrder 140 = .ok (.getfield 164, 3) := by decide +kernel
theorem dX7_readsOrder_143 : decode cX7_readsOrder 143 = .ok (.iconst 1, 1) := by decide +kernel
theorem dX7_readsOrder_144 : decode cX7_readsOrder 144 = .ok (.isub, 1) := by decide +kernel
theorem dX7_readsOrder_145 : decode cX7_readsOrder 145 = .ok (.iaload, 1) := by decide +kernel
theorem dX7_readsOrder_146 : decode cX7_readsOrder 146 = .ok (.bipush 97, 2) := by decide +kernel
theorem dX7_readsOrder_148 : decode cX7_readsOrder 148 = .ok (.isub, 1) := by decide +kernel
theorem dX7_readsOrder_149 : decode cX7_readsOrder 149 = .ok (.goto 4, 3) := by decide +kernel
theorem dX7_readsOrder_152 : decode cX7_readsOrder 152 = .ok (.iconst 0, 1) := by decide +kernel
theorem dX7_readsOrder_153 : decode cX7_readsOrder 153 = .ok (.putfield 179, 3) := by decide +kernel
theorem dX7_readsOrder_156 : decode cX7_readsOrder 156 = .ok (.iload_n 1, 1) := by decide +kernel
theorem dX7_readsOrder_157 : decode cX7_readsOrder 157 = .ok (.ifCond .eq 47, 3) := by decide +kernel
theorem dX7_readsOrder_160 : decode cX7_readsOrder 160 = .ok (.aload_n 0, 1) := by decide +kernel
theorem dX7_readsOrder_161 : decode cX7_readsOrder 161 = .ok (.getfield 176, 3) := by decide +kernel
theorem dX7_readsOrder_164 : decode cX7_readsOrder 164 = .ok (.bipush 43, 2) := by decide +kernel
theorem dX7_readsOrder_166 : decode cX7_readsOrder 166 = .ok (.if_icmp .ne 38, 3) := by decide +kernel
theorem dX7_readsOrder_169 : decode cX7_readsOrder 169 = .ok (.aload_n 0, 1) := by decide +kernel
theorem dX7_readsOrder_170 : decode cX7_readsOrder 170 = .ok (.bipush 97, 2) := by decide +kernel
theorem dX7_readsOrder_172 : decode cX7_readsOrder 172 = .ok (.bipush 108, 2) := by decide +kernel
theorem dX7_readsOrder_174 : decode cX7_readsOrder 174 = .ok (.invokevirtual 173, 3) := by decide +kernel
theorem dX7_readsOrder_177 : decode cX7_readsOrder 177 = .ok (.istore_n 1, 1) := by decide +kernel
theorem dX7_readsOrder_178 : decode cX7_readsOrder 178 = .ok (.aload_n 0, 1) := by decide +kernel
theorem dX7_readsOrder_179 : decode cX7_readsOrder 179 = .ok (.iload_n 1, 1) := by decide +kernel
theorem dX7_readsOrder_180 : decode cX7_readsOrder 180 = .ok (.ifCond .eq 20, 3) := by decide +kernel
theorem dX7_readsOrder_183 : decode cX7_readsOrder 183 = .ok (.aload_n 0, 1) := by decide +kernel
theorem dX7_readsOrder_184 : decode cX7_readsOrder 184 = .ok (.getfield 19, 3) := by decide +kernel
theorem dX7_readsOrder_187 : decode cX7_readsOrder 187 = .ok (.aload_n 0, 1) := by decide +kernel
theorem dX7_readsOrder_188 : decode cX7_readsOrder 188 = .ok (.getfield 164, 3) := by decide +kernel
theorem dX7_readsOrder_191 : decode cX7_readsOrder 191 = .ok (.iconst 1, 1) := by decide +kernel
theorem dX7_readsOrder_192 : decode cX7_readsOrder 192 = .ok (.isub, 1) := by decide +kernel
theorem dX7_readsOrder_193 : decode cX7_readsOrder 193 = .ok (.iaload, 1) := by decide +kernel
theorem dX7_readsOrder_194 : decode cX7_readsOrder 194 = .ok (.bipush 97, 2) := by decide +kernel
theorem dX7_readsOrder_196 : decode cX7_readsOrder 196 = .ok (.isub, 1) := by decide +kernel
theorem dX7_readsOrder_197 : decode cX7_readsOrder 197 = .ok (.goto 4, 3) := by decide +kernel
theorem dX7_readsOrder_200 : decode cX7_readsOrder 200 = .ok (.iconst 0, 1) := by decide +kernel
theorem dX7_readsOrder_201 : decode cX7_readsOrder 201 = .ok (.putfield 182, 3) := by decide +kernel
theorem dX7_readsOrder_204 : decode cX7_readsOrder 204 = .ok (.iload_n 1, 1) := by decide +kernel
theorem dX7_readsOrder_205 : decode cX7_readsOrder 205 = .ok (.ifCond .eq 57, 3) := by decide +kernel
theorem dX7_readsOrder_208 : decode cX7_readsOrder 208 = .ok (.aload_n 0, 1) := by decide +kernel
theorem dX7_readsOrder_209 : decode cX7_readsOrder 209 = .ok (.getfield 176, 3) := by decide +kernel
theorem dX7_readsOrder_212 : decode cX7_readsOrder 212 = .ok (.bipush 99, 2) := by decide +kernel
theorem dX7_readsOrder_214 : decode cX7_readsOrder 214 = .ok (.if_icmp .ne 48, 3) := by decide +kernel
theorem dX7_readsOrder_217 : decode cX7_readsOrder 217 = .ok (.aload_n 0, 1) := by decide +kernel
theorem dX7_readsOrder_218 : decode cX7_readsOrder 218 = .ok (.bipush 61, 2) := by decide +kernel
theorem dX7_readsOrder_220 : decode cX7_readsOrder 220 = .ok (.bipush 61, 2) := by decide +kernel
theorem dX7_readsOrder_222 : decode cX7_readsOrder 222 = .ok (.invokevirtual 173, 3) := by decide +kernel
theorem dX7_readsOrder_225 : decode cX7_readsOrder 225 = .ok (.istore_n 1, 1) := by decide +kernel
theorem dX7_readsOrder_226 : decode cX7_readsOrder 226 = .ok (.aload_n 0, 1) := by decide +kernel
theorem dX7_readsOrder_227 : decode cX7_readsOrder 227 = .ok (.iload_n 1, 1) := by decide +kernel
theorem dX7_readsOrder_228 : decode cX7_readsOrder 228 = .ok (.ifCond .eq 13, 3) := by decide +kernel
theorem dX7_readsOrder_231 : decode cX7_readsOrder 231 = .ok (.aload_n 0, 1) := by decide +kernel
theorem dX7_readsOrder_232 : decode cX7_readsOrder 232 = .ok (.iconst 2, 1) := by decide +kernel
theorem dX7_readsOrder_233 : decode cX7_readsOrder 233 = .ok (.bipush 40, 2) := by decide +kernel
theorem dX7_readsOrder_235 : decode cX7_readsOrder 235 = .ok (.invokevirtual 185, 3) := by decide +kernel
theorem dX7_readsOrder_238 : decode cX7_readsOrder 238 = .ok (.goto 4, 3) := by decide +kernel
theorem dX7_readsOrder_241 : decode cX7_readsOrder 241 = .ok (.iconst 0, 1) := by decide +kernel
theorem dX7_readsOrder_242 : decode cX7_readsOrder 242 = .ok (.putfield 182, 3) := by decide +kernel
theorem dX7_readsOrder_245 : decode cX7_readsOrder 245 = .ok (.iload_n 1, 1) := by decide +kernel
theorem dX7_readsOrder_246 : decode cX7_readsOrder 246 = .ok (.ifCond .eq 14, 3) := by decide +kernel
theorem dX7_readsOrder_249 : decode cX7_readsOrder 249 = .ok (.aload_n 0, 1) := by decide +kernel
theorem dX7_readsOrder_250 : decode cX7_readsOrder 250 = .ok (.getfield 182, 3) := by decide +kernel
theorem dX7_readsOrder_253 : decode cX7_readsOrder 253 = .ok (.ifCond .lt 7, 3) := by decide +kernel
theorem dX7_readsOrder_256 : decode cX7_readsOrder 256 = .ok (.iconst 1, 1) := by decide +kernel
theorem dX7_readsOrder_257 : decode cX7_readsOrder 257 = .ok (.goto 4, 3) := by decide +kernel
theorem dX7_readsOrder_260 : decode cX7_readsOrder 260 = .ok (.iconst 0, 1) := by decide +kernel
theorem dX7_readsOrder_261 : decode cX7_readsOrder 261 = .ok (.istore_n 1, 1) := by decide +kernel
theorem dX7_readsOrder_262 : decode cX7_readsOrder 262 = .ok (.aload_n 0, 1) := by decide +kernel
theorem dX7_readsOrder_263 : decode cX7_readsOrder 263 = .ok (.getfield 176, 3) := by decide +kernel
theorem dX7_readsOrder_266 : decode cX7_readsOrder 266 = .ok (.bipush 45, 2) := by decide +kernel
theorem dX7_readsOrder_268 : decode cX7_readsOrder 268 = .ok (.if_icmp .eq 12, 3) := by decide +kernel
theorem dX7_readsOrder_271 : decode cX7_readsOrder 271 = .ok (.aload_n 0, 1) := by decide +kernel
theorem dX7_readsOrder_272 : decode cX7_readsOrder 272 = .ok (.getfield 176, 3) := by decide +kernel
theorem dX7_readsOrder_275 : decode cX7_readsOrder 275 = .ok (.bipush 116, 2) := by decide +kernel
theorem dX7_readsOrder_277 : decode cX7_readsOrder 277 = .ok (.if_icmp .ne 28, 3) := by decide +kernel
theorem dX7_readsOrder_280 : decode cX7_readsOrder 280 = .ok (.aload_n 0, 1) := by decide +kernel
theorem dX7_readsOrder_281 : decode cX7_readsOrder 281 = .ok (.aload_n 0, 1) := by decide +kernel
theorem dX7_readsOrder_282 : decode cX7_readsOrder 282 = .ok (.iconst 3, 1) := by decide +kernel
theorem dX7_readsOrder_283 : decode cX7_readsOrder 283 = .ok (.sipush 999, 3) := by decide +kernel
theorem dX7_readsOrder_286 : decode cX7_readsOrder 286 = .ok (.invokevirtual 185, 3) := by decide +kernel
theorem dX7_readsOrder_289 : decode cX7_readsOrder 289 = .ok (.putfield 179, 3) := by decide +kernel
theorem dX7_readsOrder_292 : decode cX7_readsOrder 292 = .ok (.aload_n 0, 1) := by decide +kernel
theorem dX7_readsOrder_293 : decode cX7_readsOrder 293 = .ok (.getfield 179, 3) := by decide +kernel
theorem dX7_readsOrder_296 : decode cX7_readsOrder 296 = .ok (.ifCond .lt 7, 3) := by decide +kernel
theorem dX7_readsOrder_299 : decode cX7_readsOrder 299 = .ok (.iconst 1, 1) := by decide +kernel
theorem dX7_readsOrder_300 : decode cX7_readsOrder 300 = .ok (.goto 4, 3) := by decide +kernel
theorem dX7_readsOrder_303 : decode cX7_readsOrder 303 = .ok (.iconst 0, 1) := by decide +kernel
theorem dX7_readsOrder_304 : decode cX7_readsOrder 304 = .ok (.istore_n 1, 1) := by decide +kernel
theorem dX7_readsOrder_305 : decode cX7_readsOrder 305 = .ok (.iload_n 1, 1) := by decide +kernel
theorem dX7_readsOrder_306 : decode cX7_readsOrder 306 = .ok (.ifCond .eq 18, 3) := by decide +kernel
theorem dX7_readsOrder_309 : decode cX7_readsOrder 309 = .ok (.aload_n 0, 1) := by decide +kernel
theorem dX7_readsOrder_310 : decode cX7_readsOrder 310 = .ok (.bipush 59, 2) := by decide +kernel
theorem dX7_readsOrder_312 : decode cX7_readsOrder 312 = .ok (.bipush 59, 2) := by decide +kernel
theorem dX7_readsOrder_314 : decode cX7_readsOrder 314 = .ok (.invokevirtual 173, 3) := by decide +kernel
theorem dX7_readsOrder_317 : decode cX7_readsOrder 317 = .ok (.ifCond .eq 7, 3) := by decide +kernel
theorem dX7_readsOrder_320 : decode cX7_readsOrder 320 = .ok (.iconst 1, 1) := by decide +kernel
theorem dX7_readsOrder_321 : decode cX7_readsOrder 321 = .ok (.goto 4, 3) := by decide +kernel
theorem dX7_readsOrder_324 : decode cX7_readsOrder 324 = .ok (.iconst 0, 1) := by decide +kernel
theorem dX7_readsOrder_325 : decode cX7_readsOrder 325 = .ok (.ireturn, 1) := by decide +kernel
theorem dX7_does_0 : decode cX7_does 0 = .ok (.aload_n 0, 1) := by decide +kernel
theorem dX7_does_1 : decode cX7_does 1 = .ok (.getfield 176, 3) := by decide +kernel
theorem dX7_does_4 : decode cX7_does 4 = .ok (.lookupswitch 211 #[(43, 52), (45, 88), (99, 175), (114, 147), (116, 120)], 52) := by decide +kernel
theorem dX7_does_56 : decode cX7_does 56 = .ok (.aload_n 0, 1) := by decide +kernel
theorem dX7_does_57 : decode cX7_does 57 = .ok (.aload_n 0, 1) := by decide +kernel
theorem dX7_does_58 : decode cX7_does 58 = .ok (.getfield 179, 3) := by decide +kernel
theorem dX7_does_61 : decode cX7_does 61 = .ok (.aload_n 0, 1) := by decide +kernel
theorem dX7_does_62 : decode cX7_does 62 = .ok (.getfield 182, 3) := by decide +kernel
theorem dX7_does_65 : decode cX7_does 65 = .ok (.invokevirtual 64, 3) := by decide +kernel
theorem dX7_does_68 : decode cX7_does 68 = .ok (.ifCond .ne 22, 3) := by decide +kernel
theorem dX7_does_71 : decode cX7_does 71 = .ok (.aload_n 0, 1) := by decide +kernel
theorem dX7_does_72 : decode cX7_does 72 = .ok (.aload_n 0, 1) := by decide +kernel
theorem dX7_does_73 : decode cX7_does 73 = .ok (.getfield 179, 3) := by decide +kernel
theorem dX7_does_76 : decode cX7_does 76 = .ok (.aload_n 0, 1) := by decide +kernel
theorem dX7_does_77 : decode cX7_does 77 = .ok (.getfield 182, 3) := by decide +kernel
theorem dX7_does_80 : decode cX7_does 80 = .ok (.invokevirtual 68, 3) := by decide +kernel
theorem dX7_does_83 : decode cX7_does 83 = .ok (.ifCond .lt 7, 3) := by decide +kernel
theorem dX7_does_86 : decode cX7_does 86 = .ok (.iconst 1, 1) := by decide +kernel
theorem dX7_does_87 : decode cX7_does 87 = .ok (.goto 4, 3) := by decide +kernel
theorem dX7_does_90 : decode cX7_does 90 = .ok (.iconst 0, 1) := by decide +kernel
theorem dX7_does_91 : decode cX7_does 91 = .ok (.ireturn, 1) := by decide +kernel
theorem dX7_does_92 : decode cX7_does 92 = .ok (.aload_n 0, 1) := by decide +kernel
theorem dX7_does_93 : decode cX7_does 93 = .ok (.aload_n 0, 1) := by decide +kernel
theorem dX7_does_94 : decode cX7_does 94 = .ok (.getfield 179, 3) := by decide +kernel
theorem dX7_does_97 : decode cX7_does 97 = .ok (.invokevirtual 75, 3) := by decide +kernel
theorem dX7_does_100 : decode cX7_does 100 = .ok (.ifCond .ne 22, 3) := by decide +kernel
theorem dX7_does_103 : decode cX7_does 103 = .ok (.aload_n 0, 1) := by decide +kernel
theorem dX7_does_104 : decode cX7_does 104 = .ok (.aload_n 0, 1) := by decide +kernel
theorem dX7_does_105 : decode cX7_does 105 = .ok (.aload_n 0, 1) := by decide +kernel
theorem dX7_does_106 : decode cX7_does 106 = .ok (.getfield 179, 3) := by decide +kernel
theorem dX7_does_109 : decode cX7_does 109 = .ok (.invokevirtual 72, 3) := by decide +kernel
theorem dX7_does_112 : decode cX7_does 112 = .ok (.invokevirtual 78, 3) := by decide +kernel
theorem dX7_does_115 : decode cX7_does 115 = .ok (.ifCond .lt 7, 3) := by decide +kernel
theorem dX7_does_118 : decode cX7_does 118 = .ok (.iconst 1, 1) := by decide +kernel
theorem dX7_does_119 : decode cX7_does 119 = .ok (.goto 4, 3) := by decide +kernel
theorem dX7_does_122 : decode cX7_does 122 = .ok (.iconst 0, 1) := by decide +kernel
theorem dX7_does_123 : decode cX7_does 123 = .ok (.ireturn, 1) := by decide +kernel
theorem dX7_does_124 : decode cX7_does 124 = .ok (.aload_n 0, 1) := by decide +kernel
theorem dX7_does_125 : decode cX7_does 125 = .ok (.aload_n 0, 1) := by decide +kernel
theorem dX7_does_126 : decode cX7_does 126 = .ok (.getfield 179, 3) := by decide +kernel
theorem dX7_does_129 : decode cX7_does 129 = .ok (.invokevirtual 75, 3) := by decide +kernel
theorem dX7_does_132 : decode cX7_does 132 = .ok (.ifCond .eq 5, 3) := by decide +kernel
theorem dX7_does_135 : decode cX7_does 135 = .ok (.iconst 0, 1) := by decide +kernel
theorem dX7_does_136 : decode cX7_does 136 = .ok (.ireturn, 1) := by decide +kernel
theorem dX7_does_137 : decode cX7_does 137 = .ok (.aload_n 0, 1) := by decide +kernel
theorem dX7_does_138 : decode cX7_does 138 = .ok (.aload_n 0, 1) := by decide +kernel
theorem dX7_does_139 : decode cX7_does 139 = .ok (.aload_n 0, 1) := by decide +kernel
theorem dX7_does_140 : decode cX7_does 140 = .ok (.getfield 179, 3) := by decide +kernel
theorem dX7_does_143 : decode cX7_does 143 = .ok (.invokevirtual 72, 3) := by decide +kernel
theorem dX7_does_146 : decode cX7_does 146 = .ok (.invokevirtual 81, 3) := by decide +kernel
theorem dX7_does_149 : decode cX7_does 149 = .ok (.iconst 1, 1) := by decide +kernel
theorem dX7_does_150 : decode cX7_does 150 = .ok (.ireturn, 1) := by decide +kernel
theorem dX7_does_151 : decode cX7_does 151 = .ok (.aload_n 0, 1) := by decide +kernel
theorem dX7_does_152 : decode cX7_does 152 = .ok (.aload_n 0, 1) := by decide +kernel
theorem dX7_does_153 : decode cX7_does 153 = .ok (.getfield 179, 3) := by decide +kernel
theorem dX7_does_156 : decode cX7_does 156 = .ok (.invokevirtual 106, 3) := by decide +kernel
theorem dX7_does_159 : decode cX7_does 159 = .ok (.ifCond .ne 18, 3) := by decide +kernel
theorem dX7_does_162 : decode cX7_does 162 = .ok (.aload_n 0, 1) := by decide +kernel
theorem dX7_does_163 : decode cX7_does 163 = .ok (.aload_n 0, 1) := by decide +kernel
theorem dX7_does_164 : decode cX7_does 164 = .ok (.getfield 179, 3) := by decide +kernel
theorem dX7_does_167 : decode cX7_does 167 = .ok (.invokevirtual 103, 3) := by decide +kernel
theorem dX7_does_170 : decode cX7_does 170 = .ok (.ifCond .le 7, 3) := by decide +kernel
theorem dX7_does_173 : decode cX7_does 173 = .ok (.iconst 1, 1) := by decide +kernel
theorem dX7_does_174 : decode cX7_does 174 = .ok (.goto 4, 3) := by decide +kernel
theorem dX7_does_177 : decode cX7_does 177 = .ok (.iconst 0, 1) := by decide +kernel
theorem dX7_does_178 : decode cX7_does 178 = .ok (.ireturn, 1) := by decide +kernel
theorem dX7_does_179 : decode cX7_does 179 = .ok (.aload_n 0, 1) := by decide +kernel
theorem dX7_does_180 : decode cX7_does 180 = .ok (.aload_n 0, 1) := by decide +kernel
theorem dX7_does_181 : decode cX7_does 181 = .ok (.getfield 179, 3) := by decide +kernel
theorem dX7_does_184 : decode cX7_does 184 = .ok (.aload_n 0, 1) := by decide +kernel
theorem dX7_does_185 : decode cX7_does 185 = .ok (.getfield 182, 3) := by decide +kernel
theorem dX7_does_188 : decode cX7_does 188 = .ok (.invokevirtual 112, 3) := by decide +kernel
theorem dX7_does_191 : decode cX7_does 191 = .ok (.ifCond .ne 22, 3) := by decide +kernel
theorem dX7_does_194 : decode cX7_does 194 = .ok (.aload_n 0, 1) := by decide +kernel
theorem dX7_does_195 : decode cX7_does 195 = .ok (.aload_n 0, 1) := by decide +kernel
theorem dX7_does_196 : decode cX7_does 196 = .ok (.getfield 179, 3) := by decide +kernel
theorem dX7_does_199 : decode cX7_does 199 = .ok (.aload_n 0, 1) := by decide +kernel
theorem dX7_does_200 : decode cX7_does 200 = .ok (.getfield 182, 3) := by decide +kernel
theorem dX7_does_203 : decode cX7_does 203 = .ok (.invokevirtual 115, 3) := by decide +kernel
theorem dX7_does_206 : decode cX7_does 206 = .ok (.ifCond .lt 7, 3) := by decide +kernel
theorem dX7_does_209 : decode cX7_does 209 = .ok (.iconst 1, 1) := by decide +kernel
theorem dX7_does_210 : decode cX7_does 210 = .ok (.goto 4, 3) := by decide +kernel
theorem dX7_does_213 : decode cX7_does 213 = .ok (.iconst 0, 1) := by decide +kernel
theorem dX7_does_214 : decode cX7_does 214 = .ok (.ireturn, 1) := by decide +kernel
theorem dX7_does_215 : decode cX7_does 215 = .ok (.aload_n 0, 1) := by decide +kernel
theorem dX7_does_216 : decode cX7_does 216 = .ok (.invokevirtual 109, 3) := by decide +kernel
theorem dX7_does_219 : decode cX7_does 219 = .ok (.ifCond .lt 7, 3) := by decide +kernel
theorem dX7_does_222 : decode cX7_does 222 = .ok (.iconst 1, 1) := by decide +kernel
theorem dX7_does_223 : decode cX7_does 223 = .ok (.goto 4, 3) := by decide +kernel
theorem dX7_does_226 : decode cX7_does 226 = .ok (.iconst 0, 1) := by decide +kernel
theorem dX7_does_227 : decode cX7_does 227 = .ok (.ireturn, 1) := by decide +kernel
theorem dX7_carryOut_0 : decode cX7_carryOut 0 = .ok (.aload_n 0, 1) := by decide +kernel
theorem dX7_carryOut_1 : decode cX7_carryOut 1 = .ok (.iconst 0, 1) := by decide +kernel
theorem dX7_carryOut_2 : decode cX7_carryOut 2 = .ok (.putfield 32, 3) := by decide +kernel
theorem dX7_carryOut_5 : decode cX7_carryOut 5 = .ok (.aload_n 0, 1) := by decide +kernel
theorem dX7_carryOut_6 : decode cX7_carryOut 6 = .ok (.iconst 0, 1) := by decide +kernel
theorem dX7_carryOut_7 : decode cX7_carryOut 7 = .ok (.putfield 164, 3) := by decide +kernel
theorem dX7_carryOut_10 : decode cX7_carryOut 10 = .ok (.aload_n 0, 1) := by decide +kernel
theorem dX7_carryOut_11 : decode cX7_carryOut 11 = .ok (.getfield 164, 3) := by decide +kernel
theorem dX7_carryOut_14 : decode cX7_carryOut 14 = .ok (.aload_n 0, 1) := by decide +kernel
theorem dX7_carryOut_15 : decode cX7_carryOut 15 = .ok (.getfield 161, 3) := by decide +kernel
theorem dX7_carryOut_18 : decode cX7_carryOut 18 = .ok (.if_icmp .ge 18, 3) := by decide +kernel
theorem dX7_carryOut_21 : decode cX7_carryOut 21 = .ok (.aload_n 0, 1) := by decide +kernel
theorem dX7_carryOut_22 : decode cX7_carryOut 22 = .ok (.invokevirtual 188, 3) := by decide +kernel
theorem dX7_carryOut_25 : decode cX7_carryOut 25 = .ok (.ifCond .ne (-15), 3) := by decide +kernel
theorem dX7_carryOut_28 : decode cX7_carryOut 28 = .ok (.bipush (-10), 2) := by decide +kernel
theorem dX7_carryOut_30 : decode cX7_carryOut 30 = .ok (.aload_n 0, 1) := by decide +kernel
theorem dX7_carryOut_31 : decode cX7_carryOut 31 = .ok (.getfield 170, 3) := by decide +kernel
theorem dX7_carryOut_34 : decode cX7_carryOut 34 = .ok (.isub, 1) := by decide +kernel
theorem dX7_carryOut_35 : decode cX7_carryOut 35 = .ok (.ireturn, 1) := by decide +kernel
theorem dX7_carryOut_36 : decode cX7_carryOut 36 = .ok (.aload_n 0, 1) := by decide +kernel
theorem dX7_carryOut_37 : decode cX7_carryOut 37 = .ok (.invokevirtual 57, 3) := by decide +kernel
theorem dX7_carryOut_40 : decode cX7_carryOut 40 = .ok (.iconst 0, 1) := by decide +kernel
theorem dX7_carryOut_41 : decode cX7_carryOut 41 = .ok (.istore_n 1, 1) := by decide +kernel
theorem dX7_carryOut_42 : decode cX7_carryOut 42 = .ok (.aload_n 0, 1) := by decide +kernel
theorem dX7_carryOut_43 : decode cX7_carryOut 43 = .ok (.iconst 0, 1) := by decide +kernel
theorem dX7_carryOut_44 : decode cX7_carryOut 44 = .ok (.putfield 164, 3) := by decide +kernel
theorem dX7_carryOut_47 : decode cX7_carryOut 47 = .ok (.iconst 1, 1) := by decide +kernel
theorem dX7_carryOut_48 : decode cX7_carryOut 48 = .ok (.istore_n 2, 1) := by decide +kernel
theorem dX7_carryOut_49 : decode cX7_carryOut 49 = .ok (.iload_n 2, 1) := by decide +kernel
theorem dX7_carryOut_50 : decode cX7_carryOut 50 = .ok (.ifCond .eq 39, 3) := by decide +kernel
theorem dX7_carryOut_53 : decode cX7_carryOut 53 = .ok (.aload_n 0, 1) := by decide +kernel
theorem dX7_carryOut_54 : decode cX7_carryOut 54 = .ok (.getfield 164, 3) := by decide +kernel
theorem dX7_carryOut_57 : decode cX7_carryOut 57 = .ok (.aload_n 0, 1) := by decide +kernel
theorem dX7_carryOut_58 : decode cX7_carryOut 58 = .ok (.getfield 161, 3) := by decide +kernel
theorem dX7_carryOut_61 : decode cX7_carryOut 61 = .ok (.if_icmp .ge 28, 3) := by decide +kernel
theorem dX7_carryOut_64 : decode cX7_carryOut 64 = .ok (.aload_n 0, 1) := by decide +kernel
theorem dX7_carryOut_65 : decode cX7_carryOut 65 = .ok (.invokevirtual 188, 3) := by decide +kernel
theorem dX7_carryOut_68 : decode cX7_carryOut 68 = .ok (.pop, 1) := by decide +kernel
theorem dX7_carryOut_69 : decode cX7_carryOut 69 = .ok (.aload_n 0, 1) := by decide +kernel
theorem dX7_carryOut_70 : decode cX7_carryOut 70 = .ok (.invokevirtual 192, 3) := by decide +kernel
theorem dX7_carryOut_73 : decode cX7_carryOut 73 = .ok (.istore_n 2, 1) := by decide +kernel
theorem dX7_carryOut_74 : decode cX7_carryOut 74 = .ok (.iload_n 1, 1) := by decide +kernel
theorem dX7_carryOut_75 : decode cX7_carryOut 75 = .ok (.iload_n 2, 1) := by decide +kernel
theorem dX7_carryOut_76 : decode cX7_carryOut 76 = .ok (.ifCond .eq 7, 3) := by decide +kernel
theorem dX7_carryOut_79 : decode cX7_carryOut 79 = .ok (.iconst 1, 1) := by decide +kernel
theorem dX7_carryOut_80 : decode cX7_carryOut 80 = .ok (.goto 4, 3) := by decide +kernel
theorem dX7_carryOut_83 : decode cX7_carryOut 83 = .ok (.iconst 0, 1) := by decide +kernel
theorem dX7_carryOut_84 : decode cX7_carryOut 84 = .ok (.iadd, 1) := by decide +kernel
theorem dX7_carryOut_85 : decode cX7_carryOut 85 = .ok (.istore_n 1, 1) := by decide +kernel
theorem dX7_carryOut_86 : decode cX7_carryOut 86 = .ok (.goto (-37), 3) := by decide +kernel
theorem dX7_carryOut_89 : decode cX7_carryOut 89 = .ok (.aload_n 0, 1) := by decide +kernel
theorem dX7_carryOut_90 : decode cX7_carryOut 90 = .ok (.iconst 0, 1) := by decide +kernel
theorem dX7_carryOut_91 : decode cX7_carryOut 91 = .ok (.putfield 32, 3) := by decide +kernel
theorem dX7_carryOut_94 : decode cX7_carryOut 94 = .ok (.iload_n 1, 1) := by decide +kernel
theorem dX7_carryOut_95 : decode cX7_carryOut 95 = .ok (.ireturn, 1) := by decide +kernel
theorem dX7_hashes_0 : decode cX7_hashes 0 = .ok (.aload_n 0, 1) := by decide +kernel
theorem dX7_hashes_1 : decode cX7_hashes 1 = .ok (.ldc2_w 195, 3) := by decide +kernel
theorem dX7_hashes_4 : decode cX7_hashes 4 = .ok (.aload_n 0, 1) := by decide +kernel
theorem dX7_hashes_5 : decode cX7_hashes 5 = .ok (.getfield 197, 3) := by decide +kernel
theorem dX7_hashes_8 : decode cX7_hashes 8 = .ok (.lmul, 1) := by decide +kernel
theorem dX7_hashes_9 : decode cX7_hashes 9 = .ok (.lload_n 1, 1) := by decide +kernel
theorem dX7_hashes_10 : decode cX7_hashes 10 = .ok (.ladd, 1) := by decide +kernel
theorem dX7_hashes_11 : decode cX7_hashes 11 = .ok (.putfield 197, 3) := by decide +kernel
theorem dX7_hashes_14 : decode cX7_hashes 14 = .ok (.return_, 1) := by decide +kernel
theorem dX7_digest_0 : decode cX7_digest 0 = .ok (.aload_n 0, 1) := by decide +kernel
theorem dX7_digest_1 : decode cX7_digest 1 = .ok (.ldc2_w 201, 3) := by decide +kernel
theorem dX7_digest_4 : decode cX7_digest 4 = .ok (.putfield 197, 3) := by decide +kernel
theorem dX7_digest_7 : decode cX7_digest 7 = .ok (.aload_n 0, 1) := by decide +kernel
theorem dX7_digest_8 : decode cX7_digest 8 = .ok (.aload_n 0, 1) := by decide +kernel
theorem dX7_digest_9 : decode cX7_digest 9 = .ok (.getfield 161, 3) := by decide +kernel
theorem dX7_digest_12 : decode cX7_digest 12 = .ok (.i2l, 1) := by decide +kernel
theorem dX7_digest_13 : decode cX7_digest 13 = .ok (.invokevirtual 203, 3) := by decide +kernel
theorem dX7_digest_16 : decode cX7_digest 16 = .ok (.iconst 0, 1) := by decide +kernel
theorem dX7_digest_17 : decode cX7_digest 17 = .ok (.istore_n 1, 1) := by decide +kernel
theorem dX7_digest_18 : decode cX7_digest 18 = .ok (.iload_n 1, 1) := by decide +kernel
theorem dX7_digest_19 : decode cX7_digest 19 = .ok (.bipush 8, 2) := by decide +kernel
theorem dX7_digest_21 : decode cX7_digest 21 = .ok (.if_icmp .ge 19, 3) := by decide +kernel
theorem dX7_digest_24 : decode cX7_digest 24 = .ok (.aload_n 0, 1) := by decide +kernel
theorem dX7_digest_25 : decode cX7_digest 25 = .ok (.aload_n 0, 1) := by decide +kernel
theorem dX7_digest_26 : decode cX7_digest 26 = .ok (.iload_n 1, 1) := by decide +kernel
theorem dX7_digest_27 : decode cX7_digest 27 = .ok (.invokevirtual 133, 3) := by decide +kernel
theorem dX7_digest_30 : decode cX7_digest 30 = .ok (.i2l, 1) := by decide +kernel
theorem dX7_digest_31 : decode cX7_digest 31 = .ok (.invokevirtual 203, 3) := by decide +kernel
theorem dX7_digest_34 : decode cX7_digest 34 = .ok (.iinc 1 1, 3) := by decide +kernel
theorem dX7_digest_37 : decode cX7_digest 37 = .ok (.goto (-19), 3) := by decide +kernel
theorem dX7_digest_40 : decode cX7_digest 40 = .ok (.iconst 0, 1) := by decide +kernel
theorem dX7_digest_41 : decode cX7_digest 41 = .ok (.istore_n 1, 1) := by decide +kernel
theorem dX7_digest_42 : decode cX7_digest 42 = .ok (.iload_n 1, 1) := by decide +kernel
theorem dX7_digest_43 : decode cX7_digest 43 = .ok (.iconst 5, 1) := by decide +kernel
theorem dX7_digest_44 : decode cX7_digest 44 = .ok (.aload_n 0, 1) := by decide +kernel
theorem dX7_digest_45 : decode cX7_digest 45 = .ok (.getfield 7, 3) := by decide +kernel
theorem dX7_digest_48 : decode cX7_digest 48 = .ok (.iconst 0, 1) := by decide +kernel
theorem dX7_digest_49 : decode cX7_digest 49 = .ok (.iaload, 1) := by decide +kernel
theorem dX7_digest_50 : decode cX7_digest 50 = .ok (.imul, 1) := by decide +kernel
theorem dX7_digest_51 : decode cX7_digest 51 = .ok (.if_icmp .ge 24, 3) := by decide +kernel
theorem dX7_digest_54 : decode cX7_digest 54 = .ok (.aload_n 0, 1) := by decide +kernel
theorem dX7_digest_55 : decode cX7_digest 55 = .ok (.aload_n 0, 1) := by decide +kernel
theorem dX7_digest_56 : decode cX7_digest 56 = .ok (.iload_n 1, 1) := by decide +kernel
theorem dX7_digest_57 : decode cX7_digest 57 = .ok (.iconst 5, 1) := by decide +kernel
theorem dX7_digest_58 : decode cX7_digest 58 = .ok (.idiv, 1) := by decide +kernel
theorem dX7_digest_59 : decode cX7_digest 59 = .ok (.iload_n 1, 1) := by decide +kernel
theorem dX7_digest_60 : decode cX7_digest 60 = .ok (.iconst 5, 1) := by decide +kernel
theorem dX7_digest_61 : decode cX7_digest 61 = .ok (.irem, 1) := by decide +kernel
theorem dX7_digest_62 : decode cX7_digest 62 = .ok (.invokevirtual 127, 3) := by decide +kernel
theorem dX7_digest_65 : decode cX7_digest 65 = .ok (.i2l, 1) := by decide +kernel
theorem dX7_digest_66 : decode cX7_digest 66 = .ok (.invokevirtual 203, 3) := by decide +kernel
theorem dX7_digest_69 : decode cX7_digest 69 = .ok (.iinc 1 1, 3) := by decide +kernel
theorem dX7_digest_72 : decode cX7_digest 72 = .ok (.goto (-30), 3) := by decide +kernel
theorem dX7_digest_75 : decode cX7_digest 75 = .ok (.iconst 0, 1) := by decide +kernel
theorem dX7_digest_76 : decode cX7_digest 76 = .ok (.istore_n 1, 1) := by decide +kernel
theorem dX7_digest_77 : decode cX7_digest 77 = .ok (.iload_n 1, 1) := by decide +kernel
theorem dX7_digest_78 : decode cX7_digest 78 = .ok (.aload_n 0, 1) := by decide +kernel
theorem dX7_digest_79 : decode cX7_digest 79 = .ok (.getfield 7, 3) := by decide +kernel
theorem dX7_digest_82 : decode cX7_digest 82 = .ok (.iconst 3, 1) := by decide +kernel
theorem dX7_digest_83 : decode cX7_digest 83 = .ok (.iaload, 1) := by decide +kernel
theorem dX7_digest_84 : decode cX7_digest 84 = .ok (.if_icmp .ge 47, 3) := by decide +kernel
theorem dX7_digest_87 : decode cX7_digest 87 = .ok (.aload_n 0, 1) := by decide +kernel
theorem dX7_digest_88 : decode cX7_digest 88 = .ok (.aload_n 0, 1) := by decide +kernel
theorem dX7_digest_89 : decode cX7_digest 89 = .ok (.getfield 7, 3) := by decide +kernel
theorem dX7_digest_92 : decode cX7_digest 92 = .ok (.bipush 16, 2) := by decide +kernel
theorem dX7_digest_94 : decode cX7_digest 94 = .ok (.iload_n 1, 1) := by decide +kernel
theorem dX7_digest_95 : decode cX7_digest 95 = .ok (.iadd, 1) := by decide +kernel
theorem dX7_digest_96 : decode cX7_digest 96 = .ok (.iaload, 1) := by decide +kernel
theorem dX7_digest_97 : decode cX7_digest 97 = .ok (.i2l, 1) := by decide +kernel
theorem dX7_digest_98 : decode cX7_digest 98 = .ok (.invokevirtual 203, 3) := by decide +kernel
theorem dX7_digest_101 : decode cX7_digest 101 = .ok (.iconst 0, 1) := by decide +kernel
theorem dX7_digest_102 : decode cX7_digest 102 = .ok (.istore_n 2, 1) := by decide +kernel
theorem dX7_digest_103 : decode cX7_digest 103 = .ok (.iload_n 2, 1) := by decide +kernel
theorem dX7_digest_104 : decode cX7_digest 104 = .ok (.iconst 4, 1) := by decide +kernel
theorem dX7_digest_105 : decode cX7_digest 105 = .ok (.if_icmp .ge 20, 3) := by decide +kernel
theorem dX7_digest_108 : decode cX7_digest 108 = .ok (.aload_n 0, 1) := by decide +kernel
theorem dX7_digest_109 : decode cX7_digest 109 = .ok (.aload_n 0, 1) := by decide +kernel
theorem dX7_digest_110 : decode cX7_digest 110 = .ok (.iload_n 1, 1) := by decide +kernel
theorem dX7_digest_111 : decode cX7_digest 111 = .ok (.iload_n 2, 1) := by decide +kernel
theorem dX7_digest_112 : decode cX7_digest 112 = .ok (.invokevirtual 130, 3) := by decide +kernel
theorem dX7_digest_115 : decode cX7_digest 115 = .ok (.i2l, 1) := by decide +kernel
theorem dX7_digest_116 : decode cX7_digest 116 = .ok (.invokevirtual 203, 3) := by decide +kernel
theorem dX7_digest_119 : decode cX7_digest 119 = .ok (.iinc 2 1, 3) := by decide +kernel
theorem dX7_digest_122 : decode cX7_digest 122 = .ok (.goto (-19), 3) := by decide +kernel
theorem dX7_digest_125 : decode cX7_digest 125 = .ok (.iinc 1 1, 3) := by decide +kernel
theorem dX7_digest_128 : decode cX7_digest 128 = .ok (.goto (-51), 3) := by decide +kernel
theorem dX7_digest_131 : decode cX7_digest 131 = .ok (.aload_n 0, 1) := by decide +kernel
theorem dX7_digest_132 : decode cX7_digest 132 = .ok (.aload_n 0, 1) := by decide +kernel
theorem dX7_digest_133 : decode cX7_digest 133 = .ok (.invokevirtual 207, 3) := by decide +kernel
theorem dX7_digest_136 : decode cX7_digest 136 = .ok (.i2l, 1) := by decide +kernel
theorem dX7_digest_137 : decode cX7_digest 137 = .ok (.invokevirtual 203, 3) := by decide +kernel
theorem dX7_digest_140 : decode cX7_digest 140 = .ok (.aload_n 0, 1) := by decide +kernel
theorem dX7_digest_141 : decode cX7_digest 141 = .ok (.aload_n 0, 1) := by decide +kernel
theorem dX7_digest_142 : decode cX7_digest 142 = .ok (.invokevirtual 158, 3) := by decide +kernel
theorem dX7_digest_145 : decode cX7_digest 145 = .ok (.i2l, 1) := by decide +kernel
theorem dX7_digest_146 : decode cX7_digest 146 = .ok (.invokevirtual 203, 3) := by decide +kernel
theorem dX7_digest_149 : decode cX7_digest 149 = .ok (.aload_n 0, 1) := by decide +kernel
theorem dX7_digest_150 : decode cX7_digest 150 = .ok (.aload_n 0, 1) := by decide +kernel
theorem dX7_digest_151 : decode cX7_digest 151 = .ok (.invokevirtual 210, 3) := by decide +kernel
theorem dX7_digest_154 : decode cX7_digest 154 = .ok (.i2l, 1) := by decide +kernel
theorem dX7_digest_155 : decode cX7_digest 155 = .ok (.invokevirtual 203, 3) := by decide +kernel
theorem dX7_digest_158 : decode cX7_digest 158 = .ok (.aload_n 0, 1) := by decide +kernel
theorem dX7_digest_159 : decode cX7_digest 159 = .ok (.aload_n 0, 1) := by decide +kernel
theorem dX7_digest_160 : decode cX7_digest 160 = .ok (.getfield 43, 3) := by decide +kernel
theorem dX7_digest_163 : decode cX7_digest 163 = .ok (.i2l, 1) := by decide +kernel
theorem dX7_digest_164 : decode cX7_digest 164 = .ok (.invokevirtual 203, 3) := by decide +kernel
theorem dX7_digest_167 : decode cX7_digest 167 = .ok (.aload_n 0, 1) := by decide +kernel
theorem dX7_digest_168 : decode cX7_digest 168 = .ok (.iconst 0, 1) := by decide +kernel
theorem dX7_digest_169 : decode cX7_digest 169 = .ok (.putfield 32, 3) := by decide +kernel
theorem dX7_digest_172 : decode cX7_digest 172 = .ok (.aload_n 0, 1) := by decide +kernel
theorem dX7_digest_173 : decode cX7_digest 173 = .ok (.getfield 197, 3) := by decide +kernel
theorem dX7_digest_176 : decode cX7_digest 176 = .ok (.lreturn, 1) := by decide +kernel
theorem dJ6_bitCount_0f7a4_0 : decode cJ6_bitCount_0f7a4 0 = .ok (.iload_n 0, 1) := by decide +kernel
theorem dJ6_bitCount_0f7a4_1 : decode cJ6_bitCount_0f7a4 1 = .ok (.iload_n 0, 1) := by decide +kernel
theorem dJ6_bitCount_0f7a4_2 : decode cJ6_bitCount_0f7a4 2 = .ok (.iconst 1, 1) := by decide +kernel
theorem dJ6_bitCount_0f7a4_3 : decode cJ6_bitCount_0f7a4 3 = .ok (.iushr, 1) := by decide +kernel
theorem dJ6_bitCount_0f7a4_4 : decode cJ6_bitCount_0f7a4 4 = .ok (.ldc_w 265, 3) := by decide +kernel
theorem dJ6_bitCount_0f7a4_7 : decode cJ6_bitCount_0f7a4 7 = .ok (.iand, 1) := by decide +kernel
theorem dJ6_bitCount_0f7a4_8 : decode cJ6_bitCount_0f7a4 8 = .ok (.isub, 1) := by decide +kernel
theorem dJ6_bitCount_0f7a4_9 : decode cJ6_bitCount_0f7a4 9 = .ok (.istore_n 0, 1) := by decide +kernel
theorem dJ6_bitCount_0f7a4_10 : decode cJ6_bitCount_0f7a4 10 = .ok (.iload_n 0, 1) := by decide +kernel
theorem dJ6_bitCount_0f7a4_11 : decode cJ6_bitCount_0f7a4 11 = .ok (.ldc_w 266, 3) := by decide +kernel
theorem dJ6_bitCount_0f7a4_14 : decode cJ6_bitCount_0f7a4 14 = .ok (.iand, 1) := by decide +kernel
theorem dJ6_bitCount_0f7a4_15 : decode cJ6_bitCount_0f7a4 15 = .ok (.iload_n 0, 1) := by decide +kernel
theorem dJ6_bitCount_0f7a4_16 : decode cJ6_bitCount_0f7a4 16 = .ok (.iconst 2, 1) := by decide +kernel
theorem dJ6_bitCount_0f7a4_17 : decode cJ6_bitCount_0f7a4 17 = .ok (.iushr, 1) := by decide +kernel
theorem dJ6_bitCount_0f7a4_18 : decode cJ6_bitCount_0f7a4 18 = .ok (.ldc_w 266, 3) := by decide +kernel
theorem dJ6_bitCount_0f7a4_21 : decode cJ6_bitCount_0f7a4 21 = .ok (.iand, 1) := by decide +kernel
theorem dJ6_bitCount_0f7a4_22 : decode cJ6_bitCount_0f7a4 22 = .ok (.iadd, 1) := by decide +kernel
theorem dJ6_bitCount_0f7a4_23 : decode cJ6_bitCount_0f7a4 23 = .ok (.istore_n 0, 1) := by decide +kernel
theorem dJ6_bitCount_0f7a4_24 : decode cJ6_bitCount_0f7a4 24 = .ok (.iload_n 0, 1) := by decide +kernel
theorem dJ6_bitCount_0f7a4_25 : decode cJ6_bitCount_0f7a4 25 = .ok (.iload_n 0, 1) := by decide +kernel
theorem dJ6_bitCount_0f7a4_26 : decode cJ6_bitCount_0f7a4 26 = .ok (.iconst 4, 1) := by decide +kernel
theorem dJ6_bitCount_0f7a4_27 : decode cJ6_bitCount_0f7a4 27 = .ok (.iushr, 1) := by decide +kernel
theorem dJ6_bitCount_0f7a4_28 : decode cJ6_bitCount_0f7a4 28 = .ok (.iadd, 1) := by decide +kernel
theorem dJ6_bitCount_0f7a4_29 : decode cJ6_bitCount_0f7a4 29 = .ok (.ldc_w 267, 3) := by decide +kernel
theorem dJ6_bitCount_0f7a4_32 : decode cJ6_bitCount_0f7a4 32 = .ok (.iand, 1) := by decide +kernel
theorem dJ6_bitCount_0f7a4_33 : decode cJ6_bitCount_0f7a4 33 = .ok (.istore_n 0, 1) := by decide +kernel
theorem dJ6_bitCount_0f7a4_34 : decode cJ6_bitCount_0f7a4 34 = .ok (.iload_n 0, 1) := by decide +kernel
theorem dJ6_bitCount_0f7a4_35 : decode cJ6_bitCount_0f7a4 35 = .ok (.iload_n 0, 1) := by decide +kernel
theorem dJ6_bitCount_0f7a4_36 : decode cJ6_bitCount_0f7a4 36 = .ok (.bipush 8, 2) := by decide +kernel
theorem dJ6_bitCount_0f7a4_38 : decode cJ6_bitCount_0f7a4 38 = .ok (.iushr, 1) := by decide +kernel
theorem dJ6_bitCount_0f7a4_39 : decode cJ6_bitCount_0f7a4 39 = .ok (.iadd, 1) := by decide +kernel
theorem dJ6_bitCount_0f7a4_40 : decode cJ6_bitCount_0f7a4 40 = .ok (.istore_n 0, 1) := by decide +kernel
theorem dJ6_bitCount_0f7a4_41 : decode cJ6_bitCount_0f7a4 41 = .ok (.iload_n 0, 1) := by decide +kernel
theorem dJ6_bitCount_0f7a4_42 : decode cJ6_bitCount_0f7a4 42 = .ok (.iload_n 0, 1) := by decide +kernel
theorem dJ6_bitCount_0f7a4_43 : decode cJ6_bitCount_0f7a4 43 = .ok (.bipush 16, 2) := by decide +kernel
theorem dJ6_bitCount_0f7a4_45 : decode cJ6_bitCount_0f7a4 45 = .ok (.iushr, 1) := by decide +kernel
theorem dJ6_bitCount_0f7a4_46 : decode cJ6_bitCount_0f7a4 46 = .ok (.iadd, 1) := by decide +kernel
theorem dJ6_bitCount_0f7a4_47 : decode cJ6_bitCount_0f7a4 47 = .ok (.istore_n 0, 1) := by decide +kernel
theorem dJ6_bitCount_0f7a4_48 : decode cJ6_bitCount_0f7a4 48 = .ok (.iload_n 0, 1) := by decide +kernel
theorem dJ6_bitCount_0f7a4_49 : decode cJ6_bitCount_0f7a4 49 = .ok (.bipush 63, 2) := by decide +kernel
theorem dJ6_bitCount_0f7a4_51 : decode cJ6_bitCount_0f7a4 51 = .ok (.iand, 1) := by decide +kernel
theorem dJ6_bitCount_0f7a4_52 : decode cJ6_bitCount_0f7a4 52 = .ok (.ireturn, 1) := by decide +kernel
theorem dJ9_max_7cf53_0 : decode cJ9_max_7cf53 0 = .ok (.iload_n 0, 1) := by decide +kernel
theorem dJ9_max_7cf53_1 : decode cJ9_max_7cf53 1 = .ok (.iload_n 1, 1) := by decide +kernel
theorem dJ9_max_7cf53_2 : decode cJ9_max_7cf53 2 = .ok (.if_icmp .lt 7, 3) := by decide +kernel
theorem dJ9_max_7cf53_5 : decode cJ9_max_7cf53 5 = .ok (.iload_n 0, 1) := by decide +kernel
theorem dJ9_max_7cf53_6 : decode cJ9_max_7cf53 6 = .ok (.goto 4, 3) := by decide +kernel
theorem dJ9_max_7cf53_9 : decode cJ9_max_7cf53 9 = .ok (.iload_n 1, 1) := by decide +kernel
theorem dJ9_max_7cf53_10 : decode cJ9_max_7cf53 10 = .ok (.ireturn, 1) := by decide +kernel
theorem dJ9_min_7cf53_0 : decode cJ9_min_7cf53 0 = .ok (.iload_n 0, 1) := by decide +kernel
theorem dJ9_min_7cf53_1 : decode cJ9_min_7cf53 1 = .ok (.iload_n 1, 1) := by decide +kernel
theorem dJ9_min_7cf53_2 : decode cJ9_min_7cf53 2 = .ok (.if_icmp .gt 7, 3) := by decide +kernel
theorem dJ9_min_7cf53_5 : decode cJ9_min_7cf53 5 = .ok (.iload_n 0, 1) := by decide +kernel
theorem dJ9_min_7cf53_6 : decode cJ9_min_7cf53 6 = .ok (.goto 4, 3) := by decide +kernel
theorem dJ9_min_7cf53_9 : decode cJ9_min_7cf53 9 = .ok (.iload_n 1, 1) := by decide +kernel
theorem dJ9_min_7cf53_10 : decode cJ9_min_7cf53 10 = .ok (.ireturn, 1) := by decide +kernel
theorem dL_begin_0 : decode cL_begin 0 = .ok (.aload_n 2, 1) := by decide +kernel
theorem dL_begin_1 : decode cL_begin 1 = .ok (.iconst 0, 1) := by decide +kernel
theorem dL_begin_2 : decode cL_begin 2 = .ok (.aload_n 0, 1) := by decide +kernel
theorem dL_begin_3 : decode cL_begin 3 = .ok (.iload_n 1, 1) := by decide +kernel
theorem dL_begin_4 : decode cL_begin 4 = .ok (.invokevirtual 7, 3) := by decide +kernel
theorem dL_begin_7 : decode cL_begin 7 = .ok (.i2l, 1) := by decide +kernel
theorem dL_begin_8 : decode cL_begin 8 = .ok (.lastore, 1) := by decide +kernel
theorem dL_begin_9 : decode cL_begin 9 = .ok (.goto 6, 3) := by decide +kernel
theorem dL_begin_12 : decode cL_begin 12 = .ok (.astore_n 3, 1) := by decide +kernel
theorem dL_begin_13 : decode cL_begin 13 = .ok (.iconst 1, 1) := by decide +kernel
theorem dL_begin_14 : decode cL_begin 14 = .ok (.ireturn, 1) := by decide +kernel
theorem dL_begin_15 : decode cL_begin 15 = .ok (.iconst 0, 1) := by decide +kernel
theorem dL_begin_16 : decode cL_begin 16 = .ok (.ireturn, 1) := by decide +kernel
theorem dL_add_0 : decode cL_add 0 = .ok (.aload_n 3, 1) := by decide +kernel
theorem dL_add_1 : decode cL_add 1 = .ok (.iconst 0, 1) := by decide +kernel
theorem dL_add_2 : decode cL_add 2 = .ok (.aload_n 0, 1) := by decide +kernel
theorem dL_add_3 : decode cL_add 3 = .ok (.iload_n 1, 1) := by decide +kernel
theorem dL_add_4 : decode cL_add 4 = .ok (.iload_n 2, 1) := by decide +kernel
theorem dL_add_5 : decode cL_add 5 = .ok (.invokevirtual 15, 3) := by decide +kernel
theorem dL_add_8 : decode cL_add 8 = .ok (.i2l, 1) := by decide +kernel
theorem dL_add_9 : decode cL_add 9 = .ok (.lastore, 1) := by decide +kernel
theorem dL_add_10 : decode cL_add 10 = .ok (.goto 15, 3) := by decide +kernel
theorem dL_add_13 : decode cL_add 13 = .ok (.astore 4, 2) := by decide +kernel
theorem dL_add_15 : decode cL_add 15 = .ok (.iconst 1, 1) := by decide +kernel
theorem dL_add_16 : decode cL_add 16 = .ok (.ireturn, 1) := by decide +kernel
theorem dL_add_17 : decode cL_add 17 = .ok (.astore 4, 2) := by decide +kernel
theorem dL_add_19 : decode cL_add 19 = .ok (.iconst 2, 1) := by decide +kernel
theorem dL_add_20 : decode cL_add 20 = .ok (.ireturn, 1) := by decide +kernel
theorem dL_add_21 : decode cL_add 21 = .ok (.astore 4, 2) := by decide +kernel
theorem dL_add_23 : decode cL_add 23 = .ok (.iconst 3, 1) := by decide +kernel
theorem dL_add_24 : decode cL_add 24 = .ok (.ireturn, 1) := by decide +kernel
theorem dL_add_25 : decode cL_add 25 = .ok (.iconst 0, 1) := by decide +kernel
theorem dL_add_26 : decode cL_add 26 = .ok (.ireturn, 1) := by decide +kernel
theorem dL_remove_0 : decode cL_remove 0 = .ok (.aload_n 2, 1) := by decide +kernel
theorem dL_remove_1 : decode cL_remove 1 = .ok (.iconst 0, 1) := by decide +kernel
theorem dL_remove_2 : decode cL_remove 2 = .ok (.aload_n 0, 1) := by decide +kernel
theorem dL_remove_3 : decode cL_remove 3 = .ok (.iload_n 1, 1) := by decide +kernel
theorem dL_remove_4 : decode cL_remove 4 = .ok (.invokevirtual 23, 3) := by decide +kernel
theorem dL_remove_7 : decode cL_remove 7 = .ok (.i2l, 1) := by decide +kernel
theorem dL_remove_8 : decode cL_remove 8 = .ok (.lastore, 1) := by decide +kernel
theorem dL_remove_9 : decode cL_remove 9 = .ok (.goto 6, 3) := by decide +kernel
theorem dL_remove_12 : decode cL_remove 12 = .ok (.astore_n 3, 1) := by decide +kernel
theorem dL_remove_13 : decode cL_remove 13 = .ok (.iconst 1, 1) := by decide +kernel
theorem dL_remove_14 : decode cL_remove 14 = .ok (.ireturn, 1) := by decide +kernel
theorem dL_remove_15 : decode cL_remove 15 = .ok (.iconst 0, 1) := by decide +kernel
theorem dL_remove_16 : decode cL_remove 16 = .ok (.ireturn, 1) := by decide +kernel
theorem dL_turn_0 : decode cL_turn 0 = .ok (.aload_n 2, 1) := by decide +kernel
theorem dL_turn_1 : decode cL_turn 1 = .ok (.iconst 0, 1) := by decide +kernel
theorem dL_turn_2 : decode cL_turn 2 = .ok (.aload_n 0, 1) := by decide +kernel
theorem dL_turn_3 : decode cL_turn 3 = .ok (.iload_n 1, 1) := by decide +kernel
theorem dL_turn_4 : decode cL_turn 4 = .ok (.invokevirtual 28, 3) := by decide +kernel
theorem dL_turn_7 : decode cL_turn 7 = .ok (.i2l, 1) := by decide +kernel
theorem dL_turn_8 : decode cL_turn 8 = .ok (.lastore, 1) := by decide +kernel
theorem dL_turn_9 : decode cL_turn 9 = .ok (.goto 6, 3) := by decide +kernel
theorem dL_turn_12 : decode cL_turn 12 = .ok (.astore_n 3, 1) := by decide +kernel
theorem dL_turn_13 : decode cL_turn 13 = .ok (.iconst 1, 1) := by decide +kernel
theorem dL_turn_14 : decode cL_turn 14 = .ok (.ireturn, 1) := by decide +kernel
theorem dL_turn_15 : decode cL_turn 15 = .ok (.iconst 0, 1) := by decide +kernel
theorem dL_turn_16 : decode cL_turn 16 = .ok (.ireturn, 1) := by decide +kernel
theorem dL_relieve_0 : decode cL_relieve 0 = .ok (.aload_n 2, 1) := by decide +kernel
theorem dL_relieve_1 : decode cL_relieve 1 = .ok (.iconst 0, 1) := by decide +kernel
theorem dL_relieve_2 : decode cL_relieve 2 = .ok (.aload_n 0, 1) := by decide +kernel
theorem dL_relieve_3 : decode cL_relieve 3 = .ok (.iload_n 1, 1) := by decide +kernel
theorem dL_relieve_4 : decode cL_relieve 4 = .ok (.invokevirtual 31, 3) := by decide +kernel
theorem dL_relieve_7 : decode cL_relieve 7 = .ok (.i2l, 1) := by decide +kernel
theorem dL_relieve_8 : decode cL_relieve 8 = .ok (.lastore, 1) := by decide +kernel
theorem dL_relieve_9 : decode cL_relieve 9 = .ok (.goto 9, 3) := by decide +kernel
theorem dL_relieve_12 : decode cL_relieve 12 = .ok (.astore_n 3, 1) := by decide +kernel
theorem dL_relieve_13 : decode cL_relieve 13 = .ok (.iconst 1, 1) := by decide +kernel
theorem dL_relieve_14 : decode cL_relieve 14 = .ok (.ireturn, 1) := by decide +kernel
theorem dL_relieve_15 : decode cL_relieve 15 = .ok (.astore_n 3, 1) := by decide +kernel
theorem dL_relieve_16 : decode cL_relieve 16 = .ok (.iconst 2, 1) := by decide +kernel
theorem dL_relieve_17 : decode cL_relieve 17 = .ok (.ireturn, 1) := by decide +kernel
theorem dL_relieve_18 : decode cL_relieve 18 = .ok (.iconst 0, 1) := by decide +kernel
theorem dL_relieve_19 : decode cL_relieve 19 = .ok (.ireturn, 1) := by decide +kernel
theorem dL_setCapacity_0 : decode cL_setCapacity 0 = .ok (.aload_n 3, 1) := by decide +kernel
theorem dL_setCapacity_1 : decode cL_setCapacity 1 = .ok (.iconst 0, 1) := by decide +kernel
theorem dL_setCapacity_2 : decode cL_setCapacity 2 = .ok (.aload_n 0, 1) := by decide +kernel
theorem dL_setCapacity_3 : decode cL_setCapacity 3 = .ok (.iload_n 1, 1) := by decide +kernel
theorem dL_setCapacity_4 : decode cL_setCapacity 4 = .ok (.iload_n 2, 1) := by decide +kernel
theorem dL_setCapacity_5 : decode cL_setCapacity 5 = .ok (.invokevirtual 34, 3) := by decide +kernel
theorem dL_setCapacity_8 : decode cL_setCapacity 8 = .ok (.i2l, 1) := by decide +kernel
theorem dL_setCapacity_9 : decode cL_setCapacity 9 = .ok (.lastore, 1) := by decide +kernel
theorem dL_setCapacity_10 : decode cL_setCapacity 10 = .ok (.goto 11, 3) := by decide +kernel
theorem dL_setCapacity_13 : decode cL_setCapacity 13 = .ok (.astore 4, 2) := by decide +kernel
theorem dL_setCapacity_15 : decode cL_setCapacity 15 = .ok (.iconst 1, 1) := by decide +kernel
theorem dL_setCapacity_16 : decode cL_setCapacity 16 = .ok (.ireturn, 1) := by decide +kernel
theorem dL_setCapacity_17 : decode cL_setCapacity 17 = .ok (.astore 4, 2) := by decide +kernel
theorem dL_setCapacity_19 : decode cL_setCapacity 19 = .ok (.iconst 2, 1) := by decide +kernel
theorem dL_setCapacity_20 : decode cL_setCapacity 20 = .ok (.ireturn, 1) := by decide +kernel
theorem dL_setCapacity_21 : decode cL_setCapacity 21 = .ok (.iconst 0, 1) := by decide +kernel
theorem dL_setCapacity_22 : decode cL_setCapacity 22 = .ok (.ireturn, 1) := by decide +kernel
theorem dL_node_0 : decode cL_node 0 = .ok (.aload_n 3, 1) := by decide +kernel
theorem dL_node_1 : decode cL_node 1 = .ok (.iconst 0, 1) := by decide +kernel
theorem dL_node_2 : decode cL_node 2 = .ok (.aload_n 0, 1) := by decide +kernel
theorem dL_node_3 : decode cL_node 3 = .ok (.iload_n 1, 1) := by decide +kernel
theorem dL_node_4 : decode cL_node 4 = .ok (.iload_n 2, 1) := by decide +kernel
theorem dL_node_5 : decode cL_node 5 = .ok (.invokevirtual 37, 3) := by decide +kernel
theorem dL_node_8 : decode cL_node 8 = .ok (.i2l, 1) := by decide +kernel
theorem dL_node_9 : decode cL_node 9 = .ok (.lastore, 1) := by decide +kernel
theorem dL_node_10 : decode cL_node 10 = .ok (.goto 11, 3) := by decide +kernel
theorem dL_node_13 : decode cL_node 13 = .ok (.astore 4, 2) := by decide +kernel
theorem dL_node_15 : decode cL_node 15 = .ok (.iconst 1, 1) := by decide +kernel
theorem dL_node_16 : decode cL_node 16 = .ok (.ireturn, 1) := by decide +kernel
theorem dL_node_17 : decode cL_node 17 = .ok (.astore 4, 2) := by decide +kernel
theorem dL_node_19 : decode cL_node 19 = .ok (.iconst 2, 1) := by decide +kernel
theorem dL_node_20 : decode cL_node 20 = .ok (.ireturn, 1) := by decide +kernel
theorem dL_node_21 : decode cL_node 21 = .ok (.iconst 0, 1) := by decide +kernel
theorem dL_node_22 : decode cL_node 22 = .ok (.ireturn, 1) := by decide +kernel
theorem dL_edge_0 : decode cL_edge 0 = .ok (.aload_n 3, 1) := by decide +kernel
theorem dL_edge_1 : decode cL_edge 1 = .ok (.iconst 0, 1) := by decide +kernel
theorem dL_edge_2 : decode cL_edge 2 = .ok (.aload_n 0, 1) := by decide +kernel
theorem dL_edge_3 : decode cL_edge 3 = .ok (.iload_n 1, 1) := by decide +kernel
theorem dL_edge_4 : decode cL_edge 4 = .ok (.iload_n 2, 1) := by decide +kernel
theorem dL_edge_5 : decode cL_edge 5 = .ok (.invokevirtual 40, 3) := by decide +kernel
theorem dL_edge_8 : decode cL_edge 8 = .ok (.i2l, 1) := by decide +kernel
theorem dL_edge_9 : decode cL_edge 9 = .ok (.lastore, 1) := by decide +kernel
theorem dL_edge_10 : decode cL_edge 10 = .ok (.goto 11, 3) := by decide +kernel
theorem dL_edge_13 : decode cL_edge 13 = .ok (.astore 4, 2) := by decide +kernel
theorem dL_edge_15 : decode cL_edge 15 = .ok (.iconst 1, 1) := by decide +kernel
theorem dL_edge_16 : decode cL_edge 16 = .ok (.ireturn, 1) := by decide +kernel
theorem dL_edge_17 : decode cL_edge 17 = .ok (.astore 4, 2) := by decide +kernel
theorem dL_edge_19 : decode cL_edge 19 = .ok (.iconst 2, 1) := by decide +kernel
theorem dL_edge_20 : decode cL_edge 20 = .ok (.ireturn, 1) := by decide +kernel
theorem dL_edge_21 : decode cL_edge 21 = .ok (.iconst 0, 1) := by decide +kernel
theorem dL_edge_22 : decode cL_edge 22 = .ok (.ireturn, 1) := by decide +kernel
theorem dL_edgeAt_0 : decode cL_edgeAt 0 = .ok (.aload_n 2, 1) := by decide +kernel
theorem dL_edgeAt_1 : decode cL_edgeAt 1 = .ok (.iconst 0, 1) := by decide +kernel
theorem dL_edgeAt_2 : decode cL_edgeAt 2 = .ok (.aload_n 0, 1) := by decide +kernel
theorem dL_edgeAt_3 : decode cL_edgeAt 3 = .ok (.iload_n 1, 1) := by decide +kernel
theorem dL_edgeAt_4 : decode cL_edgeAt 4 = .ok (.invokevirtual 43, 3) := by decide +kernel
theorem dL_edgeAt_7 : decode cL_edgeAt 7 = .ok (.i2l, 1) := by decide +kernel
theorem dL_edgeAt_8 : decode cL_edgeAt 8 = .ok (.lastore, 1) := by decide +kernel
theorem dL_edgeAt_9 : decode cL_edgeAt 9 = .ok (.goto 6, 3) := by decide +kernel
theorem dL_edgeAt_12 : decode cL_edgeAt 12 = .ok (.astore_n 3, 1) := by decide +kernel
theorem dL_edgeAt_13 : decode cL_edgeAt 13 = .ok (.iconst 1, 1) := by decide +kernel
theorem dL_edgeAt_14 : decode cL_edgeAt 14 = .ok (.ireturn, 1) := by decide +kernel
theorem dL_edgeAt_15 : decode cL_edgeAt 15 = .ok (.iconst 0, 1) := by decide +kernel
theorem dL_edgeAt_16 : decode cL_edgeAt 16 = .ok (.ireturn, 1) := by decide +kernel
theorem dL_value_0 : decode cL_value 0 = .ok (.aload_n 2, 1) := by decide +kernel
theorem dL_value_1 : decode cL_value 1 = .ok (.iconst 0, 1) := by decide +kernel
theorem dL_value_2 : decode cL_value 2 = .ok (.aload_n 0, 1) := by decide +kernel
theorem dL_value_3 : decode cL_value 3 = .ok (.iload_n 1, 1) := by decide +kernel
theorem dL_value_4 : decode cL_value 4 = .ok (.invokevirtual 46, 3) := by decide +kernel
theorem dL_value_7 : decode cL_value 7 = .ok (.i2l, 1) := by decide +kernel
theorem dL_value_8 : decode cL_value 8 = .ok (.lastore, 1) := by decide +kernel
theorem dL_value_9 : decode cL_value 9 = .ok (.goto 6, 3) := by decide +kernel
theorem dL_value_12 : decode cL_value 12 = .ok (.astore_n 3, 1) := by decide +kernel
theorem dL_value_13 : decode cL_value 13 = .ok (.iconst 1, 1) := by decide +kernel
theorem dL_value_14 : decode cL_value 14 = .ok (.ireturn, 1) := by decide +kernel
theorem dL_value_15 : decode cL_value 15 = .ok (.iconst 0, 1) := by decide +kernel
theorem dL_value_16 : decode cL_value 16 = .ok (.ireturn, 1) := by decide +kernel
theorem dL_path_0 : decode cL_path 0 = .ok (.aload_n 3, 1) := by decide +kernel
theorem dL_path_1 : decode cL_path 1 = .ok (.iconst 0, 1) := by decide +kernel
theorem dL_path_2 : decode cL_path 2 = .ok (.aload_n 0, 1) := by decide +kernel
theorem dL_path_3 : decode cL_path 3 = .ok (.iload_n 1, 1) := by decide +kernel
theorem dL_path_4 : decode cL_path 4 = .ok (.iload_n 2, 1) := by decide +kernel
theorem dL_path_5 : decode cL_path 5 = .ok (.invokevirtual 49, 3) := by decide +kernel
theorem dL_path_8 : decode cL_path 8 = .ok (.i2l, 1) := by decide +kernel
theorem dL_path_9 : decode cL_path 9 = .ok (.lastore, 1) := by decide +kernel
theorem dL_path_10 : decode cL_path 10 = .ok (.goto 7, 3) := by decide +kernel
theorem dL_path_13 : decode cL_path 13 = .ok (.astore 4, 2) := by decide +kernel
theorem dL_path_15 : decode cL_path 15 = .ok (.iconst 1, 1) := by decide +kernel
theorem dL_path_16 : decode cL_path 16 = .ok (.ireturn, 1) := by decide +kernel
theorem dL_path_17 : decode cL_path 17 = .ok (.iconst 0, 1) := by decide +kernel
theorem dL_path_18 : decode cL_path 18 = .ok (.ireturn, 1) := by decide +kernel
theorem dL_step_0 : decode cL_step 0 = .ok (.aload 4, 2) := by decide +kernel
theorem dL_step_2 : decode cL_step 2 = .ok (.iconst 0, 1) := by decide +kernel
theorem dL_step_3 : decode cL_step 3 = .ok (.aload_n 0, 1) := by decide +kernel
theorem dL_step_4 : decode cL_step 4 = .ok (.iload_n 1, 1) := by decide +kernel
theorem dL_step_5 : decode cL_step 5 = .ok (.iload_n 2, 1) := by decide +kernel
theorem dL_step_6 : decode cL_step 6 = .ok (.iload_n 3, 1) := by decide +kernel
theorem dL_step_7 : decode cL_step 7 = .ok (.invokevirtual 52, 3) := by decide +kernel
theorem dL_step_10 : decode cL_step 10 = .ok (.i2l, 1) := by decide +kernel
theorem dL_step_11 : decode cL_step 11 = .ok (.lastore, 1) := by decide +kernel
theorem dL_step_12 : decode cL_step 12 = .ok (.goto 7, 3) := by decide +kernel
theorem dL_step_15 : decode cL_step 15 = .ok (.astore 5, 2) := by decide +kernel
theorem dL_step_17 : decode cL_step 17 = .ok (.iconst 1, 1) := by decide +kernel
theorem dL_step_18 : decode cL_step 18 = .ok (.ireturn, 1) := by decide +kernel
theorem dL_step_19 : decode cL_step 19 = .ok (.iconst 0, 1) := by decide +kernel
theorem dL_step_20 : decode cL_step 20 = .ok (.ireturn, 1) := by decide +kernel
theorem dL_inner_0 : decode cL_inner 0 = .ok (.aload_n 2, 1) := by decide +kernel
theorem dL_inner_1 : decode cL_inner 1 = .ok (.iconst 0, 1) := by decide +kernel
theorem dL_inner_2 : decode cL_inner 2 = .ok (.aload_n 0, 1) := by decide +kernel
theorem dL_inner_3 : decode cL_inner 3 = .ok (.iload_n 1, 1) := by decide +kernel
theorem dL_inner_4 : decode cL_inner 4 = .ok (.invokevirtual 56, 3) := by decide +kernel
theorem dL_inner_7 : decode cL_inner 7 = .ok (.i2l, 1) := by decide +kernel
theorem dL_inner_8 : decode cL_inner 8 = .ok (.lastore, 1) := by decide +kernel
theorem dL_inner_9 : decode cL_inner 9 = .ok (.goto 6, 3) := by decide +kernel
theorem dL_inner_12 : decode cL_inner 12 = .ok (.astore_n 3, 1) := by decide +kernel
theorem dL_inner_13 : decode cL_inner 13 = .ok (.iconst 1, 1) := by decide +kernel
theorem dL_inner_14 : decode cL_inner 14 = .ok (.ireturn, 1) := by decide +kernel
theorem dL_inner_15 : decode cL_inner 15 = .ok (.iconst 0, 1) := by decide +kernel
theorem dL_inner_16 : decode cL_inner 16 = .ok (.ireturn, 1) := by decide +kernel
theorem dL_leastWith_0 : decode cL_leastWith 0 = .ok (.aload_n 3, 1) := by decide +kernel
theorem dL_leastWith_1 : decode cL_leastWith 1 = .ok (.iconst 0, 1) := by decide +kernel
theorem dL_leastWith_2 : decode cL_leastWith 2 = .ok (.aload_n 0, 1) := by decide +kernel
theorem dL_leastWith_3 : decode cL_leastWith 3 = .ok (.iload_n 1, 1) := by decide +kernel
theorem dL_leastWith_4 : decode cL_leastWith 4 = .ok (.iload_n 2, 1) := by decide +kernel
theorem dL_leastWith_5 : decode cL_leastWith 5 = .ok (.invokevirtual 59, 3) := by decide +kernel
theorem dL_leastWith_8 : decode cL_leastWith 8 = .ok (.i2l, 1) := by decide +kernel
theorem dL_leastWith_9 : decode cL_leastWith 9 = .ok (.lastore, 1) := by decide +kernel
theorem dL_leastWith_10 : decode cL_leastWith 10 = .ok (.goto 11, 3) := by decide +kernel
theorem dL_leastWith_13 : decode cL_leastWith 13 = .ok (.astore 4, 2) := by decide +kernel
theorem dL_leastWith_15 : decode cL_leastWith 15 = .ok (.iconst 1, 1) := by decide +kernel
theorem dL_leastWith_16 : decode cL_leastWith 16 = .ok (.ireturn, 1) := by decide +kernel
theorem dL_leastWith_17 : decode cL_leastWith 17 = .ok (.astore 4, 2) := by decide +kernel
theorem dL_leastWith_19 : decode cL_leastWith 19 = .ok (.iconst 2, 1) := by decide +kernel
theorem dL_leastWith_20 : decode cL_leastWith 20 = .ok (.ireturn, 1) := by decide +kernel
theorem dL_leastWith_21 : decode cL_leastWith 21 = .ok (.iconst 0, 1) := by decide +kernel
theorem dL_leastWith_22 : decode cL_leastWith 22 = .ok (.ireturn, 1) := by decide +kernel
theorem dL_leastWithout_0 : decode cL_leastWithout 0 = .ok (.aload_n 2, 1) := by decide +kernel
theorem dL_leastWithout_1 : decode cL_leastWithout 1 = .ok (.iconst 0, 1) := by decide +kernel
theorem dL_leastWithout_2 : decode cL_leastWithout 2 = .ok (.aload_n 0, 1) := by decide +kernel
theorem dL_leastWithout_3 : decode cL_leastWithout 3 = .ok (.iload_n 1, 1) := by decide +kernel
theorem dL_leastWithout_4 : decode cL_leastWithout 4 = .ok (.invokevirtual 62, 3) := by decide +kernel
theorem dL_leastWithout_7 : decode cL_leastWithout 7 = .ok (.i2l, 1) := by decide +kernel
theorem dL_leastWithout_8 : decode cL_leastWithout 8 = .ok (.lastore, 1) := by decide +kernel
theorem dL_leastWithout_9 : decode cL_leastWithout 9 = .ok (.goto 6, 3) := by decide +kernel
theorem dL_leastWithout_12 : decode cL_leastWithout 12 = .ok (.astore_n 3, 1) := by decide +kernel
theorem dL_leastWithout_13 : decode cL_leastWithout 13 = .ok (.iconst 1, 1) := by decide +kernel
theorem dL_leastWithout_14 : decode cL_leastWithout 14 = .ok (.ireturn, 1) := by decide +kernel
theorem dL_leastWithout_15 : decode cL_leastWithout 15 = .ok (.iconst 0, 1) := by decide +kernel
theorem dL_leastWithout_16 : decode cL_leastWithout 16 = .ok (.ireturn, 1) := by decide +kernel
theorem dL_append_0 : decode cL_append 0 = .ok (.aload_n 2, 1) := by decide +kernel
theorem dL_append_1 : decode cL_append 1 = .ok (.iconst 0, 1) := by decide +kernel
theorem dL_append_2 : decode cL_append 2 = .ok (.aload_n 0, 1) := by decide +kernel
theorem dL_append_3 : decode cL_append 3 = .ok (.iload_n 1, 1) := by decide +kernel
theorem dL_append_4 : decode cL_append 4 = .ok (.invokevirtual 65, 3) := by decide +kernel
theorem dL_append_7 : decode cL_append 7 = .ok (.i2l, 1) := by decide +kernel
theorem dL_append_8 : decode cL_append 8 = .ok (.lastore, 1) := by decide +kernel
theorem dL_append_9 : decode cL_append 9 = .ok (.goto 9, 3) := by decide +kernel
theorem dL_append_12 : decode cL_append 12 = .ok (.astore_n 3, 1) := by decide +kernel
theorem dL_append_13 : decode cL_append 13 = .ok (.iconst 1, 1) := by decide +kernel
theorem dL_append_14 : decode cL_append 14 = .ok (.ireturn, 1) := by decide +kernel
theorem dL_append_15 : decode cL_append 15 = .ok (.astore_n 3, 1) := by decide +kernel
theorem dL_append_16 : decode cL_append 16 = .ok (.iconst 2, 1) := by decide +kernel
theorem dL_append_17 : decode cL_append 17 = .ok (.ireturn, 1) := by decide +kernel
theorem dL_append_18 : decode cL_append 18 = .ok (.iconst 0, 1) := by decide +kernel
theorem dL_append_19 : decode cL_append 19 = .ok (.ireturn, 1) := by decide +kernel
theorem dL_undo_0 : decode cL_undo 0 = .ok (.aload_n 1, 1) := by decide +kernel
theorem dL_undo_1 : decode cL_undo 1 = .ok (.iconst 0, 1) := by decide +kernel
theorem dL_undo_2 : decode cL_undo 2 = .ok (.aload_n 0, 1) := by decide +kernel
theorem dL_undo_3 : decode cL_undo 3 = .ok (.invokevirtual 68, 3) := by decide +kernel
theorem dL_undo_6 : decode cL_undo 6 = .ok (.i2l, 1) := by decide +kernel
theorem dL_undo_7 : decode cL_undo 7 = .ok (.lastore, 1) := by decide +kernel
theorem dL_undo_8 : decode cL_undo 8 = .ok (.goto 6, 3) := by decide +kernel
theorem dL_undo_11 : decode cL_undo 11 = .ok (.astore_n 2, 1) := by decide +kernel
theorem dL_undo_12 : decode cL_undo 12 = .ok (.iconst 1, 1) := by decide +kernel
theorem dL_undo_13 : decode cL_undo 13 = .ok (.ireturn, 1) := by decide +kernel
theorem dL_undo_14 : decode cL_undo 14 = .ok (.iconst 0, 1) := by decide +kernel
theorem dL_undo_15 : decode cL_undo 15 = .ok (.ireturn, 1) := by decide +kernel
theorem dL_law_0 : decode cL_law 0 = .ok (.new 8, 3) := by decide +kernel
theorem dL_law_3 : decode cL_law 3 = .ok (.dup, 1) := by decide +kernel
theorem dL_law_4 : decode cL_law 4 = .ok (.invokespecial 72, 3) := by decide +kernel
theorem dL_law_7 : decode cL_law 7 = .ok (.astore_n 1, 1) := by decide +kernel
theorem dL_law_8 : decode cL_law 8 = .ok (.new 73, 3) := by decide +kernel
theorem dL_law_11 : decode cL_law 11 = .ok (.dup, 1) := by decide +kernel
theorem dL_law_12 : decode cL_law 12 = .ok (.invokespecial 75, 3) := by decide +kernel
theorem dL_law_15 : decode cL_law 15 = .ok (.astore_n 2, 1) := by decide +kernel
theorem dL_law_16 : decode cL_law 16 = .ok (.iconst 1, 1) := by decide +kernel
theorem dL_law_17 : decode cL_law 17 = .ok (.newarray .long, 2) := by decide +kernel
theorem dL_law_19 : decode cL_law 19 = .ok (.astore_n 3, 1) := by decide +kernel
theorem dL_law_20 : decode cL_law 20 = .ok (.iconst 0, 1) := by decide +kernel
theorem dL_law_21 : decode cL_law 21 = .ok (.istore 4, 2) := by decide +kernel
theorem dL_law_23 : decode cL_law 23 = .ok (.iload 4, 2) := by decide +kernel
theorem dL_law_25 : decode cL_law 25 = .ok (.aload_n 0, 1) := by decide +kernel
theorem dL_law_26 : decode cL_law 26 = .ok (.arraylength, 1) := by decide +kernel
theorem dL_law_27 : decode cL_law 27 = .ok (.iconst 4, 1) := by decide +kernel
theorem dL_law_28 : decode cL_law 28 = .ok (.isub, 1) := by decide +kernel
theorem dL_law_29 : decode cL_law 29 = .ok (.if_icmp .gt 1349, 3) := by decide +kernel
theorem dL_law_32 : decode cL_law 32 = .ok (.aload_n 0, 1) := by decide +kernel
theorem dL_law_33 : decode cL_law 33 = .ok (.iload 4, 2) := by decide +kernel
theorem dL_law_35 : decode cL_law 35 = .ok (.iaload, 1) := by decide +kernel
theorem dL_law_36 : decode cL_law 36 = .ok (.bipush 31, 2) := by decide +kernel
theorem dL_law_38 : decode cL_law 38 = .ok (.iand, 1) := by decide +kernel
theorem dL_law_39 : decode cL_law 39 = .ok (.tableswitch 1333 0 27 #[125, 181, 249, 305, 361, 417, 430, 498, 566, 634, 690, 746, 814, 894, 950, 963, 976, 989, 1057, 1113, 1126, 1139, 1152, 1193, 1249, 1262, 1275, 1319], 125) := by decide +kernel
theorem dL_law_164 : decode cL_law 164 = .ok (.aload_n 1, 1) := by decide +kernel
theorem dL_law_165 : decode cL_law 165 = .ok (.aload_n 0, 1) := by decide +kernel
theorem dL_law_166 : decode cL_law 166 = .ok (.iload 4, 2) := by decide +kernel
theorem dL_law_168 : decode cL_law 168 = .ok (.iconst 1, 1) := by decide +kernel
theorem dL_law_169 : decode cL_law 169 = .ok (.iadd, 1) := by decide +kernel
theorem dL_law_170 : decode cL_law 170 = .ok (.iaload, 1) := by decide +kernel
theorem dL_law_171 : decode cL_law 171 = .ok (.aload_n 3, 1) := by decide +kernel
theorem dL_law_172 : decode cL_law 172 = .ok (.invokestatic 76, 3) := by decide +kernel
theorem dL_law_175 : decode cL_law 175 = .ok (.istore 5, 2) := by decide +kernel
theorem dL_law_177 : decode cL_law 177 = .ok (.aload_n 2, 1) := by decide +kernel
theorem dL_law_178 : decode cL_law 178 = .ok (.aload_n 0, 1) := by decide +kernel
theorem dL_law_179 : decode cL_law 179 = .ok (.iload 4, 2) := by decide +kernel
theorem dL_law_181 : decode cL_law 181 = .ok (.iconst 1, 1) := by decide +kernel
theorem dL_law_182 : decode cL_law 182 = .ok (.iadd, 1) := by decide +kernel
theorem dL_law_183 : decode cL_law 183 = .ok (.iaload, 1) := by decide +kernel
theorem dL_law_184 : decode cL_law 184 = .ok (.invokevirtual 81, 3) := by decide +kernel
theorem dL_law_187 : decode cL_law 187 = .ok (.istore 6, 2) := by decide +kernel
theorem dL_law_189 : decode cL_law 189 = .ok (.aload_n 2, 1) := by decide +kernel
theorem dL_law_190 : decode cL_law 190 = .ok (.invokevirtual 82, 3) := by decide +kernel
theorem dL_law_193 : decode cL_law 193 = .ok (.iload 5, 2) := by decide +kernel
theorem dL_law_195 : decode cL_law 195 = .ok (.if_icmp .eq 5, 3) := by decide +kernel
theorem dL_law_198 : decode cL_law 198 = .ok (.iconst 0, 1) := by decide +kernel
theorem dL_law_199 : decode cL_law 199 = .ok (.ireturn, 1) := by decide +kernel
theorem dL_law_200 : decode cL_law 200 = .ok (.iload 5, 2) := by decide +kernel
theorem dL_law_202 : decode cL_law 202 = .ok (.ifCond .ne 15, 3) := by decide +kernel
theorem dL_law_205 : decode cL_law 205 = .ok (.aload_n 3, 1) := by decide +kernel
theorem dL_law_206 : decode cL_law 206 = .ok (.iconst 0, 1) := by decide +kernel
theorem dL_law_207 : decode cL_law 207 = .ok (.laload, 1) := by decide +kernel
theorem dL_law_208 : decode cL_law 208 = .ok (.iload 6, 2) := by decide +kernel
theorem dL_law_210 : decode cL_law 210 = .ok (.i2l, 1) := by decide +kernel
theorem dL_law_211 : decode cL_law 211 = .ok (.lcmp, 1) := by decide +kernel
theorem dL_law_212 : decode cL_law 212 = .ok (.ifCond .eq 5, 3) := by decide +kernel
theorem dL_law_215 : decode cL_law 215 = .ok (.iconst 0, 1) := by decide +kernel
theorem dL_law_216 : decode cL_law 216 = .ok (.ireturn, 1) := by decide +kernel
theorem dL_law_217 : decode cL_law 217 = .ok (.goto 1155, 3) := by decide +kernel
theorem dL_law_220 : decode cL_law 220 = .ok (.aload_n 1, 1) := by decide +kernel
theorem dL_law_221 : decode cL_law 221 = .ok (.aload_n 0, 1) := by decide +kernel
theorem dL_law_222 : decode cL_law 222 = .ok (.iload 4, 2) := by decide +kernel
theorem dL_law_224 : decode cL_law 224 = .ok (.iconst 1, 1) := by decide +kernel
theorem dL_law_225 : decode cL_law 225 = .ok (.iadd, 1) := by decide +kernel
theorem dL_law_226 : decode cL_law 226 = .ok (.iaload, 1) := by decide +kernel
theorem dL_law_227 : decode cL_law 227 = .ok (.aload_n 0, 1) := by decide +kernel
theorem dL_law_228 : decode cL_law 228 = .ok (.iload 4, 2) := by decide +kernel
theorem dL_law_230 : decode cL_law 230 = .ok (.iconst 2, 1) := by decide +kernel
theorem dL_law_231 : decode cL_law 231 = .ok (.iadd, 1) := by decide +kernel
theorem dL_law_232 : decode cL_law 232 = .ok (.iaload, 1) := by decide +kernel
theorem dL_law_233 : decode cL_law 233 = .ok (.aload_n 3, 1) := by decide +kernel
theorem dL_law_234 : decode cL_law 234 = .ok (.invokestatic 85, 3) := by decide +kernel
theorem dL_law_237 : decode cL_law 237 = .ok (.istore 5, 2) := by decide +kernel
theorem dL_law_239 : decode cL_law 239 = .ok (.aload_n 2, 1) := by decide +kernel
theorem dL_law_240 : decode cL_law 240 = .ok (.aload_n 0, 1) := by decide +kernel
theorem dL_law_241 : decode cL_law 241 = .ok (.iload 4, 2) := by decide +kernel
theorem dL_law_243 : decode cL_law 243 = .ok (.iconst 1, 1) := by decide +kernel
theorem dL_law_244 : decode cL_law 244 = .ok (.iadd, 1) := by decide +kernel
theorem dL_law_245 : decode cL_law 245 = .ok (.iaload, 1) := by decide +kernel
theorem dL_law_246 : decode cL_law 246 = .ok (.aload_n 0, 1) := by decide +kernel
theorem dL_law_247 : decode cL_law 247 = .ok (.iload 4, 2) := by decide +kernel
theorem dL_law_249 : decode cL_law 249 = .ok (.iconst 2, 1) := by decide +kernel
theorem dL_law_250 : decode cL_law 250 = .ok (.iadd, 1) := by decide +kernel
theorem dL_law_251 : decode cL_law 251 = .ok (.iaload, 1) := by decide +kernel
theorem dL_law_252 : decode cL_law 252 = .ok (.invokevirtual 88, 3) := by decide +kernel
theorem dL_law_255 : decode cL_law 255 = .ok (.istore 6, 2) := by decide +kernel
theorem dL_law_257 : decode cL_law 257 = .ok (.aload_n 2, 1) := by decide +kernel
theorem dL_law_258 : decode cL_law 258 = .ok (.invokevirtual 82, 3) := by decide +kernel
theorem dL_law_261 : decode cL_law 261 = .ok (.iload 5, 2) := by decide +kernel
theorem dL_law_263 : decode cL_law 263 = .ok (.if_icmp .eq 5, 3) := by decide +kernel
theorem dL_law_266 : decode cL_law 266 = .ok (.iconst 0, 1) := by decide +kernel
theorem dL_law_267 : decode cL_law 267 = .ok (.ireturn, 1) := by decide +kernel
theorem dL_law_268 : decode cL_law 268 = .ok (.iload 5, 2) := by decide +kernel
theorem dL_law_270 : decode cL_law 270 = .ok (.ifCond .ne 15, 3) := by decide +kernel
theorem dL_law_273 : decode cL_law 273 = .ok (.aload_n 3, 1) := by decide +kernel
theorem dL_law_274 : decode cL_law 274 = .ok (.iconst 0, 1) := by decide +kernel
theorem dL_law_275 : decode cL_law 275 = .ok (.laload, 1) := by decide +kernel
theorem dL_law_276 : decode cL_law 276 = .ok (.iload 6, 2) := by decide +kernel
theorem dL_law_278 : decode cL_law 278 = .ok (.i2l, 1) := by decide +kernel
theorem dL_law_279 : decode cL_law 279 = .ok (.lcmp, 1) := by decide +kernel
theorem dL_law_280 : decode cL_law 280 = .ok (.ifCond .eq 5, 3) := by decide +kernel
theorem dL_law_283 : decode cL_law 283 = .ok (.iconst 0, 1) := by decide +kernel
theorem dL_law_284 : decode cL_law 284 = .ok (.ireturn, 1) := by decide +kernel
theorem dL_law_285 : decode cL_law 285 = .ok (.goto 1087, 3) := by decide +kernel
theorem dL_law_288 : decode cL_law 288 = .ok (.aload_n 1, 1) := by decide +kernel
theorem dL_law_289 : decode cL_law 289 = .ok (.aload_n 0, 1) := by decide +kernel
theorem dL_law_290 : decode cL_law 290 = .ok (.iload 4, 2) := by decide +kernel
theorem dL_law_292 : decode cL_law 292 = .ok (.iconst 1, 1) := by decide +kernel
theorem dL_law_293 : decode cL_law 293 = .ok (.iadd, 1) := by decide +kernel
theorem dL_law_294 : decode cL_law 294 = .ok (.iaload, 1) := by decide +kernel
theorem dL_law_295 : decode cL_law 295 = .ok (.aload_n 3, 1) := by decide +kernel
theorem dL_law_296 : decode cL_law 296 = .ok (.invokestatic 89, 3) := by decide +kernel
theorem dL_law_299 : decode cL_law 299 = .ok (.istore 5, 2) := by decide +kernel
theorem dL_law_301 : decode cL_law 301 = .ok (.aload_n 2, 1) := by decide +kernel
theorem dL_law_302 : decode cL_law 302 = .ok (.aload_n 0, 1) := by decide +kernel
theorem dL_law_303 : decode cL_law 303 = .ok (.iload 4, 2) := by decide +kernel
theorem dL_law_305 : decode cL_law 305 = .ok (.iconst 1, 1) := by decide +kernel
theorem dL_law_306 : decode cL_law 306 = .ok (.iadd, 1) := by decide +kernel
theorem dL_law_307 : decode cL_law 307 = .ok (.iaload, 1) := by decide +kernel
theorem dL_law_308 : decode cL_law 308 = .ok (.invokevirtual 91, 3) := by decide +kernel
theorem dL_law_311 : decode cL_law 311 = .ok (.istore 6, 2) := by decide +kernel
theorem dL_law_313 : decode cL_law 313 = .ok (.aload_n 2, 1) := by decide +kernel
theorem dL_law_314 : decode cL_law 314 = .ok (.invokevirtual 82, 3) := by decide +kernel
theorem dL_law_317 : decode cL_law 317 = .ok (.iload 5, 2) := by decide +kernel
theorem dL_law_319 : decode cL_law 319 = .ok (.if_icmp .eq 5, 3) := by decide +kernel
theorem dL_law_322 : decode cL_law 322 = .ok (.iconst 0, 1) := by decide +kernel
theorem dL_law_323 : decode cL_law 323 = .ok (.ireturn, 1) := by decide +kernel
theorem dL_law_324 : decode cL_law 324 = .ok (.iload 5, 2) := by decide +kernel
theorem dL_law_326 : decode cL_law 326 = .ok (.ifCond .ne 15, 3) := by decide +kernel
theorem dL_law_329 : decode cL_law 329 = .ok (.aload_n 3, 1) := by decide +kernel
theorem dL_law_330 : decode cL_law 330 = .ok (.iconst 0, 1) := by decide +kernel
theorem dL_law_331 : decode cL_law 331 = .ok (.laload, 1) := by decide +kernel
theorem dL_law_332 : decode cL_law 332 = .ok (.iload 6, 2) := by decide +kernel
theorem dL_law_334 : decode cL_law 334 = .ok (.i2l, 1) := by decide +kernel
theorem dL_law_335 : decode cL_law 335 = .ok (.lcmp, 1) := by decide +kernel
theorem dL_law_336 : decode cL_law 336 = .ok (.ifCond .eq 5, 3) := by decide +kernel
theorem dL_law_339 : decode cL_law 339 = .ok (.iconst 0, 1) := by decide +kernel
theorem dL_law_340 : decode cL_law 340 = .ok (.ireturn, 1) := by decide +kernel
theorem dL_law_341 : decode cL_law 341 = .ok (.goto 1031, 3) := by decide +kernel
theorem dL_law_344 : decode cL_law 344 = .ok (.aload_n 1, 1) := by decide +kernel
theorem dL_law_345 : decode cL_law 345 = .ok (.aload_n 0, 1) := by decide +kernel
theorem dL_law_346 : decode cL_law 346 = .ok (.iload 4, 2) := by decide +kernel
theorem dL_law_348 : decode cL_law 348 = .ok (.iconst 1, 1) := by decide +kernel
theorem dL_law_349 : decode cL_law 349 = .ok (.iadd, 1) := by decide +kernel
theorem dL_law_350 : decode cL_law 350 = .ok (.iaload, 1) := by decide +kernel
theorem dL_law_351 : decode cL_law 351 = .ok (.aload_n 3, 1) := by decide +kernel
theorem dL_law_352 : decode cL_law 352 = .ok (.invokestatic 92, 3) := by decide +kernel
theorem dL_law_355 : decode cL_law 355 = .ok (.istore 5, 2) := by decide +kernel
theorem dL_law_357 : decode cL_law 357 = .ok (.aload_n 2, 1) := by decide +kernel
theorem dL_law_358 : decode cL_law 358 = .ok (.aload_n 0, 1) := by decide +kernel
theorem dL_law_359 : decode cL_law 359 = .ok (.iload 4, 2) := by decide +kernel
theorem dL_law_361 : decode cL_law 361 = .ok (.iconst 1, 1) := by decide +kernel
theorem dL_law_362 : decode cL_law 362 = .ok (.iadd, 1) := by decide +kernel
theorem dL_law_363 : decode cL_law 363 = .ok (.iaload, 1) := by decide +kernel
theorem dL_law_364 : decode cL_law 364 = .ok (.invokevirtual 94, 3) := by decide +kernel
theorem dL_law_367 : decode cL_law 367 = .ok (.istore 6, 2) := by decide +kernel
theorem dL_law_369 : decode cL_law 369 = .ok (.aload_n 2, 1) := by decide +kernel
theorem dL_law_370 : decode cL_law 370 = .ok (.invokevirtual 82, 3) := by decide +kernel
theorem dL_law_373 : decode cL_law 373 = .ok (.iload 5, 2) := by decide +kernel
theorem dL_law_375 : decode cL_law 375 = .ok (.if_icmp .eq 5, 3) := by decide +kernel
theorem dL_law_378 : decode cL_law 378 = .ok (.iconst 0, 1) := by decide +kernel
theorem dL_law_379 : decode cL_law 379 = .ok (.ireturn, 1) := by decide +kernel
theorem dL_law_380 : decode cL_law 380 = .ok (.iload 5, 2) := by decide +kernel
theorem dL_law_382 : decode cL_law 382 = .ok (.ifCond .ne 15, 3) := by decide +kernel
theorem dL_law_385 : decode cL_law 385 = .ok (.aload_n 3, 1) := by decide +kernel
theorem dL_law_386 : decode cL_law 386 = .ok (.iconst 0, 1) := by decide +kernel
theorem dL_law_387 : decode cL_law 387 = .ok (.laload, 1) := by decide +kernel
theorem dL_law_388 : decode cL_law 388 = .ok (.iload 6, 2) := by decide +kernel
theorem dL_law_390 : decode cL_law 390 = .ok (.i2l, 1) := by decide +kernel
theorem dL_law_391 : decode cL_law 391 = .ok (.lcmp, 1) := by decide +kernel
theorem dL_law_392 : decode cL_law 392 = .ok (.ifCond .eq 5, 3) := by decide +kernel
theorem dL_law_395 : decode cL_law 395 = .ok (.iconst 0, 1) := by decide +kernel
theorem dL_law_396 : decode cL_law 396 = .ok (.ireturn, 1) := by decide +kernel
theorem dL_law_397 : decode cL_law 397 = .ok (.goto 975, 3) := by decide +kernel
theorem dL_law_400 : decode cL_law 400 = .ok (.aload_n 1, 1) := by decide +kernel
theorem dL_law_401 : decode cL_law 401 = .ok (.aload_n 0, 1) := by decide +kernel
theorem dL_law_402 : decode cL_law 402 = .ok (.iload 4, 2) := by decide +kernel
theorem dL_law_404 : decode cL_law 404 = .ok (.iconst 1, 1) := by decide +kernel
theorem dL_law_405 : decode cL_law 405 = .ok (.iadd, 1) := by decide +kernel
theorem dL_law_406 : decode cL_law 406 = .ok (.iaload, 1) := by decide +kernel
theorem dL_law_407 : decode cL_law 407 = .ok (.aload_n 3, 1) := by decide +kernel
theorem dL_law_408 : decode cL_law 408 = .ok (.invokestatic 95, 3) := by decide +kernel
theorem dL_law_411 : decode cL_law 411 = .ok (.istore 5, 2) := by decide +kernel
theorem dL_law_413 : decode cL_law 413 = .ok (.aload_n 2, 1) := by decide +kernel
theorem dL_law_414 : decode cL_law 414 = .ok (.aload_n 0, 1) := by decide +kernel
theorem dL_law_415 : decode cL_law 415 = .ok (.iload 4, 2) := by decide +kernel
theorem dL_law_417 : decode cL_law 417 = .ok (.iconst 1, 1) := by decide +kernel
theorem dL_law_418 : decode cL_law 418 = .ok (.iadd, 1) := by decide +kernel
theorem dL_law_419 : decode cL_law 419 = .ok (.iaload, 1) := by decide +kernel
theorem dL_law_420 : decode cL_law 420 = .ok (.invokevirtual 97, 3) := by decide +kernel
theorem dL_law_423 : decode cL_law 423 = .ok (.istore 6, 2) := by decide +kernel
theorem dL_law_425 : decode cL_law 425 = .ok (.aload_n 2, 1) := by decide +kernel
theorem dL_law_426 : decode cL_law 426 = .ok (.invokevirtual 82, 3) := by decide +kernel
theorem dL_law_429 : decode cL_law 429 = .ok (.iload 5, 2) := by decide +kernel
theorem dL_law_431 : decode cL_law 431 = .ok (.if_icmp .eq 5, 3) := by decide +kernel
theorem dL_law_434 : decode cL_law 434 = .ok (.iconst 0, 1) := by decide +kernel
theorem dL_law_435 : decode cL_law 435 = .ok (.ireturn, 1) := by decide +kernel
theorem dL_law_436 : decode cL_law 436 = .ok (.iload 5, 2) := by decide +kernel
theorem dL_law_438 : decode cL_law 438 = .ok (.ifCond .ne 15, 3) := by decide +kernel
theorem dL_law_441 : decode cL_law 441 = .ok (.aload_n 3, 1) := by decide +kernel
theorem dL_law_442 : decode cL_law 442 = .ok (.iconst 0, 1) := by decide +kernel
theorem dL_law_443 : decode cL_law 443 = .ok (.laload, 1) := by decide +kernel
theorem dL_law_444 : decode cL_law 444 = .ok (.iload 6, 2) := by decide +kernel
theorem dL_law_446 : decode cL_law 446 = .ok (.i2l, 1) := by decide +kernel
theorem dL_law_447 : decode cL_law 447 = .ok (.lcmp, 1) := by decide +kernel
theorem dL_law_448 : decode cL_law 448 = .ok (.ifCond .eq 5, 3) := by decide +kernel
theorem dL_law_451 : decode cL_law 451 = .ok (.iconst 0, 1) := by decide +kernel
theorem dL_law_452 : decode cL_law 452 = .ok (.ireturn, 1) := by decide +kernel
theorem dL_law_453 : decode cL_law 453 = .ok (.goto 919, 3) := by decide +kernel
theorem dL_law_456 : decode cL_law 456 = .ok (.aload_n 1, 1) := by decide +kernel
theorem dL_law_457 : decode cL_law 457 = .ok (.invokevirtual 98, 3) := by decide +kernel
theorem dL_law_460 : decode cL_law 460 = .ok (.aload_n 2, 1) := by decide +kernel
theorem dL_law_461 : decode cL_law 461 = .ok (.invokevirtual 101, 3) := by decide +kernel
theorem dL_law_464 : decode cL_law 464 = .ok (.if_icmp .eq 908, 3) := by decide +kernel
theorem dL_law_467 : decode cL_law 467 = .ok (.iconst 0, 1) := by decide +kernel
theorem dL_law_468 : decode cL_law 468 = .ok (.ireturn, 1) := by decide +kernel
theorem dL_law_469 : decode cL_law 469 = .ok (.aload_n 1, 1) := by decide +kernel
theorem dL_law_470 : decode cL_law 470 = .ok (.aload_n 0, 1) := by decide +kernel
theorem dL_law_471 : decode cL_law 471 = .ok (.iload 4, 2) := by decide +kernel
theorem dL_law_473 : decode cL_law 473 = .ok (.iconst 1, 1) := by decide +kernel
theorem dL_law_474 : decode cL_law 474 = .ok (.iadd, 1) := by decide +kernel
theorem dL_law_475 : decode cL_law 475 = .ok (.iaload, 1) := by decide +kernel
theorem dL_law_476 : decode cL_law 476 = .ok (.aload_n 0, 1) := by decide +kernel
theorem dL_law_477 : decode cL_law 477 = .ok (.iload 4, 2) := by decide +kernel
theorem dL_law_479 : decode cL_law 479 = .ok (.iconst 2, 1) := by decide +kernel
theorem dL_law_480 : decode cL_law 480 = .ok (.iadd, 1) := by decide +kernel
theorem dL_law_481 : decode cL_law 481 = .ok (.iaload, 1) := by decide +kernel
theorem dL_law_482 : decode cL_law 482 = .ok (.aload_n 3, 1) := by decide +kernel
theorem dL_law_483 : decode cL_law 483 = .ok (.invokestatic 102, 3) := by decide +kernel
theorem dL_law_486 : decode cL_law 486 = .ok (.istore 5, 2) := by decide +kernel
theorem dL_law_488 : decode cL_law 488 = .ok (.aload_n 2, 1) := by decide +kernel
theorem dL_law_489 : decode cL_law 489 = .ok (.aload_n 0, 1) := by decide +kernel
theorem dL_law_490 : decode cL_law 490 = .ok (.iload 4, 2) := by decide +kernel
theorem dL_law_492 : decode cL_law 492 = .ok (.iconst 1, 1) := by decide +kernel
theorem dL_law_493 : decode cL_law 493 = .ok (.iadd, 1) := by decide +kernel
theorem dL_law_494 : decode cL_law 494 = .ok (.iaload, 1) := by decide +kernel
theorem dL_law_495 : decode cL_law 495 = .ok (.aload_n 0, 1) := by decide +kernel
theorem dL_law_496 : decode cL_law 496 = .ok (.iload 4, 2) := by decide +kernel
theorem dL_law_498 : decode cL_law 498 = .ok (.iconst 2, 1) := by decide +kernel
theorem dL_law_499 : decode cL_law 499 = .ok (.iadd, 1) := by decide +kernel
theorem dL_law_500 : decode cL_law 500 = .ok (.iaload, 1) := by decide +kernel
theorem dL_law_501 : decode cL_law 501 = .ok (.invokevirtual 104, 3) := by decide +kernel
theorem dL_law_504 : decode cL_law 504 = .ok (.istore 6, 2) := by decide +kernel
theorem dL_law_506 : decode cL_law 506 = .ok (.aload_n 2, 1) := by decide +kernel
theorem dL_law_507 : decode cL_law 507 = .ok (.invokevirtual 82, 3) := by decide +kernel
theorem dL_law_510 : decode cL_law 510 = .ok (.iload 5, 2) := by decide +kernel
theorem dL_law_512 : decode cL_law 512 = .ok (.if_icmp .eq 5, 3) := by decide +kernel
theorem dL_law_515 : decode cL_law 515 = .ok (.iconst 0, 1) := by decide +kernel
theorem dL_law_516 : decode cL_law 516 = .ok (.ireturn, 1) := by decide +kernel
theorem dL_law_517 : decode cL_law 517 = .ok (.iload 5, 2) := by decide +kernel
theorem dL_law_519 : decode cL_law 519 = .ok (.ifCond .ne 15, 3) := by decide +kernel
theorem dL_law_522 : decode cL_law 522 = .ok (.aload_n 3, 1) := by decide +kernel
theorem dL_law_523 : decode cL_law 523 = .ok (.iconst 0, 1) := by decide +kernel
theorem dL_law_524 : decode cL_law 524 = .ok (.laload, 1) := by decide +kernel
theorem dL_law_525 : decode cL_law 525 = .ok (.iload 6, 2) := by decide +kernel
theorem dL_law_527 : decode cL_law 527 = .ok (.i2l, 1) := by decide +kernel
theorem dL_law_528 : decode cL_law 528 = .ok (.lcmp, 1) := by decide +kernel
theorem dL_law_529 : decode cL_law 529 = .ok (.ifCond .eq 5, 3) := by decide +kernel
theorem dL_law_532 : decode cL_law 532 = .ok (.iconst 0, 1) := by decide +kernel
theorem dL_law_533 : decode cL_law 533 = .ok (.ireturn, 1) := by decide +kernel
theorem dL_law_534 : decode cL_law 534 = .ok (.goto 838, 3) := by decide +kernel
theorem dL_law_537 : decode cL_law 537 = .ok (.aload_n 1, 1) := by decide +kernel
theorem dL_law_538 : decode cL_law 538 = .ok (.aload_n 0, 1) := by decide +kernel
theorem dL_law_539 : decode cL_law 539 = .ok (.iload 4, 2) := by decide +kernel
theorem dL_law_541 : decode cL_law 541 = .ok (.iconst 1, 1) := by decide +kernel
theorem dL_law_542 : decode cL_law 542 = .ok (.iadd, 1) := by decide +kernel
theorem dL_law_543 : decode cL_law 543 = .ok (.iaload, 1) := by decide +kernel
theorem dL_law_544 : decode cL_law 544 = .ok (.aload_n 0, 1) := by decide +kernel
theorem dL_law_545 : decode cL_law 545 = .ok (.iload 4, 2) := by decide +kernel
theorem dL_law_547 : decode cL_law 547 = .ok (.iconst 2, 1) := by decide +kernel
theorem dL_law_548 : decode cL_law 548 = .ok (.iadd, 1) := by decide +kernel
theorem dL_law_549 : decode cL_law 549 = .ok (.iaload, 1) := by decide +kernel
theorem dL_law_550 : decode cL_law 550 = .ok (.aload_n 3, 1) := by decide +kernel
theorem dL_law_551 : decode cL_law 551 = .ok (.invokestatic 105, 3) := by decide +kernel
theorem dL_law_554 : decode cL_law 554 = .ok (.istore 5, 2) := by decide +kernel
theorem dL_law_556 : decode cL_law 556 = .ok (.aload_n 2, 1) := by decide +kernel
theorem dL_law_557 : decode cL_law 557 = .ok (.aload_n 0, 1) := by decide +kernel
theorem dL_law_558 : decode cL_law 558 = .ok (.iload 4, 2) := by decide +kernel
theorem dL_law_560 : decode cL_law 560 = .ok (.iconst 1, 1) := by decide +kernel
theorem dL_law_561 : decode cL_law 561 = .ok (.iadd, 1) := by decide +kernel
theorem dL_law_562 : decode cL_law 562 = .ok (.iaload, 1) := by decide +kernel
theorem dL_law_563 : decode cL_law 563 = .ok (.aload_n 0, 1) := by decide +kernel
theorem dL_law_564 : decode cL_law 564 = .ok (.iload 4, 2) := by decide +kernel
theorem dL_law_566 : decode cL_law 566 = .ok (.iconst 2, 1) := by decide +kernel
theorem dL_law_567 : decode cL_law 567 = .ok (.iadd, 1) := by decide +kernel
theorem dL_law_568 : decode cL_law 568 = .ok (.iaload, 1) := by decide +kernel
theorem dL_law_569 : decode cL_law 569 = .ok (.invokevirtual 107, 3) := by decide +kernel
theorem dL_law_572 : decode cL_law 572 = .ok (.istore 6, 2) := by decide +kernel
theorem dL_law_574 : decode cL_law 574 = .ok (.aload_n 2, 1) := by decide +kernel
theorem dL_law_575 : decode cL_law 575 = .ok (.invokevirtual 82, 3) := by decide +kernel
theorem dL_law_578 : decode cL_law 578 = .ok (.iload 5, 2) := by decide +kernel
theorem dL_law_580 : decode cL_law 580 = .ok (.if_icmp .eq 5, 3) := by decide +kernel
theorem dL_law_583 : decode cL_law 583 = .ok (.iconst 0, 1) := by decide +kernel
theorem dL_law_584 : decode cL_law 584 = .ok (.ireturn, 1) := by decide +kernel
theorem dL_law_585 : decode cL_law 585 = .ok (.iload 5, 2) := by decide +kernel
theorem dL_law_587 : decode cL_law 587 = .ok (.ifCond .ne 15, 3) := by decide +kernel
theorem dL_law_590 : decode cL_law 590 = .ok (.aload_n 3, 1) := by decide +kernel
theorem dL_law_591 : decode cL_law 591 = .ok (.iconst 0, 1) := by decide +kernel
theorem dL_law_592 : decode cL_law 592 = .ok (.laload, 1) := by decide +kernel
theorem dL_law_593 : decode cL_law 593 = .ok (.iload 6, 2) := by decide +kernel
theorem dL_law_595 : decode cL_law 595 = .ok (.i2l, 1) := by decide +kernel
theorem dL_law_596 : decode cL_law 596 = .ok (.lcmp, 1) := by decide +kernel
theorem dL_law_597 : decode cL_law 597 = .ok (.ifCond .eq 5, 3) := by decide +kernel
theorem dL_law_600 : decode cL_law 600 = .ok (.iconst 0, 1) := by decide +kernel
theorem dL_law_601 : decode cL_law 601 = .ok (.ireturn, 1) := by decide +kernel
theorem dL_law_602 : decode cL_law 602 = .ok (.goto 770, 3) := by decide +kernel
theorem dL_law_605 : decode cL_law 605 = .ok (.aload_n 1, 1) := by decide +kernel
theorem dL_law_606 : decode cL_law 606 = .ok (.aload_n 0, 1) := by decide +kernel
theorem dL_law_607 : decode cL_law 607 = .ok (.iload 4, 2) := by decide +kernel
theorem dL_law_609 : decode cL_law 609 = .ok (.iconst 1, 1) := by decide +kernel
theorem dL_law_610 : decode cL_law 610 = .ok (.iadd, 1) := by decide +kernel
theorem dL_law_611 : decode cL_law 611 = .ok (.iaload, 1) := by decide +kernel
theorem dL_law_612 : decode cL_law 612 = .ok (.aload_n 0, 1) := by decide +kernel
theorem dL_law_613 : decode cL_law 613 = .ok (.iload 4, 2) := by decide +kernel
theorem dL_law_615 : decode cL_law 615 = .ok (.iconst 2, 1) := by decide +kernel
theorem dL_law_616 : decode cL_law 616 = .ok (.iadd, 1) := by decide +kernel
theorem dL_law_617 : decode cL_law 617 = .ok (.iaload, 1) := by decide +kernel
theorem dL_law_618 : decode cL_law 618 = .ok (.aload_n 3, 1) := by decide +kernel
theorem dL_law_619 : decode cL_law 619 = .ok (.invokestatic 108, 3) := by decide +kernel
theorem dL_law_622 : decode cL_law 622 = .ok (.istore 5, 2) := by decide +kernel
theorem dL_law_624 : decode cL_law 624 = .ok (.aload_n 2, 1) := by decide +kernel
theorem dL_law_625 : decode cL_law 625 = .ok (.aload_n 0, 1) := by decide +kernel
theorem dL_law_626 : decode cL_law 626 = .ok (.iload 4, 2) := by decide +kernel
theorem dL_law_628 : decode cL_law 628 = .ok (.iconst 1, 1) := by decide +kernel
theorem dL_law_629 : decode cL_law 629 = .ok (.iadd, 1) := by decide +kernel
theorem dL_law_630 : decode cL_law 630 = .ok (.iaload, 1) := by decide +kernel
theorem dL_law_631 : decode cL_law 631 = .ok (.aload_n 0, 1) := by decide +kernel
theorem dL_law_632 : decode cL_law 632 = .ok (.iload 4, 2) := by decide +kernel
theorem dL_law_634 : decode cL_law 634 = .ok (.iconst 2, 1) := by decide +kernel
theorem dL_law_635 : decode cL_law 635 = .ok (.iadd, 1) := by decide +kernel
theorem dL_law_636 : decode cL_law 636 = .ok (.iaload, 1) := by decide +kernel
theorem dL_law_637 : decode cL_law 637 = .ok (.invokevirtual 110, 3) := by decide +kernel
theorem dL_law_640 : decode cL_law 640 = .ok (.istore 6, 2) := by decide +kernel
theorem dL_law_642 : decode cL_law 642 = .ok (.aload_n 2, 1) := by decide +kernel
theorem dL_law_643 : decode cL_law 643 = .ok (.invokevirtual 82, 3) := by decide +kernel
theorem dL_law_646 : decode cL_law 646 = .ok (.iload 5, 2) := by decide +kernel
theorem dL_law_648 : decode cL_law 648 = .ok (.if_icmp .eq 5, 3) := by decide +kernel
theorem dL_law_651 : decode cL_law 651 = .ok (.iconst 0, 1) := by decide +kernel
theorem dL_law_652 : decode cL_law 652 = .ok (.ireturn, 1) := by decide +kernel
theorem dL_law_653 : decode cL_law 653 = .ok (.iload 5, 2) := by decide +kernel
theorem dL_law_655 : decode cL_law 655 = .ok (.ifCond .ne 15, 3) := by decide +kernel
theorem dL_law_658 : decode cL_law 658 = .ok (.aload_n 3, 1) := by decide +kernel
theorem dL_law_659 : decode cL_law 659 = .ok (.iconst 0, 1) := by decide +kernel
theorem dL_law_660 : decode cL_law 660 = .ok (.laload, 1) := by decide +kernel
theorem dL_law_661 : decode cL_law 661 = .ok (.iload 6, 2) := by decide +kernel
theorem dL_law_663 : decode cL_law 663 = .ok (.i2l, 1) := by decide +kernel
theorem dL_law_664 : decode cL_law 664 = .ok (.lcmp, 1) := by decide +kernel
theorem dL_law_665 : decode cL_law 665 = .ok (.ifCond .eq 5, 3) := by decide +kernel
theorem dL_law_668 : decode cL_law 668 = .ok (.iconst 0, 1) := by decide +kernel
theorem dL_law_669 : decode cL_law 669 = .ok (.ireturn, 1) := by decide +kernel
theorem dL_law_670 : decode cL_law 670 = .ok (.goto 702, 3) := by decide +kernel
theorem dL_law_673 : decode cL_law 673 = .ok (.aload_n 1, 1) := by decide +kernel
theorem dL_law_674 : decode cL_law 674 = .ok (.aload_n 0, 1) := by decide +kernel
theorem dL_law_675 : decode cL_law 675 = .ok (.iload 4, 2) := by decide +kernel
theorem dL_law_677 : decode cL_law 677 = .ok (.iconst 1, 1) := by decide +kernel
theorem dL_law_678 : decode cL_law 678 = .ok (.iadd, 1) := by decide +kernel
theorem dL_law_679 : decode cL_law 679 = .ok (.iaload, 1) := by decide +kernel
theorem dL_law_680 : decode cL_law 680 = .ok (.aload_n 3, 1) := by decide +kernel
theorem dL_law_681 : decode cL_law 681 = .ok (.invokestatic 111, 3) := by decide +kernel
theorem dL_law_684 : decode cL_law 684 = .ok (.istore 5, 2) := by decide +kernel
theorem dL_law_686 : decode cL_law 686 = .ok (.aload_n 2, 1) := by decide +kernel
theorem dL_law_687 : decode cL_law 687 = .ok (.aload_n 0, 1) := by decide +kernel
theorem dL_law_688 : decode cL_law 688 = .ok (.iload 4, 2) := by decide +kernel
theorem dL_law_690 : decode cL_law 690 = .ok (.iconst 1, 1) := by decide +kernel
theorem dL_law_691 : decode cL_law 691 = .ok (.iadd, 1) := by decide +kernel
theorem dL_law_692 : decode cL_law 692 = .ok (.iaload, 1) := by decide +kernel
theorem dL_law_693 : decode cL_law 693 = .ok (.invokevirtual 113, 3) := by decide +kernel
theorem dL_law_696 : decode cL_law 696 = .ok (.istore 6, 2) := by decide +kernel
theorem dL_law_698 : decode cL_law 698 = .ok (.aload_n 2, 1) := by decide +kernel
theorem dL_law_699 : decode cL_law 699 = .ok (.invokevirtual 82, 3) := by decide +kernel
theorem dL_law_702 : decode cL_law 702 = .ok (.iload 5, 2) := by decide +kernel
theorem dL_law_704 : decode cL_law 704 = .ok (.if_icmp .eq 5, 3) := by decide +kernel
theorem dL_law_707 : decode cL_law 707 = .ok (.iconst 0, 1) := by decide +kernel
theorem dL_law_708 : decode cL_law 708 = .ok (.ireturn, 1) := by decide +kernel
theorem dL_law_709 : decode cL_law 709 = .ok (.iload 5, 2) := by decide +kernel
theorem dL_law_711 : decode cL_law 711 = .ok (.ifCond .ne 15, 3) := by decide +kernel
theorem dL_law_714 : decode cL_law 714 = .ok (.aload_n 3, 1) := by decide +kernel
theorem dL_law_715 : decode cL_law 715 = .ok (.iconst 0, 1) := by decide +kernel
theorem dL_law_716 : decode cL_law 716 = .ok (.laload, 1) := by decide +kernel
theorem dL_law_717 : decode cL_law 717 = .ok (.iload 6, 2) := by decide +kernel
theorem dL_law_719 : decode cL_law 719 = .ok (.i2l, 1) := by decide +kernel
theorem dL_law_720 : decode cL_law 720 = .ok (.lcmp, 1) := by decide +kernel
theorem dL_law_721 : decode cL_law 721 = .ok (.ifCond .eq 5, 3) := by decide +kernel
theorem dL_law_724 : decode cL_law 724 = .ok (.iconst 0, 1) := by decide +kernel
theorem dL_law_725 : decode cL_law 725 = .ok (.ireturn, 1) := by decide +kernel
theorem dL_law_726 : decode cL_law 726 = .ok (.goto 646, 3) := by decide +kernel
theorem dL_law_729 : decode cL_law 729 = .ok (.aload_n 1, 1) := by decide +kernel
theorem dL_law_730 : decode cL_law 730 = .ok (.aload_n 0, 1) := by decide +kernel
theorem dL_law_731 : decode cL_law 731 = .ok (.iload 4, 2) := by decide +kernel
theorem dL_law_733 : decode cL_law 733 = .ok (.iconst 1, 1) := by decide +kernel
theorem dL_law_734 : decode cL_law 734 = .ok (.iadd, 1) := by decide +kernel
theorem dL_law_735 : decode cL_law 735 = .ok (.iaload, 1) := by decide +kernel
theorem dL_law_736 : decode cL_law 736 = .ok (.aload_n 3, 1) := by decide +kernel
theorem dL_law_737 : decode cL_law 737 = .ok (.invokestatic 114, 3) := by decide +kernel
theorem dL_law_740 : decode cL_law 740 = .ok (.istore 5, 2) := by decide +kernel
theorem dL_law_742 : decode cL_law 742 = .ok (.aload_n 2, 1) := by decide +kernel
theorem dL_law_743 : decode cL_law 743 = .ok (.aload_n 0, 1) := by decide +kernel
theorem dL_law_744 : decode cL_law 744 = .ok (.iload 4, 2) := by decide +kernel
theorem dL_law_746 : decode cL_law 746 = .ok (.iconst 1, 1) := by decide +kernel
theorem dL_law_747 : decode cL_law 747 = .ok (.iadd, 1) := by decide +kernel
theorem dL_law_748 : decode cL_law 748 = .ok (.iaload, 1) := by decide +kernel
theorem dL_law_749 : decode cL_law 749 = .ok (.invokevirtual 116, 3) := by decide +kernel
theorem dL_law_752 : decode cL_law 752 = .ok (.istore 6, 2) := by decide +kernel
theorem dL_law_754 : decode cL_law 754 = .ok (.aload_n 2, 1) := by decide +kernel
theorem dL_law_755 : decode cL_law 755 = .ok (.invokevirtual 82, 3) := by decide +kernel
theorem dL_law_758 : decode cL_law 758 = .ok (.iload 5, 2) := by decide +kernel
theorem dL_law_760 : decode cL_law 760 = .ok (.if_icmp .eq 5, 3) := by decide +kernel
theorem dL_law_763 : decode cL_law 763 = .ok (.iconst 0, 1) := by decide +kernel
theorem dL_law_764 : decode cL_law 764 = .ok (.ireturn, 1) := by decide +kernel
theorem dL_law_765 : decode cL_law 765 = .ok (.iload 5, 2) := by decide +kernel
theorem dL_law_767 : decode cL_law 767 = .ok (.ifCond .ne 15, 3) := by decide +kernel
theorem dL_law_770 : decode cL_law 770 = .ok (.aload_n 3, 1) := by decide +kernel
theorem dL_law_771 : decode cL_law 771 = .ok (.iconst 0, 1) := by decide +kernel
theorem dL_law_772 : decode cL_law 772 = .ok (.laload, 1) := by decide +kernel
theorem dL_law_773 : decode cL_law 773 = .ok (.iload 6, 2) := by decide +kernel
theorem dL_law_775 : decode cL_law 775 = .ok (.i2l, 1) := by decide +kernel
theorem dL_law_776 : decode cL_law 776 = .ok (.lcmp, 1) := by decide +kernel
theorem dL_law_777 : decode cL_law 777 = .ok (.ifCond .eq 5, 3) := by decide +kernel
theorem dL_law_780 : decode cL_law 780 = .ok (.iconst 0, 1) := by decide +kernel
theorem dL_law_781 : decode cL_law 781 = .ok (.ireturn, 1) := by decide +kernel
theorem dL_law_782 : decode cL_law 782 = .ok (.goto 590, 3) := by decide +kernel
theorem dL_law_785 : decode cL_law 785 = .ok (.aload_n 1, 1) := by decide +kernel
theorem dL_law_786 : decode cL_law 786 = .ok (.aload_n 0, 1) := by decide +kernel
theorem dL_law_787 : decode cL_law 787 = .ok (.iload 4, 2) := by decide +kernel
theorem dL_law_789 : decode cL_law 789 = .ok (.iconst 1, 1) := by decide +kernel
theorem dL_law_790 : decode cL_law 790 = .ok (.iadd, 1) := by decide +kernel
theorem dL_law_791 : decode cL_law 791 = .ok (.iaload, 1) := by decide +kernel
theorem dL_law_792 : decode cL_law 792 = .ok (.aload_n 0, 1) := by decide +kernel
theorem dL_law_793 : decode cL_law 793 = .ok (.iload 4, 2) := by decide +kernel
theorem dL_law_795 : decode cL_law 795 = .ok (.iconst 2, 1) := by decide +kernel
theorem dL_law_796 : decode cL_law 796 = .ok (.iadd, 1) := by decide +kernel
theorem dL_law_797 : decode cL_law 797 = .ok (.iaload, 1) := by decide +kernel
theorem dL_law_798 : decode cL_law 798 = .ok (.aload_n 3, 1) := by decide +kernel
theorem dL_law_799 : decode cL_law 799 = .ok (.invokestatic 117, 3) := by decide +kernel
theorem dL_law_802 : decode cL_law 802 = .ok (.istore 5, 2) := by decide +kernel
theorem dL_law_804 : decode cL_law 804 = .ok (.aload_n 2, 1) := by decide +kernel
theorem dL_law_805 : decode cL_law 805 = .ok (.aload_n 0, 1) := by decide +kernel
theorem dL_law_806 : decode cL_law 806 = .ok (.iload 4, 2) := by decide +kernel
theorem dL_law_808 : decode cL_law 808 = .ok (.iconst 1, 1) := by decide +kernel
theorem dL_law_809 : decode cL_law 809 = .ok (.iadd, 1) := by decide +kernel
theorem dL_law_810 : decode cL_law 810 = .ok (.iaload, 1) := by decide +kernel
theorem dL_law_811 : decode cL_law 811 = .ok (.aload_n 0, 1) := by decide +kernel
theorem dL_law_812 : decode cL_law 812 = .ok (.iload 4, 2) := by decide +kernel
theorem dL_law_814 : decode cL_law 814 = .ok (.iconst 2, 1) := by decide +kernel
theorem dL_law_815 : decode cL_law 815 = .ok (.iadd, 1) := by decide +kernel
theorem dL_law_816 : decode cL_law 816 = .ok (.iaload, 1) := by decide +kernel
theorem dL_law_817 : decode cL_law 817 = .ok (.invokevirtual 119, 3) := by decide +kernel
theorem dL_law_820 : decode cL_law 820 = .ok (.istore 6, 2) := by decide +kernel
theorem dL_law_822 : decode cL_law 822 = .ok (.aload_n 2, 1) := by decide +kernel
theorem dL_law_823 : decode cL_law 823 = .ok (.invokevirtual 82, 3) := by decide +kernel
theorem dL_law_826 : decode cL_law 826 = .ok (.iload 5, 2) := by decide +kernel
theorem dL_law_828 : decode cL_law 828 = .ok (.if_icmp .eq 5, 3) := by decide +kernel
theorem dL_law_831 : decode cL_law 831 = .ok (.iconst 0, 1) := by decide +kernel
theorem dL_law_832 : decode cL_law 832 = .ok (.ireturn, 1) := by decide +kernel
theorem dL_law_833 : decode cL_law 833 = .ok (.iload 5, 2) := by decide +kernel
theorem dL_law_835 : decode cL_law 835 = .ok (.ifCond .ne 15, 3) := by decide +kernel
theorem dL_law_838 : decode cL_law 838 = .ok (.aload_n 3, 1) := by decide +kernel
theorem dL_law_839 : decode cL_law 839 = .ok (.iconst 0, 1) := by decide +kernel
theorem dL_law_840 : decode cL_law 840 = .ok (.laload, 1) := by decide +kernel
theorem dL_law_841 : decode cL_law 841 = .ok (.iload 6, 2) := by decide +kernel
theorem dL_law_843 : decode cL_law 843 = .ok (.i2l, 1) := by decide +kernel
theorem dL_law_844 : decode cL_law 844 = .ok (.lcmp, 1) := by decide +kernel
theorem dL_law_845 : decode cL_law 845 = .ok (.ifCond .eq 5, 3) := by decide +kernel
theorem dL_law_848 : decode cL_law 848 = .ok (.iconst 0, 1) := by decide +kernel
theorem dL_law_849 : decode cL_law 849 = .ok (.ireturn, 1) := by decide +kernel
theorem dL_law_850 : decode cL_law 850 = .ok (.goto 522, 3) := by decide +kernel
theorem dL_law_853 : decode cL_law 853 = .ok (.aload_n 1, 1) := by decide +kernel
theorem dL_law_854 : decode cL_law 854 = .ok (.aload_n 0, 1) := by decide +kernel
theorem dL_law_855 : decode cL_law 855 = .ok (.iload 4, 2) := by decide +kernel
theorem dL_law_857 : decode cL_law 857 = .ok (.iconst 1, 1) := by decide +kernel
theorem dL_law_858 : decode cL_law 858 = .ok (.iadd, 1) := by decide +kernel
theorem dL_law_859 : decode cL_law 859 = .ok (.iaload, 1) := by decide +kernel
theorem dL_law_860 : decode cL_law 860 = .ok (.aload_n 0, 1) := by decide +kernel
theorem dL_law_861 : decode cL_law 861 = .ok (.iload 4, 2) := by decide +kernel
theorem dL_law_863 : decode cL_law 863 = .ok (.iconst 2, 1) := by decide +kernel
theorem dL_law_864 : decode cL_law 864 = .ok (.iadd, 1) := by decide +kernel
theorem dL_law_865 : decode cL_law 865 = .ok (.iaload, 1) := by decide +kernel
theorem dL_law_866 : decode cL_law 866 = .ok (.aload_n 0, 1) := by decide +kernel
theorem dL_law_867 : decode cL_law 867 = .ok (.iload 4, 2) := by decide +kernel
theorem dL_law_869 : decode cL_law 869 = .ok (.iconst 3, 1) := by decide +kernel
theorem dL_law_870 : decode cL_law 870 = .ok (.iadd, 1) := by decide +kernel
theorem dL_law_871 : decode cL_law 871 = .ok (.iaload, 1) := by decide +kernel
theorem dL_law_872 : decode cL_law 872 = .ok (.aload_n 3, 1) := by decide +kernel
theorem dL_law_873 : decode cL_law 873 = .ok (.invokestatic 120, 3) := by decide +kernel
theorem dL_law_876 : decode cL_law 876 = .ok (.istore 5, 2) := by decide +kernel
theorem dL_law_878 : decode cL_law 878 = .ok (.aload_n 2, 1) := by decide +kernel
theorem dL_law_879 : decode cL_law 879 = .ok (.aload_n 0, 1) := by decide +kernel
theorem dL_law_880 : decode cL_law 880 = .ok (.iload 4, 2) := by decide +kernel
theorem dL_law_882 : decode cL_law 882 = .ok (.iconst 1, 1) := by decide +kernel
theorem dL_law_883 : decode cL_law 883 = .ok (.iadd, 1) := by decide +kernel
theorem dL_law_884 : decode cL_law 884 = .ok (.iaload, 1) := by decide +kernel
theorem dL_law_885 : decode cL_law 885 = .ok (.aload_n 0, 1) := by decide +kernel
theorem dL_law_886 : decode cL_law 886 = .ok (.iload 4, 2) := by decide +kernel
theorem dL_law_888 : decode cL_law 888 = .ok (.iconst 2, 1) := by decide +kernel
theorem dL_law_889 : decode cL_law 889 = .ok (.iadd, 1) := by decide +kernel
theorem dL_law_890 : decode cL_law 890 = .ok (.iaload, 1) := by decide +kernel
theorem dL_law_891 : decode cL_law 891 = .ok (.aload_n 0, 1) := by decide +kernel
theorem dL_law_892 : decode cL_law 892 = .ok (.iload 4, 2) := by decide +kernel
theorem dL_law_894 : decode cL_law 894 = .ok (.iconst 3, 1) := by decide +kernel
theorem dL_law_895 : decode cL_law 895 = .ok (.iadd, 1) := by decide +kernel
theorem dL_law_896 : decode cL_law 896 = .ok (.iaload, 1) := by decide +kernel
theorem dL_law_897 : decode cL_law 897 = .ok (.invokevirtual 123, 3) := by decide +kernel
theorem dL_law_900 : decode cL_law 900 = .ok (.istore 6, 2) := by decide +kernel
theorem dL_law_902 : decode cL_law 902 = .ok (.aload_n 2, 1) := by decide +kernel
theorem dL_law_903 : decode cL_law 903 = .ok (.invokevirtual 82, 3) := by decide +kernel
theorem dL_law_906 : decode cL_law 906 = .ok (.iload 5, 2) := by decide +kernel
theorem dL_law_908 : decode cL_law 908 = .ok (.if_icmp .eq 5, 3) := by decide +kernel
theorem dL_law_911 : decode cL_law 911 = .ok (.iconst 0, 1) := by decide +kernel
theorem dL_law_912 : decode cL_law 912 = .ok (.ireturn, 1) := by decide +kernel
theorem dL_law_913 : decode cL_law 913 = .ok (.iload 5, 2) := by decide +kernel
theorem dL_law_915 : decode cL_law 915 = .ok (.ifCond .ne 15, 3) := by decide +kernel
theorem dL_law_918 : decode cL_law 918 = .ok (.aload_n 3, 1) := by decide +kernel
theorem dL_law_919 : decode cL_law 919 = .ok (.iconst 0, 1) := by decide +kernel
theorem dL_law_920 : decode cL_law 920 = .ok (.laload, 1) := by decide +kernel
theorem dL_law_921 : decode cL_law 921 = .ok (.iload 6, 2) := by decide +kernel
theorem dL_law_923 : decode cL_law 923 = .ok (.i2l, 1) := by decide +kernel
theorem dL_law_924 : decode cL_law 924 = .ok (.lcmp, 1) := by decide +kernel
theorem dL_law_925 : decode cL_law 925 = .ok (.ifCond .eq 5, 3) := by decide +kernel
theorem dL_law_928 : decode cL_law 928 = .ok (.iconst 0, 1) := by decide +kernel
theorem dL_law_929 : decode cL_law 929 = .ok (.ireturn, 1) := by decide +kernel
theorem dL_law_930 : decode cL_law 930 = .ok (.goto 442, 3) := by decide +kernel
theorem dL_law_933 : decode cL_law 933 = .ok (.aload_n 1, 1) := by decide +kernel
theorem dL_law_934 : decode cL_law 934 = .ok (.aload_n 0, 1) := by decide +kernel
theorem dL_law_935 : decode cL_law 935 = .ok (.iload 4, 2) := by decide +kernel
theorem dL_law_937 : decode cL_law 937 = .ok (.iconst 1, 1) := by decide +kernel
theorem dL_law_938 : decode cL_law 938 = .ok (.iadd, 1) := by decide +kernel
theorem dL_law_939 : decode cL_law 939 = .ok (.iaload, 1) := by decide +kernel
theorem dL_law_940 : decode cL_law 940 = .ok (.aload_n 3, 1) := by decide +kernel
theorem dL_law_941 : decode cL_law 941 = .ok (.invokestatic 124, 3) := by decide +kernel
theorem dL_law_944 : decode cL_law 944 = .ok (.istore 5, 2) := by decide +kernel
theorem dL_law_946 : decode cL_law 946 = .ok (.aload_n 2, 1) := by decide +kernel
theorem dL_law_947 : decode cL_law 947 = .ok (.aload_n 0, 1) := by decide +kernel
theorem dL_law_948 : decode cL_law 948 = .ok (.iload 4, 2) := by decide +kernel
theorem dL_law_950 : decode cL_law 950 = .ok (.iconst 1, 1) := by decide +kernel
theorem dL_law_951 : decode cL_law 951 = .ok (.iadd, 1) := by decide +kernel
theorem dL_law_952 : decode cL_law 952 = .ok (.iaload, 1) := by decide +kernel
theorem dL_law_953 : decode cL_law 953 = .ok (.invokevirtual 126, 3) := by decide +kernel
theorem dL_law_956 : decode cL_law 956 = .ok (.istore 6, 2) := by decide +kernel
theorem dL_law_958 : decode cL_law 958 = .ok (.aload_n 2, 1) := by decide +kernel
theorem dL_law_959 : decode cL_law 959 = .ok (.invokevirtual 82, 3) := by decide +kernel
theorem dL_law_962 : decode cL_law 962 = .ok (.iload 5, 2) := by decide +kernel
theorem dL_law_964 : decode cL_law 964 = .ok (.if_icmp .eq 5, 3) := by decide +kernel
theorem dL_law_967 : decode cL_law 967 = .ok (.iconst 0, 1) := by decide +kernel
theorem dL_law_968 : decode cL_law 968 = .ok (.ireturn, 1) := by decide +kernel
theorem dL_law_969 : decode cL_law 969 = .ok (.iload 5, 2) := by decide +kernel
theorem dL_law_971 : decode cL_law 971 = .ok (.ifCond .ne 15, 3) := by decide +kernel
theorem dL_law_974 : decode cL_law 974 = .ok (.aload_n 3, 1) := by decide +kernel
theorem dL_law_975 : decode cL_law 975 = .ok (.iconst 0, 1) := by decide +kernel
theorem dL_law_976 : decode cL_law 976 = .ok (.laload, 1) := by decide +kernel
theorem dL_law_977 : decode cL_law 977 = .ok (.iload 6, 2) := by decide +kernel
theorem dL_law_979 : decode cL_law 979 = .ok (.i2l, 1) := by decide +kernel
theorem dL_law_980 : decode cL_law 980 = .ok (.lcmp, 1) := by decide +kernel
theorem dL_law_981 : decode cL_law 981 = .ok (.ifCond .eq 5, 3) := by decide +kernel
theorem dL_law_984 : decode cL_law 984 = .ok (.iconst 0, 1) := by decide +kernel
theorem dL_law_985 : decode cL_law 985 = .ok (.ireturn, 1) := by decide +kernel
theorem dL_law_986 : decode cL_law 986 = .ok (.goto 386, 3) := by decide +kernel
theorem dL_law_989 : decode cL_law 989 = .ok (.aload_n 1, 1) := by decide +kernel
theorem dL_law_990 : decode cL_law 990 = .ok (.invokevirtual 127, 3) := by decide +kernel
theorem dL_law_993 : decode cL_law 993 = .ok (.aload_n 2, 1) := by decide +kernel
theorem dL_law_994 : decode cL_law 994 = .ok (.invokevirtual 130, 3) := by decide +kernel
theorem dL_law_997 : decode cL_law 997 = .ok (.if_icmp .eq 375, 3) := by decide +kernel
theorem dL_law_1000 : decode cL_law 1000 = .ok (.iconst 0, 1) := by decide +kernel
theorem dL_law_1001 : decode cL_law 1001 = .ok (.ireturn, 1) := by decide +kernel
theorem dL_law_1002 : decode cL_law 1002 = .ok (.aload_n 1, 1) := by decide +kernel
theorem dL_law_1003 : decode cL_law 1003 = .ok (.invokevirtual 131, 3) := by decide +kernel
theorem dL_law_1006 : decode cL_law 1006 = .ok (.aload_n 2, 1) := by decide +kernel
theorem dL_law_1007 : decode cL_law 1007 = .ok (.invokevirtual 134, 3) := by decide +kernel
theorem dL_law_1010 : decode cL_law 1010 = .ok (.if_icmp .eq 362, 3) := by decide +kernel
theorem dL_law_1013 : decode cL_law 1013 = .ok (.iconst 0, 1) := by decide +kernel
theorem dL_law_1014 : decode cL_law 1014 = .ok (.ireturn, 1) := by decide +kernel
theorem dL_law_1015 : decode cL_law 1015 = .ok (.aload_n 1, 1) := by decide +kernel
theorem dL_law_1016 : decode cL_law 1016 = .ok (.invokevirtual 135, 3) := by decide +kernel
theorem dL_law_1019 : decode cL_law 1019 = .ok (.aload_n 2, 1) := by decide +kernel
theorem dL_law_1020 : decode cL_law 1020 = .ok (.invokevirtual 138, 3) := by decide +kernel
theorem dL_law_1023 : decode cL_law 1023 = .ok (.if_icmp .eq 349, 3) := by decide +kernel
theorem dL_law_1026 : decode cL_law 1026 = .ok (.iconst 0, 1) := by decide +kernel
theorem dL_law_1027 : decode cL_law 1027 = .ok (.ireturn, 1) := by decide +kernel
theorem dL_law_1028 : decode cL_law 1028 = .ok (.aload_n 1, 1) := by decide +kernel
theorem dL_law_1029 : decode cL_law 1029 = .ok (.aload_n 0, 1) := by decide +kernel
theorem dL_law_1030 : decode cL_law 1030 = .ok (.iload 4, 2) := by decide +kernel
theorem dL_law_1032 : decode cL_law 1032 = .ok (.iconst 1, 1) := by decide +kernel
theorem dL_law_1033 : decode cL_law 1033 = .ok (.iadd, 1) := by decide +kernel
theorem dL_law_1034 : decode cL_law 1034 = .ok (.iaload, 1) := by decide +kernel
theorem dL_law_1035 : decode cL_law 1035 = .ok (.aload_n 0, 1) := by decide +kernel
theorem dL_law_1036 : decode cL_law 1036 = .ok (.iload 4, 2) := by decide +kernel
theorem dL_law_1038 : decode cL_law 1038 = .ok (.iconst 2, 1) := by decide +kernel
theorem dL_law_1039 : decode cL_law 1039 = .ok (.iadd, 1) := by decide +kernel
theorem dL_law_1040 : decode cL_law 1040 = .ok (.iaload, 1) := by decide +kernel
theorem dL_law_1041 : decode cL_law 1041 = .ok (.aload_n 3, 1) := by decide +kernel
theorem dL_law_1042 : decode cL_law 1042 = .ok (.invokestatic 139, 3) := by decide +kernel
theorem dL_law_1045 : decode cL_law 1045 = .ok (.istore 5, 2) := by decide +kernel
theorem dL_law_1047 : decode cL_law 1047 = .ok (.aload_n 2, 1) := by decide +kernel
theorem dL_law_1048 : decode cL_law 1048 = .ok (.aload_n 0, 1) := by decide +kernel
theorem dL_law_1049 : decode cL_law 1049 = .ok (.iload 4, 2) := by decide +kernel
theorem dL_law_1051 : decode cL_law 1051 = .ok (.iconst 1, 1) := by decide +kernel
theorem dL_law_1052 : decode cL_law 1052 = .ok (.iadd, 1) := by decide +kernel
theorem dL_law_1053 : decode cL_law 1053 = .ok (.iaload, 1) := by decide +kernel
theorem dL_law_1054 : decode cL_law 1054 = .ok (.aload_n 0, 1) := by decide +kernel
theorem dL_law_1055 : decode cL_law 1055 = .ok (.iload 4, 2) := by decide +kernel
theorem dL_law_1057 : decode cL_law 1057 = .ok (.iconst 2, 1) := by decide +kernel
theorem dL_law_1058 : decode cL_law 1058 = .ok (.iadd, 1) := by decide +kernel
theorem dL_law_1059 : decode cL_law 1059 = .ok (.iaload, 1) := by decide +kernel
theorem dL_law_1060 : decode cL_law 1060 = .ok (.invokevirtual 141, 3) := by decide +kernel
theorem dL_law_1063 : decode cL_law 1063 = .ok (.istore 6, 2) := by decide +kernel
theorem dL_law_1065 : decode cL_law 1065 = .ok (.aload_n 2, 1) := by decide +kernel
theorem dL_law_1066 : decode cL_law 1066 = .ok (.invokevirtual 82, 3) := by decide +kernel
theorem dL_law_1069 : decode cL_law 1069 = .ok (.iload 5, 2) := by decide +kernel
theorem dL_law_1071 : decode cL_law 1071 = .ok (.if_icmp .eq 5, 3) := by decide +kernel
theorem dL_law_1074 : decode cL_law 1074 = .ok (.iconst 0, 1) := by decide +kernel
theorem dL_law_1075 : decode cL_law 1075 = .ok (.ireturn, 1) := by decide +kernel
theorem dL_law_1076 : decode cL_law 1076 = .ok (.iload 5, 2) := by decide +kernel
theorem dL_law_1078 : decode cL_law 1078 = .ok (.ifCond .ne 15, 3) := by decide +kernel
theorem dL_law_1081 : decode cL_law 1081 = .ok (.aload_n 3, 1) := by decide +kernel
theorem dL_law_1082 : decode cL_law 1082 = .ok (.iconst 0, 1) := by decide +kernel
theorem dL_law_1083 : decode cL_law 1083 = .ok (.laload, 1) := by decide +kernel
theorem dL_law_1084 : decode cL_law 1084 = .ok (.iload 6, 2) := by decide +kernel
theorem dL_law_1086 : decode cL_law 1086 = .ok (.i2l, 1) := by decide +kernel
theorem dL_law_1087 : decode cL_law 1087 = .ok (.lcmp, 1) := by decide +kernel
theorem dL_law_1088 : decode cL_law 1088 = .ok (.ifCond .eq 5, 3) := by decide +kernel
theorem dL_law_1091 : decode cL_law 1091 = .ok (.iconst 0, 1) := by decide +kernel
theorem dL_law_1092 : decode cL_law 1092 = .ok (.ireturn, 1) := by decide +kernel
theorem dL_law_1093 : decode cL_law 1093 = .ok (.goto 279, 3) := by decide +kernel
theorem dL_law_1096 : decode cL_law 1096 = .ok (.aload_n 1, 1) := by decide +kernel
theorem dL_law_1097 : decode cL_law 1097 = .ok (.aload_n 0, 1) := by decide +kernel
theorem dL_law_1098 : decode cL_law 1098 = .ok (.iload 4, 2) := by decide +kernel
theorem dL_law_1100 : decode cL_law 1100 = .ok (.iconst 1, 1) := by decide +kernel
theorem dL_law_1101 : decode cL_law 1101 = .ok (.iadd, 1) := by decide +kernel
theorem dL_law_1102 : decode cL_law 1102 = .ok (.iaload, 1) := by decide +kernel
theorem dL_law_1103 : decode cL_law 1103 = .ok (.aload_n 3, 1) := by decide +kernel
theorem dL_law_1104 : decode cL_law 1104 = .ok (.invokestatic 142, 3) := by decide +kernel
theorem dL_law_1107 : decode cL_law 1107 = .ok (.istore 5, 2) := by decide +kernel
theorem dL_law_1109 : decode cL_law 1109 = .ok (.aload_n 2, 1) := by decide +kernel
theorem dL_law_1110 : decode cL_law 1110 = .ok (.aload_n 0, 1) := by decide +kernel
theorem dL_law_1111 : decode cL_law 1111 = .ok (.iload 4, 2) := by decide +kernel
theorem dL_law_1113 : decode cL_law 1113 = .ok (.iconst 1, 1) := by decide +kernel
theorem dL_law_1114 : decode cL_law 1114 = .ok (.iadd, 1) := by decide +kernel
theorem dL_law_1115 : decode cL_law 1115 = .ok (.iaload, 1) := by decide +kernel
theorem dL_law_1116 : decode cL_law 1116 = .ok (.invokevirtual 144, 3) := by decide +kernel
theorem dL_law_1119 : decode cL_law 1119 = .ok (.istore 6, 2) := by decide +kernel
theorem dL_law_1121 : decode cL_law 1121 = .ok (.aload_n 2, 1) := by decide +kernel
theorem dL_law_1122 : decode cL_law 1122 = .ok (.invokevirtual 82, 3) := by decide +kernel
theorem dL_law_1125 : decode cL_law 1125 = .ok (.iload 5, 2) := by decide +kernel
theorem dL_law_1127 : decode cL_law 1127 = .ok (.if_icmp .eq 5, 3) := by decide +kernel
theorem dL_law_1130 : decode cL_law 1130 = .ok (.iconst 0, 1) := by decide +kernel
theorem dL_law_1131 : decode cL_law 1131 = .ok (.ireturn, 1) := by decide +kernel
theorem dL_law_1132 : decode cL_law 1132 = .ok (.iload 5, 2) := by decide +kernel
theorem dL_law_1134 : decode cL_law 1134 = .ok (.ifCond .ne 15, 3) := by decide +kernel
theorem dL_law_1137 : decode cL_law 1137 = .ok (.aload_n 3, 1) := by decide +kernel
theorem dL_law_1138 : decode cL_law 1138 = .ok (.iconst 0, 1) := by decide +kernel
theorem dL_law_1139 : decode cL_law 1139 = .ok (.laload, 1) := by decide +kernel
theorem dL_law_1140 : decode cL_law 1140 = .ok (.iload 6, 2) := by decide +kernel
theorem dL_law_1142 : decode cL_law 1142 = .ok (.i2l, 1) := by decide +kernel
theorem dL_law_1143 : decode cL_law 1143 = .ok (.lcmp, 1) := by decide +kernel
theorem dL_law_1144 : decode cL_law 1144 = .ok (.ifCond .eq 5, 3) := by decide +kernel
theorem dL_law_1147 : decode cL_law 1147 = .ok (.iconst 0, 1) := by decide +kernel
theorem dL_law_1148 : decode cL_law 1148 = .ok (.ireturn, 1) := by decide +kernel
theorem dL_law_1149 : decode cL_law 1149 = .ok (.goto 223, 3) := by decide +kernel
theorem dL_law_1152 : decode cL_law 1152 = .ok (.aload_n 1, 1) := by decide +kernel
theorem dL_law_1153 : decode cL_law 1153 = .ok (.invokevirtual 145, 3) := by decide +kernel
theorem dL_law_1156 : decode cL_law 1156 = .ok (.aload_n 2, 1) := by decide +kernel
theorem dL_law_1157 : decode cL_law 1157 = .ok (.invokevirtual 148, 3) := by decide +kernel
theorem dL_law_1160 : decode cL_law 1160 = .ok (.if_icmp .eq 212, 3) := by decide +kernel
theorem dL_law_1163 : decode cL_law 1163 = .ok (.iconst 0, 1) := by decide +kernel
theorem dL_law_1164 : decode cL_law 1164 = .ok (.ireturn, 1) := by decide +kernel
theorem dL_law_1165 : decode cL_law 1165 = .ok (.aload_n 1, 1) := by decide +kernel
theorem dL_law_1166 : decode cL_law 1166 = .ok (.invokevirtual 149, 3) := by decide +kernel
theorem dL_law_1169 : decode cL_law 1169 = .ok (.aload_n 2, 1) := by decide +kernel
theorem dL_law_1170 : decode cL_law 1170 = .ok (.invokevirtual 152, 3) := by decide +kernel
theorem dL_law_1173 : decode cL_law 1173 = .ok (.if_icmp .eq 199, 3) := by decide +kernel
theorem dL_law_1176 : decode cL_law 1176 = .ok (.iconst 0, 1) := by decide +kernel
theorem dL_law_1177 : decode cL_law 1177 = .ok (.ireturn, 1) := by decide +kernel
theorem dL_law_1178 : decode cL_law 1178 = .ok (.aload_n 1, 1) := by decide +kernel
theorem dL_law_1179 : decode cL_law 1179 = .ok (.invokevirtual 153, 3) := by decide +kernel
theorem dL_law_1182 : decode cL_law 1182 = .ok (.aload_n 2, 1) := by decide +kernel
theorem dL_law_1183 : decode cL_law 1183 = .ok (.invokevirtual 156, 3) := by decide +kernel
theorem dL_law_1186 : decode cL_law 1186 = .ok (.if_icmp .eq 186, 3) := by decide +kernel
theorem dL_law_1189 : decode cL_law 1189 = .ok (.iconst 0, 1) := by decide +kernel
theorem dL_law_1190 : decode cL_law 1190 = .ok (.ireturn, 1) := by decide +kernel
theorem dL_law_1191 : decode cL_law 1191 = .ok (.aload_n 1, 1) := by decide +kernel
theorem dL_law_1192 : decode cL_law 1192 = .ok (.invokevirtual 157, 3) := by decide +kernel
theorem dL_law_1195 : decode cL_law 1195 = .ok (.dstore 5, 2) := by decide +kernel
theorem dL_law_1197 : decode cL_law 1197 = .ok (.aload_n 2, 1) := by decide +kernel
theorem dL_law_1198 : decode cL_law 1198 = .ok (.invokevirtual 161, 3) := by decide +kernel
theorem dL_law_1201 : decode cL_law 1201 = .ok (.dstore 7, 2) := by decide +kernel
theorem dL_law_1203 : decode cL_law 1203 = .ok (.dload 5, 2) := by decide +kernel
theorem dL_law_1205 : decode cL_law 1205 = .ok (.dload 7, 2) := by decide +kernel
theorem dL_law_1207 : decode cL_law 1207 = .ok (.dcmp .l, 1) := by decide +kernel
theorem dL_law_1208 : decode cL_law 1208 = .ok (.ifCond .eq 21, 3) := by decide +kernel
theorem dL_law_1211 : decode cL_law 1211 = .ok (.dload 5, 2) := by decide +kernel
theorem dL_law_1213 : decode cL_law 1213 = .ok (.dload 5, 2) := by decide +kernel
theorem dL_law_1215 : decode cL_law 1215 = .ok (.dcmp .l, 1) := by decide +kernel
theorem dL_law_1216 : decode cL_law 1216 = .ok (.ifCond .eq 11, 3) := by decide +kernel
theorem dL_law_1219 : decode cL_law 1219 = .ok (.dload 7, 2) := by decide +kernel
theorem dL_law_1221 : decode cL_law 1221 = .ok (.dload 7, 2) := by decide +kernel
theorem dL_law_1223 : decode cL_law 1223 = .ok (.dcmp .l, 1) := by decide +kernel
theorem dL_law_1224 : decode cL_law 1224 = .ok (.ifCond .ne 5, 3) := by decide +kernel
theorem dL_law_1227 : decode cL_law 1227 = .ok (.iconst 0, 1) := by decide +kernel
theorem dL_law_1228 : decode cL_law 1228 = .ok (.ireturn, 1) := by decide +kernel
theorem dL_law_1229 : decode cL_law 1229 = .ok (.goto 143, 3) := by decide +kernel
theorem dL_law_1232 : decode cL_law 1232 = .ok (.aload_n 1, 1) := by decide +kernel
theorem dL_law_1233 : decode cL_law 1233 = .ok (.aload_n 0, 1) := by decide +kernel
theorem dL_law_1234 : decode cL_law 1234 = .ok (.iload 4, 2) := by decide +kernel
theorem dL_law_1236 : decode cL_law 1236 = .ok (.iconst 1, 1) := by decide +kernel
theorem dL_law_1237 : decode cL_law 1237 = .ok (.iadd, 1) := by decide +kernel
theorem dL_law_1238 : decode cL_law 1238 = .ok (.iaload, 1) := by decide +kernel
theorem dL_law_1239 : decode cL_law 1239 = .ok (.aload_n 3, 1) := by decide +kernel
theorem dL_law_1240 : decode cL_law 1240 = .ok (.invokestatic 162, 3) := by decide +kernel
theorem dL_law_1243 : decode cL_law 1243 = .ok (.istore 5, 2) := by decide +kernel
theorem dL_law_1245 : decode cL_law 1245 = .ok (.aload_n 2, 1) := by decide +kernel
theorem dL_law_1246 : decode cL_law 1246 = .ok (.aload_n 0, 1) := by decide +kernel
theorem dL_law_1247 : decode cL_law 1247 = .ok (.iload 4, 2) := by decide +kernel
theorem dL_law_1249 : decode cL_law 1249 = .ok (.iconst 1, 1) := by decide +kernel
theorem dL_law_1250 : decode cL_law 1250 = .ok (.iadd, 1) := by decide +kernel
theorem dL_law_1251 : decode cL_law 1251 = .ok (.iaload, 1) := by decide +kernel
theorem dL_law_1252 : decode cL_law 1252 = .ok (.invokevirtual 164, 3) := by decide +kernel
theorem dL_law_1255 : decode cL_law 1255 = .ok (.istore 6, 2) := by decide +kernel
theorem dL_law_1257 : decode cL_law 1257 = .ok (.aload_n 2, 1) := by decide +kernel
theorem dL_law_1258 : decode cL_law 1258 = .ok (.invokevirtual 82, 3) := by decide +kernel
theorem dL_law_1261 : decode cL_law 1261 = .ok (.iload 5, 2) := by decide +kernel
theorem dL_law_1263 : decode cL_law 1263 = .ok (.if_icmp .eq 5, 3) := by decide +kernel
theorem dL_law_1266 : decode cL_law 1266 = .ok (.iconst 0, 1) := by decide +kernel
theorem dL_law_1267 : decode cL_law 1267 = .ok (.ireturn, 1) := by decide +kernel
theorem dL_law_1268 : decode cL_law 1268 = .ok (.iload 5, 2) := by decide +kernel
theorem dL_law_1270 : decode cL_law 1270 = .ok (.ifCond .ne 15, 3) := by decide +kernel
theorem dL_law_1273 : decode cL_law 1273 = .ok (.aload_n 3, 1) := by decide +kernel
theorem dL_law_1274 : decode cL_law 1274 = .ok (.iconst 0, 1) := by decide +kernel
theorem dL_law_1275 : decode cL_law 1275 = .ok (.laload, 1) := by decide +kernel
theorem dL_law_1276 : decode cL_law 1276 = .ok (.iload 6, 2) := by decide +kernel
theorem dL_law_1278 : decode cL_law 1278 = .ok (.i2l, 1) := by decide +kernel
theorem dL_law_1279 : decode cL_law 1279 = .ok (.lcmp, 1) := by decide +kernel
theorem dL_law_1280 : decode cL_law 1280 = .ok (.ifCond .eq 5, 3) := by decide +kernel
theorem dL_law_1283 : decode cL_law 1283 = .ok (.iconst 0, 1) := by decide +kernel
theorem dL_law_1284 : decode cL_law 1284 = .ok (.ireturn, 1) := by decide +kernel
theorem dL_law_1285 : decode cL_law 1285 = .ok (.goto 87, 3) := by decide +kernel
theorem dL_law_1288 : decode cL_law 1288 = .ok (.aload_n 1, 1) := by decide +kernel
theorem dL_law_1289 : decode cL_law 1289 = .ok (.invokevirtual 165, 3) := by decide +kernel
theorem dL_law_1292 : decode cL_law 1292 = .ok (.aload_n 2, 1) := by decide +kernel
theorem dL_law_1293 : decode cL_law 1293 = .ok (.invokevirtual 168, 3) := by decide +kernel
theorem dL_law_1296 : decode cL_law 1296 = .ok (.if_icmp .eq 76, 3) := by decide +kernel
theorem dL_law_1299 : decode cL_law 1299 = .ok (.iconst 0, 1) := by decide +kernel
theorem dL_law_1300 : decode cL_law 1300 = .ok (.ireturn, 1) := by decide +kernel
theorem dL_law_1301 : decode cL_law 1301 = .ok (.aload_n 1, 1) := by decide +kernel
theorem dL_law_1302 : decode cL_law 1302 = .ok (.invokevirtual 169, 3) := by decide +kernel
theorem dL_law_1305 : decode cL_law 1305 = .ok (.aload_n 2, 1) := by decide +kernel
theorem dL_law_1306 : decode cL_law 1306 = .ok (.invokevirtual 172, 3) := by decide +kernel
theorem dL_law_1309 : decode cL_law 1309 = .ok (.if_icmp .eq 63, 3) := by decide +kernel
theorem dL_law_1312 : decode cL_law 1312 = .ok (.iconst 0, 1) := by decide +kernel
theorem dL_law_1313 : decode cL_law 1313 = .ok (.ireturn, 1) := by decide +kernel
theorem dL_law_1314 : decode cL_law 1314 = .ok (.aload_n 1, 1) := by decide +kernel
theorem dL_law_1315 : decode cL_law 1315 = .ok (.aload_n 3, 1) := by decide +kernel
theorem dL_law_1316 : decode cL_law 1316 = .ok (.invokestatic 173, 3) := by decide +kernel
theorem dL_law_1319 : decode cL_law 1319 = .ok (.istore 5, 2) := by decide +kernel
theorem dL_law_1321 : decode cL_law 1321 = .ok (.aload_n 2, 1) := by decide +kernel
theorem dL_law_1322 : decode cL_law 1322 = .ok (.invokevirtual 176, 3) := by decide +kernel
theorem dL_law_1325 : decode cL_law 1325 = .ok (.istore 6, 2) := by decide +kernel
theorem dL_law_1327 : decode cL_law 1327 = .ok (.aload_n 2, 1) := by decide +kernel
theorem dL_law_1328 : decode cL_law 1328 = .ok (.invokevirtual 82, 3) := by decide +kernel
theorem dL_law_1331 : decode cL_law 1331 = .ok (.iload 5, 2) := by decide +kernel
theorem dL_law_1333 : decode cL_law 1333 = .ok (.if_icmp .eq 5, 3) := by decide +kernel
theorem dL_law_1336 : decode cL_law 1336 = .ok (.iconst 0, 1) := by decide +kernel
theorem dL_law_1337 : decode cL_law 1337 = .ok (.ireturn, 1) := by decide +kernel
theorem dL_law_1338 : decode cL_law 1338 = .ok (.iload 5, 2) := by decide +kernel
theorem dL_law_1340 : decode cL_law 1340 = .ok (.ifCond .ne 15, 3) := by decide +kernel
theorem dL_law_1343 : decode cL_law 1343 = .ok (.aload_n 3, 1) := by decide +kernel
theorem dL_law_1344 : decode cL_law 1344 = .ok (.iconst 0, 1) := by decide +kernel
theorem dL_law_1345 : decode cL_law 1345 = .ok (.laload, 1) := by decide +kernel
theorem dL_law_1346 : decode cL_law 1346 = .ok (.iload 6, 2) := by decide +kernel
theorem dL_law_1348 : decode cL_law 1348 = .ok (.i2l, 1) := by decide +kernel
theorem dL_law_1349 : decode cL_law 1349 = .ok (.lcmp, 1) := by decide +kernel
theorem dL_law_1350 : decode cL_law 1350 = .ok (.ifCond .eq 5, 3) := by decide +kernel
theorem dL_law_1353 : decode cL_law 1353 = .ok (.iconst 0, 1) := by decide +kernel
theorem dL_law_1354 : decode cL_law 1354 = .ok (.ireturn, 1) := by decide +kernel
theorem dL_law_1355 : decode cL_law 1355 = .ok (.goto 17, 3) := by decide +kernel
theorem dL_law_1358 : decode cL_law 1358 = .ok (.aload_n 1, 1) := by decide +kernel
theorem dL_law_1359 : decode cL_law 1359 = .ok (.invokevirtual 177, 3) := by decide +kernel
theorem dL_law_1362 : decode cL_law 1362 = .ok (.aload_n 2, 1) := by decide +kernel
theorem dL_law_1363 : decode cL_law 1363 = .ok (.invokevirtual 181, 3) := by decide +kernel
theorem dL_law_1366 : decode cL_law 1366 = .ok (.lcmp, 1) := by decide +kernel
theorem dL_law_1367 : decode cL_law 1367 = .ok (.ifCond .eq 5, 3) := by decide +kernel
theorem dL_law_1370 : decode cL_law 1370 = .ok (.iconst 0, 1) := by decide +kernel
theorem dL_law_1371 : decode cL_law 1371 = .ok (.ireturn, 1) := by decide +kernel
theorem dL_law_1372 : decode cL_law 1372 = .ok (.iinc 4 4, 3) := by decide +kernel
theorem dL_law_1375 : decode cL_law 1375 = .ok (.goto (-1352), 3) := by decide +kernel
theorem dL_law_1378 : decode cL_law 1378 = .ok (.iconst 1, 1) := by decide +kernel
theorem dL_law_1379 : decode cL_law 1379 = .ok (.ireturn, 1) := by decide +kernel
end
section
/-! ===== the plain judgement: a frame of the machine against a pure computation ===== -/
abbrev cS : Type := Nat → Nat → Int32
def st2 (σ : cS) (k j : Nat) (v : Int32) : cS := fun a b => if a = k then (if b = j then v else σ a b) else σ a b
def inb (i : Int32) (n : Nat) : Bool := decide (¬ (i < 0 ∨ n ≤ i.toNatClampNeg))
def isb (v : Int32) : Bool := decide (v = 0 ∨ v = 1)
def nz (v : Int32) : Bool := decide (¬ v = 0)
def grd {ρ : Type} (b : Bool) (E : Option ρ) : Option ρ := if b = true then E else none
def bnd {α β : Type} (x : α) (f : α → β) : β := f x
/-- a layout: what the kinds of cells are, how long the rows are, where they lie -/
abbrev Lay : Type := va_G × Nat × (Nat → Nat) × (Nat → Nat) × (Nat → Nat) × ClassId × ClassId × ClassId
abbrev lD (G : Lay) : va_G := G.1
abbrev gN (G : Lay) : Nat := G.2.1
abbrev la (G : Lay) : Nat → Nat := G.2.2.1
abbrev lk (G : Lay) : Nat → Nat := G.2.2.2.1
abbrev ll (G : Lay) : Nat → Nat := G.2.2.2.2.1
abbrev lcI (G : Lay) : ClassId := G.2.2.2.2.2.1
abbrev lcG (G : Lay) : ClassId := G.2.2.2.2.2.2.1
abbrev lcL (G : Lay) : ClassId := G.2.2.2.2.2.2.2
abbrev ltys (G : Lay) : List (ClassId × FieldType) := [(lcI G, .int), (lcG G, .object "EdgeHolders$Graph"), (lcL G, .long)]
def ce (G : Lay) (h : Int64) (σ : cS) (k : Nat) : va_E := match lk G k with
  | 0 => .inr (0, [.ref (la G (k + 1)), .ref (la G (k + 3)), .ref (la G (k + 5)), .ref (la G (k + 7)), .ref (la G (k + 9)), .ref (la G (k + 11)), .ref (la G (k + 13)), .int (σ k 7), .int (σ k 8), .int (σ k 9), .int (σ k 10)])
  | 1 => .inr (1, [.ref (la G (k + 1)), .int (σ k 1), .int (σ k 2)])
  | 2 => .inr (2, [.ref (la G (k + 1)), .int (σ k 1), .int (σ k 2), .int (σ k 3), .int (σ k 4), .int (σ k 5), .int (σ k 6), .int (σ k 7)])
  | 3 => .inr (3, [.ref (la G (k + 1)), .ref (la G (k + 2)), .ref (la G (k + 3)), .int (σ k 3), .int (σ k 4), .int (σ k 5), .int (σ k 6)])
  | 4 => .inr (4, [.ref (la G (k + 1))])
  | 5 => .inr (5, [.ref (la G (k + 1)), .ref (la G (k + 3)), .ref (la G (k + 5)), .int (σ k 3), .int (σ k 4), .int (σ k 5)])
  | 6 => .inr (6, [.ref (la G 0), .ref (la G 15), .ref (la G 90), .ref (la G 97), .ref (la G 102), .ref (la G 105)])
  | 7 => .inr (7, [.ref (la G (k + 1)), .ref (la G (k + 2)), .ref (la G (k + 3)), .ref (la G (k + 4)), .int (σ k 4), .int (σ k 5), .int (σ k 6), .int (σ k 7), .ref (la G (k + 5)), .ref (la G (k + 6)), .int (σ k 10), .int (σ k 11), .int (σ k 12), .int (σ k 13), .int (σ k 14), .int (σ k 15), .int (σ k 16), .long h])
  | 8 => .inl (lcI G, ll G k, .inl (σ k))
  | 9 => .inl (lcG G, 4, .inr (.inr (.inr (.inr (fun i => some (la G (30 + 15 * i)))))))
  | _ => .inl (lcL G, 1, .inr (.inl (fun _ => h)))
def fw (G : Lay) (f : Nat → va_E) : va_W := (List.range (gN G)).map (fun k => (la G k, f k))
abbrev wd (G : Lay) (h : Int64) (σ : cS) : va_W := fw G (ce G h σ)
theorem fw_get {G : Lay} {f : Nat → va_E} {k : Nat} (h : k < gN G) : (fw G f)[k]? = some (la G k, f k) := by
  unfold fw
  rw [List.getElem?_map, List.getElem?_range h]
  rfl
theorem fw_out {G : Lay} {f : Nat → va_E} {k : Nat} (h : gN G ≤ k) : (fw G f)[k]? = none := by
  unfold fw
  rw [List.getElem?_eq_none]
  simpa using h
theorem fw_of {G : Lay} {f : Nat → va_E} {k : Nat} {q : Nat × va_E} (h : (fw G f)[k]? = some q) : k < gN G ∧ q = (la G k, f k) := by
  rcases Nat.lt_or_ge k (gN G) with z | z
  · rw [fw_get z] at h
    exact ⟨z, (Option.some.inj h).symm⟩
  · rw [fw_out z] at h
    cases h
theorem fw_set {G : Lay} {f : Nat → va_E} {k : Nat} {e : va_E} (hk : k < gN G) : (fw G f).set k (la G k, e) = fw G (fun i => if i = k then e else f i) := by
  apply List.ext_getElem?
  intro i
  rcases Nat.lt_or_ge i (gN G) with z | z
  · rw [fw_get z]
    by_cases q : i = k
    · subst q
      rw [List.getElem?_set_self (by simpa [fw] using hk), if_pos rfl]
    · rw [List.getElem?_set_ne (Ne.symm q), fw_get z, if_neg q]
  · rw [fw_out z, List.getElem?_eq_none]
    simpa [fw] using z
def FA (G : Lay) : Nat → Prop := fun q => ∃ k, k < gN G ∧ q = la G k
def Inj (G : Lay) : Prop := ∀ i j, i < gN G → j < gN G → la G i = la G j → i = j
theorem fw_D {G : Lay} (hi : Inj G) (f : Nat → va_E) : va_D (FA G) (fw G f) := by
  refine ⟨fun i j p q h1 h2 e => ?_, fun k q h => ?_⟩
  · obtain ⟨z1, rfl⟩ := fw_of h1
    obtain ⟨z2, rfl⟩ := fw_of h2
    exact hi i j z1 z2 e
  · obtain ⟨z1, rfl⟩ := fw_of h
    exact ⟨k, z1, rfl⟩
/-- a cell of a kind -/
def Ob (G : Lay) (k c : Nat) : Prop := k < gN G ∧ lk G k = c
def isRow (G : Lay) (k : Nat) : Prop := Ob G k 4 ∧ Ob G (k + 1) 8
def isGraph (G : Lay) (k : Nat) : Prop := Ob G k 0 ∧ isRow G (k + 1) ∧ isRow G (k + 3) ∧ isRow G (k + 5) ∧ isRow G (k + 7) ∧ isRow G (k + 9) ∧ isRow G (k + 11) ∧ isRow G (k + 13)
def isHist (G : Lay) (k : Nat) : Prop := Ob G k 1 ∧ Ob G (k + 1) 9 ∧ ∀ i, i < 4 → isGraph G (30 + 15 * i)
def isText (G : Lay) (k : Nat) : Prop := Ob G k 2 ∧ isRow G (k + 1)
def isParts (G : Lay) (k : Nat) : Prop := Ob G k 3 ∧ Ob G (k + 1) 8 ∧ Ob G (k + 2) 8 ∧ isRow G (k + 3)
def isSearch (G : Lay) (k : Nat) : Prop := Ob G k 5 ∧ isRow G (k + 1) ∧ isRow G (k + 3) ∧ isRow G (k + 5)
def isEH (G : Lay) (k : Nat) : Prop := Ob G k 6 ∧ isGraph G 0 ∧ isGraph G 15 ∧ isSearch G 90 ∧ isParts G 97 ∧ isText G 102 ∧ isHist G 105
def isMod (G : Lay) (k : Nat) : Prop := Ob G k 7 ∧ Ob G (k + 1) 8 ∧ Ob G (k + 2) 8 ∧ Ob G (k + 3) 8 ∧ Ob G (k + 4) 8 ∧ Ob G (k + 5) 8 ∧ Ob G (k + 6) 8
theorem ce0 {G : Lay} {k : Nat} (o : Ob G k 0) (h : Int64) (σ : cS) : ce G h σ k = .inr (0, [.ref (la G (k + 1)), .ref (la G (k + 3)), .ref (la G (k + 5)), .ref (la G (k + 7)), .ref (la G (k + 9)), .ref (la G (k + 11)), .ref (la G (k + 13)), .int (σ k 7), .int (σ k 8), .int (σ k 9), .int (σ k 10)]) := by unfold ce; rw [o.2]; rfl
theorem ce1 {G : Lay} {k : Nat} (o : Ob G k 1) (h : Int64) (σ : cS) : ce G h σ k = .inr (1, [.ref (la G (k + 1)), .int (σ k 1), .int (σ k 2)]) := by unfold ce; rw [o.2]; rfl
theorem ce2 {G : Lay} {k : Nat} (o : Ob G k 2) (h : Int64) (σ : cS) : ce G h σ k = .inr (2, [.ref (la G (k + 1)), .int (σ k 1), .int (σ k 2), .int (σ k 3), .int (σ k 4), .int (σ k 5), .int (σ k 6), .int (σ k 7)]) := by unfold ce; rw [o.2]; rfl
theorem ce3 {G : Lay} {k : Nat} (o : Ob G k 3) (h : Int64) (σ : cS) : ce G h σ k = .inr (3, [.ref (la G (k + 1)), .ref (la G (k + 2)), .ref (la G (k + 3)), .int (σ k 3), .int (σ k 4), .int (σ k 5), .int (σ k 6)]) := by unfold ce; rw [o.2]; rfl
theorem ce4 {G : Lay} {k : Nat} (o : Ob G k 4) (h : Int64) (σ : cS) : ce G h σ k = .inr (4, [.ref (la G (k + 1))]) := by unfold ce; rw [o.2]; rfl
theorem ce5 {G : Lay} {k : Nat} (o : Ob G k 5) (h : Int64) (σ : cS) : ce G h σ k = .inr (5, [.ref (la G (k + 1)), .ref (la G (k + 3)), .ref (la G (k + 5)), .int (σ k 3), .int (σ k 4), .int (σ k 5)]) := by unfold ce; rw [o.2]; rfl
theorem ce6 {G : Lay} {k : Nat} (o : Ob G k 6) (h : Int64) (σ : cS) : ce G h σ k = .inr (6, [.ref (la G 0), .ref (la G 15), .ref (la G 90), .ref (la G 97), .ref (la G 102), .ref (la G 105)]) := by unfold ce; rw [o.2]; rfl
theorem ce7 {G : Lay} {k : Nat} (o : Ob G k 7) (h : Int64) (σ : cS) : ce G h σ k = .inr (7, [.ref (la G (k + 1)), .ref (la G (k + 2)), .ref (la G (k + 3)), .ref (la G (k + 4)), .int (σ k 4), .int (σ k 5), .int (σ k 6), .int (σ k 7), .ref (la G (k + 5)), .ref (la G (k + 6)), .int (σ k 10), .int (σ k 11), .int (σ k 12), .int (σ k 13), .int (σ k 14), .int (σ k 15), .int (σ k 16), .long h]) := by unfold ce; rw [o.2]; rfl
theorem ce8 {G : Lay} {k : Nat} (o : Ob G k 8) (h : Int64) (σ : cS) : ce G h σ k = .inl (lcI G, ll G k, .inl (σ k)) := by unfold ce; rw [o.2]; rfl
theorem ce9 {G : Lay} {k : Nat} (o : Ob G k 9) (h : Int64) (σ : cS) : ce G h σ k = .inl (lcG G, 4, .inr (.inr (.inr (.inr (fun i => some (la G (30 + 15 * i))))))) := by unfold ce; rw [o.2]; rfl
theorem ce10 {G : Lay} {k : Nat} (o : Ob G k 10) (h : Int64) (σ : cS) : ce G h σ k = .inl (lcL G, 1, .inr (.inl (fun _ => h))) := by unfold ce; rw [o.2]; rfl
theorem st2_eq {σ : cS} {k j a b : Nat} {v : Int32} : st2 σ k j v a b = if a = k ∧ b = j then v else σ a b := by
  unfold st2
  by_cases h1 : a = k <;> by_cases h2 : b = j <;> simp [h1, h2]
theorem st2_out {σ : cS} {k j a : Nat} {v : Int32} (h : a ≠ k) : st2 σ k j v a = σ a := by
  funext b
  simp [st2, h]
theorem ce_out {G : Lay} {h : Int64} {σ τ : cS} {i : Nat} (e : σ i = τ i) : ce G h σ i = ce G h τ i := by
  unfold ce
  rw [e]
theorem ce_put {G : Lay} {h : Int64} {σ : cS} {k j : Nat} {v : Int32} {x : va_E} (hx : x = ce G h (st2 σ k j v) k) : (fun i => if i = k then x else ce G h σ i) = ce G h (st2 σ k j v) := by
  funext i
  by_cases q : i = k
  · subst q
    rw [if_pos rfl, hx]
  · rw [if_neg q]
    exact ce_out (st2_out q).symm
theorem cp0 {G : Lay} {k : Nat} (o : Ob G k 0) (h : Int64) (σ : cS) (v : Int32) (j : Nat) (hj : 7 ≤ j ∧ j < 11) : (.inr (0, ([.ref (la G (k + 1)), .ref (la G (k + 3)), .ref (la G (k + 5)), .ref (la G (k + 7)), .ref (la G (k + 9)), .ref (la G (k + 11)), .ref (la G (k + 13)), .int (σ k 7), .int (σ k 8), .int (σ k 9), .int (σ k 10)] : List Value).set j (.int v)) : va_E) = ce G h (st2 σ k j v) k := by
  rw [ce0 o]
  rcases (show j = 7 ∨ j = 8 ∨ j = 9 ∨ j = 10 by omega) with rfl | rfl | rfl | rfl <;> simp [st2]
theorem cp1 {G : Lay} {k : Nat} (o : Ob G k 1) (h : Int64) (σ : cS) (v : Int32) (j : Nat) (hj : 1 ≤ j ∧ j < 3) : (.inr (1, ([.ref (la G (k + 1)), .int (σ k 1), .int (σ k 2)] : List Value).set j (.int v)) : va_E) = ce G h (st2 σ k j v) k := by
  rw [ce1 o]
  rcases (show j = 1 ∨ j = 2 by omega) with rfl | rfl <;> simp [st2]
theorem cp2 {G : Lay} {k : Nat} (o : Ob G k 2) (h : Int64) (σ : cS) (v : Int32) (j : Nat) (hj : 1 ≤ j ∧ j < 8) : (.inr (2, ([.ref (la G (k + 1)), .int (σ k 1), .int (σ k 2), .int (σ k 3), .int (σ k 4), .int (σ k 5), .int (σ k 6), .int (σ k 7)] : List Value).set j (.int v)) : va_E) = ce G h (st2 σ k j v) k := by
  rw [ce2 o]
  rcases (show j = 1 ∨ j = 2 ∨ j = 3 ∨ j = 4 ∨ j = 5 ∨ j = 6 ∨ j = 7 by omega) with rfl | rfl | rfl | rfl | rfl | rfl | rfl <;> simp [st2]
theorem cp3 {G : Lay} {k : Nat} (o : Ob G k 3) (h : Int64) (σ : cS) (v : Int32) (j : Nat) (hj : 3 ≤ j ∧ j < 7) : (.inr (3, ([.ref (la G (k + 1)), .ref (la G (k + 2)), .ref (la G (k + 3)), .int (σ k 3), .int (σ k 4), .int (σ k 5), .int (σ k 6)] : List Value).set j (.int v)) : va_E) = ce G h (st2 σ k j v) k := by
  rw [ce3 o]
  rcases (show j = 3 ∨ j = 4 ∨ j = 5 ∨ j = 6 by omega) with rfl | rfl | rfl | rfl <;> simp [st2]
theorem cp5 {G : Lay} {k : Nat} (o : Ob G k 5) (h : Int64) (σ : cS) (v : Int32) (j : Nat) (hj : 3 ≤ j ∧ j < 6) : (.inr (5, ([.ref (la G (k + 1)), .ref (la G (k + 3)), .ref (la G (k + 5)), .int (σ k 3), .int (σ k 4), .int (σ k 5)] : List Value).set j (.int v)) : va_E) = ce G h (st2 σ k j v) k := by
  rw [ce5 o]
  rcases (show j = 3 ∨ j = 4 ∨ j = 5 by omega) with rfl | rfl | rfl <;> simp [st2]
theorem cp7 {G : Lay} {k : Nat} (o : Ob G k 7) (h : Int64) (σ : cS) (v : Int32) (j : Nat) (hj : (4 ≤ j ∧ j < 8) ∨ (10 ≤ j ∧ j < 17)) : (.inr (7, ([.ref (la G (k + 1)), .ref (la G (k + 2)), .ref (la G (k + 3)), .ref (la G (k + 4)), .int (σ k 4), .int (σ k 5), .int (σ k 6), .int (σ k 7), .ref (la G (k + 5)), .ref (la G (k + 6)), .int (σ k 10), .int (σ k 11), .int (σ k 12), .int (σ k 13), .int (σ k 14), .int (σ k 15), .int (σ k 16), .long h] : List Value).set j (.int v)) : va_E) = ce G h (st2 σ k j v) k := by
  rw [ce7 o]
  rcases (show j = 4 ∨ j = 5 ∨ j = 6 ∨ j = 7 ∨ j = 10 ∨ j = 11 ∨ j = 12 ∨ j = 13 ∨ j = 14 ∨ j = 15 ∨ j = 16 by omega) with rfl | rfl | rfl | rfl | rfl | rfl | rfl | rfl | rfl | rfl | rfl <;> simp [st2]
theorem cp8 {G : Lay} {k : Nat} (o : Ob G k 8) (h : Int64) (σ : cS) (v : Int32) (j : Nat) : (.inl (lcI G, ll G k, .inl (upd (σ k) j v)) : va_E) = ce G h (st2 σ k j v) k := by
  rw [ce8 o]
  congr 4
  funext b
  simp [upd, st2]
/-- the words of the nest: links of one class to another's private members -/
def nstW : List Cond := [Cond.fieldLinkNest RX6 166 "EdgeHolders$Graph" "numbers" "LEdgeHolders$Row;" "EdgeHolders", Cond.fieldLinkNest RX6 149 "EdgeHolders$Graph" "firsts" "LEdgeHolders$Row;" "EdgeHolders", Cond.fieldLinkNest RX6 152 "EdgeHolders$Graph" "seconds" "LEdgeHolders$Row;" "EdgeHolders", Cond.fieldLinkNest RX5 49 "EdgeHolders$Graph" "holders" "LEdgeHolders$Row;" "EdgeHolders", Cond.fieldLinkNest RX6 155 "EdgeHolders$Graph" "holders" "LEdgeHolders$Row;" "EdgeHolders", Cond.fieldLinkNest RX6 158 "EdgeHolders$Graph" "turnings" "LEdgeHolders$Row;" "EdgeHolders", Cond.fieldLinkNest RX5 66 "EdgeHolders$Graph" "loads" "LEdgeHolders$Row;" "EdgeHolders", Cond.fieldLinkNest RX6 130 "EdgeHolders$Graph" "loads" "LEdgeHolders$Row;" "EdgeHolders", Cond.fieldLinkNest RX6 118 "EdgeHolders$Graph" "capacities" "LEdgeHolders$Row;" "EdgeHolders", Cond.fieldLinkNest RX3 35 "EdgeHolders$Graph" "nodes" "I" "EdgeHolders", Cond.fieldLinkNest RX5 88 "EdgeHolders$Graph" "nodes" "I" "EdgeHolders", Cond.fieldLinkNest RX6 169 "EdgeHolders$Graph" "nodes" "I" "EdgeHolders", Cond.fieldLinkNest RX6 54 "EdgeHolders$Graph" "edges" "I" "EdgeHolders", Cond.fieldLinkNest RX5 44 "EdgeHolders$Graph" "edges" "I" "EdgeHolders", Cond.fieldLinkNest RX6 185 "EdgeHolders$Graph" "nextNumber" "I" "EdgeHolders", Cond.fieldLinkNest RX6 182 "EdgeHolders$Graph" "turned" "I" "EdgeHolders", Cond.fieldLinkNest RX6 144 "EdgeHolders$Search" "visited" "I" "EdgeHolders", Cond.fieldLinkNest RX6 207 "EdgeHolders$PartTable" "densestPart" "I" "EdgeHolders", Cond.fieldLinkNest RX6 210 "EdgeHolders$PartTable" "leastLoad" "I" "EdgeHolders", Cond.fieldLinkNest RX6 233 "EdgeHolders$OrderText" "length" "I" "EdgeHolders", Cond.fieldLinkNest RX6 306 "EdgeHolders$OrderText" "kind" "I" "EdgeHolders", Cond.fieldLinkNest RX6 309 "EdgeHolders$OrderText" "firstNode" "I" "EdgeHolders", Cond.fieldLinkNest RX6 312 "EdgeHolders$OrderText" "secondNode" "I" "EdgeHolders", Cond.fieldLinkNest RX6 319 "EdgeHolders$OrderText" "number" "I" "EdgeHolders", Cond.fieldLinkNest RX6 256 "EdgeHolders$History" "saved" "I" "EdgeHolders", Cond.methodLinkNest RX6 21 ⟨"EdgeHolders$Search", "<init>", "()V"⟩ "EdgeHolders", Cond.methodLinkNest RX6 28 ⟨"EdgeHolders$PartTable", "<init>", "()V"⟩ "EdgeHolders", Cond.methodLinkNest RX6 35 ⟨"EdgeHolders$OrderText", "<init>", "()V"⟩ "EdgeHolders"]
def isNst : Cond → Bool
  | .fieldLinkNest _ _ _ _ _ _ => true
  | .methodLinkNest _ _ _ _ => true
  | _ => false
theorem nstW_ok : nstW.all isNst = true := by decide +kernel
theorem isNst_of {w : Cond} (h : isNst w = true) : (∃ a i b n d g, w = .fieldLinkNest a i b n d g) ∨ ∃ a i y g, w = .methodLinkNest a i y g := by
  cases w <;> first | exact Or.inl ⟨_, _, _, _, _, _, rfl⟩ | exact Or.inr ⟨_, _, _, _, rfl⟩ | cases h
def NW (U : State) : Prop := ∀ w ∈ nstW, va_Nw w U
theorem NW_warm {s U : State} (hW : s.WarmedH U.vm) (h : NW s) : NW U := fun w hw => by
  rcases isNst_of (List.all_eq_true.mp nstW_ok w hw) with ⟨a, i, b, n, d, g, rfl⟩ | ⟨a, i, y, g, rfl⟩
  · exact va_Nw.warmF hW (h _ hw)
  · exact va_Nw.warmM hW (h _ hw)
theorem nst_tab {w : Cond} (hw : w ∈ nstW) : w.onTables = true := by
  rcases isNst_of (List.all_eq_true.mp nstW_ok w hw) with ⟨a, i, b, n, d, g, rfl⟩ | ⟨a, i, y, g, rfl⟩ <;> rfl
theorem NW_same {u U : State} (hv : U.vm = u.vm) (h : NW u) : NW U := fun w hw => va_Nw.same (nst_tab hw) hv.symm (h w hw)
/-- the machine's standing things -/
abbrev MCx : Type := Program × Launch × Env × Room × State × MethodId × Array Value × List Frame × Method × Code
abbrev kp (K : MCx) : Program := K.1
abbrev kl (K : MCx) : Launch := K.2.1
abbrev ke (K : MCx) : Env := K.2.2.1
abbrev kR (K : MCx) : Room := K.2.2.2.1
abbrev ks (K : MCx) : State := K.2.2.2.2.1
abbrev km (K : MCx) : MethodId := K.2.2.2.2.2.1
abbrev ka (K : MCx) : Array Value := K.2.2.2.2.2.2.1
abbrev kb (K : MCx) : List Frame := K.2.2.2.2.2.2.2.1
abbrev kme (K : MCx) : Method := K.2.2.2.2.2.2.2.2.1
abbrev kc (K : MCx) : Code := K.2.2.2.2.2.2.2.2.2
def Cx (K : MCx) (G : Lay) (own : String) (cc : ByteArray) (nL : Nat) (ret : Option FieldType) (rf rl : Nat) : Prop :=
  (kp K).tables.exec = Jvm.exec ∧ (kc K).code = cc ∧ (kc K).maxLocals = nL ∧ (ks K).vm.findClass own = some (km K).cls ∧ (∀ w ∈ wsL_law, w.before (ka K) (ks K) = true) ∧ va_K (lD G) vwCl (ltys G) (ks K) ∧ (kme K).locks = false ∧ Inj G ∧ (kme K).sig.returnType = ret ∧ (kR K).frames = rf ∧ (kR K).locals = rl ∧ NW (ks K)
abbrev WK (K : MCx) (H : Heap) (locs : List Loc) (Q : State → Prop) (g : JFrame) : Prop := W (kp K) (kl K) (ke K) (kR K) (ks K) (km K) (ka K) (kb K) (kme K) (kc K) H locs 0 0 Q g
def Sm (K : MCx) (G : Lay) {ρ : Type} (P : ρ → Prop) (Q : ρ → State → Prop) (nL pc : Nat) (lv : List (Nat × Value)) (st : List Value) (h : Int64) (σ : cS) (E : Option ρ) : Prop :=
  ∀ r, E = some r → P r → ∀ (H : Heap) (locs : List Loc) (ls : Array Slot), va_P (lD G) vwCl (wd G h σ) H → va_S (FA G) (ks K).heap H locs → lv_has ls nL lv → WK K H locs (Q r) (F0 (km K) pc ls st)
end
section
theorem law0_in : ∀ w ∈ wsL_law0, w ∈ wsL_law := fun w h => List.mem_append_left _ (List.mem_append_left _ (List.mem_append_left _ (List.mem_append_left _ (h))))
theorem law_x0 : ∀ w ∈ (vx_atS RX6 51 "java/lang/IllegalArgumentException" ["java/lang/RuntimeException", "java/lang/Exception"]).filter goodWord, w ∈ wsL_law := fun w h => List.mem_append_left _ (List.mem_append_left _ (List.mem_append_left _ (List.mem_append_right _ h)))
theorem law_x1 : ∀ w ∈ (vx_atS RX6 84 "java/lang/IllegalStateException" ["java/lang/RuntimeException", "java/lang/Exception"]).filter goodWord, w ∈ wsL_law := fun w h => List.mem_append_left _ (List.mem_append_left _ (List.mem_append_right _ h))
theorem law_x2 : ∀ w ∈ (vx_atS RX6 165 "java/lang/IndexOutOfBoundsException" ["java/lang/RuntimeException", "java/lang/Exception"]).filter goodWord, w ∈ wsL_law := fun w h => List.mem_append_left _ (List.mem_append_right _ h)
theorem law_x3 : ∀ w ∈ (vx_atS RX6 305 "java/util/NoSuchElementException" ["java/lang/RuntimeException", "java/lang/Exception"]).filter goodWord, w ∈ wsL_law := fun w h => List.mem_append_right _ h
theorem seg_1 : ∀ w ∈ wsL_law0_r1, w ∈ wsL_law := fun w h => law0_in w (List.mem_append_left _ (List.mem_append_left _ (List.mem_append_left _ (List.mem_append_left _ (List.mem_append_left _ (List.mem_append_left _ (List.mem_append_left _ (List.mem_append_left _ (List.mem_append_left _ (List.mem_append_left _ h))))))))))
theorem seg_2 : ∀ w ∈ wsL_law0_r2, w ∈ wsL_law := fun w h => law0_in w (List.mem_append_left _ (List.mem_append_left _ (List.mem_append_left _ (List.mem_append_left _ (List.mem_append_left _ (List.mem_append_left _ (List.mem_append_left _ (List.mem_append_left _ (List.mem_append_left _ (List.mem_append_right _ (List.mem_append_left _ h)))))))))))
theorem seg_3 : ∀ w ∈ wsL_law0_r3, w ∈ wsL_law := fun w h => law0_in w (List.mem_append_left _ (List.mem_append_left _ (List.mem_append_left _ (List.mem_append_left _ (List.mem_append_left _ (List.mem_append_left _ (List.mem_append_left _ (List.mem_append_left _ (List.mem_append_left _ (List.mem_append_right _ (List.mem_append_right _ (List.mem_append_left _ h))))))))))))
theorem seg_4 : ∀ w ∈ wsL_law0_r4, w ∈ wsL_law := fun w h => law0_in w (List.mem_append_left _ (List.mem_append_left _ (List.mem_append_left _ (List.mem_append_left _ (List.mem_append_left _ (List.mem_append_left _ (List.mem_append_left _ (List.mem_append_left _ (List.mem_append_left _ (List.mem_append_right _ (List.mem_append_right _ (List.mem_append_right _ (List.mem_append_left _ h)))))))))))))
theorem seg_5 : ∀ w ∈ wsL_law0_r5, w ∈ wsL_law := fun w h => law0_in w (List.mem_append_left _ (List.mem_append_left _ (List.mem_append_left _ (List.mem_append_left _ (List.mem_append_left _ (List.mem_append_left _ (List.mem_append_left _ (List.mem_append_left _ (List.mem_append_left _ (List.mem_append_right _ (List.mem_append_right _ (List.mem_append_right _ (List.mem_append_right _ (List.mem_append_left _ h))))))))))))))
theorem seg_6 : ∀ w ∈ wsL_law0_r6, w ∈ wsL_law := fun w h => law0_in w (List.mem_append_left _ (List.mem_append_left _ (List.mem_append_left _ (List.mem_append_left _ (List.mem_append_left _ (List.mem_append_left _ (List.mem_append_left _ (List.mem_append_left _ (List.mem_append_left _ (List.mem_append_right _ (List.mem_append_right _ (List.mem_append_right _ (List.mem_append_right _ (List.mem_append_right _ (List.mem_append_left _ h)))))))))))))))
theorem seg_7 : ∀ w ∈ wsL_law0_r7, w ∈ wsL_law := fun w h => law0_in w (List.mem_append_left _ (List.mem_append_left _ (List.mem_append_left _ (List.mem_append_left _ (List.mem_append_left _ (List.mem_append_left _ (List.mem_append_left _ (List.mem_append_left _ (List.mem_append_left _ (List.mem_append_right _ (List.mem_append_right _ (List.mem_append_right _ (List.mem_append_right _ (List.mem_append_right _ (List.mem_append_right _ (List.mem_append_left _ h))))))))))))))))
theorem seg_8 : ∀ w ∈ wsL_law0_r8, w ∈ wsL_law := fun w h => law0_in w (List.mem_append_left _ (List.mem_append_left _ (List.mem_append_left _ (List.mem_append_left _ (List.mem_append_left _ (List.mem_append_left _ (List.mem_append_left _ (List.mem_append_left _ (List.mem_append_left _ (List.mem_append_right _ (List.mem_append_right _ (List.mem_append_right _ (List.mem_append_right _ (List.mem_append_right _ (List.mem_append_right _ (List.mem_append_right _ (List.mem_append_left _ h)))))))))))))))))
theorem seg_9 : ∀ w ∈ wsL_law0_r9, w ∈ wsL_law := fun w h => law0_in w (List.mem_append_left _ (List.mem_append_left _ (List.mem_append_left _ (List.mem_append_left _ (List.mem_append_left _ (List.mem_append_left _ (List.mem_append_left _ (List.mem_append_left _ (List.mem_append_left _ (List.mem_append_right _ (List.mem_append_right _ (List.mem_append_right _ (List.mem_append_right _ (List.mem_append_right _ (List.mem_append_right _ (List.mem_append_right _ (List.mem_append_right _ (List.mem_append_left _ h))))))))))))))))))
theorem seg_10 : ∀ w ∈ wsL_law0_r10, w ∈ wsL_law := fun w h => law0_in w (List.mem_append_left _ (List.mem_append_left _ (List.mem_append_left _ (List.mem_append_left _ (List.mem_append_left _ (List.mem_append_left _ (List.mem_append_left _ (List.mem_append_left _ (List.mem_append_left _ (List.mem_append_right _ (List.mem_append_right _ (List.mem_append_right _ (List.mem_append_right _ (List.mem_append_right _ (List.mem_append_right _ (List.mem_append_right _ (List.mem_append_right _ (List.mem_append_right _ (List.mem_append_left _ h)))))))))))))))))))
theorem seg_11 : ∀ w ∈ wsL_law0_r11, w ∈ wsL_law := fun w h => law0_in w (List.mem_append_left _ (List.mem_append_left _ (List.mem_append_left _ (List.mem_append_left _ (List.mem_append_left _ (List.mem_append_left _ (List.mem_append_left _ (List.mem_append_left _ (List.mem_append_left _ (List.mem_append_right _ (List.mem_append_right _ (List.mem_append_right _ (List.mem_append_right _ (List.mem_append_right _ (List.mem_append_right _ (List.mem_append_right _ (List.mem_append_right _ (List.mem_append_right _ (List.mem_append_right _ (List.mem_append_left _ h))))))))))))))))))))
theorem seg_12 : ∀ w ∈ wsL_law0_r12, w ∈ wsL_law := fun w h => law0_in w (List.mem_append_left _ (List.mem_append_left _ (List.mem_append_left _ (List.mem_append_left _ (List.mem_append_left _ (List.mem_append_left _ (List.mem_append_left _ (List.mem_append_left _ (List.mem_append_left _ (List.mem_append_right _ (List.mem_append_right _ (List.mem_append_right _ (List.mem_append_right _ (List.mem_append_right _ (List.mem_append_right _ (List.mem_append_right _ (List.mem_append_right _ (List.mem_append_right _ (List.mem_append_right _ (List.mem_append_right _ (List.mem_append_left _ h)))))))))))))))))))))
theorem seg_13 : ∀ w ∈ wsL_law0_r13, w ∈ wsL_law := fun w h => law0_in w (List.mem_append_left _ (List.mem_append_left _ (List.mem_append_left _ (List.mem_append_left _ (List.mem_append_left _ (List.mem_append_left _ (List.mem_append_left _ (List.mem_append_left _ (List.mem_append_left _ (List.mem_append_right _ (List.mem_append_right _ (List.mem_append_right _ (List.mem_append_right _ (List.mem_append_right _ (List.mem_append_right _ (List.mem_append_right _ (List.mem_append_right _ (List.mem_append_right _ (List.mem_append_right _ (List.mem_append_right _ (List.mem_append_right _ (List.mem_append_left _ h))))))))))))))))))))))
theorem seg_14 : ∀ w ∈ wsL_law0_r14, w ∈ wsL_law := fun w h => law0_in w (List.mem_append_left _ (List.mem_append_left _ (List.mem_append_left _ (List.mem_append_left _ (List.mem_append_left _ (List.mem_append_left _ (List.mem_append_left _ (List.mem_append_left _ (List.mem_append_left _ (List.mem_append_right _ (List.mem_append_right _ (List.mem_append_right _ (List.mem_append_right _ (List.mem_append_right _ (List.mem_append_right _ (List.mem_append_right _ (List.mem_append_right _ (List.mem_append_right _ (List.mem_append_right _ (List.mem_append_right _ (List.mem_append_right _ (List.mem_append_right _ (List.mem_append_left _ h)))))))))))))))))))))))
theorem seg_15 : ∀ w ∈ wsL_law0_r15, w ∈ wsL_law := fun w h => law0_in w (List.mem_append_left _ (List.mem_append_left _ (List.mem_append_left _ (List.mem_append_left _ (List.mem_append_left _ (List.mem_append_left _ (List.mem_append_left _ (List.mem_append_left _ (List.mem_append_left _ (List.mem_append_right _ (List.mem_append_right _ (List.mem_append_right _ (List.mem_append_right _ (List.mem_append_right _ (List.mem_append_right _ (List.mem_append_right _ (List.mem_append_right _ (List.mem_append_right _ (List.mem_append_right _ (List.mem_append_right _ (List.mem_append_right _ (List.mem_append_right _ (List.mem_append_right _ (List.mem_append_left _ h))))))))))))))))))))))))
theorem seg_16 : ∀ w ∈ wsL_law0_r16, w ∈ wsL_law := fun w h => law0_in w (List.mem_append_left _ (List.mem_append_left _ (List.mem_append_left _ (List.mem_append_left _ (List.mem_append_left _ (List.mem_append_left _ (List.mem_append_left _ (List.mem_append_left _ (List.mem_append_left _ (List.mem_append_right _ (List.mem_append_right _ (List.mem_append_right _ (List.mem_append_right _ (List.mem_append_right _ (List.mem_append_right _ (List.mem_append_right _ (List.mem_append_right _ (List.mem_append_right _ (List.mem_append_right _ (List.mem_append_right _ (List.mem_append_right _ (List.mem_append_right _ (List.mem_append_right _ (List.mem_append_right _ (List.mem_append_left _ h)))))))))))))))))))))))))
theorem seg_17 : ∀ w ∈ wsL_law0_r17, w ∈ wsL_law := fun w h => law0_in w (List.mem_append_left _ (List.mem_append_left _ (List.mem_append_left _ (List.mem_append_left _ (List.mem_append_left _ (List.mem_append_left _ (List.mem_append_left _ (List.mem_append_left _ (List.mem_append_left _ (List.mem_append_right _ (List.mem_append_right _ (List.mem_append_right _ (List.mem_append_right _ (List.mem_append_right _ (List.mem_append_right _ (List.mem_append_right _ (List.mem_append_right _ (List.mem_append_right _ (List.mem_append_right _ (List.mem_append_right _ (List.mem_append_right _ (List.mem_append_right _ (List.mem_append_right _ (List.mem_append_right _ (List.mem_append_right _ (List.mem_append_left _ h))))))))))))))))))))))))))
theorem seg_18 : ∀ w ∈ wsL_law0_r18, w ∈ wsL_law := fun w h => law0_in w (List.mem_append_left _ (List.mem_append_left _ (List.mem_append_left _ (List.mem_append_left _ (List.mem_append_left _ (List.mem_append_left _ (List.mem_append_left _ (List.mem_append_left _ (List.mem_append_left _ (List.mem_append_right _ (List.mem_append_right _ (List.mem_append_right _ (List.mem_append_right _ (List.mem_append_right _ (List.mem_append_right _ (List.mem_append_right _ (List.mem_append_right _ (List.mem_append_right _ (List.mem_append_right _ (List.mem_append_right _ (List.mem_append_right _ (List.mem_append_right _ (List.mem_append_right _ (List.mem_append_right _ (List.mem_append_right _ (List.mem_append_right _ (List.mem_append_left _ h)))))))))))))))))))))))))))
theorem seg_19 : ∀ w ∈ wsL_law0_r19, w ∈ wsL_law := fun w h => law0_in w (List.mem_append_left _ (List.mem_append_left _ (List.mem_append_left _ (List.mem_append_left _ (List.mem_append_left _ (List.mem_append_left _ (List.mem_append_left _ (List.mem_append_left _ (List.mem_append_left _ (List.mem_append_right _ (List.mem_append_right _ (List.mem_append_right _ (List.mem_append_right _ (List.mem_append_right _ (List.mem_append_right _ (List.mem_append_right _ (List.mem_append_right _ (List.mem_append_right _ (List.mem_append_right _ (List.mem_append_right _ (List.mem_append_right _ (List.mem_append_right _ (List.mem_append_right _ (List.mem_append_right _ (List.mem_append_right _ (List.mem_append_right _ (List.mem_append_right _ (List.mem_append_left _ h))))))))))))))))))))))))))))
theorem seg_20 : ∀ w ∈ wsL_law0_r20, w ∈ wsL_law := fun w h => law0_in w (List.mem_append_left _ (List.mem_append_left _ (List.mem_append_left _ (List.mem_append_left _ (List.mem_append_left _ (List.mem_append_left _ (List.mem_append_left _ (List.mem_append_left _ (List.mem_append_left _ (List.mem_append_right _ (List.mem_append_right _ (List.mem_append_right _ (List.mem_append_right _ (List.mem_append_right _ (List.mem_append_right _ (List.mem_append_right _ (List.mem_append_right _ (List.mem_append_right _ (List.mem_append_right _ (List.mem_append_right _ (List.mem_append_right _ (List.mem_append_right _ (List.mem_append_right _ (List.mem_append_right _ (List.mem_append_right _ (List.mem_append_right _ (List.mem_append_right _ (List.mem_append_right _ (List.mem_append_left _ h)))))))))))))))))))))))))))))
theorem seg_21 : ∀ w ∈ wsL_law0_r21, w ∈ wsL_law := fun w h => law0_in w (List.mem_append_left _ (List.mem_append_left _ (List.mem_append_left _ (List.mem_append_left _ (List.mem_append_left _ (List.mem_append_left _ (List.mem_append_left _ (List.mem_append_left _ (List.mem_append_left _ (List.mem_append_right _ (List.mem_append_right _ (List.mem_append_right _ (List.mem_append_right _ (List.mem_append_right _ (List.mem_append_right _ (List.mem_append_right _ (List.mem_append_right _ (List.mem_append_right _ (List.mem_append_right _ (List.mem_append_right _ (List.mem_append_right _ (List.mem_append_right _ (List.mem_append_right _ (List.mem_append_right _ (List.mem_append_right _ (List.mem_append_right _ (List.mem_append_right _ (List.mem_append_right _ (List.mem_append_right _ (List.mem_append_left _ h))))))))))))))))))))))))))))))
theorem seg_22 : ∀ w ∈ wsL_law0_r22, w ∈ wsL_law := fun w h => law0_in w (List.mem_append_left _ (List.mem_append_left _ (List.mem_append_left _ (List.mem_append_left _ (List.mem_append_left _ (List.mem_append_left _ (List.mem_append_left _ (List.mem_append_left _ (List.mem_append_left _ (List.mem_append_right _ (List.mem_append_right _ (List.mem_append_right _ (List.mem_append_right _ (List.mem_append_right _ (List.mem_append_right _ (List.mem_append_right _ (List.mem_append_right _ (List.mem_append_right _ (List.mem_append_right _ (List.mem_append_right _ (List.mem_append_right _ (List.mem_append_right _ (List.mem_append_right _ (List.mem_append_right _ (List.mem_append_right _ (List.mem_append_right _ (List.mem_append_right _ (List.mem_append_right _ (List.mem_append_right _ (List.mem_append_right _ (List.mem_append_left _ h)))))))))))))))))))))))))))))))
theorem seg_23 : ∀ w ∈ wsL_law0_r23, w ∈ wsL_law := fun w h => law0_in w (List.mem_append_left _ (List.mem_append_left _ (List.mem_append_left _ (List.mem_append_left _ (List.mem_append_left _ (List.mem_append_left _ (List.mem_append_left _ (List.mem_append_left _ (List.mem_append_left _ (List.mem_append_right _ (List.mem_append_right _ (List.mem_append_right _ (List.mem_append_right _ (List.mem_append_right _ (List.mem_append_right _ (List.mem_append_right _ (List.mem_append_right _ (List.mem_append_right _ (List.mem_append_right _ (List.mem_append_right _ (List.mem_append_right _ (List.mem_append_right _ (List.mem_append_right _ (List.mem_append_right _ (List.mem_append_right _ (List.mem_append_right _ (List.mem_append_right _ (List.mem_append_right _ (List.mem_append_right _ (List.mem_append_right _ (List.mem_append_right _ (List.mem_append_left _ h))))))))))))))))))))))))))))))))
theorem seg_24 : ∀ w ∈ wsL_law0_r24, w ∈ wsL_law := fun w h => law0_in w (List.mem_append_left _ (List.mem_append_left _ (List.mem_append_left _ (List.mem_append_left _ (List.mem_append_left _ (List.mem_append_left _ (List.mem_append_left _ (List.mem_append_left _ (List.mem_append_left _ (List.mem_append_right _ (List.mem_append_right _ (List.mem_append_right _ (List.mem_append_right _ (List.mem_append_right _ (List.mem_append_right _ (List.mem_append_right _ (List.mem_append_right _ (List.mem_append_right _ (List.mem_append_right _ (List.mem_append_right _ (List.mem_append_right _ (List.mem_append_right _ (List.mem_append_right _ (List.mem_append_right _ (List.mem_append_right _ (List.mem_append_right _ (List.mem_append_right _ (List.mem_append_right _ (List.mem_append_right _ (List.mem_append_right _ (List.mem_append_right _ (List.mem_append_right _ (List.mem_append_left _ h)))))))))))))))))))))))))))))))))
theorem seg_25 : ∀ w ∈ wsL_law0_r25, w ∈ wsL_law := fun w h => law0_in w (List.mem_append_left _ (List.mem_append_left _ (List.mem_append_left _ (List.mem_append_left _ (List.mem_append_left _ (List.mem_append_left _ (List.mem_append_left _ (List.mem_append_left _ (List.mem_append_left _ (List.mem_append_right _ (List.mem_append_right _ (List.mem_append_right _ (List.mem_append_right _ (List.mem_append_right _ (List.mem_append_right _ (List.mem_append_right _ (List.mem_append_right _ (List.mem_append_right _ (List.mem_append_right _ (List.mem_append_right _ (List.mem_append_right _ (List.mem_append_right _ (List.mem_append_right _ (List.mem_append_right _ (List.mem_append_right _ (List.mem_append_right _ (List.mem_append_right _ (List.mem_append_right _ (List.mem_append_right _ (List.mem_append_right _ (List.mem_append_right _ (List.mem_append_right _ (List.mem_append_right _ (List.mem_append_left _ h))))))))))))))))))))))))))))))))))
theorem seg_26 : ∀ w ∈ wsL_law0_r26, w ∈ wsL_law := fun w h => law0_in w (List.mem_append_left _ (List.mem_append_left _ (List.mem_append_left _ (List.mem_append_left _ (List.mem_append_left _ (List.mem_append_left _ (List.mem_append_left _ (List.mem_append_left _ (List.mem_append_left _ (List.mem_append_right _ (List.mem_append_right _ (List.mem_append_right _ (List.mem_append_right _ (List.mem_append_right _ (List.mem_append_right _ (List.mem_append_right _ (List.mem_append_right _ (List.mem_append_right _ (List.mem_append_right _ (List.mem_append_right _ (List.mem_append_right _ (List.mem_append_right _ (List.mem_append_right _ (List.mem_append_right _ (List.mem_append_right _ (List.mem_append_right _ (List.mem_append_right _ (List.mem_append_right _ (List.mem_append_right _ (List.mem_append_right _ (List.mem_append_right _ (List.mem_append_right _ (List.mem_append_right _ (List.mem_append_right _ (List.mem_append_left _ h)))))))))))))))))))))))))))))))))))
theorem seg_27 : ∀ w ∈ wsL_law0_r27, w ∈ wsL_law := fun w h => law0_in w (List.mem_append_left _ (List.mem_append_left _ (List.mem_append_left _ (List.mem_append_left _ (List.mem_append_left _ (List.mem_append_left _ (List.mem_append_left _ (List.mem_append_left _ (List.mem_append_left _ (List.mem_append_right _ (List.mem_append_right _ (List.mem_append_right _ (List.mem_append_right _ (List.mem_append_right _ (List.mem_append_right _ (List.mem_append_right _ (List.mem_append_right _ (List.mem_append_right _ (List.mem_append_right _ (List.mem_append_right _ (List.mem_append_right _ (List.mem_append_right _ (List.mem_append_right _ (List.mem_append_right _ (List.mem_append_right _ (List.mem_append_right _ (List.mem_append_right _ (List.mem_append_right _ (List.mem_append_right _ (List.mem_append_right _ (List.mem_append_right _ (List.mem_append_right _ (List.mem_append_right _ (List.mem_append_right _ (List.mem_append_right _ (List.mem_append_left _ h))))))))))))))))))))))))))))))))))))
theorem seg_28 : ∀ w ∈ wsL_law0_r28, w ∈ wsL_law := fun w h => law0_in w (List.mem_append_left _ (List.mem_append_left _ (List.mem_append_left _ (List.mem_append_left _ (List.mem_append_left _ (List.mem_append_left _ (List.mem_append_left _ (List.mem_append_left _ (List.mem_append_left _ (List.mem_append_right _ (List.mem_append_right _ (List.mem_append_right _ (List.mem_append_right _ (List.mem_append_right _ (List.mem_append_right _ (List.mem_append_right _ (List.mem_append_right _ (List.mem_append_right _ (List.mem_append_right _ (List.mem_append_right _ (List.mem_append_right _ (List.mem_append_right _ (List.mem_append_right _ (List.mem_append_right _ (List.mem_append_right _ (List.mem_append_right _ (List.mem_append_right _ (List.mem_append_right _ (List.mem_append_right _ (List.mem_append_right _ (List.mem_append_right _ (List.mem_append_right _ (List.mem_append_right _ (List.mem_append_right _ (List.mem_append_right _ (List.mem_append_right _ (List.mem_append_left _ h)))))))))))))))))))))))))))))))))))))
theorem seg_29 : ∀ w ∈ wsL_law0_r29, w ∈ wsL_law := fun w h => law0_in w (List.mem_append_left _ (List.mem_append_left _ (List.mem_append_left _ (List.mem_append_left _ (List.mem_append_left _ (List.mem_append_left _ (List.mem_append_left _ (List.mem_append_left _ (List.mem_append_left _ (List.mem_append_right _ (List.mem_append_right _ (List.mem_append_right _ (List.mem_append_right _ (List.mem_append_right _ (List.mem_append_right _ (List.mem_append_right _ (List.mem_append_right _ (List.mem_append_right _ (List.mem_append_right _ (List.mem_append_right _ (List.mem_append_right _ (List.mem_append_right _ (List.mem_append_right _ (List.mem_append_right _ (List.mem_append_right _ (List.mem_append_right _ (List.mem_append_right _ (List.mem_append_right _ (List.mem_append_right _ (List.mem_append_right _ (List.mem_append_right _ (List.mem_append_right _ (List.mem_append_right _ (List.mem_append_right _ (List.mem_append_right _ (List.mem_append_right _ (List.mem_append_right _ (List.mem_append_left _ h))))))))))))))))))))))))))))))))))))))
theorem seg_30 : ∀ w ∈ wsL_law0_r30, w ∈ wsL_law := fun w h => law0_in w (List.mem_append_left _ (List.mem_append_left _ (List.mem_append_left _ (List.mem_append_left _ (List.mem_append_left _ (List.mem_append_left _ (List.mem_append_left _ (List.mem_append_left _ (List.mem_append_left _ (List.mem_append_right _ (List.mem_append_right _ (List.mem_append_right _ (List.mem_append_right _ (List.mem_append_right _ (List.mem_append_right _ (List.mem_append_right _ (List.mem_append_right _ (List.mem_append_right _ (List.mem_append_right _ (List.mem_append_right _ (List.mem_append_right _ (List.mem_append_right _ (List.mem_append_right _ (List.mem_append_right _ (List.mem_append_right _ (List.mem_append_right _ (List.mem_append_right _ (List.mem_append_right _ (List.mem_append_right _ (List.mem_append_right _ (List.mem_append_right _ (List.mem_append_right _ (List.mem_append_right _ (List.mem_append_right _ (List.mem_append_right _ (List.mem_append_right _ (List.mem_append_right _ (List.mem_append_right _ (List.mem_append_left _ h)))))))))))))))))))))))))))))))))))))))
theorem seg_31 : ∀ w ∈ wsL_law0_r31, w ∈ wsL_law := fun w h => law0_in w (List.mem_append_left _ (List.mem_append_left _ (List.mem_append_left _ (List.mem_append_left _ (List.mem_append_left _ (List.mem_append_left _ (List.mem_append_left _ (List.mem_append_left _ (List.mem_append_left _ (List.mem_append_right _ (List.mem_append_right _ (List.mem_append_right _ (List.mem_append_right _ (List.mem_append_right _ (List.mem_append_right _ (List.mem_append_right _ (List.mem_append_right _ (List.mem_append_right _ (List.mem_append_right _ (List.mem_append_right _ (List.mem_append_right _ (List.mem_append_right _ (List.mem_append_right _ (List.mem_append_right _ (List.mem_append_right _ (List.mem_append_right _ (List.mem_append_right _ (List.mem_append_right _ (List.mem_append_right _ (List.mem_append_right _ (List.mem_append_right _ (List.mem_append_right _ (List.mem_append_right _ (List.mem_append_right _ (List.mem_append_right _ (List.mem_append_right _ (List.mem_append_right _ (List.mem_append_right _ (List.mem_append_right _ (List.mem_append_left _ h))))))))))))))))))))))))))))))))))))))))
theorem seg_32 : ∀ w ∈ wsL_law0_r32, w ∈ wsL_law := fun w h => law0_in w (List.mem_append_left _ (List.mem_append_left _ (List.mem_append_left _ (List.mem_append_left _ (List.mem_append_left _ (List.mem_append_left _ (List.mem_append_left _ (List.mem_append_left _ (List.mem_append_left _ (List.mem_append_right _ (List.mem_append_right _ (List.mem_append_right _ (List.mem_append_right _ (List.mem_append_right _ (List.mem_append_right _ (List.mem_append_right _ (List.mem_append_right _ (List.mem_append_right _ (List.mem_append_right _ (List.mem_append_right _ (List.mem_append_right _ (List.mem_append_right _ (List.mem_append_right _ (List.mem_append_right _ (List.mem_append_right _ (List.mem_append_right _ (List.mem_append_right _ (List.mem_append_right _ (List.mem_append_right _ (List.mem_append_right _ (List.mem_append_right _ (List.mem_append_right _ (List.mem_append_right _ (List.mem_append_right _ (List.mem_append_right _ (List.mem_append_right _ (List.mem_append_right _ (List.mem_append_right _ (List.mem_append_right _ (List.mem_append_right _ (List.mem_append_left _ h)))))))))))))))))))))))))))))))))))))))))
theorem seg_33 : ∀ w ∈ wsL_law0_r33, w ∈ wsL_law := fun w h => law0_in w (List.mem_append_left _ (List.mem_append_left _ (List.mem_append_left _ (List.mem_append_left _ (List.mem_append_left _ (List.mem_append_left _ (List.mem_append_left _ (List.mem_append_left _ (List.mem_append_left _ (List.mem_append_right _ (List.mem_append_right _ (List.mem_append_right _ (List.mem_append_right _ (List.mem_append_right _ (List.mem_append_right _ (List.mem_append_right _ (List.mem_append_right _ (List.mem_append_right _ (List.mem_append_right _ (List.mem_append_right _ (List.mem_append_right _ (List.mem_append_right _ (List.mem_append_right _ (List.mem_append_right _ (List.mem_append_right _ (List.mem_append_right _ (List.mem_append_right _ (List.mem_append_right _ (List.mem_append_right _ (List.mem_append_right _ (List.mem_append_right _ (List.mem_append_right _ (List.mem_append_right _ (List.mem_append_right _ (List.mem_append_right _ (List.mem_append_right _ (List.mem_append_right _ (List.mem_append_right _ (List.mem_append_right _ (List.mem_append_right _ (List.mem_append_right _ (List.mem_append_left _ h))))))))))))))))))))))))))))))))))))))))))
theorem seg_34 : ∀ w ∈ wsL_law0_r34, w ∈ wsL_law := fun w h => law0_in w (List.mem_append_left _ (List.mem_append_left _ (List.mem_append_left _ (List.mem_append_left _ (List.mem_append_left _ (List.mem_append_left _ (List.mem_append_left _ (List.mem_append_left _ (List.mem_append_left _ (List.mem_append_right _ (List.mem_append_right _ (List.mem_append_right _ (List.mem_append_right _ (List.mem_append_right _ (List.mem_append_right _ (List.mem_append_right _ (List.mem_append_right _ (List.mem_append_right _ (List.mem_append_right _ (List.mem_append_right _ (List.mem_append_right _ (List.mem_append_right _ (List.mem_append_right _ (List.mem_append_right _ (List.mem_append_right _ (List.mem_append_right _ (List.mem_append_right _ (List.mem_append_right _ (List.mem_append_right _ (List.mem_append_right _ (List.mem_append_right _ (List.mem_append_right _ (List.mem_append_right _ (List.mem_append_right _ (List.mem_append_right _ (List.mem_append_right _ (List.mem_append_right _ (List.mem_append_right _ (List.mem_append_right _ (List.mem_append_right _ (List.mem_append_right _ (List.mem_append_right _ (List.mem_append_left _ h)))))))))))))))))))))))))))))))))))))))))))
theorem seg_35 : ∀ w ∈ wsL_law0_r35, w ∈ wsL_law := fun w h => law0_in w (List.mem_append_left _ (List.mem_append_left _ (List.mem_append_left _ (List.mem_append_left _ (List.mem_append_left _ (List.mem_append_left _ (List.mem_append_left _ (List.mem_append_left _ (List.mem_append_left _ (List.mem_append_right _ (List.mem_append_right _ (List.mem_append_right _ (List.mem_append_right _ (List.mem_append_right _ (List.mem_append_right _ (List.mem_append_right _ (List.mem_append_right _ (List.mem_append_right _ (List.mem_append_right _ (List.mem_append_right _ (List.mem_append_right _ (List.mem_append_right _ (List.mem_append_right _ (List.mem_append_right _ (List.mem_append_right _ (List.mem_append_right _ (List.mem_append_right _ (List.mem_append_right _ (List.mem_append_right _ (List.mem_append_right _ (List.mem_append_right _ (List.mem_append_right _ (List.mem_append_right _ (List.mem_append_right _ (List.mem_append_right _ (List.mem_append_right _ (List.mem_append_right _ (List.mem_append_right _ (List.mem_append_right _ (List.mem_append_right _ (List.mem_append_right _ (List.mem_append_right _ (List.mem_append_right _ (List.mem_append_left _ h))))))))))))))))))))))))))))))))))))))))))))
theorem seg_36 : ∀ w ∈ wsL_law0_r36, w ∈ wsL_law := fun w h => law0_in w (List.mem_append_left _ (List.mem_append_left _ (List.mem_append_left _ (List.mem_append_left _ (List.mem_append_left _ (List.mem_append_left _ (List.mem_append_left _ (List.mem_append_left _ (List.mem_append_left _ (List.mem_append_right _ (List.mem_append_right _ (List.mem_append_right _ (List.mem_append_right _ (List.mem_append_right _ (List.mem_append_right _ (List.mem_append_right _ (List.mem_append_right _ (List.mem_append_right _ (List.mem_append_right _ (List.mem_append_right _ (List.mem_append_right _ (List.mem_append_right _ (List.mem_append_right _ (List.mem_append_right _ (List.mem_append_right _ (List.mem_append_right _ (List.mem_append_right _ (List.mem_append_right _ (List.mem_append_right _ (List.mem_append_right _ (List.mem_append_right _ (List.mem_append_right _ (List.mem_append_right _ (List.mem_append_right _ (List.mem_append_right _ (List.mem_append_right _ (List.mem_append_right _ (List.mem_append_right _ (List.mem_append_right _ (List.mem_append_right _ (List.mem_append_right _ (List.mem_append_right _ (List.mem_append_right _ (List.mem_append_right _ (List.mem_append_left _ h)))))))))))))))))))))))))))))))))))))))))))))
theorem seg_37 : ∀ w ∈ wsL_law0_r37, w ∈ wsL_law := fun w h => law0_in w (List.mem_append_left _ (List.mem_append_left _ (List.mem_append_left _ (List.mem_append_left _ (List.mem_append_left _ (List.mem_append_left _ (List.mem_append_left _ (List.mem_append_left _ (List.mem_append_left _ (List.mem_append_right _ (List.mem_append_right _ (List.mem_append_right _ (List.mem_append_right _ (List.mem_append_right _ (List.mem_append_right _ (List.mem_append_right _ (List.mem_append_right _ (List.mem_append_right _ (List.mem_append_right _ (List.mem_append_right _ (List.mem_append_right _ (List.mem_append_right _ (List.mem_append_right _ (List.mem_append_right _ (List.mem_append_right _ (List.mem_append_right _ (List.mem_append_right _ (List.mem_append_right _ (List.mem_append_right _ (List.mem_append_right _ (List.mem_append_right _ (List.mem_append_right _ (List.mem_append_right _ (List.mem_append_right _ (List.mem_append_right _ (List.mem_append_right _ (List.mem_append_right _ (List.mem_append_right _ (List.mem_append_right _ (List.mem_append_right _ (List.mem_append_right _ (List.mem_append_right _ (List.mem_append_right _ (List.mem_append_right _ (List.mem_append_right _ (h))))))))))))))))))))))))))))))))))))))))))))))
theorem n_0 : Cond.fieldLinkNest RX6 166 "EdgeHolders$Graph" "numbers" "LEdgeHolders$Row;" "EdgeHolders" ∈ nstW := List.mem_of_getElem? (i := 0) rfl
theorem n_1 : Cond.fieldLinkNest RX6 149 "EdgeHolders$Graph" "firsts" "LEdgeHolders$Row;" "EdgeHolders" ∈ nstW := List.mem_of_getElem? (i := 1) rfl
theorem n_2 : Cond.fieldLinkNest RX6 152 "EdgeHolders$Graph" "seconds" "LEdgeHolders$Row;" "EdgeHolders" ∈ nstW := List.mem_of_getElem? (i := 2) rfl
theorem n_3 : Cond.fieldLinkNest RX5 49 "EdgeHolders$Graph" "holders" "LEdgeHolders$Row;" "EdgeHolders" ∈ nstW := List.mem_of_getElem? (i := 3) rfl
theorem n_4 : Cond.fieldLinkNest RX6 155 "EdgeHolders$Graph" "holders" "LEdgeHolders$Row;" "EdgeHolders" ∈ nstW := List.mem_of_getElem? (i := 4) rfl
theorem n_5 : Cond.fieldLinkNest RX6 158 "EdgeHolders$Graph" "turnings" "LEdgeHolders$Row;" "EdgeHolders" ∈ nstW := List.mem_of_getElem? (i := 5) rfl
theorem n_6 : Cond.fieldLinkNest RX5 66 "EdgeHolders$Graph" "loads" "LEdgeHolders$Row;" "EdgeHolders" ∈ nstW := List.mem_of_getElem? (i := 6) rfl
theorem n_7 : Cond.fieldLinkNest RX6 130 "EdgeHolders$Graph" "loads" "LEdgeHolders$Row;" "EdgeHolders" ∈ nstW := List.mem_of_getElem? (i := 7) rfl
theorem n_8 : Cond.fieldLinkNest RX6 118 "EdgeHolders$Graph" "capacities" "LEdgeHolders$Row;" "EdgeHolders" ∈ nstW := List.mem_of_getElem? (i := 8) rfl
theorem n_9 : Cond.fieldLinkNest RX3 35 "EdgeHolders$Graph" "nodes" "I" "EdgeHolders" ∈ nstW := List.mem_of_getElem? (i := 9) rfl
theorem n_10 : Cond.fieldLinkNest RX5 88 "EdgeHolders$Graph" "nodes" "I" "EdgeHolders" ∈ nstW := List.mem_of_getElem? (i := 10) rfl
theorem n_11 : Cond.fieldLinkNest RX6 169 "EdgeHolders$Graph" "nodes" "I" "EdgeHolders" ∈ nstW := List.mem_of_getElem? (i := 11) rfl
theorem n_12 : Cond.fieldLinkNest RX6 54 "EdgeHolders$Graph" "edges" "I" "EdgeHolders" ∈ nstW := List.mem_of_getElem? (i := 12) rfl
theorem n_13 : Cond.fieldLinkNest RX5 44 "EdgeHolders$Graph" "edges" "I" "EdgeHolders" ∈ nstW := List.mem_of_getElem? (i := 13) rfl
theorem n_14 : Cond.fieldLinkNest RX6 185 "EdgeHolders$Graph" "nextNumber" "I" "EdgeHolders" ∈ nstW := List.mem_of_getElem? (i := 14) rfl
theorem n_15 : Cond.fieldLinkNest RX6 182 "EdgeHolders$Graph" "turned" "I" "EdgeHolders" ∈ nstW := List.mem_of_getElem? (i := 15) rfl
theorem n_16 : Cond.fieldLinkNest RX6 144 "EdgeHolders$Search" "visited" "I" "EdgeHolders" ∈ nstW := List.mem_of_getElem? (i := 16) rfl
theorem n_17 : Cond.fieldLinkNest RX6 207 "EdgeHolders$PartTable" "densestPart" "I" "EdgeHolders" ∈ nstW := List.mem_of_getElem? (i := 17) rfl
theorem n_18 : Cond.fieldLinkNest RX6 210 "EdgeHolders$PartTable" "leastLoad" "I" "EdgeHolders" ∈ nstW := List.mem_of_getElem? (i := 18) rfl
theorem n_19 : Cond.fieldLinkNest RX6 233 "EdgeHolders$OrderText" "length" "I" "EdgeHolders" ∈ nstW := List.mem_of_getElem? (i := 19) rfl
theorem n_20 : Cond.fieldLinkNest RX6 306 "EdgeHolders$OrderText" "kind" "I" "EdgeHolders" ∈ nstW := List.mem_of_getElem? (i := 20) rfl
theorem n_21 : Cond.fieldLinkNest RX6 309 "EdgeHolders$OrderText" "firstNode" "I" "EdgeHolders" ∈ nstW := List.mem_of_getElem? (i := 21) rfl
theorem n_22 : Cond.fieldLinkNest RX6 312 "EdgeHolders$OrderText" "secondNode" "I" "EdgeHolders" ∈ nstW := List.mem_of_getElem? (i := 22) rfl
theorem n_23 : Cond.fieldLinkNest RX6 319 "EdgeHolders$OrderText" "number" "I" "EdgeHolders" ∈ nstW := List.mem_of_getElem? (i := 23) rfl
theorem n_24 : Cond.fieldLinkNest RX6 256 "EdgeHolders$History" "saved" "I" "EdgeHolders" ∈ nstW := List.mem_of_getElem? (i := 24) rfl
theorem n_25 : Cond.methodLinkNest RX6 21 ⟨"EdgeHolders$Search", "<init>", "()V"⟩ "EdgeHolders" ∈ nstW := List.mem_of_getElem? (i := 25) rfl
theorem n_26 : Cond.methodLinkNest RX6 28 ⟨"EdgeHolders$PartTable", "<init>", "()V"⟩ "EdgeHolders" ∈ nstW := List.mem_of_getElem? (i := 26) rfl
theorem n_27 : Cond.methodLinkNest RX6 35 ⟨"EdgeHolders$OrderText", "<init>", "()V"⟩ "EdgeHolders" ∈ nstW := List.mem_of_getElem? (i := 27) rfl
end
section
set_option maxHeartbeats 4000000 in
theorem z_iconst {K : MCx} {G : Lay} {own : String} {cc : ByteArray} {nL : Nat} {ret : Option FieldType} {rf rl : Nat} {ρ : Type} {P : ρ → Prop} {Q : ρ → State → Prop} {pc : Nat} {lv : List (Nat × Value)} {st : List Value} {h : Int64} {σ : cS} {E : Option ρ} (X : Cx K G own cc nL ret rf rl) {n : Int} {v : Int32} (hdg : decode cc pc = .ok (.iconst n, 1)) (hv : Int32.ofInt n = v) (k : Sm K G P Q nL (pc + 1) (lv) (.int v :: st) h σ (E)) : Sm K G P Q nL (pc) (lv) (st) h σ (E) := fun r hr hp H locs ls hP hS hl => lv_iconst X.1 X.2.1 hdg hv (k r hr hp H locs ls hP hS hl)
set_option maxHeartbeats 4000000 in
theorem z_bipush {K : MCx} {G : Lay} {own : String} {cc : ByteArray} {nL : Nat} {ret : Option FieldType} {rf rl : Nat} {ρ : Type} {P : ρ → Prop} {Q : ρ → State → Prop} {pc : Nat} {lv : List (Nat × Value)} {st : List Value} {h : Int64} {σ : cS} {E : Option ρ} (X : Cx K G own cc nL ret rf rl) {n : Int} {v : Int32} (hdg : decode cc pc = .ok (.bipush n, 2)) (hv : (Int8.ofInt n).toInt32 = v) (k : Sm K G P Q nL (pc + 2) (lv) (.int v :: st) h σ (E)) : Sm K G P Q nL (pc) (lv) (st) h σ (E) := fun r hr hp H locs ls hP hS hl => lv_bipush X.1 X.2.1 hdg hv (k r hr hp H locs ls hP hS hl)
set_option maxHeartbeats 4000000 in
theorem z_sipush {K : MCx} {G : Lay} {own : String} {cc : ByteArray} {nL : Nat} {ret : Option FieldType} {rf rl : Nat} {ρ : Type} {P : ρ → Prop} {Q : ρ → State → Prop} {pc : Nat} {lv : List (Nat × Value)} {st : List Value} {h : Int64} {σ : cS} {E : Option ρ} (X : Cx K G own cc nL ret rf rl) {n : Int} {v : Int32} (hdg : decode cc pc = .ok (.sipush n, 3)) (hv : (Int16.ofInt n).toInt32 = v) (k : Sm K G P Q nL (pc + 3) (lv) (.int v :: st) h σ (E)) : Sm K G P Q nL (pc) (lv) (st) h σ (E) := fun r hr hp H locs ls hP hS hl => lv_sipush X.1 X.2.1 hdg hv (k r hr hp H locs ls hP hS hl)
set_option maxHeartbeats 4000000 in
theorem z_ldc {K : MCx} {G : Lay} {own : String} {cc : ByteArray} {nL : Nat} {ret : Option FieldType} {rf rl : Nat} {ρ : Type} {P : ρ → Prop} {Q : ρ → State → Prop} {pc : Nat} {lv : List (Nat × Value)} {st : List Value} {h : Int64} {σ : cS} {E : Option ρ} (X : Cx K G own cc nL ret rf rl) {index : Nat} {v : Int32} (hw : Jvm.Cond.constant own index v ∈ wsL_law) (hdg : decode cc pc = .ok (.ldc index, 2)) (k : Sm K G P Q nL (pc + 2) (lv) (.int v :: st) h σ (E)) : Sm K G P Q nL (pc) (lv) (st) h σ (E) := fun r hr hp H locs ls hP hS hl => lv_ldc X.1 X.2.1 X.2.2.2.1 (X.2.2.2.2.1 _ hw) hdg (k r hr hp H locs ls hP hS hl)
set_option maxHeartbeats 4000000 in
theorem z_lconst {K : MCx} {G : Lay} {own : String} {cc : ByteArray} {nL : Nat} {ret : Option FieldType} {rf rl : Nat} {ρ : Type} {P : ρ → Prop} {Q : ρ → State → Prop} {pc : Nat} {lv : List (Nat × Value)} {st : List Value} {h : Int64} {σ : cS} {E : Option ρ} (X : Cx K G own cc nL ret rf rl) {n : Fin 2} {v : Int64} (hdg : decode cc pc = .ok (.lconst n, 1)) (hv : Int64.ofNat (n : Nat) = v) (k : Sm K G P Q nL (pc + 1) (lv) (.long v :: st) h σ (E)) : Sm K G P Q nL (pc) (lv) (st) h σ (E) := fun r hr hp H locs ls hP hS hl => lv_lconst X.1 X.2.1 hdg hv (k r hr hp H locs ls hP hS hl)
set_option maxHeartbeats 4000000 in
theorem z_ldc2 {K : MCx} {G : Lay} {own : String} {cc : ByteArray} {nL : Nat} {ret : Option FieldType} {rf rl : Nat} {ρ : Type} {P : ρ → Prop} {Q : ρ → State → Prop} {pc : Nat} {lv : List (Nat × Value)} {st : List Value} {h : Int64} {σ : cS} {E : Option ρ} (X : Cx K G own cc nL ret rf rl) {index : Nat} {v : Int64} (hw : Jvm.Cond.constantLong own index v ∈ wsL_law) (hdg : decode cc pc = .ok (.ldc2_w index, 3)) (k : Sm K G P Q nL (pc + 3) (lv) (.long v :: st) h σ (E)) : Sm K G P Q nL (pc) (lv) (st) h σ (E) := fun r hr hp H locs ls hP hS hl => lv_ldc2 X.1 X.2.1 X.2.2.2.1 (X.2.2.2.2.1 _ hw) hdg (k r hr hp H locs ls hP hS hl)
set_option maxHeartbeats 4000000 in
theorem z_iload_n {K : MCx} {G : Lay} {own : String} {cc : ByteArray} {nL : Nat} {ret : Option FieldType} {rf rl : Nat} {ρ : Type} {P : ρ → Prop} {Q : ρ → State → Prop} {pc : Nat} {lv : List (Nat × Value)} {st : List Value} {h : Int64} {σ : cS} {E : Option ρ} (X : Cx K G own cc nL ret rf rl) {n : Fin 4} {x : Int32} (hdg : decode cc pc = .ok (.iload_n n, 1)) (j : Nat) (hj : lv[j]? = some ((n : Nat), .int x)) (k : Sm K G P Q nL (pc + 1) (lv) (.int x :: st) h σ (E)) : Sm K G P Q nL (pc) (lv) (st) h σ (E) := fun r hr hp H locs ls hP hS hl => lv_iload_n X.1 X.2.1 hdg rfl (lv_at hl j hj) (k r hr hp H locs ls hP hS hl)
set_option maxHeartbeats 4000000 in
theorem z_iload {K : MCx} {G : Lay} {own : String} {cc : ByteArray} {nL : Nat} {ret : Option FieldType} {rf rl : Nat} {ρ : Type} {P : ρ → Prop} {Q : ρ → State → Prop} {pc : Nat} {lv : List (Nat × Value)} {st : List Value} {h : Int64} {σ : cS} {E : Option ρ} (X : Cx K G own cc nL ret rf rl) {n : Nat} {x : Int32} (hdg : decode cc pc = .ok (.iload n, 2)) (j : Nat) (hj : lv[j]? = some (n, .int x)) (k : Sm K G P Q nL (pc + 2) (lv) (.int x :: st) h σ (E)) : Sm K G P Q nL (pc) (lv) (st) h σ (E) := fun r hr hp H locs ls hP hS hl => lv_iload X.1 X.2.1 hdg (lv_at hl j hj) (k r hr hp H locs ls hP hS hl)
set_option maxHeartbeats 4000000 in
theorem z_aload_n {K : MCx} {G : Lay} {own : String} {cc : ByteArray} {nL : Nat} {ret : Option FieldType} {rf rl : Nat} {ρ : Type} {P : ρ → Prop} {Q : ρ → State → Prop} {pc : Nat} {lv : List (Nat × Value)} {st : List Value} {h : Int64} {σ : cS} {E : Option ρ} (X : Cx K G own cc nL ret rf rl) {n : Fin 4} {x : Nat} (hdg : decode cc pc = .ok (.aload_n n, 1)) (j : Nat) (hj : lv[j]? = some ((n : Nat), .ref x)) (k : Sm K G P Q nL (pc + 1) (lv) (.ref x :: st) h σ (E)) : Sm K G P Q nL (pc) (lv) (st) h σ (E) := fun r hr hp H locs ls hP hS hl => lv_aload_n X.1 X.2.1 hdg rfl (lv_at hl j hj) (k r hr hp H locs ls hP hS hl)
set_option maxHeartbeats 4000000 in
theorem z_aload {K : MCx} {G : Lay} {own : String} {cc : ByteArray} {nL : Nat} {ret : Option FieldType} {rf rl : Nat} {ρ : Type} {P : ρ → Prop} {Q : ρ → State → Prop} {pc : Nat} {lv : List (Nat × Value)} {st : List Value} {h : Int64} {σ : cS} {E : Option ρ} (X : Cx K G own cc nL ret rf rl) {n : Nat} {x : Nat} (hdg : decode cc pc = .ok (.aload n, 2)) (j : Nat) (hj : lv[j]? = some (n, .ref x)) (k : Sm K G P Q nL (pc + 2) (lv) (.ref x :: st) h σ (E)) : Sm K G P Q nL (pc) (lv) (st) h σ (E) := fun r hr hp H locs ls hP hS hl => lv_aload X.1 X.2.1 hdg (lv_at hl j hj) (k r hr hp H locs ls hP hS hl)
set_option maxHeartbeats 4000000 in
theorem z_lload_n {K : MCx} {G : Lay} {own : String} {cc : ByteArray} {nL : Nat} {ret : Option FieldType} {rf rl : Nat} {ρ : Type} {P : ρ → Prop} {Q : ρ → State → Prop} {pc : Nat} {lv : List (Nat × Value)} {st : List Value} {h : Int64} {σ : cS} {E : Option ρ} (X : Cx K G own cc nL ret rf rl) {n : Fin 4} {x : Int64} (hdg : decode cc pc = .ok (.lload_n n, 1)) (j : Nat) (hj : lv[j]? = some ((n : Nat), .long x)) (k : Sm K G P Q nL (pc + 1) (lv) (.long x :: st) h σ (E)) : Sm K G P Q nL (pc) (lv) (st) h σ (E) := fun r hr hp H locs ls hP hS hl => lv_lload_n X.1 X.2.1 hdg rfl (lv_at hl j hj) (k r hr hp H locs ls hP hS hl)
set_option maxHeartbeats 4000000 in
theorem z_lload {K : MCx} {G : Lay} {own : String} {cc : ByteArray} {nL : Nat} {ret : Option FieldType} {rf rl : Nat} {ρ : Type} {P : ρ → Prop} {Q : ρ → State → Prop} {pc : Nat} {lv : List (Nat × Value)} {st : List Value} {h : Int64} {σ : cS} {E : Option ρ} (X : Cx K G own cc nL ret rf rl) {n : Nat} {x : Int64} (hdg : decode cc pc = .ok (.lload n, 2)) (j : Nat) (hj : lv[j]? = some (n, .long x)) (k : Sm K G P Q nL (pc + 2) (lv) (.long x :: st) h σ (E)) : Sm K G P Q nL (pc) (lv) (st) h σ (E) := fun r hr hp H locs ls hP hS hl => lv_lload X.1 X.2.1 hdg (lv_at hl j hj) (k r hr hp H locs ls hP hS hl)
set_option maxHeartbeats 4000000 in
theorem z_istore_n {K : MCx} {G : Lay} {own : String} {cc : ByteArray} {nL : Nat} {ret : Option FieldType} {rf rl : Nat} {ρ : Type} {P : ρ → Prop} {Q : ρ → State → Prop} {pc : Nat} {lv : List (Nat × Value)} {st : List Value} {h : Int64} {σ : cS} {E : Option ρ} (X : Cx K G own cc nL ret rf rl) {n : Fin 4} {x : Int32} (lv' : List (Nat × Value)) (hdg : decode cc pc = .ok (.istore_n n, 1)) (hn : (n : Nat) < nL) (hl' : ((n : Nat), Value.int x) :: lv.filter (fun q => !(q.1 == (n : Nat)) && !(q.1 + 1 == (n : Nat) && q.2.category == 2)) = lv') (k : Sm K G P Q nL (pc + 1) (lv') (st) h σ (E)) : Sm K G P Q nL (pc) (lv) (.int x :: st) h σ (E) := fun r hr hp H locs ls hP hS hl => lv_istore_n X.1 X.2.1 hdg rfl hl hn hl' (fun ls' hl'' => k r hr hp H locs ls' hP hS hl'')
set_option maxHeartbeats 4000000 in
theorem z_istore {K : MCx} {G : Lay} {own : String} {cc : ByteArray} {nL : Nat} {ret : Option FieldType} {rf rl : Nat} {ρ : Type} {P : ρ → Prop} {Q : ρ → State → Prop} {pc : Nat} {lv : List (Nat × Value)} {st : List Value} {h : Int64} {σ : cS} {E : Option ρ} (X : Cx K G own cc nL ret rf rl) {n : Nat} {x : Int32} (lv' : List (Nat × Value)) (hdg : decode cc pc = .ok (.istore n, 2)) (hn : n < nL) (hl' : (n, Value.int x) :: lv.filter (fun q => !(q.1 == n) && !(q.1 + 1 == n && q.2.category == 2)) = lv') (k : Sm K G P Q nL (pc + 2) (lv') (st) h σ (E)) : Sm K G P Q nL (pc) (lv) (.int x :: st) h σ (E) := fun r hr hp H locs ls hP hS hl => lv_istore X.1 X.2.1 hdg hl hn hl' (fun ls' hl'' => k r hr hp H locs ls' hP hS hl'')
set_option maxHeartbeats 4000000 in
theorem z_astore_n {K : MCx} {G : Lay} {own : String} {cc : ByteArray} {nL : Nat} {ret : Option FieldType} {rf rl : Nat} {ρ : Type} {P : ρ → Prop} {Q : ρ → State → Prop} {pc : Nat} {lv : List (Nat × Value)} {st : List Value} {h : Int64} {σ : cS} {E : Option ρ} (X : Cx K G own cc nL ret rf rl) {n : Fin 4} {x : Nat} (lv' : List (Nat × Value)) (hdg : decode cc pc = .ok (.astore_n n, 1)) (hn : (n : Nat) < nL) (hl' : ((n : Nat), Value.ref x) :: lv.filter (fun q => !(q.1 == (n : Nat)) && !(q.1 + 1 == (n : Nat) && q.2.category == 2)) = lv') (k : Sm K G P Q nL (pc + 1) (lv') (st) h σ (E)) : Sm K G P Q nL (pc) (lv) (.ref x :: st) h σ (E) := fun r hr hp H locs ls hP hS hl => lv_astore_n X.1 X.2.1 hdg rfl hl hn hl' (fun ls' hl'' => k r hr hp H locs ls' hP hS hl'')
set_option maxHeartbeats 4000000 in
theorem z_astore {K : MCx} {G : Lay} {own : String} {cc : ByteArray} {nL : Nat} {ret : Option FieldType} {rf rl : Nat} {ρ : Type} {P : ρ → Prop} {Q : ρ → State → Prop} {pc : Nat} {lv : List (Nat × Value)} {st : List Value} {h : Int64} {σ : cS} {E : Option ρ} (X : Cx K G own cc nL ret rf rl) {n : Nat} {x : Nat} (lv' : List (Nat × Value)) (hdg : decode cc pc = .ok (.astore n, 2)) (hn : n < nL) (hl' : (n, Value.ref x) :: lv.filter (fun q => !(q.1 == n) && !(q.1 + 1 == n && q.2.category == 2)) = lv') (k : Sm K G P Q nL (pc + 2) (lv') (st) h σ (E)) : Sm K G P Q nL (pc) (lv) (.ref x :: st) h σ (E) := fun r hr hp H locs ls hP hS hl => lv_astore X.1 X.2.1 hdg hl hn hl' (fun ls' hl'' => k r hr hp H locs ls' hP hS hl'')
set_option maxHeartbeats 4000000 in
theorem z_lstore_n {K : MCx} {G : Lay} {own : String} {cc : ByteArray} {nL : Nat} {ret : Option FieldType} {rf rl : Nat} {ρ : Type} {P : ρ → Prop} {Q : ρ → State → Prop} {pc : Nat} {lv : List (Nat × Value)} {st : List Value} {h : Int64} {σ : cS} {E : Option ρ} (X : Cx K G own cc nL ret rf rl) {n : Fin 4} {x : Int64} (lv' : List (Nat × Value)) (hdg : decode cc pc = .ok (.lstore_n n, 1)) (hn : (n : Nat) + 1 < nL) (hl' : ((n : Nat), Value.long x) :: lv.filter (fun q => !(q.1 == (n : Nat)) && (!(q.1 == (n : Nat) + 1) && !(q.1 + 1 == (n : Nat) && q.2.category == 2))) = lv') (k : Sm K G P Q nL (pc + 1) (lv') (st) h σ (E)) : Sm K G P Q nL (pc) (lv) (.long x :: st) h σ (E) := fun r hr hp H locs ls hP hS hl => lv_lstore_n X.1 X.2.1 hdg rfl hl hn hl' (fun ls' hl'' => k r hr hp H locs ls' hP hS hl'')
set_option maxHeartbeats 4000000 in
theorem z_lstore {K : MCx} {G : Lay} {own : String} {cc : ByteArray} {nL : Nat} {ret : Option FieldType} {rf rl : Nat} {ρ : Type} {P : ρ → Prop} {Q : ρ → State → Prop} {pc : Nat} {lv : List (Nat × Value)} {st : List Value} {h : Int64} {σ : cS} {E : Option ρ} (X : Cx K G own cc nL ret rf rl) {n : Nat} {x : Int64} (lv' : List (Nat × Value)) (hdg : decode cc pc = .ok (.lstore n, 2)) (hn : n + 1 < nL) (hl' : (n, Value.long x) :: lv.filter (fun q => !(q.1 == n) && (!(q.1 == n + 1) && !(q.1 + 1 == n && q.2.category == 2))) = lv') (k : Sm K G P Q nL (pc + 2) (lv') (st) h σ (E)) : Sm K G P Q nL (pc) (lv) (.long x :: st) h σ (E) := fun r hr hp H locs ls hP hS hl => lv_lstore X.1 X.2.1 hdg hl hn hl' (fun ls' hl'' => k r hr hp H locs ls' hP hS hl'')
set_option maxHeartbeats 4000000 in
theorem z_iinc {K : MCx} {G : Lay} {own : String} {cc : ByteArray} {nL : Nat} {ret : Option FieldType} {rf rl : Nat} {ρ : Type} {P : ρ → Prop} {Q : ρ → State → Prop} {pc : Nat} {lv : List (Nat × Value)} {st : List Value} {h : Int64} {σ : cS} (X : Cx K G own cc nL ret rf rl) {f : Int32 → Option ρ} {i : Nat} {n : Int} {x c9 : Int32} (lv' : Int32 → List (Nat × Value)) (hdg : decode cc pc = .ok (.iinc i n, 3)) (j : Nat) (hj : lv[j]? = some (i, .int x)) (hn : i < nL) (hc : Int32.ofInt n = c9) (hl' : ∀ v, (i, Value.int v) :: lv.filter (fun q => !(q.1 == i) && !(q.1 + 1 == i && q.2.category == 2)) = lv' v) (k : ∀ v, Sm K G P Q nL (pc + 3) (lv' v) (st) h σ (f v)) : Sm K G P Q nL (pc) (lv) (st) h σ (bnd (x + c9) f) := fun r hr hp H locs ls hP hS hl => lv_iinc X.1 X.2.1 hdg hl hj (by rw [hc]) hn (hl' _) (fun ls' hl'' => k _ r hr hp H locs ls' hP hS hl'')
set_option maxHeartbeats 4000000 in
theorem z_iadd {K : MCx} {G : Lay} {own : String} {cc : ByteArray} {nL : Nat} {ret : Option FieldType} {rf rl : Nat} {ρ : Type} {P : ρ → Prop} {Q : ρ → State → Prop} {pc : Nat} {lv : List (Nat × Value)} {st : List Value} {h : Int64} {σ : cS} {E : Option ρ} (X : Cx K G own cc nL ret rf rl) {x y : Int32} (hdg : decode cc pc = .ok (.iadd, 1)) (k : Sm K G P Q nL (pc + 1) (lv) (.int (x + y) :: st) h σ (E)) : Sm K G P Q nL (pc) (lv) (.int y :: .int x :: st) h σ (E) := fun r hr hp H locs ls hP hS hl => lv_iadd X.1 X.2.1 hdg (k r hr hp H locs ls hP hS hl)
set_option maxHeartbeats 4000000 in
theorem z_isub {K : MCx} {G : Lay} {own : String} {cc : ByteArray} {nL : Nat} {ret : Option FieldType} {rf rl : Nat} {ρ : Type} {P : ρ → Prop} {Q : ρ → State → Prop} {pc : Nat} {lv : List (Nat × Value)} {st : List Value} {h : Int64} {σ : cS} {E : Option ρ} (X : Cx K G own cc nL ret rf rl) {x y : Int32} (hdg : decode cc pc = .ok (.isub, 1)) (k : Sm K G P Q nL (pc + 1) (lv) (.int (x - y) :: st) h σ (E)) : Sm K G P Q nL (pc) (lv) (.int y :: .int x :: st) h σ (E) := fun r hr hp H locs ls hP hS hl => lv_isub X.1 X.2.1 hdg (k r hr hp H locs ls hP hS hl)
set_option maxHeartbeats 4000000 in
theorem z_imul {K : MCx} {G : Lay} {own : String} {cc : ByteArray} {nL : Nat} {ret : Option FieldType} {rf rl : Nat} {ρ : Type} {P : ρ → Prop} {Q : ρ → State → Prop} {pc : Nat} {lv : List (Nat × Value)} {st : List Value} {h : Int64} {σ : cS} {E : Option ρ} (X : Cx K G own cc nL ret rf rl) {x y : Int32} (hdg : decode cc pc = .ok (.imul, 1)) (k : Sm K G P Q nL (pc + 1) (lv) (.int (x * y) :: st) h σ (E)) : Sm K G P Q nL (pc) (lv) (.int y :: .int x :: st) h σ (E) := fun r hr hp H locs ls hP hS hl => lv_imul X.1 X.2.1 hdg (k r hr hp H locs ls hP hS hl)
set_option maxHeartbeats 4000000 in
theorem z_iand {K : MCx} {G : Lay} {own : String} {cc : ByteArray} {nL : Nat} {ret : Option FieldType} {rf rl : Nat} {ρ : Type} {P : ρ → Prop} {Q : ρ → State → Prop} {pc : Nat} {lv : List (Nat × Value)} {st : List Value} {h : Int64} {σ : cS} {E : Option ρ} (X : Cx K G own cc nL ret rf rl) {x y : Int32} (hdg : decode cc pc = .ok (.iand, 1)) (k : Sm K G P Q nL (pc + 1) (lv) (.int (x &&& y) :: st) h σ (E)) : Sm K G P Q nL (pc) (lv) (.int y :: .int x :: st) h σ (E) := fun r hr hp H locs ls hP hS hl => lv_iand X.1 X.2.1 hdg (k r hr hp H locs ls hP hS hl)
set_option maxHeartbeats 4000000 in
theorem z_ior {K : MCx} {G : Lay} {own : String} {cc : ByteArray} {nL : Nat} {ret : Option FieldType} {rf rl : Nat} {ρ : Type} {P : ρ → Prop} {Q : ρ → State → Prop} {pc : Nat} {lv : List (Nat × Value)} {st : List Value} {h : Int64} {σ : cS} {E : Option ρ} (X : Cx K G own cc nL ret rf rl) {x y : Int32} (hdg : decode cc pc = .ok (.ior, 1)) (k : Sm K G P Q nL (pc + 1) (lv) (.int (x ||| y) :: st) h σ (E)) : Sm K G P Q nL (pc) (lv) (.int y :: .int x :: st) h σ (E) := fun r hr hp H locs ls hP hS hl => lv_ior X.1 X.2.1 hdg (k r hr hp H locs ls hP hS hl)
set_option maxHeartbeats 4000000 in
theorem z_ixor {K : MCx} {G : Lay} {own : String} {cc : ByteArray} {nL : Nat} {ret : Option FieldType} {rf rl : Nat} {ρ : Type} {P : ρ → Prop} {Q : ρ → State → Prop} {pc : Nat} {lv : List (Nat × Value)} {st : List Value} {h : Int64} {σ : cS} {E : Option ρ} (X : Cx K G own cc nL ret rf rl) {x y : Int32} (hdg : decode cc pc = .ok (.ixor, 1)) (k : Sm K G P Q nL (pc + 1) (lv) (.int (x ^^^ y) :: st) h σ (E)) : Sm K G P Q nL (pc) (lv) (.int y :: .int x :: st) h σ (E) := fun r hr hp H locs ls hP hS hl => lv_ixor X.1 X.2.1 hdg (k r hr hp H locs ls hP hS hl)
set_option maxHeartbeats 4000000 in
theorem z_ishl {K : MCx} {G : Lay} {own : String} {cc : ByteArray} {nL : Nat} {ret : Option FieldType} {rf rl : Nat} {ρ : Type} {P : ρ → Prop} {Q : ρ → State → Prop} {pc : Nat} {lv : List (Nat × Value)} {st : List Value} {h : Int64} {σ : cS} {E : Option ρ} (X : Cx K G own cc nL ret rf rl) {x y : Int32} (hdg : decode cc pc = .ok (.ishl, 1)) (k : Sm K G P Q nL (pc + 1) (lv) (.int (x <<< (y &&& 31)) :: st) h σ (E)) : Sm K G P Q nL (pc) (lv) (.int y :: .int x :: st) h σ (E) := fun r hr hp H locs ls hP hS hl => lv_ishl X.1 X.2.1 hdg (k r hr hp H locs ls hP hS hl)
set_option maxHeartbeats 4000000 in
theorem z_ishr {K : MCx} {G : Lay} {own : String} {cc : ByteArray} {nL : Nat} {ret : Option FieldType} {rf rl : Nat} {ρ : Type} {P : ρ → Prop} {Q : ρ → State → Prop} {pc : Nat} {lv : List (Nat × Value)} {st : List Value} {h : Int64} {σ : cS} {E : Option ρ} (X : Cx K G own cc nL ret rf rl) {x y : Int32} (hdg : decode cc pc = .ok (.ishr, 1)) (k : Sm K G P Q nL (pc + 1) (lv) (.int (x >>> (y &&& 31)) :: st) h σ (E)) : Sm K G P Q nL (pc) (lv) (.int y :: .int x :: st) h σ (E) := fun r hr hp H locs ls hP hS hl => lv_ishr X.1 X.2.1 hdg (k r hr hp H locs ls hP hS hl)
set_option maxHeartbeats 4000000 in
theorem z_iushr {K : MCx} {G : Lay} {own : String} {cc : ByteArray} {nL : Nat} {ret : Option FieldType} {rf rl : Nat} {ρ : Type} {P : ρ → Prop} {Q : ρ → State → Prop} {pc : Nat} {lv : List (Nat × Value)} {st : List Value} {h : Int64} {σ : cS} {E : Option ρ} (X : Cx K G own cc nL ret rf rl) {x y : Int32} (hdg : decode cc pc = .ok (.iushr, 1)) (k : Sm K G P Q nL (pc + 1) (lv) (.int ((x.toUInt32 >>> (y.toUInt32 &&& Int32.toUInt32 31)).toInt32) :: st) h σ (E)) : Sm K G P Q nL (pc) (lv) (.int y :: .int x :: st) h σ (E) := fun r hr hp H locs ls hP hS hl => lv_iushr X.1 X.2.1 hdg rfl (k r hr hp H locs ls hP hS hl)
set_option maxHeartbeats 4000000 in
theorem z_ineg {K : MCx} {G : Lay} {own : String} {cc : ByteArray} {nL : Nat} {ret : Option FieldType} {rf rl : Nat} {ρ : Type} {P : ρ → Prop} {Q : ρ → State → Prop} {pc : Nat} {lv : List (Nat × Value)} {st : List Value} {h : Int64} {σ : cS} {E : Option ρ} (X : Cx K G own cc nL ret rf rl) {x : Int32} (hdg : decode cc pc = .ok (.ineg, 1)) (k : Sm K G P Q nL (pc + 1) (lv) (.int (-x) :: st) h σ (E)) : Sm K G P Q nL (pc) (lv) (.int x :: st) h σ (E) := fun r hr hp H locs ls hP hS hl => lv_ineg X.1 X.2.1 hdg (k r hr hp H locs ls hP hS hl)
set_option maxHeartbeats 4000000 in
theorem z_ladd {K : MCx} {G : Lay} {own : String} {cc : ByteArray} {nL : Nat} {ret : Option FieldType} {rf rl : Nat} {ρ : Type} {P : ρ → Prop} {Q : ρ → State → Prop} {pc : Nat} {lv : List (Nat × Value)} {st : List Value} {h : Int64} {σ : cS} {E : Option ρ} (X : Cx K G own cc nL ret rf rl) {x y : Int64} (hdg : decode cc pc = .ok (.ladd, 1)) (k : Sm K G P Q nL (pc + 1) (lv) (.long (x + y) :: st) h σ (E)) : Sm K G P Q nL (pc) (lv) (.long y :: .long x :: st) h σ (E) := fun r hr hp H locs ls hP hS hl => lv_ladd X.1 X.2.1 hdg (k r hr hp H locs ls hP hS hl)
set_option maxHeartbeats 4000000 in
theorem z_lsub {K : MCx} {G : Lay} {own : String} {cc : ByteArray} {nL : Nat} {ret : Option FieldType} {rf rl : Nat} {ρ : Type} {P : ρ → Prop} {Q : ρ → State → Prop} {pc : Nat} {lv : List (Nat × Value)} {st : List Value} {h : Int64} {σ : cS} {E : Option ρ} (X : Cx K G own cc nL ret rf rl) {x y : Int64} (hdg : decode cc pc = .ok (.lsub, 1)) (k : Sm K G P Q nL (pc + 1) (lv) (.long (x - y) :: st) h σ (E)) : Sm K G P Q nL (pc) (lv) (.long y :: .long x :: st) h σ (E) := fun r hr hp H locs ls hP hS hl => lv_lsub X.1 X.2.1 hdg (k r hr hp H locs ls hP hS hl)
set_option maxHeartbeats 4000000 in
theorem z_lmul {K : MCx} {G : Lay} {own : String} {cc : ByteArray} {nL : Nat} {ret : Option FieldType} {rf rl : Nat} {ρ : Type} {P : ρ → Prop} {Q : ρ → State → Prop} {pc : Nat} {lv : List (Nat × Value)} {st : List Value} {h : Int64} {σ : cS} {E : Option ρ} (X : Cx K G own cc nL ret rf rl) {x y : Int64} (hdg : decode cc pc = .ok (.lmul, 1)) (k : Sm K G P Q nL (pc + 1) (lv) (.long (x * y) :: st) h σ (E)) : Sm K G P Q nL (pc) (lv) (.long y :: .long x :: st) h σ (E) := fun r hr hp H locs ls hP hS hl => lv_lmul X.1 X.2.1 hdg (k r hr hp H locs ls hP hS hl)
set_option maxHeartbeats 4000000 in
theorem z_i2l {K : MCx} {G : Lay} {own : String} {cc : ByteArray} {nL : Nat} {ret : Option FieldType} {rf rl : Nat} {ρ : Type} {P : ρ → Prop} {Q : ρ → State → Prop} {pc : Nat} {lv : List (Nat × Value)} {st : List Value} {h : Int64} {σ : cS} {E : Option ρ} (X : Cx K G own cc nL ret rf rl) {x : Int32} (hdg : decode cc pc = .ok (.i2l, 1)) (k : Sm K G P Q nL (pc + 1) (lv) (.long x.toInt64 :: st) h σ (E)) : Sm K G P Q nL (pc) (lv) (.int x :: st) h σ (E) := fun r hr hp H locs ls hP hS hl => lv_i2l X.1 X.2.1 hdg rfl (k r hr hp H locs ls hP hS hl)
set_option maxHeartbeats 4000000 in
theorem z_i2d {K : MCx} {G : Lay} {own : String} {cc : ByteArray} {nL : Nat} {ret : Option FieldType} {rf rl : Nat} {ρ : Type} {P : ρ → Prop} {Q : ρ → State → Prop} {pc : Nat} {lv : List (Nat × Value)} {st : List Value} {h : Int64} {σ : cS} {E : Option ρ} (X : Cx K G own cc nL ret rf rl) {x : Int32} (hdg : decode cc pc = .ok (.i2d, 1)) (k : Sm K G P Q nL (pc + 1) (lv) (.double (FP.i2d x) :: st) h σ (E)) : Sm K G P Q nL (pc) (lv) (.int x :: st) h σ (E) := fun r hr hp H locs ls hP hS hl => lv_i2d X.1 X.2.1 hdg (k r hr hp H locs ls hP hS hl)
set_option maxHeartbeats 4000000 in
theorem z_dup {K : MCx} {G : Lay} {own : String} {cc : ByteArray} {nL : Nat} {ret : Option FieldType} {rf rl : Nat} {ρ : Type} {P : ρ → Prop} {Q : ρ → State → Prop} {pc : Nat} {lv : List (Nat × Value)} {st : List Value} {h : Int64} {σ : cS} {E : Option ρ} (X : Cx K G own cc nL ret rf rl) {va : Value} (hdg : decode cc pc = .ok (.dup, 1)) (hva : va.category = 1) (k : Sm K G P Q nL (pc + 1) (lv) (va :: va :: st) h σ (E)) : Sm K G P Q nL (pc) (lv) (va :: st) h σ (E) := fun r hr hp H locs ls hP hS hl => lv_dup X.1 X.2.1 hdg hva (k r hr hp H locs ls hP hS hl)
set_option maxHeartbeats 4000000 in
theorem z_pop {K : MCx} {G : Lay} {own : String} {cc : ByteArray} {nL : Nat} {ret : Option FieldType} {rf rl : Nat} {ρ : Type} {P : ρ → Prop} {Q : ρ → State → Prop} {pc : Nat} {lv : List (Nat × Value)} {st : List Value} {h : Int64} {σ : cS} {E : Option ρ} (X : Cx K G own cc nL ret rf rl) {va : Value} (hdg : decode cc pc = .ok (.pop, 1)) (hva : va.category = 1) (k : Sm K G P Q nL (pc + 1) (lv) (st) h σ (E)) : Sm K G P Q nL (pc) (lv) (va :: st) h σ (E) := fun r hr hp H locs ls hP hS hl => lv_pop X.1 X.2.1 hdg hva (k r hr hp H locs ls hP hS hl)
set_option maxHeartbeats 4000000 in
theorem z_dup_x1 {K : MCx} {G : Lay} {own : String} {cc : ByteArray} {nL : Nat} {ret : Option FieldType} {rf rl : Nat} {ρ : Type} {P : ρ → Prop} {Q : ρ → State → Prop} {pc : Nat} {lv : List (Nat × Value)} {st : List Value} {h : Int64} {σ : cS} {E : Option ρ} (X : Cx K G own cc nL ret rf rl) {va vb : Value} (hdg : decode cc pc = .ok (.dup_x1, 1)) (hva : va.category = 1) (hvb : vb.category = 1) (k : Sm K G P Q nL (pc + 1) (lv) (va :: vb :: va :: st) h σ (E)) : Sm K G P Q nL (pc) (lv) (va :: vb :: st) h σ (E) := fun r hr hp H locs ls hP hS hl => lv_dup_x1 X.1 X.2.1 hdg hva hvb (k r hr hp H locs ls hP hS hl)
set_option maxHeartbeats 4000000 in
theorem z_dup2 {K : MCx} {G : Lay} {own : String} {cc : ByteArray} {nL : Nat} {ret : Option FieldType} {rf rl : Nat} {ρ : Type} {P : ρ → Prop} {Q : ρ → State → Prop} {pc : Nat} {lv : List (Nat × Value)} {st : List Value} {h : Int64} {σ : cS} {E : Option ρ} (X : Cx K G own cc nL ret rf rl) {va vb : Value} (hdg : decode cc pc = .ok (.dup2, 1)) (hva : va.category = 1) (hvb : vb.category = 1) (k : Sm K G P Q nL (pc + 1) (lv) (va :: vb :: va :: vb :: st) h σ (E)) : Sm K G P Q nL (pc) (lv) (va :: vb :: st) h σ (E) := fun r hr hp H locs ls hP hS hl => lv_dup2_11 X.1 X.2.1 hdg hva hvb (k r hr hp H locs ls hP hS hl)
set_option maxHeartbeats 4000000 in
theorem z_goto {K : MCx} {G : Lay} {own : String} {cc : ByteArray} {nL : Nat} {ret : Option FieldType} {rf rl : Nat} {ρ : Type} {P : ρ → Prop} {Q : ρ → State → Prop} {pc : Nat} {lv : List (Nat × Value)} {st : List Value} {h : Int64} {σ : cS} {E : Option ρ} (X : Cx K G own cc nL ret rf rl) {off : Int} (tgt : Nat) (hdg : decode cc pc = .ok (.goto off, 3)) (ht : (pc : Int) + off = (tgt : Int)) (k : Sm K G P Q nL (tgt) (lv) (st) h σ (E)) : Sm K G P Q nL (pc) (lv) (st) h σ (E) := fun r hr hp H locs ls hP hS hl => lv_goto X.1 X.2.1 hdg ht (k r hr hp H locs ls hP hS hl)
set_option maxHeartbeats 4000000 in
theorem z_nop {K : MCx} {G : Lay} {own : String} {cc : ByteArray} {nL : Nat} {ret : Option FieldType} {rf rl : Nat} {ρ : Type} {P : ρ → Prop} {Q : ρ → State → Prop} {pc : Nat} {lv : List (Nat × Value)} {st : List Value} {h : Int64} {σ : cS} {E : Option ρ} (X : Cx K G own cc nL ret rf rl) (pc' : Nat) (e : pc = pc') (k : Sm K G P Q nL (pc') (lv) (st) h σ (E)) : Sm K G P Q nL (pc) (lv) (st) h σ (E) := fun r hr hp H locs ls hP hS hl => by rw [e]; exact k r hr hp H locs ls hP hS hl
set_option maxHeartbeats 4000000 in
theorem z_if_eq {K : MCx} {G : Lay} {own : String} {cc : ByteArray} {nL : Nat} {ret : Option FieldType} {rf rl : Nat} {ρ : Type} {P : ρ → Prop} {Q : ρ → State → Prop} {pc : Nat} {lv : List (Nat × Value)} {st : List Value} {h : Int64} {σ : cS} (X : Cx K G own cc nL ret rf rl) {E1 E2 : Option ρ} {x : Int32} {off : Int} (tgt : Nat) (hdg : decode cc pc = .ok (.ifCond .eq off, 3)) (ht : (pc : Int) + off = (tgt : Int)) (kt : Sm K G P Q nL (tgt) (lv) (st) h σ (E1)) (kf : Sm K G P Q nL (pc + 3) (lv) (st) h σ (E2)) : Sm K G P Q nL (pc) (lv) (.int x :: st) h σ (if x = 0 then E1 else E2) := fun r hr hp H locs ls hP hS hl => lv_if_eq X.1 X.2.1 hdg ht (fun c => kt r (by rw [if_pos c] at hr; exact hr) hp H locs ls hP hS hl) (fun c => kf r (by rw [if_neg c] at hr; exact hr) hp H locs ls hP hS hl)
set_option maxHeartbeats 4000000 in
theorem z_icmp_eq {K : MCx} {G : Lay} {own : String} {cc : ByteArray} {nL : Nat} {ret : Option FieldType} {rf rl : Nat} {ρ : Type} {P : ρ → Prop} {Q : ρ → State → Prop} {pc : Nat} {lv : List (Nat × Value)} {st : List Value} {h : Int64} {σ : cS} (X : Cx K G own cc nL ret rf rl) {E1 E2 : Option ρ} {x y : Int32} {off : Int} (tgt : Nat) (hdg : decode cc pc = .ok (.if_icmp .eq off, 3)) (ht : (pc : Int) + off = (tgt : Int)) (kt : Sm K G P Q nL (tgt) (lv) (st) h σ (E1)) (kf : Sm K G P Q nL (pc + 3) (lv) (st) h σ (E2)) : Sm K G P Q nL (pc) (lv) (.int y :: .int x :: st) h σ (if x = y then E1 else E2) := fun r hr hp H locs ls hP hS hl => lv_icmp_eq X.1 X.2.1 hdg ht (fun c => kt r (by rw [if_pos c] at hr; exact hr) hp H locs ls hP hS hl) (fun c => kf r (by rw [if_neg c] at hr; exact hr) hp H locs ls hP hS hl)
set_option maxHeartbeats 4000000 in
theorem z_if_ne {K : MCx} {G : Lay} {own : String} {cc : ByteArray} {nL : Nat} {ret : Option FieldType} {rf rl : Nat} {ρ : Type} {P : ρ → Prop} {Q : ρ → State → Prop} {pc : Nat} {lv : List (Nat × Value)} {st : List Value} {h : Int64} {σ : cS} (X : Cx K G own cc nL ret rf rl) {E1 E2 : Option ρ} {x : Int32} {off : Int} (tgt : Nat) (hdg : decode cc pc = .ok (.ifCond .ne off, 3)) (ht : (pc : Int) + off = (tgt : Int)) (kt : Sm K G P Q nL (pc + 3) (lv) (st) h σ (E1)) (kf : Sm K G P Q nL (tgt) (lv) (st) h σ (E2)) : Sm K G P Q nL (pc) (lv) (.int x :: st) h σ (if x = 0 then E1 else E2) := fun r hr hp H locs ls hP hS hl => lv_if_ne X.1 X.2.1 hdg ht (fun c => kf r (by rw [if_neg c] at hr; exact hr) hp H locs ls hP hS hl) (fun c => kt r (by rw [if_pos c] at hr; exact hr) hp H locs ls hP hS hl)
set_option maxHeartbeats 4000000 in
theorem z_icmp_ne {K : MCx} {G : Lay} {own : String} {cc : ByteArray} {nL : Nat} {ret : Option FieldType} {rf rl : Nat} {ρ : Type} {P : ρ → Prop} {Q : ρ → State → Prop} {pc : Nat} {lv : List (Nat × Value)} {st : List Value} {h : Int64} {σ : cS} (X : Cx K G own cc nL ret rf rl) {E1 E2 : Option ρ} {x y : Int32} {off : Int} (tgt : Nat) (hdg : decode cc pc = .ok (.if_icmp .ne off, 3)) (ht : (pc : Int) + off = (tgt : Int)) (kt : Sm K G P Q nL (pc + 3) (lv) (st) h σ (E1)) (kf : Sm K G P Q nL (tgt) (lv) (st) h σ (E2)) : Sm K G P Q nL (pc) (lv) (.int y :: .int x :: st) h σ (if x = y then E1 else E2) := fun r hr hp H locs ls hP hS hl => lv_icmp_ne X.1 X.2.1 hdg ht (fun c => kf r (by rw [if_neg c] at hr; exact hr) hp H locs ls hP hS hl) (fun c => kt r (by rw [if_pos c] at hr; exact hr) hp H locs ls hP hS hl)
set_option maxHeartbeats 4000000 in
theorem z_if_lt {K : MCx} {G : Lay} {own : String} {cc : ByteArray} {nL : Nat} {ret : Option FieldType} {rf rl : Nat} {ρ : Type} {P : ρ → Prop} {Q : ρ → State → Prop} {pc : Nat} {lv : List (Nat × Value)} {st : List Value} {h : Int64} {σ : cS} (X : Cx K G own cc nL ret rf rl) {E1 E2 : Option ρ} {x : Int32} {off : Int} (tgt : Nat) (hdg : decode cc pc = .ok (.ifCond .lt off, 3)) (ht : (pc : Int) + off = (tgt : Int)) (kt : Sm K G P Q nL (tgt) (lv) (st) h σ (E1)) (kf : Sm K G P Q nL (pc + 3) (lv) (st) h σ (E2)) : Sm K G P Q nL (pc) (lv) (.int x :: st) h σ (if x < 0 then E1 else E2) := fun r hr hp H locs ls hP hS hl => lv_if_lt X.1 X.2.1 hdg ht (fun c => kt r (by rw [if_pos c] at hr; exact hr) hp H locs ls hP hS hl) (fun c => kf r (by rw [if_neg c] at hr; exact hr) hp H locs ls hP hS hl)
set_option maxHeartbeats 4000000 in
theorem z_icmp_lt {K : MCx} {G : Lay} {own : String} {cc : ByteArray} {nL : Nat} {ret : Option FieldType} {rf rl : Nat} {ρ : Type} {P : ρ → Prop} {Q : ρ → State → Prop} {pc : Nat} {lv : List (Nat × Value)} {st : List Value} {h : Int64} {σ : cS} (X : Cx K G own cc nL ret rf rl) {E1 E2 : Option ρ} {x y : Int32} {off : Int} (tgt : Nat) (hdg : decode cc pc = .ok (.if_icmp .lt off, 3)) (ht : (pc : Int) + off = (tgt : Int)) (kt : Sm K G P Q nL (tgt) (lv) (st) h σ (E1)) (kf : Sm K G P Q nL (pc + 3) (lv) (st) h σ (E2)) : Sm K G P Q nL (pc) (lv) (.int y :: .int x :: st) h σ (if x < y then E1 else E2) := fun r hr hp H locs ls hP hS hl => lv_icmp_lt X.1 X.2.1 hdg ht (fun c => kt r (by rw [if_pos c] at hr; exact hr) hp H locs ls hP hS hl) (fun c => kf r (by rw [if_neg c] at hr; exact hr) hp H locs ls hP hS hl)
set_option maxHeartbeats 4000000 in
theorem z_if_ge {K : MCx} {G : Lay} {own : String} {cc : ByteArray} {nL : Nat} {ret : Option FieldType} {rf rl : Nat} {ρ : Type} {P : ρ → Prop} {Q : ρ → State → Prop} {pc : Nat} {lv : List (Nat × Value)} {st : List Value} {h : Int64} {σ : cS} (X : Cx K G own cc nL ret rf rl) {E1 E2 : Option ρ} {x : Int32} {off : Int} (tgt : Nat) (hdg : decode cc pc = .ok (.ifCond .ge off, 3)) (ht : (pc : Int) + off = (tgt : Int)) (kt : Sm K G P Q nL (tgt) (lv) (st) h σ (E1)) (kf : Sm K G P Q nL (pc + 3) (lv) (st) h σ (E2)) : Sm K G P Q nL (pc) (lv) (.int x :: st) h σ (if 0 ≤ x then E1 else E2) := fun r hr hp H locs ls hP hS hl => lv_if_ge X.1 X.2.1 hdg ht (fun c => kt r (by rw [if_pos c] at hr; exact hr) hp H locs ls hP hS hl) (fun c => kf r (by rw [if_neg c] at hr; exact hr) hp H locs ls hP hS hl)
set_option maxHeartbeats 4000000 in
theorem z_icmp_ge {K : MCx} {G : Lay} {own : String} {cc : ByteArray} {nL : Nat} {ret : Option FieldType} {rf rl : Nat} {ρ : Type} {P : ρ → Prop} {Q : ρ → State → Prop} {pc : Nat} {lv : List (Nat × Value)} {st : List Value} {h : Int64} {σ : cS} (X : Cx K G own cc nL ret rf rl) {E1 E2 : Option ρ} {x y : Int32} {off : Int} (tgt : Nat) (hdg : decode cc pc = .ok (.if_icmp .ge off, 3)) (ht : (pc : Int) + off = (tgt : Int)) (kt : Sm K G P Q nL (tgt) (lv) (st) h σ (E1)) (kf : Sm K G P Q nL (pc + 3) (lv) (st) h σ (E2)) : Sm K G P Q nL (pc) (lv) (.int y :: .int x :: st) h σ (if y ≤ x then E1 else E2) := fun r hr hp H locs ls hP hS hl => lv_icmp_ge X.1 X.2.1 hdg ht (fun c => kt r (by rw [if_pos c] at hr; exact hr) hp H locs ls hP hS hl) (fun c => kf r (by rw [if_neg c] at hr; exact hr) hp H locs ls hP hS hl)
set_option maxHeartbeats 4000000 in
theorem z_if_gt {K : MCx} {G : Lay} {own : String} {cc : ByteArray} {nL : Nat} {ret : Option FieldType} {rf rl : Nat} {ρ : Type} {P : ρ → Prop} {Q : ρ → State → Prop} {pc : Nat} {lv : List (Nat × Value)} {st : List Value} {h : Int64} {σ : cS} (X : Cx K G own cc nL ret rf rl) {E1 E2 : Option ρ} {x : Int32} {off : Int} (tgt : Nat) (hdg : decode cc pc = .ok (.ifCond .gt off, 3)) (ht : (pc : Int) + off = (tgt : Int)) (kt : Sm K G P Q nL (tgt) (lv) (st) h σ (E1)) (kf : Sm K G P Q nL (pc + 3) (lv) (st) h σ (E2)) : Sm K G P Q nL (pc) (lv) (.int x :: st) h σ (if 0 < x then E1 else E2) := fun r hr hp H locs ls hP hS hl => lv_if_gt X.1 X.2.1 hdg ht (fun c => kt r (by rw [if_pos c] at hr; exact hr) hp H locs ls hP hS hl) (fun c => kf r (by rw [if_neg c] at hr; exact hr) hp H locs ls hP hS hl)
set_option maxHeartbeats 4000000 in
theorem z_icmp_gt {K : MCx} {G : Lay} {own : String} {cc : ByteArray} {nL : Nat} {ret : Option FieldType} {rf rl : Nat} {ρ : Type} {P : ρ → Prop} {Q : ρ → State → Prop} {pc : Nat} {lv : List (Nat × Value)} {st : List Value} {h : Int64} {σ : cS} (X : Cx K G own cc nL ret rf rl) {E1 E2 : Option ρ} {x y : Int32} {off : Int} (tgt : Nat) (hdg : decode cc pc = .ok (.if_icmp .gt off, 3)) (ht : (pc : Int) + off = (tgt : Int)) (kt : Sm K G P Q nL (tgt) (lv) (st) h σ (E1)) (kf : Sm K G P Q nL (pc + 3) (lv) (st) h σ (E2)) : Sm K G P Q nL (pc) (lv) (.int y :: .int x :: st) h σ (if y < x then E1 else E2) := fun r hr hp H locs ls hP hS hl => lv_icmp_gt X.1 X.2.1 hdg ht (fun c => kt r (by rw [if_pos c] at hr; exact hr) hp H locs ls hP hS hl) (fun c => kf r (by rw [if_neg c] at hr; exact hr) hp H locs ls hP hS hl)
set_option maxHeartbeats 4000000 in
theorem z_if_le {K : MCx} {G : Lay} {own : String} {cc : ByteArray} {nL : Nat} {ret : Option FieldType} {rf rl : Nat} {ρ : Type} {P : ρ → Prop} {Q : ρ → State → Prop} {pc : Nat} {lv : List (Nat × Value)} {st : List Value} {h : Int64} {σ : cS} (X : Cx K G own cc nL ret rf rl) {E1 E2 : Option ρ} {x : Int32} {off : Int} (tgt : Nat) (hdg : decode cc pc = .ok (.ifCond .le off, 3)) (ht : (pc : Int) + off = (tgt : Int)) (kt : Sm K G P Q nL (tgt) (lv) (st) h σ (E1)) (kf : Sm K G P Q nL (pc + 3) (lv) (st) h σ (E2)) : Sm K G P Q nL (pc) (lv) (.int x :: st) h σ (if x ≤ 0 then E1 else E2) := fun r hr hp H locs ls hP hS hl => lv_if_le X.1 X.2.1 hdg ht (fun c => kt r (by rw [if_pos c] at hr; exact hr) hp H locs ls hP hS hl) (fun c => kf r (by rw [if_neg c] at hr; exact hr) hp H locs ls hP hS hl)
set_option maxHeartbeats 4000000 in
theorem z_icmp_le {K : MCx} {G : Lay} {own : String} {cc : ByteArray} {nL : Nat} {ret : Option FieldType} {rf rl : Nat} {ρ : Type} {P : ρ → Prop} {Q : ρ → State → Prop} {pc : Nat} {lv : List (Nat × Value)} {st : List Value} {h : Int64} {σ : cS} (X : Cx K G own cc nL ret rf rl) {E1 E2 : Option ρ} {x y : Int32} {off : Int} (tgt : Nat) (hdg : decode cc pc = .ok (.if_icmp .le off, 3)) (ht : (pc : Int) + off = (tgt : Int)) (kt : Sm K G P Q nL (tgt) (lv) (st) h σ (E1)) (kf : Sm K G P Q nL (pc + 3) (lv) (st) h σ (E2)) : Sm K G P Q nL (pc) (lv) (.int y :: .int x :: st) h σ (if x ≤ y then E1 else E2) := fun r hr hp H locs ls hP hS hl => lv_icmp_le X.1 X.2.1 hdg ht (fun c => kt r (by rw [if_pos c] at hr; exact hr) hp H locs ls hP hS hl) (fun c => kf r (by rw [if_neg c] at hr; exact hr) hp H locs ls hP hS hl)
set_option maxHeartbeats 4000000 in
theorem z_ifnonnull {K : MCx} {G : Lay} {own : String} {cc : ByteArray} {nL : Nat} {ret : Option FieldType} {rf rl : Nat} {ρ : Type} {P : ρ → Prop} {Q : ρ → State → Prop} {pc : Nat} {lv : List (Nat × Value)} {st : List Value} {h : Int64} {σ : cS} {E : Option ρ} (X : Cx K G own cc nL ret rf rl) {x : Nat} {off : Int} (tgt : Nat) (hdg : decode cc pc = .ok (.ifnonnull off, 3)) (ht : (pc : Int) + off = (tgt : Int)) (k : Sm K G P Q nL (tgt) (lv) (st) h σ (E)) : Sm K G P Q nL (pc) (lv) (.ref x :: st) h σ (E) := fun r hr hp H locs ls hP hS hl => lv_ifnonnull X.1 X.2.1 hdg ht (k r hr hp H locs ls hP hS hl)
set_option maxHeartbeats 4000000 in
theorem z_ifnull {K : MCx} {G : Lay} {own : String} {cc : ByteArray} {nL : Nat} {ret : Option FieldType} {rf rl : Nat} {ρ : Type} {P : ρ → Prop} {Q : ρ → State → Prop} {pc : Nat} {lv : List (Nat × Value)} {st : List Value} {h : Int64} {σ : cS} {E : Option ρ} (X : Cx K G own cc nL ret rf rl) {x : Nat} {off : Int} (hdg : decode cc pc = .ok (.ifnull off, 3)) (k : Sm K G P Q nL (pc + 3) (lv) (st) h σ (E)) : Sm K G P Q nL (pc) (lv) (.ref x :: st) h σ (E) := fun r hr hp H locs ls hP hS hl => lv_ifnull X.1 X.2.1 hdg (k r hr hp H locs ls hP hS hl)
set_option maxHeartbeats 4000000 in
theorem z_ite {K : MCx} {G : Lay} {nL : Nat} {ρ : Type} {P : ρ → Prop} {Q : ρ → State → Prop} {pc : Nat} {lv : List (Nat × Value)} {st : List Value} {h : Int64} {σ : cS} {c : Prop} {dc : Decidable c} {E1 E2 : Option ρ} (k1 : c → Sm K G P Q nL (pc) (lv) (st) h σ (E1)) (k2 : ¬ c → Sm K G P Q nL (pc) (lv) (st) h σ (E2)) : Sm K G P Q nL (pc) (lv) (st) h σ (@ite _ c dc E1 E2) := fun r hr hp => by
  by_cases q : c
  · rw [if_pos q] at hr; exact k1 q r hr hp
  · rw [if_neg q] at hr; exact k2 q r hr hp
set_option maxHeartbeats 4000000 in
theorem z_grd {K : MCx} {G : Lay} {nL : Nat} {ρ : Type} {P : ρ → Prop} {Q : ρ → State → Prop} {pc : Nat} {lv : List (Nat × Value)} {st : List Value} {h : Int64} {σ : cS} {E : Option ρ} {b : Bool} (k : b = true → Sm K G P Q nL (pc) (lv) (st) h σ (E)) : Sm K G P Q nL (pc) (lv) (st) h σ (grd b E) := fun r hr hp => by
  unfold grd at hr
  by_cases q : b = true
  · rw [if_pos q] at hr; exact k q r hr hp
  · rw [if_neg q] at hr; cases hr
set_option maxHeartbeats 4000000 in
theorem z_none {K : MCx} {G : Lay} {nL : Nat} {ρ : Type} {P : ρ → Prop} {Q : ρ → State → Prop} {pc : Nat} {lv : List (Nat × Value)} {st : List Value} {h : Int64} {σ : cS} : Sm K G P Q nL (pc) (lv) (st) h σ (none) := fun r hr => by cases hr
set_option maxHeartbeats 4000000 in
theorem z_nm {K : MCx} {G : Lay} {nL : Nat} {ρ : Type} {P : ρ → Prop} {Q : ρ → State → Prop} {pc : Nat} {lv : List (Nat × Value)} {st : List Value} {h : Int64} {σ : cS} {x : Int32} {f : Int32 → Option ρ} (k : ∀ y, Sm K G P Q nL (pc) (lv) (.int y :: st) h σ (f y)) : Sm K G P Q nL (pc) (lv) (.int x :: st) h σ (bnd x f) := k x
set_option maxHeartbeats 4000000 in
theorem z_nml {K : MCx} {G : Lay} {nL : Nat} {ρ : Type} {P : ρ → Prop} {Q : ρ → State → Prop} {pc : Nat} {lv : List (Nat × Value)} {st : List Value} {h : Int64} {σ : cS} {x : Int64} {f : Int64 → Option ρ} (k : ∀ y, Sm K G P Q nL (pc) (lv) (.long y :: st) h σ (f y)) : Sm K G P Q nL (pc) (lv) (.long x :: st) h σ (bnd x f) := k x
set_option maxHeartbeats 4000000 in
theorem z_sub {K : MCx} {G : Lay} {nL : Nat} {ρ : Type} {P : ρ → Prop} {Q : ρ → State → Prop} {pc : Nat} {lv : List (Nat × Value)} {st : List Value} {h : Int64} {σ : cS} {E : Option ρ} {lv' : List (Nat × Value)} (ks : List Nat) (e : lv_pick lv ks = lv') (k : Sm K G P Q nL (pc) (lv') (st) h σ (E)) : Sm K G P Q nL (pc) (lv) (st) h σ (E) := fun r hr hp H locs ls hP hS hl => k r hr hp H locs ls hP hS (lv_sub hl ks e)
set_option maxHeartbeats 4000000 in
theorem inb_in {i : Int32} {n : Nat} (h : inb i n = true) : vp_in i n := by
  unfold inb at h
  have q : ¬ (i < 0 ∨ n ≤ i.toNatClampNeg) := of_decide_eq_true h
  exact q
set_option maxHeartbeats 4000000 in
theorem z_iald {K : MCx} {G : Lay} {own : String} {cc : ByteArray} {nL : Nat} {ret : Option FieldType} {rf rl : Nat} {ρ : Type} {P : ρ → Prop} {Q : ρ → State → Prop} {pc : Nat} {lv : List (Nat × Value)} {st : List Value} {h : Int64} {σ : cS} {E : Option ρ} (X : Cx K G own cc nL ret rf rl) {kk : Nat} {i : Int32} (o : Ob G kk 8) (hdg : decode cc pc = .ok (.iaload, 1)) (k : Sm K G P Q nL (pc + 1) (lv) (.int (σ kk i.toNatClampNeg) :: st) h σ (E)) : Sm K G P Q nL (pc) (lv) (.int i :: .ref (la G kk) :: st) h σ (grd (inb i (ll G kk)) E) := z_grd (fun q r hr hp H locs ls hP hS hl => va_iald X.1 X.2.1 X.2.2.2.2.2.1 hP kk 0 (by rw [fw_get o.1, ce8 o]) rfl (inb_in q) hdg (k r hr hp H locs ls hP hS hl))
set_option maxHeartbeats 4000000 in
theorem z_iast {K : MCx} {G : Lay} {own : String} {cc : ByteArray} {nL : Nat} {ret : Option FieldType} {rf rl : Nat} {ρ : Type} {P : ρ → Prop} {Q : ρ → State → Prop} {pc : Nat} {lv : List (Nat × Value)} {st : List Value} {h : Int64} {σ : cS} (X : Cx K G own cc nL ret rf rl) {f : cS → Option ρ} {kk : Nat} {i v : Int32} (o : Ob G kk 8) (hdg : decode cc pc = .ok (.iastore, 1)) (k : ∀ σ1, Sm K G P Q nL (pc + 1) (lv) (st) h σ1 (f σ1)) : Sm K G P Q nL (pc) (lv) (.int v :: .int i :: .ref (la G kk) :: st) h σ (grd (inb i (ll G kk)) (bnd (st2 σ kk i.toNatClampNeg v) f)) := z_grd (fun q r hr hp H locs ls hP hS hl => va_iast X.1 X.2.1 X.2.2.2.2.2.1 hP (fw_D X.2.2.2.2.2.2.2.1 _) hS kk 0 (by rw [fw_get o.1, ce8 o]) rfl (inb_in q) hdg (fun H1 locs1 hP1 _ hS1 => k _ r hr hp H1 locs1 ls (by rw [fw_set o.1, ce_put (cp8 o h σ v _)] at hP1; exact hP1) hS1 hl))
set_option maxHeartbeats 4000000 in
theorem z_alen {K : MCx} {G : Lay} {own : String} {cc : ByteArray} {nL : Nat} {ret : Option FieldType} {rf rl : Nat} {ρ : Type} {P : ρ → Prop} {Q : ρ → State → Prop} {pc : Nat} {lv : List (Nat × Value)} {st : List Value} {h : Int64} {σ : cS} {E : Option ρ} (X : Cx K G own cc nL ret rf rl) {kk : Nat} (o : Ob G kk 8) (hdg : decode cc pc = .ok (.arraylength, 1)) (k : Sm K G P Q nL (pc + 1) (lv) (.int (Int32.ofNat (ll G kk)) :: st) h σ (E)) : Sm K G P Q nL (pc) (lv) (.ref (la G kk) :: st) h σ (E) := fun r hr hp H locs ls hP hS hl => va_alen X.1 X.2.1 X.2.2.2.2.2.1 hP kk 0 (by rw [fw_get o.1, ce8 o]) rfl rfl hdg (k r hr hp H locs ls hP hS hl)
set_option maxHeartbeats 4000000 in
theorem z_alenq {K : MCx} {G : Lay} {own : String} {cc : ByteArray} {nL : Nat} {ret : Option FieldType} {rf rl : Nat} {ρ : Type} {P : ρ → Prop} {Q : ρ → State → Prop} {pc : Nat} {lv : List (Nat × Value)} {st : List Value} {h : Int64} {σ : cS} {E : Option ρ} (X : Cx K G own cc nL ret rf rl) {kk : Nat} (o : Ob G kk 9) (hdg : decode cc pc = .ok (.arraylength, 1)) (k : Sm K G P Q nL (pc + 1) (lv) (.int 4 :: st) h σ (E)) : Sm K G P Q nL (pc) (lv) (.ref (la G kk) :: st) h σ (E) := fun r hr hp H locs ls hP hS hl => va_alen X.1 X.2.1 X.2.2.2.2.2.1 hP kk 1 (by rw [fw_get o.1, ce9 o]) rfl rfl hdg (k r hr hp H locs ls hP hS hl)
set_option maxHeartbeats 4000000 in
theorem z_aald {K : MCx} {G : Lay} {own : String} {cc : ByteArray} {nL : Nat} {ret : Option FieldType} {rf rl : Nat} {ρ : Type} {P : ρ → Prop} {Q : ρ → State → Prop} {pc : Nat} {lv : List (Nat × Value)} {st : List Value} {h : Int64} {σ : cS} {E : Option ρ} (X : Cx K G own cc nL ret rf rl) {kk : Nat} {i : Int32} (o : Ob G kk 9) (hdg : decode cc pc = .ok (.aaload, 1)) (k : inb i 4 = true → Sm K G P Q nL (pc + 1) (lv) (.ref (la G (30 + 15 * i.toNatClampNeg)) :: st) h σ (E)) : Sm K G P Q nL (pc) (lv) (.int i :: .ref (la G kk) :: st) h σ (grd (inb i 4) E) := z_grd (fun q r hr hp H locs ls hP hS hl => va_aldq (f := fun i => some (la G (30 + 15 * i))) X.1 X.2.1 X.2.2.2.2.2.1 hP kk 1 (by rw [fw_get o.1, ce9 o]) rfl (inb_in q) hdg (k q r hr hp H locs ls hP hS hl))
set_option maxHeartbeats 4000000 in
theorem z_get {K : MCx} {G : Lay} {own : String} {cc : ByteArray} {nL : Nat} {ret : Option FieldType} {rf rl : Nat} {ρ : Type} {P : ρ → Prop} {Q : ρ → State → Prop} {pc : Nat} {lv : List (Nat × Value)} {st : List Value} {h : Int64} {σ : cS} {E : Option ρ} (X : Cx K G own cc nL ret rf rl) {ci : Nat} {C : String} {T : u_T} {n kk : Nat} {fs : List Value} (hin : ∀ w ∈ u_ws C T n, w ∈ wsL_law) (hc : vwCl[ci]? = some (C, T, n)) (o : Ob G kk ci) (hw : ce G h σ kk = .inr (ci, fs)) (j : Nat) (hj : j < n) {index : Nat} (hlink : Cond.fieldLink own index (T j).1 (T j).2.1 (T j).2.2.1 ∈ wsL_law) {v : Value} (hv : fs[j]? = some v) (hdg : decode cc pc = .ok (.getfield index, 3)) (k : Sm K G P Q nL (pc + 3) (lv) (v :: st) h σ (E)) : Sm K G P Q nL (pc) (lv) (.ref (la G kk) :: st) h σ (E) := fun r hr hp H locs ls hP hS hl => va_get X.1 X.2.1 X.2.2.2.2.1 hin X.2.2.2.1 X.2.2.2.2.2.1 hP kk (by rw [fw_get o.1, hw]) hc j hj (X.2.2.2.2.1 _ hlink) (fun _ z => z) hv hdg (k r hr hp H locs ls hP hS hl)
set_option maxHeartbeats 4000000 in
theorem z_put {K : MCx} {G : Lay} {own : String} {cc : ByteArray} {nL : Nat} {ret : Option FieldType} {rf rl : Nat} {ρ : Type} {P : ρ → Prop} {Q : ρ → State → Prop} {pc : Nat} {lv : List (Nat × Value)} {st : List Value} {h : Int64} {σ : cS} (X : Cx K G own cc nL ret rf rl) {ci : Nat} {C : String} {T : u_T} {n kk : Nat} {fs : List Value} (hin : ∀ w ∈ u_ws C T n, w ∈ wsL_law) (hc : vwCl[ci]? = some (C, T, n)) (o : Ob G kk ci) (hw : ce G h σ kk = .inr (ci, fs)) (j : Nat) (hj : j < n) {index : Nat} (hlink : Cond.fieldLink own index (T j).1 (T j).2.1 (T j).2.2.1 ∈ wsL_law) (ty0 : Nat → FieldType) (hty : ∀ k, k < n → parseFieldDescriptor (T k).2.2.1 = some (ty0 k)) (hnm : ∀ a, a < n → ∀ b, b < n → a ≠ b → (T a).2.1 ≠ (T b).2.1) (hfin : (T j).2.2.2 = false) {f : cS → Option ρ} {x : Int32} (hset : (.inr (ci, fs.set j (.int x)) : va_E) = ce G h (st2 σ kk j x) kk) (hn : narrow (ty0 j) (.int x) = .int x) (hfit : fits (ty0 j) (.int x) = true) (hlen : j < fs.length) (hdg : decode cc pc = .ok (.putfield index, 3)) (k : ∀ σ1, Sm K G P Q nL (pc + 3) (lv) (st) h σ1 (f σ1)) : Sm K G P Q nL (pc) (lv) (.int x :: .ref (la G kk) :: st) h σ (bnd (st2 σ kk j x) f) := fun r hr hp H locs ls hP hS hl => va_put X.1 X.2.1 X.2.2.2.2.1 hin ty0 hty hnm X.2.2.2.1 X.2.2.2.2.2.1 hP (fw_D X.2.2.2.2.2.2.2.1 _) hS kk (by rw [fw_get o.1, hw]) hc j hj (X.2.2.2.2.1 _ hlink) (fun _ z => z) hfin (hty j hj) hn hfit hlen hdg (fun H1 locs1 hP1 _ hS1 => k _ r hr hp H1 locs1 ls (by rw [fw_set o.1, ce_put hset] at hP1; exact hP1) hS1 hl)
set_option maxHeartbeats 4000000 in
theorem z_putL {K : MCx} {G : Lay} {own : String} {cc : ByteArray} {nL : Nat} {ret : Option FieldType} {rf rl : Nat} {ρ : Type} {P : ρ → Prop} {Q : ρ → State → Prop} {pc : Nat} {lv : List (Nat × Value)} {st : List Value} {h : Int64} {σ : cS} (X : Cx K G own cc nL ret rf rl) {ci : Nat} {C : String} {T : u_T} {n kk : Nat} {fs : List Value} (hin : ∀ w ∈ u_ws C T n, w ∈ wsL_law) (hc : vwCl[ci]? = some (C, T, n)) (o : Ob G kk ci) (hw : ce G h σ kk = .inr (ci, fs)) (j : Nat) (hj : j < n) {index : Nat} (hlink : Cond.fieldLink own index (T j).1 (T j).2.1 (T j).2.2.1 ∈ wsL_law) (ty0 : Nat → FieldType) (hty : ∀ k, k < n → parseFieldDescriptor (T k).2.2.1 = some (ty0 k)) (hnm : ∀ a, a < n → ∀ b, b < n → a ≠ b → (T a).2.1 ≠ (T b).2.1) (hfin : (T j).2.2.2 = false) {f : Int64 → Option ρ} {x : Int64} (hset : (fun i => if i = kk then (.inr (ci, fs.set j (.long x)) : va_E) else ce G h σ i) = ce G x σ) (hn : narrow (ty0 j) (.long x) = .long x) (hfit : fits (ty0 j) (.long x) = true) (hlen : j < fs.length) (hdg : decode cc pc = .ok (.putfield index, 3)) (k : ∀ h1, Sm K G P Q nL (pc + 3) (lv) (st) h1 σ (f h1)) : Sm K G P Q nL (pc) (lv) (.long x :: .ref (la G kk) :: st) h σ (bnd x f) := fun r hr hp H locs ls hP hS hl => va_put X.1 X.2.1 X.2.2.2.2.1 hin ty0 hty hnm X.2.2.2.1 X.2.2.2.2.2.1 hP (fw_D X.2.2.2.2.2.2.2.1 _) hS kk (by rw [fw_get o.1, hw]) hc j hj (X.2.2.2.2.1 _ hlink) (fun _ z => z) hfin (hty j hj) hn hfit hlen hdg (fun H1 locs1 hP1 _ hS1 => k _ r hr hp H1 locs1 ls (by rw [fw_set o.1, hset] at hP1; exact hP1) hS1 hl)
set_option maxHeartbeats 4000000 in
theorem z_getN {K : MCx} {G : Lay} {own : String} {cc : ByteArray} {nL : Nat} {ret : Option FieldType} {rf rl : Nat} {ρ : Type} {P : ρ → Prop} {Q : ρ → State → Prop} {pc : Nat} {lv : List (Nat × Value)} {st : List Value} {h : Int64} {σ : cS} {E : Option ρ} (X : Cx K G own cc nL ret rf rl) {ci : Nat} {C : String} {T : u_T} {n kk : Nat} {fs : List Value} (hin : ∀ w ∈ u_ws C T n, w ∈ wsL_law) (hc : vwCl[ci]? = some (C, T, n)) (o : Ob G kk ci) (hw : ce G h σ kk = .inr (ci, fs)) (j : Nat) (hj : j < n) {index : Nat} (hlink : Cond.fieldLinkNest own index (T j).1 (T j).2.1 (T j).2.2.1 "EdgeHolders" ∈ nstW) {v : Value} (hv : fs[j]? = some v) (hdg : decode cc pc = .ok (.getfield index, 3)) (k : Sm K G P Q nL (pc + 3) (lv) (v :: st) h σ (E)) : Sm K G P Q nL (pc) (lv) (.ref (la G kk) :: st) h σ (E) := fun r hr hp H locs ls hP hS hl => va_getN X.1 X.2.1 X.2.2.2.2.1 hin X.2.2.2.1 X.2.2.2.2.2.1 hP kk (by rw [fw_get o.1, hw]) hc j hj (va_Nw.use (nst_tab hlink) (X.2.2.2.2.2.2.2.2.2.2.2 _ hlink)) (fun _ z => z) hv hdg (k r hr hp H locs ls hP hS hl)
set_option maxHeartbeats 4000000 in
theorem z_ldcw {K : MCx} {G : Lay} {own : String} {cc : ByteArray} {nL : Nat} {ret : Option FieldType} {rf rl : Nat} {ρ : Type} {P : ρ → Prop} {Q : ρ → State → Prop} {pc : Nat} {lv : List (Nat × Value)} {st : List Value} {h : Int64} {σ : cS} {E : Option ρ} (X : Cx K G own cc nL ret rf rl) {index : Nat} {v : Int32} (hw : Jvm.Cond.constant own index v ∈ wsL_law) (hdg : decode cc pc = .ok (.ldc_w index, 3)) (k : Sm K G P Q nL (pc + 3) (lv) (.int v :: st) h σ (E)) : Sm K G P Q nL (pc) (lv) (st) h σ (E) := fun r hr hp H locs ls hP hS hl => lv_ldcw X.1 X.2.1 X.2.2.2.1 (X.2.2.2.2.1 _ hw) hdg (k r hr hp H locs ls hP hS hl)
set_option maxHeartbeats 4000000 in
theorem z_dconst0 {K : MCx} {G : Lay} {own : String} {cc : ByteArray} {nL : Nat} {ret : Option FieldType} {rf rl : Nat} {ρ : Type} {P : ρ → Prop} {Q : ρ → State → Prop} {pc : Nat} {lv : List (Nat × Value)} {st : List Value} {h : Int64} {σ : cS} {E : Option ρ} (X : Cx K G own cc nL ret rf rl) (hdg : decode cc pc = .ok (.dconst 0, 1)) (k : Sm K G P Q nL (pc + 1) (lv) (.double FP.dconst0 :: st) h σ (E)) : Sm K G P Q nL (pc) (lv) (st) h σ (E) := fun r hr hp H locs ls hP hS hl => lv_dconst0 X.1 X.2.1 hdg (k r hr hp H locs ls hP hS hl)
def n64b (r : UInt64) : Bool := decide (r &&& 0x7fffffffffffffff ≤ 0x7ff0000000000000)
set_option maxHeartbeats 4000000 in
theorem n64_of {r : UInt64} (h : n64b r = true) : vf_n64 r := by
  unfold n64b at h
  unfold vf_n64
  exact of_decide_eq_true h
set_option maxHeartbeats 4000000 in
theorem z_ddiv {K : MCx} {G : Lay} {own : String} {cc : ByteArray} {nL : Nat} {ret : Option FieldType} {rf rl : Nat} {ρ : Type} {P : ρ → Prop} {Q : ρ → State → Prop} {pc : Nat} {lv : List (Nat × Value)} {st : List Value} {h : Int64} {σ : cS} {E : Option ρ} (X : Cx K G own cc nL ret rf rl) {x y : UInt64} (hdg : decode cc pc = .ok (.ddiv, 1)) (k : Sm K G P Q nL (pc + 1) (lv) (.double (FP.ddiv x y) :: st) h σ (E)) : Sm K G P Q nL (pc) (lv) (.double y :: .double x :: st) h σ (grd (n64b (FP.ddiv x y)) E) := z_grd (fun q r hr hp H locs ls hP hS hl => lv_ddiv X.1 X.2.1 hdg (n64_of q) (k r hr hp H locs ls hP hS hl))
set_option maxHeartbeats 4000000 in
theorem z_idiv {K : MCx} {G : Lay} {own : String} {cc : ByteArray} {nL : Nat} {ret : Option FieldType} {rf rl : Nat} {ρ : Type} {P : ρ → Prop} {Q : ρ → State → Prop} {pc : Nat} {lv : List (Nat × Value)} {st : List Value} {h : Int64} {σ : cS} {E : Option ρ} (X : Cx K G own cc nL ret rf rl) {x y : Int32} (hdg : decode cc pc = .ok (.idiv, 1)) (k : Sm K G P Q nL (pc + 1) (lv) (.int (x / y) :: st) h σ (E)) : Sm K G P Q nL (pc) (lv) (.int y :: .int x :: st) h σ (grd (nz y) E) := z_grd (fun q r hr hp H locs ls hP hS hl => lv_idiv X.1 X.2.1 hdg (of_decide_eq_true q) (k r hr hp H locs ls hP hS hl))
set_option maxHeartbeats 4000000 in
theorem z_irem {K : MCx} {G : Lay} {own : String} {cc : ByteArray} {nL : Nat} {ret : Option FieldType} {rf rl : Nat} {ρ : Type} {P : ρ → Prop} {Q : ρ → State → Prop} {pc : Nat} {lv : List (Nat × Value)} {st : List Value} {h : Int64} {σ : cS} {E : Option ρ} (X : Cx K G own cc nL ret rf rl) {x y : Int32} (hdg : decode cc pc = .ok (.irem, 1)) (k : Sm K G P Q nL (pc + 1) (lv) (.int (x - x / y * y) :: st) h σ (E)) : Sm K G P Q nL (pc) (lv) (.int y :: .int x :: st) h σ (grd (nz y) E) := z_grd (fun q r hr hp H locs ls hP hS hl => lv_irem X.1 X.2.1 hdg (of_decide_eq_true q) (k r hr hp H locs ls hP hS hl))
set_option maxHeartbeats 4000000 in
theorem z_tsIn {K : MCx} {G : Lay} {own : String} {cc : ByteArray} {nL : Nat} {ret : Option FieldType} {rf rl : Nat} {ρ : Type} {P : ρ → Prop} {Q : ρ → State → Prop} {pc : Nat} {lv : List (Nat × Value)} {st : List Value} {h : Int64} {σ : cS} {E : Option ρ} (X : Cx K G own cc nL ret rf rl) {dflt lo hi : Int} {offs : Array Int} {len : Nat} {x : Int32} {off : Int} (tgt : Nat) (hdg : decode cc pc = .ok (.tableswitch dflt lo hi offs, len)) (h1 : ¬ x.toInt < lo) (h2 : ¬ hi < x.toInt) (ho : offs[(x.toInt - lo).toNat]? = some off) (ht : (pc : Int) + off = (tgt : Int)) (k : Sm K G P Q nL (tgt) (lv) (st) h σ (E)) : Sm K G P Q nL (pc) (lv) (.int x :: st) h σ (E) := fun r hr hp H locs ls hP hS hl => lv_tableIn X.1 X.2.1 hdg h1 h2 ho ht (k r hr hp H locs ls hP hS hl)
set_option maxHeartbeats 4000000 in
theorem z_tsOut {K : MCx} {G : Lay} {own : String} {cc : ByteArray} {nL : Nat} {ret : Option FieldType} {rf rl : Nat} {ρ : Type} {P : ρ → Prop} {Q : ρ → State → Prop} {pc : Nat} {lv : List (Nat × Value)} {st : List Value} {h : Int64} {σ : cS} {E : Option ρ} (X : Cx K G own cc nL ret rf rl) {dflt lo hi : Int} {offs : Array Int} {len : Nat} {x : Int32} (tgt : Nat) (hdg : decode cc pc = .ok (.tableswitch dflt lo hi offs, len)) (ht : (pc : Int) + dflt = (tgt : Int)) (h1 : x.toInt < lo ∨ hi < x.toInt) (k : Sm K G P Q nL (tgt) (lv) (st) h σ (E)) : Sm K G P Q nL (pc) (lv) (.int x :: st) h σ (E) := fun r hr hp H locs ls hP hS hl => lv_tableOut X.1 X.2.1 hdg h1 ht (k r hr hp H locs ls hP hS hl)
set_option maxHeartbeats 4000000 in
theorem z_lsw {K : MCx} {G : Lay} {own : String} {cc : ByteArray} {nL : Nat} {ret : Option FieldType} {rf rl : Nat} {ρ : Type} {P : ρ → Prop} {Q : ρ → State → Prop} {pc : Nat} {lv : List (Nat × Value)} {st : List Value} {h : Int64} {σ : cS} {E : Option ρ} (X : Cx K G own cc nL ret rf rl) {dflt : Int} {ps : Array (Int × Int)} {len : Nat} {x : Int32} {off : Int} (tgt : Nat) (hdg : decode cc pc = .ok (.lookupswitch dflt ps, len)) (hp' : (ps.toList.zip (ps.toList.drop 1)).all (fun (a, next) => a.1 < next.1) = true) (ho : Op.lookupswitch.offset ps.toList dflt x.toInt = off) (ht : (pc : Int) + off = (tgt : Int)) (k : Sm K G P Q nL (tgt) (lv) (st) h σ (E)) : Sm K G P Q nL (pc) (lv) (.int x :: st) h σ (E) := fun r hr hp H locs ls hP hS hl => lv_lookup X.1 X.2.1 hdg hp' ho ht (k r hr hp H locs ls hP hS hl)
set_option maxHeartbeats 4000000 in
theorem ts_out_0_3 {x : Int32} (c0 : ¬ x = (0 : Int32)) (c1 : ¬ x = (1 : Int32)) (c2 : ¬ x = (2 : Int32)) (c3 : ¬ x = (3 : Int32)) : x.toInt < 0 ∨ 3 < x.toInt := by
  have h0 := lv_neT c0 (a := 0) (by decide)
  have h1 := lv_neT c1 (a := 1) (by decide)
  have h2 := lv_neT c2 (a := 2) (by decide)
  have h3 := lv_neT c3 (a := 3) (by decide)
  omega
set_option maxHeartbeats 4000000 in
theorem ts_out_0_4 {x : Int32} (c0 : ¬ x = (0 : Int32)) (c1 : ¬ x = (1 : Int32)) (c2 : ¬ x = (2 : Int32)) (c3 : ¬ x = (3 : Int32)) (c4 : ¬ x = (4 : Int32)) : x.toInt < 0 ∨ 4 < x.toInt := by
  have h0 := lv_neT c0 (a := 0) (by decide)
  have h1 := lv_neT c1 (a := 1) (by decide)
  have h2 := lv_neT c2 (a := 2) (by decide)
  have h3 := lv_neT c3 (a := 3) (by decide)
  have h4 := lv_neT c4 (a := 4) (by decide)
  omega
set_option maxHeartbeats 4000000 in
theorem ts_out_0_6 {x : Int32} (c0 : ¬ x = (0 : Int32)) (c1 : ¬ x = (1 : Int32)) (c2 : ¬ x = (2 : Int32)) (c3 : ¬ x = (3 : Int32)) (c4 : ¬ x = (4 : Int32)) (c5 : ¬ x = (5 : Int32)) (c6 : ¬ x = (6 : Int32)) : x.toInt < 0 ∨ 6 < x.toInt := by
  have h0 := lv_neT c0 (a := 0) (by decide)
  have h1 := lv_neT c1 (a := 1) (by decide)
  have h2 := lv_neT c2 (a := 2) (by decide)
  have h3 := lv_neT c3 (a := 3) (by decide)
  have h4 := lv_neT c4 (a := 4) (by decide)
  have h5 := lv_neT c5 (a := 5) (by decide)
  have h6 := lv_neT c6 (a := 6) (by decide)
  omega
set_option maxHeartbeats 4000000 in
theorem ts_out_0_7 {x : Int32} (c0 : ¬ x = (0 : Int32)) (c1 : ¬ x = (1 : Int32)) (c2 : ¬ x = (2 : Int32)) (c3 : ¬ x = (3 : Int32)) (c4 : ¬ x = (4 : Int32)) (c5 : ¬ x = (5 : Int32)) (c6 : ¬ x = (6 : Int32)) (c7 : ¬ x = (7 : Int32)) : x.toInt < 0 ∨ 7 < x.toInt := by
  have h0 := lv_neT c0 (a := 0) (by decide)
  have h1 := lv_neT c1 (a := 1) (by decide)
  have h2 := lv_neT c2 (a := 2) (by decide)
  have h3 := lv_neT c3 (a := 3) (by decide)
  have h4 := lv_neT c4 (a := 4) (by decide)
  have h5 := lv_neT c5 (a := 5) (by decide)
  have h6 := lv_neT c6 (a := 6) (by decide)
  have h7 := lv_neT c7 (a := 7) (by decide)
  omega
set_option maxHeartbeats 4000000 in
theorem ts_out_0_27 {x : Int32} (c0 : ¬ x = (0 : Int32)) (c1 : ¬ x = (1 : Int32)) (c2 : ¬ x = (2 : Int32)) (c3 : ¬ x = (3 : Int32)) (c4 : ¬ x = (4 : Int32)) (c5 : ¬ x = (5 : Int32)) (c6 : ¬ x = (6 : Int32)) (c7 : ¬ x = (7 : Int32)) (c8 : ¬ x = (8 : Int32)) (c9 : ¬ x = (9 : Int32)) (c10 : ¬ x = (10 : Int32)) (c11 : ¬ x = (11 : Int32)) (c12 : ¬ x = (12 : Int32)) (c13 : ¬ x = (13 : Int32)) (c14 : ¬ x = (14 : Int32)) (c15 : ¬ x = (15 : Int32)) (c16 : ¬ x = (16 : Int32)) (c17 : ¬ x = (17 : Int32)) (c18 : ¬ x = (18 : Int32)) (c19 : ¬ x = (19 : Int32)) (c20 : ¬ x = (20 : Int32)) (c21 : ¬ x = (21 : Int32)) (c22 : ¬ x = (22 : Int32)) (c23 : ¬ x = (23 : Int32)) (c24 : ¬ x = (24 : Int32)) (c25 : ¬ x = (25 : Int32)) (c26 : ¬ x = (26 : Int32)) (c27 : ¬ x = (27 : Int32)) : x.toInt < 0 ∨ 27 < x.toInt := by
  have h0 := lv_neT c0 (a := 0) (by decide)
  have h1 := lv_neT c1 (a := 1) (by decide)
  have h2 := lv_neT c2 (a := 2) (by decide)
  have h3 := lv_neT c3 (a := 3) (by decide)
  have h4 := lv_neT c4 (a := 4) (by decide)
  have h5 := lv_neT c5 (a := 5) (by decide)
  have h6 := lv_neT c6 (a := 6) (by decide)
  have h7 := lv_neT c7 (a := 7) (by decide)
  have h8 := lv_neT c8 (a := 8) (by decide)
  have h9 := lv_neT c9 (a := 9) (by decide)
  have h10 := lv_neT c10 (a := 10) (by decide)
  have h11 := lv_neT c11 (a := 11) (by decide)
  have h12 := lv_neT c12 (a := 12) (by decide)
  have h13 := lv_neT c13 (a := 13) (by decide)
  have h14 := lv_neT c14 (a := 14) (by decide)
  have h15 := lv_neT c15 (a := 15) (by decide)
  have h16 := lv_neT c16 (a := 16) (by decide)
  have h17 := lv_neT c17 (a := 17) (by decide)
  have h18 := lv_neT c18 (a := 18) (by decide)
  have h19 := lv_neT c19 (a := 19) (by decide)
  have h20 := lv_neT c20 (a := 20) (by decide)
  have h21 := lv_neT c21 (a := 21) (by decide)
  have h22 := lv_neT c22 (a := 22) (by decide)
  have h23 := lv_neT c23 (a := 23) (by decide)
  have h24 := lv_neT c24 (a := 24) (by decide)
  have h25 := lv_neT c25 (a := 25) (by decide)
  have h26 := lv_neT c26 (a := 26) (by decide)
  have h27 := lv_neT c27 (a := 27) (by decide)
  omega
set_option maxHeartbeats 4000000 in
theorem hist_at {G : Lay} {k : Nat} (hk : isHist G k) {i : Int32} (h : inb i 4 = true) : isGraph G (30 + 15 * i.toNatClampNeg) := hk.2.2 _ (Nat.not_le.mp fun q => inb_in h (Or.inr q))
theorem cp7L {G : Lay} {k : Nat} (o : Ob G k 7) (hu : ∀ i, lk G i = 7 → i = k) (hv : ∀ i, lk G i ≤ 9) (h : Int64) (σ : cS) (x : Int64) : (fun i => if i = k then (.inr (7, ([.ref (la G (k + 1)), .ref (la G (k + 2)), .ref (la G (k + 3)), .ref (la G (k + 4)), .int (σ k 4), .int (σ k 5), .int (σ k 6), .int (σ k 7), .ref (la G (k + 5)), .ref (la G (k + 6)), .int (σ k 10), .int (σ k 11), .int (σ k 12), .int (σ k 13), .int (σ k 14), .int (σ k 15), .int (σ k 16), .long h] : List Value).set 17 (.long x)) : va_E) else ce G h σ i) = ce G x σ := by
  funext i
  by_cases q : i = k
  · subst q
    rw [if_pos rfl, ce7 o]
    rfl
  · rw [if_neg q]
    unfold ce
    have h7 : lk G i ≠ 7 := fun e => q (hu i e)
    have h9 := hv i
    rcases (show lk G i = 0 ∨ lk G i = 1 ∨ lk G i = 2 ∨ lk G i = 3 ∨ lk G i = 4 ∨ lk G i = 5 ∨ lk G i = 6 ∨ lk G i = 8 ∨ lk G i = 9 by omega) with e | e | e | e | e | e | e | e | e <;> rw [e] <;> rfl
set_option maxHeartbeats 4000000 in
theorem z_mmax {K : MCx} {G : Lay} {own : String} {cc : ByteArray} {nL : Nat} {ret : Option FieldType} {rf rl : Nat} {ρ : Type} {P : ρ → Prop} {Q : ρ → State → Prop} {pc : Nat} {lv : List (Nat × Value)} {st : List Value} {h : Int64} {σ : cS} {E : Option ρ} (X : Cx K G own cc nL ret rf rl) {index : Nat} {x y : Int32} (hlink : Cond.methodLink own index Lib.Math.max.name ∈ wsL_law) (hs : Cond.static Lib.Math.max.name ∈ wsL_law) (hi : Cond.initialized "java/lang/Math" ∈ wsL_law) (hc : Cond.code Lib.Math.max.name Lib.Math.max.code 2 (some .int) ∈ wsL_law) (hf : 1 ≤ rf) (hlo : (st.map fun v => v.category).sum + 13 ≤ rl) (hdg : decode cc pc = .ok (.invokestatic index, 3)) (k : Sm K G P Q nL (pc + 3) (lv) (.int (if x < y then y else x) :: st) h σ (E)) : Sm K G P Q nL (pc) (lv) (.int y :: .int x :: st) h σ (E) := fun r hr hp H locs ls hP hS hl => va_mmax X.1 X.2.1 (by rw [X.2.2.1]; exact hl.1.symm) X.2.2.2.1 (X.2.2.2.2.1 _ hlink) (X.2.2.2.2.1 _ hs) (X.2.2.2.2.1 _ hi) (X.2.2.2.2.1 _ hc) (by rw [X.2.2.2.2.2.2.2.2.2.1]; exact hf) (by rw [X.2.2.2.2.2.2.2.2.2.2.1]; exact hlo) (Nat.zero_le _) (Nat.zero_le _) hdg (k r hr hp H locs ls hP hS hl)
set_option maxHeartbeats 4000000 in
theorem z_mmin {K : MCx} {G : Lay} {own : String} {cc : ByteArray} {nL : Nat} {ret : Option FieldType} {rf rl : Nat} {ρ : Type} {P : ρ → Prop} {Q : ρ → State → Prop} {pc : Nat} {lv : List (Nat × Value)} {st : List Value} {h : Int64} {σ : cS} {E : Option ρ} (X : Cx K G own cc nL ret rf rl) {index : Nat} {x y : Int32} (hlink : Cond.methodLink own index Lib.Math.min.name ∈ wsL_law) (hs : Cond.static Lib.Math.min.name ∈ wsL_law) (hi : Cond.initialized "java/lang/Math" ∈ wsL_law) (hc : Cond.code Lib.Math.min.name Lib.Math.min.code 2 (some .int) ∈ wsL_law) (hf : 1 ≤ rf) (hlo : (st.map fun v => v.category).sum + 13 ≤ rl) (hdg : decode cc pc = .ok (.invokestatic index, 3)) (k : Sm K G P Q nL (pc + 3) (lv) (.int (if y < x then y else x) :: st) h σ (E)) : Sm K G P Q nL (pc) (lv) (.int y :: .int x :: st) h σ (E) := fun r hr hp H locs ls hP hS hl => va_mmin X.1 X.2.1 (by rw [X.2.2.1]; exact hl.1.symm) X.2.2.2.1 (X.2.2.2.2.1 _ hlink) (X.2.2.2.2.1 _ hs) (X.2.2.2.2.1 _ hi) (X.2.2.2.2.1 _ hc) (by rw [X.2.2.2.2.2.2.2.2.2.1]; exact hf) (by rw [X.2.2.2.2.2.2.2.2.2.2.1]; exact hlo) (Nat.zero_le _) (Nat.zero_le _) hdg (k r hr hp H locs ls hP hS hl)
/-- a method's words: its own code, and all of the law's -/
def mws (y : MethodName) (bytes : ByteArray) (maxL : Nat) (rt : Option FieldType) : List Cond := Cond.code y bytes maxL rt :: wsL_law
/-- how a method ends: its answer, and the world behind it -/
def QC (G : Lay) (o : Option Value × Int64 × cS) : Array Value → State → Outcome → State → Prop := fun _ st oc t => oc = .returned o.1 ∧ va_P (lD G) vwCl (wd G o.2.1 o.2.2) t.heap ∧ va_F (FA G) st t
def PC (G : Lay) (av : List Value) (h : Int64) (σ : cS) : Array Value → State → Prop := va_Pc av (fun U => va_P (lD G) vwCl (wd G h σ) U.heap ∧ va_K (lD G) vwCl (ltys G) U ∧ NW U)
abbrev rmP (fr lo : Nat) : Room := { frames := fr, cells := 0, slots := 0, locals := lo }
def CM (l : Launch) (y : MethodName) (bytes : ByteArray) (maxL : Nat) (rt : Option FieldType) (fr lo : Nat) (G : Lay) (av : List Value) (h : Int64) (σ : cS) (o : Option Value × Int64 × cS) : Prop :=
  Met l y (mws y bytes maxL rt) (rmP fr lo) (PC G av h σ) (QC G o) 0 0 (FA G)
def QM (K : MCx) (G : Lay) {ρ : Type} (g : ρ → Option Value × Int64 × cS) : ρ → State → Prop := fun r => MQ (kb K) (QC G (g r)) (ka K) (ks K) 0 0 (FA G)
def TT {ρ : Type} : ρ → Prop := fun _ => True
theorem PC_blind {G : Lay} {av : List Value} {h : Int64} {σ : cS} : FrameBlind (PC G av h σ) := fun a U g mk q => ⟨q.1, q.2.1, va_K.moved (u := U) (U := U.calling g mk a) (Vm.Alike.refl U.vm) q.2.2.1, NW_same (u := U) rfl q.2.2.2⟩
theorem cm_of {l : Launch} {G : Lay} {y : MethodName} {cc : ByteArray} {maxL : Nat} {ret : Option FieldType} {fr lo : Nat} {ρ : Type} {g : ρ → Option Value × Int64 × cS} {av : List Value} {h : Int64} {σ : cS} {E : Option ρ} (hy : plainName y.cls = true) (hi : Inj G) (hlen : (lg_sl av).length ≤ maxL) (hS : ∀ K, kl K = l → Cx K G y.cls cc maxL ret fr lo → Sm K G TT (QM K G g) maxL 0 (lv_args 0 av) [] h σ E) : ∀ r, E = some r → CM l y cc maxL ret fr lo G av h σ (g r) := by
  intro r hr
  refine Met.ofW (cc := cc) (maxL := maxL) (ret := ret) hy rfl ?_
  intro p e s m args below meth c s₁ B hml hv
  obtain ⟨rfl, hP, hK, hN⟩ := hv
  have hts := atoms_spec (ws := mws y cc maxL ret) B.pre
  have hl := lv_entry av hlen
  rw [lg_entry_eq]
  exact hS (p, l, e, (headSpec (mws y cc maxL ret) (rmP fr lo)).room, s, m, av.toArray, below, meth, c) rfl ⟨B.exec, B.bytes, hml, findClass_of_methodNamed B.named, fun w h => hts w (List.mem_cons_of_mem _ h), hK, B.notSynchronized, hi, B.returns, rfl, rfl, hN⟩ r hr trivial s.heap [] _ hP va_S.rf hl

set_option maxHeartbeats 4000000 in
theorem z_iret {K : MCx} {G : Lay} {own : String} {cc : ByteArray} {nL : Nat} {rf rl : Nat} {ρ : Type} {P : ρ → Prop} {pc : Nat} {lv : List (Nat × Value)} {h : Int64} {σ : cS} (X : Cx K G own cc nL (some .int) rf rl) {g : ρ → Option Value × Int64 × cS} {v : Int32} {r0 : ρ} (hg : g r0 = (some (.int v), h, σ)) (hdg : decode cc pc = .ok (.ireturn, 1)) : Sm K G P (QM K G g) nL pc lv [.int v] h σ (some r0) := by
  intro r hr hp H locs ls hP hS hl
  cases hr
  exact W.iret X.1 X.2.1 X.2.2.2.2.2.2.2.2.1 (fun t ht hW => ⟨by rw [hg], by rw [hg, ht]; exact hP, hS.F ht⟩) hS.2.2 hdg X.2.2.2.2.2.2.1
set_option maxHeartbeats 4000000 in
theorem z_lret {K : MCx} {G : Lay} {own : String} {cc : ByteArray} {nL : Nat} {rf rl : Nat} {ρ : Type} {P : ρ → Prop} {pc : Nat} {lv : List (Nat × Value)} {h : Int64} {σ : cS} (X : Cx K G own cc nL (some .long) rf rl) {g : ρ → Option Value × Int64 × cS} {v : Int64} {r0 : ρ} (hg : g r0 = (some (.long v), h, σ)) (hdg : decode cc pc = .ok (.lreturn, 1)) : Sm K G P (QM K G g) nL pc lv [.long v] h σ (some r0) := by
  intro r hr hp H locs ls hP hS hl
  cases hr
  exact W.lret X.1 X.2.1 X.2.2.2.2.2.2.2.2.1 (fun t ht hW => ⟨by rw [hg], by rw [hg, ht]; exact hP, hS.F ht⟩) hS.2.2 hdg X.2.2.2.2.2.2.1
set_option maxHeartbeats 4000000 in
theorem z_vret {K : MCx} {G : Lay} {own : String} {cc : ByteArray} {nL : Nat} {rf rl : Nat} {ρ : Type} {P : ρ → Prop} {pc : Nat} {lv : List (Nat × Value)} {h : Int64} {σ : cS} (X : Cx K G own cc nL none rf rl) {g : ρ → Option Value × Int64 × cS} {r0 : ρ} (hg : g r0 = (none, h, σ)) (hdg : decode cc pc = .ok (.return_, 1)) : Sm K G P (QM K G g) nL pc lv [] h σ (some r0) := by
  intro r hr hp H locs ls hP hS hl
  cases hr
  exact W.vret X.1 X.2.1 X.2.2.2.2.2.2.2.2.1 (fun t ht hW => ⟨by rw [hg], by rw [hg, ht]; exact hP, hS.F ht⟩) hS.2.2 hdg X.2.2.2.2.2.2.1
set_option maxHeartbeats 4000000 in
theorem z_dret {K : MCx} {G : Lay} {own : String} {cc : ByteArray} {nL : Nat} {rf rl : Nat} {ρ : Type} {P : ρ → Prop} {pc : Nat} {lv : List (Nat × Value)} {h : Int64} {σ : cS} (X : Cx K G own cc nL (some .double) rf rl) {g : ρ → Option Value × Int64 × cS} {v : UInt64} {r0 : ρ} (hg : g r0 = (some (.double v), h, σ)) (hdg : decode cc pc = .ok (.dreturn, 1)) : Sm K G P (QM K G g) nL pc lv [.double v] h σ (some r0) := by
  intro r hr hp H locs ls hP hS hl
  cases hr
  exact W.dret X.1 X.2.1 X.2.2.2.2.2.2.2.2.1 (fun t ht hW => ⟨by rw [hg], by rw [hg, ht]; exact hP, hS.F ht⟩) hS.2.2 hdg X.2.2.2.2.2.2.1
set_option maxHeartbeats 4000000 in
theorem isb_nar {v : Int32} (h : isb v = true) : narrow .boolean (.int v) = .int v := by
  unfold isb at h
  rcases of_decide_eq_true h with rfl | rfl <;> rfl
set_option maxHeartbeats 4000000 in
theorem z_zret {K : MCx} {G : Lay} {own : String} {cc : ByteArray} {nL : Nat} {rf rl : Nat} {ρ : Type} {P : ρ → Prop} {pc : Nat} {lv : List (Nat × Value)} {h : Int64} {σ : cS} (X : Cx K G own cc nL (some .boolean) rf rl) {g : ρ → Option Value × Int64 × cS} {v : Int32} {r0 : ρ} (hg : g r0 = (some (.int v), h, σ)) (hdg : decode cc pc = .ok (.ireturn, 1)) : Sm K G P (QM K G g) nL pc lv [.int v] h σ (grd (isb v) (some r0)) := by
  refine z_grd (fun q => ?_)
  intro r hr hp H locs ls hP hS hl
  cases hr
  exact W.zret X.1 X.2.1 X.2.2.2.2.2.2.2.2.1 (isb_nar q) (fun t ht hW => ⟨by rw [hg], by rw [hg, ht]; exact hP, hS.F ht⟩) hS.2.2 hdg X.2.2.2.2.2.2.1
/-- what a callee's words are -/
def Cal (y : MethodName) (C : String) (bytes : ByteArray) (maxL : Nat) (rt : Option FieldType) (n : Nat) : Prop :=
  Cond.code y bytes maxL rt ∈ wsL_law ∧ Cond.instanceMethod y ∈ wsL_law ∧ Cond.selects C y y ∈ wsL_law ∧ Cond.initialized C ∈ wsL_law ∧ (y.cls = C ∧ y.cls ≠ "java/lang/invoke/MethodHandle" ∧ y.cls ≠ "java/lang/invoke/VarHandle" ∧ (parseMethodDescriptor y.desc).map (fun d => d.parameters.length) = some n)
def CalS (y : MethodName) (bytes : ByteArray) (maxL : Nat) (rt : Option FieldType) (n : Nat) : Prop :=
  Cond.code y bytes maxL rt ∈ wsL_law ∧ Cond.static y ∈ wsL_law ∧ Cond.initialized y.cls ∈ wsL_law ∧ (y.cls ≠ "java/lang/invoke/MethodHandle" ∧ y.cls ≠ "java/lang/invoke/VarHandle" ∧ (parseMethodDescriptor y.desc).map (fun d => d.parameters.length) = some n)
theorem law_good : wsL_law.all goodWord = true := by decide +kernel
theorem law_GI {ws : List Cond} (h : ∀ w ∈ ws, w ∈ wsL_law) : GoodIn wsL_law ws := fun w hw => ⟨h w hw, good_of_word (List.all_eq_true.mp law_good w (h w hw))⟩
theorem mws_in {y : MethodName} {bytes : ByteArray} {maxL : Nat} {rt : Option FieldType} (h : Cond.code y bytes maxL rt ∈ wsL_law) : ∀ w ∈ mws y bytes maxL rt, w ∈ wsL_law := fun w hw => by
  rcases List.mem_cons.mp hw with q | q
  · rw [q]; exact h
  · exact q
theorem cal_V {R : Room} {s : State} {args : Array Value} {own C : String} {index : Nat} {y : MethodName} {bytes : ByteArray} {maxL n fr lo : Nat} {rt : Option FieldType} (ht : ∀ w ∈ wsL_law, w.before args s = true) (hy : Cal y C bytes maxL rt n) (hlink : Cond.methodLink own index y ∈ wsL_law) {rm : Room} {mc ms : Nat} (hrc : rm.cells = mc) (hrs : rm.slots = ms) (hR : rm.frames + 1 ≤ R.frames ∧ 8 + (maxL + 11) + rm.locals ≤ R.locals) :
    CallW R s args own C index y bytes maxL rt (mws y bytes maxL rt) rm mc ms n := by
  obtain ⟨h1, h2, h3, h4, h5⟩ := hy
  refine cwV n ht (law_GI ?_) rfl hrc hrs h5 hR
  intro w hw
  rcases List.mem_append.mp hw with q | q
  · simp only [List.mem_cons, List.mem_nil_iff, or_false] at q
    rcases q with rfl | rfl | rfl | rfl
    · exact hlink
    · exact h2
    · exact h3
    · exact h4
  · exact mws_in h1 w q
theorem cal_S {R : Room} {s : State} {args : Array Value} {own : String} {index : Nat} {y : MethodName} {bytes : ByteArray} {maxL n fr lo : Nat} {rt : Option FieldType} (ht : ∀ w ∈ wsL_law, w.before args s = true) (hy : CalS y bytes maxL rt n) (hlink : Cond.methodLink own index y ∈ wsL_law) {rm : Room} {mc ms : Nat} (hrc : rm.cells = mc) (hrs : rm.slots = ms) (hR : rm.frames + 1 ≤ R.frames ∧ 8 + (maxL + 11) + rm.locals ≤ R.locals) :
    CallB R s args own index y bytes maxL rt (mws y bytes maxL rt) rm mc ms n ∧ (Cond.static y).before args s = true := by
  obtain ⟨h1, h2, h4, h5⟩ := hy
  refine va_cwS n ht (law_GI ?_) rfl hrc hrs h5 hR
  intro w hw
  rcases List.mem_append.mp hw with q | q
  · simp only [List.mem_cons, List.mem_nil_iff, or_false] at q
    rcases q with rfl | rfl | rfl
    · exact hlink
    · exact h2
    · exact h4
  · exact mws_in h1 w q
/-- behind a call -/
theorem va_S_call {A : Nat → Prop} {H0 H : Heap} {locs L : List Loc} {st0 t T' : State} (hS : va_S A H0 H locs) (h0 : st0.heap = H) (e1 : T'.heap = t.heap) (hF : va_F A st0 t) (hL : ∀ q ∈ L, A q.base) : va_S A H0 T'.heap (locs ++ L) := (vx_keep (A0 := A) h0 e1 hS (fun q _ z => z) (fun q z => z) hL hF).2.2

set_option maxHeartbeats 4000000 in
theorem z_callV0 {K : MCx} {G : Lay} {own : String} {cc : ByteArray} {nL : Nat} {ret : Option FieldType} {rf rl : Nat} {ρ : Type} {P : ρ → Prop} {Q : ρ → State → Prop} {pc : Nat} {lv : List (Nat × Value)} {st : List Value} {h : Int64} {σ : cS} (X : Cx K G own cc nL ret rf rl) {ρc : Type} {y : MethodName} {bytes : ByteArray} {maxL n : Nat} {rt : Option FieldType} {index rmf rml : Nat} {Ec : Option ρc} {f : ρc → Option ρ} {g : ρc → Option Value × Int64 × cS} {C : String} {T : u_T} {nf ci : Nat} {fs : List Value} {st0 : List Value} {st1 : ρc → List Value} (As : List Value) (kk : Nat) (hy : Cal y C bytes maxL rt n) (hlink : Cond.methodLink own index y ∈ wsL_law) (hR : rmf + 1 ≤ rf ∧ 8 + (maxL + 11) + rml ≤ rl) (hst : st0 = As.reverse ++ .ref (la G kk) :: st) (hn : As.length = n) (hcat : (st.map fun v => v.category).sum ≤ 8) (hc : vwCl[ci]? = some (C, T, nf)) (o : Ob G kk ci) (hw : ce G h σ kk = .inr (ci, fs)) (hM : ∀ rc, Ec = some rc → CM (kl K) y bytes maxL rt rmf rml G (.ref (la G kk) :: As) h σ (g rc)) (hdg : decode cc pc = .ok (.invokevirtual index, 3)) (hst1 : ∀ rc, (g rc).1.toList ++ st = st1 rc) (k : ∀ rc, Sm K G P Q nL (pc + 3) lv (st1 rc) (g rc).2.1 (g rc).2.2 (f rc)) : Sm K G P Q nL pc lv st0 h σ (Ec.bind f) := by
  intro r hr hp H locs ls hP hS hl
  obtain ⟨rc, hr1, hr2⟩ := Option.bind_eq_some_iff.mp hr
  have hK := X.2.2.2.2.2.1
  have hN := X.2.2.2.2.2.2.2.2.2.2.2
  have hrun := va_runV (cells := 0) (slots := 0) (R := kR K) (locs := locs) (H := H) (p := kp K) (l := kl K) (e := ke K) (below := kb K) (meth := kme K) (g := F0 (km K) pc ls st0) (As := As) (rest := st) (b := la G kk) ⟨X.1, X.2.1, X.2.2.1, X.2.2.2.1, X.2.2.2.2.1⟩ (hM rc hr1) (cal_V (fr := 0) (lo := 0) X.2.2.2.2.1 hy hlink (rm := rmP rmf rml) rfl rfl (by rw [X.2.2.2.2.2.2.2.2.2.1, X.2.2.2.2.2.2.2.2.2.2.1]; exact hR)) ⟨PC_blind, va_recv hK hP hc (by rw [fw_get o.1, hw]), fun U hU hW => ⟨rfl, by rw [hU]; exact hP, va_K.moved hW.alike hK, NW_warm hW hN⟩⟩ rfl hn hl.1 hst (lv_room hcat) hdg ⟨Nat.zero_le _, Nat.zero_le _⟩
  intro T0 hT XX
  obtain ⟨v, sa, t, T', L, h0, X', hL, e1, e2, ⟨hv, hP1, hF⟩, stp⟩ := hrun T0 hT XX
  cases hv
  obtain ⟨t2, a1, b1⟩ := k rc r hr2 hp T'.heap (locs ++ L) ls (by rw [e1]; exact hP1) (va_S_call hS h0 e1 hF hL) hl T' rfl X'
  rw [← hst1 rc] at a1
  exact ⟨t2, stp t2 a1, b1⟩
theorem z_callS0 {K : MCx} {G : Lay} {own : String} {cc : ByteArray} {nL : Nat} {ret : Option FieldType} {rf rl : Nat} {ρ : Type} {P : ρ → Prop} {Q : ρ → State → Prop} {pc : Nat} {lv : List (Nat × Value)} {st : List Value} {h : Int64} {σ : cS} (X : Cx K G own cc nL ret rf rl) {ρc : Type} {y : MethodName} {bytes : ByteArray} {maxL n : Nat} {rt : Option FieldType} {index rmf rml : Nat} {Ec : Option ρc} {f : ρc → Option ρ} {g : ρc → Option Value × Int64 × cS} {st0 : List Value} {st1 : ρc → List Value} (As : List Value) (hy : CalS y bytes maxL rt n) (hlink : Cond.methodLink own index y ∈ wsL_law) (hR : rmf + 1 ≤ rf ∧ 8 + (maxL + 11) + rml ≤ rl) (hst : st0 = As.reverse ++ st) (hn : As.length = n) (hcat : (st.map fun v => v.category).sum ≤ 8) (hM : ∀ rc, Ec = some rc → CM (kl K) y bytes maxL rt rmf rml G As h σ (g rc)) (hdg : decode cc pc = .ok (.invokestatic index, 3)) (hst1 : ∀ rc, (g rc).1.toList ++ st = st1 rc) (k : ∀ rc, Sm K G P Q nL (pc + 3) lv (st1 rc) (g rc).2.1 (g rc).2.2 (f rc)) : Sm K G P Q nL pc lv st0 h σ (Ec.bind f) := by
  intro r hr hp H locs ls hP hS hl
  obtain ⟨rc, hr1, hr2⟩ := Option.bind_eq_some_iff.mp hr
  have hK := X.2.2.2.2.2.1
  have hN := X.2.2.2.2.2.2.2.2.2.2.2
  have hrun := va_runS (cells := 0) (slots := 0) (R := kR K) (locs := locs) (H := H) (p := kp K) (l := kl K) (e := ke K) (below := kb K) (meth := kme K) (g := F0 (km K) pc ls st0) (As := As) (rest := st) ⟨X.1, X.2.1, X.2.2.1, X.2.2.2.1, X.2.2.2.2.1⟩ (hM rc hr1) (cal_S (fr := 0) (lo := 0) X.2.2.2.2.1 hy hlink (rm := rmP rmf rml) rfl rfl (by rw [X.2.2.2.2.2.2.2.2.2.1, X.2.2.2.2.2.2.2.2.2.2.1]; exact hR)) ⟨PC_blind, fun U hU hW => ⟨rfl, by rw [hU]; exact hP, va_K.moved hW.alike hK, NW_warm hW hN⟩⟩ rfl hn hl.1 hst (lv_room hcat) hdg ⟨Nat.zero_le _, Nat.zero_le _⟩
  intro T0 hT XX
  obtain ⟨v, sa, t, T', L, h0, X', hL, e1, e2, ⟨hv, hP1, hF⟩, stp⟩ := hrun T0 hT XX
  cases hv
  obtain ⟨t2, a1, b1⟩ := k rc r hr2 hp T'.heap (locs ++ L) ls (by rw [e1]; exact hP1) (va_S_call hS h0 e1 hF hL) hl T' rfl X'
  rw [← hst1 rc] at a1
  exact ⟨t2, stp t2 a1, b1⟩
end
section
/-! ===== methods that throw ===== -/
def exN (n : Nat) : String := match n with
  | 1 => "java/lang/IllegalArgumentException"
  | 2 => "java/lang/IllegalStateException"
  | 3 => "java/lang/IndexOutOfBoundsException"
  | _ => "java/util/NoSuchElementException"
def exNs : List String := ["java/lang/RuntimeException", "java/lang/Exception"]
def strs : List (Nat × String) := [(49, "nodes is out of range"), (82, "there are 40 edges"), (107, "the node cannot be relieved"), (116, "capacity is out of range"), (147, "what is out of range"), (163, "there are not so many edges"), (197, "the path has not so many edges"), (199, "part is empty or has a node that there is not"), (231, "value is out of range"), (236, "the text has 100 bytes"), (259, "there is no saved state"), (294, "there is no such node"), (296, "both nodes are the same"), (303, "there is no such edge")]
def thL (ic : Nat) (E : String) : List Cond := vx_atS RX6 ic E exNs
def thW : List Cond := (thL 51 "java/lang/IllegalArgumentException").filter (fun w => !goodWord w) ++ (thL 84 "java/lang/IllegalStateException").filter (fun w => !goodWord w) ++ (thL 165 "java/lang/IndexOutOfBoundsException").filter (fun w => !goodWord w) ++ (thL 305 "java/util/NoSuchElementException").filter (fun w => !goodWord w)
def isCD : Cond → Bool
  | .castable _ _ => true
  | .declares _ => true
  | _ => false
theorem thW_cd : thW.all isCD = true := by decide +kernel
theorem isCD_of {w : Cond} (h : isCD w = true) : (∃ C T, w = .castable C T) ∨ ∃ x, w = .declares x := by
  cases w <;> first | exact Or.inl ⟨_, _, rfl⟩ | exact Or.inr ⟨_, rfl⟩ | cases h
theorem thW_warm {s U : State} (hW : s.WarmedH U.vm) {w : Cond} (hw : w ∈ thW) (h : va_Nw w s) : va_Nw w U := by
  rcases isCD_of (List.all_eq_true.mp thW_cd w hw) with ⟨C, T, rfl⟩ | ⟨x, rfl⟩
  · exact va_Nw.warmC hW h
  · exact va_Nw.warmD hW h
theorem thW_tab {w : Cond} (hw : w ∈ thW) : w.onTables = true := by
  rcases isCD_of (List.all_eq_true.mp thW_cd w hw) with ⟨C, T, rfl⟩ | ⟨x, rfl⟩ <;> rfl
/-- what a throw asks of the state: two statics, words, texts -/
def SX (G : Lay) (U : State) (H : Heap) : Prop := vx_Zq Bundle.tN "UNASSIGNED_STACK" Bundle.steD (FA G) U H ∧ vx_Zq Bundle.tN "SUPPRESSED_SENTINEL" Bundle.listD (FA G) U H ∧ (∀ w ∈ thW, va_Nw w U) ∧ (∀ q ∈ strs, ∃ a, vk_R RX6 q.1 q.2 a U)
theorem SX_warm {G : Lay} {s U : State} {H H1 : Heap} (hW : s.WarmedH U.vm) (h : SX G s H) (hq : ∀ a : Nat, a < H.size → ¬ FA G a → H1[a]? = H[a]?) : SX G U H1 := by
  obtain ⟨h1, h2, h3, h4⟩ := h
  exact ⟨(h1.moved hW.alike).kept hq, (h2.moved hW.alike).kept hq, fun w hw => thW_warm hW hw (h3 w hw), fun q hq => by obtain ⟨a, ha⟩ := h4 q hq; exact ⟨a, ha.warm hW⟩⟩
theorem SX_same {G : Lay} {u U : State} {H : Heap} (hv : U.vm = u.vm) (h : SX G u H) : SX G U H := by
  obtain ⟨h1, h2, h3, h4⟩ := h
  have hA : u.vm.Alike U.vm := by rw [hv]; exact Vm.Alike.refl _
  exact ⟨h1.moved hA, h2.moved hA, fun w hw => va_Nw.same (thW_tab hw) hv.symm (h3 w hw), fun q hq => by obtain ⟨a, ha⟩ := h4 q hq; exact ⟨a, ha.same hv⟩⟩
def XC (G : Lay) (o : String × Int64 × cS) : String → State → State → Prop := fun E st t => E = o.1 ∧ va_P (lD G) vwCl (wd G o.2.1 o.2.2) t.heap ∧ va_F (FA G) st t
abbrev rmX (fr lo : Nat) : Room := { frames := fr, cells := 1, slots := 6, locals := lo }
def PCX (G : Lay) (av : List Value) (h : Int64) (σ : cS) : Array Value → State → Prop := va_Pc av (fun U => (va_P (lD G) vwCl (wd G h σ) U.heap ∧ va_K (lD G) vwCl (ltys G) U ∧ NW U) ∧ SX G U U.heap)
theorem PCX_blind {G : Lay} {av : List Value} {h : Int64} {σ : cS} : FrameBlind (PCX G av h σ) := fun a U g mk q => ⟨q.1, ⟨q.2.1.1, va_K.moved (u := U) (U := U.calling g mk a) (Vm.Alike.refl U.vm) q.2.1.2.1, NW_same (u := U) rfl q.2.1.2.2⟩, SX_same (u := U) (U := U.calling g mk a) rfl q.2.2⟩
def CX (l : Launch) (y : MethodName) (bytes : ByteArray) (maxL : Nat) (rt : Option FieldType) (fr lo : Nat) (G : Lay) (av : List Value) (h : Int64) (σ : cS) (o : String × Int64 × cS) : Prop :=
  vx_Met l y (mws y bytes maxL rt) (rmX fr lo) (PCX G av h σ) (fun _ _ _ _ => False) (XC G o) 1 6 (FA G)
def QX (K : MCx) (G : Lay) {α β : Type} (g : α → Option Value × Int64 × cS) (gx : β → String × Int64 × cS) : α ⊕ β → State → Prop := fun r => match r with
  | .inl a => MQ (kb K) (QC G (g a)) (ka K) (ks K) 0 0 (FA G)
  | .inr b => vx_MQ (kb K) (fun _ _ _ _ => False) (XC G (gx b)) (ka K) (ks K) 1 6 (FA G)
def PX (K : MCx) (G : Lay) {α β : Type} : α ⊕ β → Prop := fun r => match r with
  | .inl _ => True
  | .inr _ => 1 ≤ (kR K).cells ∧ 6 ≤ (kR K).slots ∧ SX G (ks K) (ks K).heap ∧ (∀ x ∈ (kc K).exceptionTable.toList, False) ∧ (kl K).stackTraces = false
def xbn {α β β' γ : Type} (x : Option (α ⊕ β)) (cv : β → β') (f : α → Option (γ ⊕ β')) : Option (γ ⊕ β') := match x with
  | none => none
  | some (.inl a) => f a
  | some (.inr b) => some (.inr (cv b))
def ibn {α β γ : Type} (x : Option (α ⊕ β)) (f : α → Option γ) : Option γ := match x with
  | some (.inl a) => f a
  | _ => none
theorem cm_ofX {l : Launch} {G : Lay} {y : MethodName} {cc : ByteArray} {maxL : Nat} {ret : Option FieldType} {fr lo : Nat} {α β : Type} {g : α → Option Value × Int64 × cS} {gx : β → String × Int64 × cS} {av : List Value} {h : Int64} {σ : cS} {E : Option (α ⊕ β)} (hy : plainName y.cls = true) (hi : Inj G) (hlen : (lg_sl av).length ≤ maxL) (hS : ∀ K, kl K = l → Cx K G y.cls cc maxL ret fr lo → Sm K G (PX K G) (QX K G g gx) maxL 0 (lv_args 0 av) [] h σ E) : ∀ r, E = some (.inl r) → CM l y cc maxL ret fr lo G av h σ (g r) := by
  intro r hr
  refine Met.ofW (cc := cc) (maxL := maxL) (ret := ret) hy rfl ?_
  intro p e s m args below meth c s₁ B hml hv
  obtain ⟨rfl, hP, hK, hN⟩ := hv
  have hts := atoms_spec (ws := mws y cc maxL ret) B.pre
  have hl := lv_entry av hlen
  rw [lg_entry_eq]
  exact hS (p, l, e, (headSpec (mws y cc maxL ret) (rmP fr lo)).room, s, m, av.toArray, below, meth, c) rfl ⟨B.exec, B.bytes, hml, findClass_of_methodNamed B.named, fun w h => hts w (List.mem_cons_of_mem _ h), hK, B.notSynchronized, hi, B.returns, rfl, rfl, hN⟩ (.inl r) hr trivial s.heap [] _ hP va_S.rf hl
theorem cx_of {l : Launch} {G : Lay} {y : MethodName} {cc : ByteArray} {maxL : Nat} {ret : Option FieldType} {fr lo : Nat} {α β : Type} {g : α → Option Value × Int64 × cS} {gx : β → String × Int64 × cS} {av : List Value} {h : Int64} {σ : cS} {E : Option (α ⊕ β)} (hy : plainName y.cls = true) (hi : Inj G) (hfl : l.stackTraces = false) (hlen : (lg_sl av).length ≤ maxL) (hS : ∀ K, kl K = l → Cx K G y.cls cc maxL ret fr lo → Sm K G (PX K G) (QX K G g gx) maxL 0 (lv_args 0 av) [] h σ E) : ∀ r, E = some (.inr r) → CX l y cc maxL ret fr lo G av h σ (gx r) := by
  intro r hr
  refine vx_ofW (cc := cc) (maxL := maxL) (ret := ret) hy rfl ?_
  intro p e s m args below meth c s₁ B hml htab hv
  obtain ⟨rfl, ⟨hP, hK, hN⟩, hX⟩ := hv
  have hts := atoms_spec (ws := mws y cc maxL ret) B.pre
  have hl := lv_entry av hlen
  rw [lg_entry_eq]
  exact hS (p, l, e, (headSpec (mws y cc maxL ret) (rmX fr lo)).room, s, m, av.toArray, below, meth, c) rfl ⟨B.exec, B.bytes, hml, findClass_of_methodNamed B.named, fun w h => hts w (List.mem_cons_of_mem _ h), hK, B.notSynchronized, hi, B.returns, rfl, rfl, hN⟩ (.inr r) hr ⟨Nat.le_refl _, Nat.le_refl _, hX, htab, hfl⟩ s.heap [] _ hP va_S.rf hl
/-- what is asked of an exception's class -/
def TH (ik ic : Nat) (E : String) : Prop := Bundle.fit E = true ∧ (∀ n ∈ exNs, Bundle.fit n = true) ∧ (∀ w ∈ (thL ic E).filter goodWord, w ∈ wsL_law) ∧ (∀ w ∈ (thL ic E).filter (fun w => !goodWord w), w ∈ thW) ∧ (∀ w ∈ Cond.classLink RX6 ik E :: Cond.initialized E :: thL ic E, vx_ot w = true)
theorem th_1 : TH 47 51 "java/lang/IllegalArgumentException" := ⟨by decide +kernel, by decide +kernel, fun w h => law_x0 w h, fun w h => List.mem_append_left _ (List.mem_append_left _ (List.mem_append_left _ h)), by decide +kernel⟩
theorem th_2 : TH 80 84 "java/lang/IllegalStateException" := ⟨by decide +kernel, by decide +kernel, fun w h => law_x1 w h, fun w h => List.mem_append_left _ (List.mem_append_left _ (List.mem_append_right _ h)), by decide +kernel⟩
theorem th_3 : TH 161 165 "java/lang/IndexOutOfBoundsException" := ⟨by decide +kernel, by decide +kernel, fun w h => law_x2 w h, fun w h => List.mem_append_left _ (List.mem_append_right _ h), by decide +kernel⟩
theorem th_4 : TH 301 305 "java/util/NoSuchElementException" := ⟨by decide +kernel, by decide +kernel, fun w h => law_x3 w h, fun w h => List.mem_append_right _ h, by decide +kernel⟩
theorem va_P_later {D : va_G} {cl : List vw_C} {ws : va_W} {H H1 : Heap} (h : va_P D cl ws H) (hq : ∀ q : Nat, q < H.size → H1[q]? = H[q]?) : va_P D cl ws H1 := h.kept (fun k q hk => hq q.1 (h k q hk).lt)

set_option maxHeartbeats 4000000 in
theorem z_throw {K : MCx} {G : Lay} {cc : ByteArray} {nL : Nat} {ret : Option FieldType} {rf rl : Nat} {α β : Type} {g : α → Option Value × Int64 × cS} {gx : β → String × Int64 × cS} {pc : Nat} {lv : List (Nat × Value)} {st : List Value} {h : Int64} {σ : cS} (X : Cx K G RX6 cc nL ret rf rl) {cls text : String} {ik is ic : Nat} {b : β} (hm : (is, text) ∈ strs) (th : TH ik ic cls) (hw : Cond.classLink RX6 ik cls ∈ wsL_law) (hini : Cond.initialized cls ∈ wsL_law) (d0 : decode cc pc = .ok (.new ik, 3)) (d3 : decode cc (pc + 3) = .ok (.dup, 1)) (d4 : decode cc (pc + 4) = .ok (.ldc is, 2)) (d6 : decode cc (pc + 6) = .ok (.invokespecial ic, 3)) (d9 : decode cc (pc + 9) = .ok (.athrow, 1)) (hgx : gx b = (cls, h, σ)) (hrf : 6 ≤ rf) (hrl : (st.map fun v => v.category).sum + 82 ≤ rl) : Sm K G (PX K G) (QX K G g gx) nL pc lv st h σ (some (.inr b)) := by
  intro r hr hp H locs ls hP hS hl
  cases hr
  obtain ⟨p1, p2, ⟨sU, sN, sW, sS⟩, hT, hfl⟩ := hp
  obtain ⟨sa, hstr⟩ := sS _ hm
  obtain ⟨t1, t2, t3, t4, t5⟩ := th
  have hts := X.2.2.2.2.1
  exact vx_throwS X.1 X.2.1 hfl X.2.2.2.1 t1 t2 (hts _ hw) (hts _ hini) hstr (vx_hat (fun w hw => hts w (t3 w hw)) t4 (fun w hw => va_Nw.use (thW_tab hw) (sW w hw))) t5 sU sN hS (hl.1.trans X.2.2.1.symm) d0 d3 d4 d6 d9 (fun x hx => (hT x hx).elim)
    (by rw [X.2.2.2.2.2.2.2.2.2.1]; exact hrf) (by rw [X.2.2.2.2.2.2.2.2.2.2.1]; exact hrl) p1 p2 X.2.2.2.2.2.2.1
    (fun t hA hz hq => ⟨by rw [hgx], by rw [hgx]; exact va_P_later hP hq, Nat.le_trans hS.1 hz, fun q h1 h2 => (hq q (Nat.lt_of_lt_of_le h1 hS.1)).trans (hS.2.1 q h1 h2)⟩) hS.2.2 (Nat.le_refl _) (Nat.le_refl _)
set_option maxHeartbeats 4000000 in
theorem z_throwW {K : MCx} {G : Lay} {cc : ByteArray} {nL : Nat} {ret : Option FieldType} {rf rl : Nat} {α β : Type} {g : α → Option Value × Int64 × cS} {gx : β → String × Int64 × cS} {pc : Nat} {lv : List (Nat × Value)} {st : List Value} {h : Int64} {σ : cS} (X : Cx K G RX6 cc nL ret rf rl) {cls text : String} {ik is ic : Nat} {b : β} (hm : (is, text) ∈ strs) (th : TH ik ic cls) (hw : Cond.classLink RX6 ik cls ∈ wsL_law) (hini : Cond.initialized cls ∈ wsL_law) (d0 : decode cc pc = .ok (.new ik, 3)) (d3 : decode cc (pc + 3) = .ok (.dup, 1)) (d4 : decode cc (pc + 4) = .ok (.ldc_w is, 3)) (d7 : decode cc (pc + 7) = .ok (.invokespecial ic, 3)) (d10 : decode cc (pc + 10) = .ok (.athrow, 1)) (hgx : gx b = (cls, h, σ)) (hrf : 6 ≤ rf) (hrl : (st.map fun v => v.category).sum + 82 ≤ rl) : Sm K G (PX K G) (QX K G g gx) nL pc lv st h σ (some (.inr b)) := by
  intro r hr hp H locs ls hP hS hl
  cases hr
  obtain ⟨p1, p2, ⟨sU, sN, sW, sS⟩, hT, hfl⟩ := hp
  obtain ⟨sa, hstr⟩ := sS _ hm
  obtain ⟨t1, t2, t3, t4, t5⟩ := th
  have hts := X.2.2.2.2.1
  exact vx_throwSW X.1 X.2.1 hfl X.2.2.2.1 t1 t2 (hts _ hw) (hts _ hini) hstr (vx_hat (fun w hw => hts w (t3 w hw)) t4 (fun w hw => va_Nw.use (thW_tab hw) (sW w hw))) t5 sU sN hS (hl.1.trans X.2.2.1.symm) d0 d3 d4 d7 d10 (fun x hx => (hT x hx).elim)
    (by rw [X.2.2.2.2.2.2.2.2.2.1]; exact hrf) (by rw [X.2.2.2.2.2.2.2.2.2.2.1]; exact hrl) p1 p2 X.2.2.2.2.2.2.1
    (fun t hA hz hq => ⟨by rw [hgx], by rw [hgx]; exact va_P_later hP hq, Nat.le_trans hS.1 hz, fun q h1 h2 => (hq q (Nat.lt_of_lt_of_le h1 hS.1)).trans (hS.2.1 q h1 h2)⟩) hS.2.2 (Nat.le_refl _) (Nat.le_refl _)
set_option maxHeartbeats 4000000 in
theorem z_xiret {K : MCx} {G : Lay} {own : String} {cc : ByteArray} {nL : Nat} {rf rl : Nat} {α β : Type} {g : α → Option Value × Int64 × cS} {gx : β → String × Int64 × cS} {pc : Nat} {lv : List (Nat × Value)} {h : Int64} {σ : cS} (X : Cx K G own cc nL (some .int) rf rl) {v : Int32} {r0 : α} (hg : g r0 = (some (.int v), h, σ)) (hdg : decode cc pc = .ok (.ireturn, 1)) : Sm K G (PX K G) (QX K G g gx) nL pc lv [.int v] h σ (some (.inl r0)) := by
  intro r hr hp H locs ls hP hS hl
  cases hr
  exact W.iret X.1 X.2.1 X.2.2.2.2.2.2.2.2.1 (fun t ht hW => ⟨by rw [hg], by rw [hg, ht]; exact hP, hS.F ht⟩) hS.2.2 hdg X.2.2.2.2.2.2.1
set_option maxHeartbeats 4000000 in
theorem z_xvret {K : MCx} {G : Lay} {own : String} {cc : ByteArray} {nL : Nat} {rf rl : Nat} {α β : Type} {g : α → Option Value × Int64 × cS} {gx : β → String × Int64 × cS} {pc : Nat} {lv : List (Nat × Value)} {h : Int64} {σ : cS} (X : Cx K G own cc nL none rf rl) {r0 : α} (hg : g r0 = (none, h, σ)) (hdg : decode cc pc = .ok (.return_, 1)) : Sm K G (PX K G) (QX K G g gx) nL pc lv [] h σ (some (.inl r0)) := by
  intro r hr hp H locs ls hP hS hl
  cases hr
  exact W.vret X.1 X.2.1 X.2.2.2.2.2.2.2.2.1 (fun t ht hW => ⟨by rw [hg], by rw [hg, ht]; exact hP, hS.F ht⟩) hS.2.2 hdg X.2.2.2.2.2.2.1
set_option maxHeartbeats 4000000 in
theorem z_callVX {K : MCx} {G : Lay} {own : String} {cc : ByteArray} {nL : Nat} {ret : Option FieldType} {rf rl : Nat} {α β : Type} {gm : α → Option Value × Int64 × cS} {gxm : β → String × Int64 × cS} {pc : Nat} {lv : List (Nat × Value)} {st : List Value} {h : Int64} {σ : cS} (X : Cx K G own cc nL ret rf rl) {α1 β1 : Type} {y : MethodName} {bytes : ByteArray} {maxL n : Nat} {rt : Option FieldType} {index rmf rml : Nat} {Ec : Option (α1 ⊕ β1)} {g : α1 → Option Value × Int64 × cS} {gx : β1 → String × Int64 × cS} {cv : β1 → β} {f : α1 → Option (α ⊕ β)} {C : String} {T : u_T} {nf ci : Nat} {fs : List Value} {st0 : List Value} {st1 : α1 → List Value} (As : List Value) (kk : Nat) (hy : Cal y C bytes maxL rt n) (hlink : Cond.methodLink own index y ∈ wsL_law) (hR : rmf + 1 ≤ rf ∧ 8 + (maxL + 11) + rml ≤ rl) (hst : st0 = As.reverse ++ .ref (la G kk) :: st) (hn : As.length = n) (hcat : (st.map fun v => v.category).sum ≤ 8) (hc : vwCl[ci]? = some (C, T, nf)) (o : Ob G kk ci) (hw : ce G h σ kk = .inr (ci, fs)) (hM : ∀ rc, Ec = some (.inl rc) → CM (kl K) y bytes maxL rt rmf rml G (.ref (la G kk) :: As) h σ (g rc)) (hX : (kl K).stackTraces = false → ∀ rc, Ec = some (.inr rc) → CX (kl K) y bytes maxL rt rmf rml G (.ref (la G kk) :: As) h σ (gx rc)) (hdg : decode cc pc = .ok (.invokevirtual index, 3)) (hst1 : ∀ rc, (g rc).1.toList ++ st = st1 rc) (hcv : ∀ b, gxm (cv b) = gx b) (k : ∀ rc, Sm K G (PX K G) (QX K G gm gxm) nL (pc + 3) lv (st1 rc) (g rc).2.1 (g rc).2.2 (f rc)) : Sm K G (PX K G) (QX K G gm gxm) nL pc lv st0 h σ (xbn Ec cv f) := by
  intro r hr hp
  rcases he : Ec with _ | ⟨a⟩ | ⟨b⟩
  · rw [he] at hr; cases hr
  · have hr' : (Option.some a).bind f = some r := by rw [he] at hr; exact hr
    exact z_callV0 (Ec := some a) (f := f) (g := g) (st1 := st1) X As kk hy hlink hR hst hn hcat hc o hw (fun rc h9 => hM rc (by rw [he]; cases h9; rfl)) hdg hst1 k r hr' hp
  · intro H locs ls hP hS hl
    have hr' : r = .inr (cv b) := by rw [he] at hr; exact (Option.some.inj hr).symm
    subst hr'
    obtain ⟨p1, p2, hsx, hT, hfl⟩ := hp
    have hK := X.2.2.2.2.2.1
    have hN := X.2.2.2.2.2.2.2.2.2.2.2
    have hrun := vx_runV (cells := 0) (slots := 0) (R := kR K) (locs := locs) (H := H) (p := kp K) (l := kl K) (e := ke K) (below := kb K) (meth := kme K) (g := F0 (km K) pc ls st0) (As := As) (rest := st) (b := la G kk) ⟨X.1, X.2.1, X.2.2.1, X.2.2.2.1, X.2.2.2.2.1⟩ (hX hfl b he) (cal_V (fr := 0) (lo := 0) X.2.2.2.2.1 hy hlink (rm := rmX rmf rml) rfl rfl (by rw [X.2.2.2.2.2.2.2.2.2.1, X.2.2.2.2.2.2.2.2.2.2.1]; exact hR)) ⟨PCX_blind, va_recv hK hP hc (by rw [fw_get o.1, hw]), fun U hU hW => ⟨rfl, ⟨by rw [hU]; exact hP, va_K.moved hW.alike hK, NW_warm hW hN⟩, by rw [hU]; exact SX_warm hW hsx hS.2.1⟩⟩ rfl hn hl.1 hst (lv_room hcat) hdg ⟨by omega, by omega⟩
    intro T0 hT0 XX
    rcases hrun T0 hT0 XX with ⟨v, sa, t, T', L, h0, X', hL, e1, e2, hq, stp⟩ | ⟨q, sa, t, T', L, E, ce9, h0, X', hL, e1, e2, ⟨hE, hP1, hF⟩, hce, hcv9, hcl, stp⟩
    · exact hq.elim
    · have hS1 := va_S_call hS h0 e1 hF hL
      have out := vx_out (p := kp K) (l := kl K) (e := ke K) (R := kR K) (s := ks K) (m := km K) (args := ka K) (below := kb K) (meth := kme K) (c := kc K) (H := T'.heap) (locs := locs ++ L) (cells := 0 + 1) (slots := 0 + 6) (free := FA G) (ls := ls) (rest := st) (Qc := fun _ _ _ _ => False) (XC := XC G (gxm (cv b))) (pc := pc) (E := E) (ce := ce9) (q := q) (mc := 1) (ms := 6) (fun x hx => (hT x hx).elim) X.2.2.2.2.2.2.1 (by rw [e1]; exact hce) hcv9 hcl (fun t9 ht9 _ => ⟨by rw [hcv]; exact hE, by rw [hcv, ht9, e1]; exact hP1, hS1.F ht9⟩) hS1.2.2 (Nat.le_refl _) (Nat.le_refl _)
      obtain ⟨t2, a1, b1⟩ := out T' rfl X'
      exact ⟨t2, stp.trans a1, b1⟩
set_option maxHeartbeats 4000000 in
theorem z_callVN {K : MCx} {G : Lay} {own : String} {cc : ByteArray} {nL : Nat} {ret : Option FieldType} {rf rl : Nat} {ρ : Type} {P : ρ → Prop} {Q : ρ → State → Prop} {pc : Nat} {lv : List (Nat × Value)} {st : List Value} {h : Int64} {σ : cS} (X : Cx K G own cc nL ret rf rl) {α1 β1 : Type} {y : MethodName} {bytes : ByteArray} {maxL n : Nat} {rt : Option FieldType} {index rmf rml : Nat} {Ec : Option (α1 ⊕ β1)} {g : α1 → Option Value × Int64 × cS} {f : α1 → Option ρ} {C : String} {T : u_T} {nf ci : Nat} {fs : List Value} {st0 : List Value} {st1 : α1 → List Value} (As : List Value) (kk : Nat) (hy : Cal y C bytes maxL rt n) (hlink : Cond.methodLink own index y ∈ wsL_law) (hR : rmf + 1 ≤ rf ∧ 8 + (maxL + 11) + rml ≤ rl) (hst : st0 = As.reverse ++ .ref (la G kk) :: st) (hn : As.length = n) (hcat : (st.map fun v => v.category).sum ≤ 8) (hc : vwCl[ci]? = some (C, T, nf)) (o : Ob G kk ci) (hw : ce G h σ kk = .inr (ci, fs)) (hM : ∀ rc, Ec = some (.inl rc) → CM (kl K) y bytes maxL rt rmf rml G (.ref (la G kk) :: As) h σ (g rc)) (hdg : decode cc pc = .ok (.invokevirtual index, 3)) (hst1 : ∀ rc, (g rc).1.toList ++ st = st1 rc) (k : ∀ rc, Sm K G P Q nL (pc + 3) lv (st1 rc) (g rc).2.1 (g rc).2.2 (f rc)) : Sm K G P Q nL pc lv st0 h σ (ibn Ec f) := by
  intro r hr hp
  rcases he : Ec with _ | ⟨a⟩ | ⟨b⟩
  · rw [he] at hr; cases hr
  · have hr' : (Option.some a).bind f = some r := by rw [he] at hr; exact hr
    exact z_callV0 (Ec := some a) (f := f) (g := g) (st1 := st1) X As kk hy hlink hR hst hn hcat hc o hw (fun rc h9 => hM rc (by rw [he]; cases h9; rfl)) hdg hst1 k r hr' hp
  · rw [he] at hr; cases hr
set_option maxHeartbeats 4000000 in
theorem z_callSX {K : MCx} {G : Lay} {own : String} {cc : ByteArray} {nL : Nat} {ret : Option FieldType} {rf rl : Nat} {α β : Type} {gm : α → Option Value × Int64 × cS} {gxm : β → String × Int64 × cS} {pc : Nat} {lv : List (Nat × Value)} {st : List Value} {h : Int64} {σ : cS} (X : Cx K G own cc nL ret rf rl) {α1 β1 : Type} {y : MethodName} {bytes : ByteArray} {maxL n : Nat} {rt : Option FieldType} {index rmf rml : Nat} {Ec : Option (α1 ⊕ β1)} {g : α1 → Option Value × Int64 × cS} {gx : β1 → String × Int64 × cS} {cv : β1 → β} {f : α1 → Option (α ⊕ β)} {st0 : List Value} {st1 : α1 → List Value} (As : List Value) (hy : CalS y bytes maxL rt n) (hlink : Cond.methodLink own index y ∈ wsL_law) (hR : rmf + 1 ≤ rf ∧ 8 + (maxL + 11) + rml ≤ rl) (hst : st0 = As.reverse ++ st) (hn : As.length = n) (hcat : (st.map fun v => v.category).sum ≤ 8) (hM : ∀ rc, Ec = some (.inl rc) → CM (kl K) y bytes maxL rt rmf rml G As h σ (g rc)) (hX : (kl K).stackTraces = false → ∀ rc, Ec = some (.inr rc) → CX (kl K) y bytes maxL rt rmf rml G As h σ (gx rc)) (hdg : decode cc pc = .ok (.invokestatic index, 3)) (hst1 : ∀ rc, (g rc).1.toList ++ st = st1 rc) (hcv : ∀ b, gxm (cv b) = gx b) (k : ∀ rc, Sm K G (PX K G) (QX K G gm gxm) nL (pc + 3) lv (st1 rc) (g rc).2.1 (g rc).2.2 (f rc)) : Sm K G (PX K G) (QX K G gm gxm) nL pc lv st0 h σ (xbn Ec cv f) := by
  intro r hr hp
  rcases he : Ec with _ | ⟨a⟩ | ⟨b⟩
  · rw [he] at hr; cases hr
  · have hr' : (Option.some a).bind f = some r := by rw [he] at hr; exact hr
    exact z_callS0 (Ec := some a) (f := f) (g := g) (st1 := st1) X As hy hlink hR hst hn hcat (fun rc h9 => hM rc (by rw [he]; cases h9; rfl)) hdg hst1 k r hr' hp
  · intro H locs ls hP hS hl
    have hr' : r = .inr (cv b) := by rw [he] at hr; exact (Option.some.inj hr).symm
    subst hr'
    obtain ⟨p1, p2, hsx, hT, hfl⟩ := hp
    have hK := X.2.2.2.2.2.1
    have hN := X.2.2.2.2.2.2.2.2.2.2.2
    have hrun := vx_runS (cells := 0) (slots := 0) (R := kR K) (locs := locs) (H := H) (p := kp K) (l := kl K) (e := ke K) (below := kb K) (meth := kme K) (g := F0 (km K) pc ls st0) (As := As) (rest := st) ⟨X.1, X.2.1, X.2.2.1, X.2.2.2.1, X.2.2.2.2.1⟩ (hX hfl b he) (cal_S (fr := 0) (lo := 0) X.2.2.2.2.1 hy hlink (rm := rmX rmf rml) rfl rfl (by rw [X.2.2.2.2.2.2.2.2.2.1, X.2.2.2.2.2.2.2.2.2.2.1]; exact hR)) ⟨PCX_blind, fun U hU hW => ⟨rfl, ⟨by rw [hU]; exact hP, va_K.moved hW.alike hK, NW_warm hW hN⟩, by rw [hU]; exact SX_warm hW hsx hS.2.1⟩⟩ rfl hn hl.1 hst (lv_room hcat) hdg ⟨by omega, by omega⟩
    intro T0 hT0 XX
    rcases hrun T0 hT0 XX with ⟨v, sa, t, T', L, h0, X', hL, e1, e2, hq, stp⟩ | ⟨q, sa, t, T', L, E, ce9, h0, X', hL, e1, e2, ⟨hE, hP1, hF⟩, hce, hcv9, hcl, stp⟩
    · exact hq.elim
    · have hS1 := va_S_call hS h0 e1 hF hL
      have out := vx_out (p := kp K) (l := kl K) (e := ke K) (R := kR K) (s := ks K) (m := km K) (args := ka K) (below := kb K) (meth := kme K) (c := kc K) (H := T'.heap) (locs := locs ++ L) (cells := 0 + 1) (slots := 0 + 6) (free := FA G) (ls := ls) (rest := st) (Qc := fun _ _ _ _ => False) (XC := XC G (gxm (cv b))) (pc := pc) (E := E) (ce := ce9) (q := q) (mc := 1) (ms := 6) (fun x hx => (hT x hx).elim) X.2.2.2.2.2.2.1 (by rw [e1]; exact hce) hcv9 hcl (fun t9 ht9 _ => ⟨by rw [hcv]; exact hE, by rw [hcv, ht9, e1]; exact hP1, hS1.F ht9⟩) hS1.2.2 (Nat.le_refl _) (Nat.le_refl _)
      obtain ⟨t2, a1, b1⟩ := out T' rfl X'
      exact ⟨t2, stp.trans a1, b1⟩
set_option maxHeartbeats 4000000 in
theorem z_callSN {K : MCx} {G : Lay} {own : String} {cc : ByteArray} {nL : Nat} {ret : Option FieldType} {rf rl : Nat} {ρ : Type} {P : ρ → Prop} {Q : ρ → State → Prop} {pc : Nat} {lv : List (Nat × Value)} {st : List Value} {h : Int64} {σ : cS} (X : Cx K G own cc nL ret rf rl) {α1 β1 : Type} {y : MethodName} {bytes : ByteArray} {maxL n : Nat} {rt : Option FieldType} {index rmf rml : Nat} {Ec : Option (α1 ⊕ β1)} {g : α1 → Option Value × Int64 × cS} {f : α1 → Option ρ} {st0 : List Value} {st1 : α1 → List Value} (As : List Value) (hy : CalS y bytes maxL rt n) (hlink : Cond.methodLink own index y ∈ wsL_law) (hR : rmf + 1 ≤ rf ∧ 8 + (maxL + 11) + rml ≤ rl) (hst : st0 = As.reverse ++ st) (hn : As.length = n) (hcat : (st.map fun v => v.category).sum ≤ 8) (hM : ∀ rc, Ec = some (.inl rc) → CM (kl K) y bytes maxL rt rmf rml G As h σ (g rc)) (hdg : decode cc pc = .ok (.invokestatic index, 3)) (hst1 : ∀ rc, (g rc).1.toList ++ st = st1 rc) (k : ∀ rc, Sm K G P Q nL (pc + 3) lv (st1 rc) (g rc).2.1 (g rc).2.2 (f rc)) : Sm K G P Q nL pc lv st0 h σ (ibn Ec f) := by
  intro r hr hp
  rcases he : Ec with _ | ⟨a⟩ | ⟨b⟩
  · rw [he] at hr; cases hr
  · have hr' : (Option.some a).bind f = some r := by rw [he] at hr; exact hr
    exact z_callS0 (Ec := some a) (f := f) (g := g) (st1 := st1) X As hy hlink hR hst hn hcat (fun rc h9 => hM rc (by rw [he]; cases h9; rfl)) hdg hst1 k r hr' hp
  · rw [he] at hr; cases hr
end
section
theorem q_3_5 : Cond.fieldLink RX4 7 "EdgeHolders$Row" "cells" "[I" ∈ wsL_law := seg_3 _ (List.mem_of_getElem? (i := 5) rfl)
def fX4_get_23 (L : Nat → Nat) (σ : cS) (k0 : Nat) (y0 : Int32)  : Option Int32 := some y0
set_option maxHeartbeats 4000000 in
set_option maxRecDepth 100000 in
theorem sX4_get_23 {K : MCx} {G : Lay} (X : Cx K G RX4 cX4_get 2 (some .int) 0 0) (k0 : Nat) (hk0 : isRow G k0) (h : Int64) (σ : cS) (y0 : Int32) : Sm K G TT (QM K G (fun r : Int32 => ((some (.int r), h, σ) : Option Value × Int64 × cS))) 2 23 [] [.int y0] h σ (fX4_get_23 (ll G) σ k0 y0) := by
  unfold fX4_get_23
  exact z_iret X rfl dX4_get_23
def fX4_get_22 (L : Nat → Nat) (σ : cS) (k0 : Nat)  : Option Int32 := fX4_get_23 L σ k0 (0 : Int32)
set_option maxHeartbeats 4000000 in
set_option maxRecDepth 100000 in
theorem sX4_get_22 {K : MCx} {G : Lay} (X : Cx K G RX4 cX4_get 2 (some .int) 0 0) (k0 : Nat) (hk0 : isRow G k0) (h : Int64) (σ : cS) : Sm K G TT (QM K G (fun r : Int32 => ((some (.int r), h, σ) : Option Value × Int64 × cS))) 2 22 [] [] h σ (fX4_get_22 (ll G) σ k0) := by
  unfold fX4_get_22
  refine z_iconst (v := (0 : Int32)) X dX4_get_22 (by decide) ?_
  exact z_sub [] rfl (sX4_get_23 X k0 hk0 h σ (0 : Int32))
def fX4_get_0 (L : Nat → Nat) (σ : cS) (k0 : Nat) (x1 : Int32)  : Option Int32 := if x1 < 0 then (fX4_get_22 L σ k0) else (if (Int32.ofNat (L (k0 + 1))) ≤ x1 then (fX4_get_22 L σ k0) else (grd (inb x1 (L (k0 + 1))) (fX4_get_23 L σ k0 (σ (k0 + 1) x1.toNatClampNeg))))
set_option maxHeartbeats 4000000 in
set_option maxRecDepth 100000 in
theorem sX4_get_0 {K : MCx} {G : Lay} (X : Cx K G RX4 cX4_get 2 (some .int) 0 0) (k0 : Nat) (hk0 : isRow G k0) (h : Int64) (σ : cS) (x1 : Int32) : Sm K G TT (QM K G (fun r : Int32 => ((some (.int r), h, σ) : Option Value × Int64 × cS))) 2 0 [(0, .ref (la G k0)), (1, .int x1)] [] h σ (fX4_get_0 (ll G) σ k0 x1) := by
  unfold fX4_get_0
  refine z_iload_n X dX4_get_0 1 rfl ?_
  refine z_if_lt X 22 dX4_get_1 (by decide) ?_ ?_
  · exact z_sub [] rfl (sX4_get_22 X k0 hk0 h σ)
  · refine z_iload_n X dX4_get_4 1 rfl ?_
    refine z_aload_n X dX4_get_5 0 rfl ?_
    refine z_get X inlX4 rfl hk0.1 (ce4 hk0.1 _ _) 0 (by decide) q_3_5 rfl dX4_get_6 ?_
    refine z_alen X hk0.2 dX4_get_9 ?_
    refine z_icmp_ge X 22 dX4_get_10 (by decide) ?_ ?_
    · exact z_sub [] rfl (sX4_get_22 X k0 hk0 h σ)
    · refine z_aload_n X dX4_get_13 0 rfl ?_
      refine z_get X inlX4 rfl hk0.1 (ce4 hk0.1 _ _) 0 (by decide) q_3_5 rfl dX4_get_14 ?_
      refine z_iload_n X dX4_get_17 1 rfl ?_
      refine z_iald X hk0.2 dX4_get_18 ?_
      refine z_goto X 23 dX4_get_19 (by decide) ?_
      exact z_sub [] rfl (sX4_get_23 X k0 hk0 h σ (σ (k0 + 1) x1.toNatClampNeg))
def fX4_get (L : Nat → Nat) (σ : cS) (k0 : Nat) (x1 : Int32) : Option Int32 := fX4_get_0 L σ k0 x1
set_option maxHeartbeats 4000000 in
set_option maxRecDepth 100000 in
theorem ctX4_get (l : Launch) (G : Lay) (hi : Inj G) (h : Int64) (σ : cS) (k0 : Nat) (hk0 : isRow G k0) (x1 : Int32) : ∀ r, fX4_get (ll G) σ k0 x1 = some r → CM l yX4_get cX4_get 2 (some .int) 0 0 G [.ref (la G k0), .int x1] h σ (some (.int r), h, σ) := by
  refine cm_of (g := (fun r : Int32 => ((some (.int r), h, σ) : Option Value × Int64 × cS))) (by decide) hi (Nat.le_of_ble_eq_true rfl) (fun K hKl X => ?_)
  unfold fX4_get
  exact z_sub [0, 1] rfl (sX4_get_0 X k0 hk0 h σ x1)
def fX4_set_20 (L : Nat → Nat) (k0 : Nat) (σ : cS) : Option cS := some σ
set_option maxHeartbeats 4000000 in
set_option maxRecDepth 100000 in
theorem sX4_set_20 {K : MCx} {G : Lay} (X : Cx K G RX4 cX4_set 3 none 0 0) (k0 : Nat) (hk0 : isRow G k0) (h : Int64) (σ : cS) : Sm K G TT (QM K G (fun r : cS => ((none, h, r) : Option Value × Int64 × cS))) 3 20 [] [] h σ (fX4_set_20 (ll G) k0 σ) := by
  unfold fX4_set_20
  exact z_vret X rfl dX4_set_20
def fX4_set_0 (L : Nat → Nat) (k0 : Nat) (x1 : Int32) (x2 : Int32) (σ : cS) : Option cS := if x1 < 0 then (fX4_set_20 L k0 σ) else (if (Int32.ofNat (L (k0 + 1))) ≤ x1 then (fX4_set_20 L k0 σ) else (grd (inb x1 (L (k0 + 1))) (bnd (st2 σ (k0 + 1) x1.toNatClampNeg x2) (fun σ1 => fX4_set_20 L k0 σ1))))
set_option maxHeartbeats 4000000 in
set_option maxRecDepth 100000 in
theorem sX4_set_0 {K : MCx} {G : Lay} (X : Cx K G RX4 cX4_set 3 none 0 0) (k0 : Nat) (hk0 : isRow G k0) (h : Int64) (x1 : Int32) (x2 : Int32) (σ : cS) : Sm K G TT (QM K G (fun r : cS => ((none, h, r) : Option Value × Int64 × cS))) 3 0 [(0, .ref (la G k0)), (1, .int x1), (2, .int x2)] [] h σ (fX4_set_0 (ll G) k0 x1 x2 σ) := by
  unfold fX4_set_0
  refine z_iload_n X dX4_set_0 1 rfl ?_
  refine z_if_lt X 20 dX4_set_1 (by decide) ?_ ?_
  · exact z_sub [] rfl (sX4_set_20 X k0 hk0 h σ)
  · refine z_iload_n X dX4_set_4 1 rfl ?_
    refine z_aload_n X dX4_set_5 0 rfl ?_
    refine z_get X inlX4 rfl hk0.1 (ce4 hk0.1 _ _) 0 (by decide) q_3_5 rfl dX4_set_6 ?_
    refine z_alen X hk0.2 dX4_set_9 ?_
    refine z_icmp_ge X 20 dX4_set_10 (by decide) ?_ ?_
    · exact z_sub [] rfl (sX4_set_20 X k0 hk0 h σ)
    · refine z_aload_n X dX4_set_13 0 rfl ?_
      refine z_get X inlX4 rfl hk0.1 (ce4 hk0.1 _ _) 0 (by decide) q_3_5 rfl dX4_set_14 ?_
      refine z_iload_n X dX4_set_17 1 rfl ?_
      refine z_iload_n X dX4_set_18 2 rfl ?_
      refine z_iast X hk0.2 dX4_set_19 (fun σ1 => ?_)
      exact z_sub [] rfl (sX4_set_20 X k0 hk0 h σ1)
def fX4_set (L : Nat → Nat) (σ : cS) (k0 : Nat) (x1 : Int32) (x2 : Int32) : Option cS := fX4_set_0 L k0 x1 x2 σ
set_option maxHeartbeats 4000000 in
set_option maxRecDepth 100000 in
theorem ctX4_set (l : Launch) (G : Lay) (hi : Inj G) (h : Int64) (σ : cS) (k0 : Nat) (hk0 : isRow G k0) (x1 : Int32) (x2 : Int32) : ∀ r, fX4_set (ll G) σ k0 x1 x2 = some r → CM l yX4_set cX4_set 3 none 0 0 G [.ref (la G k0), .int x1, .int x2] h σ (none, h, r) := by
  refine cm_of (g := (fun r : cS => ((none, h, r) : Option Value × Int64 × cS))) (by decide) hi (Nat.le_of_ble_eq_true rfl) (fun K hKl X => ?_)
  unfold fX4_set
  exact z_sub [0, 1, 2] rfl (sX4_set_0 X k0 hk0 h x1 x2 σ)
def fX4_increase_23 (L : Nat → Nat) (k0 : Nat) (σ : cS) : Option cS := some σ
set_option maxHeartbeats 4000000 in
set_option maxRecDepth 100000 in
theorem sX4_increase_23 {K : MCx} {G : Lay} (X : Cx K G RX4 cX4_increase 3 none 0 0) (k0 : Nat) (hk0 : isRow G k0) (h : Int64) (σ : cS) : Sm K G TT (QM K G (fun r : cS => ((none, h, r) : Option Value × Int64 × cS))) 3 23 [] [] h σ (fX4_increase_23 (ll G) k0 σ) := by
  unfold fX4_increase_23
  exact z_vret X rfl dX4_increase_23
def fX4_increase_0 (L : Nat → Nat) (k0 : Nat) (x1 : Int32) (x2 : Int32) (σ : cS) : Option cS := if x1 < 0 then (fX4_increase_23 L k0 σ) else (if (Int32.ofNat (L (k0 + 1))) ≤ x1 then (fX4_increase_23 L k0 σ) else (grd (inb x1 (L (k0 + 1))) (grd (inb x1 (L (k0 + 1))) (bnd (st2 σ (k0 + 1) x1.toNatClampNeg ((σ (k0 + 1) x1.toNatClampNeg) + x2)) (fun σ1 => fX4_increase_23 L k0 σ1)))))
set_option maxHeartbeats 4000000 in
set_option maxRecDepth 100000 in
theorem sX4_increase_0 {K : MCx} {G : Lay} (X : Cx K G RX4 cX4_increase 3 none 0 0) (k0 : Nat) (hk0 : isRow G k0) (h : Int64) (x1 : Int32) (x2 : Int32) (σ : cS) : Sm K G TT (QM K G (fun r : cS => ((none, h, r) : Option Value × Int64 × cS))) 3 0 [(0, .ref (la G k0)), (1, .int x1), (2, .int x2)] [] h σ (fX4_increase_0 (ll G) k0 x1 x2 σ) := by
  unfold fX4_increase_0
  refine z_iload_n X dX4_increase_0 1 rfl ?_
  refine z_if_lt X 23 dX4_increase_1 (by decide) ?_ ?_
  · exact z_sub [] rfl (sX4_increase_23 X k0 hk0 h σ)
  · refine z_iload_n X dX4_increase_4 1 rfl ?_
    refine z_aload_n X dX4_increase_5 0 rfl ?_
    refine z_get X inlX4 rfl hk0.1 (ce4 hk0.1 _ _) 0 (by decide) q_3_5 rfl dX4_increase_6 ?_
    refine z_alen X hk0.2 dX4_increase_9 ?_
    refine z_icmp_ge X 23 dX4_increase_10 (by decide) ?_ ?_
    · exact z_sub [] rfl (sX4_increase_23 X k0 hk0 h σ)
    · refine z_aload_n X dX4_increase_13 0 rfl ?_
      refine z_get X inlX4 rfl hk0.1 (ce4 hk0.1 _ _) 0 (by decide) q_3_5 rfl dX4_increase_14 ?_
      refine z_iload_n X dX4_increase_17 1 rfl ?_
      refine z_dup2 X dX4_increase_18 rfl rfl ?_
      refine z_iald X hk0.2 dX4_increase_19 ?_
      refine z_iload_n X dX4_increase_20 2 rfl ?_
      refine z_iadd X dX4_increase_21 ?_
      refine z_iast X hk0.2 dX4_increase_22 (fun σ1 => ?_)
      exact z_sub [] rfl (sX4_increase_23 X k0 hk0 h σ1)
def fX4_increase (L : Nat → Nat) (σ : cS) (k0 : Nat) (x1 : Int32) (x2 : Int32) : Option cS := fX4_increase_0 L k0 x1 x2 σ
set_option maxHeartbeats 4000000 in
set_option maxRecDepth 100000 in
theorem ctX4_increase (l : Launch) (G : Lay) (hi : Inj G) (h : Int64) (σ : cS) (k0 : Nat) (hk0 : isRow G k0) (x1 : Int32) (x2 : Int32) : ∀ r, fX4_increase (ll G) σ k0 x1 x2 = some r → CM l yX4_increase cX4_increase 3 none 0 0 G [.ref (la G k0), .int x1, .int x2] h σ (none, h, r) := by
  refine cm_of (g := (fun r : cS => ((none, h, r) : Option Value × Int64 × cS))) (by decide) hi (Nat.le_of_ble_eq_true rfl) (fun K hKl X => ?_)
  unfold fX4_increase
  exact z_sub [0, 1, 2] rfl (sX4_increase_0 X k0 hk0 h x1 x2 σ)
def fX4_fill_2 (L : Nat → Nat) (Nf : Nat) (k0 : Nat) : Nat → Int32 → Int32 → cS → Option cS
  | 0, _, _, _ => none
  | n + 1, x1, x2, σ => if (Int32.ofNat (L (k0 + 1))) ≤ x2 then (some σ) else (grd (inb x2 (L (k0 + 1))) (bnd (st2 σ (k0 + 1) x2.toNatClampNeg x1) (fun σ1 => bnd (x2 + (1 : Int32)) (fun t2 => fX4_fill_2 L Nf k0 n x1 t2 σ1))))
set_option maxHeartbeats 4000000 in
set_option maxRecDepth 100000 in
theorem sX4_fill_2 {K : MCx} {G : Lay} (X : Cx K G RX4 cX4_fill 3 none 0 0) (Nf : Nat) (k0 : Nat) (hk0 : isRow G k0) (h : Int64) : ∀ (n : Nat) (x1 : Int32) (x2 : Int32) (σ : cS), Sm K G TT (QM K G (fun r : cS => ((none, h, r) : Option Value × Int64 × cS))) 3 2 [(0, .ref (la G k0)), (1, .int x1), (2, .int x2)] [] h σ (fX4_fill_2 (ll G) Nf k0 n x1 x2 σ) := by
  intro n
  induction n with
  | zero => intros; exact z_none
  | succ n ih =>
    intro x1 x2 σ
    unfold fX4_fill_2
    refine z_iload_n X dX4_fill_2 2 rfl ?_
    refine z_aload_n X dX4_fill_3 0 rfl ?_
    refine z_get X inlX4 rfl hk0.1 (ce4 hk0.1 _ _) 0 (by decide) q_3_5 rfl dX4_fill_4 ?_
    refine z_alen X hk0.2 dX4_fill_7 ?_
    refine z_icmp_ge X 24 dX4_fill_8 (by decide) ?_ ?_
    · exact z_vret X rfl dX4_fill_24
    · refine z_aload_n X dX4_fill_11 0 rfl ?_
      refine z_get X inlX4 rfl hk0.1 (ce4 hk0.1 _ _) 0 (by decide) q_3_5 rfl dX4_fill_12 ?_
      refine z_iload_n X dX4_fill_15 2 rfl ?_
      refine z_iload_n X dX4_fill_16 1 rfl ?_
      refine z_iast X hk0.2 dX4_fill_17 (fun σ1 => ?_)
      refine z_iinc X (fun t2 => [(2, .int t2), (0, .ref (la G k0)), (1, .int x1)]) dX4_fill_18 2 rfl (by decide) (by decide) (fun _ => rfl) (fun t2 => ?_)
      refine z_goto X 2 dX4_fill_21 (by decide) ?_
      exact z_sub [1, 2, 0] rfl (ih x1 t2 σ1)
def fX4_fill_0 (L : Nat → Nat) (Nf : Nat) (k0 : Nat) (x1 : Int32) (σ : cS) : Option cS := fX4_fill_2 L Nf k0 Nf x1 (0 : Int32) σ
set_option maxHeartbeats 4000000 in
set_option maxRecDepth 100000 in
theorem sX4_fill_0 {K : MCx} {G : Lay} (X : Cx K G RX4 cX4_fill 3 none 0 0) (Nf : Nat) (k0 : Nat) (hk0 : isRow G k0) (h : Int64) (x1 : Int32) (σ : cS) : Sm K G TT (QM K G (fun r : cS => ((none, h, r) : Option Value × Int64 × cS))) 3 0 [(0, .ref (la G k0)), (1, .int x1)] [] h σ (fX4_fill_0 (ll G) Nf k0 x1 σ) := by
  unfold fX4_fill_0
  refine z_iconst (v := (0 : Int32)) X dX4_fill_0 (by decide) ?_
  refine z_istore_n X [(2, .int (0 : Int32)), (0, .ref (la G k0)), (1, .int x1)] dX4_fill_1 (by decide) rfl ?_
  exact z_sub [1, 2, 0] rfl (sX4_fill_2 X Nf k0 hk0 h Nf x1 (0 : Int32) σ)
def fX4_fill (L : Nat → Nat) (Nf : Nat) (σ : cS) (k0 : Nat) (x1 : Int32) : Option cS := fX4_fill_0 L Nf k0 x1 σ
set_option maxHeartbeats 4000000 in
set_option maxRecDepth 100000 in
theorem ctX4_fill (l : Launch) (G : Lay) (hi : Inj G) (Nf : Nat) (h : Int64) (σ : cS) (k0 : Nat) (hk0 : isRow G k0) (x1 : Int32) : ∀ r, fX4_fill (ll G) Nf σ k0 x1 = some r → CM l yX4_fill cX4_fill 3 none 0 0 G [.ref (la G k0), .int x1] h σ (none, h, r) := by
  refine cm_of (g := (fun r : cS => ((none, h, r) : Option Value × Int64 × cS))) (by decide) hi (Nat.le_of_ble_eq_true rfl) (fun K hKl X => ?_)
  unfold fX4_fill
  exact z_sub [0, 1] rfl (sX4_fill_0 X Nf k0 hk0 h x1 σ)
def fX4_copyFrom_38 (L : Nat → Nat) (Nf : Nat) (k0 : Nat) (k1 : Nat) (σ : cS) : Option cS := some σ
set_option maxHeartbeats 4000000 in
set_option maxRecDepth 100000 in
theorem sX4_copyFrom_38 {K : MCx} {G : Lay} (X : Cx K G RX4 cX4_copyFrom 3 none 0 0) (Nf : Nat) (k0 : Nat) (hk0 : isRow G k0) (k1 : Nat) (hk1 : isRow G k1) (h : Int64) (σ : cS) : Sm K G TT (QM K G (fun r : cS => ((none, h, r) : Option Value × Int64 × cS))) 3 38 [] [] h σ (fX4_copyFrom_38 (ll G) Nf k0 k1 σ) := by
  unfold fX4_copyFrom_38
  exact z_vret X rfl dX4_copyFrom_38
def fX4_copyFrom_2 (L : Nat → Nat) (Nf : Nat) (k0 : Nat) (k1 : Nat) : Nat → Int32 → cS → Option cS
  | 0, _, _ => none
  | n + 1, x2, σ => if (Int32.ofNat (L (k0 + 1))) ≤ x2 then (fX4_copyFrom_38 L Nf k0 k1 σ) else (if (Int32.ofNat (L (k1 + 1))) ≤ x2 then (fX4_copyFrom_38 L Nf k0 k1 σ) else (grd (inb x2 (L (k1 + 1))) (grd (inb x2 (L (k0 + 1))) (bnd (st2 σ (k0 + 1) x2.toNatClampNeg (σ (k1 + 1) x2.toNatClampNeg)) (fun σ1 => bnd (x2 + (1 : Int32)) (fun t2 => fX4_copyFrom_2 L Nf k0 k1 n t2 σ1))))))
set_option maxHeartbeats 4000000 in
set_option maxRecDepth 100000 in
theorem sX4_copyFrom_2 {K : MCx} {G : Lay} (X : Cx K G RX4 cX4_copyFrom 3 none 0 0) (Nf : Nat) (k0 : Nat) (hk0 : isRow G k0) (k1 : Nat) (hk1 : isRow G k1) (h : Int64) : ∀ (n : Nat) (x2 : Int32) (σ : cS), Sm K G TT (QM K G (fun r : cS => ((none, h, r) : Option Value × Int64 × cS))) 3 2 [(0, .ref (la G k0)), (1, .ref (la G k1)), (2, .int x2)] [] h σ (fX4_copyFrom_2 (ll G) Nf k0 k1 n x2 σ) := by
  intro n
  induction n with
  | zero => intros; exact z_none
  | succ n ih =>
    intro x2 σ
    unfold fX4_copyFrom_2
    refine z_iload_n X dX4_copyFrom_2 2 rfl ?_
    refine z_aload_n X dX4_copyFrom_3 0 rfl ?_
    refine z_get X inlX4 rfl hk0.1 (ce4 hk0.1 _ _) 0 (by decide) q_3_5 rfl dX4_copyFrom_4 ?_
    refine z_alen X hk0.2 dX4_copyFrom_7 ?_
    refine z_icmp_ge X 38 dX4_copyFrom_8 (by decide) ?_ ?_
    · exact z_sub [] rfl (sX4_copyFrom_38 X Nf k0 hk0 k1 hk1 h σ)
    · refine z_iload_n X dX4_copyFrom_11 2 rfl ?_
      refine z_aload_n X dX4_copyFrom_12 1 rfl ?_
      refine z_get X inlX4 rfl hk1.1 (ce4 hk1.1 _ _) 0 (by decide) q_3_5 rfl dX4_copyFrom_13 ?_
      refine z_alen X hk1.2 dX4_copyFrom_16 ?_
      refine z_icmp_ge X 38 dX4_copyFrom_17 (by decide) ?_ ?_
      · exact z_sub [] rfl (sX4_copyFrom_38 X Nf k0 hk0 k1 hk1 h σ)
      · refine z_aload_n X dX4_copyFrom_20 0 rfl ?_
        refine z_get X inlX4 rfl hk0.1 (ce4 hk0.1 _ _) 0 (by decide) q_3_5 rfl dX4_copyFrom_21 ?_
        refine z_iload_n X dX4_copyFrom_24 2 rfl ?_
        refine z_aload_n X dX4_copyFrom_25 1 rfl ?_
        refine z_get X inlX4 rfl hk1.1 (ce4 hk1.1 _ _) 0 (by decide) q_3_5 rfl dX4_copyFrom_26 ?_
        refine z_iload_n X dX4_copyFrom_29 2 rfl ?_
        refine z_iald X hk1.2 dX4_copyFrom_30 ?_
        refine z_iast X hk0.2 dX4_copyFrom_31 (fun σ1 => ?_)
        refine z_iinc X (fun t2 => [(2, .int t2), (0, .ref (la G k0)), (1, .ref (la G k1))]) dX4_copyFrom_32 2 rfl (by decide) (by decide) (fun _ => rfl) (fun t2 => ?_)
        refine z_goto X 2 dX4_copyFrom_35 (by decide) ?_
        exact z_sub [1, 2, 0] rfl (ih t2 σ1)
def fX4_copyFrom_0 (L : Nat → Nat) (Nf : Nat) (k0 : Nat) (k1 : Nat) (σ : cS) : Option cS := fX4_copyFrom_2 L Nf k0 k1 Nf (0 : Int32) σ
set_option maxHeartbeats 4000000 in
set_option maxRecDepth 100000 in
theorem sX4_copyFrom_0 {K : MCx} {G : Lay} (X : Cx K G RX4 cX4_copyFrom 3 none 0 0) (Nf : Nat) (k0 : Nat) (hk0 : isRow G k0) (k1 : Nat) (hk1 : isRow G k1) (h : Int64) (σ : cS) : Sm K G TT (QM K G (fun r : cS => ((none, h, r) : Option Value × Int64 × cS))) 3 0 [(0, .ref (la G k0)), (1, .ref (la G k1))] [] h σ (fX4_copyFrom_0 (ll G) Nf k0 k1 σ) := by
  unfold fX4_copyFrom_0
  refine z_iconst (v := (0 : Int32)) X dX4_copyFrom_0 (by decide) ?_
  refine z_istore_n X [(2, .int (0 : Int32)), (0, .ref (la G k0)), (1, .ref (la G k1))] dX4_copyFrom_1 (by decide) rfl ?_
  exact z_sub [1, 2, 0] rfl (sX4_copyFrom_2 X Nf k0 hk0 k1 hk1 h Nf (0 : Int32) σ)
def fX4_copyFrom (L : Nat → Nat) (Nf : Nat) (σ : cS) (k0 : Nat) (k1 : Nat) : Option cS := fX4_copyFrom_0 L Nf k0 k1 σ
set_option maxHeartbeats 4000000 in
set_option maxRecDepth 100000 in
theorem ctX4_copyFrom (l : Launch) (G : Lay) (hi : Inj G) (Nf : Nat) (h : Int64) (σ : cS) (k0 : Nat) (hk0 : isRow G k0) (k1 : Nat) (hk1 : isRow G k1) : ∀ r, fX4_copyFrom (ll G) Nf σ k0 k1 = some r → CM l yX4_copyFrom cX4_copyFrom 3 none 0 0 G [.ref (la G k0), .ref (la G k1)] h σ (none, h, r) := by
  refine cm_of (g := (fun r : cS => ((none, h, r) : Option Value × Int64 × cS))) (by decide) hi (Nat.le_of_ble_eq_true rfl) (fun K hKl X => ?_)
  unfold fX4_copyFrom
  exact z_sub [0, 1] rfl (sX4_copyFrom_0 X Nf k0 hk0 k1 hk1 h σ)
def fX4_closeGap_10 (L : Nat → Nat) (Nf : Nat) (k0 : Nat) : Nat → Int32 → cS → Option cS
  | 0, _, _ => none
  | n + 1, x2, σ => if ((Int32.ofNat (L (k0 + 1))) - (1 : Int32)) ≤ x2 then (some σ) else (grd (inb (x2 + (1 : Int32)) (L (k0 + 1))) (grd (inb x2 (L (k0 + 1))) (bnd (st2 σ (k0 + 1) x2.toNatClampNeg (σ (k0 + 1) (x2 + (1 : Int32)).toNatClampNeg)) (fun σ1 => bnd (x2 + (1 : Int32)) (fun t2 => fX4_closeGap_10 L Nf k0 n t2 σ1)))))
set_option maxHeartbeats 4000000 in
set_option maxRecDepth 100000 in
theorem sX4_closeGap_10 {K : MCx} {G : Lay} (X : Cx K G RX4 cX4_closeGap 3 none 0 0) (Nf : Nat) (k0 : Nat) (hk0 : isRow G k0) (h : Int64) : ∀ (n : Nat) (x2 : Int32) (σ : cS), Sm K G TT (QM K G (fun r : cS => ((none, h, r) : Option Value × Int64 × cS))) 3 10 [(0, .ref (la G k0)), (2, .int x2)] [] h σ (fX4_closeGap_10 (ll G) Nf k0 n x2 σ) := by
  intro n
  induction n with
  | zero => intros; exact z_none
  | succ n ih =>
    intro x2 σ
    unfold fX4_closeGap_10
    refine z_iload_n X dX4_closeGap_10 1 rfl ?_
    refine z_aload_n X dX4_closeGap_11 0 rfl ?_
    refine z_get X inlX4 rfl hk0.1 (ce4 hk0.1 _ _) 0 (by decide) q_3_5 rfl dX4_closeGap_12 ?_
    refine z_alen X hk0.2 dX4_closeGap_15 ?_
    refine z_iconst (v := (1 : Int32)) X dX4_closeGap_16 (by decide) ?_
    refine z_isub X dX4_closeGap_17 ?_
    refine z_icmp_ge X 41 dX4_closeGap_18 (by decide) ?_ ?_
    · exact z_vret X rfl dX4_closeGap_41
    · refine z_aload_n X dX4_closeGap_21 0 rfl ?_
      refine z_get X inlX4 rfl hk0.1 (ce4 hk0.1 _ _) 0 (by decide) q_3_5 rfl dX4_closeGap_22 ?_
      refine z_iload_n X dX4_closeGap_25 1 rfl ?_
      refine z_aload_n X dX4_closeGap_26 0 rfl ?_
      refine z_get X inlX4 rfl hk0.1 (ce4 hk0.1 _ _) 0 (by decide) q_3_5 rfl dX4_closeGap_27 ?_
      refine z_iload_n X dX4_closeGap_30 1 rfl ?_
      refine z_iconst (v := (1 : Int32)) X dX4_closeGap_31 (by decide) ?_
      refine z_iadd X dX4_closeGap_32 ?_
      refine z_iald X hk0.2 dX4_closeGap_33 ?_
      refine z_iast X hk0.2 dX4_closeGap_34 (fun σ1 => ?_)
      refine z_iinc X (fun t2 => [(2, .int t2), (0, .ref (la G k0))]) dX4_closeGap_35 1 rfl (by decide) (by decide) (fun _ => rfl) (fun t2 => ?_)
      refine z_goto X 10 dX4_closeGap_38 (by decide) ?_
      exact z_sub [1, 0] rfl (ih t2 σ1)
def fX4_closeGap_9 (L : Nat → Nat) (Nf : Nat) (k0 : Nat) (y0 : Int32) (σ : cS) : Option cS := fX4_closeGap_10 L Nf k0 Nf y0 σ
set_option maxHeartbeats 4000000 in
set_option maxRecDepth 100000 in
theorem sX4_closeGap_9 {K : MCx} {G : Lay} (X : Cx K G RX4 cX4_closeGap 3 none 0 0) (Nf : Nat) (k0 : Nat) (hk0 : isRow G k0) (h : Int64) (y0 : Int32) (σ : cS) : Sm K G TT (QM K G (fun r : cS => ((none, h, r) : Option Value × Int64 × cS))) 3 9 [(0, .ref (la G k0))] [.int y0] h σ (fX4_closeGap_9 (ll G) Nf k0 y0 σ) := by
  unfold fX4_closeGap_9
  refine z_istore_n X [(2, .int y0), (0, .ref (la G k0))] dX4_closeGap_9 (by decide) rfl ?_
  exact z_sub [1, 0] rfl (sX4_closeGap_10 X Nf k0 hk0 h Nf y0 σ)
def fX4_closeGap_0 (L : Nat → Nat) (Nf : Nat) (k0 : Nat) (x1 : Int32) (σ : cS) : Option cS := if 0 ≤ x1 then (fX4_closeGap_9 L Nf k0 x1 σ) else (fX4_closeGap_9 L Nf k0 (0 : Int32) σ)
set_option maxHeartbeats 4000000 in
set_option maxRecDepth 100000 in
theorem sX4_closeGap_0 {K : MCx} {G : Lay} (X : Cx K G RX4 cX4_closeGap 3 none 0 0) (Nf : Nat) (k0 : Nat) (hk0 : isRow G k0) (h : Int64) (x1 : Int32) (σ : cS) : Sm K G TT (QM K G (fun r : cS => ((none, h, r) : Option Value × Int64 × cS))) 3 0 [(0, .ref (la G k0)), (1, .int x1)] [] h σ (fX4_closeGap_0 (ll G) Nf k0 x1 σ) := by
  unfold fX4_closeGap_0
  refine z_iload_n X dX4_closeGap_0 1 rfl ?_
  refine z_if_ge X 8 dX4_closeGap_1 (by decide) ?_ ?_
  · refine z_iload_n X dX4_closeGap_8 1 rfl ?_
    exact z_sub [0] rfl (sX4_closeGap_9 X Nf k0 hk0 h x1 σ)
  · refine z_iconst (v := (0 : Int32)) X dX4_closeGap_4 (by decide) ?_
    refine z_goto X 9 dX4_closeGap_5 (by decide) ?_
    exact z_sub [0] rfl (sX4_closeGap_9 X Nf k0 hk0 h (0 : Int32) σ)
def fX4_closeGap (L : Nat → Nat) (Nf : Nat) (σ : cS) (k0 : Nat) (x1 : Int32) : Option cS := fX4_closeGap_0 L Nf k0 x1 σ
set_option maxHeartbeats 4000000 in
set_option maxRecDepth 100000 in
theorem ctX4_closeGap (l : Launch) (G : Lay) (hi : Inj G) (Nf : Nat) (h : Int64) (σ : cS) (k0 : Nat) (hk0 : isRow G k0) (x1 : Int32) : ∀ r, fX4_closeGap (ll G) Nf σ k0 x1 = some r → CM l yX4_closeGap cX4_closeGap 3 none 0 0 G [.ref (la G k0), .int x1] h σ (none, h, r) := by
  refine cm_of (g := (fun r : cS => ((none, h, r) : Option Value × Int64 × cS))) (by decide) hi (Nat.le_of_ble_eq_true rfl) (fun K hKl X => ?_)
  unfold fX4_closeGap
  exact z_sub [0, 1] rfl (sX4_closeGap_0 X Nf k0 hk0 h x1 σ)
end
section
theorem zz_last : True := trivial
end

section
-- ===== PART A: goes FIRST, ahead of the names: the tables' words, and 'selects' of the private methods out of them =====
/-- a private method of a class that the tables say can be made, by its rows of tables_1 -/
def lw_okq (q : MethodName × Nat) : Prop := (q.1.cls ≠ "java/lang/invoke/MethodHandle" ∧ q.1.cls ≠ "java/lang/invoke/VarHandle") ∧ Cond.instantiable q.1.cls q.2 ∈ tables_1 ∧ Cond.privateMethod q.1 ∈ tables_1 ∧ Cond.instanceMethod q.1 ∈ tables_1
theorem lw_p0 : lw_okq (⟨"java/util/ArrayList", "add", "(Ljava/lang/Object;[Ljava/lang/Object;I)V"⟩, 3) := ⟨⟨by decide +kernel, by decide +kernel⟩, List.mem_of_getElem? (i := 46) (by decide +kernel), List.mem_of_getElem? (i := 121) (by decide +kernel), List.mem_of_getElem? (i := 122) (by decide +kernel)⟩
theorem lw_p1 : lw_okq (⟨"java/util/ArrayList", "grow", "()[Ljava/lang/Object;"⟩, 3) := ⟨⟨by decide +kernel, by decide +kernel⟩, List.mem_of_getElem? (i := 46) (by decide +kernel), List.mem_of_getElem? (i := 125) (by decide +kernel), List.mem_of_getElem? (i := 126) (by decide +kernel)⟩
theorem lw_p2 : lw_okq (⟨"java/util/ArrayList", "grow", "(I)[Ljava/lang/Object;"⟩, 3) := ⟨⟨by decide +kernel, by decide +kernel⟩, List.mem_of_getElem? (i := 46) (by decide +kernel), List.mem_of_getElem? (i := 129) (by decide +kernel), List.mem_of_getElem? (i := 130) (by decide +kernel)⟩
theorem lw_p3 : lw_okq (⟨"Lendlathe", "areEntriesSound", "()Z"⟩, 8) := ⟨⟨by decide +kernel, by decide +kernel⟩, List.mem_of_getElem? (i := 38) (by decide +kernel), List.mem_of_getElem? (i := 244) (by decide +kernel), List.mem_of_getElem? (i := 245) (by decide +kernel)⟩
theorem lw_p4 : lw_okq (⟨"Lendlathe", "canBeBooked", "(LLendlathe$Entry;)Z"⟩, 8) := ⟨⟨by decide +kernel, by decide +kernel⟩, List.mem_of_getElem? (i := 38) (by decide +kernel), List.mem_of_getElem? (i := 249) (by decide +kernel), List.mem_of_getElem? (i := 250) (by decide +kernel)⟩
theorem lw_p5 : lw_okq (⟨"Lendlathe", "judge", "(LLendlathe$Member;LLendlathe$Machine;IIIC)C"⟩, 8) := ⟨⟨by decide +kernel, by decide +kernel⟩, List.mem_of_getElem? (i := 38) (by decide +kernel), List.mem_of_getElem? (i := 253) (by decide +kernel), List.mem_of_getElem? (i := 254) (by decide +kernel)⟩
theorem lw_p6 : lw_okq (⟨"Lendlathe", "hasLive", "(LLendlathe$Member;LLendlathe$Kind;II)Z"⟩, 8) := ⟨⟨by decide +kernel, by decide +kernel⟩, List.mem_of_getElem? (i := 38) (by decide +kernel), List.mem_of_getElem? (i := 257) (by decide +kernel), List.mem_of_getElem? (i := 258) (by decide +kernel)⟩
theorem lw_p7 : lw_okq (⟨"Lendlathe", "hasLiveNeeds", "(LLendlathe$Member;LLendlathe$Kind;II)Z"⟩, 8) := ⟨⟨by decide +kernel, by decide +kernel⟩, List.mem_of_getElem? (i := 38) (by decide +kernel), List.mem_of_getElem? (i := 265) (by decide +kernel), List.mem_of_getElem? (i := 266) (by decide +kernel)⟩
theorem lw_p8 : lw_okq (⟨"Lendlathe", "isBusy", "(LLendlathe$Member;III)Z"⟩, 8) := ⟨⟨by decide +kernel, by decide +kernel⟩, List.mem_of_getElem? (i := 38) (by decide +kernel), List.mem_of_getElem? (i := 273) (by decide +kernel), List.mem_of_getElem? (i := 274) (by decide +kernel)⟩
theorem lw_p9 : lw_okq (⟨"Lendlathe", "hasInduction", "(LLendlathe$Entry;)Z"⟩, 8) := ⟨⟨by decide +kernel, by decide +kernel⟩, List.mem_of_getElem? (i := 38) (by decide +kernel), List.mem_of_getElem? (i := 298) (by decide +kernel), List.mem_of_getElem? (i := 299) (by decide +kernel)⟩
theorem lw_p10 : lw_okq (⟨"Lendlathe", "clashesWithLater", "(ILLendlathe$Entry;)Z"⟩, 8) := ⟨⟨by decide +kernel, by decide +kernel⟩, List.mem_of_getElem? (i := 38) (by decide +kernel), List.mem_of_getElem? (i := 302) (by decide +kernel), List.mem_of_getElem? (i := 303) (by decide +kernel)⟩
theorem lw_p11 : lw_okq (⟨"Lendlathe", "doBarsAgree", "()Z"⟩, 8) := ⟨⟨by decide +kernel, by decide +kernel⟩, List.mem_of_getElem? (i := 38) (by decide +kernel), List.mem_of_getElem? (i := 306) (by decide +kernel), List.mem_of_getElem? (i := 307) (by decide +kernel)⟩
theorem lw_p12 : lw_okq (⟨"Lendlathe", "lengthLeft", "(LLendlathe$Bar;)I"⟩, 8) := ⟨⟨by decide +kernel, by decide +kernel⟩, List.mem_of_getElem? (i := 38) (by decide +kernel), List.mem_of_getElem? (i := 311) (by decide +kernel), List.mem_of_getElem? (i := 312) (by decide +kernel)⟩
theorem lw_p13 : lw_okq (⟨"Lendlathe", "doDebtsAgree", "()Z"⟩, 8) := ⟨⟨by decide +kernel, by decide +kernel⟩, List.mem_of_getElem? (i := 38) (by decide +kernel), List.mem_of_getElem? (i := 319) (by decide +kernel), List.mem_of_getElem? (i := 320) (by decide +kernel)⟩
theorem lw_p14 : lw_okq (⟨"Lendlathe", "addDebts", "(I)I"⟩, 8) := ⟨⟨by decide +kernel, by decide +kernel⟩, List.mem_of_getElem? (i := 38) (by decide +kernel), List.mem_of_getElem? (i := 323) (by decide +kernel), List.mem_of_getElem? (i := 324) (by decide +kernel)⟩
theorem lw_p15 : lw_okq (⟨"Lendlathe", "memberAt", "(I)LLendlathe$Member;"⟩, 8) := ⟨⟨by decide +kernel, by decide +kernel⟩, List.mem_of_getElem? (i := 38) (by decide +kernel), List.mem_of_getElem? (i := 327) (by decide +kernel), List.mem_of_getElem? (i := 328) (by decide +kernel)⟩
def lw_privs_1 : List (MethodName × Nat) := [(⟨"java/util/ArrayList", "add", "(Ljava/lang/Object;[Ljava/lang/Object;I)V"⟩, 3), (⟨"java/util/ArrayList", "grow", "()[Ljava/lang/Object;"⟩, 3), (⟨"java/util/ArrayList", "grow", "(I)[Ljava/lang/Object;"⟩, 3), (⟨"Lendlathe", "areEntriesSound", "()Z"⟩, 8), (⟨"Lendlathe", "canBeBooked", "(LLendlathe$Entry;)Z"⟩, 8), (⟨"Lendlathe", "judge", "(LLendlathe$Member;LLendlathe$Machine;IIIC)C"⟩, 8), (⟨"Lendlathe", "hasLive", "(LLendlathe$Member;LLendlathe$Kind;II)Z"⟩, 8), (⟨"Lendlathe", "hasLiveNeeds", "(LLendlathe$Member;LLendlathe$Kind;II)Z"⟩, 8), (⟨"Lendlathe", "isBusy", "(LLendlathe$Member;III)Z"⟩, 8), (⟨"Lendlathe", "hasInduction", "(LLendlathe$Entry;)Z"⟩, 8), (⟨"Lendlathe", "clashesWithLater", "(ILLendlathe$Entry;)Z"⟩, 8), (⟨"Lendlathe", "doBarsAgree", "()Z"⟩, 8), (⟨"Lendlathe", "lengthLeft", "(LLendlathe$Bar;)I"⟩, 8), (⟨"Lendlathe", "doDebtsAgree", "()Z"⟩, 8), (⟨"Lendlathe", "addDebts", "(I)I"⟩, 8), (⟨"Lendlathe", "memberAt", "(I)LLendlathe$Member;"⟩, 8)]
theorem lw_r1 : ∀ q ∈ lw_privs_1, lw_okq q := List.forall_mem_cons.mpr ⟨lw_p0, List.forall_mem_cons.mpr ⟨lw_p1, List.forall_mem_cons.mpr ⟨lw_p2, List.forall_mem_cons.mpr ⟨lw_p3, List.forall_mem_cons.mpr ⟨lw_p4, List.forall_mem_cons.mpr ⟨lw_p5, List.forall_mem_cons.mpr ⟨lw_p6, List.forall_mem_cons.mpr ⟨lw_p7, List.forall_mem_cons.mpr ⟨lw_p8, List.forall_mem_cons.mpr ⟨lw_p9, List.forall_mem_cons.mpr ⟨lw_p10, List.forall_mem_cons.mpr ⟨lw_p11, List.forall_mem_cons.mpr ⟨lw_p12, List.forall_mem_cons.mpr ⟨lw_p13, List.forall_mem_cons.mpr ⟨lw_p14, List.forall_mem_cons.mpr ⟨lw_p15, fun _ h => absurd h List.not_mem_nil⟩⟩⟩⟩⟩⟩⟩⟩⟩⟩⟩⟩⟩⟩⟩⟩
theorem lw_p16 : lw_okq (⟨"Lendlathe", "requireMember", "(I)V"⟩, 8) := ⟨⟨by decide +kernel, by decide +kernel⟩, List.mem_of_getElem? (i := 38) (by decide +kernel), List.mem_of_getElem? (i := 331) (by decide +kernel), List.mem_of_getElem? (i := 332) (by decide +kernel)⟩
theorem lw_p17 : lw_okq (⟨"java/lang/Throwable", "fillInStackTrace", "(I)Ljava/lang/Throwable;"⟩, 6) := ⟨⟨by decide +kernel, by decide +kernel⟩, List.mem_of_getElem? (i := 377) (by decide +kernel), List.mem_of_getElem? (i := 375) (by decide +kernel), List.mem_of_getElem? (i := 376) (by decide +kernel)⟩
theorem lw_p18 : lw_okq (⟨"Lendlathe", "doMinutesAgree", "()Z"⟩, 8) := ⟨⟨by decide +kernel, by decide +kernel⟩, List.mem_of_getElem? (i := 38) (by decide +kernel), List.mem_of_getElem? (i := 412) (by decide +kernel), List.mem_of_getElem? (i := 413) (by decide +kernel)⟩
theorem lw_p19 : lw_okq (⟨"Lendlathe", "kindAt", "(I)LLendlathe$Kind;"⟩, 8) := ⟨⟨by decide +kernel, by decide +kernel⟩, List.mem_of_getElem? (i := 38) (by decide +kernel), List.mem_of_getElem? (i := 435) (by decide +kernel), List.mem_of_getElem? (i := 436) (by decide +kernel)⟩
theorem lw_p20 : lw_okq (⟨"Lendlathe", "cancelWithoutInduction", "()V"⟩, 8) := ⟨⟨by decide +kernel, by decide +kernel⟩, List.mem_of_getElem? (i := 38) (by decide +kernel), List.mem_of_getElem? (i := 537) (by decide +kernel), List.mem_of_getElem? (i := 538) (by decide +kernel)⟩
theorem lw_p21 : lw_okq (⟨"java/util/ArrayList", "fastRemove", "([Ljava/lang/Object;I)V"⟩, 3) := ⟨⟨by decide +kernel, by decide +kernel⟩, List.mem_of_getElem? (i := 46) (by decide +kernel), List.mem_of_getElem? (i := 557) (by decide +kernel), List.mem_of_getElem? (i := 558) (by decide +kernel)⟩
theorem lw_p22 : lw_okq (⟨"Lendlathe", "bookWaiting", "()V"⟩, 8) := ⟨⟨by decide +kernel, by decide +kernel⟩, List.mem_of_getElem? (i := 38) (by decide +kernel), List.mem_of_getElem? (i := 566) (by decide +kernel), List.mem_of_getElem? (i := 567) (by decide +kernel)⟩
theorem lw_p23 : lw_okq (⟨"Lendlathe", "firstToBook", "()LLendlathe$Entry;"⟩, 8) := ⟨⟨by decide +kernel, by decide +kernel⟩, List.mem_of_getElem? (i := 38) (by decide +kernel), List.mem_of_getElem? (i := 570) (by decide +kernel), List.mem_of_getElem? (i := 571) (by decide +kernel)⟩
theorem lw_p24 : lw_okq (⟨"java/util/ArrayList", "rangeCheckForAdd", "(I)V"⟩, 3) := ⟨⟨by decide +kernel, by decide +kernel⟩, List.mem_of_getElem? (i := 46) (by decide +kernel), List.mem_of_getElem? (i := 585) (by decide +kernel), List.mem_of_getElem? (i := 586) (by decide +kernel)⟩
theorem lw_p25 : lw_okq (⟨"java/util/ArrayList", "outOfBoundsMsg", "(I)Ljava/lang/String;"⟩, 3) := ⟨⟨by decide +kernel, by decide +kernel⟩, List.mem_of_getElem? (i := 46) (by decide +kernel), List.mem_of_getElem? (i := 590) (by decide +kernel), List.mem_of_getElem? (i := 591) (by decide +kernel)⟩
theorem lw_p26 : lw_okq (⟨"Lendlathe", "machineAt", "(I)LLendlathe$Machine;"⟩, 8) := ⟨⟨by decide +kernel, by decide +kernel⟩, List.mem_of_getElem? (i := 38) (by decide +kernel), List.mem_of_getElem? (i := 899) (by decide +kernel), List.mem_of_getElem? (i := 900) (by decide +kernel)⟩
theorem lw_p27 : lw_okq (⟨"Lendlathe", "requireTime", "(IIIC)V"⟩, 8) := ⟨⟨by decide +kernel, by decide +kernel⟩, List.mem_of_getElem? (i := 38) (by decide +kernel), List.mem_of_getElem? (i := 904) (by decide +kernel), List.mem_of_getElem? (i := 905) (by decide +kernel)⟩
theorem lw_p28 : lw_okq (⟨"Lendlathe", "requireWish", "(IIC)V"⟩, 8) := ⟨⟨by decide +kernel, by decide +kernel⟩, List.mem_of_getElem? (i := 38) (by decide +kernel), List.mem_of_getElem? (i := 908) (by decide +kernel), List.mem_of_getElem? (i := 909) (by decide +kernel)⟩
theorem lw_p29 : lw_okq (⟨"Lendlathe", "entryAt", "(I)LLendlathe$Entry;"⟩, 8) := ⟨⟨by decide +kernel, by decide +kernel⟩, List.mem_of_getElem? (i := 38) (by decide +kernel), List.mem_of_getElem? (i := 1004) (by decide +kernel), List.mem_of_getElem? (i := 1005) (by decide +kernel)⟩
theorem lw_p30 : lw_okq (⟨"Lendlathe", "letterOfCancelling", "(LLendlathe$Entry;)C"⟩, 8) := ⟨⟨by decide +kernel, by decide +kernel⟩, List.mem_of_getElem? (i := 38) (by decide +kernel), List.mem_of_getElem? (i := 1010) (by decide +kernel), List.mem_of_getElem? (i := 1011) (by decide +kernel)⟩
theorem lw_p31 : lw_okq (⟨"Lendlathe", "priceOfCuts", "(LLendlathe$Entry;)I"⟩, 8) := ⟨⟨by decide +kernel, by decide +kernel⟩, List.mem_of_getElem? (i := 38) (by decide +kernel), List.mem_of_getElem? (i := 1039) (by decide +kernel), List.mem_of_getElem? (i := 1040) (by decide +kernel)⟩
def lw_privs_2 : List (MethodName × Nat) := [(⟨"Lendlathe", "requireMember", "(I)V"⟩, 8), (⟨"java/lang/Throwable", "fillInStackTrace", "(I)Ljava/lang/Throwable;"⟩, 6), (⟨"Lendlathe", "doMinutesAgree", "()Z"⟩, 8), (⟨"Lendlathe", "kindAt", "(I)LLendlathe$Kind;"⟩, 8), (⟨"Lendlathe", "cancelWithoutInduction", "()V"⟩, 8), (⟨"java/util/ArrayList", "fastRemove", "([Ljava/lang/Object;I)V"⟩, 3), (⟨"Lendlathe", "bookWaiting", "()V"⟩, 8), (⟨"Lendlathe", "firstToBook", "()LLendlathe$Entry;"⟩, 8), (⟨"java/util/ArrayList", "rangeCheckForAdd", "(I)V"⟩, 3), (⟨"java/util/ArrayList", "outOfBoundsMsg", "(I)Ljava/lang/String;"⟩, 3), (⟨"Lendlathe", "machineAt", "(I)LLendlathe$Machine;"⟩, 8), (⟨"Lendlathe", "requireTime", "(IIIC)V"⟩, 8), (⟨"Lendlathe", "requireWish", "(IIC)V"⟩, 8), (⟨"Lendlathe", "entryAt", "(I)LLendlathe$Entry;"⟩, 8), (⟨"Lendlathe", "letterOfCancelling", "(LLendlathe$Entry;)C"⟩, 8), (⟨"Lendlathe", "priceOfCuts", "(LLendlathe$Entry;)I"⟩, 8)]
theorem lw_r2 : ∀ q ∈ lw_privs_2, lw_okq q := List.forall_mem_cons.mpr ⟨lw_p16, List.forall_mem_cons.mpr ⟨lw_p17, List.forall_mem_cons.mpr ⟨lw_p18, List.forall_mem_cons.mpr ⟨lw_p19, List.forall_mem_cons.mpr ⟨lw_p20, List.forall_mem_cons.mpr ⟨lw_p21, List.forall_mem_cons.mpr ⟨lw_p22, List.forall_mem_cons.mpr ⟨lw_p23, List.forall_mem_cons.mpr ⟨lw_p24, List.forall_mem_cons.mpr ⟨lw_p25, List.forall_mem_cons.mpr ⟨lw_p26, List.forall_mem_cons.mpr ⟨lw_p27, List.forall_mem_cons.mpr ⟨lw_p28, List.forall_mem_cons.mpr ⟨lw_p29, List.forall_mem_cons.mpr ⟨lw_p30, List.forall_mem_cons.mpr ⟨lw_p31, fun _ h => absurd h List.not_mem_nil⟩⟩⟩⟩⟩⟩⟩⟩⟩⟩⟩⟩⟩⟩⟩⟩
theorem lw_p32 : lw_okq (⟨"Lendlathe", "priceOf", "(I)I"⟩, 8) := ⟨⟨by decide +kernel, by decide +kernel⟩, List.mem_of_getElem? (i := 38) (by decide +kernel), List.mem_of_getElem? (i := 1043) (by decide +kernel), List.mem_of_getElem? (i := 1044) (by decide +kernel)⟩
theorem lw_p33 : lw_okq (⟨"Lendlathe", "tightestBar", "(II)I"⟩, 8) := ⟨⟨by decide +kernel, by decide +kernel⟩, List.mem_of_getElem? (i := 38) (by decide +kernel), List.mem_of_getElem? (i := 1133) (by decide +kernel), List.mem_of_getElem? (i := 1134) (by decide +kernel)⟩
theorem lw_p34 : lw_okq (⟨"Lendlathe", "barAt", "(I)LLendlathe$Bar;"⟩, 8) := ⟨⟨by decide +kernel, by decide +kernel⟩, List.mem_of_getElem? (i := 38) (by decide +kernel), List.mem_of_getElem? (i := 1138) (by decide +kernel), List.mem_of_getElem? (i := 1139) (by decide +kernel)⟩
theorem lw_p35 : lw_okq (⟨"Lendlathe", "minutesToBlame", "(LLendlathe$Member;LLendlathe$Machine;)I"⟩, 8) := ⟨⟨by decide +kernel, by decide +kernel⟩, List.mem_of_getElem? (i := 38) (by decide +kernel), List.mem_of_getElem? (i := 1233) (by decide +kernel), List.mem_of_getElem? (i := 1234) (by decide +kernel)⟩
theorem lw_p36 : lw_okq (⟨"LendlatheModel", "raises", "(I)I"⟩, 30) := ⟨⟨by decide +kernel, by decide +kernel⟩, List.mem_of_getElem? (i := 1307) (by decide +kernel), List.mem_of_getElem? (i := 1431) (by decide +kernel), List.mem_of_getElem? (i := 1432) (by decide +kernel)⟩
theorem lw_p37 : lw_okq (⟨"LendlatheModel", "reaches", "(II)Z"⟩, 30) := ⟨⟨by decide +kernel, by decide +kernel⟩, List.mem_of_getElem? (i := 1307) (by decide +kernel), List.mem_of_getElem? (i := 1443) (by decide +kernel), List.mem_of_getElem? (i := 1444) (by decide +kernel)⟩
theorem lw_p38 : lw_okq (⟨"LendlatheModel", "liveFor", "(III)Z"⟩, 30) := ⟨⟨by decide +kernel, by decide +kernel⟩, List.mem_of_getElem? (i := 1307) (by decide +kernel), List.mem_of_getElem? (i := 1447) (by decide +kernel), List.mem_of_getElem? (i := 1448) (by decide +kernel)⟩
theorem lw_p39 : lw_okq (⟨"LendlatheModel", "live", "(III)Z"⟩, 30) := ⟨⟨by decide +kernel, by decide +kernel⟩, List.mem_of_getElem? (i := 1307) (by decide +kernel), List.mem_of_getElem? (i := 1451) (by decide +kernel), List.mem_of_getElem? (i := 1452) (by decide +kernel)⟩
theorem lw_p40 : lw_okq (⟨"LendlatheModel", "gives", "()V"⟩, 30) := ⟨⟨by decide +kernel, by decide +kernel⟩, List.mem_of_getElem? (i := 1307) (by decide +kernel), List.mem_of_getElem? (i := 1455) (by decide +kernel), List.mem_of_getElem? (i := 1456) (by decide +kernel)⟩
theorem lw_p41 : lw_okq (⟨"LendlatheModel", "letter", "(IIIIIC)C"⟩, 30) := ⟨⟨by decide +kernel, by decide +kernel⟩, List.mem_of_getElem? (i := 1307) (by decide +kernel), List.mem_of_getElem? (i := 1459) (by decide +kernel), List.mem_of_getElem? (i := 1460) (by decide +kernel)⟩
theorem lw_p42 : lw_okq (⟨"LendlatheModel", "isBusy", "(IIII)Z"⟩, 30) := ⟨⟨by decide +kernel, by decide +kernel⟩, List.mem_of_getElem? (i := 1307) (by decide +kernel), List.mem_of_getElem? (i := 1463) (by decide +kernel), List.mem_of_getElem? (i := 1464) (by decide +kernel)⟩
theorem lw_p43 : lw_okq (⟨"LendlatheModel", "overlaps", "(IIII)Z"⟩, 30) := ⟨⟨by decide +kernel, by decide +kernel⟩, List.mem_of_getElem? (i := 1307) (by decide +kernel), List.mem_of_getElem? (i := 1467) (by decide +kernel), List.mem_of_getElem? (i := 1468) (by decide +kernel)⟩
theorem lw_p44 : lw_okq (⟨"LendlatheModel", "endOf", "(I)I"⟩, 30) := ⟨⟨by decide +kernel, by decide +kernel⟩, List.mem_of_getElem? (i := 1307) (by decide +kernel), List.mem_of_getElem? (i := 1471) (by decide +kernel), List.mem_of_getElem? (i := 1472) (by decide +kernel)⟩
theorem lw_p45 : lw_okq (⟨"LendlatheModel", "isFree", "(IIIIC)Z"⟩, 30) := ⟨⟨by decide +kernel, by decide +kernel⟩, List.mem_of_getElem? (i := 1307) (by decide +kernel), List.mem_of_getElem? (i := 1475) (by decide +kernel), List.mem_of_getElem? (i := 1476) (by decide +kernel)⟩
theorem lw_p46 : lw_okq (⟨"LendlatheModel", "setup", "(ICC)I"⟩, 30) := ⟨⟨by decide +kernel, by decide +kernel⟩, List.mem_of_getElem? (i := 1307) (by decide +kernel), List.mem_of_getElem? (i := 1479) (by decide +kernel), List.mem_of_getElem? (i := 1480) (by decide +kernel)⟩
theorem lw_p47 : lw_okq (⟨"LendlatheModel", "isMember", "(I)Z"⟩, 30) := ⟨⟨by decide +kernel, by decide +kernel⟩, List.mem_of_getElem? (i := 1307) (by decide +kernel), List.mem_of_getElem? (i := 1487) (by decide +kernel), List.mem_of_getElem? (i := 1488) (by decide +kernel)⟩
def lw_privs_3 : List (MethodName × Nat) := [(⟨"Lendlathe", "priceOf", "(I)I"⟩, 8), (⟨"Lendlathe", "tightestBar", "(II)I"⟩, 8), (⟨"Lendlathe", "barAt", "(I)LLendlathe$Bar;"⟩, 8), (⟨"Lendlathe", "minutesToBlame", "(LLendlathe$Member;LLendlathe$Machine;)I"⟩, 8), (⟨"LendlatheModel", "raises", "(I)I"⟩, 30), (⟨"LendlatheModel", "reaches", "(II)Z"⟩, 30), (⟨"LendlatheModel", "liveFor", "(III)Z"⟩, 30), (⟨"LendlatheModel", "live", "(III)Z"⟩, 30), (⟨"LendlatheModel", "gives", "()V"⟩, 30), (⟨"LendlatheModel", "letter", "(IIIIIC)C"⟩, 30), (⟨"LendlatheModel", "isBusy", "(IIII)Z"⟩, 30), (⟨"LendlatheModel", "overlaps", "(IIII)Z"⟩, 30), (⟨"LendlatheModel", "endOf", "(I)I"⟩, 30), (⟨"LendlatheModel", "isFree", "(IIIIC)Z"⟩, 30), (⟨"LendlatheModel", "setup", "(ICC)I"⟩, 30), (⟨"LendlatheModel", "isMember", "(I)Z"⟩, 30)]
theorem lw_r3 : ∀ q ∈ lw_privs_3, lw_okq q := List.forall_mem_cons.mpr ⟨lw_p32, List.forall_mem_cons.mpr ⟨lw_p33, List.forall_mem_cons.mpr ⟨lw_p34, List.forall_mem_cons.mpr ⟨lw_p35, List.forall_mem_cons.mpr ⟨lw_p36, List.forall_mem_cons.mpr ⟨lw_p37, List.forall_mem_cons.mpr ⟨lw_p38, List.forall_mem_cons.mpr ⟨lw_p39, List.forall_mem_cons.mpr ⟨lw_p40, List.forall_mem_cons.mpr ⟨lw_p41, List.forall_mem_cons.mpr ⟨lw_p42, List.forall_mem_cons.mpr ⟨lw_p43, List.forall_mem_cons.mpr ⟨lw_p44, List.forall_mem_cons.mpr ⟨lw_p45, List.forall_mem_cons.mpr ⟨lw_p46, List.forall_mem_cons.mpr ⟨lw_p47, fun _ h => absurd h List.not_mem_nil⟩⟩⟩⟩⟩⟩⟩⟩⟩⟩⟩⟩⟩⟩⟩⟩
theorem lw_p48 : lw_okq (⟨"LendlatheModel", "lacks", "(IIIIIC)I"⟩, 30) := ⟨⟨by decide +kernel, by decide +kernel⟩, List.mem_of_getElem? (i := 1307) (by decide +kernel), List.mem_of_getElem? (i := 1499) (by decide +kernel), List.mem_of_getElem? (i := 1500) (by decide +kernel)⟩
theorem lw_p49 : lw_okq (⟨"LendlatheModel", "isMachine", "(I)Z"⟩, 30) := ⟨⟨by decide +kernel, by decide +kernel⟩, List.mem_of_getElem? (i := 1307) (by decide +kernel), List.mem_of_getElem? (i := 1506) (by decide +kernel), List.mem_of_getElem? (i := 1507) (by decide +kernel)⟩
theorem lw_p50 : lw_okq (⟨"LendlatheModel", "adds", "(IIIIICC)I"⟩, 30) := ⟨⟨by decide +kernel, by decide +kernel⟩, List.mem_of_getElem? (i := 1307) (by decide +kernel), List.mem_of_getElem? (i := 1510) (by decide +kernel), List.mem_of_getElem? (i := 1511) (by decide +kernel)⟩
theorem lw_p51 : lw_okq (⟨"LendlatheModel", "isEntry", "(I)Z"⟩, 30) := ⟨⟨by decide +kernel, by decide +kernel⟩, List.mem_of_getElem? (i := 1307) (by decide +kernel), List.mem_of_getElem? (i := 1526) (by decide +kernel), List.mem_of_getElem? (i := 1527) (by decide +kernel)⟩
theorem lw_p52 : lw_okq (⟨"LendlatheModel", "cost", "(II)I"⟩, 30) := ⟨⟨by decide +kernel, by decide +kernel⟩, List.mem_of_getElem? (i := 1307) (by decide +kernel), List.mem_of_getElem? (i := 1530) (by decide +kernel), List.mem_of_getElem? (i := 1531) (by decide +kernel)⟩
theorem lw_p53 : lw_okq (⟨"LendlatheModel", "may", "(III)Z"⟩, 30) := ⟨⟨by decide +kernel, by decide +kernel⟩, List.mem_of_getElem? (i := 1307) (by decide +kernel), List.mem_of_getElem? (i := 1552) (by decide +kernel), List.mem_of_getElem? (i := 1553) (by decide +kernel)⟩
theorem lw_p54 : lw_okq (⟨"LendlatheModel", "minute", "(III)C"⟩, 30) := ⟨⟨by decide +kernel, by decide +kernel⟩, List.mem_of_getElem? (i := 1307) (by decide +kernel), List.mem_of_getElem? (i := 1556) (by decide +kernel), List.mem_of_getElem? (i := 1557) (by decide +kernel)⟩
theorem lw_p55 : lw_okq (⟨"LendlatheModel", "stands", "(III)Z"⟩, 30) := ⟨⟨by decide +kernel, by decide +kernel⟩, List.mem_of_getElem? (i := 1307) (by decide +kernel), List.mem_of_getElem? (i := 1560) (by decide +kernel), List.mem_of_getElem? (i := 1561) (by decide +kernel)⟩
theorem lw_p56 : lw_okq (⟨"LendlatheModel", "used", "(II)I"⟩, 30) := ⟨⟨by decide +kernel, by decide +kernel⟩, List.mem_of_getElem? (i := 1307) (by decide +kernel), List.mem_of_getElem? (i := 1568) (by decide +kernel), List.mem_of_getElem? (i := 1569) (by decide +kernel)⟩
theorem lw_p57 : lw_okq (⟨"LendlatheModel", "minutes", "(IIC)I"⟩, 30) := ⟨⟨by decide +kernel, by decide +kernel⟩, List.mem_of_getElem? (i := 1307) (by decide +kernel), List.mem_of_getElem? (i := 1581) (by decide +kernel), List.mem_of_getElem? (i := 1582) (by decide +kernel)⟩
theorem lw_p58 : lw_okq (⟨"LendlatheModel", "free", "(I)I"⟩, 30) := ⟨⟨by decide +kernel, by decide +kernel⟩, List.mem_of_getElem? (i := 1307) (by decide +kernel), List.mem_of_getElem? (i := 1606) (by decide +kernel), List.mem_of_getElem? (i := 1607) (by decide +kernel)⟩
theorem lw_p59 : lw_okq (⟨"LendlatheModel", "lays", "(ICII)I"⟩, 30) := ⟨⟨by decide +kernel, by decide +kernel⟩, List.mem_of_getElem? (i := 1307) (by decide +kernel), List.mem_of_getElem? (i := 1631) (by decide +kernel), List.mem_of_getElem? (i := 1632) (by decide +kernel)⟩
theorem lw_p60 : lw_okq (⟨"LendlatheModel", "owed", "(I)J"⟩, 30) := ⟨⟨by decide +kernel, by decide +kernel⟩, List.mem_of_getElem? (i := 1307) (by decide +kernel), List.mem_of_getElem? (i := 1667) (by decide +kernel), List.mem_of_getElem? (i := 1668) (by decide +kernel)⟩
def lw_privs_4 : List (MethodName × Nat) := [(⟨"LendlatheModel", "lacks", "(IIIIIC)I"⟩, 30), (⟨"LendlatheModel", "isMachine", "(I)Z"⟩, 30), (⟨"LendlatheModel", "adds", "(IIIIICC)I"⟩, 30), (⟨"LendlatheModel", "isEntry", "(I)Z"⟩, 30), (⟨"LendlatheModel", "cost", "(II)I"⟩, 30), (⟨"LendlatheModel", "may", "(III)Z"⟩, 30), (⟨"LendlatheModel", "minute", "(III)C"⟩, 30), (⟨"LendlatheModel", "stands", "(III)Z"⟩, 30), (⟨"LendlatheModel", "used", "(II)I"⟩, 30), (⟨"LendlatheModel", "minutes", "(IIC)I"⟩, 30), (⟨"LendlatheModel", "free", "(I)I"⟩, 30), (⟨"LendlatheModel", "lays", "(ICII)I"⟩, 30), (⟨"LendlatheModel", "owed", "(I)J"⟩, 30)]
theorem lw_r4 : ∀ q ∈ lw_privs_4, lw_okq q := List.forall_mem_cons.mpr ⟨lw_p48, List.forall_mem_cons.mpr ⟨lw_p49, List.forall_mem_cons.mpr ⟨lw_p50, List.forall_mem_cons.mpr ⟨lw_p51, List.forall_mem_cons.mpr ⟨lw_p52, List.forall_mem_cons.mpr ⟨lw_p53, List.forall_mem_cons.mpr ⟨lw_p54, List.forall_mem_cons.mpr ⟨lw_p55, List.forall_mem_cons.mpr ⟨lw_p56, List.forall_mem_cons.mpr ⟨lw_p57, List.forall_mem_cons.mpr ⟨lw_p58, List.forall_mem_cons.mpr ⟨lw_p59, List.forall_mem_cons.mpr ⟨lw_p60, fun _ h => absurd h List.not_mem_nil⟩⟩⟩⟩⟩⟩⟩⟩⟩⟩⟩⟩⟩
def lw_privs : List (MethodName × Nat) := lw_privs_1 ++ (lw_privs_2 ++ (lw_privs_3 ++ (lw_privs_4)))
def lw_tbl : List Cond := k2_sels lw_privs ++ tables_1
theorem lw_privs_ok : ∀ q ∈ lw_privs, lw_okq q := by
  show ∀ q ∈ lw_privs_1 ++ (lw_privs_2 ++ (lw_privs_3 ++ (lw_privs_4))), lw_okq q
  exact List.forall_mem_append.mpr ⟨lw_r1, List.forall_mem_append.mpr ⟨lw_r2, List.forall_mem_append.mpr ⟨lw_r3, lw_r4⟩⟩⟩
/-- the streams that the claim lets the run draw from -/
abbrev lw_cs : List Choice := [Jvm.Choice.named "NaN.bits"]
theorem lw_bits : nanBits ∈ lw_cs := by first | decide | exact List.mem_cons_self | simp [lw_cs, nanBits]
end
section
/-! ===== BEGIN words of one list among another's, by their places ===== -/
theorem goodIn_r {big : List Cond} (ws : List Cond) (ps : List Nat) (hp : ws = ps.filterMap (fun i => big[i]?)) (h : ws.all goodWord = true) : GoodIn big ws := by
  intro w hw
  have h1 := List.all_eq_true.mp h w hw
  rw [hp] at hw
  obtain ⟨i, -, hi⟩ := List.mem_filterMap.mp hw
  have hm : w ∈ big := by first | exact List.mem_of_getElem? hi | exact List.getElem?_mem hi
  exact ⟨hm, good_of_word h1⟩
theorem goodIn_app {big a b : List Cond} (ha : GoodIn big a) (hb : GoodIn big b) : GoodIn big (a ++ b) := fun w h => (List.mem_append.mp h).elim (ha w) (hb w)
theorem goodIn_ca {big a b : List Cond} {c : Cond} (ha : GoodIn big (c :: a)) (hb : GoodIn big b) : GoodIn big (c :: (a ++ b)) := fun w h => (List.mem_cons.mp h).elim (fun e => ha w (List.mem_cons.mpr (Or.inl e))) (fun h => (List.mem_append.mp h).elim (fun h => ha w (List.mem_cons.mpr (Or.inr h))) (hb w))
theorem goodIn_sub {big ws : List Cond} (hm : ∀ w ∈ ws, w ∈ big) (h : ws.all goodWord = true) : GoodIn big ws := fun w hw => ⟨hm w hw, good_of_word (List.all_eq_true.mp h w hw)⟩
/-! ===== END ===== -/

/-! ===== BEGIN new T[n][m]: the outer array a place, the inner ones among the pooled ===== -/
/-- f, but v at every address of l -/
def vr_up {α : Type} (f : Nat → α) (l : List Nat) (v : α) : Nat → α := fun a => if a ∈ l then v else f a
theorem vr_up_in {α : Type} {f : Nat → α} {l : List Nat} {v : α} {a : Nat} (h : a ∈ l) : vr_up f l v a = v := if_pos h
theorem vr_up_ne {α : Type} {f : Nat → α} {l : List Nat} {v : α} {a : Nat} (h : a ∉ l) : vr_up f l v a = f a := if_neg h
theorem vr_rows {L l : List Nat} {f : Nat → va_E} {e : va_E} (h : ∀ a, a ∈ l → a ∉ L) : va_pl L f ++ l.map (fun a => (a, e)) = va_pl (L ++ l) (vr_up f l e) := by
  unfold va_pl
  rw [List.map_append]
  congr 1
  · apply List.map_congr_left
    intro a ha
    rw [vr_up_ne (fun q => h a q ha)]
  · apply List.map_congr_left
    intro a ha
    rw [vr_up_in ha]
theorem vr_lay {X rows : va_W} {x : Nat × va_E} {pl : va_W} {D : va_G} {cl : List vw_C} {H : Heap} (hP : va_P D cl (((X ++ pl) ++ [x]) ++ rows) H) : va_P D cl ((X ++ [x]) ++ (pl ++ rows)) H := by
  rw [List.append_assoc (X ++ pl)] at hP
  have h := va_P.swap hP
  rw [← List.append_assoc X] at h
  have h2 := va_P.swap h
  rw [List.append_assoc (X ++ [x])] at h2
  exact h2
theorem vr_layD {X rows : va_W} {x : Nat × va_E} {pl : va_W} {A : Nat → Prop} (hD : va_D A (((X ++ pl) ++ [x]) ++ rows)) : va_D A ((X ++ [x]) ++ (pl ++ rows)) := by
  rw [List.append_assoc (X ++ pl)] at hD
  have h := va_D.swap hD
  rw [← List.append_assoc X] at h
  have h2 := va_D.swap h
  rw [List.append_assoc (X ++ [x])] at h2
  exact h2
theorem vr_outer (c : ClassId) (N h0 : Nat) : ∀ i : Nat, Jvm.Free.Multi.outerC c N h0 i = arrV c N (fun j => va_rf (if j < i then some (h0 + 1 + j) else none))
  | 0 => by
    show ({ cls := c, slots := Array.replicate N .null, vm := .none } : Cell) = _
    rw [arrV_new]
    refine congrArg (arrV c N) (funext fun j => ?_)
    simp [va_rf]
  | i + 1 => by
    show (Jvm.Free.Multi.outerC c N h0 i).setSlot i (.ref (h0 + 1 + i)) = _
    rw [vr_outer c N h0 i, arrV_store]
    refine congrArg (arrV c N) (funext fun j => ?_)
    by_cases e : j = i
    · subst e
      simp [updV, va_rf]
    · by_cases h : j < i
      · simp [updV, e, h, Nat.lt_succ_of_lt h]
      · simp [updV, e, h, show ¬ j < i + 1 by omega]
/-- (the printed names speak of it and do not hold it: written here after its sister va_AO) -/
def va_AOA (ty : FieldType) (U : State) : Prop := (Cond.arrayOver (.array ty)).before #[] U = true
theorem va_AOA.use {ty : FieldType} {A : Array Value} {U : State} (h : va_AOA ty U) : (Cond.arrayOver (.array ty)).before A U = true := h
section VGM
variable {p : Program} {l : Launch} {e : Env} {R : Room} {s : State} {m : MethodId} {args : Array Value} {below : List Frame} {meth : Method} {c : Code} {H : Heap} {locs : List Loc} {cells slots : Nat} {Q : State → Prop}
variable {cc : ByteArray} {pc : Nat} {ls : Array Slot} {rest : List Value} {D : va_G} {cl : List vw_C} {A : Nat → Prop} {a : Nat} {tys : List (ClassId × FieldType)} {ws : va_W} {H0 : Heap}
theorem va_mna {X : va_W} {L : List Nat} {f : Nat → va_E} {cc : ByteArray} (hexec : p.tables.exec = Jvm.exec) (hb : c.code = cc) {own : String} {index : Nat} {ty : FieldType} {cy : ClassId} (hown : s.vm.findClass own = some m.cls) (hclink : (Cond.classLink own index ("[" ++ (FieldType.array ty).toString)).before args s = true) (hover : va_AOA ty s) (harr : (Cond.arrayClass ty).before args s = true) (hcy : s.vm.findClass (FieldType.array ty).toString = some cy)
    (hK : va_K D cl tys s) (hP : va_P D cl (X ++ va_pl L f) H) (hD : va_D A (X ++ va_pl L f)) (hS : va_S A H0 H locs) (hA : ∀ q, H0.size ≤ q → A q) {n k : Int32} {N' K' : Nat} {z : vp_A} (hn : ¬ n < 0) (hk : ¬ k < 0) (hN : n.toNatClampNeg = N') (hM : k.toNatClampNeg = K')
    (hb1 : N' * 4 ≤ 536870912) (hb2 : K' * componentBytes ty ≤ 536870912) (hb3 : K' ≤ 536870912) (hdf : fits ty (defaultValue ty) = true) (hdd : (defaultValue ty).isDefault = true) (hcells : cells + (1 + N') ≤ R.cells) (hslots : slots + (N' + N' * K') ≤ R.slots) (hz : ∀ c : ClassId, Jvm.Free.Multi.innerC c K' (defaultValue ty) = vp_cell c z) (hdg : decode cc pc = .ok (.multianewarray index 2, 4))
    (kk : ∀ (q : Nat) (r : Nat → Nat) (cA : ClassId) (H1 : Heap), (∀ i j : Nat, i < N' → j < N' → r i = r j → i = j) → (∀ i : Nat, i < N' → r i ∉ L) → va_K D cl (tys ++ [(cA, .array ty)]) s →
      va_P D cl ((X ++ [(q, .inl (cA, N', .inr (.inr (.inr (.inr (fun i => if i < N' then some (r i) else none))))))]) ++ va_pl (L ++ (List.range N').map r) (vr_up f ((List.range N').map r) (.inl (cy, z)))) H1 → va_D A ((X ++ [(q, .inl (cA, N', .inr (.inr (.inr (.inr (fun i => if i < N' then some (r i) else none))))))]) ++ va_pl (L ++ (List.range N').map r) (vr_up f ((List.range N').map r) (.inl (cy, z)))) → va_S A H0 H1 locs →
      W p l e R s m args below meth c H1 locs (cells + 1 + N') (slots + N' + N' * K') Q (F0 m (pc + 4) ls (.ref q :: rest))) : W p l e R s m args below meth c H locs cells slots Q (F0 m pc ls (.int k :: .int n :: rest)) := by
  subst hN
  subst hM
  intro T hT Xs
  obtain ⟨vm₁, cA, comp, -, fA, fC, hO, -, X', step⟩ := Xs.multianewarray2F hexec hown hclink (va_AOA.use hover) harr (g := F0 m pc ls (.int k :: .int n :: rest)) rfl (by rw [hb]; exact hdg) rfl hn hk hb1 hb2 hb3 hdf hdd hcells hslots
  have ec : some cy = some comp := hcy.symm.trans fC
  cases ec
  generalize hF : Jvm.Free.Multi.fill (T.setVm vm₁) cA cy n.toNatClampNeg k.toNatClampNeg (defaultValue ty) n.toNatClampNeg = F at X' step
  have hTh : (T.setVm vm₁).heap = H := hT
  obtain ⟨f1, f2, -, -⟩ := Jvm.Free.Multi.fill_facts (T.setVm vm₁) cA cy n.toNatClampNeg k.toNatClampNeg (defaultValue ty) n.toNatClampNeg
  rw [hF, hTh] at f1 f2
  have hold : ∀ x : Nat, x < H.size → F.heap[x]? = H[x]? := fun x hx => by
    have := Jvm.Free.Multi.fill_old (T.setVm vm₁) cA cy n.toNatClampNeg k.toNatClampNeg (defaultValue ty) (a := x) (by rw [hTh]; exact hx) n.toNatClampNeg
    rw [hF, hTh] at this
    exact this
  have hrow : ∀ j : Nat, j < n.toNatClampNeg → F.heap[H.size + 1 + j]? = some (vp_cell cy z) := fun j hj => by
    have := Jvm.Free.Multi.fill_inner (T.setVm vm₁) cA cy n.toNatClampNeg k.toNatClampNeg (defaultValue ty) n.toNatClampNeg j hj
    rw [hF, hTh, hz] at this
    exact this
  have hout : Jvm.Free.Multi.outerC cA n.toNatClampNeg H.size n.toNatClampNeg = vp_cell cA (n.toNatClampNeg, .inr (.inr (.inr (.inr (fun i => if i < n.toNatClampNeg then some (H.size + 1 + i) else none))))) := by
    rw [vp_cell_q]
    exact vr_outer cA n.toNatClampNeg H.size n.toNatClampNeg
  rw [hout] at f2
  have hlt : ∀ a, a ∈ L → a < H.size := fun a ha => by
    obtain ⟨k9, hk9⟩ := va_pl_get (X := X) (f := f) ha
    exact (hP k9 _ hk9).lt
  have hnl : ∀ i : Nat, i < n.toNatClampNeg → H.size + 1 + i ∉ L := fun i _ h => by
    have := hlt _ h
    omega
  have hnm : ∀ a, a ∈ (List.range n.toNatClampNeg).map (fun i => H.size + 1 + i) → a ∉ L := fun a ha h => by
    obtain ⟨i, -, rfl⟩ := List.mem_map.mp ha
    have := hlt _ h
    omega
  have hP0 : va_P D cl (X ++ va_pl L f) F.heap := hP.kept (fun k9 x hx => hold x.1 ((hP k9 x hx).lt))
  have hP1 : va_P D cl ((X ++ va_pl L f) ++ [(H.size, .inl (cA, n.toNatClampNeg, .inr (.inr (.inr (.inr (fun i => if i < n.toNatClampNeg then some (H.size + 1 + i) else none))))))]) F.heap := hP0.app (fun k9 x hx => by
    have h0 : k9 < 1 := (List.getElem?_eq_some_iff.mp hx).1
    rw [show k9 = 0 by omega] at hx
    cases hx
    exact f2)
  have hP2 : va_P D cl (((X ++ va_pl L f) ++ [(H.size, .inl (cA, n.toNatClampNeg, .inr (.inr (.inr (.inr (fun i => if i < n.toNatClampNeg then some (H.size + 1 + i) else none))))))]) ++ ((List.range n.toNatClampNeg).map (fun i => H.size + 1 + i)).map (fun a => (a, .inl (cy, z)))) F.heap := hP1.app (fun k9 x hx => by
    obtain ⟨a, ha, rfl⟩ := List.mem_map.mp (List.mem_of_getElem? hx)
    obtain ⟨i, hi, rfl⟩ := List.mem_map.mp ha
    exact hrow i (List.mem_range.mp hi))
  have hD2 : va_D A (((X ++ va_pl L f) ++ [(H.size, .inl (cA, n.toNatClampNeg, .inr (.inr (.inr (.inr (fun i => if i < n.toNatClampNeg then some (H.size + 1 + i) else none))))))]) ++ ((List.range n.toNatClampNeg).map (fun i => H.size + 1 + i)).map (fun a => (a, .inl (cy, z)))) := by
    have hD1 := hD.push (e := .inl (cA, n.toNatClampNeg, .inr (.inr (.inr (.inr (fun i => if i < n.toNatClampNeg then some (H.size + 1 + i) else none)))))) hP rfl (hA _ hS.1)
    generalize hW1 : (X ++ va_pl L f) ++ [(H.size, .inl (cA, n.toNatClampNeg, .inr (.inr (.inr (.inr (fun i => if i < n.toNatClampNeg then some (H.size + 1 + i) else none))))))] = W1 at hD1 hP1 ⊢
    have hle : ∀ (k9 : Nat) (x : Nat × va_E), W1[k9]? = some x → x.1 ≤ H.size := fun k9 x hx => by
      rw [← hW1] at hx
      by_cases hl : k9 < (X ++ va_pl L f).length
      · rw [List.getElem?_append_left hl] at hx
        exact Nat.le_of_lt ((hP k9 x hx).lt)
      · rw [List.getElem?_append_right (by omega)] at hx
        have h0 : k9 - (X ++ va_pl L f).length < 1 := (List.getElem?_eq_some_iff.mp hx).1
        rw [show k9 - (X ++ va_pl L f).length = 0 by omega] at hx
        cases hx
        exact Nat.le_refl _
    have hr : ∀ (k9 : Nat) (x : Nat × va_E), (((List.range n.toNatClampNeg).map (fun i => H.size + 1 + i)).map (fun a => ((a, .inl (cy, z)) : Nat × va_E)))[k9]? = some x → x.1 = H.size + 1 + k9 := fun k9 x hx => by
      rw [List.getElem?_map, List.getElem?_map] at hx
      by_cases h9 : k9 < n.toNatClampNeg
      · rw [List.getElem?_range h9] at hx
        cases hx
        rfl
      · have hn0 : (List.range n.toNatClampNeg)[k9]? = none := List.getElem?_eq_none (by rw [List.length_range]; omega)
        rw [hn0] at hx
        cases hx
    refine ⟨fun i j x y hi hj hxy => ?_, fun k9 x hx => ?_⟩
    · by_cases h1 : i < W1.length <;> by_cases h2 : j < W1.length
      · rw [List.getElem?_append_left h1] at hi
        rw [List.getElem?_append_left h2] at hj
        exact hD1.1 i j x y hi hj hxy
      · rw [List.getElem?_append_left h1] at hi
        rw [List.getElem?_append_right (by omega)] at hj
        have := hle _ _ hi
        have := hr _ _ hj
        omega
      · rw [List.getElem?_append_right (by omega)] at hi
        rw [List.getElem?_append_left h2] at hj
        have := hle _ _ hj
        have := hr _ _ hi
        omega
      · rw [List.getElem?_append_right (by omega)] at hi hj
        have := hr _ _ hi
        have := hr _ _ hj
        omega
    · by_cases h1 : k9 < W1.length
      · rw [List.getElem?_append_left h1] at hx
        exact hD1.2 k9 x hx
      · rw [List.getElem?_append_right (by omega)] at hx
        have := hr _ _ hx
        exact hA _ (by have := hS.1; omega)
  have hAr : ArrOfT s cA (.array ty) := fun N9 z9 => by
    obtain ⟨-, k9, hk9, cm9, hkk9⟩ := (hO 0 0 0).1
    exact ⟨(fun q hq => by cases hq), k9, hk9, cm9, hkk9⟩
  have hK2 : va_K D cl (tys ++ [(cA, .array ty)]) s := ⟨hK.1, fun k9 x hx => by
    by_cases hl : k9 < tys.length
    · rw [List.getElem?_append_left hl] at hx
      exact hK.2 k9 x hx
    · rw [List.getElem?_append_right (by omega)] at hx
      have h0 : k9 - tys.length < 1 := (List.getElem?_eq_some_iff.mp hx).1
      rw [show k9 - tys.length = 0 by omega] at hx
      cases hx
      exact ⟨hAr, fA⟩⟩
  obtain ⟨t, a1, b1⟩ := kk H.size (fun i => H.size + 1 + i) cA F.heap (fun i j _ _ h => by have h9 : H.size + 1 + i = H.size + 1 + j := h; omega) hnl hK2 (by rw [← vr_rows hnm]; exact vr_lay hP2) (by rw [← vr_rows hnm]; exact vr_layD hD2) ⟨by rw [f1]; have := hS.1; omega, fun x h1 h2 => (hold x (Nat.lt_of_lt_of_le h1 hS.1)).trans (hS.2.1 x h1 h2), hS.2.2⟩ F rfl X'
  refine ⟨t, step t ?_, b1⟩
  have e : T.heap.size = H.size := by rw [hT]
  rw [e]
  exact a1
end VGM
/-! ===== END ===== -/

/-! ===== BEGIN exceptions that leave a method, and their catching by the caller (launches without stack traces) ===== -/
section VXA
/-! The laws vx_back, vx_callV, vx_callS, vx_callSW, vx_throw0, vx_throwS follow proofs of the library, with one case more: JvmDerived/Free/Laws.lean (Back.of_free), Shelf42/LK1.lean (callV, callS), Shelf/KitTraced.lean (throwNew0V, throwNewS). -/
/-- where a method has thrown q: the class by its name, the cell, what was written, the world -/
def vx_T (XC : String → State → State → Prop) (st : State) (q : Addr) (t : State) (mc ms : Nat) (free : Addr → Prop) : Prop :=
  ∃ (E : String) (ce : Cell) (L : List Loc), XC E st t ∧ t.heap[q]? = some ce ∧ ce.vm = .none ∧ st.vm.findClass E = some ce.cls ∧ st.WarmedH t.vm ∧ st.sameButNew ({ t with vm := st.vm } : State) L mc ms ∧ ∀ z ∈ L, free z.base
def vx_Q (Qc : Array Value → State → Outcome → State → Prop) (XC : String → State → State → Prop) (mc ms : Nat) (free : Addr → Prop) : Array Value → State → Outcome → State → Prop := fun a st o t =>
  (Qc a st o t ∧ ∃ L, FrameEnd st o t L mc ms ∧ ∀ q ∈ L, free q.base) ∨ ∃ q, o = .threw q ∧ vx_T XC st q t mc ms free
/-- a callee that returns or throws -/
def vx_Met (l : Launch) (y : MethodName) (ws : List Cond) (rm : Room) (Pc : Array Value → State → Prop) (Qc : Array Value → State → Outcome → State → Prop) (XC : String → State → State → Prop) (mc ms : Nat) (free : Addr → Prop) : Prop :=
  MetFree l y (headSpec ws rm) Pc (fun _ _ _ _ _ => True) (vx_Q Qc XC mc ms free)
def vx_Post (XC : String → State → State → Prop) (mc ms : Nat) (free : Addr → Prop) : Pt → Array Value → Addr → Pt → Prop := fun A a q B =>
  ∃ (g : JFrame) (mk : MethodId) (t : State) (L : List Loc) (E : String) (ce : Cell), B.U.heap = t.heap ∧ B.U.vm = t.vm ∧ XC E (A.U.calling g mk a) t ∧ t.heap[q]? = some ce ∧ ce.vm = .none ∧ A.U.vm.findClass E = some ce.cls ∧ B.locs = A.locs ++ L ∧ (∀ z ∈ L, free z.base) ∧ B.cells = A.cells + mc ∧ B.slots = A.slots + ms
def vx_Back (l : Launch) (R : Room) (p : Program) (e : Env) (below : List Frame) (s : State) (sargs : Array Value) (y : MethodName) (len W9 : Nat)
    (Pre : Pt → Array Value → Prop) (Post : Pt → Array Value → Option Value → Pt → Prop) (PostX : Pt → Array Value → Addr → Pt → Prop) : Prop :=
  ∀ (m : MethodId) (meth : Method) (c : Code) (A : Pt) (g : JFrame) (ig : Instr) (mk : MethodId) (a : Array Value),
    Stand p l e R s m sargs below meth c A.U A.locs A.cells A.slots → g.method = m → g.locals.size = c.maxLocals → decode c.code g.pc = .ok (ig, len) →
    2 * g.monitorRoom + (g.stack.map fun v => v.category).sum ≤ W9 → A.U.methodNamed? y = some mk → Pre A a →
    (∃ (v : Option Value) (B : Pt), Stand p l e R s m sargs below meth c B.U B.locs B.cells B.slots ∧ Post A a v B ∧
      Steps p.tables e below (doInvoke e (A.U.setTop g) [] mk a).1 (B.U.setTop { g with pc := g.pc + len, stack := v.toList ++ g.stack })) ∨
    (∃ (q : Addr) (B : Pt), Stand p l e R s m sargs below meth c B.U B.locs B.cells B.slots ∧ PostX A a q B ∧
      Steps p.tables e below (doInvoke e (A.U.setTop g) [] mk a).1 ((B.U.setTop g).pushFrame (.throwing q)))
section Payer
variable {l : Launch} {R : Room} {p : Program} {e : Env} {below : List Frame} {s : State} {sargs : Array Value} {y : MethodName} {len W9 : Nat}
theorem vx_back {ws : List Cond} {rm : Room} {Pc : Array Value → State → Prop} {Qc : Array Value → State → Outcome → State → Prop} {XC : String → State → State → Prop} {mc ms : Nat} {free : Addr → Prop} {bytes : ByteArray} {maxL : Nat} {ret : Option FieldType}
    (hM : vx_Met l y ws rm Pc Qc XC mc ms free) (hblind : FrameBlind Pc) (hrc : rm.cells = mc) (hrs : rm.slots = ms)
    (hframes : rm.frames + 1 ≤ R.frames) (hlocals : W9 + (maxL + 11) + rm.locals ≤ R.locals)
    (hws : ∀ w ∈ ws, ∀ a' U, s.WarmedH U.vm → w.before a' U = true) (hcode : Cond.code y bytes maxL ret ∈ ws) (hinit : ∀ a' U, s.WarmedH U.vm → (Cond.initialized y.cls).before a' U = true) :
    vx_Back l R p e below s sargs y len W9 (PreOf R mc ms Pc) (PostOf Qc mc ms free) (vx_Post XC mc ms free) := by
  intro m meth c A g ig mk a X hg hsize hdg hW hn hp
  have h1 : (headSpec ws rm).pre.before a A.U = true := atoms_intro fun w hw => hws w hw _ _ X.warmed
  have h2 : (Cond.code y bytes maxL ret).before a A.U = true := hws _ hcode _ _ X.warmed
  have h3 : (Cond.initialized y.cls).before a A.U = true := hinit _ _ X.warmed
  have h4 : A.cells + (headSpec ws rm).room.cells ≤ R.cells := by rw [show (headSpec ws rm).room.cells = mc from hrc]; exact hp.1
  have h5 : A.slots + (headSpec ws rm).room.slots ≤ R.slots := by rw [show (headSpec ws rm).room.slots = ms from hrs]; exact hp.2.1
  have hPc : Pc a (A.U.calling g mk a) := hblind _ _ _ _ hp.2.2
  obtain ⟨U, Ls, c0, s0⟩ := A
  dsimp only [Pt.U, Pt.locs, Pt.cells, Pt.slots] at h1 h2 h3 h4 h5 X hn hPc ⊢
  obtain ⟨methY, cY, hmY, hcY, -, hlY, -, -, -, -⟩ := Cond.code_spec hn h2
  obtain ⟨kY, hkY, -⟩ := className_of_methodNamed hn
  have hinitY : kY.init = .initialized := Cond.initialized_spec (findClass_of_methodNamed hn) hkY h3
  have h : At U g.method c below := by rw [hg]; exact X.here
  have hlocals9 : W9 + (maxL + 11) + (headSpec ws rm).room.locals ≤ R.locals := hlocals
  have happ : (headSpec ws rm).appliesLoose y e.platform (U.calling g mk a) = true :=
    Spec.appliesLoose_calling (g := g) h hdg hn hkY hinitY
      (X.room_calling (g := g) (R' := (headSpec ws rm).room) hsize hmY hcY hframes (by rw [hlY]; omega) h4 h5) h1
  obtain ⟨mid, hmid⟩ := h.above
  have hfr : (U.setTop g).frames = (.java g :: mid) ++ below := by rw [State.frames_setTop' g h.top, hmid]; rfl
  obtain ⟨o, s₂, hsteps, -, hend, hq⟩ := Steps.callFree hM p X.admits X.cas X.clock (acts := []) hfr happ hPc trivial
  have hq' : vx_Q Qc XC mc ms free a (U.calling g mk a) o s₂ := hq
  rw [State.frames_setTop' g h.top] at hend
  obtain ⟨g₀, hg0⟩ := Option.isSome_iff_exists.mp h.top
  obtain ⟨r, hr⟩ := State.topJava?_eq_some.mp hg0
  have hr' : (({ U with heap := s₂.heap, slotsUsed := s₂.slotsUsed } : State).setVm s₂.vm).frames = .java g₀ :: r := hr
  rcases hq' with ⟨hqc, L, hfe, hL⟩ | ⟨q, rfl, E, ce, L, hx, hce, hcv, hcl, hW₂, hsm, hL⟩
  · obtain ⟨⟨v, rfl⟩, hW₂, e2, q2, q3, q4, q5, q6⟩ := id hfe
    have e3 : s₂ = ({ (U.calling g mk a).setFrames s₂.frames with heap := s₂.heap, slotsUsed := s₂.slotsUsed } : State).setVm s₂.vm := by
      have : s₂ = ({ s₂ with vm := (U.calling g mk a).vm } : State).setVm s₂.vm := rfl
      rw [e2] at this
      exact this
    obtain ⟨c₂, i₂, len₂, hc₂, hd₂, hf₂⟩ := hend
    have hW' : U.WarmedH s₂.vm := hW₂
    have hcc : c₂ = c := by
      have h1 : s₂.code? g.method = U.code? g.method := by
        rw [State.code?_eq, State.code?_eq, hW'.alike.method?]
      exact Option.some.inj (hc₂.symm.trans (h1.trans h.code))
    subst hcc
    have hlen : len₂ = len := by rw [hdg] at hd₂; cases hd₂; rfl
    subst hlen
    have hs₂ : s₂ = (({ U with heap := s₂.heap, slotsUsed := s₂.slotsUsed } : State).setVm s₂.vm).setTop { g with pc := g.pc + len₂, stack := v.toList ++ g.stack } := by
      refine e3.trans ?_
      rw [hf₂, State.calling_eq h.top, State.setFrames_setFrames, State.setTop_of_frames _ hr', hr]
      rfl
    have hsame : U.sameButNew ({ U with heap := s₂.heap, slotsUsed := s₂.slotsUsed } : State) L mc ms := by
      refine ⟨?_, q2, q3, q4, q5, q6⟩
      obtain ⟨t, ht, -⟩ := State.frames_cons hr
      show ({ U with heap := s₂.heap, slotsUsed := s₂.slotsUsed } : State) = { U.setFrames U.frames with heap := s₂.heap, slotsUsed := s₂.slotsUsed }
      rw [State.setFrames_self ht]
    subst hg
    refine Or.inl ⟨v, ⟨(({ U with heap := s₂.heap, slotsUsed := s₂.slotsUsed } : State).setVm s₂.vm), Ls ++ L, c0 + mc, s0 + ms⟩,
      ⟨X.admits, X.cas, X.clock, X.frames, X.room, X.hears, X.method, X.code, (X.here.setHeapUsed s₂.heap s₂.slotsUsed).setVm hW'.alike, X.tail, State.WarmedH.trans X.warmed hW', X.limits, X.bytes, X.same.trans (hsame.setVm s.vm)⟩,
      ⟨g, mk, s₂, L, rfl, rfl, hqc, rfl, hL, rfl, rfl⟩, ?_⟩
    show Steps p.tables e below _ ((({ U with heap := s₂.heap, slotsUsed := s₂.slotsUsed } : State).setVm s₂.vm).setTop { g with pc := g.pc + len₂, stack := v.toList ++ g.stack })
    rw [← hs₂]
    exact hsteps
  · obtain ⟨e2, q2, q3, q4, q5, q6⟩ := id hsm
    have e3 : s₂ = ({ (U.calling g mk a).setFrames s₂.frames with heap := s₂.heap, slotsUsed := s₂.slotsUsed } : State).setVm s₂.vm := by
      have : s₂ = ({ s₂ with vm := (U.calling g mk a).vm } : State).setVm s₂.vm := rfl
      rw [e2] at this
      exact this
    have hf₂ : s₂.frames = .throwing q :: .java g :: U.frames.tail := hend
    have hW' : U.WarmedH s₂.vm := hW₂
    have hs₂ : s₂ = ((({ U with heap := s₂.heap, slotsUsed := s₂.slotsUsed } : State).setVm s₂.vm).setTop g).pushFrame (.throwing q) := by
      refine e3.trans ?_
      rw [hf₂, State.calling_eq h.top, State.setFrames_setFrames, State.pushFrame, State.frames_setTop _ hr', State.setTop_of_frames _ hr', State.setFrames_setFrames, hr]
      rfl
    have hsame : U.sameButNew ({ U with heap := s₂.heap, slotsUsed := s₂.slotsUsed } : State) L mc ms := by
      refine ⟨?_, q2, q3, q4, q5, q6⟩
      obtain ⟨t, ht, -⟩ := State.frames_cons hr
      show ({ U with heap := s₂.heap, slotsUsed := s₂.slotsUsed } : State) = { U.setFrames U.frames with heap := s₂.heap, slotsUsed := s₂.slotsUsed }
      rw [State.setFrames_self ht]
    subst hg
    refine Or.inr ⟨q, ⟨(({ U with heap := s₂.heap, slotsUsed := s₂.slotsUsed } : State).setVm s₂.vm), Ls ++ L, c0 + mc, s0 + ms⟩,
      ⟨X.admits, X.cas, X.clock, X.frames, X.room, X.hears, X.method, X.code, (X.here.setHeapUsed s₂.heap s₂.slotsUsed).setVm hW'.alike, X.tail, State.WarmedH.trans X.warmed hW', X.limits, X.bytes, X.same.trans (hsame.setVm s.vm)⟩,
      ⟨g, mk, s₂, L, E, ce, rfl, rfl, hx, hce, hcv, hcl, rfl, hL, rfl, rfl⟩, ?_⟩
    show Steps p.tables e below _ (((({ U with heap := s₂.heap, slotsUsed := s₂.slotsUsed } : State).setVm s₂.vm).setTop g).pushFrame (.throwing q))
    rw [← hs₂]
    exact hsteps
end Payer
section Calls
variable {p : Program} {l : Launch} {e : Env} {R : Room} {s : State} {m : MethodId} {args : Array Value} {below : List Frame} {meth : Method} {c : Code} {T : State} {locs : List Loc} {cells slots : Nat}
theorem vx_callV (X : Stand p l e R s m args below meth c T locs cells slots) (hexec : p.tables.exec = Jvm.exec) {own C : String} {index : Nat} {y : MethodName} {bytes : ByteArray} {maxL : Nat} {ret : Option FieldType}
    (hown : s.vm.findClass own = some m.cls) (hlink : (Cond.methodLink own index y).before args s = true) (hinst : (Cond.instanceMethod y).before args s = true) (hsel : (Cond.selects C y y).before args s = true)
    (hcode : (Cond.code y bytes maxL ret).before args s = true) (hy : y.cls ≠ "java/lang/invoke/MethodHandle" ∧ y.cls ≠ "java/lang/invoke/VarHandle")
    {W9 : Nat} {Pre : Pt → Array Value → Prop} {Post : Pt → Array Value → Option Value → Pt → Prop} {PostX : Pt → Array Value → Addr → Pt → Prop} (hK : vx_Back l R p e below s args y 3 W9 Pre Post PostX)
    {b : Addr} {cellB : Cell} (hcell : T.heap[b]? = some cellB) (hobj : cellB.vm.isStatics = false) (hcls : s.vm.findClass C = some cellB.cls)
    {g : JFrame} (hg : g.method = m) (hsize : g.locals.size = c.maxLocals) {argsL rest : List Value} (hlen : ∀ sig, parseMethodDescriptor y.desc = some sig → argsL.length = sig.parameters.length)
    (hstack : g.stack = argsL.reverse ++ .ref b :: rest) (hW : 2 * g.monitorRoom + (rest.map fun v => v.category).sum ≤ W9) (hdg : decode c.code g.pc = .ok (.invokevirtual index, 3))
    (hpre : ∀ vm₁, s.WarmedH vm₁ → Pre ⟨T.setVm vm₁, locs, cells, slots⟩ (Value.ref b :: argsL).toArray) :
    (∃ (v : Option Value) (vm₁ : Vm) (B : Pt), s.WarmedH vm₁ ∧ Stand p l e R s m args below meth c B.U B.locs B.cells B.slots ∧ Post ⟨T.setVm vm₁, locs, cells, slots⟩ (Value.ref b :: argsL).toArray v B ∧
      ∀ target, Steps p.tables e below (B.U.setTop { g with pc := g.pc + 3, stack := v.toList ++ rest }) target → Steps p.tables e below (T.setTop g) target) ∨
    (∃ (q : Addr) (vm₁ : Vm) (B : Pt), s.WarmedH vm₁ ∧ Stand p l e R s m args below meth c B.U B.locs B.cells B.slots ∧ PostX ⟨T.setVm vm₁, locs, cells, slots⟩ (Value.ref b :: argsL).toArray q B ∧
      Steps p.tables e below (T.setTop g) ((B.U.setTop { g with stack := rest }).pushFrame (.throwing q))) := by
  obtain ⟨mk, methM, hnamed, hmethM, hstM, habM⟩ := Cond.instanceMethod_spec hinst
  obtain ⟨methM', cM, hmethM', -, -, -, -, -, -, hsigM⟩ := Cond.code_spec hnamed hcode
  cases hmethM.symm.trans hmethM'
  obtain ⟨c2, r2, m2, q1, q2, q3, q4, kP, hkP, hkPi⟩ := Cond.selects_spec hsel
  cases hcls.symm.trans q1
  cases (State.methodFound?_of_named hnamed hy).symm.trans q2
  cases hnamed.symm.trans q3
  have hselP : selectMethod e.platform s.vm cellB.cls mk = .method mk := by rw [Launch.admits_selectMethod X.admits]; exact q4
  obtain ⟨vm₁, X₁, hstep₁⟩ := X.invokevirtual hexec hown hlink hnamed hmethM hstM hkP hkPi hy (a := b) (cell := cellB) hcell
    (fun z h => by rw [h] at hobj; cases hobj) hselP hmethM habM hkP hkPi (g := g) hg (argsL := argsL) (rest := rest) (hlen _ hsigM) hstack hdg
  rcases hK m meth c ⟨T.setVm vm₁, locs, cells, slots⟩ { g with stack := rest } (.invokevirtual index) mk (Value.ref b :: argsL).toArray X₁ hg hsize hdg hW (X₁.named hnamed) (hpre vm₁ X₁.warmed) with ⟨v, B, X', hpost, hsteps⟩ | ⟨q, B, X', hpost, hsteps⟩
  · exact Or.inl ⟨v, vm₁, B, X₁.warmed, X', hpost, fun target h => hstep₁ _ fun acts => by rw [doInvoke_state]; exact hsteps.trans h⟩
  · exact Or.inr ⟨q, vm₁, B, X₁.warmed, X', hpost, hstep₁ _ fun acts => by rw [doInvoke_state]; exact hsteps⟩
theorem vx_callS (X : Stand p l e R s m args below meth c T locs cells slots) (hexec : p.tables.exec = Jvm.exec) {own : String} {index : Nat} {y : MethodName} {bytes : ByteArray} {maxL : Nat} {ret : Option FieldType}
    (hown : s.vm.findClass own = some m.cls) (hlink : (Cond.methodLink own index y).before args s = true) (hstat : (Cond.static y).before args s = true) (hinit : (Cond.initialized y.cls).before args s = true)
    (hcode : (Cond.code y bytes maxL ret).before args s = true) (hy : y.cls ≠ "java/lang/invoke/MethodHandle" ∧ y.cls ≠ "java/lang/invoke/VarHandle")
    {W9 : Nat} {Pre : Pt → Array Value → Prop} {Post : Pt → Array Value → Option Value → Pt → Prop} {PostX : Pt → Array Value → Addr → Pt → Prop} (hK : vx_Back l R p e below s args y 3 W9 Pre Post PostX)
    {g : JFrame} (hg : g.method = m) (hsize : g.locals.size = c.maxLocals) {argsL rest : List Value} (hlen : ∀ sig, parseMethodDescriptor y.desc = some sig → argsL.length = sig.parameters.length)
    (hstack : g.stack = argsL.reverse ++ rest) (hW : 2 * g.monitorRoom + (rest.map fun v => v.category).sum ≤ W9) (hdg : decode c.code g.pc = .ok (.invokestatic index, 3))
    (hpre : ∀ vm₁, s.WarmedH vm₁ → Pre ⟨T.setVm vm₁, locs, cells, slots⟩ argsL.toArray) :
    (∃ (v : Option Value) (vm₁ : Vm) (B : Pt), s.WarmedH vm₁ ∧ Stand p l e R s m args below meth c B.U B.locs B.cells B.slots ∧ Post ⟨T.setVm vm₁, locs, cells, slots⟩ argsL.toArray v B ∧
      ∀ target, Steps p.tables e below (B.U.setTop { g with pc := g.pc + 3, stack := v.toList ++ rest }) target → Steps p.tables e below (T.setTop g) target) ∨
    (∃ (q : Addr) (vm₁ : Vm) (B : Pt), s.WarmedH vm₁ ∧ Stand p l e R s m args below meth c B.U B.locs B.cells B.slots ∧ PostX ⟨T.setVm vm₁, locs, cells, slots⟩ argsL.toArray q B ∧
      Steps p.tables e below (T.setTop g) ((B.U.setTop { g with stack := rest }).pushFrame (.throwing q))) := by
  obtain ⟨mk, hnamed⟩ := Cond.code_named hcode
  obtain ⟨methM, cM, hmethM, -, -, -, -, -, -, hsigM⟩ := Cond.code_spec hnamed hcode
  have hstatic : methM.isStatic = true := Cond.static_spec hnamed hmethM hstat
  obtain ⟨kP, hkP, -⟩ := className_of_methodNamed hnamed
  have hinitP : kP.init = .initialized := Cond.initialized_spec (findClass_of_methodNamed hnamed) hkP hinit
  obtain ⟨vm₁, X₁, hstep₁⟩ := X.invokestatic hexec hown hlink hnamed hmethM hstatic hkP hinitP hy (g := g) hg (argsL := argsL) (rest := rest) (hlen _ hsigM) hstack hdg
  rcases hK m meth c ⟨T.setVm vm₁, locs, cells, slots⟩ { g with stack := rest } (.invokestatic index) mk argsL.toArray X₁ hg hsize hdg hW (X₁.named hnamed) (hpre vm₁ X₁.warmed) with ⟨v, B, X', hpost, hsteps⟩ | ⟨q, B, X', hpost, hsteps⟩
  · exact Or.inl ⟨v, vm₁, B, X₁.warmed, X', hpost, fun target h => hstep₁ _ fun acts => by rw [doInvoke_state]; exact hsteps.trans h⟩
  · exact Or.inr ⟨q, vm₁, B, X₁.warmed, X', hpost, hstep₁ _ fun acts => by rw [doInvoke_state]; exact hsteps⟩
end Calls
theorem vx_cls {s : State} {T : State} {vm₁ : Vm} {E : String} {k : ClassId} (hW : s.WarmedH vm₁) (h : (T.setVm vm₁).vm.findClass E = some k) : s.vm.findClass E = some k := by
  have h1 : vm₁.findClass E = some k := h
  rw [hW.alike.findClass] at h1
  exact h1
/-- the method's frame g, with q thrown over it -/
def vx_W (p : Program) (l : Launch) (e : Env) (R : Room) (s : State) (m : MethodId) (args : Array Value) (below : List Frame) (meth : Method) (c : Code) (H : Heap) (locs : List Loc) (cells slots : Nat) (Q : State → Prop) (g : JFrame) (q : Addr) : Prop :=
  ∀ T : State, T.heap = H → Stand p l e R s m args below meth c T locs cells slots → ∃ t, Steps p.tables e below ((T.setTop g).pushFrame (.throwing q)) t ∧ Q t
def vx_Run (p : Program) (l : Launch) (e : Env) (R : Room) (s : State) (m : MethodId) (args : Array Value) (below : List Frame) (meth : Method) (c : Code) (H : Heap) (locs : List Loc) (cells slots mc ms : Nat) (g : JFrame) (rest : List Value) (Qa : State → Outcome → State → Prop) (XC : String → State → State → Prop) (free : Addr → Prop) : Prop :=
  ∀ T : State, T.heap = H → Stand p l e R s m args below meth c T locs cells slots →
    (∃ (v : Option Value) (st₀ t T' : State) (L : List Loc), st₀.heap = H ∧ Stand p l e R s m args below meth c T' (locs ++ L) (cells + mc) (slots + ms) ∧ (∀ q ∈ L, free q.base) ∧ T'.heap = t.heap ∧ T'.vm = t.vm ∧ Qa st₀ (.returned v) t ∧
      Goes p e below T g T' { g with pc := g.pc + 3, stack := v.toList ++ rest }) ∨
    (∃ (q : Addr) (st₀ t T' : State) (L : List Loc) (E : String) (ce : Cell), st₀.heap = H ∧ Stand p l e R s m args below meth c T' (locs ++ L) (cells + mc) (slots + ms) ∧ (∀ z ∈ L, free z.base) ∧ T'.heap = t.heap ∧ T'.vm = t.vm ∧ XC E st₀ t ∧ t.heap[q]? = some ce ∧ ce.vm = .none ∧ s.vm.findClass E = some ce.cls ∧
      Steps p.tables e below (T.setTop g) ((T'.setTop { g with stack := rest }).pushFrame (.throwing q)))
def vx_X {S : Type} (px : S → Prop) (B : String → S → State → Prop) (A : Nat → Prop) : String → State → State → Prop := fun E st t => ∃ u : S, px u ∧ B E u t ∧ va_F A st t
section Runs
variable {p : Program} {l : Launch} {e : Env} {R : Room} {s : State} {m : MethodId} {args : Array Value} {below : List Frame} {meth : Method} {c : Code} {H : Heap} {locs : List Loc} {cells slots : Nat}
variable {y : MethodName} {bytes cc : ByteArray} {maxL nL mc ms n index : Nat} {ret : Option FieldType} {ws : List Cond} {rm : Room} {Pc : Array Value → State → Prop} {Qc : Array Value → State → Outcome → State → Prop} {XC : String → State → State → Prop} {free : Addr → Prop} {Ts : List Cond} {own C : String} {b : Addr} {As rest : List Value} {g : JFrame}
theorem vx_callBack (cb : CallB R s args own index y bytes maxL ret ws rm mc ms n) (hM : vx_Met l y ws rm Pc Qc XC mc ms free) (hbl : FrameBlind Pc) : vx_Back l R p e below s args y 3 8 (PreOf R mc ms Pc) (PostOf Qc mc ms free) (vx_Post XC mc ms free) := by
  obtain ⟨hrc, hrs, hfr, hlo, hws, hcw, -, hini, -⟩ := cb
  exact vx_back (bytes := bytes) (maxL := maxL) (ret := ret) hM hbl hrc hrs hfr hlo hws hcw (fun a' U hW => word_at hW (Or.inl (by first | rfl | simp [Cond.onTables, Cond.keeps, Cond.steady])) hini)
theorem vx_runV (S : CallFix p m c cc nL s args Ts own) (hM : vx_Met l y ws rm Pc Qc XC mc ms free) (cw : CallW R s args own C index y bytes maxL ret ws rm mc ms n) (hp : PreV s H C b Pc As)
    (hg : g.method = m) (hn : As.length = n) (hsize : g.locals.size = nL) (hstack : g.stack = As.reverse ++ .ref b :: rest) (hW : 2 * g.monitorRoom + (rest.map fun v => v.category).sum ≤ 8) (hdg : decode cc g.pc = .ok (.invokevirtual index, 3)) (hf : cells + mc ≤ R.cells ∧ slots + ms ≤ R.slots) :
    vx_Run p l e R s m args below meth c H locs cells slots mc ms g rest (Qc (Value.ref b :: As).toArray) XC free := by
  have hK : vx_Back l R p e below s args y 3 8 (PreOf R mc ms Pc) (PostOf Qc mc ms free) (vx_Post XC mc ms free) := vx_callBack cw.1 hM hp.1
  obtain ⟨⟨-, -, -, -, -, -, hcode, -, hy, hlen, hl⟩, hin, hse⟩ := cw
  obtain ⟨hx, hb, hml, ho, -⟩ := S
  obtain ⟨-, ⟨cellB, hcB, hoB, hclB⟩, hPc⟩ := hp
  intro T hT X
  rcases vx_callV X hx (C := C) (bytes := bytes) (maxL := maxL) (ret := ret) ho hl hin hse hcode hy hK (by rw [hT]; exact hcB) hoB hclB hg (hsize.trans hml.symm) (argsL := As) (rest := rest) (fun sig h => hn.trans (hlen sig h)) hstack hW (by rw [hb]; exact hdg)
    (fun vm₁ hW₁ => ⟨hf.1, hf.2, hPc (T.setVm vm₁) hT hW₁⟩) with ⟨v, vm₁, ⟨U', l2, c2, s2⟩, hW₁, X', ⟨g', mk, t, L, e1, e2, hq, h1, hL, h2, h3⟩, st⟩ | ⟨q, vm₁, ⟨U', l2, c2, s2⟩, hW₁, X', ⟨g', mk, t, L, E, ce, e1, e2, hq, hce, hcv, hcl, h1, hL, h2, h3⟩, st⟩
  · dsimp only [Pt.U, Pt.locs, Pt.cells, Pt.slots] at X' e1 e2 h1 h2 h3 st
    subst h1; subst h2; subst h3
    exact Or.inl ⟨v, (T.setVm vm₁).calling g' mk (Value.ref b :: As).toArray, t, U', L, hT, X', hL, e1, e2, hq, st⟩
  · dsimp only [Pt.U, Pt.locs, Pt.cells, Pt.slots] at X' e1 e2 h1 h2 h3 st hcl
    subst h1; subst h2; subst h3
    exact Or.inr ⟨q, (T.setVm vm₁).calling g' mk (Value.ref b :: As).toArray, t, U', L, E, ce, hT, X', hL, e1, e2, hq, hce, hcv, vx_cls hW₁ hcl, st⟩
theorem vx_runS (S : CallFix p m c cc nL s args Ts own) (hM : vx_Met l y ws rm Pc Qc XC mc ms free) (cw : CallB R s args own index y bytes maxL ret ws rm mc ms n ∧ (Cond.static y).before args s = true) (hp : PreS s H Pc As)
    (hg : g.method = m) (hn : As.length = n) (hsize : g.locals.size = nL) (hstack : g.stack = As.reverse ++ rest) (hW : 2 * g.monitorRoom + (rest.map fun v => v.category).sum ≤ 8) (hdg : decode cc g.pc = .ok (.invokestatic index, 3)) (hf : cells + mc ≤ R.cells ∧ slots + ms ≤ R.slots) :
    vx_Run p l e R s m args below meth c H locs cells slots mc ms g rest (Qc As.toArray) XC free := by
  have hK : vx_Back l R p e below s args y 3 8 (PreOf R mc ms Pc) (PostOf Qc mc ms free) (vx_Post XC mc ms free) := vx_callBack cw.1 hM hp.1
  obtain ⟨⟨-, -, -, -, -, -, hcode, hini, hy, hlen, hl⟩, hstt⟩ := cw
  obtain ⟨hx, hb, hml, ho, -⟩ := S
  intro T hT X
  rcases vx_callS X hx (bytes := bytes) (maxL := maxL) (ret := ret) ho hl hstt hini hcode hy hK hg (hsize.trans hml.symm) (argsL := As) (rest := rest) (fun sig h => hn.trans (hlen sig h)) hstack hW (by rw [hb]; exact hdg)
    (fun vm₁ hW₁ => ⟨hf.1, hf.2, hp.2 (T.setVm vm₁) hT hW₁⟩) with ⟨v, vm₁, ⟨U', l2, c2, s2⟩, hW₁, X', ⟨g', mk, t, L, e1, e2, hq, h1, hL, h2, h3⟩, st⟩ | ⟨q, vm₁, ⟨U', l2, c2, s2⟩, hW₁, X', ⟨g', mk, t, L, E, ce, e1, e2, hq, hce, hcv, hcl, h1, hL, h2, h3⟩, st⟩
  · dsimp only [Pt.U, Pt.locs, Pt.cells, Pt.slots] at X' e1 e2 h1 h2 h3 st
    subst h1; subst h2; subst h3
    exact Or.inl ⟨v, (T.setVm vm₁).calling g' mk As.toArray, t, U', L, hT, X', hL, e1, e2, hq, st⟩
  · dsimp only [Pt.U, Pt.locs, Pt.cells, Pt.slots] at X' e1 e2 h1 h2 h3 st hcl
    subst h1; subst h2; subst h3
    exact Or.inr ⟨q, (T.setVm vm₁).calling g' mk As.toArray, t, U', L, E, ce, hT, X', hL, e1, e2, hq, hce, hcv, vx_cls hW₁ hcl, st⟩
end Runs
section Rows
variable {p : Program} {l : Launch} {e : Env} {R : Room} {s : State} {m : MethodId} {args : Array Value} {below : List Frame} {meth : Method} {c : Code} {H : Heap} {locs : List Loc} {cells slots : Nat} {Q : State → Prop}
variable {mc ms : Nat} {free : Addr → Prop} {A0 A1 : Nat → Prop} {H0 : Heap} {a : Array Value} {pc : Nat} {ls : Array Slot} {st0 rest : List Value}
theorem vx_keep {st₀ t T' : State} {L : List Loc} (h0 : st₀.heap = H) (e1 : T'.heap = t.heap) (hS : va_S A0 H0 H locs) (hA : ∀ q, q < H.size → A1 q → A0 q) (hf : ∀ q, free q → A0 q) (hL : ∀ q ∈ L, free q.base) (hF : va_F A1 st₀ t) :
    H.size ≤ T'.heap.size ∧ (∀ q : Nat, q < H.size → ¬ A1 q → T'.heap[q]? = H[q]?) ∧ va_S A0 H0 T'.heap (locs ++ L) := by
  obtain ⟨hz, hk⟩ := hF
  rw [h0] at hz hk
  exact ⟨by rw [e1]; exact hz, fun q h1 h2 => by rw [e1]; exact hk q h1 h2,
    ⟨Nat.le_trans hS.1 (by rw [e1]; exact hz), fun q h1 h2 => by rw [e1, hk q (Nat.lt_of_lt_of_le h1 hS.1) (fun z => h2 (hA q (Nat.lt_of_lt_of_le h1 hS.1) z))]; exact hS.2.1 q h1 h2, fun q hq => by
      rcases List.mem_append.mp hq with h | h
      · exact hS.2.2 q h
      · exact hf _ (hL q h)⟩⟩
theorem vx_calli {S SX : Type} {post : Int32 → S → Prop} {px : SX → Prop} {B : S → State → Prop} {BX : String → SX → State → Prop} {AX : Nat → Prop} (hr : vx_Run p l e R s m args below meth c H locs cells slots mc ms (F0 m pc ls st0) rest (va_Qi post B A1 a) (vx_X px BX AX) free) (hS : va_S A0 H0 H locs) (hA : ∀ q, q < H.size → A1 q → A0 q) (hf : ∀ q, free q → A0 q) (hAX : ∀ q, q < H.size → AX q → A0 q)
    (kx : ∀ (E : String) (ce : Cell) (q9 : Addr) (u : SX) (t : State) (H1 : Heap) (locs1 : List Loc), t.heap = H1 → s.vm.Alike t.vm → px u → BX E u t → H.size ≤ H1.size → (∀ q : Nat, q < H.size → ¬ AX q → H1[q]? = H[q]?) → va_S A0 H0 H1 locs1 → H1[q9]? = some ce → ce.vm = .none → s.vm.findClass E = some ce.cls → vx_W p l e R s m args below meth c H1 locs1 (cells + mc) (slots + ms) Q (F0 m pc ls rest) q9)
    (kk : ∀ (r : Int32) (u : S) (t : State) (H1 : Heap) (locs1 : List Loc), t.heap = H1 → s.vm.Alike t.vm → post r u → B u t → H.size ≤ H1.size → (∀ q : Nat, q < H.size → ¬ A1 q → H1[q]? = H[q]?) → va_S A0 H0 H1 locs1 → W p l e R s m args below meth c H1 locs1 (cells + mc) (slots + ms) Q (F0 m (pc + 3) ls (.int r :: rest))) : W p l e R s m args below meth c H locs cells slots Q (F0 m pc ls st0) := by
  intro T hT X
  rcases hr T hT X with ⟨v, st₀, t, T', L, h0, X', hL, e1, e2, ⟨⟨r, u, hv, hp, hb⟩, hF⟩, st⟩ | ⟨q, st₀, t, T', L, E, ce, h0, X', hL, e1, e2, ⟨u, hp, hb, hF⟩, hce, hcv, hcl, st⟩
  · cases hv
    obtain ⟨k1, k2, k3⟩ := vx_keep h0 e1 hS hA hf hL hF
    obtain ⟨t2, a1, b1⟩ := kk r u t T'.heap (locs ++ L) e1.symm (by rw [← e2]; exact X'.warmed.alike) hp hb k1 k2 k3 T' rfl X'
    exact ⟨t2, st t2 a1, b1⟩
  · obtain ⟨k1, k2, k3⟩ := vx_keep h0 e1 hS hAX hf hL hF
    obtain ⟨t2, a1, b1⟩ := kx E ce q u t T'.heap (locs ++ L) e1.symm (by rw [← e2]; exact X'.warmed.alike) hp hb k1 k2 k3 (by rw [e1]; exact hce) hcv hcl T' rfl X'
    exact ⟨t2, st.trans a1, b1⟩
theorem vx_calll {S SX : Type} {post : Int64 → S → Prop} {px : SX → Prop} {B : S → State → Prop} {BX : String → SX → State → Prop} {AX : Nat → Prop} (hr : vx_Run p l e R s m args below meth c H locs cells slots mc ms (F0 m pc ls st0) rest (va_Ql post B A1 a) (vx_X px BX AX) free) (hS : va_S A0 H0 H locs) (hA : ∀ q, q < H.size → A1 q → A0 q) (hf : ∀ q, free q → A0 q) (hAX : ∀ q, q < H.size → AX q → A0 q)
    (kx : ∀ (E : String) (ce : Cell) (q9 : Addr) (u : SX) (t : State) (H1 : Heap) (locs1 : List Loc), t.heap = H1 → s.vm.Alike t.vm → px u → BX E u t → H.size ≤ H1.size → (∀ q : Nat, q < H.size → ¬ AX q → H1[q]? = H[q]?) → va_S A0 H0 H1 locs1 → H1[q9]? = some ce → ce.vm = .none → s.vm.findClass E = some ce.cls → vx_W p l e R s m args below meth c H1 locs1 (cells + mc) (slots + ms) Q (F0 m pc ls rest) q9)
    (kk : ∀ (r : Int64) (u : S) (t : State) (H1 : Heap) (locs1 : List Loc), t.heap = H1 → s.vm.Alike t.vm → post r u → B u t → H.size ≤ H1.size → (∀ q : Nat, q < H.size → ¬ A1 q → H1[q]? = H[q]?) → va_S A0 H0 H1 locs1 → W p l e R s m args below meth c H1 locs1 (cells + mc) (slots + ms) Q (F0 m (pc + 3) ls (.long r :: rest))) : W p l e R s m args below meth c H locs cells slots Q (F0 m pc ls st0) := by
  intro T hT X
  rcases hr T hT X with ⟨v, st₀, t, T', L, h0, X', hL, e1, e2, ⟨⟨r, u, hv, hp, hb⟩, hF⟩, st⟩ | ⟨q, st₀, t, T', L, E, ce, h0, X', hL, e1, e2, ⟨u, hp, hb, hF⟩, hce, hcv, hcl, st⟩
  · cases hv
    obtain ⟨k1, k2, k3⟩ := vx_keep h0 e1 hS hA hf hL hF
    obtain ⟨t2, a1, b1⟩ := kk r u t T'.heap (locs ++ L) e1.symm (by rw [← e2]; exact X'.warmed.alike) hp hb k1 k2 k3 T' rfl X'
    exact ⟨t2, st t2 a1, b1⟩
  · obtain ⟨k1, k2, k3⟩ := vx_keep h0 e1 hS hAX hf hL hF
    obtain ⟨t2, a1, b1⟩ := kx E ce q u t T'.heap (locs ++ L) e1.symm (by rw [← e2]; exact X'.warmed.alike) hp hb k1 k2 k3 (by rw [e1]; exact hce) hcv hcl T' rfl X'
    exact ⟨t2, st.trans a1, b1⟩
theorem vx_callf {S SX : Type} {post : UInt32 → S → Prop} {px : SX → Prop} {B : S → State → Prop} {BX : String → SX → State → Prop} {AX : Nat → Prop} (hr : vx_Run p l e R s m args below meth c H locs cells slots mc ms (F0 m pc ls st0) rest (va_Qf post B A1 a) (vx_X px BX AX) free) (hS : va_S A0 H0 H locs) (hA : ∀ q, q < H.size → A1 q → A0 q) (hf : ∀ q, free q → A0 q) (hAX : ∀ q, q < H.size → AX q → A0 q)
    (kx : ∀ (E : String) (ce : Cell) (q9 : Addr) (u : SX) (t : State) (H1 : Heap) (locs1 : List Loc), t.heap = H1 → s.vm.Alike t.vm → px u → BX E u t → H.size ≤ H1.size → (∀ q : Nat, q < H.size → ¬ AX q → H1[q]? = H[q]?) → va_S A0 H0 H1 locs1 → H1[q9]? = some ce → ce.vm = .none → s.vm.findClass E = some ce.cls → vx_W p l e R s m args below meth c H1 locs1 (cells + mc) (slots + ms) Q (F0 m pc ls rest) q9)
    (kk : ∀ (r : UInt32) (u : S) (t : State) (H1 : Heap) (locs1 : List Loc), t.heap = H1 → s.vm.Alike t.vm → post r u → B u t → H.size ≤ H1.size → (∀ q : Nat, q < H.size → ¬ A1 q → H1[q]? = H[q]?) → va_S A0 H0 H1 locs1 → W p l e R s m args below meth c H1 locs1 (cells + mc) (slots + ms) Q (F0 m (pc + 3) ls (.float r :: rest))) : W p l e R s m args below meth c H locs cells slots Q (F0 m pc ls st0) := by
  intro T hT X
  rcases hr T hT X with ⟨v, st₀, t, T', L, h0, X', hL, e1, e2, ⟨⟨r, u, hv, hp, hb⟩, hF⟩, st⟩ | ⟨q, st₀, t, T', L, E, ce, h0, X', hL, e1, e2, ⟨u, hp, hb, hF⟩, hce, hcv, hcl, st⟩
  · cases hv
    obtain ⟨k1, k2, k3⟩ := vx_keep h0 e1 hS hA hf hL hF
    obtain ⟨t2, a1, b1⟩ := kk r u t T'.heap (locs ++ L) e1.symm (by rw [← e2]; exact X'.warmed.alike) hp hb k1 k2 k3 T' rfl X'
    exact ⟨t2, st t2 a1, b1⟩
  · obtain ⟨k1, k2, k3⟩ := vx_keep h0 e1 hS hAX hf hL hF
    obtain ⟨t2, a1, b1⟩ := kx E ce q u t T'.heap (locs ++ L) e1.symm (by rw [← e2]; exact X'.warmed.alike) hp hb k1 k2 k3 (by rw [e1]; exact hce) hcv hcl T' rfl X'
    exact ⟨t2, st.trans a1, b1⟩
theorem vx_calld {S SX : Type} {post : UInt64 → S → Prop} {px : SX → Prop} {B : S → State → Prop} {BX : String → SX → State → Prop} {AX : Nat → Prop} (hr : vx_Run p l e R s m args below meth c H locs cells slots mc ms (F0 m pc ls st0) rest (va_Qd post B A1 a) (vx_X px BX AX) free) (hS : va_S A0 H0 H locs) (hA : ∀ q, q < H.size → A1 q → A0 q) (hf : ∀ q, free q → A0 q) (hAX : ∀ q, q < H.size → AX q → A0 q)
    (kx : ∀ (E : String) (ce : Cell) (q9 : Addr) (u : SX) (t : State) (H1 : Heap) (locs1 : List Loc), t.heap = H1 → s.vm.Alike t.vm → px u → BX E u t → H.size ≤ H1.size → (∀ q : Nat, q < H.size → ¬ AX q → H1[q]? = H[q]?) → va_S A0 H0 H1 locs1 → H1[q9]? = some ce → ce.vm = .none → s.vm.findClass E = some ce.cls → vx_W p l e R s m args below meth c H1 locs1 (cells + mc) (slots + ms) Q (F0 m pc ls rest) q9)
    (kk : ∀ (r : UInt64) (u : S) (t : State) (H1 : Heap) (locs1 : List Loc), t.heap = H1 → s.vm.Alike t.vm → post r u → B u t → H.size ≤ H1.size → (∀ q : Nat, q < H.size → ¬ A1 q → H1[q]? = H[q]?) → va_S A0 H0 H1 locs1 → W p l e R s m args below meth c H1 locs1 (cells + mc) (slots + ms) Q (F0 m (pc + 3) ls (.double r :: rest))) : W p l e R s m args below meth c H locs cells slots Q (F0 m pc ls st0) := by
  intro T hT X
  rcases hr T hT X with ⟨v, st₀, t, T', L, h0, X', hL, e1, e2, ⟨⟨r, u, hv, hp, hb⟩, hF⟩, st⟩ | ⟨q, st₀, t, T', L, E, ce, h0, X', hL, e1, e2, ⟨u, hp, hb, hF⟩, hce, hcv, hcl, st⟩
  · cases hv
    obtain ⟨k1, k2, k3⟩ := vx_keep h0 e1 hS hA hf hL hF
    obtain ⟨t2, a1, b1⟩ := kk r u t T'.heap (locs ++ L) e1.symm (by rw [← e2]; exact X'.warmed.alike) hp hb k1 k2 k3 T' rfl X'
    exact ⟨t2, st t2 a1, b1⟩
  · obtain ⟨k1, k2, k3⟩ := vx_keep h0 e1 hS hAX hf hL hF
    obtain ⟨t2, a1, b1⟩ := kx E ce q u t T'.heap (locs ++ L) e1.symm (by rw [← e2]; exact X'.warmed.alike) hp hb k1 k2 k3 (by rw [e1]; exact hce) hcv hcl T' rfl X'
    exact ⟨t2, st.trans a1, b1⟩
theorem vx_callv {S SX : Type} {post : S → Prop} {px : SX → Prop} {B : S → State → Prop} {BX : String → SX → State → Prop} {AX : Nat → Prop} (hr : vx_Run p l e R s m args below meth c H locs cells slots mc ms (F0 m pc ls st0) rest (va_Qv post B A1 a) (vx_X px BX AX) free) (hS : va_S A0 H0 H locs) (hA : ∀ q, q < H.size → A1 q → A0 q) (hf : ∀ q, free q → A0 q) (hAX : ∀ q, q < H.size → AX q → A0 q)
    (kx : ∀ (E : String) (ce : Cell) (q9 : Addr) (u : SX) (t : State) (H1 : Heap) (locs1 : List Loc), t.heap = H1 → s.vm.Alike t.vm → px u → BX E u t → H.size ≤ H1.size → (∀ q : Nat, q < H.size → ¬ AX q → H1[q]? = H[q]?) → va_S A0 H0 H1 locs1 → H1[q9]? = some ce → ce.vm = .none → s.vm.findClass E = some ce.cls → vx_W p l e R s m args below meth c H1 locs1 (cells + mc) (slots + ms) Q (F0 m pc ls rest) q9)
    (kk : ∀ (u : S) (t : State) (H1 : Heap) (locs1 : List Loc), t.heap = H1 → s.vm.Alike t.vm → post u → B u t → H.size ≤ H1.size → (∀ q : Nat, q < H.size → ¬ A1 q → H1[q]? = H[q]?) → va_S A0 H0 H1 locs1 → W p l e R s m args below meth c H1 locs1 (cells + mc) (slots + ms) Q (F0 m (pc + 3) ls (rest))) : W p l e R s m args below meth c H locs cells slots Q (F0 m pc ls st0) := by
  intro T hT X
  rcases hr T hT X with ⟨v, st₀, t, T', L, h0, X', hL, e1, e2, ⟨⟨u, hv, hp, hb⟩, hF⟩, st⟩ | ⟨q, st₀, t, T', L, E, ce, h0, X', hL, e1, e2, ⟨u, hp, hb, hF⟩, hce, hcv, hcl, st⟩
  · cases hv
    obtain ⟨k1, k2, k3⟩ := vx_keep h0 e1 hS hA hf hL hF
    obtain ⟨t2, a1, b1⟩ := kk u t T'.heap (locs ++ L) e1.symm (by rw [← e2]; exact X'.warmed.alike) hp hb k1 k2 k3 T' rfl X'
    exact ⟨t2, st t2 a1, b1⟩
  · obtain ⟨k1, k2, k3⟩ := vx_keep h0 e1 hS hAX hf hL hF
    obtain ⟨t2, a1, b1⟩ := kx E ce q u t T'.heap (locs ++ L) e1.symm (by rw [← e2]; exact X'.warmed.alike) hp hb k1 k2 k3 (by rw [e1]; exact hce) hcv hcl T' rfl X'
    exact ⟨t2, st.trans a1, b1⟩
/-- caught by the row x of this method's table; the rows ahead don't take it -/
theorem vx_catch {own name : String} {E : String} {ce : Cell} {q : Addr} (hown : s.vm.findClass own = some m.cls) (pre : List ExceptionTableEntry) (x : ExceptionTableEntry) (suf : List ExceptionTableEntry) (hsplit : c.exceptionTable.toList = pre ++ x :: suf)
    (hpass : ∀ z ∈ pre, covers z pc = false ∨ (z.catchType ≠ 0 ∧ ∃ nm : String, (Cond.classLink own z.catchType nm).before args s = true ∧ va_Nc E nm s)) (hx : covers x pc = true) (h0 : x.catchType ≠ 0)
    (hlink : (Cond.classLink own x.catchType name).before args s = true) (hcast : (Cond.castable E name).before args s = true) (hcell : H[q]? = some ce) (hv : ce.vm = .none) (hcl : s.vm.findClass E = some ce.cls)
    (kk : W p l e R s m args below meth c H locs cells slots Q (F0 m x.handlerPc ls [.ref q])) : vx_W p l e R s m args below meth c H locs cells slots Q (F0 m pc ls rest) q := by
  intro T hT X
  have hpl : e.platform.magicAccessors = ({} : Platform).magicAccessors := by rw [X.admits.platform]
  obtain ⟨c3, c4, hc3, hc4, hasg⟩ := Cond.castable_spec hcast
  cases Option.some.inj (hc3.symm.trans hcl)
  obtain ⟨c5, hc5, hcl5⟩ := Cond.classLink_spec hown hlink e.platform hpl
  cases Option.some.inj (hc4.symm.trans hc5)
  obtain ⟨vm', X', st⟩ := X.thenCaughtThrough q (g := F0 m pc ls rest) rfl (Steps.refl _) (by rw [hT]; exact hcell) (by rw [hv]; rfl) (by obtain ⟨k9, h9, -⟩ := Vm.findClass_spec hcl; exact ⟨k9, h9⟩) pre x suf hsplit
    (fun z hz => by
      rcases hpass z hz with h | ⟨hz0, nm, hl1, hn1⟩
      · exact Or.inl h
      · obtain ⟨c6, hc6, hcl6⟩ := Cond.classLink_spec hown hl1 e.platform hpl
        obtain ⟨a8, b8, h1, h2, h3⟩ := hn1
        cases Option.some.inj (h1.symm.trans hcl)
        cases Option.some.inj (h2.symm.trans hc6)
        exact Or.inr ⟨hz0, _, hcl6, h3⟩) hx (Or.inr ⟨h0, c4, hcl5, hasg⟩)
  obtain ⟨t, a1, b1⟩ := kk (T.setVm vm') hT X'
  exact ⟨t, st.trans a1, b1⟩
end Rows
section Ends
variable {p : Program} {l : Launch} {e : Env} {R : Room} {s : State} {m : MethodId} {args : Array Value} {below : List Frame} {meth : Method} {c : Code} {H : Heap} {locs : List Loc} {cells slots : Nat} {Q : State → Prop}
variable {mc ms : Nat} {free : Addr → Prop} {A0 A1 : Nat → Prop} {H0 : Heap} {a : Array Value} {ls : Array Slot} {st0 rest : List Value}
variable {Qc : Array Value → State → Outcome → State → Prop} {XC : String → State → State → Prop}
/-- what a body that may throw owes at its end -/
def vx_MQ (below : List Frame) (Qc : Array Value → State → Outcome → State → Prop) (XC : String → State → State → Prop) (a : Array Value) (s : State) (mc ms : Nat) (free : Addr → Prop) : State → Prop := fun t =>
  ∃ o, t.status = .running ∧ Ended t below o ∧ vx_Q Qc XC mc ms free a s o t
theorem vx_ret {g : JFrame} {mc ms : Nat} (k : W p l e R s m args below meth c H locs cells slots (MQ below Qc args s mc ms free) g) : W p l e R s m args below meth c H locs cells slots (vx_MQ below Qc XC args s mc ms free) g := by
  intro T hT X
  obtain ⟨t, a1, o, b1, b2, b3, b4⟩ := k T hT X
  exact ⟨t, a1, o, b1, b2, Or.inl ⟨b3, b4⟩⟩
/-- not caught here: it goes on to the caller -/
theorem vx_widen {g : JFrame} {q : Addr} {k n : Nat} (h1 : cells ≤ k) (h2 : slots ≤ n) (kk : vx_W p l e R s m args below meth c H locs k n Q g q) : vx_W p l e R s m args below meth c H locs cells slots Q g q := fun T hT X => kk T hT (stand_widen X h1 h2)
theorem vx_out {pc : Nat} {E : String} {ce : Cell} {q : Addr} {mc ms : Nat} (hout : ∀ x ∈ c.exceptionTable.toList, covers x pc = false) (hlocks : meth.locks = false) (hcell : H[q]? = some ce) (hv : ce.vm = .none) (hcl : s.vm.findClass E = some ce.cls)
    (hx : ∀ t : State, t.heap = H → s.vm.Alike t.vm → XC E s t) (hf : ∀ z ∈ locs, free z.base) (hc : cells ≤ mc) (hs : slots ≤ ms) :
    vx_W p l e R s m args below meth c H locs cells slots (vx_MQ below Qc XC args s mc ms free) (F0 m pc ls rest) q := by
  intro T hT X
  obtain ⟨st1, hrun, hend, hW, hsm⟩ := X.leaveThrown q (g := F0 m pc ls rest) rfl rfl rfl hout hlocks
  have hcell9 : (T.setFrames (.throwing q :: below)).heap[q]? = some ce := by
    show T.heap[q]? = some ce
    rw [hT]; exact hcell
  exact ⟨_, st1, .threw q, hrun, hend, Or.inr ⟨q, rfl, E, ce, locs, hx _ hT hW.alike, hcell9, hv, hcl, hW, hsm.mono hc hs, hf⟩⟩
theorem vx_frame {U : State} {k n : Nat} (h : s.sameButNew ({ U with vm := s.vm } : State) locs k n) : s.heap.size ≤ U.heap.size ∧ ∀ q : Nat, q < s.heap.size → (∀ z ∈ locs, z.base ≠ q) → U.heap[q]? = s.heap[q]? := by
  obtain ⟨-, h2, -, -, -, h6⟩ := h
  refine ⟨h2, fun q hq hz => ?_⟩
  obtain ⟨c9, e1, e2, e3, e4⟩ := h6 q _ (Array.getElem?_eq_getElem hq)
  have hs : c9.slots = (s.heap[q]).slots := Array.ext_getElem? fun i => e4 i fun hm => hz _ hm rfl
  have h9 : c9 = s.heap[q] := by
    rw [hs] at e2
    exact e2
  have e5 : U.heap[q]? = some c9 := e1
  rw [e5, h9, Array.getElem?_eq_getElem hq]
/-- the words of a throw but the four that speak of the heap -/
def vx_no (w : Cond) : Bool := decide (w ≠ .isRef (.static Bundle.tN "UNASSIGNED_STACK" Bundle.steD)) && decide (w ≠ .isRef (.static Bundle.tN "SUPPRESSED_SENTINEL" Bundle.listD)) && decide (w ≠ .laysStatic Bundle.tN "UNASSIGNED_STACK" Bundle.steD) && decide (w ≠ .laysStatic Bundle.tN "SUPPRESSED_SENTINEL" Bundle.listD)
def vx_at0 (own : String) (ic : Nat) (X : String) (names : List String) : List Cond := (Bundle.ownAtoms0 own ic X names).filter vx_no
def vx_atS (own : String) (ic : Nat) (X : String) (names : List String) : List Cond := (Bundle.ownAtoms own ic X names).filter vx_no
/-- a word that the tables alone decide, or a good one -/
def vx_ot (w : Cond) : Bool := w.onTables || goodWord w
theorem vx_ot_at {args a' : Array Value} {s U : State} {w : Cond} (hW : s.WarmedH U.vm) (hvm : s.vm = U.vm) (hg : vx_ot w = true) (h : w.before args s = true) : w.before a' U = true := by
  simp only [vx_ot, Bool.or_eq_true] at hg
  rcases hg with hg | hg
  · exact va_tabs hg hvm h
  · exact word_at hW (good_of_word hg) h
/-- a list's words: the good ones out of the method's own list, the others by premises of their own -/
theorem vx_hat {args : Array Value} {s : State} {L B : List Cond} (h1 : ∀ w ∈ L.filter goodWord, w.before args s = true) (h2 : ∀ w ∈ L.filter (fun w => !goodWord w), w ∈ B) (h3 : ∀ w ∈ B, w.before args s = true) : ∀ w ∈ L, w.before args s = true := by
  intro w hw
  by_cases g : goodWord w = true
  · exact h1 w (List.mem_filter.mpr ⟨hw, g⟩)
  · refine h3 w (h2 w (List.mem_filter.mpr ⟨hw, ?_⟩))
    show (!goodWord w) = true
    cases hgw : goodWord w
    · rfl
    · exact absurd hgw g
theorem vx_c {args : Array Value} {s : State} {w : Cond} {B : List Cond} (h : w.before args s = true) (t : ∀ w ∈ B, w.before args s = true) : ∀ w' ∈ w :: B, w'.before args s = true := fun w' h' => (List.mem_cons.mp h').elim (fun e => by rw [e]; exact h) (t w')
theorem vx_n {args : Array Value} {s : State} : ∀ w ∈ ([] : List Cond), w.before args s = true := fun _ h => nomatch h
theorem vx_own {args : Array Value} {s : State} {L : List Cond} (h1 : ∀ w ∈ L.filter vx_no, w.before args s = true)
    (hU : (Cond.isRef (.static Bundle.tN "UNASSIGNED_STACK" Bundle.steD)).before args s = true) (hN : (Cond.isRef (.static Bundle.tN "SUPPRESSED_SENTINEL" Bundle.listD)).before args s = true)
    (lU : (Cond.laysStatic Bundle.tN "UNASSIGNED_STACK" Bundle.steD).before args s = true) (lN : (Cond.laysStatic Bundle.tN "SUPPRESSED_SENTINEL" Bundle.listD).before args s = true) : ∀ w ∈ L, w.before args s = true := by
  intro w hw
  by_cases e1 : w = .isRef (.static Bundle.tN "UNASSIGNED_STACK" Bundle.steD)
  · rw [e1]; exact hU
  · by_cases e2 : w = .isRef (.static Bundle.tN "SUPPRESSED_SENTINEL" Bundle.listD)
    · rw [e2]; exact hN
    · by_cases e3 : w = .laysStatic Bundle.tN "UNASSIGNED_STACK" Bundle.steD
      · rw [e3]; exact lU
      · by_cases e4 : w = .laysStatic Bundle.tN "SUPPRESSED_SENTINEL" Bundle.listD
        · rw [e4]; exact lN
        · exact h1 w (List.mem_filter.mpr ⟨hw, by unfold vx_no; rw [decide_eq_true e1, decide_eq_true e2, decide_eq_true e3, decide_eq_true e4]; rfl⟩)
/-- where a static field lies, its class's statics cell in H -/
def vx_L (C n d : String) (A : Nat → Prop) (U : State) (H : Heap) : Prop := ∃ (c : ClassId) (k : Class) (i : Nat) (f : Field) (a : Nat) (cell : Cell), U.vm.findClass C = some c ∧ U.fieldFound? C n d = some (c, k, i, f) ∧ f.isStatic = true ∧ k.statics = some a ∧ H[a]? = some cell ∧ cell.vm.isStatics = true ∧ cell.cls = c ∧ f.slot < cell.slots.size ∧ k.staticTypes[f.slot]? = some f.type ∧ ¬ A a
theorem vx_L.moved {C n d : String} {A : Nat → Prop} {u U : State} {H : Heap} (hvm : u.vm.Alike U.vm) (h : vx_L C n d A u H) : vx_L C n d A U H := by
  obtain ⟨c, k, i, f, a, cell, h1, h2, h3, h4, h5, h6, h7, h8, h9, h10⟩ := h
  obtain ⟨k', hi', he⟩ := State.fieldFound?_setVm hvm h2
  exact ⟨c, k', i, f, a, cell, by rw [hvm.findClass]; exact h1, hi', h3, by rw [he]; exact h4, h5, h6, h7, h8, by rw [he]; exact h9, h10⟩
theorem vx_L.kept {C n d : String} {A : Nat → Prop} {U : State} {H H1 : Heap} (h : vx_L C n d A U H) (hq : ∀ a : Nat, a < H.size → ¬ A a → H1[a]? = H[a]?) : vx_L C n d A U H1 := by
  obtain ⟨c, k, i, f, a, cell, h1, h2, h3, h4, h5, h6, h7, h8, h9, h10⟩ := h
  exact ⟨c, k, i, f, a, cell, h1, h2, h3, h4, by rw [hq a (Array.getElem?_eq_some_iff.mp h5).1 h10]; exact h5, h6, h7, h8, h9, h10⟩
theorem vx_L.narrow {C n d : String} {A B : Nat → Prop} {U : State} {H : Heap} (h : vx_L C n d A U H) (hAB : ∀ q, B q → A q) : vx_L C n d B U H := by
  obtain ⟨c, k, i, f, a, cell, h1, h2, h3, h4, h5, h6, h7, h8, h9, h10⟩ := h
  exact ⟨c, k, i, f, a, cell, h1, h2, h3, h4, h5, h6, h7, h8, h9, fun z => h10 (hAB _ z)⟩
theorem vx_L.word {C n d : String} {A : Nat → Prop} {s : State} {args : Array Value} (h : vx_L C n d A s s.heap) : (Cond.laysStatic C n d).before args s = true := by
  obtain ⟨c, k, i, f, a, cell, h1, h2, h3, h4, h5, h6, h7, h8, h9, -⟩ := h
  show (Cond.laysStatic C n d).holds args s none s [] = true
  exact Cond.laysStatic_of h1 h2 h3 h4 h5 h6 h7 h8 h9
/-- .. and what it holds: null or some reference -/
def vx_Zq (C n d : String) (A : Nat → Prop) (U : State) (H : Heap) : Prop := va_Zq C n d A U H ∧ vx_L C n d A U H
theorem vx_Zq.moved {C n d : String} {A : Nat → Prop} {u U : State} {H : Heap} (hvm : u.vm.Alike U.vm) (h : vx_Zq C n d A u H) : vx_Zq C n d A U H := ⟨va_Zq.moved hvm h.1, vx_L.moved hvm h.2⟩
theorem vx_Zq.kept {C n d : String} {A : Nat → Prop} {U : State} {H H1 : Heap} (h : vx_Zq C n d A U H) (hq : ∀ a : Nat, a < H.size → ¬ A a → H1[a]? = H[a]?) : vx_Zq C n d A U H1 := ⟨va_Zq.kept h.1 hq, vx_L.kept h.2 hq⟩
theorem vx_Zq.narrow {C n d : String} {A B : Nat → Prop} {U : State} {H : Heap} (h : vx_Zq C n d A U H) (hAB : ∀ q, B q → A q) : vx_Zq C n d B U H := ⟨va_Zq.narrow h.1 hAB, vx_L.narrow h.2 hAB⟩
theorem vx_Zqof {args : Array Value} {s : State} {C n d : String} {A : Nat → Prop} (hl : (Cond.laysStatic C n d).before args s = true) (hini : (Cond.initialized C).before args s = true) (h : (Cond.isRef (.static C n d)).before args s = true) (hA : ∀ a : Nat, a < s.heap.size → ¬ A a) : vx_Zq C n d A s s.heap := by
  refine ⟨va_Zqof hl hini h hA, ?_⟩
  obtain ⟨c, k, i, f, a, cell, h1, h2, h3, h4, h5, h6, h7, h8, h9⟩ := Cond.laysStatic_spec hl
  exact ⟨c, k, i, f, a, cell, h1, h2, h3, h4, h5, h6, h7, h8, h9, hA a (Array.getElem?_eq_some_iff.mp h5).1⟩
theorem vx_isRef {C n d : String} {v : Value} {A : Nat → Prop} {s : State} {args : Array Value} (h : va_Z C n d v A s s.heap) (hv : v.isRef = true) : (Cond.isRef (.static C n d)).before args s = true := by
  obtain ⟨cf, kf, fi, f, a, cell, h1, h2, h3, h4, h5, h6, h7, -⟩ := h
  have he : (Term.static C n d).eval args s none [] s = some v := by
    simp [Term.eval, State.fieldNamed?, h1, h2, h4, h5, h6, h7]
  simp only [Cond.before, Cond.holds, Cond.value, he]
  cases v <;> simp_all [Value.isRef]
theorem vx_isRefq {C n d : String} {A : Nat → Prop} {s : State} {args : Array Value} (h : va_Zq C n d A s s.heap) : (Cond.isRef (.static C n d)).before args s = true := by
  rcases h with h | ⟨t, h⟩
  · exact vx_isRef h rfl
  · exact vx_isRef h rfl
/-- the same frame, seen from here: as if the method were called anew in this heap -/
theorem vx_rebase {T : State} (X : Stand p l e R s m args below meth c T locs cells slots) {R' : Room} (hf : R'.frames ≤ R.frames) (hl : R'.locals ≤ R.locals) (hc : cells + R'.cells ≤ R.cells) (hs : slots + R'.slots ≤ R.slots) :
    Stand p l e R' ((T.setVm s.vm).setFrames (.invoking m args :: below)) m args below meth c T [] 0 0 := by
  have htop : (T.setVm s.vm).topJava?.isSome := X.here.top
  have hF : ((T.setVm s.vm).setFrames (.invoking m args :: below)).frames = .invoking m args :: below := State.frames_setFrames _ (State.cur_lt_of_top htop)
  obtain ⟨g₀, hg0⟩ := Option.isSome_iff_exists.mp htop
  obtain ⟨r, hr⟩ := State.topJava?_eq_some.mp hg0
  have hl9 : e.platform.stackLimits (T.setVm s.vm).me = e.platform.stackLimits s.me := X.limits
  have hb9 : (T.setVm s.vm).me.stackBytes = s.me.stackBytes := X.bytes
  refine ⟨X.admits, X.cas, X.clock, hF, ?_, X.hears, X.method, X.code, X.here, X.tail, X.warmed, ?_, ?_, ?_⟩
  · have h := X.room
    have hU : ((T.setVm s.vm).setFrames (.invoking m args :: below)).localsInUse = s.localsInUse := by
      rw [State.localsInUse_invoking hF (meth := meth) (c := c) X.method X.code, State.localsInUse_invoking X.frames X.method X.code]
    simp only [State.hasRoom, Bool.and_eq_true, decide_eq_true_eq] at h ⊢
    obtain ⟨⟨⟨⟨h1, h2, h3, h4, h5, h6⟩, h7⟩, h8⟩, h9⟩ := h
    rw [X.frames, List.length_cons] at h2 h3
    have q1 := X.heapSize
    have q2 := X.used
    simp only [hF, hU, List.length_cons, State.stackLimits_setFrames, State.stackBytes_setFrames, hl9, hb9]
    refine ⟨⟨⟨⟨by omega, by omega, by omega, by omega, by omega, h6⟩, ?_⟩, ?_⟩, X.book⟩
    · show T.heap.size + R'.cells ≤ e.platform.maxCells
      omega
    · show T.slotsUsed + R'.slots ≤ e.platform.maxSlots
      omega
  · rw [State.stackLimits_setFrames]; rfl
  · rw [State.stackBytes_setFrames]; rfl
  · refine ⟨?_, Nat.le_refl _, Nat.le_refl _, ?_, ?_, fun a c9 h9 => ⟨c9, h9, rfl, rfl, fun _ _ => rfl⟩⟩
    · obtain ⟨t, ht, -⟩ := State.frames_cons hr
      show T.setVm s.vm = { ((T.setVm s.vm).setFrames (.invoking m args :: below)).setFrames (T.setVm s.vm).frames with heap := T.heap, slotsUsed := T.slotsUsed }
      rw [State.setFrames_setFrames, State.setFrames_self ht]
      rfl
    · show T.slotsUsed = T.slotsUsed + ((T.heap.toList.drop T.heap.size).map (·.slots.size)).sum
      rw [List.drop_eq_nil_of_le (Nat.le_of_eq Array.length_toList)]
      rfl
    · show ((T.heap.toList.drop T.heap.size).map (·.slots.size)).sum ≤ 0
      rw [List.drop_eq_nil_of_le (Nat.le_of_eq Array.length_toList)]
      exact Nat.le_refl _
/-- 'throw new E()': new; dup; invokespecial; athrow -/
theorem vx_throw0 {cc : ByteArray} {pc : Nat} (hexec : p.tables.exec = Jvm.exec) (hb : c.code = cc) (hl : l.stackTraces = false) {own cls : String} {names : List String} {ik ic mc ms : Nat} {A : Nat → Prop}
    (hown : s.vm.findClass own = some m.cls) (hcls : Bundle.fit cls = true) (hnames : ∀ n ∈ names, Bundle.fit n = true)
    (hk : (Cond.classLink own ik cls).before args s = true) (hini : (Cond.initialized cls).before args s = true) (hat : ∀ w ∈ vx_at0 own ic cls names, w.before args s = true)
    (hgood : ∀ w ∈ Cond.classLink own ik cls :: Cond.initialized cls :: vx_at0 own ic cls names, vx_ot w = true)
    (hU : vx_Zq Bundle.tN "UNASSIGNED_STACK" Bundle.steD A s s.heap) (hN : vx_Zq Bundle.tN "SUPPRESSED_SENTINEL" Bundle.listD A s s.heap) (hS : va_S A s.heap H locs) (hsize : ls.size = c.maxLocals)
    (d0 : decode cc pc = .ok (.new ik, 3)) (d3 : decode cc (pc + 3) = .ok (.dup, 1)) (d4 : decode cc (pc + 4) = .ok (.invokespecial ic, 3)) (d7 : decode cc (pc + 7) = .ok (.athrow, 1))
    (hout : ∀ x ∈ c.exceptionTable.toList, covers x (pc + 7) = false)
    (hRframes : names.length + 3 < R.frames) (hRlocals : (rest.map fun v => v.category).sum + (13 * (names.length + 1) + 42) ≤ R.locals) (hRcells : cells + 1 ≤ R.cells) (hRslots : slots + 6 ≤ R.slots) (hlocks : meth.locks = false)
    (hx : ∀ t : State, s.vm.Alike t.vm → H.size ≤ t.heap.size → (∀ q : Nat, q < H.size → t.heap[q]? = H[q]?) → XC cls s t)
    (hf : ∀ z ∈ locs, free z.base) (hc : cells + 1 ≤ mc) (hs : slots + 6 ≤ ms) :
    W p l e R s m args below meth c H locs cells slots (vx_MQ below Qc XC args s mc ms free) (F0 m pc ls rest) := by
  intro T hT X
  have htr : e.platform.stackTraces = false := (show e.platform.stackTraces = l.stackTraces by rw [X.admits.platform]).trans hl
  have Y := vx_rebase X (R' := { frames := R.frames, locals := R.locals, cells := 1, slots := 6 }) (Nat.le_refl _) (Nat.le_refl _) hRcells hRslots
  obtain ⟨s', hA⟩ : ∃ z, z = (T.setVm s.vm).setFrames (.invoking m args :: below) := ⟨_, rfl⟩
  rw [← hA] at Y
  have hvm : s'.vm = s.vm := by rw [hA]; rfl
  have hhp : s'.heap = H := by rw [hA]; exact hT
  have hW0 : s.WarmedH s'.vm := by rw [hvm]; exact State.WarmedH.refl s
  have hat' : ∀ w ∈ vx_at0 own ic cls names, w.before args s' = true := fun w hw => vx_ot_at hW0 hvm.symm (hgood w (List.mem_cons_of_mem _ (List.mem_cons_of_mem _ hw))) (hat w hw)
  have hk' : (Cond.classLink own ik cls).before args s' = true := vx_ot_at hW0 hvm.symm (hgood _ List.mem_cons_self) hk
  have hini' : (Cond.initialized cls).before args s' = true := vx_ot_at hW0 hvm.symm (hgood _ (List.mem_cons_of_mem _ List.mem_cons_self)) hini
  have hU' : vx_Zq Bundle.tN "UNASSIGNED_STACK" Bundle.steD A s' s'.heap := by rw [hhp]; exact vx_Zq.moved hW0.alike (hU.kept hS.2.1)
  have hN' : vx_Zq Bundle.tN "SUPPRESSED_SENTINEL" Bundle.listD A s' s'.heap := by rw [hhp]; exact vx_Zq.moved hW0.alike (hN.kept hS.2.1)
  have h : ∀ w ∈ Bundle.ownAtoms0 own ic cls names, w.before args s' = true := vx_own hat' (vx_isRefq hU'.1) (vx_isRefq hN'.1) hU'.2.word hN'.2.word
  have hown' : s'.vm.findClass own = some m.cls := by rw [hvm]; exact hown
  have hins : (Cond.instantiable cls 6).before args s' = true := h _ (by simp [Bundle.ownAtoms0])
  obtain ⟨vm₁, cX, kX, hfX, hkX, -, -, X₁, st1⟩ := Y.newCold hexec (own := own) (C := cls) (index := ik) (n := 6) hown' hk' hins hini'
    (g := F0 m pc ls rest) rfl (by rw [hb]; exact d0) (Nat.le_refl _) (Nat.le_refl _)
  generalize hT1 : (T.setVm vm₁).pushCell { cls := cX, slots := kX.instanceTypes.map defaultValue, vm := .none } = T1 at X₁ st1
  have hcat : (Value.ref T.heap.size).category = 1 := rfl
  have hcellA : T1.heap[T.heap.size]? = some (freshCell cX kX) := by rw [← hT1]; exact State.heap_pushCell_size _ _
  have d3' : decode c.code (pc + 3) = .ok (.dup, 1) := by rw [hb]; exact d3
  obtain ⟨U, hsteps, hrun, hend, hW, hsame, ce, hce, hO⟩ := X₁.ctorThrow0 hexec htr (own := own) (cls := cls) (names := names) (ic := ic) hown' hcls hnames h (fun x hx => nomatch hx) hfX hkX hcellA (by rw [hhp, hT]; exact Nat.le_refl _)
    (g := { method := m, pc := pc + 4, locals := ls, stack := .ref T.heap.size :: .ref T.heap.size :: rest, locked := none }) rfl hsize rfl rfl (rest := rest) rfl
    (by rw [hb]; exact d4) (by rw [hb]; exact d7) hout hRframes (by simp only [List.map_cons, List.sum_cons, hcat]; omega) hlocks
  obtain ⟨f1, f2⟩ := vx_frame hsame
  rw [hhp] at f1 f2
  have hWs : s.WarmedH U.vm := State.WarmedH.trans hW0 hW
  have hcl : s.vm.findClass cls = some ce.cls := by
    have h9 := hO.cls
    rw [hvm] at h9
    exact h9
  have hall : s.sameButNew ({ U with vm := s.vm } : State) locs mc ms := by
    subst hA
    obtain ⟨e1, e2⟩ := hsame
    rw [State.setFrames_setFrames] at e1
    have h2 : (T.setVm s.vm).sameButNew ({ U with vm := s.vm } : State) [] (0 + 1) (0 + 6) := ⟨e1, e2⟩
    have h3 := X.same.trans h2
    rw [List.append_nil] at h3
    exact h3.mono hc hs
  refine ⟨U, ?_, .threw T.heap.size, hrun, hend, Or.inr ⟨T.heap.size, rfl, cls, ce, locs, hx U hWs.alike f1 (fun q hq => f2 q hq (fun z hz => nomatch hz)), hce, hO.vm, hcl, hWs, hall, hf⟩⟩
  refine st1 _ ?_
  show Steps p.tables e below (T1.setTop { method := m, pc := pc + 3, locals := ls, stack := .ref T.heap.size :: rest, locked := none }) _
  jvm_step X₁.here [X₁.here.top, hexec, d3', Value.category]
  exact hsteps
/-- 'throw new E("text")': new; dup; ldc; invokespecial; athrow -/
theorem vx_throwS {cc : ByteArray} {pc : Nat} (hexec : p.tables.exec = Jvm.exec) (hb : c.code = cc) (hl : l.stackTraces = false) {own cls text : String} {names : List String} {ik is ic mc ms sa : Nat} {A : Nat → Prop}
    (hown : s.vm.findClass own = some m.cls) (hcls : Bundle.fit cls = true) (hnames : ∀ n ∈ names, Bundle.fit n = true)
    (hk : (Cond.classLink own ik cls).before args s = true) (hini : (Cond.initialized cls).before args s = true) (hstr : vk_R own is text sa s) (hat : ∀ w ∈ vx_atS own ic cls names, w.before args s = true)
    (hgood : ∀ w ∈ Cond.classLink own ik cls :: Cond.initialized cls :: vx_atS own ic cls names, vx_ot w = true)
    (hU : vx_Zq Bundle.tN "UNASSIGNED_STACK" Bundle.steD A s s.heap) (hN : vx_Zq Bundle.tN "SUPPRESSED_SENTINEL" Bundle.listD A s s.heap) (hS : va_S A s.heap H locs) (hsize : ls.size = c.maxLocals)
    (d0 : decode cc pc = .ok (.new ik, 3)) (d3 : decode cc (pc + 3) = .ok (.dup, 1)) (d4 : decode cc (pc + 4) = .ok (.ldc is, 2)) (d6 : decode cc (pc + 6) = .ok (.invokespecial ic, 3)) (d9 : decode cc (pc + 9) = .ok (.athrow, 1))
    (hout : ∀ x ∈ c.exceptionTable.toList, covers x (pc + 9) = false)
    (hRframes : names.length + 3 < R.frames) (hRlocals : (rest.map fun v => v.category).sum + (13 * (names.length + 1) + 43) ≤ R.locals) (hRcells : cells + 1 ≤ R.cells) (hRslots : slots + 6 ≤ R.slots) (hlocks : meth.locks = false)
    (hx : ∀ t : State, s.vm.Alike t.vm → H.size ≤ t.heap.size → (∀ q : Nat, q < H.size → t.heap[q]? = H[q]?) → XC cls s t)
    (hf : ∀ z ∈ locs, free z.base) (hc : cells + 1 ≤ mc) (hs : slots + 6 ≤ ms) :
    W p l e R s m args below meth c H locs cells slots (vx_MQ below Qc XC args s mc ms free) (F0 m pc ls rest) := by
  intro T hT X
  have htr : e.platform.stackTraces = false := (show e.platform.stackTraces = l.stackTraces by rw [X.admits.platform]).trans hl
  have Y := vx_rebase X (R' := { frames := R.frames, locals := R.locals, cells := 1, slots := 6 }) (Nat.le_refl _) (Nat.le_refl _) hRcells hRslots
  obtain ⟨s', hA⟩ : ∃ z, z = (T.setVm s.vm).setFrames (.invoking m args :: below) := ⟨_, rfl⟩
  rw [← hA] at Y
  have hvm : s'.vm = s.vm := by rw [hA]; rfl
  have hhp : s'.heap = H := by rw [hA]; exact hT
  have hW0 : s.WarmedH s'.vm := by rw [hvm]; exact State.WarmedH.refl s
  have hat' : ∀ w ∈ vx_atS own ic cls names, w.before args s' = true := fun w hw => vx_ot_at hW0 hvm.symm (hgood w (List.mem_cons_of_mem _ (List.mem_cons_of_mem _ hw))) (hat w hw)
  have hk' : (Cond.classLink own ik cls).before args s' = true := vx_ot_at hW0 hvm.symm (hgood _ List.mem_cons_self) hk
  have hini' : (Cond.initialized cls).before args s' = true := vx_ot_at hW0 hvm.symm (hgood _ (List.mem_cons_of_mem _ List.mem_cons_self)) hini
  have hU' : vx_Zq Bundle.tN "UNASSIGNED_STACK" Bundle.steD A s' s'.heap := by rw [hhp]; exact vx_Zq.moved hW0.alike (hU.kept hS.2.1)
  have hN' : vx_Zq Bundle.tN "SUPPRESSED_SENTINEL" Bundle.listD A s' s'.heap := by rw [hhp]; exact vx_Zq.moved hW0.alike (hN.kept hS.2.1)
  have h : ∀ w ∈ Bundle.ownAtoms own ic cls names, w.before args s' = true := vx_own hat' (vx_isRefq hU'.1) (vx_isRefq hN'.1) hU'.2.word hN'.2.word
  have hown' : s'.vm.findClass own = some m.cls := by rw [hvm]; exact hown
  have hins : (Cond.instantiable cls 6).before args s' = true := h _ (by simp [Bundle.ownAtoms])
  obtain ⟨vm₁, cX, kX, hfX, hkX, -, -, X₁, st1⟩ := Y.newCold hexec (own := own) (C := cls) (index := ik) (n := 6) hown' hk' hins hini'
    (g := F0 m pc ls rest) rfl (by rw [hb]; exact d0) (Nat.le_refl _) (Nat.le_refl _)
  generalize hT1 : (T.setVm vm₁).pushCell { cls := cX, slots := kX.instanceTypes.map defaultValue, vm := .none } = T1 at X₁ st1
  have hcat : (Value.ref T.heap.size).category = 1 := rfl
  have hcellA : T1.heap[T.heap.size]? = some (freshCell cX kX) := by rw [← hT1]; exact State.heap_pushCell_size _ _
  have d3' : decode c.code (pc + 3) = .ok (.dup, 1) := by rw [hb]; exact d3
  have d4' : decode c.code (pc + 4) = .ok (.ldc is, 2) := by rw [hb]; exact d4
  have hstr' : vk_R own is text sa s' := vk_R.warm hW0 hstr
  obtain ⟨U, hsteps, hrun, hend, hW, hsame, ce, hce, hO⟩ := X₁.ctorThrowS hexec htr (own := own) (cls := cls) (names := names) (ic := ic) hown' hcls hnames h (fun x hx => nomatch hx) hfX hkX hcellA (by rw [hhp, hT]; exact Nat.le_refl _) (msg := .ref sa) rfl
    (g := { method := m, pc := pc + 6, locals := ls, stack := .ref sa :: .ref T.heap.size :: .ref T.heap.size :: rest, locked := none }) rfl hsize rfl rfl (rest := rest) rfl
    (by rw [hb]; exact d6) (by rw [hb]; exact d9) hout hRframes (by simp only [List.map_cons, List.sum_cons, hcat]; omega) hlocks
  obtain ⟨f1, f2⟩ := vx_frame hsame
  rw [hhp] at f1 f2
  have hWs : s.WarmedH U.vm := State.WarmedH.trans hW0 hW
  have hcl : s.vm.findClass cls = some ce.cls := by
    have h9 := hO.cls
    rw [hvm] at h9
    exact h9
  have hall : s.sameButNew ({ U with vm := s.vm } : State) locs mc ms := by
    subst hA
    obtain ⟨e1, e2⟩ := hsame
    rw [State.setFrames_setFrames] at e1
    have h2 : (T.setVm s.vm).sameButNew ({ U with vm := s.vm } : State) [] (0 + 1) (0 + 6) := ⟨e1, e2⟩
    have h3 := X.same.trans h2
    rw [List.append_nil] at h3
    exact h3.mono hc hs
  refine ⟨U, ?_, .threw T.heap.size, hrun, hend, Or.inr ⟨T.heap.size, rfl, cls, ce, locs, hx U hWs.alike f1 (fun q hq => f2 q hq (fun z hz => nomatch hz)), hce, hO.vm, hcl, hWs, hall, hf⟩⟩
  refine st1 _ ?_
  show Steps p.tables e below (T1.setTop { method := m, pc := pc + 3, locals := ls, stack := .ref T.heap.size :: rest, locked := none }) _
  jvm_step X₁.here [X₁.here.top, hexec, d3', Value.category]
  exact X₁.ldcString hexec (own := own) (text := text) (index := is) (a := sa) hown' hstr'.1 hstr'.2
    (g := { method := m, pc := pc + 4, locals := ls, stack := .ref T.heap.size :: .ref T.heap.size :: rest, locked := none }) rfl d4' _ hsteps
/-- 'throw new E("text")', the text by a wide index -/
theorem vx_throwSW {cc : ByteArray} {pc : Nat} (hexec : p.tables.exec = Jvm.exec) (hb : c.code = cc) (hl : l.stackTraces = false) {own cls text : String} {names : List String} {ik is ic mc ms sa : Nat} {A : Nat → Prop}
    (hown : s.vm.findClass own = some m.cls) (hcls : Bundle.fit cls = true) (hnames : ∀ n ∈ names, Bundle.fit n = true)
    (hk : (Cond.classLink own ik cls).before args s = true) (hini : (Cond.initialized cls).before args s = true) (hstr : vk_R own is text sa s) (hat : ∀ w ∈ vx_atS own ic cls names, w.before args s = true)
    (hgood : ∀ w ∈ Cond.classLink own ik cls :: Cond.initialized cls :: vx_atS own ic cls names, vx_ot w = true)
    (hU : vx_Zq Bundle.tN "UNASSIGNED_STACK" Bundle.steD A s s.heap) (hN : vx_Zq Bundle.tN "SUPPRESSED_SENTINEL" Bundle.listD A s s.heap) (hS : va_S A s.heap H locs) (hsize : ls.size = c.maxLocals)
    (d0 : decode cc pc = .ok (.new ik, 3)) (d3 : decode cc (pc + 3) = .ok (.dup, 1)) (d4 : decode cc (pc + 4) = .ok (.ldc_w is, 3)) (d7 : decode cc (pc + 7) = .ok (.invokespecial ic, 3)) (d10 : decode cc (pc + 10) = .ok (.athrow, 1))
    (hout : ∀ x ∈ c.exceptionTable.toList, covers x (pc + 10) = false)
    (hRframes : names.length + 3 < R.frames) (hRlocals : (rest.map fun v => v.category).sum + (13 * (names.length + 1) + 43) ≤ R.locals) (hRcells : cells + 1 ≤ R.cells) (hRslots : slots + 6 ≤ R.slots) (hlocks : meth.locks = false)
    (hx : ∀ t : State, s.vm.Alike t.vm → H.size ≤ t.heap.size → (∀ q : Nat, q < H.size → t.heap[q]? = H[q]?) → XC cls s t)
    (hf : ∀ z ∈ locs, free z.base) (hc : cells + 1 ≤ mc) (hs : slots + 6 ≤ ms) :
    W p l e R s m args below meth c H locs cells slots (vx_MQ below Qc XC args s mc ms free) (F0 m pc ls rest) := by
  intro T hT X
  have htr : e.platform.stackTraces = false := (show e.platform.stackTraces = l.stackTraces by rw [X.admits.platform]).trans hl
  have Y := vx_rebase X (R' := { frames := R.frames, locals := R.locals, cells := 1, slots := 6 }) (Nat.le_refl _) (Nat.le_refl _) hRcells hRslots
  obtain ⟨s', hA⟩ : ∃ z, z = (T.setVm s.vm).setFrames (.invoking m args :: below) := ⟨_, rfl⟩
  rw [← hA] at Y
  have hvm : s'.vm = s.vm := by rw [hA]; rfl
  have hhp : s'.heap = H := by rw [hA]; exact hT
  have hW0 : s.WarmedH s'.vm := by rw [hvm]; exact State.WarmedH.refl s
  have hat' : ∀ w ∈ vx_atS own ic cls names, w.before args s' = true := fun w hw => vx_ot_at hW0 hvm.symm (hgood w (List.mem_cons_of_mem _ (List.mem_cons_of_mem _ hw))) (hat w hw)
  have hk' : (Cond.classLink own ik cls).before args s' = true := vx_ot_at hW0 hvm.symm (hgood _ List.mem_cons_self) hk
  have hini' : (Cond.initialized cls).before args s' = true := vx_ot_at hW0 hvm.symm (hgood _ (List.mem_cons_of_mem _ List.mem_cons_self)) hini
  have hU' : vx_Zq Bundle.tN "UNASSIGNED_STACK" Bundle.steD A s' s'.heap := by rw [hhp]; exact vx_Zq.moved hW0.alike (hU.kept hS.2.1)
  have hN' : vx_Zq Bundle.tN "SUPPRESSED_SENTINEL" Bundle.listD A s' s'.heap := by rw [hhp]; exact vx_Zq.moved hW0.alike (hN.kept hS.2.1)
  have h : ∀ w ∈ Bundle.ownAtoms own ic cls names, w.before args s' = true := vx_own hat' (vx_isRefq hU'.1) (vx_isRefq hN'.1) hU'.2.word hN'.2.word
  have hown' : s'.vm.findClass own = some m.cls := by rw [hvm]; exact hown
  have hins : (Cond.instantiable cls 6).before args s' = true := h _ (by simp [Bundle.ownAtoms])
  obtain ⟨vm₁, cX, kX, hfX, hkX, -, -, X₁, st1⟩ := Y.newCold hexec (own := own) (C := cls) (index := ik) (n := 6) hown' hk' hins hini'
    (g := F0 m pc ls rest) rfl (by rw [hb]; exact d0) (Nat.le_refl _) (Nat.le_refl _)
  generalize hT1 : (T.setVm vm₁).pushCell { cls := cX, slots := kX.instanceTypes.map defaultValue, vm := .none } = T1 at X₁ st1
  have hcat : (Value.ref T.heap.size).category = 1 := rfl
  have hcellA : T1.heap[T.heap.size]? = some (freshCell cX kX) := by rw [← hT1]; exact State.heap_pushCell_size _ _
  have d3' : decode c.code (pc + 3) = .ok (.dup, 1) := by rw [hb]; exact d3
  have d4' : decode c.code (pc + 4) = .ok (.ldc_w is, 3) := by rw [hb]; exact d4
  have hstr' : vk_R own is text sa s' := vk_R.warm hW0 hstr
  obtain ⟨U, hsteps, hrun, hend, hW, hsame, ce, hce, hO⟩ := X₁.ctorThrowS hexec htr (own := own) (cls := cls) (names := names) (ic := ic) hown' hcls hnames h (fun x hx => nomatch hx) hfX hkX hcellA (by rw [hhp, hT]; exact Nat.le_refl _) (msg := .ref sa) rfl
    (g := { method := m, pc := pc + 7, locals := ls, stack := .ref sa :: .ref T.heap.size :: .ref T.heap.size :: rest, locked := none }) rfl hsize rfl rfl (rest := rest) rfl
    (by rw [hb]; exact d7) (by rw [hb]; exact d10) hout hRframes (by simp only [List.map_cons, List.sum_cons, hcat]; omega) hlocks
  obtain ⟨f1, f2⟩ := vx_frame hsame
  rw [hhp] at f1 f2
  have hWs : s.WarmedH U.vm := State.WarmedH.trans hW0 hW
  have hcl : s.vm.findClass cls = some ce.cls := by
    have h9 := hO.cls
    rw [hvm] at h9
    exact h9
  have hall : s.sameButNew ({ U with vm := s.vm } : State) locs mc ms := by
    subst hA
    obtain ⟨e1, e2⟩ := hsame
    rw [State.setFrames_setFrames] at e1
    have h2 : (T.setVm s.vm).sameButNew ({ U with vm := s.vm } : State) [] (0 + 1) (0 + 6) := ⟨e1, e2⟩
    have h3 := X.same.trans h2
    rw [List.append_nil] at h3
    exact h3.mono hc hs
  refine ⟨U, ?_, .threw T.heap.size, hrun, hend, Or.inr ⟨T.heap.size, rfl, cls, ce, locs, hx U hWs.alike f1 (fun q hq => f2 q hq (fun z hz => nomatch hz)), hce, hO.vm, hcl, hWs, hall, hf⟩⟩
  refine st1 _ ?_
  show Steps p.tables e below (T1.setTop { method := m, pc := pc + 3, locals := ls, stack := .ref T.heap.size :: rest, locked := none }) _
  jvm_step X₁.here [X₁.here.top, hexec, d3', Value.category]
  exact X₁.ldcStringW hexec (own := own) (text := text) (index := is) (a := sa) hown' hstr'.1 hstr'.2
    (g := { method := m, pc := pc + 4, locals := ls, stack := .ref T.heap.size :: .ref T.heap.size :: rest, locked := none }) rfl d4' _ hsteps
end Ends
section Bodies
variable {l : Launch}
theorem vx_ofW {y : MethodName} {ws ws' : List Cond} {rm : Room} {Pc : Array Value → State → Prop} {Qc : Array Value → State → Outcome → State → Prop} {XC : String → State → State → Prop} {mc ms : Nat} {free : Addr → Prop} {cc : ByteArray} {maxL : Nat} {ret : Option FieldType}
    (hy : plainName y.cls = true) (hw : ws = Cond.code y cc maxL ret :: ws')
    (body : ∀ p e s m args below meth c s₁, BodyLoose p l y (headSpec ws rm) cc maxL ret e s m args below meth c s₁ → c.maxLocals = maxL → (∀ x ∈ c.exceptionTable.toList, False) → Pc args s →
      W p l e (headSpec ws rm).room s m args below meth c s.heap [] 0 0 (vx_MQ below Qc XC args s mc ms free) (entryFrame m args maxL)) : vx_Met l y ws rm Pc Qc XC mc ms free := by
  refine MetFree.of_bodyS (code := cc) (maxLocals := maxL) (ret := ret) hy ?_ ?_
  · intro args s m h hn
    obtain ⟨meth, c, h1, h2, h3, h4, h5, h6, -, -⟩ := Cond.code_spec hn (atoms_spec (ws := ws) h _ (by rw [hw]; exact List.mem_cons_self))
    exact ⟨meth, c, h1, h2, h3, h4, h5, h6⟩
  · intro p e s m args below meth c s₁ B hml hP _
    have hh0 : s₁.heap = s.heap := by rw [B.state]; rfl
    have ht : ∀ x ∈ c.exceptionTable.toList, False := by
      obtain ⟨meth9, c9, h1, h2, -, -, -, -, h7, -⟩ := Cond.code_spec B.named (atoms_spec (ws := ws) B.pre _ (by rw [hw]; exact List.mem_cons_self))
      cases Option.some.inj (h1.symm.trans B.method)
      cases Option.some.inj (h2.symm.trans (Stand.of_body B).code)
      intro x hx
      rw [Array.isEmpty_iff.mp h7] at hx
      cases hx
    obtain ⟨t, a1, o, b1, b2, b3⟩ := body p e s m args below meth c s₁ B hml ht hP s₁ hh0 (Stand.of_body B)
    exact ⟨t, o, a1, b1, b2, b3⟩
/-- the table of a body with handlers -/
theorem vx_table {p : Program} {x y : MethodName} {S : Spec} {cc bytes : ByteArray} {maxL maxL' : Nat} {ret ret' : Option FieldType} {e : Env} {s s₁ : State} {m : MethodId} {args : Array Value} {below : List Frame} {meth : Method} {c : Code} {hh : List (Nat × Nat × Nat × Nat)}
    (B : BodyLoose p l y S cc maxL ret e s m args below meth c s₁) (h : (Cond.codeWith y bytes maxL' ret' hh).before args s = true) : c.exceptionTable.toList = tableOf hh := by
  obtain ⟨m9, meth9, c9, hn9, h1, h2, -, -, h6, -⟩ := Cond.codeWith_spec h
  cases Option.some.inj (hn9.symm.trans B.named)
  cases Option.some.inj (h1.symm.trans B.method)
  cases Option.some.inj (h2.symm.trans (Stand.of_body B).code)
  rw [← h6, table_eq]
end Bodies
end VXA
/-! ===== END ===== -/
/-! ===== BEGIN a static call of a method with an exception table ===== -/
section VXS
variable {p : Program} {l : Launch} {e : Env} {R : Room} {s : State} {m : MethodId} {args : Array Value} {below : List Frame} {meth : Method} {c : Code} {T : State} {H : Heap} {locs : List Loc} {cells slots : Nat}
abbrev vx_CSW (R : Room) (s : State) (args : Array Value) (own : String) (index : Nat) (y : MethodName) (bytes : ByteArray) (maxL : Nat) (ret : Option FieldType) (hh : List (Nat × Nat × Nat × Nat)) (ws : List Cond) (rm : Room) (mc ms n : Nat) : Prop :=
  (rm.cells = mc ∧ rm.slots = ms ∧ rm.frames + 1 ≤ R.frames ∧ 8 + (maxL + 11) + rm.locals ≤ R.locals ∧ (∀ w ∈ ws, ∀ (a' : Array Value) (U : State), s.WarmedH U.vm → w.before a' U = true) ∧ Cond.codeWith y bytes maxL ret hh ∈ ws) ∧
  (Cond.codeWith y bytes maxL ret hh).before args s = true ∧ (Cond.initialized y.cls).before args s = true ∧ (y.cls ≠ "java/lang/invoke/MethodHandle" ∧ y.cls ≠ "java/lang/invoke/VarHandle") ∧
  (∀ sig, parseMethodDescriptor y.desc = some sig → n = sig.parameters.length) ∧ (Cond.methodLink own index y).before args s = true ∧ (Cond.static y).before args s = true
theorem vx_cwSW {own : String} {index maxL mc ms : Nat} {y : MethodName} {bytes : ByteArray} {ret : Option FieldType} {hh : List (Nat × Nat × Nat × Nat)} {Ts ws ws' : List Cond} {rm : Room} (n : Nat) (ht : ∀ w ∈ Ts, w.before args s = true) (hT : GoodIn Ts (va_wsS own index y ws)) (hw : ws = Cond.codeWith y bytes maxL ret hh :: ws') (hrc : rm.cells = mc) (hrs : rm.slots = ms)
    (hd : y.cls ≠ "java/lang/invoke/MethodHandle" ∧ y.cls ≠ "java/lang/invoke/VarHandle" ∧ (parseMethodDescriptor y.desc).map (fun d => d.parameters.length) = some n) (hR : rm.frames + 1 ≤ R.frames ∧ 8 + (maxL + 11) + rm.locals ≤ R.locals) :
    vx_CSW R s args own index y bytes maxL ret hh ws rm mc ms n := by
  have ok : ∀ w ∈ va_wsS own index y ws, w.before args s = true := fun w h => ht w (hT w h).1
  have hG : GoodIn Ts ws := fun w h => hT w (by unfold va_wsS; exact List.mem_append_right _ h)
  have hc : Cond.codeWith y bytes maxL ret hh ∈ ws := by rw [hw]; exact List.mem_cons_self
  refine ⟨⟨hrc, hrs, hR.1, hR.2, pay_in ht hG, hc⟩, ht _ (hG _ hc).1, ok _ (by simp [va_wsS]), ⟨hd.1, hd.2.1⟩, fun sig h => ?_, ok _ (by simp [va_wsS]), ok _ (by simp [va_wsS])⟩
  have h2 := hd.2.2
  rw [h] at h2
  exact (Option.some.inj h2).symm
theorem vx_callSW (X : Stand p l e R s m args below meth c T locs cells slots) (hexec : p.tables.exec = Jvm.exec) {own : String} {index : Nat} {y : MethodName} {bytes : ByteArray} {maxL : Nat} {ret : Option FieldType} {hh : List (Nat × Nat × Nat × Nat)}
    (hown : s.vm.findClass own = some m.cls) (hlink : (Cond.methodLink own index y).before args s = true) (hstat : (Cond.static y).before args s = true) (hinit : (Cond.initialized y.cls).before args s = true)
    (hcode : (Cond.codeWith y bytes maxL ret hh).before args s = true) (hy : y.cls ≠ "java/lang/invoke/MethodHandle" ∧ y.cls ≠ "java/lang/invoke/VarHandle")
    {W9 : Nat} {Pre : Pt → Array Value → Prop} {Post : Pt → Array Value → Option Value → Pt → Prop} (hK : Back l R p e below s args y 3 W9 Pre Post)
    {g : JFrame} (hg : g.method = m) (hsize : g.locals.size = c.maxLocals) {argsL rest : List Value} (hlen : ∀ sig, parseMethodDescriptor y.desc = some sig → argsL.length = sig.parameters.length)
    (hstack : g.stack = argsL.reverse ++ rest) (hW : 2 * g.monitorRoom + (rest.map fun v => v.category).sum ≤ W9) (hdg : decode c.code g.pc = .ok (.invokestatic index, 3))
    (hpre : ∀ vm₁, s.WarmedH vm₁ → Pre ⟨T.setVm vm₁, locs, cells, slots⟩ argsL.toArray) :
    ∃ (v : Option Value) (vm₁ : Vm) (B : Pt), s.WarmedH vm₁ ∧ Stand p l e R s m args below meth c B.U B.locs B.cells B.slots ∧ Post ⟨T.setVm vm₁, locs, cells, slots⟩ argsL.toArray v B ∧
      ∀ target, Steps p.tables e below (B.U.setTop { g with pc := g.pc + 3, stack := v.toList ++ rest }) target → Steps p.tables e below (T.setTop g) target := by
  obtain ⟨mk, methM, cM, hnamed, hmethM, -, -, -, -, -, -, hsigM⟩ := Cond.codeWith_spec hcode
  have hstatic : methM.isStatic = true := Cond.static_spec hnamed hmethM hstat
  obtain ⟨kP, hkP, -⟩ := className_of_methodNamed hnamed
  have hinitP : kP.init = .initialized := Cond.initialized_spec (findClass_of_methodNamed hnamed) hkP hinit
  obtain ⟨vm₁, X₁, hstep₁⟩ := X.invokestatic hexec hown hlink hnamed hmethM hstatic hkP hinitP hy (g := g) hg (argsL := argsL) (rest := rest) (hlen _ hsigM) hstack hdg
  obtain ⟨v, B, X', hpost, hsteps⟩ := hK m meth c ⟨T.setVm vm₁, locs, cells, slots⟩ { g with stack := rest } (.invokestatic index) mk argsL.toArray X₁ hg hsize hdg hW (X₁.named hnamed) (hpre vm₁ X₁.warmed)
  exact ⟨v, vm₁, B, X₁.warmed, X', hpost, fun target h => hstep₁ _ fun acts => by rw [doInvoke_state]; exact hsteps.trans h⟩
theorem vx_runSW {y : MethodName} {bytes cc : ByteArray} {maxL nL mc ms n index : Nat} {ret : Option FieldType} {hh : List (Nat × Nat × Nat × Nat)} {ws : List Cond} {rm : Room} {Pc : Array Value → State → Prop} {Qc : Array Value → State → Outcome → State → Prop} {free : Addr → Prop} {Ts : List Cond} {own : String} {As rest : List Value} {g : JFrame}
    (S : CallFix p m c cc nL s args Ts own) (hM : Met l y ws rm Pc Qc mc ms free) (cw : vx_CSW R s args own index y bytes maxL ret hh ws rm mc ms n) (hp : PreS s H Pc As)
    (hg : g.method = m) (hn : As.length = n) (hsize : g.locals.size = nL) (hstack : g.stack = As.reverse ++ rest) (hW : 2 * g.monitorRoom + (rest.map fun v => v.category).sum ≤ 8) (hdg : decode cc g.pc = .ok (.invokestatic index, 3)) (hf : cells + mc ≤ R.cells ∧ slots + ms ≤ R.slots) :
    va_Run p l e R s m args below meth c H locs cells slots mc ms g rest (Qc As.toArray) (free) := by
  obtain ⟨⟨hrc, hrs, hfr, hlo, hws, hcw⟩, hcode, hini, hy, hlen, hl, hstt⟩ := cw
  have hK : Back l R p e below s args y 3 8 (PreOf R mc ms Pc) (PostOf Qc mc ms free) := va_backW (hh := hh) (bytes := bytes) (maxL := maxL) (ret := ret) hM hp.1 hrc hrs hfr hlo hws hcw (fun a' U hW => word_at hW (Or.inl (by first | rfl | simp [Cond.onTables, Cond.keeps, Cond.steady])) hini)
  obtain ⟨hx, hb, hml, ho, -⟩ := S
  intro T hT X
  obtain ⟨v, vm₁, ⟨U', l2, c2, s2⟩, hW₁, X', ⟨g', mk, t, L, e1, e2, hq, h1, hL, h2, h3⟩, st⟩ := vx_callSW X hx (hh := hh) (bytes := bytes) (maxL := maxL) (ret := ret) ho hl hstt hini hcode hy hK hg (hsize.trans hml.symm) (argsL := As) (rest := rest) (fun sig h => hn.trans (hlen sig h)) hstack hW (by rw [hb]; exact hdg)
    (fun vm₁ hW₁ => ⟨hf.1, hf.2, hp.2 (T.setVm vm₁) hT hW₁⟩)
  dsimp only [Pt.U, Pt.locs, Pt.cells, Pt.slots] at X' e1 e2 h1 h2 h3 st
  subst h1; subst h2; subst h3
  exact ⟨v, (T.setVm vm₁).calling g' mk As.toArray, t, U', L, hT, X', hL, e1, e2, hq, st⟩
/-- not caught here, past rows that name other classes: it goes on to the caller -/
theorem vx_outP {p : Program} {l : Launch} {e : Env} {R : Room} {s : State} {m : MethodId} {args : Array Value} {below : List Frame} {meth : Method} {c : Code} {H : Heap} {locs : List Loc} {cells slots : Nat} {free : Addr → Prop} {ls : Array Slot} {rest : List Value} {Qc : Array Value → State → Outcome → State → Prop} {XC : String → State → State → Prop}
    {pc : Nat} {own E : String} {ce : Cell} {q : Addr} {mc ms : Nat} (hown : s.vm.findClass own = some m.cls) (hlocks : meth.locks = false)
    (hpass : ∀ z ∈ c.exceptionTable.toList, covers z pc = false ∨ (z.catchType ≠ 0 ∧ ∃ nm : String, (Cond.classLink own z.catchType nm).before args s = true ∧ va_Nc E nm s)) (hcell : H[q]? = some ce) (hv : ce.vm = .none) (hcl : s.vm.findClass E = some ce.cls)
    (hx : ∀ t : State, t.heap = H → s.vm.Alike t.vm → XC E s t) (hf : ∀ z ∈ locs, free z.base) (hc : cells ≤ mc) (hs : slots ≤ ms) :
    vx_W p l e R s m args below meth c H locs cells slots (vx_MQ below Qc XC args s mc ms free) (F0 m pc ls rest) q := by
  intro T hT X
  have hpl : e.platform.magicAccessors = ({} : Platform).magicAccessors := by rw [X.admits.platform]
  obtain ⟨vm', hW', X', st⟩ := X.outThrough hlocks q (g := F0 m pc ls rest) rfl rfl rfl (cell := ce) (by rw [hT]; exact hcell) (by rw [hv]; rfl)
    (by obtain ⟨k9, h9, -⟩ := Vm.findClass_spec hcl; exact ⟨k9, h9⟩) (fun z hz => by
      rcases hpass z hz with h | ⟨hz0, nm, hl1, hn1⟩
      · exact Or.inl h
      · obtain ⟨c6, hc6, hcl6⟩ := Cond.classLink_spec hown hl1 e.platform hpl
        obtain ⟨a8, b8, h1, h2, h3⟩ := hn1
        cases Option.some.inj (h1.symm.trans hcl)
        cases Option.some.inj (h2.symm.trans hc6)
        exact Or.inr ⟨hz0, _, hcl6, h3⟩)
  obtain ⟨g₀, hfr⟩ := X'.frames_eq
  have hcell9 : ((T.setVm vm').setFrames (.throwing q :: below)).heap[q]? = some ce := by
    show T.heap[q]? = some ce
    rw [hT]; exact hcell
  have hend : Ended ((T.setVm vm').setFrames (.throwing q :: below)) below (.threw q) := State.frames_setFrames _ (State.cur_lt_of_frames hfr)
  refine ⟨(T.setVm vm').setFrames (.throwing q :: below), ?_, .threw q, X'.here.running, hend, Or.inr ⟨q, rfl, E, ce, locs, hx _ hT (X'.ends _).1.alike, hcell9, hv, hcl, (X'.ends _).1, (X'.ends _).2.mono hc hs, hf⟩⟩
  rw [X.pushThrowing_eq]
  exact st
/-- a thing of a world lies in the heap -/
theorem vx_lt {D : va_G} {cl : List vw_C} {ws : va_W} {H1 : Heap} (h : va_P D cl ws H1) {k : Nat} {q : Nat × va_E} (hk : ws[k]? = some q) : q.1 < H1.size := (h k q hk).lt
end VXS
/-! ===== END ===== -/
/-! ===== BEGIN methods with a table of their own: called by a name, returning or throwing ===== -/
section VXH
/-! vx_backW, vx_callVX, vx_callSX, vx_callVW, vx_runVW, vx_runVX, vx_runSX, vx_ofWH follow the same proofs as their sisters above (Free/Laws.lean, Shelf42/LK1.lean); vx_outP calls Shelf42/NT130.lean (outThrough). -/
section
variable {l : Launch} {R : Room} {p : Program} {e : Env} {below : List Frame} {s : State} {sargs : Array Value} {y : MethodName} {len W9 : Nat}
theorem vx_backW {ws : List Cond} {rm : Room} {Pc : Array Value → State → Prop} {Qc : Array Value → State → Outcome → State → Prop} {XC : String → State → State → Prop} {mc ms : Nat} {free : Addr → Prop} {bytes : ByteArray} {maxL : Nat} {ret : Option FieldType} {hh : List (Nat × Nat × Nat × Nat)}
    (hM : vx_Met l y ws rm Pc Qc XC mc ms free) (hblind : FrameBlind Pc) (hrc : rm.cells = mc) (hrs : rm.slots = ms)
    (hframes : rm.frames + 1 ≤ R.frames) (hlocals : W9 + (maxL + 11) + rm.locals ≤ R.locals)
    (hws : ∀ w ∈ ws, ∀ a' U, s.WarmedH U.vm → w.before a' U = true) (hcode : Cond.codeWith y bytes maxL ret hh ∈ ws) (hinit : ∀ a' U, s.WarmedH U.vm → (Cond.initialized y.cls).before a' U = true) :
    vx_Back l R p e below s sargs y len W9 (PreOf R mc ms Pc) (PostOf Qc mc ms free) (vx_Post XC mc ms free) := by
  intro m meth c A g ig mk a X hg hsize hdg hW hn hp
  have h1 : (headSpec ws rm).pre.before a A.U = true := atoms_intro fun w hw => hws w hw _ _ X.warmed
  have h2 : (Cond.codeWith y bytes maxL ret hh).before a A.U = true := hws _ hcode _ _ X.warmed
  have h3 : (Cond.initialized y.cls).before a A.U = true := hinit _ _ X.warmed
  have h4 : A.cells + (headSpec ws rm).room.cells ≤ R.cells := by rw [show (headSpec ws rm).room.cells = mc from hrc]; exact hp.1
  have h5 : A.slots + (headSpec ws rm).room.slots ≤ R.slots := by rw [show (headSpec ws rm).room.slots = ms from hrs]; exact hp.2.1
  have hPc : Pc a (A.U.calling g mk a) := hblind _ _ _ _ hp.2.2
  obtain ⟨U, Ls, c0, s0⟩ := A
  dsimp only [Pt.U, Pt.locs, Pt.cells, Pt.slots] at h1 h2 h3 h4 h5 X hn hPc ⊢
  obtain ⟨m9, methY, cY, hn9, hmY, hcY, -, hlY, -⟩ := Cond.codeWith_spec h2
  cases Option.some.inj (hn9.symm.trans hn)
  obtain ⟨kY, hkY, -⟩ := className_of_methodNamed hn
  have hinitY : kY.init = .initialized := Cond.initialized_spec (findClass_of_methodNamed hn) hkY h3
  have h : At U g.method c below := by rw [hg]; exact X.here
  have hlocals9 : W9 + (maxL + 11) + (headSpec ws rm).room.locals ≤ R.locals := hlocals
  have happ : (headSpec ws rm).appliesLoose y e.platform (U.calling g mk a) = true :=
    Spec.appliesLoose_calling (g := g) h hdg hn hkY hinitY
      (X.room_calling (g := g) (R' := (headSpec ws rm).room) hsize hmY hcY hframes (by rw [hlY]; omega) h4 h5) h1
  obtain ⟨mid, hmid⟩ := h.above
  have hfr : (U.setTop g).frames = (.java g :: mid) ++ below := by rw [State.frames_setTop' g h.top, hmid]; rfl
  obtain ⟨o, s₂, hsteps, -, hend, hq⟩ := Steps.callFree hM p X.admits X.cas X.clock (acts := []) hfr happ hPc trivial
  have hq' : vx_Q Qc XC mc ms free a (U.calling g mk a) o s₂ := hq
  rw [State.frames_setTop' g h.top] at hend
  obtain ⟨g₀, hg0⟩ := Option.isSome_iff_exists.mp h.top
  obtain ⟨r, hr⟩ := State.topJava?_eq_some.mp hg0
  have hr' : (({ U with heap := s₂.heap, slotsUsed := s₂.slotsUsed } : State).setVm s₂.vm).frames = .java g₀ :: r := hr
  rcases hq' with ⟨hqc, L, hfe, hL⟩ | ⟨q, rfl, E, ce, L, hx, hce, hcv, hcl, hW₂, hsm, hL⟩
  · obtain ⟨⟨v, rfl⟩, hW₂, e2, q2, q3, q4, q5, q6⟩ := id hfe
    have e3 : s₂ = ({ (U.calling g mk a).setFrames s₂.frames with heap := s₂.heap, slotsUsed := s₂.slotsUsed } : State).setVm s₂.vm := by
      have : s₂ = ({ s₂ with vm := (U.calling g mk a).vm } : State).setVm s₂.vm := rfl
      rw [e2] at this
      exact this
    obtain ⟨c₂, i₂, len₂, hc₂, hd₂, hf₂⟩ := hend
    have hW' : U.WarmedH s₂.vm := hW₂
    have hcc : c₂ = c := by
      have h1 : s₂.code? g.method = U.code? g.method := by
        rw [State.code?_eq, State.code?_eq, hW'.alike.method?]
      exact Option.some.inj (hc₂.symm.trans (h1.trans h.code))
    subst hcc
    have hlen : len₂ = len := by rw [hdg] at hd₂; cases hd₂; rfl
    subst hlen
    have hs₂ : s₂ = (({ U with heap := s₂.heap, slotsUsed := s₂.slotsUsed } : State).setVm s₂.vm).setTop { g with pc := g.pc + len₂, stack := v.toList ++ g.stack } := by
      refine e3.trans ?_
      rw [hf₂, State.calling_eq h.top, State.setFrames_setFrames, State.setTop_of_frames _ hr', hr]
      rfl
    have hsame : U.sameButNew ({ U with heap := s₂.heap, slotsUsed := s₂.slotsUsed } : State) L mc ms := by
      refine ⟨?_, q2, q3, q4, q5, q6⟩
      obtain ⟨t, ht, -⟩ := State.frames_cons hr
      show ({ U with heap := s₂.heap, slotsUsed := s₂.slotsUsed } : State) = { U.setFrames U.frames with heap := s₂.heap, slotsUsed := s₂.slotsUsed }
      rw [State.setFrames_self ht]
    subst hg
    refine Or.inl ⟨v, ⟨(({ U with heap := s₂.heap, slotsUsed := s₂.slotsUsed } : State).setVm s₂.vm), Ls ++ L, c0 + mc, s0 + ms⟩,
      ⟨X.admits, X.cas, X.clock, X.frames, X.room, X.hears, X.method, X.code, (X.here.setHeapUsed s₂.heap s₂.slotsUsed).setVm hW'.alike, X.tail, State.WarmedH.trans X.warmed hW', X.limits, X.bytes, X.same.trans (hsame.setVm s.vm)⟩,
      ⟨g, mk, s₂, L, rfl, rfl, hqc, rfl, hL, rfl, rfl⟩, ?_⟩
    show Steps p.tables e below _ ((({ U with heap := s₂.heap, slotsUsed := s₂.slotsUsed } : State).setVm s₂.vm).setTop { g with pc := g.pc + len₂, stack := v.toList ++ g.stack })
    rw [← hs₂]
    exact hsteps
  · obtain ⟨e2, q2, q3, q4, q5, q6⟩ := id hsm
    have e3 : s₂ = ({ (U.calling g mk a).setFrames s₂.frames with heap := s₂.heap, slotsUsed := s₂.slotsUsed } : State).setVm s₂.vm := by
      have : s₂ = ({ s₂ with vm := (U.calling g mk a).vm } : State).setVm s₂.vm := rfl
      rw [e2] at this
      exact this
    have hf₂ : s₂.frames = .throwing q :: .java g :: U.frames.tail := hend
    have hW' : U.WarmedH s₂.vm := hW₂
    have hs₂ : s₂ = ((({ U with heap := s₂.heap, slotsUsed := s₂.slotsUsed } : State).setVm s₂.vm).setTop g).pushFrame (.throwing q) := by
      refine e3.trans ?_
      rw [hf₂, State.calling_eq h.top, State.setFrames_setFrames, State.pushFrame, State.frames_setTop _ hr', State.setTop_of_frames _ hr', State.setFrames_setFrames, hr]
      rfl
    have hsame : U.sameButNew ({ U with heap := s₂.heap, slotsUsed := s₂.slotsUsed } : State) L mc ms := by
      refine ⟨?_, q2, q3, q4, q5, q6⟩
      obtain ⟨t, ht, -⟩ := State.frames_cons hr
      show ({ U with heap := s₂.heap, slotsUsed := s₂.slotsUsed } : State) = { U.setFrames U.frames with heap := s₂.heap, slotsUsed := s₂.slotsUsed }
      rw [State.setFrames_self ht]
    subst hg
    refine Or.inr ⟨q, ⟨(({ U with heap := s₂.heap, slotsUsed := s₂.slotsUsed } : State).setVm s₂.vm), Ls ++ L, c0 + mc, s0 + ms⟩,
      ⟨X.admits, X.cas, X.clock, X.frames, X.room, X.hears, X.method, X.code, (X.here.setHeapUsed s₂.heap s₂.slotsUsed).setVm hW'.alike, X.tail, State.WarmedH.trans X.warmed hW', X.limits, X.bytes, X.same.trans (hsame.setVm s.vm)⟩,
      ⟨g, mk, s₂, L, E, ce, rfl, rfl, hx, hce, hcv, hcl, rfl, hL, rfl, rfl⟩, ?_⟩
    show Steps p.tables e below _ (((({ U with heap := s₂.heap, slotsUsed := s₂.slotsUsed } : State).setVm s₂.vm).setTop g).pushFrame (.throwing q))
    rw [← hs₂]
    exact hsteps
end
variable {p : Program} {l : Launch} {e : Env} {R : Room} {s : State} {m : MethodId} {args : Array Value} {below : List Frame} {meth : Method} {c : Code} {T : State} {H : Heap} {locs : List Loc} {cells slots : Nat}
theorem vx_callVX (X : Stand p l e R s m args below meth c T locs cells slots) (hexec : p.tables.exec = Jvm.exec) {own C : String} {index : Nat} {y : MethodName} {bytes : ByteArray} {maxL : Nat} {ret : Option FieldType} {hh : List (Nat × Nat × Nat × Nat)}
    (hown : s.vm.findClass own = some m.cls) (hlink : (Cond.methodLink own index y).before args s = true) (hinst : (Cond.instanceMethod y).before args s = true) (hsel : (Cond.selects C y y).before args s = true)
    (hcode : (Cond.codeWith y bytes maxL ret hh).before args s = true) (hy : y.cls ≠ "java/lang/invoke/MethodHandle" ∧ y.cls ≠ "java/lang/invoke/VarHandle")
    {W9 : Nat} {Pre : Pt → Array Value → Prop} {Post : Pt → Array Value → Option Value → Pt → Prop} {PostX : Pt → Array Value → Addr → Pt → Prop} (hK : vx_Back l R p e below s args y 3 W9 Pre Post PostX)
    {b : Addr} {cellB : Cell} (hcell : T.heap[b]? = some cellB) (hobj : cellB.vm.isStatics = false) (hcls : s.vm.findClass C = some cellB.cls)
    {g : JFrame} (hg : g.method = m) (hsize : g.locals.size = c.maxLocals) {argsL rest : List Value} (hlen : ∀ sig, parseMethodDescriptor y.desc = some sig → argsL.length = sig.parameters.length)
    (hstack : g.stack = argsL.reverse ++ .ref b :: rest) (hW : 2 * g.monitorRoom + (rest.map fun v => v.category).sum ≤ W9) (hdg : decode c.code g.pc = .ok (.invokevirtual index, 3))
    (hpre : ∀ vm₁, s.WarmedH vm₁ → Pre ⟨T.setVm vm₁, locs, cells, slots⟩ (Value.ref b :: argsL).toArray) :
    (∃ (v : Option Value) (vm₁ : Vm) (B : Pt), s.WarmedH vm₁ ∧ Stand p l e R s m args below meth c B.U B.locs B.cells B.slots ∧ Post ⟨T.setVm vm₁, locs, cells, slots⟩ (Value.ref b :: argsL).toArray v B ∧
      ∀ target, Steps p.tables e below (B.U.setTop { g with pc := g.pc + 3, stack := v.toList ++ rest }) target → Steps p.tables e below (T.setTop g) target) ∨
    (∃ (q : Addr) (vm₁ : Vm) (B : Pt), s.WarmedH vm₁ ∧ Stand p l e R s m args below meth c B.U B.locs B.cells B.slots ∧ PostX ⟨T.setVm vm₁, locs, cells, slots⟩ (Value.ref b :: argsL).toArray q B ∧
      Steps p.tables e below (T.setTop g) ((B.U.setTop { g with stack := rest }).pushFrame (.throwing q))) := by
  obtain ⟨mk, methM, hnamed, hmethM, hstM, habM⟩ := Cond.instanceMethod_spec hinst
  obtain ⟨m8, methM', cM, hn8, hmethM', -, -, -, -, -, -, hsigM⟩ := Cond.codeWith_spec hcode
  cases Option.some.inj (hn8.symm.trans hnamed)
  cases hmethM.symm.trans hmethM'
  obtain ⟨c2, r2, m2, q1, q2, q3, q4, kP, hkP, hkPi⟩ := Cond.selects_spec hsel
  cases hcls.symm.trans q1
  cases (State.methodFound?_of_named hnamed hy).symm.trans q2
  cases hnamed.symm.trans q3
  have hselP : selectMethod e.platform s.vm cellB.cls mk = .method mk := by rw [Launch.admits_selectMethod X.admits]; exact q4
  obtain ⟨vm₁, X₁, hstep₁⟩ := X.invokevirtual hexec hown hlink hnamed hmethM hstM hkP hkPi hy (a := b) (cell := cellB) hcell
    (fun z h => by rw [h] at hobj; cases hobj) hselP hmethM habM hkP hkPi (g := g) hg (argsL := argsL) (rest := rest) (hlen _ hsigM) hstack hdg
  rcases hK m meth c ⟨T.setVm vm₁, locs, cells, slots⟩ { g with stack := rest } (.invokevirtual index) mk (Value.ref b :: argsL).toArray X₁ hg hsize hdg hW (X₁.named hnamed) (hpre vm₁ X₁.warmed) with ⟨v, B, X', hpost, hsteps⟩ | ⟨q, B, X', hpost, hsteps⟩
  · exact Or.inl ⟨v, vm₁, B, X₁.warmed, X', hpost, fun target h => hstep₁ _ fun acts => by rw [doInvoke_state]; exact hsteps.trans h⟩
  · exact Or.inr ⟨q, vm₁, B, X₁.warmed, X', hpost, hstep₁ _ fun acts => by rw [doInvoke_state]; exact hsteps⟩
theorem vx_callSX (X : Stand p l e R s m args below meth c T locs cells slots) (hexec : p.tables.exec = Jvm.exec) {own : String} {index : Nat} {y : MethodName} {bytes : ByteArray} {maxL : Nat} {ret : Option FieldType} {hh : List (Nat × Nat × Nat × Nat)}
    (hown : s.vm.findClass own = some m.cls) (hlink : (Cond.methodLink own index y).before args s = true) (hstat : (Cond.static y).before args s = true) (hinit : (Cond.initialized y.cls).before args s = true)
    (hcode : (Cond.codeWith y bytes maxL ret hh).before args s = true) (hy : y.cls ≠ "java/lang/invoke/MethodHandle" ∧ y.cls ≠ "java/lang/invoke/VarHandle")
    {W9 : Nat} {Pre : Pt → Array Value → Prop} {Post : Pt → Array Value → Option Value → Pt → Prop} {PostX : Pt → Array Value → Addr → Pt → Prop} (hK : vx_Back l R p e below s args y 3 W9 Pre Post PostX)
    {g : JFrame} (hg : g.method = m) (hsize : g.locals.size = c.maxLocals) {argsL rest : List Value} (hlen : ∀ sig, parseMethodDescriptor y.desc = some sig → argsL.length = sig.parameters.length)
    (hstack : g.stack = argsL.reverse ++ rest) (hW : 2 * g.monitorRoom + (rest.map fun v => v.category).sum ≤ W9) (hdg : decode c.code g.pc = .ok (.invokestatic index, 3))
    (hpre : ∀ vm₁, s.WarmedH vm₁ → Pre ⟨T.setVm vm₁, locs, cells, slots⟩ argsL.toArray) :
    (∃ (v : Option Value) (vm₁ : Vm) (B : Pt), s.WarmedH vm₁ ∧ Stand p l e R s m args below meth c B.U B.locs B.cells B.slots ∧ Post ⟨T.setVm vm₁, locs, cells, slots⟩ argsL.toArray v B ∧
      ∀ target, Steps p.tables e below (B.U.setTop { g with pc := g.pc + 3, stack := v.toList ++ rest }) target → Steps p.tables e below (T.setTop g) target) ∨
    (∃ (q : Addr) (vm₁ : Vm) (B : Pt), s.WarmedH vm₁ ∧ Stand p l e R s m args below meth c B.U B.locs B.cells B.slots ∧ PostX ⟨T.setVm vm₁, locs, cells, slots⟩ argsL.toArray q B ∧
      Steps p.tables e below (T.setTop g) ((B.U.setTop { g with stack := rest }).pushFrame (.throwing q))) := by
  obtain ⟨mk, methM, cM, hnamed, hmethM, -, -, -, -, -, -, hsigM⟩ := Cond.codeWith_spec hcode
  have hstatic : methM.isStatic = true := Cond.static_spec hnamed hmethM hstat
  obtain ⟨kP, hkP, -⟩ := className_of_methodNamed hnamed
  have hinitP : kP.init = .initialized := Cond.initialized_spec (findClass_of_methodNamed hnamed) hkP hinit
  obtain ⟨vm₁, X₁, hstep₁⟩ := X.invokestatic hexec hown hlink hnamed hmethM hstatic hkP hinitP hy (g := g) hg (argsL := argsL) (rest := rest) (hlen _ hsigM) hstack hdg
  rcases hK m meth c ⟨T.setVm vm₁, locs, cells, slots⟩ { g with stack := rest } (.invokestatic index) mk argsL.toArray X₁ hg hsize hdg hW (X₁.named hnamed) (hpre vm₁ X₁.warmed) with ⟨v, B, X', hpost, hsteps⟩ | ⟨q, B, X', hpost, hsteps⟩
  · exact Or.inl ⟨v, vm₁, B, X₁.warmed, X', hpost, fun target h => hstep₁ _ fun acts => by rw [doInvoke_state]; exact hsteps.trans h⟩
  · exact Or.inr ⟨q, vm₁, B, X₁.warmed, X', hpost, hstep₁ _ fun acts => by rw [doInvoke_state]; exact hsteps⟩
theorem vx_callVW (X : Stand p l e R s m args below meth c T locs cells slots) (hexec : p.tables.exec = Jvm.exec) {own C : String} {index : Nat} {y : MethodName} {bytes : ByteArray} {maxL : Nat} {ret : Option FieldType} {hh : List (Nat × Nat × Nat × Nat)}
    (hown : s.vm.findClass own = some m.cls) (hlink : (Cond.methodLink own index y).before args s = true) (hinst : (Cond.instanceMethod y).before args s = true) (hsel : (Cond.selects C y y).before args s = true)
    (hcode : (Cond.codeWith y bytes maxL ret hh).before args s = true) (hy : y.cls ≠ "java/lang/invoke/MethodHandle" ∧ y.cls ≠ "java/lang/invoke/VarHandle")
    {W9 : Nat} {Pre : Pt → Array Value → Prop} {Post : Pt → Array Value → Option Value → Pt → Prop} (hK : Back l R p e below s args y 3 W9 Pre Post)
    {b : Addr} {cellB : Cell} (hcell : T.heap[b]? = some cellB) (hobj : cellB.vm.isStatics = false) (hcls : s.vm.findClass C = some cellB.cls)
    {g : JFrame} (hg : g.method = m) (hsize : g.locals.size = c.maxLocals) {argsL rest : List Value} (hlen : ∀ sig, parseMethodDescriptor y.desc = some sig → argsL.length = sig.parameters.length)
    (hstack : g.stack = argsL.reverse ++ .ref b :: rest) (hW : 2 * g.monitorRoom + (rest.map fun v => v.category).sum ≤ W9) (hdg : decode c.code g.pc = .ok (.invokevirtual index, 3))
    (hpre : ∀ vm₁, s.WarmedH vm₁ → Pre ⟨T.setVm vm₁, locs, cells, slots⟩ (Value.ref b :: argsL).toArray) :
    ∃ (v : Option Value) (vm₁ : Vm) (B : Pt), s.WarmedH vm₁ ∧ Stand p l e R s m args below meth c B.U B.locs B.cells B.slots ∧ Post ⟨T.setVm vm₁, locs, cells, slots⟩ (Value.ref b :: argsL).toArray v B ∧
      ∀ target, Steps p.tables e below (B.U.setTop { g with pc := g.pc + 3, stack := v.toList ++ rest }) target → Steps p.tables e below (T.setTop g) target := by
  obtain ⟨mk, methM, hnamed, hmethM, hstM, habM⟩ := Cond.instanceMethod_spec hinst
  obtain ⟨m8, methM', cM, hn8, hmethM', -, -, -, -, -, -, hsigM⟩ := Cond.codeWith_spec hcode
  cases Option.some.inj (hn8.symm.trans hnamed)
  cases hmethM.symm.trans hmethM'
  obtain ⟨c2, r2, m2, q1, q2, q3, q4, kP, hkP, hkPi⟩ := Cond.selects_spec hsel
  cases hcls.symm.trans q1
  cases (State.methodFound?_of_named hnamed hy).symm.trans q2
  cases hnamed.symm.trans q3
  have hselP : selectMethod e.platform s.vm cellB.cls mk = .method mk := by rw [Launch.admits_selectMethod X.admits]; exact q4
  obtain ⟨vm₁, X₁, hstep₁⟩ := X.invokevirtual hexec hown hlink hnamed hmethM hstM hkP hkPi hy (a := b) (cell := cellB) hcell
    (fun z h => by rw [h] at hobj; cases hobj) hselP hmethM habM hkP hkPi (g := g) hg (argsL := argsL) (rest := rest) (hlen _ hsigM) hstack hdg
  obtain ⟨v, B, X', hpost, hsteps⟩ := hK m meth c ⟨T.setVm vm₁, locs, cells, slots⟩ { g with stack := rest } (.invokevirtual index) mk (Value.ref b :: argsL).toArray X₁ hg hsize hdg hW (X₁.named hnamed) (hpre vm₁ X₁.warmed)
  exact ⟨v, vm₁, B, X₁.warmed, X', hpost, fun target h => hstep₁ _ fun acts => by rw [doInvoke_state]; exact hsteps.trans h⟩
abbrev vx_CVW (R : Room) (s : State) (args : Array Value) (own C : String) (index : Nat) (y : MethodName) (bytes : ByteArray) (maxL : Nat) (ret : Option FieldType) (hh : List (Nat × Nat × Nat × Nat)) (ws : List Cond) (rm : Room) (mc ms n : Nat) : Prop :=
  (rm.cells = mc ∧ rm.slots = ms ∧ rm.frames + 1 ≤ R.frames ∧ 8 + (maxL + 11) + rm.locals ≤ R.locals ∧ (∀ w ∈ ws, ∀ (a' : Array Value) (U : State), s.WarmedH U.vm → w.before a' U = true) ∧ Cond.codeWith y bytes maxL ret hh ∈ ws) ∧
  (Cond.codeWith y bytes maxL ret hh).before args s = true ∧ (Cond.initialized y.cls).before args s = true ∧ (y.cls ≠ "java/lang/invoke/MethodHandle" ∧ y.cls ≠ "java/lang/invoke/VarHandle") ∧
  (∀ sig, parseMethodDescriptor y.desc = some sig → n = sig.parameters.length) ∧ (Cond.methodLink own index y).before args s = true ∧ (Cond.instanceMethod y).before args s = true ∧ (Cond.selects C y y).before args s = true
theorem vx_cwVW {own C : String} {index maxL mc ms : Nat} {y : MethodName} {bytes : ByteArray} {ret : Option FieldType} {hh : List (Nat × Nat × Nat × Nat)} {Ts ws ws' : List Cond} {rm : Room} (n : Nat) (ht : ∀ w ∈ Ts, w.before args s = true) (hT : GoodIn Ts (wsV own index C y ws)) (hw : ws = Cond.codeWith y bytes maxL ret hh :: ws') (hrc : rm.cells = mc) (hrs : rm.slots = ms)
    (hd : y.cls = C ∧ y.cls ≠ "java/lang/invoke/MethodHandle" ∧ y.cls ≠ "java/lang/invoke/VarHandle" ∧ (parseMethodDescriptor y.desc).map (fun d => d.parameters.length) = some n) (hR : rm.frames + 1 ≤ R.frames ∧ 8 + (maxL + 11) + rm.locals ≤ R.locals) :
    vx_CVW R s args own C index y bytes maxL ret hh ws rm mc ms n := by
  obtain ⟨hC, hd⟩ := hd
  subst hC
  have ok : ∀ w ∈ wsV own index y.cls y ws, w.before args s = true := fun w h => ht w (hT w h).1
  have hG : GoodIn Ts ws := fun w h => hT w (by unfold wsV; exact List.mem_append_right _ h)
  have hc : Cond.codeWith y bytes maxL ret hh ∈ ws := by rw [hw]; exact List.mem_cons_self
  refine ⟨⟨hrc, hrs, hR.1, hR.2, pay_in ht hG, hc⟩, ht _ (hG _ hc).1, ok _ (by simp [wsV]), ⟨hd.1, hd.2.1⟩, fun sig h => ?_, ok _ (by simp [wsV]), ok _ (by simp [wsV]), ok _ (by simp [wsV])⟩
  have h2 := hd.2.2
  rw [h] at h2
  exact (Option.some.inj h2).symm
theorem vx_runVW {y : MethodName} {bytes cc : ByteArray} {maxL nL mc ms n index : Nat} {ret : Option FieldType} {hh : List (Nat × Nat × Nat × Nat)} {ws : List Cond} {rm : Room} {Pc : Array Value → State → Prop} {Qc : Array Value → State → Outcome → State → Prop} {free : Addr → Prop} {Ts : List Cond} {own C : String} {b : Addr} {As rest : List Value} {g : JFrame}
    (S : CallFix p m c cc nL s args Ts own) (hM : Met l y ws rm Pc Qc mc ms free) (cw : vx_CVW R s args own C index y bytes maxL ret hh ws rm mc ms n) (hp : PreV s H C b Pc As)
    (hg : g.method = m) (hn : As.length = n) (hsize : g.locals.size = nL) (hstack : g.stack = As.reverse ++ .ref b :: rest) (hW : 2 * g.monitorRoom + (rest.map fun v => v.category).sum ≤ 8) (hdg : decode cc g.pc = .ok (.invokevirtual index, 3)) (hf : cells + mc ≤ R.cells ∧ slots + ms ≤ R.slots) :
    va_Run p l e R s m args below meth c H locs cells slots mc ms g rest (Qc (Value.ref b :: As).toArray) free := by
  obtain ⟨⟨hrc, hrs, hfr, hlo, hws, hcw⟩, hcode, hini, hy, hlen, hl, hin, hse⟩ := cw
  have hK : Back l R p e below s args y 3 8 (PreOf R mc ms Pc) (PostOf Qc mc ms free) := va_backW (hh := hh) (bytes := bytes) (maxL := maxL) (ret := ret) hM hp.1 hrc hrs hfr hlo hws hcw (fun a' U hW => word_at hW (Or.inl (by first | rfl | simp [Cond.onTables, Cond.keeps, Cond.steady])) hini)
  obtain ⟨hx, hb, hml, ho, -⟩ := S
  obtain ⟨-, ⟨cellB, hcB, hoB, hclB⟩, hPc⟩ := hp
  intro T hT X
  obtain ⟨v, vm₁, ⟨U', l2, c2, s2⟩, hW₁, X', ⟨g', mk, t, L, e1, e2, hq, h1, hL, h2, h3⟩, st⟩ := vx_callVW X hx (C := C) (hh := hh) (bytes := bytes) (maxL := maxL) (ret := ret) ho hl hin hse hcode hy hK (by rw [hT]; exact hcB) hoB hclB hg (hsize.trans hml.symm) (argsL := As) (rest := rest) (fun sig h => hn.trans (hlen sig h)) hstack hW (by rw [hb]; exact hdg)
    (fun vm₁ hW₁ => ⟨hf.1, hf.2, hPc (T.setVm vm₁) hT hW₁⟩)
  dsimp only [Pt.U, Pt.locs, Pt.cells, Pt.slots] at X' e1 e2 h1 h2 h3 st
  subst h1; subst h2; subst h3
  exact ⟨v, (T.setVm vm₁).calling g' mk (Value.ref b :: As).toArray, t, U', L, hT, X', hL, e1, e2, hq, st⟩
section
variable {y : MethodName} {bytes cc : ByteArray} {maxL nL mc ms n index : Nat} {ret : Option FieldType} {ws : List Cond} {rm : Room} {Pc : Array Value → State → Prop} {Qc : Array Value → State → Outcome → State → Prop} {XC : String → State → State → Prop} {free : Addr → Prop} {Ts : List Cond} {own C : String} {b : Addr} {As rest : List Value} {g : JFrame}
theorem vx_runVX {hh : List (Nat × Nat × Nat × Nat)} (S : CallFix p m c cc nL s args Ts own) (hM : vx_Met l y ws rm Pc Qc XC mc ms free) (cw : vx_CVW R s args own C index y bytes maxL ret hh ws rm mc ms n) (hp : PreV s H C b Pc As)
    (hg : g.method = m) (hn : As.length = n) (hsize : g.locals.size = nL) (hstack : g.stack = As.reverse ++ .ref b :: rest) (hW : 2 * g.monitorRoom + (rest.map fun v => v.category).sum ≤ 8) (hdg : decode cc g.pc = .ok (.invokevirtual index, 3)) (hf : cells + mc ≤ R.cells ∧ slots + ms ≤ R.slots) :
    vx_Run p l e R s m args below meth c H locs cells slots mc ms g rest (Qc (Value.ref b :: As).toArray) XC free := by
  obtain ⟨⟨hrc, hrs, hfr, hlo, hws, hcw⟩, hcode, hini, hy, hlen, hl, hin, hse⟩ := cw
  have hK : vx_Back l R p e below s args y 3 8 (PreOf R mc ms Pc) (PostOf Qc mc ms free) (vx_Post XC mc ms free) := vx_backW (hh := hh) (bytes := bytes) (maxL := maxL) (ret := ret) hM hp.1 hrc hrs hfr hlo hws hcw (fun a' U hW => word_at hW (Or.inl (by first | rfl | simp [Cond.onTables, Cond.keeps, Cond.steady])) hini)
  obtain ⟨hx, hb, hml, ho, -⟩ := S
  obtain ⟨-, ⟨cellB, hcB, hoB, hclB⟩, hPc⟩ := hp
  intro T hT X
  rcases vx_callVX X hx (C := C) (hh := hh) (bytes := bytes) (maxL := maxL) (ret := ret) ho hl hin hse hcode hy hK (by rw [hT]; exact hcB) hoB hclB hg (hsize.trans hml.symm) (argsL := As) (rest := rest) (fun sig h => hn.trans (hlen sig h)) hstack hW (by rw [hb]; exact hdg)
    (fun vm₁ hW₁ => ⟨hf.1, hf.2, hPc (T.setVm vm₁) hT hW₁⟩) with ⟨v, vm₁, ⟨U', l2, c2, s2⟩, hW₁, X', ⟨g', mk, t, L, e1, e2, hq, h1, hL, h2, h3⟩, st⟩ | ⟨q, vm₁, ⟨U', l2, c2, s2⟩, hW₁, X', ⟨g', mk, t, L, E, ce, e1, e2, hq, hce, hcv, hcl, h1, hL, h2, h3⟩, st⟩
  · dsimp only [Pt.U, Pt.locs, Pt.cells, Pt.slots] at X' e1 e2 h1 h2 h3 st
    subst h1; subst h2; subst h3
    exact Or.inl ⟨v, (T.setVm vm₁).calling g' mk (Value.ref b :: As).toArray, t, U', L, hT, X', hL, e1, e2, hq, st⟩
  · dsimp only [Pt.U, Pt.locs, Pt.cells, Pt.slots] at X' e1 e2 h1 h2 h3 st hcl
    subst h1; subst h2; subst h3
    exact Or.inr ⟨q, (T.setVm vm₁).calling g' mk (Value.ref b :: As).toArray, t, U', L, E, ce, hT, X', hL, e1, e2, hq, hce, hcv, vx_cls hW₁ hcl, st⟩
theorem vx_runSX {hh : List (Nat × Nat × Nat × Nat)} (S : CallFix p m c cc nL s args Ts own) (hM : vx_Met l y ws rm Pc Qc XC mc ms free) (cw : vx_CSW R s args own index y bytes maxL ret hh ws rm mc ms n) (hp : PreS s H Pc As)
    (hg : g.method = m) (hn : As.length = n) (hsize : g.locals.size = nL) (hstack : g.stack = As.reverse ++ rest) (hW : 2 * g.monitorRoom + (rest.map fun v => v.category).sum ≤ 8) (hdg : decode cc g.pc = .ok (.invokestatic index, 3)) (hf : cells + mc ≤ R.cells ∧ slots + ms ≤ R.slots) :
    vx_Run p l e R s m args below meth c H locs cells slots mc ms g rest (Qc As.toArray) XC free := by
  obtain ⟨⟨hrc, hrs, hfr, hlo, hws, hcw⟩, hcode, hini, hy, hlen, hl, hstt⟩ := cw
  have hK : vx_Back l R p e below s args y 3 8 (PreOf R mc ms Pc) (PostOf Qc mc ms free) (vx_Post XC mc ms free) := vx_backW (hh := hh) (bytes := bytes) (maxL := maxL) (ret := ret) hM hp.1 hrc hrs hfr hlo hws hcw (fun a' U hW => word_at hW (Or.inl (by first | rfl | simp [Cond.onTables, Cond.keeps, Cond.steady])) hini)
  obtain ⟨hx, hb, hml, ho, -⟩ := S
  intro T hT X
  rcases vx_callSX X hx (hh := hh) (bytes := bytes) (maxL := maxL) (ret := ret) ho hl hstt hini hcode hy hK hg (hsize.trans hml.symm) (argsL := As) (rest := rest) (fun sig h => hn.trans (hlen sig h)) hstack hW (by rw [hb]; exact hdg)
    (fun vm₁ hW₁ => ⟨hf.1, hf.2, hp.2 (T.setVm vm₁) hT hW₁⟩) with ⟨v, vm₁, ⟨U', l2, c2, s2⟩, hW₁, X', ⟨g', mk, t, L, e1, e2, hq, h1, hL, h2, h3⟩, st⟩ | ⟨q, vm₁, ⟨U', l2, c2, s2⟩, hW₁, X', ⟨g', mk, t, L, E, ce, e1, e2, hq, hce, hcv, hcl, h1, hL, h2, h3⟩, st⟩
  · dsimp only [Pt.U, Pt.locs, Pt.cells, Pt.slots] at X' e1 e2 h1 h2 h3 st
    subst h1; subst h2; subst h3
    exact Or.inl ⟨v, (T.setVm vm₁).calling g' mk As.toArray, t, U', L, hT, X', hL, e1, e2, hq, st⟩
  · dsimp only [Pt.U, Pt.locs, Pt.cells, Pt.slots] at X' e1 e2 h1 h2 h3 st hcl
    subst h1; subst h2; subst h3
    exact Or.inr ⟨q, (T.setVm vm₁).calling g' mk As.toArray, t, U', L, E, ce, hT, X', hL, e1, e2, hq, hce, hcv, vx_cls hW₁ hcl, st⟩
end
end VXH
theorem vx_ofWH {l : Launch} {y : MethodName} {ws ws' : List Cond} {rm : Room} {Pc : Array Value → State → Prop} {Qc : Array Value → State → Outcome → State → Prop} {XC : String → State → State → Prop} {mc ms : Nat} {free : Addr → Prop} {cc : ByteArray} {maxL : Nat} {ret : Option FieldType} {hh : List (Nat × Nat × Nat × Nat)}
    (hy : plainName y.cls = true) (hw : ws = Cond.codeWith y cc maxL ret hh :: ws')
    (body : ∀ p e s m args below meth c s₁, BodyLoose p l y (headSpec ws rm) cc maxL ret e s m args below meth c s₁ → c.maxLocals = maxL → Pc args s →
      W p l e (headSpec ws rm).room s m args below meth c s.heap [] 0 0 (vx_MQ below Qc XC args s mc ms free) (entryFrame m args maxL)) : vx_Met l y ws rm Pc Qc XC mc ms free := by
  refine MetFree.of_bodyS (code := cc) (maxLocals := maxL) (ret := ret) hy ?_ ?_
  · intro args s m h hn
    obtain ⟨m9, meth, c, hn9, h1, h2, h3, h4, -, h5, h6, -⟩ := Cond.codeWith_spec (atoms_spec (ws := ws) h _ (by rw [hw]; exact List.mem_cons_self))
    cases hn.symm.trans hn9
    exact ⟨meth, c, h1, h2, h3, h4, h5, h6⟩
  · intro p e s m args below meth c s₁ B hml hP _
    have hh0 : s₁.heap = s.heap := by rw [B.state]; rfl
    obtain ⟨t, a1, o, b1, b2, b3⟩ := body p e s m args below meth c s₁ B hml hP s₁ hh0 (Stand.of_body B)
    exact ⟨t, o, a1, b1, b2, b3⟩
/-! ===== END ===== -/
end
section
def RX0 : String := "Lendlathe$Bar"
def TX0 : u_T := fun k => match k with
  | 0 => ("Lendlathe$Bar", "material", "I", true)
  | 1 => ("Lendlathe$Bar", "length", "I", true)
  | _ => ("Lendlathe$Bar", "free", "I", false)
def tyX0 : Nat → FieldType := fun k => match k with
  | 0 => .int
  | 1 => .int
  | _ => .int
theorem nmX0 : ∀ a, a < 3 → ∀ b, b < 3 → a ≠ b → (TX0 a).2.1 ≠ (TX0 b).2.1 := by decide +kernel
theorem tyX0_ok : ∀ k, k < 3 → parseFieldDescriptor (TX0 k).2.2.1 = some (tyX0 k) := by decide +kernel
def RX1 : String := "Lendlathe$Breakage"
def TX1 : u_T := fun k => match k with
  | _ => ("Lendlathe$Breakage", "shares", "[I", true)
def tyX1 : Nat → FieldType := fun k => match k with
  | _ => .array .int
theorem nmX1 : ∀ a, a < 1 → ∀ b, b < 1 → a ≠ b → (TX1 a).2.1 ≠ (TX1 b).2.1 := by decide +kernel
theorem tyX1_ok : ∀ k, k < 1 → parseFieldDescriptor (TX1 k).2.2.1 = some (tyX1 k) := by decide +kernel
def RX2 : String := "Lendlathe$Cut"
def TX2 : u_T := fun k => match k with
  | 0 => ("Lendlathe$Cut", "bar", "LLendlathe$Bar;", true)
  | _ => ("Lendlathe$Cut", "length", "I", true)
def tyX2 : Nat → FieldType := fun k => match k with
  | 0 => .object "Lendlathe$Bar"
  | _ => .int
theorem nmX2 : ∀ a, a < 2 → ∀ b, b < 2 → a ≠ b → (TX2 a).2.1 ≠ (TX2 b).2.1 := by decide +kernel
theorem tyX2_ok : ∀ k, k < 2 → parseFieldDescriptor (TX2 k).2.2.1 = some (tyX2 k) := by decide +kernel
def RX3 : String := "Lendlathe$Entry"
def TX3 : u_T := fun k => match k with
  | 0 => ("Lendlathe$Entry", "member", "LLendlathe$Member;", true)
  | 1 => ("Lendlathe$Entry", "machine", "LLendlathe$Machine;", true)
  | 2 => ("Lendlathe$Entry", "day", "I", true)
  | 3 => ("Lendlathe$Entry", "start", "I", true)
  | 4 => ("Lendlathe$Entry", "minutes", "I", true)
  | 5 => ("Lendlathe$Entry", "end", "I", true)
  | 6 => ("Lendlathe$Entry", "work", "C", true)
  | 7 => ("Lendlathe$Entry", "cuts", "Ljava/util/ArrayList;", true)
  | 8 => ("Lendlathe$Entry", "state", "C", false)
  | _ => ("Lendlathe$Entry", "due", "I", false)
def tyX3 : Nat → FieldType := fun k => match k with
  | 0 => .object "Lendlathe$Member"
  | 1 => .object "Lendlathe$Machine"
  | 2 => .int
  | 3 => .int
  | 4 => .int
  | 5 => .int
  | 6 => .char
  | 7 => .object "java/util/ArrayList"
  | 8 => .char
  | _ => .int
theorem nmX3 : ∀ a, a < 10 → ∀ b, b < 10 → a ≠ b → (TX3 a).2.1 ≠ (TX3 b).2.1 := by decide +kernel
theorem tyX3_ok : ∀ k, k < 10 → parseFieldDescriptor (TX3 k).2.2.1 = some (tyX3 k) := by decide +kernel
def RX4 : String := "Lendlathe$Kind"
def TX4 : u_T := fun k => match k with
  | 0 => ("Lendlathe$Kind", "bit", "I", true)
  | 1 => ("Lendlathe$Kind", "number", "I", true)
  | 2 => ("Lendlathe$Kind", "neededBits", "I", false)
  | _ => ("Lendlathe$Kind", "tariff", "LLendlathe$Layer;", false)
def tyX4 : Nat → FieldType := fun k => match k with
  | 0 => .int
  | 1 => .int
  | 2 => .int
  | _ => .object "Lendlathe$Layer"
theorem nmX4 : ∀ a, a < 4 → ∀ b, b < 4 → a ≠ b → (TX4 a).2.1 ≠ (TX4 b).2.1 := by decide +kernel
theorem tyX4_ok : ∀ k, k < 4 → parseFieldDescriptor (TX4 k).2.2.1 = some (tyX4 k) := by decide +kernel
def RX5 : String := "Lendlathe$Layer"
def TX5 : u_T := fun k => match k with
  | 0 => ("Lendlathe$Layer", "sort", "I", true)
  | 1 => ("Lendlathe$Layer", "amount", "I", true)
  | 2 => ("Lendlathe$Layer", "below", "LLendlathe$Layer;", true)
  | _ => ("Lendlathe$Layer", "height", "I", true)
def tyX5 : Nat → FieldType := fun k => match k with
  | 0 => .int
  | 1 => .int
  | 2 => .object "Lendlathe$Layer"
  | _ => .int
theorem nmX5 : ∀ a, a < 4 → ∀ b, b < 4 → a ≠ b → (TX5 a).2.1 ≠ (TX5 b).2.1 := by decide +kernel
theorem tyX5_ok : ∀ k, k < 4 → parseFieldDescriptor (TX5 k).2.2.1 = some (tyX5 k) := by decide +kernel
def RX6 : String := "Lendlathe$Machine"
def TX6 : u_T := fun k => match k with
  | 0 => ("Lendlathe$Machine", "kind", "LLendlathe$Kind;", true)
  | 1 => ("Lendlathe$Machine", "setup", "I", true)
  | _ => ("Lendlathe$Machine", "held", "Ljava/util/ArrayList;", true)
def tyX6 : Nat → FieldType := fun k => match k with
  | 0 => .object "Lendlathe$Kind"
  | 1 => .int
  | _ => .object "java/util/ArrayList"
theorem nmX6 : ∀ a, a < 3 → ∀ b, b < 3 → a ≠ b → (TX6 a).2.1 ≠ (TX6 b).2.1 := by decide +kernel
theorem tyX6_ok : ∀ k, k < 3 → parseFieldDescriptor (TX6 k).2.2.1 = some (tyX6 k) := by decide +kernel
def RX7 : String := "Lendlathe$Member"
def TX7 : u_T := fun k => match k with
  | 0 => ("Lendlathe$Member", "lastDays", "[I", true)
  | 1 => ("Lendlathe$Member", "owed", "I", false)
  | _ => ("Lendlathe$Member", "paid", "I", false)
def tyX7 : Nat → FieldType := fun k => match k with
  | 0 => .array .int
  | 1 => .int
  | _ => .int
theorem nmX7 : ∀ a, a < 3 → ∀ b, b < 3 → a ≠ b → (TX7 a).2.1 ≠ (TX7 b).2.1 := by decide +kernel
theorem tyX7_ok : ∀ k, k < 3 → parseFieldDescriptor (TX7 k).2.2.1 = some (tyX7 k) := by decide +kernel
def RX8 : String := "Lendlathe"
def TX8 : u_T := fun k => match k with
  | 0 => ("Lendlathe", "kinds", "Ljava/util/ArrayList;", true)
  | 1 => ("Lendlathe", "machines", "Ljava/util/ArrayList;", true)
  | 2 => ("Lendlathe", "members", "Ljava/util/ArrayList;", true)
  | 3 => ("Lendlathe", "allEntries", "Ljava/util/ArrayList;", true)
  | 4 => ("Lendlathe", "bars", "Ljava/util/ArrayList;", true)
  | 5 => ("Lendlathe", "breakages", "Ljava/util/ArrayList;", true)
  | 6 => ("Lendlathe", "prices", "[I", true)
  | _ => ("Lendlathe", "today", "I", false)
def tyX8 : Nat → FieldType := fun k => match k with
  | 0 => .object "java/util/ArrayList"
  | 1 => .object "java/util/ArrayList"
  | 2 => .object "java/util/ArrayList"
  | 3 => .object "java/util/ArrayList"
  | 4 => .object "java/util/ArrayList"
  | 5 => .object "java/util/ArrayList"
  | 6 => .array .int
  | _ => .int
theorem nmX8 : ∀ a, a < 8 → ∀ b, b < 8 → a ≠ b → (TX8 a).2.1 ≠ (TX8 b).2.1 := by decide +kernel
theorem tyX8_ok : ∀ k, k < 8 → parseFieldDescriptor (TX8 k).2.2.1 = some (tyX8 k) := by decide +kernel
def RX9 : String := "LendlatheModel"
def TX9 : u_T := fun k => match k with
  | 0 => ("LendlatheModel", "machineKinds", "[I", true)
  | 1 => ("LendlatheModel", "setups", "[I", true)
  | 2 => ("LendlatheModel", "machines", "I", false)
  | 3 => ("LendlatheModel", "members", "I", false)
  | 4 => ("LendlatheModel", "taken", "[[I", true)
  | 5 => ("LendlatheModel", "paid", "[J", true)
  | 6 => ("LendlatheModel", "needs", "[[Z", true)
  | 7 => ("LendlatheModel", "day", "I", false)
  | 8 => ("LendlatheModel", "owner", "[I", true)
  | 9 => ("LendlatheModel", "machineOf", "[I", true)
  | 10 => ("LendlatheModel", "dayOf", "[I", true)
  | 11 => ("LendlatheModel", "starts", "[I", true)
  | 12 => ("LendlatheModel", "lengths", "[I", true)
  | 13 => ("LendlatheModel", "works", "[C", true)
  | 14 => ("LendlatheModel", "states", "[C", true)
  | 15 => ("LendlatheModel", "dues", "[I", true)
  | 16 => ("LendlatheModel", "cutMany", "[I", true)
  | 17 => ("LendlatheModel", "cutBars", "[[I", true)
  | 18 => ("LendlatheModel", "cutLengths", "[[I", true)
  | 19 => ("LendlatheModel", "entries", "I", false)
  | 20 => ("LendlatheModel", "materials", "[I", true)
  | 21 => ("LendlatheModel", "barLengths", "[I", true)
  | 22 => ("LendlatheModel", "bars", "I", false)
  | 23 => ("LendlatheModel", "prices", "[I", true)
  | 24 => ("LendlatheModel", "layerSorts", "[[C", true)
  | 25 => ("LendlatheModel", "layerNumbers", "[[I", true)
  | 26 => ("LendlatheModel", "layerMany", "[I", true)
  | 27 => ("LendlatheModel", "shares", "[[I", true)
  | 28 => ("LendlatheModel", "breakages", "I", false)
  | _ => ("LendlatheModel", "thrown", "I", false)
def tyX9 : Nat → FieldType := fun k => match k with
  | 0 => .array .int
  | 1 => .array .int
  | 2 => .int
  | 3 => .int
  | 4 => .array (.array .int)
  | 5 => .array .long
  | 6 => .array (.array .boolean)
  | 7 => .int
  | 8 => .array .int
  | 9 => .array .int
  | 10 => .array .int
  | 11 => .array .int
  | 12 => .array .int
  | 13 => .array .char
  | 14 => .array .char
  | 15 => .array .int
  | 16 => .array .int
  | 17 => .array (.array .int)
  | 18 => .array (.array .int)
  | 19 => .int
  | 20 => .array .int
  | 21 => .array .int
  | 22 => .int
  | 23 => .array .int
  | 24 => .array (.array .char)
  | 25 => .array (.array .int)
  | 26 => .array .int
  | 27 => .array (.array .int)
  | 28 => .int
  | _ => .int
theorem nmX9 : ∀ a, a < 30 → ∀ b, b < 30 → a ≠ b → (TX9 a).2.1 ≠ (TX9 b).2.1 := by decide +kernel
theorem tyX9_ok : ∀ k, k < 30 → parseFieldDescriptor (TX9 k).2.2.1 = some (tyX9 k) := by decide +kernel
def RJx4a65c : String := "java/util/ArrayList"
def TJx4a65c : u_T := fun k => match k with
  | 0 => ("java/util/AbstractList", "modCount", "I", false)
  | 1 => ("java/util/ArrayList", "elementData", "[Ljava/lang/Object;", false)
  | _ => ("java/util/ArrayList", "size", "I", false)
def tyJx4a65c : Nat → FieldType := fun k => match k with
  | 0 => .int
  | 1 => .array (.object "java/lang/Object")
  | _ => .int
theorem nmJx4a65c : ∀ a, a < 3 → ∀ b, b < 3 → a ≠ b → (TJx4a65c a).2.1 ≠ (TJx4a65c b).2.1 := by decide +kernel
theorem tyJx4a65c_ok : ∀ k, k < 3 → parseFieldDescriptor (TJx4a65c k).2.2.1 = some (tyJx4a65c k) := by decide +kernel
/-! the own methods (class, reference, law), numbered; where the words of each lie among lw_tbl. Written by wip/whole/gen/gen03.py out of the printed names -/
abbrev MRow : Type := MethodName × ByteArray × Nat × Option FieldType × List (Nat × Nat × Nat × Nat)
def mtab_0 : List MRow := [(⟨"Lendlathe$Bar", "<init>", "(II)V"⟩, prog_2_method_1_code, 3, none, []),
  (⟨"Lendlathe$Breakage", "<init>", "([I)V"⟩, prog_3_method_1_code, 2, none, []),
  (⟨"Lendlathe$Breakage", "share", "(I)I"⟩, prog_3_method_2_code, 2, (some FieldType.int), []),
  (⟨"Lendlathe$Cut", "<init>", "(LLendlathe$Bar;I)V"⟩, prog_4_method_1_code, 3, none, []),
  (⟨"Lendlathe$Entry", "<init>", "(LLendlathe$Member;LLendlathe$Machine;IIIC)V"⟩, prog_5_method_1_code, 7, none, []),
  (⟨"Lendlathe$Entry", "isOpen", "()Z"⟩, prog_5_method_2_code, 1, (some FieldType.boolean), []),
  (⟨"Lendlathe$Entry", "overlaps", "(III)Z"⟩, prog_5_method_3_code, 4, (some FieldType.boolean), []),
  (⟨"Lendlathe$Kind", "<init>", "(I)V"⟩, prog_6_method_1_code, 2, none, []),
  (⟨"Lendlathe$Kind", "needs", "(LLendlathe$Kind;)Z"⟩, prog_6_method_2_code, 2, (some FieldType.boolean), []),
  (⟨"Lendlathe$Kind", "addNeeded", "(LLendlathe$Kind;)V"⟩, prog_6_method_3_code, 2, none, []),
  (⟨"Lendlathe$Layer", "<init>", "(IILLendlathe$Layer;)V"⟩, prog_7_method_1_code, 4, none, []),
  (⟨"Lendlathe$Machine", "<init>", "(LLendlathe$Kind;I)V"⟩, prog_8_method_1_code, 3, none, []),
  (⟨"Lendlathe$Machine", "setupBetween", "(CC)I"⟩, prog_8_method_2_code, 3, (some FieldType.int), []),
  (⟨"Lendlathe$Machine", "placeOf", "(II)I"⟩, prog_8_method_3_code, 4, (some FieldType.int), []),
  (⟨"Lendlathe$Machine", "isBefore", "(LLendlathe$Entry;II)Z"⟩, prog_8_method_4_code, 3, (some FieldType.boolean), []),
  (⟨"Lendlathe$Machine", "hold", "(LLendlathe$Entry;)V"⟩, prog_8_method_5_code, 2, none, []),
  (⟨"Lendlathe$Machine", "release", "(LLendlathe$Entry;)V"⟩, prog_8_method_6_code, 3, none, []),
  (⟨"Lendlathe$Member", "<init>", "()V"⟩, prog_9_method_1_code, 2, none, []),
  (⟨"Lendlathe$Member", "lastTaken", "(LLendlathe$Kind;)I"⟩, prog_9_method_2_code, 3, (some FieldType.int), []),
  (⟨"Lendlathe$Member", "take", "(LLendlathe$Kind;I)V"⟩, prog_9_method_3_code, 4, none, []),
  (⟨"Lendlathe", "<init>", "()V"⟩, prog_1_method_1_code, 2, none, []),
  (⟨"Lendlathe", "addMachine", "(II)I"⟩, prog_1_method_2_code, 4, (some FieldType.int), []),
  (⟨"Lendlathe", "addMember", "()I"⟩, prog_1_method_3_code, 1, (some FieldType.int), []),
  (⟨"Lendlathe", "day", "()I"⟩, prog_1_method_4_code, 1, (some FieldType.int), [])]
def mtab_1 : List MRow := [(⟨"Lendlathe", "addNeed", "(II)Z"⟩, prog_1_method_5_code, 6, (some FieldType.boolean), []),
  (⟨"Lendlathe", "induct", "(II)I"⟩, prog_1_method_6_code, 6, (some FieldType.int), []),
  (⟨"Lendlathe", "isLive", "(III)Z"⟩, prog_1_method_7_code, 6, (some FieldType.boolean), []),
  (⟨"Lendlathe", "book", "(IIIIIC)I"⟩, prog_1_method_8_code, 11, (some FieldType.int), []),
  (⟨"Lendlathe", "await", "(IIIIIC)I"⟩, prog_1_method_9_code, 10, (some FieldType.int), []),
  (⟨"Lendlathe", "check", "(IIIIIC)C"⟩, prog_1_method_10_code, 9, (some FieldType.char), []),
  (⟨"Lendlathe", "cancel", "(I)C"⟩, prog_1_method_11_code, 4, (some FieldType.char), []),
  (⟨"Lendlathe", "stateOf", "(I)C"⟩, prog_1_method_12_code, 2, (some FieldType.char), []),
  (⟨"Lendlathe", "entries", "()I"⟩, prog_1_method_13_code, 1, (some FieldType.int), []),
  (⟨"Lendlathe", "endDay", "()I"⟩, prog_1_method_14_code, 4, (some FieldType.int), []),
  (⟨"Lendlathe", "minuteAt", "(III)C"⟩, prog_1_method_15_code, 5, (some FieldType.char), []),
  (⟨"Lendlathe", "usedMinutes", "(II)I"⟩, prog_1_method_16_code, 4, (some FieldType.int), []),
  (⟨"Lendlathe", "usedByMinutes", "(II)I"⟩, prog_1_method_17_code, 4, (some FieldType.int), []),
  (⟨"Lendlathe", "setupMinutes", "(II)I"⟩, prog_1_method_18_code, 8, (some FieldType.int), []),
  (⟨"Lendlathe", "firstStart", "(IIIC)I"⟩, prog_1_method_19_code, 7, (some FieldType.int), []),
  (⟨"Lendlathe", "firstByMinutes", "(IIIC)I"⟩, prog_1_method_20_code, 8, (some FieldType.int), []),
  (⟨"Lendlathe", "waiting", "(II)I"⟩, prog_1_method_21_code, 7, (some FieldType.int), []),
  (⟨"Lendlathe", "deliver", "(II)I"⟩, prog_1_method_22_code, 3, (some FieldType.int), []),
  (⟨"Lendlathe", "cut", "(III)I"⟩, prog_1_method_23_code, 7, (some FieldType.int), []),
  (⟨"Lendlathe", "freeOf", "(I)I"⟩, prog_1_method_24_code, 2, (some FieldType.int), []),
  (⟨"Lendlathe", "freeByCuts", "(I)I"⟩, prog_1_method_25_code, 2, (some FieldType.int), []),
  (⟨"Lendlathe", "setPrice", "(II)I"⟩, prog_1_method_26_code, 4, (some FieldType.int), []),
  (⟨"Lendlathe", "setRate", "(II)I"⟩, prog_1_method_27_code, 5, (some FieldType.int), []),
  (⟨"Lendlathe", "addFee", "(II)I"⟩, prog_1_method_28_code, 4, (some FieldType.int), [])]
def mtab_2 : List MRow := [(⟨"Lendlathe", "addCap", "(II)I"⟩, prog_1_method_29_code, 4, (some FieldType.int), []),
  (⟨"Lendlathe", "addDouble", "(II)I"⟩, prog_1_method_30_code, 4, (some FieldType.int), []),
  (⟨"Lendlathe", "addDiscount", "(II)I"⟩, prog_1_method_31_code, 4, (some FieldType.int), []),
  (⟨"Lendlathe", "costOf", "(II)I"⟩, prog_1_method_32_code, 4, (some FieldType.int), []),
  (⟨"Lendlathe", "breakDown", "(II)I"⟩, prog_1_method_33_code, 8, (some FieldType.int), []),
  (⟨"Lendlathe", "shareOf", "(II)I"⟩, prog_1_method_34_code, 3, (some FieldType.int), []),
  (⟨"Lendlathe", "pay", "(II)I"⟩, prog_1_method_35_code, 4, (some FieldType.int), []),
  (⟨"Lendlathe", "owes", "(I)I"⟩, prog_1_method_36_code, 3, (some FieldType.int), []),
  (⟨"Lendlathe", "owesByEntries", "(I)I"⟩, prog_1_method_37_code, 2, (some FieldType.int), []),
  (⟨"Lendlathe", "dueOf", "(I)I"⟩, prog_1_method_38_code, 2, (some FieldType.int), []),
  (⟨"Lendlathe", "takings", "()J"⟩, prog_1_method_39_code, 4, (some FieldType.long), []),
  (⟨"Lendlathe", "use", "(II)F"⟩, prog_1_method_40_code, 4, (some FieldType.float), []),
  (⟨"Lendlathe", "meanMinutes", "()D"⟩, prog_1_method_41_code, 5, (some FieldType.double), []),
  (⟨"Lendlathe", "isSound", "()Z"⟩, prog_1_method_42_code, 1, (some FieldType.boolean), []),
  (⟨"Lendlathe", "requireRange", "(III)V"⟩, prog_1_method_43_code, 3, none, []),
  (⟨"Lendlathe", "requireRoom", "(II)V"⟩, prog_1_method_44_code, 2, none, []),
  (⟨"Lendlathe", "requireWish", "(IIC)V"⟩, prog_1_method_45_code, 4, none, []),
  (⟨"Lendlathe", "requireTime", "(IIIC)V"⟩, prog_1_method_46_code, 5, none, []),
  (⟨"Lendlathe", "requireMember", "(I)V"⟩, prog_1_method_47_code, 2, none, []),
  (⟨"Lendlathe", "memberAt", "(I)LLendlathe$Member;"⟩, prog_1_method_48_code, 2, (some (FieldType.object "Lendlathe$Member")), []),
  (⟨"Lendlathe", "machineAt", "(I)LLendlathe$Machine;"⟩, prog_1_method_49_code, 2, (some (FieldType.object "Lendlathe$Machine")), []),
  (⟨"Lendlathe", "kindAt", "(I)LLendlathe$Kind;"⟩, prog_1_method_50_code, 2, (some (FieldType.object "Lendlathe$Kind")), []),
  (⟨"Lendlathe", "entryAt", "(I)LLendlathe$Entry;"⟩, prog_1_method_51_code, 2, (some (FieldType.object "Lendlathe$Entry")), []),
  (⟨"Lendlathe", "barAt", "(I)LLendlathe$Bar;"⟩, prog_1_method_52_code, 2, (some (FieldType.object "Lendlathe$Bar")), [])]
def mtab_3 : List MRow := [(⟨"Lendlathe", "leadsTo", "(Ljava/util/ArrayList;LLendlathe$Kind;LLendlathe$Kind;I)Z"⟩, prog_1_method_53_code, 6, (some FieldType.boolean), []),
  (⟨"Lendlathe", "hasLive", "(LLendlathe$Member;LLendlathe$Kind;II)Z"⟩, prog_1_method_54_code, 7, (some FieldType.boolean), []),
  (⟨"Lendlathe", "hasLiveNeeds", "(LLendlathe$Member;LLendlathe$Kind;II)Z"⟩, prog_1_method_55_code, 7, (some FieldType.boolean), []),
  (⟨"Lendlathe", "hasInduction", "(LLendlathe$Entry;)Z"⟩, prog_1_method_56_code, 2, (some FieldType.boolean), []),
  (⟨"Lendlathe", "cancelWithoutInduction", "()V"⟩, prog_1_method_57_code, 3, none, []),
  (⟨"Lendlathe", "judge", "(LLendlathe$Member;LLendlathe$Machine;IIIC)C"⟩, prog_1_method_58_code, 8, (some FieldType.char), []),
  (⟨"Lendlathe", "canBeBooked", "(LLendlathe$Entry;)Z"⟩, prog_1_method_59_code, 2, (some FieldType.boolean), []),
  (⟨"Lendlathe", "isBusy", "(LLendlathe$Member;III)Z"⟩, prog_1_method_60_code, 7, (some FieldType.boolean), []),
  (⟨"Lendlathe", "isFree", "(LLendlathe$Machine;IIIIC)Z"⟩, prog_1_method_61_code, 11, (some FieldType.boolean), []),
  (⟨"Lendlathe", "makeBooked", "(LLendlathe$Entry;)V"⟩, prog_1_method_62_code, 1, none, []),
  (⟨"Lendlathe", "bookWaiting", "()V"⟩, prog_1_method_63_code, 3, none, []),
  (⟨"Lendlathe", "firstToBook", "()LLendlathe$Entry;"⟩, prog_1_method_64_code, 3, (some (FieldType.object "Lendlathe$Entry")), []),
  (⟨"Lendlathe", "letterOfCancelling", "(LLendlathe$Entry;)C"⟩, prog_1_method_65_code, 2, (some FieldType.char), []),
  (⟨"Lendlathe", "withdraw", "(LLendlathe$Entry;)V"⟩, prog_1_method_66_code, 3, none, []),
  (⟨"Lendlathe", "letterOfMinute", "(LLendlathe$Machine;III)C"⟩, prog_1_method_67_code, 8, (some FieldType.char), []),
  (⟨"Lendlathe", "addLengths", "(LLendlathe$Machine;I)I"⟩, prog_1_method_68_code, 4, (some FieldType.int), []),
  (⟨"Lendlathe", "countMinutes", "(LLendlathe$Machine;I)I"⟩, prog_1_method_69_code, 5, (some FieldType.int), []),
  (⟨"Lendlathe", "firstStartInGaps", "(LLendlathe$Machine;IIC)I"⟩, prog_1_method_70_code, 8, (some FieldType.int), []),
  (⟨"Lendlathe", "tightestBar", "(II)I"⟩, prog_1_method_71_code, 8, (some FieldType.int), []),
  (⟨"Lendlathe", "lengthLeft", "(LLendlathe$Bar;)I"⟩, prog_1_method_72_code, 4, (some FieldType.int), []),
  (⟨"Lendlathe", "lengthTaken", "(LLendlathe$Entry;LLendlathe$Bar;)I"⟩, prog_1_method_73_code, 5, (some FieldType.int), []),
  (⟨"Lendlathe", "priceOf", "(I)I"⟩, prog_1_method_74_code, 2, (some FieldType.int), []),
  (⟨"Lendlathe", "addLayer", "(LLendlathe$Kind;II)I"⟩, prog_1_method_75_code, 3, (some FieldType.int), []),
  (⟨"Lendlathe", "ask", "(LLendlathe$Layer;I)I"⟩, prog_1_method_76_code, 4, (some FieldType.int), [])]
def mtab_4 : List MRow := [(⟨"Lendlathe", "priceOfTime", "(LLendlathe$Entry;)I"⟩, prog_1_method_77_code, 1, (some FieldType.int), []),
  (⟨"Lendlathe", "priceOfCuts", "(LLendlathe$Entry;)I"⟩, prog_1_method_78_code, 5, (some FieldType.int), []),
  (⟨"Lendlathe", "charge", "(LLendlathe$Entry;I)V"⟩, prog_1_method_79_code, 2, none, []),
  (⟨"Lendlathe", "minutesToBlame", "(LLendlathe$Member;LLendlathe$Machine;)I"⟩, prog_1_method_80_code, 7, (some FieldType.int), []),
  (⟨"Lendlathe", "split", "(I[II)[I"⟩, prog_1_method_81_code, 9, (some (FieldType.array FieldType.int)), []),
  (⟨"Lendlathe", "placeOfGreatest", "([I)I"⟩, prog_1_method_82_code, 3, (some FieldType.int), []),
  (⟨"Lendlathe", "addDebts", "(I)I"⟩, prog_1_method_83_code, 6, (some FieldType.int), []),
  (⟨"Lendlathe", "areEntriesSound", "()Z"⟩, prog_1_method_84_code, 3, (some FieldType.boolean), []),
  (⟨"Lendlathe", "clashesWithLater", "(ILLendlathe$Entry;)Z"⟩, prog_1_method_85_code, 6, (some FieldType.boolean), []),
  (⟨"Lendlathe", "doBarsAgree", "()Z"⟩, prog_1_method_86_code, 3, (some FieldType.boolean), []),
  (⟨"Lendlathe", "doDebtsAgree", "()Z"⟩, prog_1_method_87_code, 3, (some FieldType.boolean), []),
  (⟨"Lendlathe", "doMinutesAgree", "()Z"⟩, prog_1_method_88_code, 4, (some FieldType.boolean), []),
  (⟨"LendlatheModel", "<init>", "()V"⟩, prog_11_method_1_code, 2, none, []),
  (⟨"LendlatheModel", "thrown", "()I"⟩, prog_11_method_2_code, 1, (some FieldType.int), []),
  (⟨"LendlatheModel", "raises", "(I)I"⟩, prog_11_method_3_code, 2, (some FieldType.int), []),
  (⟨"LendlatheModel", "in", "(III)Z"⟩, prog_11_method_4_code, 3, (some FieldType.boolean), []),
  (⟨"LendlatheModel", "isKind", "(I)Z"⟩, prog_11_method_5_code, 1, (some FieldType.boolean), []),
  (⟨"LendlatheModel", "isMember", "(I)Z"⟩, prog_11_method_6_code, 2, (some FieldType.boolean), []),
  (⟨"LendlatheModel", "isMachine", "(I)Z"⟩, prog_11_method_7_code, 2, (some FieldType.boolean), []),
  (⟨"LendlatheModel", "isEntry", "(I)Z"⟩, prog_11_method_8_code, 2, (some FieldType.boolean), []),
  (⟨"LendlatheModel", "addMachine", "(II)I"⟩, prog_11_method_9_code, 3, (some FieldType.int), []),
  (⟨"LendlatheModel", "addMember", "()I"⟩, prog_11_method_10_code, 2, (some FieldType.int), []),
  (⟨"LendlatheModel", "day", "()I"⟩, prog_11_method_11_code, 1, (some FieldType.int), []),
  (⟨"LendlatheModel", "reaches", "(II)Z"⟩, prog_11_method_12_code, 5, (some FieldType.boolean), [])]
def mtab_5 : List MRow := [(⟨"LendlatheModel", "live", "(III)Z"⟩, prog_11_method_13_code, 7, (some FieldType.boolean), []),
  (⟨"LendlatheModel", "liveFor", "(III)Z"⟩, prog_11_method_14_code, 4, (some FieldType.boolean), []),
  (⟨"LendlatheModel", "addNeed", "(II)Z"⟩, prog_11_method_15_code, 6, (some FieldType.boolean), []),
  (⟨"LendlatheModel", "induct", "(II)I"⟩, prog_11_method_16_code, 4, (some FieldType.int), []),
  (⟨"LendlatheModel", "isLive", "(III)Z"⟩, prog_11_method_17_code, 4, (some FieldType.boolean), []),
  (⟨"LendlatheModel", "endOf", "(I)I"⟩, prog_11_method_18_code, 2, (some FieldType.int), []),
  (⟨"LendlatheModel", "overlaps", "(IIII)Z"⟩, prog_11_method_19_code, 5, (some FieldType.boolean), []),
  (⟨"LendlatheModel", "setup", "(ICC)I"⟩, prog_11_method_20_code, 4, (some FieldType.int), []),
  (⟨"LendlatheModel", "isFree", "(IIIIC)Z"⟩, prog_11_method_21_code, 9, (some FieldType.boolean), []),
  (⟨"LendlatheModel", "isBusy", "(IIII)Z"⟩, prog_11_method_22_code, 7, (some FieldType.boolean), []),
  (⟨"LendlatheModel", "letter", "(IIIIIC)C"⟩, prog_11_method_23_code, 7, (some FieldType.char), []),
  (⟨"LendlatheModel", "gives", "()V"⟩, prog_11_method_24_code, 2, none, []),
  (⟨"LendlatheModel", "isWork", "(C)Z"⟩, prog_11_method_25_code, 1, (some FieldType.boolean), []),
  (⟨"LendlatheModel", "lacks", "(IIIIIC)I"⟩, prog_11_method_26_code, 8, (some FieldType.int), []),
  (⟨"LendlatheModel", "adds", "(IIIIICC)I"⟩, prog_11_method_27_code, 8, (some FieldType.int), []),
  (⟨"LendlatheModel", "book", "(IIIIIC)I"⟩, prog_11_method_28_code, 8, (some FieldType.int), []),
  (⟨"LendlatheModel", "await", "(IIIIIC)I"⟩, prog_11_method_29_code, 8, (some FieldType.int), []),
  (⟨"LendlatheModel", "check", "(IIIIIC)C"⟩, prog_11_method_30_code, 7, (some FieldType.char), []),
  (⟨"LendlatheModel", "cancel", "(I)C"⟩, prog_11_method_31_code, 3, (some FieldType.char), []),
  (⟨"LendlatheModel", "stateOf", "(I)C"⟩, prog_11_method_32_code, 2, (some FieldType.char), []),
  (⟨"LendlatheModel", "entries", "()I"⟩, prog_11_method_33_code, 1, (some FieldType.int), []),
  (⟨"LendlatheModel", "endDay", "()I"⟩, prog_11_method_34_code, 4, (some FieldType.int), []),
  (⟨"LendlatheModel", "stands", "(III)Z"⟩, prog_11_method_35_code, 4, (some FieldType.boolean), []),
  (⟨"LendlatheModel", "minute", "(III)C"⟩, prog_11_method_36_code, 7, (some FieldType.char), [])]
def mtab_6 : List MRow := [(⟨"LendlatheModel", "may", "(III)Z"⟩, prog_11_method_37_code, 4, (some FieldType.boolean), []),
  (⟨"LendlatheModel", "minuteAt", "(III)C"⟩, prog_11_method_38_code, 4, (some FieldType.char), []),
  (⟨"LendlatheModel", "minutes", "(IIC)I"⟩, prog_11_method_39_code, 6, (some FieldType.int), []),
  (⟨"LendlatheModel", "used", "(II)I"⟩, prog_11_method_40_code, 5, (some FieldType.int), []),
  (⟨"LendlatheModel", "usedMinutes", "(II)I"⟩, prog_11_method_41_code, 3, (some FieldType.int), []),
  (⟨"LendlatheModel", "usedByMinutes", "(II)I"⟩, prog_11_method_42_code, 3, (some FieldType.int), []),
  (⟨"LendlatheModel", "setupMinutes", "(II)I"⟩, prog_11_method_43_code, 3, (some FieldType.int), []),
  (⟨"LendlatheModel", "firstStart", "(IIIC)I"⟩, prog_11_method_44_code, 6, (some FieldType.int), []),
  (⟨"LendlatheModel", "firstByMinutes", "(IIIC)I"⟩, prog_11_method_45_code, 5, (some FieldType.int), []),
  (⟨"LendlatheModel", "waiting", "(II)I"⟩, prog_11_method_46_code, 5, (some FieldType.int), []),
  (⟨"LendlatheModel", "deliver", "(II)I"⟩, prog_11_method_47_code, 3, (some FieldType.int), []),
  (⟨"LendlatheModel", "free", "(I)I"⟩, prog_11_method_48_code, 5, (some FieldType.int), []),
  (⟨"LendlatheModel", "cut", "(III)I"⟩, prog_11_method_49_code, 7, (some FieldType.int), []),
  (⟨"LendlatheModel", "freeOf", "(I)I"⟩, prog_11_method_50_code, 2, (some FieldType.int), []),
  (⟨"LendlatheModel", "freeByCuts", "(I)I"⟩, prog_11_method_51_code, 2, (some FieldType.int), []),
  (⟨"LendlatheModel", "setPrice", "(II)I"⟩, prog_11_method_52_code, 4, (some FieldType.int), []),
  (⟨"LendlatheModel", "cost", "(II)I"⟩, prog_11_method_53_code, 9, (some FieldType.int), []),
  (⟨"LendlatheModel", "setRate", "(II)I"⟩, prog_11_method_54_code, 4, (some FieldType.int), []),
  (⟨"LendlatheModel", "lays", "(ICII)I"⟩, prog_11_method_55_code, 5, (some FieldType.int), []),
  (⟨"LendlatheModel", "addFee", "(II)I"⟩, prog_11_method_56_code, 3, (some FieldType.int), []),
  (⟨"LendlatheModel", "addCap", "(II)I"⟩, prog_11_method_57_code, 3, (some FieldType.int), []),
  (⟨"LendlatheModel", "addDouble", "(II)I"⟩, prog_11_method_58_code, 3, (some FieldType.int), []),
  (⟨"LendlatheModel", "addDiscount", "(II)I"⟩, prog_11_method_59_code, 3, (some FieldType.int), []),
  (⟨"LendlatheModel", "costOf", "(II)I"⟩, prog_11_method_60_code, 3, (some FieldType.int), [])]
def mtab_7 : List MRow := [(⟨"LendlatheModel", "breakDown", "(II)I"⟩, prog_11_method_61_code, 10, (some FieldType.int), []),
  (⟨"LendlatheModel", "shareOf", "(II)I"⟩, prog_11_method_62_code, 3, (some FieldType.int), []),
  (⟨"LendlatheModel", "owed", "(I)J"⟩, prog_11_method_63_code, 5, (some FieldType.long), []),
  (⟨"LendlatheModel", "pay", "(II)I"⟩, prog_11_method_64_code, 3, (some FieldType.int), []),
  (⟨"LendlatheModel", "owes", "(I)I"⟩, prog_11_method_65_code, 2, (some FieldType.int), []),
  (⟨"LendlatheModel", "owesByEntries", "(I)I"⟩, prog_11_method_66_code, 2, (some FieldType.int), []),
  (⟨"LendlatheModel", "dueOf", "(I)I"⟩, prog_11_method_67_code, 2, (some FieldType.int), []),
  (⟨"LendlatheModel", "takings", "()J"⟩, prog_11_method_68_code, 4, (some FieldType.long), []),
  (⟨"LendlatheModel", "use", "(II)F"⟩, prog_11_method_69_code, 3, (some FieldType.float), []),
  (⟨"LendlatheModel", "meanMinutes", "()D"⟩, prog_11_method_70_code, 4, (some FieldType.double), []),
  (⟨"LendlatheModel", "isSound", "()Z"⟩, prog_11_method_71_code, 1, (some FieldType.boolean), []),
  (⟨"LendlatheLaw", "addMachine", "(LLendlathe;II[J)I"⟩, method_3_code, 5, (some FieldType.int), [(0, 10, 13, 13), (0, 10, 17, 15)]),
  (⟨"LendlatheLaw", "addMember", "(LLendlathe;[J)I"⟩, method_4_code, 3, (some FieldType.int), [(0, 8, 11, 15)]),
  (⟨"LendlatheLaw", "addNeed", "(LLendlathe;II[J)I"⟩, method_5_code, 5, (some FieldType.int), [(0, 17, 20, 13), (0, 17, 24, 15)]),
  (⟨"LendlatheLaw", "induct", "(LLendlathe;II[J)I"⟩, method_6_code, 5, (some FieldType.int), [(0, 10, 13, 28), (0, 10, 17, 13), (0, 10, 21, 30)]),
  (⟨"LendlatheLaw", "isLive", "(LLendlathe;III[J)I"⟩, method_7_code, 6, (some FieldType.int), [(0, 19, 22, 28), (0, 19, 26, 13)]),
  (⟨"LendlatheLaw", "book", "(LLendlathe;IIIIIC[J)I"⟩, method_8_code, 9, (some FieldType.int), [(0, 18, 21, 28), (0, 18, 25, 13), (0, 18, 29, 30), (0, 18, 33, 40), (0, 18, 37, 42), (0, 18, 41, 15)]),
  (⟨"LendlatheLaw", "await", "(LLendlathe;IIIIIC[J)I"⟩, method_9_code, 9, (some FieldType.int), [(0, 18, 21, 28), (0, 18, 25, 13), (0, 18, 29, 30), (0, 18, 33, 15)]),
  (⟨"LendlatheLaw", "check", "(LLendlathe;IIIIIC[J)I"⟩, method_10_code, 9, (some FieldType.int), [(0, 18, 21, 28), (0, 18, 25, 13)]),
  (⟨"LendlatheLaw", "cancel", "(LLendlathe;I[J)I"⟩, method_11_code, 4, (some FieldType.int), [(0, 9, 12, 42), (0, 9, 15, 15)]),
  (⟨"LendlatheLaw", "stateOf", "(LLendlathe;I[J)I"⟩, method_12_code, 4, (some FieldType.int), [(0, 9, 12, 42)]),
  (⟨"LendlatheLaw", "endDay", "(LLendlathe;[J)I"⟩, method_13_code, 3, (some FieldType.int), [(0, 8, 11, 15)]),
  (⟨"LendlatheLaw", "minuteAt", "(LLendlathe;III[J)I"⟩, method_14_code, 6, (some FieldType.int), [(0, 12, 15, 28), (0, 12, 19, 13)]),
  (⟨"LendlatheLaw", "usedMinutes", "(LLendlathe;II[J)I"⟩, method_15_code, 5, (some FieldType.int), [(0, 10, 13, 28), (0, 10, 17, 13)])]
def mtab_8 : List MRow := [(⟨"LendlatheLaw", "usedByMinutes", "(LLendlathe;II[J)I"⟩, method_16_code, 5, (some FieldType.int), [(0, 10, 13, 28), (0, 10, 17, 13)]),
  (⟨"LendlatheLaw", "setupMinutes", "(LLendlathe;II[J)I"⟩, method_17_code, 5, (some FieldType.int), [(0, 10, 13, 28), (0, 10, 17, 13)]),
  (⟨"LendlatheLaw", "firstStart", "(LLendlathe;IIIC[J)I"⟩, method_18_code, 7, (some FieldType.int), [(0, 14, 17, 28), (0, 14, 21, 13), (0, 14, 25, 42)]),
  (⟨"LendlatheLaw", "firstByMinutes", "(LLendlathe;IIIC[J)I"⟩, method_19_code, 7, (some FieldType.int), [(0, 14, 17, 28), (0, 14, 21, 13), (0, 14, 25, 42)]),
  (⟨"LendlatheLaw", "waiting", "(LLendlathe;II[J)I"⟩, method_20_code, 5, (some FieldType.int), [(0, 10, 13, 28), (0, 10, 17, 13)]),
  (⟨"LendlatheLaw", "deliver", "(LLendlathe;II[J)I"⟩, method_21_code, 5, (some FieldType.int), [(0, 10, 13, 13), (0, 10, 17, 15)]),
  (⟨"LendlatheLaw", "cut", "(LLendlathe;III[J)I"⟩, method_22_code, 6, (some FieldType.int), [(0, 12, 15, 42), (0, 12, 19, 13), (0, 12, 23, 15), (0, 12, 27, 30)]),
  (⟨"LendlatheLaw", "freeOf", "(LLendlathe;I[J)I"⟩, method_23_code, 4, (some FieldType.int), [(0, 9, 12, 42)]),
  (⟨"LendlatheLaw", "freeByCuts", "(LLendlathe;I[J)I"⟩, method_24_code, 4, (some FieldType.int), [(0, 9, 12, 42)]),
  (⟨"LendlatheLaw", "setPrice", "(LLendlathe;II[J)I"⟩, method_25_code, 5, (some FieldType.int), [(0, 10, 13, 13)]),
  (⟨"LendlatheLaw", "setRate", "(LLendlathe;II[J)I"⟩, method_26_code, 5, (some FieldType.int), [(0, 10, 13, 13)]),
  (⟨"LendlatheLaw", "addFee", "(LLendlathe;II[J)I"⟩, method_27_code, 5, (some FieldType.int), [(0, 10, 13, 13), (0, 10, 17, 15)]),
  (⟨"LendlatheLaw", "addCap", "(LLendlathe;II[J)I"⟩, method_28_code, 5, (some FieldType.int), [(0, 10, 13, 13), (0, 10, 17, 15)]),
  (⟨"LendlatheLaw", "addDouble", "(LLendlathe;II[J)I"⟩, method_29_code, 5, (some FieldType.int), [(0, 10, 13, 13), (0, 10, 17, 15)]),
  (⟨"LendlatheLaw", "addDiscount", "(LLendlathe;II[J)I"⟩, method_30_code, 5, (some FieldType.int), [(0, 10, 13, 13), (0, 10, 17, 15)]),
  (⟨"LendlatheLaw", "costOf", "(LLendlathe;II[J)I"⟩, method_31_code, 5, (some FieldType.int), [(0, 10, 13, 13)]),
  (⟨"LendlatheLaw", "breakDown", "(LLendlathe;II[J)I"⟩, method_32_code, 5, (some FieldType.int), [(0, 10, 13, 28), (0, 10, 17, 13), (0, 10, 21, 15)]),
  (⟨"LendlatheLaw", "shareOf", "(LLendlathe;II[J)I"⟩, method_33_code, 5, (some FieldType.int), [(0, 10, 13, 42), (0, 10, 17, 28)]),
  (⟨"LendlatheLaw", "pay", "(LLendlathe;II[J)I"⟩, method_34_code, 5, (some FieldType.int), [(0, 10, 13, 28), (0, 10, 17, 13), (0, 10, 21, 15)]),
  (⟨"LendlatheLaw", "owes", "(LLendlathe;I[J)I"⟩, method_35_code, 4, (some FieldType.int), [(0, 9, 12, 28)]),
  (⟨"LendlatheLaw", "owesByEntries", "(LLendlathe;I[J)I"⟩, method_36_code, 4, (some FieldType.int), [(0, 9, 12, 28)]),
  (⟨"LendlatheLaw", "dueOf", "(LLendlathe;I[J)I"⟩, method_37_code, 4, (some FieldType.int), [(0, 9, 12, 42)]),
  (⟨"LendlatheLaw", "use", "(LLendlathe;II[D)I"⟩, method_38_code, 5, (some FieldType.int), [(0, 10, 13, 28), (0, 10, 17, 13)]),
  (⟨"LendlatheLaw", "meanMinutes", "(LLendlathe;[D)I"⟩, method_39_code, 3, (some FieldType.int), [(0, 7, 10, 40)])]
def mtab_9 : List MRow := [(⟨"LendlatheLaw", "law", "([I)Z"⟩, code, 9, some .boolean, [])]
def mtab : List MRow := mtab_0 ++ (mtab_1 ++ (mtab_2 ++ (mtab_3 ++ (mtab_4 ++ (mtab_5 ++ (mtab_6 ++ (mtab_7 ++ (mtab_8 ++ (mtab_9)))))))))
/-- class number of each method -/
def mclt : List Nat := [0, 1, 1, 2, 3, 3, 3, 4, 4, 4, 5, 6, 6, 6, 6, 6, 6, 7, 7, 7, 8, 8, 8, 8, 8, 8, 8, 8, 8, 8, 8, 8, 8, 8, 8, 8, 8, 8, 8, 8, 8, 8, 8, 8, 8, 8, 8, 8, 8, 8, 8, 8, 8, 8, 8, 8, 8, 8, 8, 8, 8, 8, 8, 8, 8, 8, 8, 8, 8, 8, 8, 8, 8, 8, 8, 8, 8, 8, 8, 8, 8, 8, 8, 8, 8, 8, 8, 8, 8, 8, 8, 8, 8, 8, 8, 8, 8, 8, 8, 8, 8, 8, 8, 8, 8, 8, 8, 8, 9, 9, 9, 9, 9, 9, 9, 9, 9, 9, 9, 9, 9, 9, 9, 9, 9, 9, 9, 9, 9, 9, 9, 9, 9, 9, 9, 9, 9, 9, 9, 9, 9, 9, 9, 9, 9, 9, 9, 9, 9, 9, 9, 9, 9, 9, 9, 9, 9, 9, 9, 9, 9, 9, 9, 9, 9, 9, 9, 9, 9, 9, 9, 9, 9, 9, 9, 9, 9, 9, 9, 10, 10, 10, 10, 10, 10, 10, 10, 10, 10, 10, 10, 10, 10, 10, 10, 10, 10, 10, 10, 10, 10, 10, 10, 10, 10, 10, 10, 10, 10, 10, 10, 10, 10, 10, 10, 10, 10]
def cnm (o : Nat) : String := (["Lendlathe$Bar", "Lendlathe$Breakage", "Lendlathe$Cut", "Lendlathe$Entry", "Lendlathe$Kind", "Lendlathe$Layer", "Lendlathe$Machine", "Lendlathe$Member", "Lendlathe", "LendlatheModel", "LendlatheLaw", "java/util/ArrayList"] : List String).getD o ""
/-- a method: place of its code word, kind (0 static, 1 constructor, 2 chosen by the receiver, 9 none), place of the word that says so, of initialized, of selects, number of parameters -/
def mfct : List (Nat × Nat × Nat × Nat × Nat × Nat) := [(1170, 1, 1169, 95, 0, 2), (1306, 1, 1305, 97, 0, 1), (471, 2, 469, 97, 470, 1), (1206, 1, 1205, 96, 0, 2), (995, 1, 994, 94, 0, 6), (604, 2, 602, 94, 603, 0), (340, 2, 338, 94, 339, 3), (136, 1, 135, 66, 0, 1), (332, 2, 330, 66, 331, 1), (596, 2, 594, 66, 595, 1), (142, 1, 141, 67, 0, 3), (541, 1, 540, 80, 0, 2), (357, 2, 355, 80, 356, 2), (344, 2, 342, 80, 343, 2), (350, 0, 349, 80, 0, 3), (640, 2, 638, 80, 639, 1), (611, 2, 609, 80, 610, 1), (567, 1, 566, 81, 0, 0), (324, 2, 322, 81, 323, 1), (929, 2, 927, 81, 928, 2), (102, 1, 101, 62, 0, 0), (494, 2, 492, 62, 493, 2), (563, 2, 561, 62, 562, 0), (272, 2, 270, 62, 271, 0), (587, 2, 585, 62, 586, 2), (909, 2, 907, 62, 908, 2), (936, 2, 934, 62, 935, 3), (958, 2, 956, 62, 957, 6), (1048, 2, 1046, 62, 1047, 6), (1056, 2, 1054, 62, 1055, 6), (1063, 2, 1061, 62, 1062, 1), (1090, 2, 1088, 62, 1089, 1), (276, 2, 274, 62, 275, 0), (1097, 2, 1095, 62, 1096, 0), (1113, 2, 1111, 62, 1112, 3), (1120, 2, 1118, 62, 1119, 2), (1127, 2, 1125, 62, 1126, 2), (1134, 2, 1132, 62, 1133, 2), (1141, 2, 1139, 62, 1140, 4), (1152, 2, 1150, 62, 1151, 4), (1159, 2, 1157, 62, 1158, 2), (1166, 2, 1164, 62, 1165, 2), (1191, 2, 1189, 62, 1190, 3), (1223, 2, 1221, 62, 1222, 1), (1230, 2, 1228, 62, 1229, 1), (1237, 2, 1235, 62, 1236, 2), (1244, 2, 1242, 62, 1243, 2), (1253, 2, 1251, 62, 1252, 2), (1263, 2, 1261, 62, 1262, 2), (1270, 2, 1268, 62, 1269, 2), (1277, 2, 1275, 62, 1276, 2), (1284, 2, 1282, 62, 1283, 2), (1291, 2, 1289, 62, 1290, 2), (1318, 2, 1316, 62, 1317, 2), (1326, 2, 1324, 62, 1325, 2), (1336, 2, 1334, 62, 1335, 1), (1343, 2, 1341, 62, 1342, 1), (1350, 2, 1348, 62, 1349, 1), (284, 2, 282, 62, 283, 0), (1357, 2, 1355, 62, 1356, 2), (1365, 2, 1363, 62, 1364, 0), (303, 2, 301, 62, 302, 0), (517, 0, 516, 62, 0, 3), (521, 0, 520, 62, 0, 2), (971, 2, 970, 62, 28, 3), (967, 2, 966, 62, 27, 4), (394, 2, 393, 62, 16, 1), (390, 2, 389, 62, 15, 1), (962, 2, 961, 62, 26, 1), (498, 2, 497, 62, 19, 1), (1067, 2, 1066, 62, 29, 1), (1201, 2, 1200, 62, 34, 1), (591, 0, 590, 62, 0, 4), (320, 2, 319, 62, 6, 4), (328, 2, 327, 62, 7, 4), (361, 2, 360, 62, 9, 1), (600, 2, 599, 62, 20, 0), (316, 2, 315, 62, 5, 6), (312, 2, 311, 62, 4, 1), (336, 2, 335, 62, 8, 4), (353, 0, 352, 62, 0, 6), (636, 0, 635, 62, 0, 1), (629, 2, 628, 62, 22, 0), (633, 2, 632, 62, 23, 0), (1073, 2, 1072, 62, 30, 1), (607, 0, 606, 62, 0, 1), (485, 0, 484, 62, 0, 4), (479, 0, 478, 62, 0, 2), (482, 0, 481, 62, 0, 2), (1144, 0, 1143, 62, 0, 4), (1196, 2, 1195, 62, 33, 2), (374, 2, 373, 62, 12, 1), (377, 0, 376, 62, 0, 2), (1106, 2, 1105, 62, 32, 1), (1256, 0, 1255, 62, 0, 3), (1079, 0, 1078, 62, 0, 2), (1076, 0, 1075, 62, 0, 1), (1102, 2, 1101, 62, 31, 1), (1083, 0, 1082, 62, 0, 2), (1296, 2, 1295, 62, 35, 2), (1300, 0, 1299, 62, 0, 3), (1303, 0, 1302, 62, 0, 1), (386, 2, 385, 62, 14, 1), (307, 2, 306, 62, 3, 0), (365, 2, 364, 62, 10, 2), (369, 2, 368, 62, 11, 0), (382, 2, 381, 62, 13, 0), (475, 2, 474, 62, 18, 0), (1371, 1, 1370, 72, 0, 0), (1476, 2, 1474, 72, 1475, 0), (1494, 2, 1493, 72, 36, 1), (1486, 0, 1485, 72, 0, 3), (1483, 0, 1482, 72, 0, 1), (1550, 2, 1549, 72, 47, 1), (1569, 2, 1568, 72, 49, 1), (1589, 2, 1588, 72, 51, 1), (1480, 2, 1478, 72, 1479, 2), (1490, 2, 1488, 72, 1489, 0), (1498, 2, 1496, 72, 1497, 0), (1506, 2, 1505, 72, 37, 2), (1514, 2, 1513, 72, 39, 3), (1510, 2, 1509, 72, 38, 3), (1502, 2, 1500, 72, 1501, 2), (1546, 2, 1544, 72, 1545, 2), (1554, 2, 1552, 72, 1553, 3), (1534, 2, 1533, 72, 44, 1), (1530, 2, 1529, 72, 43, 4), (1542, 2, 1541, 72, 46, 3), (1538, 2, 1537, 72, 45, 5), (1526, 2, 1525, 72, 42, 4), (1522, 2, 1521, 72, 41, 6), (1518, 2, 1517, 72, 40, 0), (1565, 0, 1564, 72, 0, 1), (1562, 2, 1561, 72, 48, 6), (1573, 2, 1572, 72, 50, 7), (1558, 2, 1556, 72, 1557, 6), (1577, 2, 1575, 72, 1576, 6), (1581, 2, 1579, 72, 1580, 6), (1585, 2, 1583, 72, 1584, 1), (1599, 2, 1597, 72, 1598, 1), (1603, 2, 1601, 72, 1602, 0), (1607, 2, 1605, 72, 1606, 0), (1623, 2, 1622, 72, 55, 3), (1619, 2, 1618, 72, 54, 3), (1615, 2, 1614, 72, 53, 3), (1611, 2, 1609, 72, 1610, 3), (1644, 2, 1643, 72, 57, 3), (1631, 2, 1630, 72, 56, 2), (1627, 2, 1625, 72, 1626, 2), (1635, 2, 1633, 72, 1634, 2), (1640, 2, 1638, 72, 1639, 2), (1648, 2, 1646, 72, 1647, 4), (1652, 2, 1650, 72, 1651, 4), (1657, 2, 1655, 72, 1656, 2), (1661, 2, 1659, 72, 1660, 2), (1669, 2, 1668, 72, 58, 1), (1665, 2, 1663, 72, 1664, 3), (1673, 2, 1671, 72, 1672, 1), (1677, 2, 1675, 72, 1676, 1), (1682, 2, 1680, 72, 1681, 2), (1593, 2, 1592, 72, 52, 2), (1686, 2, 1684, 72, 1685, 2), (1694, 2, 1693, 72, 59, 4), (1690, 2, 1688, 72, 1689, 2), (1698, 2, 1696, 72, 1697, 2), (1702, 2, 1700, 72, 1701, 2), (1706, 2, 1704, 72, 1705, 2), (1710, 2, 1708, 72, 1709, 2), (1714, 2, 1712, 72, 1713, 2), (1720, 2, 1718, 72, 1719, 2), (1730, 2, 1729, 72, 60, 1), (1724, 2, 1722, 72, 1723, 2), (1734, 2, 1732, 72, 1733, 1), (1738, 2, 1736, 72, 1737, 1), (1743, 2, 1741, 72, 1742, 1), (1747, 2, 1745, 72, 1746, 0), (1751, 2, 1749, 72, 1750, 2), (1756, 2, 1754, 72, 1755, 0), (1760, 2, 1758, 72, 1759, 0), (488, 0, 487, 61, 0, 4), (559, 0, 558, 61, 0, 2), (583, 0, 582, 61, 0, 4), (888, 0, 887, 61, 0, 4), (932, 0, 931, 61, 0, 5), (939, 0, 938, 61, 0, 8), (1044, 0, 1043, 61, 0, 8), (1052, 0, 1051, 61, 0, 8), (1059, 0, 1058, 61, 0, 3), (1086, 0, 1085, 61, 0, 3), (1093, 0, 1092, 61, 0, 2), (1109, 0, 1108, 61, 0, 5), (1116, 0, 1115, 61, 0, 4), (1123, 0, 1122, 61, 0, 4), (1130, 0, 1129, 61, 0, 4), (1137, 0, 1136, 61, 0, 6), (1148, 0, 1147, 61, 0, 6), (1155, 0, 1154, 61, 0, 4), (1162, 0, 1161, 61, 0, 4), (1187, 0, 1186, 61, 0, 5), (1219, 0, 1218, 61, 0, 3), (1226, 0, 1225, 61, 0, 3), (1233, 0, 1232, 61, 0, 4), (1240, 0, 1239, 61, 0, 4), (1249, 0, 1248, 61, 0, 4), (1259, 0, 1258, 61, 0, 4), (1266, 0, 1265, 61, 0, 4), (1273, 0, 1272, 61, 0, 4), (1280, 0, 1279, 61, 0, 4), (1287, 0, 1286, 61, 0, 4), (1314, 0, 1313, 61, 0, 4), (1322, 0, 1321, 61, 0, 4), (1332, 0, 1331, 61, 0, 3), (1339, 0, 1338, 61, 0, 3), (1346, 0, 1345, 61, 0, 3), (1353, 0, 1352, 61, 0, 4), (1361, 0, 1360, 61, 0, 2), (0, 9, 0, 0, 0, 0)]
def fltab : List (Nat × Nat × Nat × Nat × Nat) := [(5, 7, 5, 0, 144), (8, 431, 5, 0, 145), (5, 13, 5, 1, 146), (8, 428, 5, 1, 147), (5, 16, 5, 2, 148), (8, 434, 5, 2, 149), (5, 20, 5, 3, 150), (8, 282, 5, 3, 151), (4, 27, 4, 0, 162), (4, 24, 4, 1, 163), (7, 22, 4, 1, 164), (4, 9, 4, 2, 165), (4, 20, 4, 3, 166), (8, 278, 4, 3, 167), (8, 10, 8, 0, 244), (8, 16, 8, 1, 245), (8, 19, 8, 2, 246), (8, 22, 8, 3, 247), (8, 25, 8, 4, 248), (8, 28, 8, 5, 249), (8, 31, 8, 6, 250), (8, 35, 8, 7, 251), (6, 16, 6, 0, 545), (8, 375, 6, 0, 546), (6, 20, 6, 1, 547), (6, 10, 6, 2, 548), (8, 216, 6, 2, 549), (7, 9, 7, 0, 569), (7, 15, 7, 1, 570), (8, 312, 7, 1, 571), (7, 19, 7, 2, 572), (8, 324, 7, 2, 573), (3, 26, 3, 0, 999), (8, 371, 3, 0, 1000), (3, 30, 3, 1, 1001), (8, 240, 3, 1, 1002), (3, 34, 3, 2, 1003), (6, 38, 3, 2, 1004), (8, 195, 3, 2, 1005), (3, 37, 3, 3, 1006), (6, 41, 3, 3, 1007), (8, 387, 3, 3, 1008), (3, 40, 3, 4, 1009), (8, 337, 3, 4, 1010), (3, 43, 3, 5, 1011), (8, 394, 3, 5, 1012), (3, 46, 3, 6, 1013), (8, 219, 3, 6, 1014), (3, 12, 3, 7, 1015), (8, 250, 3, 7, 1016), (3, 18, 3, 8, 1017), (8, 185, 3, 8, 1018), (3, 22, 3, 9, 1019), (8, 333, 3, 9, 1020), (0, 7, 0, 0, 1172), (8, 420, 0, 0, 1173), (0, 13, 0, 1, 1174), (8, 423, 0, 1, 1175), (0, 16, 0, 2, 1176), (8, 267, 0, 2, 1177), (2, 7, 2, 0, 1208), (8, 410, 2, 0, 1209), (2, 13, 2, 1, 1210), (8, 414, 2, 1, 1211), (1, 7, 1, 0, 1308), (9, 9, 9, 0, 1379), (9, 13, 9, 1, 1380), (9, 98, 9, 2, 1381), (9, 95, 9, 3, 1382), (9, 18, 9, 4, 1383), (9, 21, 9, 5, 1384), (9, 27, 9, 6, 1385), (9, 112, 9, 7, 1386), (9, 30, 9, 8, 1387), (9, 33, 9, 9, 1388), (9, 36, 9, 10, 1389), (9, 39, 9, 11, 1390), (9, 42, 9, 12, 1391), (9, 45, 9, 13, 1392), (9, 49, 9, 14, 1393), (9, 52, 9, 15, 1394), (9, 55, 9, 16, 1395), (9, 58, 9, 17, 1396), (9, 61, 9, 18, 1397), (9, 101, 9, 19, 1398), (9, 64, 9, 20, 1399), (9, 67, 9, 21, 1400), (9, 199, 9, 22, 1401), (9, 70, 9, 23, 1402), (9, 75, 9, 24, 1403), (9, 78, 9, 25, 1404), (9, 81, 9, 26, 1405), (9, 84, 9, 27, 1406), (9, 221, 9, 28, 1407), (9, 87, 9, 29, 1408)]
def mltab : List (Nat × Nat × Nat × Nat) := [(10, 145, 20, 100), (8, 41, 7, 134), (4, 17, 10, 140), (10, 162, 23, 269), (10, 193, 32, 273), (10, 273, 58, 281), (10, 286, 61, 300), (8, 342, 103, 304), (8, 404, 78, 309), (8, 133, 77, 313), (8, 122, 73, 317), (8, 115, 18, 321), (8, 106, 74, 325), (8, 88, 8, 329), (8, 383, 79, 333), (8, 390, 6, 337), (8, 201, 13, 341), (6, 34, 14, 348), (8, 236, 80, 351), (8, 222, 12, 354), (8, 379, 75, 358), (8, 446, 104, 362), (8, 345, 105, 366), (8, 270, 91, 371), (8, 424, 92, 375), (8, 348, 106, 379), (8, 330, 102, 383), (8, 102, 67, 387), (8, 320, 66, 391), (8, 315, 2, 468), (8, 351, 107, 472), (8, 209, 87, 477), (8, 213, 88, 480), (8, 205, 86, 483), (10, 149, 179, 486), (10, 7, 21, 491), (8, 48, 69, 495), (8, 52, 62, 515), (8, 60, 63, 519), (8, 66, 11, 539), (10, 158, 180, 557), (10, 17, 22, 560), (8, 71, 17, 565), (10, 166, 181, 581), (10, 21, 24, 584), (8, 79, 72, 589), (8, 92, 9, 593), (8, 96, 76, 597), (8, 164, 5, 601), (8, 174, 85, 605), (8, 407, 16, 608), (6, 44, 13, 612), (8, 99, 82, 626), (8, 400, 83, 630), (8, 154, 81, 634), (8, 397, 15, 637), (10, 169, 182, 886), (10, 25, 25, 906), (8, 119, 19, 926), (10, 172, 183, 930), (10, 32, 26, 933), (10, 176, 184, 937), (10, 36, 27, 955), (8, 125, 68, 959), (8, 129, 65, 964), (8, 226, 64, 968), (8, 151, 4, 993), (10, 180, 185, 1042), (10, 44, 28, 1045), (10, 183, 186, 1050), (10, 47, 29, 1053), (10, 186, 187, 1057), (10, 51, 30, 1060), (8, 160, 70, 1064), (8, 170, 84, 1070), (8, 177, 96, 1074), (8, 294, 95, 1077), (8, 181, 98, 1081), (10, 190, 188, 1084), (10, 55, 31, 1087), (10, 197, 189, 1091), (10, 58, 33, 1094), (8, 198, 97, 1099), (8, 274, 93, 1103), (10, 200, 190, 1107), (10, 61, 34, 1110), (10, 203, 191, 1114), (10, 65, 35, 1117), (10, 206, 192, 1121), (10, 68, 36, 1124), (10, 209, 193, 1128), (10, 71, 37, 1131), (10, 212, 194, 1135), (10, 74, 38, 1138), (8, 230, 89, 1142), (10, 216, 195, 1146), (10, 78, 39, 1149), (10, 219, 196, 1153), (10, 81, 40, 1156), (10, 222, 197, 1160), (10, 84, 41, 1163), (8, 246, 0, 1168), (10, 225, 198, 1185), (10, 87, 42, 1188), (8, 253, 90, 1193), (8, 258, 71, 1198), (8, 264, 3, 1204), (10, 228, 199, 1217), (10, 91, 43, 1220), (10, 231, 200, 1224), (10, 95, 44, 1227), (10, 234, 201, 1231), (10, 98, 45, 1234), (10, 237, 202, 1238), (10, 101, 46, 1241), (8, 287, 10, 1246), (10, 240, 203, 1247), (10, 104, 47, 1250), (8, 290, 94, 1254), (10, 243, 204, 1257), (10, 107, 48, 1260), (10, 246, 205, 1264), (10, 110, 49, 1267), (10, 249, 206, 1271), (10, 113, 50, 1274), (10, 252, 207, 1278), (10, 116, 51, 1281), (10, 255, 208, 1285), (10, 119, 52, 1288), (8, 299, 99, 1293), (8, 305, 100, 1298), (8, 442, 101, 1301), (8, 309, 1, 1304), (10, 258, 209, 1312), (10, 122, 53, 1315), (10, 261, 210, 1320), (10, 125, 54, 1323), (10, 264, 211, 1330), (10, 128, 55, 1333), (10, 267, 212, 1337), (10, 131, 56, 1340), (10, 270, 213, 1344), (10, 134, 57, 1347), (10, 278, 214, 1351), (10, 137, 59, 1354), (10, 282, 215, 1359), (10, 141, 60, 1362), (10, 148, 108, 1369), (10, 155, 109, 1473), (10, 154, 116, 1477), (9, 104, 112, 1481), (9, 91, 111, 1484), (10, 161, 117, 1487), (9, 108, 110, 1491), (10, 165, 118, 1495), (10, 168, 122, 1499), (9, 115, 119, 1503), (9, 122, 121, 1507), (9, 119, 120, 1511), (9, 125, 131, 1515), (9, 149, 130, 1519), (9, 142, 129, 1523), (9, 134, 126, 1527), (9, 131, 125, 1531), (9, 145, 128, 1535), (9, 138, 127, 1539), (10, 171, 123, 1543), (9, 128, 113, 1547), (10, 175, 124, 1551), (10, 179, 135, 1555), (9, 160, 133, 1559), (9, 153, 132, 1563), (9, 157, 114, 1566), (9, 164, 134, 1570), (10, 182, 136, 1574), (10, 185, 137, 1578), (10, 189, 138, 1582), (9, 168, 115, 1586), (9, 171, 160, 1590), (10, 192, 139, 1596), (10, 196, 140, 1600), (10, 199, 141, 1604), (10, 202, 145, 1608), (9, 178, 144, 1612), (9, 181, 143, 1616), (9, 175, 142, 1620), (10, 205, 148, 1624), (9, 185, 147, 1628), (10, 208, 149, 1632), (9, 188, 148, 1636), (10, 211, 150, 1637), (9, 191, 146, 1641), (10, 215, 151, 1645), (10, 218, 152, 1649), (9, 195, 151, 1653), (10, 221, 153, 1654), (10, 224, 154, 1658), (10, 227, 156, 1662), (9, 202, 155, 1666), (10, 230, 157, 1670), (10, 233, 158, 1674), (9, 205, 157, 1678), (10, 236, 159, 1679), (10, 239, 161, 1683), (10, 242, 163, 1687), (9, 216, 162, 1691), (10, 245, 164, 1695), (10, 248, 165, 1699), (10, 251, 166, 1703), (10, 254, 167, 1707), (10, 257, 168, 1711), (10, 260, 169, 1717), (10, 263, 171, 1721), (9, 229, 170, 1727), (10, 266, 172, 1731), (10, 269, 173, 1735), (9, 233, 172, 1739), (10, 272, 174, 1740), (10, 277, 175, 1744), (10, 281, 176, 1748), (10, 285, 177, 1753), (10, 290, 178, 1757)]
/-- 0 ArrayList(), 1 add(E), 2 get, 3 size, 4 remove(int), 5 clear, 6 add(int, E), 7 Math.max, 8 Math.min, 9 Object() -/
def jltab : List (Nat × Nat × Nat × Nat) := [(8, 1, 9, 103), (8, 9, 0, 108), (4, 3, 9, 137), (5, 1, 9, 143), (8, 44, 1, 177), (8, 56, 3, 277), (8, 191, 2, 285), (6, 24, 3, 345), (6, 28, 2, 346), (6, 1, 9, 542), (6, 9, 0, 544), (7, 3, 9, 568), (6, 52, 4, 613), (8, 417, 5, 622), (6, 48, 6, 641), (3, 3, 9, 996), (3, 11, 0, 998), (8, 437, 8, 1080), (0, 1, 9, 1171), (2, 1, 9, 1207), (1, 1, 9, 1307), (9, 1, 9, 1372), (9, 208, 7, 1594), (9, 213, 8, 1595)]
def cltab : List (Nat × Nat × Nat × Nat) := [(10, 8, 8, 98), (8, 7, 11, 106), (8, 39, 4, 132), (4, 15, 5, 138), (8, 69, 7, 299), (8, 149, 3, 308), (6, 32, 3, 347), (8, 244, 0, 370), (8, 262, 2, 378), (8, 303, 1, 467), (8, 64, 6, 476), (6, 7, 11, 543), (3, 9, 11, 997), (8, 283, 5, 1245), (10, 146, 9, 1367)]
def cotab : List (Nat × Nat × Int32 × Nat) := [(8, 298, 100000, 1292), (8, 323, 1000000, 1327), (8, 327, 1000000000, 1328), (9, 220, 100000, 1715), (9, 226, 1000000, 1725)]
def coLtab : List (Nat × Nat × Int64 × Nat) := [(9, 224, -1, 1716), (9, 227, 1000000000, 1726)]
def coFtab : List (Nat × Nat × UInt32 × Nat) := [(8, 336, 1139802112, 1358), (9, 236, 1139802112, 1752)]
def altab : List (Nat × Nat × Nat) := [(4, 5, 17), (7, 10, 5), (11, 5, 16), (17, 6, 20), (20, 5, 10), (20, 16, 11), (20, 27, 12), (20, 38, 13), (20, 49, 14), (20, 60, 15), (20, 72, 21), (20, 93, 4), (21, 29, 6), (22, 16, 7), (27, 106, 3), (28, 93, 3), (41, 30, 0), (42, 93, 2), (46, 23, 5), (52, 33, 22), (52, 83, 1), (94, 13, 5), (100, 2, 23), (100, 13, 24), (108, 7, 25), (108, 15, 26), (108, 24, 27), (108, 34, 29), (108, 42, 30), (108, 53, 32), (108, 62, 33), (108, 71, 34), (108, 80, 35), (108, 89, 36), (108, 98, 37), (108, 107, 38), (108, 116, 39), (108, 125, 40), (108, 135, 41), (108, 147, 43), (108, 157, 45), (108, 165, 46), (108, 172, 47), (108, 181, 48), (108, 192, 50), (108, 201, 52), (108, 211, 53), (160, 4, 55), (168, 55, 56), (168, 184, 57), (216, 0, 8), (216, 8, 9), (216, 17, 58), (216, 21, 59)]
/-- throw new E("text"): method, pc, exception (0 IndexOutOfBounds, 1 IllegalArgument, 2 UnsupportedOperation, 3 Arithmetic, 4 NoSuchElement, 5 IllegalState), entries of the class, the text, the constructor; wide ldc; the text -/
def thtab : List (Nat × Nat × Nat × Nat × Nat × Nat × Nat × String × Nat) := [(24, 19, 1, 72, 74, 76, 0, "a kind does not need itself", 588),
  (24, 43, 5, 83, 85, 87, 0, "the other kind needs this kind", 592),
  (25, 28, 2, 110, 112, 114, 0, "an induction that it needs is not live", 919),
  (27, 49, 2, 110, 137, 114, 0, "the induction is not live on the day", 972),
  (27, 66, 3, 139, 141, 143, 0, "a booked entry of the member overlaps it", 974),
  (27, 83, 4, 144, 146, 148, 0, "the time is not free", 985),
  (28, 49, 2, 110, 137, 114, 0, "the induction is not live on the day", 972),
  (28, 66, 5, 83, 158, 87, 0, "the entry could be booked", 1049),
  (30, 13, 5, 83, 168, 87, 0, "the entry is neither waiting nor booked", 1069),
  (33, 10, 5, 83, 189, 87, 0, "the present day is the last one", 1098),
  (38, 32, 4, 144, 234, 148, 0, "no time is free", 1145),
  (39, 62, 4, 144, 234, 148, 0, "no time is free", 1145),
  (42, 31, 5, 83, 248, 87, 0, "the entry is not booked", 1192),
  (42, 69, 2, 110, 256, 114, 1, "no bar is long enough", 1197),
  (53, 15, 4, 144, 318, 148, 1, "there is no such breakage", 1319),
  (54, 26, 5, 83, 328, 87, 1, "the member would have paid too much", 1329),
  (60, 61, 3, 139, 340, 143, 1, "no entry is done", 1366),
  (62, 10, 1, 72, 354, 76, 1, "a number is out of range", 518),
  (63, 5, 5, 83, 356, 87, 1, "there is no room for another one", 531),
  (66, 15, 0, 358, 360, 362, 1, "there is no such member", 440),
  (68, 15, 0, 358, 363, 362, 1, "there is no such machine", 963),
  (69, 15, 1, 72, 365, 76, 1, "the kind is out of range", 508),
  (70, 15, 4, 144, 367, 148, 1, "there is no such entry", 1068),
  (71, 15, 4, 144, 369, 148, 1, "there is no such bar", 1202)]
def extab : List (Nat × Nat × Nat × Nat) := [(8, 358, 0, 395), (10, 13, 1, 489), (10, 15, 5, 490), (8, 72, 1, 499), (8, 83, 5, 522), (10, 28, 0, 889), (10, 30, 2, 905), (8, 110, 2, 910), (10, 40, 3, 940), (10, 42, 4, 954), (8, 139, 3, 973), (8, 144, 4, 976)]
def exnm (k : Nat) : String := (["java/lang/IndexOutOfBoundsException", "java/lang/IllegalArgumentException", "java/lang/UnsupportedOperationException", "java/lang/ArithmeticException", "java/util/NoSuchElementException", "java/lang/IllegalStateException"] : List String).getD k ""
def matab : List (Nat × Nat × Nat × Nat) := [(9, 16, 5, 1373), (9, 25, 6, 1375), (9, 73, 7, 1377)]
/-- what a site makes: (0, class), (1, kind of component), (2, 0) a list, (3, 0) what was caught, (4, 0) the script -/
def sktab : List (Nat × Nat) := [(0, 0), (0, 1), (0, 2), (0, 3), (0, 4), (0, 5), (0, 6), (0, 7), (0, 8), (0, 9), (2, 0), (2, 0), (2, 0), (2, 0), (2, 0), (2, 0), (2, 0), (2, 0), (9, 0), (9, 0), (1, 0), (1, 0), (1, 0), (1, 0), (1, 0), (1, 0), (1, 0), (1, 5), (1, 0), (1, 1), (1, 6), (1, 2), (1, 0), (1, 0), (1, 0), (1, 0), (1, 0), (1, 3), (1, 3), (1, 0), (1, 0), (1, 5), (1, 0), (1, 5), (1, 0), (1, 0), (1, 0), (1, 0), (1, 7), (1, 3), (1, 5), (1, 0), (1, 0), (1, 5), (1, 0), (1, 0), (1, 0), (1, 1), (1, 1), (1, 4), (3, 0), (4, 0)]
abbrev sX : Nat := 60
abbrev sScr : Nat := 61
abbrev nX0_init : Nat := 0
abbrev nX1_init : Nat := 1
abbrev nX1_share : Nat := 2
abbrev nX2_init : Nat := 3
abbrev nX3_init : Nat := 4
abbrev nX3_isOpen : Nat := 5
abbrev nX3_overlaps : Nat := 6
abbrev nX4_init : Nat := 7
abbrev nX4_needs : Nat := 8
abbrev nX4_addNeeded : Nat := 9
abbrev nX5_init : Nat := 10
abbrev nX6_init : Nat := 11
abbrev nX6_setupBetween : Nat := 12
abbrev nX6_placeOf : Nat := 13
abbrev nX6_isBefore : Nat := 14
abbrev nX6_hold : Nat := 15
abbrev nX6_release : Nat := 16
abbrev nX7_init : Nat := 17
abbrev nX7_lastTaken : Nat := 18
abbrev nX7_take : Nat := 19
abbrev nX8_init : Nat := 20
abbrev nX8_addMachine : Nat := 21
abbrev nX8_addMember : Nat := 22
abbrev nX8_day : Nat := 23
abbrev nX8_addNeed : Nat := 24
abbrev nX8_induct : Nat := 25
abbrev nX8_isLive : Nat := 26
abbrev nX8_book : Nat := 27
abbrev nX8_await : Nat := 28
abbrev nX8_check : Nat := 29
abbrev nX8_cancel : Nat := 30
abbrev nX8_stateOf : Nat := 31
abbrev nX8_entries : Nat := 32
abbrev nX8_endDay : Nat := 33
abbrev nX8_minuteAt : Nat := 34
abbrev nX8_usedMinutes : Nat := 35
abbrev nX8_usedByMinutes : Nat := 36
abbrev nX8_setupMinutes : Nat := 37
abbrev nX8_firstStart : Nat := 38
abbrev nX8_firstByMinutes : Nat := 39
abbrev nX8_waiting : Nat := 40
abbrev nX8_deliver : Nat := 41
abbrev nX8_cut : Nat := 42
abbrev nX8_freeOf : Nat := 43
abbrev nX8_freeByCuts : Nat := 44
abbrev nX8_setPrice : Nat := 45
abbrev nX8_setRate : Nat := 46
abbrev nX8_addFee : Nat := 47
abbrev nX8_addCap : Nat := 48
abbrev nX8_addDouble : Nat := 49
abbrev nX8_addDiscount : Nat := 50
abbrev nX8_costOf : Nat := 51
abbrev nX8_breakDown : Nat := 52
abbrev nX8_shareOf : Nat := 53
abbrev nX8_pay : Nat := 54
abbrev nX8_owes : Nat := 55
abbrev nX8_owesByEntries : Nat := 56
abbrev nX8_dueOf : Nat := 57
abbrev nX8_takings : Nat := 58
abbrev nX8_use : Nat := 59
abbrev nX8_meanMinutes : Nat := 60
abbrev nX8_isSound : Nat := 61
abbrev nX8_requireRange : Nat := 62
abbrev nX8_requireRoom : Nat := 63
abbrev nX8_requireWish : Nat := 64
abbrev nX8_requireTime : Nat := 65
abbrev nX8_requireMember : Nat := 66
abbrev nX8_memberAt : Nat := 67
abbrev nX8_machineAt : Nat := 68
abbrev nX8_kindAt : Nat := 69
abbrev nX8_entryAt : Nat := 70
abbrev nX8_barAt : Nat := 71
abbrev nX8_leadsTo : Nat := 72
abbrev nX8_hasLive : Nat := 73
abbrev nX8_hasLiveNeeds : Nat := 74
abbrev nX8_hasInduction : Nat := 75
abbrev nX8_cancelWithoutInduction : Nat := 76
abbrev nX8_judge : Nat := 77
abbrev nX8_canBeBooked : Nat := 78
abbrev nX8_isBusy : Nat := 79
abbrev nX8_isFree : Nat := 80
abbrev nX8_makeBooked : Nat := 81
abbrev nX8_bookWaiting : Nat := 82
abbrev nX8_firstToBook : Nat := 83
abbrev nX8_letterOfCancelling : Nat := 84
abbrev nX8_withdraw : Nat := 85
abbrev nX8_letterOfMinute : Nat := 86
abbrev nX8_addLengths : Nat := 87
abbrev nX8_countMinutes : Nat := 88
abbrev nX8_firstStartInGaps : Nat := 89
abbrev nX8_tightestBar : Nat := 90
abbrev nX8_lengthLeft : Nat := 91
abbrev nX8_lengthTaken : Nat := 92
abbrev nX8_priceOf : Nat := 93
abbrev nX8_addLayer : Nat := 94
abbrev nX8_ask : Nat := 95
abbrev nX8_priceOfTime : Nat := 96
abbrev nX8_priceOfCuts : Nat := 97
abbrev nX8_charge : Nat := 98
abbrev nX8_minutesToBlame : Nat := 99
abbrev nX8_split : Nat := 100
abbrev nX8_placeOfGreatest : Nat := 101
abbrev nX8_addDebts : Nat := 102
abbrev nX8_areEntriesSound : Nat := 103
abbrev nX8_clashesWithLater : Nat := 104
abbrev nX8_doBarsAgree : Nat := 105
abbrev nX8_doDebtsAgree : Nat := 106
abbrev nX8_doMinutesAgree : Nat := 107
abbrev nX9_init : Nat := 108
abbrev nX9_thrown : Nat := 109
abbrev nX9_raises : Nat := 110
abbrev nX9_in : Nat := 111
abbrev nX9_isKind : Nat := 112
abbrev nX9_isMember : Nat := 113
abbrev nX9_isMachine : Nat := 114
abbrev nX9_isEntry : Nat := 115
abbrev nX9_addMachine : Nat := 116
abbrev nX9_addMember : Nat := 117
abbrev nX9_day : Nat := 118
abbrev nX9_reaches : Nat := 119
abbrev nX9_live : Nat := 120
abbrev nX9_liveFor : Nat := 121
abbrev nX9_addNeed : Nat := 122
abbrev nX9_induct : Nat := 123
abbrev nX9_isLive : Nat := 124
abbrev nX9_endOf : Nat := 125
abbrev nX9_overlaps : Nat := 126
abbrev nX9_setup : Nat := 127
abbrev nX9_isFree : Nat := 128
abbrev nX9_isBusy : Nat := 129
abbrev nX9_letter : Nat := 130
abbrev nX9_gives : Nat := 131
abbrev nX9_isWork : Nat := 132
abbrev nX9_lacks : Nat := 133
abbrev nX9_adds : Nat := 134
abbrev nX9_book : Nat := 135
abbrev nX9_await : Nat := 136
abbrev nX9_check : Nat := 137
abbrev nX9_cancel : Nat := 138
abbrev nX9_stateOf : Nat := 139
abbrev nX9_entries : Nat := 140
abbrev nX9_endDay : Nat := 141
abbrev nX9_stands : Nat := 142
abbrev nX9_minute : Nat := 143
abbrev nX9_may : Nat := 144
abbrev nX9_minuteAt : Nat := 145
abbrev nX9_minutes : Nat := 146
abbrev nX9_used : Nat := 147
abbrev nX9_usedMinutes : Nat := 148
abbrev nX9_usedByMinutes : Nat := 149
abbrev nX9_setupMinutes : Nat := 150
abbrev nX9_firstStart : Nat := 151
abbrev nX9_firstByMinutes : Nat := 152
abbrev nX9_waiting : Nat := 153
abbrev nX9_deliver : Nat := 154
abbrev nX9_free : Nat := 155
abbrev nX9_cut : Nat := 156
abbrev nX9_freeOf : Nat := 157
abbrev nX9_freeByCuts : Nat := 158
abbrev nX9_setPrice : Nat := 159
abbrev nX9_cost : Nat := 160
abbrev nX9_setRate : Nat := 161
abbrev nX9_lays : Nat := 162
abbrev nX9_addFee : Nat := 163
abbrev nX9_addCap : Nat := 164
abbrev nX9_addDouble : Nat := 165
abbrev nX9_addDiscount : Nat := 166
abbrev nX9_costOf : Nat := 167
abbrev nX9_breakDown : Nat := 168
abbrev nX9_shareOf : Nat := 169
abbrev nX9_owed : Nat := 170
abbrev nX9_pay : Nat := 171
abbrev nX9_owes : Nat := 172
abbrev nX9_owesByEntries : Nat := 173
abbrev nX9_dueOf : Nat := 174
abbrev nX9_takings : Nat := 175
abbrev nX9_use : Nat := 176
abbrev nX9_meanMinutes : Nat := 177
abbrev nX9_isSound : Nat := 178
abbrev nL_addMachine : Nat := 179
abbrev nL_addMember : Nat := 180
abbrev nL_addNeed : Nat := 181
abbrev nL_induct : Nat := 182
abbrev nL_isLive : Nat := 183
abbrev nL_book : Nat := 184
abbrev nL_await : Nat := 185
abbrev nL_check : Nat := 186
abbrev nL_cancel : Nat := 187
abbrev nL_stateOf : Nat := 188
abbrev nL_endDay : Nat := 189
abbrev nL_minuteAt : Nat := 190
abbrev nL_usedMinutes : Nat := 191
abbrev nL_usedByMinutes : Nat := 192
abbrev nL_setupMinutes : Nat := 193
abbrev nL_firstStart : Nat := 194
abbrev nL_firstByMinutes : Nat := 195
abbrev nL_waiting : Nat := 196
abbrev nL_deliver : Nat := 197
abbrev nL_cut : Nat := 198
abbrev nL_freeOf : Nat := 199
abbrev nL_freeByCuts : Nat := 200
abbrev nL_setPrice : Nat := 201
abbrev nL_setRate : Nat := 202
abbrev nL_addFee : Nat := 203
abbrev nL_addCap : Nat := 204
abbrev nL_addDouble : Nat := 205
abbrev nL_addDiscount : Nat := 206
abbrev nL_costOf : Nat := 207
abbrev nL_breakDown : Nat := 208
abbrev nL_shareOf : Nat := 209
abbrev nL_pay : Nat := 210
abbrev nL_owes : Nat := 211
abbrev nL_owesByEntries : Nat := 212
abbrev nL_dueOf : Nat := 213
abbrev nL_use : Nat := 214
abbrev nL_meanMinutes : Nat := 215
abbrev nL_law : Nat := 216
end
section
/-! what the numbered tables say is among lw_tbl: checked by the kernel, a list at a time -/
/-- the classes of objects by number: class, reference, and lists -/
def vcl : List vw_C := [(RX0, TX0, 3), (RX1, TX1, 1), (RX2, TX2, 2), (RX3, TX3, 10), (RX4, TX4, 4), (RX5, TX5, 4), (RX6, TX6, 3), (RX7, TX7, 3), (RX8, TX8, 8), (RX9, TX9, 30), (RJx4a65c, TJx4a65c, 3)]
def vtys : List (Nat → FieldType) := [tyX0, tyX1, tyX2, tyX3, tyX4, tyX5, tyX6, tyX7, tyX8, tyX9, tyJx4a65c]
def mcl (y : Nat) : Nat := mclt.getD y 99
def mword (r : MRow) : Cond := match r.2.2.2.2 with
  | [] => .code r.1 r.2.1 r.2.2.1 r.2.2.2.1
  | hh => .codeWith r.1 r.2.1 r.2.2.1 r.2.2.2.1 hh
theorem mc_of {l : List MRow} {ps : List Nat} (h : l.map mword = ps.filterMap (fun i => lw_tbl[i]?)) : ∀ r ∈ l, mword r ∈ lw_tbl := by
  intro r hr
  have h1 : mword r ∈ l.map mword := List.mem_map_of_mem hr
  rw [h] at h1
  obtain ⟨i, -, hi⟩ := List.mem_filterMap.mp h1
  exact List.mem_of_getElem? hi
def okM (q : MRow × Nat × (Nat × Nat × Nat × Nat × Nat × Nat)) : Bool :=
  match q with
  | (r, o, (_, kd, pk, pi, ps, n)) => decide (r.1.cls = cnm o) && decide (o < 11) && decide (lw_tbl[pk]? = some (if kd = 0 then .static r.1 else .instanceMethod r.1)) && decide (lw_tbl[pi]? = some (.initialized r.1.cls)) && (kd != 2 || decide (lw_tbl[ps]? = some (.selects r.1.cls r.1 r.1))) && (kd != 1 || (decide (r.1.name = "<init>") && decide (r.2.2.2.1 = none))) && decide ((parseMethodDescriptor r.1.desc).map (fun d => d.parameters.length) = some n) && plainName r.1.cls && decide (kd ≤ 2) && decide (r.2.2.1 ≤ 20)
set_option maxRecDepth 100000 in
set_option maxHeartbeats 4000000 in
theorem mcw_0 : mtab_0.map mword = ([1170, 1306, 471, 1206, 995, 604, 340, 136, 332, 596, 142, 541, 357, 344, 350, 640, 611, 567, 324, 929, 102, 494, 563, 272] : List Nat).filterMap (fun i => lw_tbl[i]?) := rfl
theorem mc_0 : ∀ r ∈ mtab_0, mword r ∈ lw_tbl := mc_of mcw_0
set_option maxRecDepth 100000 in
set_option maxHeartbeats 4000000 in
theorem mt_ok0 : ((mtab_0.zip ((mclt.drop 0).zip (mfct.drop 0))).all okM) = true := by decide +kernel
set_option maxRecDepth 100000 in
set_option maxHeartbeats 4000000 in
theorem mcw_1 : mtab_1.map mword = ([587, 909, 936, 958, 1048, 1056, 1063, 1090, 276, 1097, 1113, 1120, 1127, 1134, 1141, 1152, 1159, 1166, 1191, 1223, 1230, 1237, 1244, 1253] : List Nat).filterMap (fun i => lw_tbl[i]?) := rfl
theorem mc_1 : ∀ r ∈ mtab_1, mword r ∈ lw_tbl := mc_of mcw_1
set_option maxRecDepth 100000 in
set_option maxHeartbeats 4000000 in
theorem mt_ok1 : ((mtab_1.zip ((mclt.drop 24).zip (mfct.drop 24))).all okM) = true := by decide +kernel
set_option maxRecDepth 100000 in
set_option maxHeartbeats 4000000 in
theorem mcw_2 : mtab_2.map mword = ([1263, 1270, 1277, 1284, 1291, 1318, 1326, 1336, 1343, 1350, 284, 1357, 1365, 303, 517, 521, 971, 967, 394, 390, 962, 498, 1067, 1201] : List Nat).filterMap (fun i => lw_tbl[i]?) := rfl
theorem mc_2 : ∀ r ∈ mtab_2, mword r ∈ lw_tbl := mc_of mcw_2
set_option maxRecDepth 100000 in
set_option maxHeartbeats 4000000 in
theorem mt_ok2 : ((mtab_2.zip ((mclt.drop 48).zip (mfct.drop 48))).all okM) = true := by decide +kernel
set_option maxRecDepth 100000 in
set_option maxHeartbeats 4000000 in
theorem mcw_3 : mtab_3.map mword = ([591, 320, 328, 361, 600, 316, 312, 336, 353, 636, 629, 633, 1073, 607, 485, 479, 482, 1144, 1196, 374, 377, 1106, 1256, 1079] : List Nat).filterMap (fun i => lw_tbl[i]?) := rfl
theorem mc_3 : ∀ r ∈ mtab_3, mword r ∈ lw_tbl := mc_of mcw_3
set_option maxRecDepth 100000 in
set_option maxHeartbeats 4000000 in
theorem mt_ok3 : ((mtab_3.zip ((mclt.drop 72).zip (mfct.drop 72))).all okM) = true := by decide +kernel
set_option maxRecDepth 100000 in
set_option maxHeartbeats 4000000 in
theorem mcw_4 : mtab_4.map mword = ([1076, 1102, 1083, 1296, 1300, 1303, 386, 307, 365, 369, 382, 475, 1371, 1476, 1494, 1486, 1483, 1550, 1569, 1589, 1480, 1490, 1498, 1506] : List Nat).filterMap (fun i => lw_tbl[i]?) := rfl
theorem mc_4 : ∀ r ∈ mtab_4, mword r ∈ lw_tbl := mc_of mcw_4
set_option maxRecDepth 100000 in
set_option maxHeartbeats 4000000 in
theorem mt_ok4 : ((mtab_4.zip ((mclt.drop 96).zip (mfct.drop 96))).all okM) = true := by decide +kernel
set_option maxRecDepth 100000 in
set_option maxHeartbeats 4000000 in
theorem mcw_5 : mtab_5.map mword = ([1514, 1510, 1502, 1546, 1554, 1534, 1530, 1542, 1538, 1526, 1522, 1518, 1565, 1562, 1573, 1558, 1577, 1581, 1585, 1599, 1603, 1607, 1623, 1619] : List Nat).filterMap (fun i => lw_tbl[i]?) := rfl
theorem mc_5 : ∀ r ∈ mtab_5, mword r ∈ lw_tbl := mc_of mcw_5
set_option maxRecDepth 100000 in
set_option maxHeartbeats 4000000 in
theorem mt_ok5 : ((mtab_5.zip ((mclt.drop 120).zip (mfct.drop 120))).all okM) = true := by decide +kernel
set_option maxRecDepth 100000 in
set_option maxHeartbeats 4000000 in
theorem mcw_6 : mtab_6.map mword = ([1615, 1611, 1644, 1631, 1627, 1635, 1640, 1648, 1652, 1657, 1661, 1669, 1665, 1673, 1677, 1682, 1593, 1686, 1694, 1690, 1698, 1702, 1706, 1710] : List Nat).filterMap (fun i => lw_tbl[i]?) := rfl
theorem mc_6 : ∀ r ∈ mtab_6, mword r ∈ lw_tbl := mc_of mcw_6
set_option maxRecDepth 100000 in
set_option maxHeartbeats 4000000 in
theorem mt_ok6 : ((mtab_6.zip ((mclt.drop 144).zip (mfct.drop 144))).all okM) = true := by decide +kernel
set_option maxRecDepth 100000 in
set_option maxHeartbeats 4000000 in
theorem mcw_7 : mtab_7.map mword = ([1714, 1720, 1730, 1724, 1734, 1738, 1743, 1747, 1751, 1756, 1760, 488, 559, 583, 888, 932, 939, 1044, 1052, 1059, 1086, 1093, 1109, 1116] : List Nat).filterMap (fun i => lw_tbl[i]?) := rfl
theorem mc_7 : ∀ r ∈ mtab_7, mword r ∈ lw_tbl := mc_of mcw_7
set_option maxRecDepth 100000 in
set_option maxHeartbeats 4000000 in
theorem mt_ok7 : ((mtab_7.zip ((mclt.drop 168).zip (mfct.drop 168))).all okM) = true := by decide +kernel
set_option maxRecDepth 100000 in
set_option maxHeartbeats 4000000 in
theorem mcw_8 : mtab_8.map mword = ([1123, 1130, 1137, 1148, 1155, 1162, 1187, 1219, 1226, 1233, 1240, 1249, 1259, 1266, 1273, 1280, 1287, 1314, 1322, 1332, 1339, 1346, 1353, 1361] : List Nat).filterMap (fun i => lw_tbl[i]?) := rfl
theorem mc_8 : ∀ r ∈ mtab_8, mword r ∈ lw_tbl := mc_of mcw_8
set_option maxRecDepth 100000 in
set_option maxHeartbeats 4000000 in
theorem mt_ok8 : ((mtab_8.zip ((mclt.drop 192).zip (mfct.drop 192))).all okM) = true := by decide +kernel
theorem mt_len : mtab.length = 217 ∧ mclt.length = 217 ∧ mfct.length = 217 := by decide +kernel
def fT (ci k : Nat) : String × String × String × Bool := match vcl[ci]? with
  | some q => q.2.1 k
  | none => ("", "", "", false)
def fN (ci : Nat) : Nat := match vcl[ci]? with
  | some q => q.2.2
  | none => 0
def okF (q : Nat × Nat × Nat × Nat × Nat) : Bool := match q with
  | (o, idx, ci, k, pl) => decide (lw_tbl[pl]? = some (.fieldLink (cnm o) idx (fT ci k).1 (fT ci k).2.1 (fT ci k).2.2.1)) && decide (k < fN ci) && decide (ci < 10)
set_option maxRecDepth 100000 in
theorem fl_ok : fltab.all okF = true := by decide +kernel
def okL (q : Nat × Nat × Nat × Nat) : Bool := match q with
  | (o, idx, y, pl) => match mtab[y]? with
    | some r => decide (lw_tbl[pl]? = some (.methodLink (cnm o) idx r.1))
    | none => false
set_option maxRecDepth 100000 in
set_option maxHeartbeats 4000000 in
theorem ml_ok : mltab.all okL = true := by decide +kernel
def okC (q : Nat × Nat × Nat × Nat) : Bool := match q with
  | (o, idx, ci, pl) => decide (lw_tbl[pl]? = some (.classLink (cnm o) idx (cnm (if ci = 11 then 11 else ci))))
set_option maxRecDepth 100000 in
theorem cl_ok : cltab.all okC = true := by decide +kernel
set_option maxRecDepth 100000 in
theorem ex_ok : extab.all (fun q => decide (lw_tbl[q.2.2.2]? = some (.classLink (cnm q.1) q.2.1 (exnm q.2.2.1))) && decide (q.2.2.1 < 6)) = true := by decide +kernel
set_option maxRecDepth 100000 in
theorem co_ok : cotab.all (fun q => decide (lw_tbl[q.2.2.2]? = some (.constant (cnm q.1) q.2.1 q.2.2.1))) = true := by decide +kernel
set_option maxRecDepth 100000 in
theorem coL_ok : coLtab.all (fun q => decide (lw_tbl[q.2.2.2]? = some (.constantLong (cnm q.1) q.2.1 q.2.2.1))) = true := by decide +kernel
set_option maxRecDepth 100000 in
theorem coF_ok : coFtab.all (fun q => decide (lw_tbl[q.2.2.2]? = some (.constantFloat (cnm q.1) q.2.1 q.2.2.1))) = true := by decide +kernel
def WS : List Cond := lw_tbl.filter goodWord
theorem WS_good : ∀ w ∈ WS, (w.onTables && w.keeps) = true ∨ ∃ ty, w = .arrayClass ty := fun w h => good_of_word (List.mem_filter.mp h).2
end
section
/-! A SMALL MACHINE over the tables: values whose references are (site, number); a heap that is, for each site, the list of what it has made; runs as a function.
    That the JVM does what it does is proved once (06 and on); every method is then read here. -/
abbrev MV : Type := Int32 ⊕ (Int64 ⊕ (UInt32 ⊕ (UInt64 ⊕ Option (Nat × Nat))))
abbrev Ob : Type := List MV
abbrev Hp : Type := (Nat → List Ob) × Nat × Nat
abbrev Lo : Type := List (Option MV)
abbrev Fr : Type := Nat × Nat × Lo × List MV
abbrev Re : Type := Option MV ⊕ Nat
abbrev vI (x : Int32) : MV := .inl x
abbrev vL (x : Int64) : MV := .inr (.inl x)
abbrev vF (x : UInt32) : MV := .inr (.inr (.inl x))
abbrev vD (x : UInt64) : MV := .inr (.inr (.inr (.inl x)))
abbrev vN : MV := .inr (.inr (.inr (.inr none)))
abbrev vR (s i : Nat) : MV := .inr (.inr (.inr (.inr (some (s, i)))))
def mcat : MV → Nat
  | .inl _ => 1
  | .inr (.inl _) => 2
  | .inr (.inr (.inl _)) => 1
  | .inr (.inr (.inr (.inl _))) => 2
  | .inr (.inr (.inr (.inr _))) => 1
def mrow (y : Nat) : Option MRow := mtab[y]?
def dec (y pc : Nat) : Option (Instr × Nat) := match mrow y with
  | some r => match decode r.2.1 pc with
    | .ok q => some q
    | .error _ => none
  | none => none
def lget (L : Lo) (i : Nat) : Option MV := (L[i]?).join
def lclr (L : Lo) (i : Nat) : Lo := match i with
  | 0 => L
  | j + 1 => match lget L j with
    | some v => if mcat v = 2 then L.set j none else L
    | none => L
def lset (L : Lo) (i : Nat) (v : MV) : Lo := if mcat v = 2 then ((lclr L i).set i (some v)).set (i + 1) none else (lclr L i).set i (some v)
abbrev PR : Type := Option (Nat × Lo × List MV)
def tgt (pc : Nat) (off : Int) : Option Nat := if 0 ≤ (pc : Int) + off then some ((pc : Int) + off).toNat else none
def p0 (n len pc : Nat) (L : Lo) (st : List MV) (v : MV) : PR := if len = n then some (pc + n, L, v :: st) else none
def p1i (len pc : Nat) (L : Lo) (st : List MV) (f : Int32 → MV) : PR := match st with
  | .inl x :: st => if len = 1 then some (pc + 1, L, f x :: st) else none
  | _ => none
def p1l (len pc : Nat) (L : Lo) (st : List MV) (f : Int64 → MV) : PR := match st with
  | .inr (.inl x) :: st => if len = 1 then some (pc + 1, L, f x :: st) else none
  | _ => none
def p1f (len pc : Nat) (L : Lo) (st : List MV) (f : UInt32 → Option MV) : PR := match st with
  | .inr (.inr (.inl x)) :: st => if len = 1 then (f x).map (fun v => (pc + 1, L, v :: st)) else none
  | _ => none
def p2i (len pc : Nat) (L : Lo) (st : List MV) (f : Int32 → Int32 → Option MV) : PR := match st with
  | .inl y :: .inl x :: st => if len = 1 then (f x y).map (fun v => (pc + 1, L, v :: st)) else none
  | _ => none
def p2l (len pc : Nat) (L : Lo) (st : List MV) (f : Int64 → Int64 → Option MV) : PR := match st with
  | .inr (.inl y) :: .inr (.inl x) :: st => if len = 1 then (f x y).map (fun v => (pc + 1, L, v :: st)) else none
  | _ => none
def p2f (len pc : Nat) (L : Lo) (st : List MV) (f : UInt32 → UInt32 → Option MV) : PR := match st with
  | .inr (.inr (.inl y)) :: .inr (.inr (.inl x)) :: st => if len = 1 then (f x y).map (fun v => (pc + 1, L, v :: st)) else none
  | _ => none
def p2d (len pc : Nat) (L : Lo) (st : List MV) (f : UInt64 → UInt64 → Option MV) : PR := match st with
  | .inr (.inr (.inr (.inl y))) :: .inr (.inr (.inr (.inl x))) :: st => if len = 1 then (f x y).map (fun v => (pc + 1, L, v :: st)) else none
  | _ => none
/-- kinds of values: 0 int, 1 long, 2 float, 3 double, 4 reference -/
def mkd : MV → Nat
  | .inl _ => 0
  | .inr (.inl _) => 1
  | .inr (.inr (.inl _)) => 2
  | .inr (.inr (.inr (.inl _))) => 3
  | .inr (.inr (.inr (.inr _))) => 4
def pld (k n len pc : Nat) (L : Lo) (st : List MV) (i : Nat) : PR := match lget L i with
  | some v => if len = n ∧ mkd v = k then some (pc + n, L, v :: st) else none
  | none => none
def pst (k n len pc : Nat) (L : Lo) (st : List MV) (i : Nat) : PR := match st with
  | v :: st => if len = n ∧ mkd v = k ∧ i + mcat v ≤ L.length then some (pc + n, lset L i v, st) else none
  | [] => none
def pif (len pc : Nat) (L : Lo) (st : List MV) (off : Int) (f : Int32 → Bool) : PR := match st with
  | .inl x :: st => if len = 3 then (match tgt pc off with | some t => if f x then some (t, L, st) else some (pc + 3, L, st) | none => none) else none
  | _ => none
def pcm (len pc : Nat) (L : Lo) (st : List MV) (off : Int) (f : Int32 → Int32 → Bool) : PR := match st with
  | .inl y :: .inl x :: st => if len = 3 then (match tgt pc off with | some t => if f x y then some (t, L, st) else some (pc + 3, L, st) | none => none) else none
  | _ => none
def pnl (len pc : Nat) (L : Lo) (st : List MV) (off : Int) (b : Bool) : PR := match st with
  | .inr (.inr (.inr (.inr q))) :: st => if len = 3 then (match tgt pc off with | some t => if q.isNone = b then some (t, L, st) else some (pc + 3, L, st) | none => none) else none
  | _ => none
/-- what a site makes -/
def sk (s : Nat) : Nat × Nat := sktab.getD s (9, 0)
def pac (len pc : Nat) (L : Lo) (st : List MV) (off : Int) (b : Bool) : PR := match st with
  | .inr (.inr (.inr (.inr p))) :: .inr (.inr (.inr (.inr q))) :: st =>
    if len = 3 ∧ (p.all (fun z => (sk z.1).1 < 3)) ∧ (q.all (fun z => (sk z.1).1 < 3)) then (match tgt pc off with | some t => if decide (p = q) = b then some (t, L, st) else some (pc + 3, L, st) | none => none) else none
  | _ => none
def pdu (len pc : Nat) (L : Lo) (st : List MV) : PR := match st with
  | v :: st => if len = 1 ∧ mcat v = 1 then some (pc + 1, L, v :: v :: st) else none
  | [] => none
def ppo (len pc : Nat) (L : Lo) (st : List MV) : PR := match st with
  | v :: st => if len = 1 ∧ mcat v = 1 then some (pc + 1, L, st) else none
  | [] => none
def pd2 (len pc : Nat) (L : Lo) (st : List MV) : PR := match st with
  | v :: w :: st => if len = 1 ∧ mcat v = 1 ∧ mcat w = 1 then some (pc + 1, L, v :: w :: v :: w :: st) else none
  | _ => none
def pii (len pc : Nat) (L : Lo) (st : List MV) (i : Nat) (n : Int) : PR := match lget L i with
  | some (.inl x) => if len = 3 then some (pc + 3, lset L i (vI (x + Int32.ofInt n)), st) else none
  | _ => none
def ptw (pc : Nat) (L : Lo) (st : List MV) (d lo hi : Int) (offs : Array Int) : PR := match st with
  | .inl x :: st => if x.toInt < lo ∨ hi < x.toInt then (tgt pc d).map (fun t => (t, L, st)) else match offs[(x.toInt - lo).toNat]? with
    | some o => (tgt pc o).map (fun t => (t, L, st))
    | none => none
  | _ => none
/-- instructions that touch neither heap nor tables -/
def pin (i : Instr) (len pc : Nat) (L : Lo) (st : List MV) : PR := match i with
  | .iconst n => p0 1 len pc L st (vI (Int32.ofInt n))
  | .bipush n => p0 2 len pc L st (vI (Int8.ofInt n).toInt32)
  | .sipush n => p0 3 len pc L st (vI (Int16.ofInt n).toInt32)
  | .lconst n => p0 1 len pc L st (vL (Int64.ofNat (n : Nat)))
  | .fconst n => if n = 0 then p0 1 len pc L st (vF FP.fconst0) else none
  | .dconst n => if n = 0 then p0 1 len pc L st (vD FP.dconst0) else none
  | .aconst_null => p0 1 len pc L st vN
  | .iload_n k => pld 0 1 len pc L st k
  | .iload k => pld 0 2 len pc L st k
  | .lload_n k => pld 1 1 len pc L st k
  | .lload k => pld 1 2 len pc L st k
  | .fload k => pld 2 2 len pc L st k
  | .dload k => pld 3 2 len pc L st k
  | .aload_n k => pld 4 1 len pc L st k
  | .aload k => pld 4 2 len pc L st k
  | .istore_n k => pst 0 1 len pc L st k
  | .istore k => pst 0 2 len pc L st k
  | .lstore_n k => pst 1 1 len pc L st k
  | .lstore k => pst 1 2 len pc L st k
  | .fstore k => pst 2 2 len pc L st k
  | .dstore k => pst 3 2 len pc L st k
  | .astore_n k => pst 4 1 len pc L st k
  | .astore k => pst 4 2 len pc L st k
  | .iinc k n => pii len pc L st k n
  | .iadd => p2i len pc L st (fun x y => some (vI (x + y)))
  | .isub => p2i len pc L st (fun x y => some (vI (x - y)))
  | .imul => p2i len pc L st (fun x y => some (vI (x * y)))
  | .idiv => p2i len pc L st (fun x y => if y = 0 then none else some (vI (x / y)))
  | .iand => p2i len pc L st (fun x y => some (vI (x &&& y)))
  | .ior => p2i len pc L st (fun x y => some (vI (x ||| y)))
  | .ishl => p2i len pc L st (fun x y => some (vI (x <<< (y &&& 31))))
  | .ineg => p1i len pc L st (fun x => vI (-x))
  | .i2l => p1i len pc L st (fun x => vL x.toInt64)
  | .i2c => p1i len pc L st (fun x => vI (x.toUInt32 % 65536).toInt32)
  | .i2f => p1i len pc L st (fun x => vF (FP.i2f x))
  | .i2d => p1i len pc L st (fun x => vD (FP.i2d x))
  | .l2i => p1l len pc L st (fun x => vI x.toInt32)
  | .lneg => p1l len pc L st (fun x => vL (-x))
  | .f2d => p1f len pc L st (fun x => if FP.f2d x &&& 0x7fffffffffffffff ≤ 0x7ff0000000000000 then some (vD (FP.f2d x)) else none)
  | .ladd => p2l len pc L st (fun x y => some (vL (x + y)))
  | .lmul => p2l len pc L st (fun x y => some (vL (x * y)))
  | .ldiv => p2l len pc L st (fun x y => if y = 0 then none else some (vL (x / y)))
  | .lrem => p2l len pc L st (fun x y => if y = 0 then none else some (vL (x - x / y * y)))
  | .lcmp => p2l len pc L st (fun x y => some (vI (lg_cmp x y)))
  | .fdiv => p2f len pc L st (fun x y => if FP.fdiv x y &&& 0x7fffffff ≤ 0x7f800000 then some (vF (FP.fdiv x y)) else none)
  | .ddiv => p2d len pc L st (fun x y => if FP.ddiv x y &&& 0x7fffffffffffffff ≤ 0x7ff0000000000000 then some (vD (FP.ddiv x y)) else none)
  | .fcmp o => p2f len pc L st (fun x y => some (vI (Op.cmpValue (FP.fcmp x y) o)))
  | .dcmp o => p2d len pc L st (fun x y => some (vI (Op.cmpValue (FP.dcmp x y) o)))
  | .dup => pdu len pc L st
  | .pop => ppo len pc L st
  | .dup2 => pd2 len pc L st
  | .goto off => if len = 3 then (tgt pc off).map (fun t => (t, L, st)) else none
  | .ifCond c off => pif len pc L st off (fun x => match c with
    | .eq => decide (x = 0) | .ne => decide (¬ x = 0) | .lt => decide (x < 0) | .ge => decide (0 ≤ x) | .gt => decide (0 < x) | .le => decide (x ≤ 0))
  | .if_icmp c off => pcm len pc L st off (fun x y => match c with
    | .eq => decide (x = y) | .ne => decide (¬ x = y) | .lt => decide (x < y) | .ge => decide (y ≤ x) | .gt => decide (y < x) | .le => decide (x ≤ y))
  | .if_acmp c off => pac len pc L st off (match c with | .eq => true | .ne => false)
  | .ifnull off => pnl len pc L st off true
  | .ifnonnull off => pnl len pc L st off false
  | .tableswitch d lo hi offs => ptw pc L st d lo hi offs
  | _ => none
/-! entries of the constant pools -/
def fl (o idx : Nat) : Option (Nat × Nat) := (fltab.find? (fun q => q.1 == o && q.2.1 == idx)).map (fun q => (q.2.2.1, q.2.2.2.1))
def ml (o idx : Nat) : Option Nat := (mltab.find? (fun q => q.1 == o && q.2.1 == idx)).map (fun q => q.2.2.1)
def jl (o idx : Nat) : Option Nat := (jltab.find? (fun q => q.1 == o && q.2.1 == idx)).map (fun q => q.2.2.1)
def cl (o idx : Nat) : Option Nat := (cltab.find? (fun q => q.1 == o && q.2.1 == idx)).map (fun q => q.2.2.1)
def co (o idx : Nat) : Option Int32 := (cotab.find? (fun q => q.1 == o && q.2.1 == idx)).map (fun q => q.2.2.1)
def coL (o idx : Nat) : Option Int64 := (coLtab.find? (fun q => q.1 == o && q.2.1 == idx)).map (fun q => q.2.2.1)
def coF (o idx : Nat) : Option UInt32 := (coFtab.find? (fun q => q.1 == o && q.2.1 == idx)).map (fun q => q.2.2.1)
def exl (o idx : Nat) : Option Nat := (extab.find? (fun q => q.1 == o && q.2.1 == idx)).map (fun q => q.2.2.1)
def mat (o idx : Nat) : Option Nat := (matab.find? (fun q => q.1 == o && q.2.1 == idx)).map (fun q => q.2.2.1)
def al (y pc : Nat) : Option Nat := (altab.find? (fun q => q.1 == y && q.2.1 == pc)).map (fun q => q.2.2)
def th (y pc : Nat) : Option Nat := (thtab.find? (fun q => q.1 == y && q.2.1 == pc)).map (fun q => q.2.2.1)
/-! the heap -/
def hget (h : Hp) (s i : Nat) : Option Ob := (h.1 s)[i]?
def hput (h : Hp) (s i : Nat) (o : Ob) : Hp := (fun t => if t = s then (h.1 s).set i o else h.1 t, h.2)
def hnew (h : Hp) (s : Nat) (os : List Ob) (c n : Nat) : Hp := (fun t => if t = s then h.1 s ++ os else h.1 t, h.2.1 + c, h.2.2 + n)
def hcst (h : Hp) (c n : Nat) : Hp := (h.1, h.2.1 + c, h.2.2 + n)
def aty (t : Nat) : FieldType := ([.int, .long, .boolean, .char, .double, .array .int, .array .boolean, .array .char] : List FieldType).getD t .int
def adf (t : Nat) : MV := ([vI 0, vL 0, vI 0, vI 0, vD 0] : List MV).getD t vN
def tdf : FieldType → MV
  | .long => vL 0
  | .float => vF 0
  | .double => vD 0
  | .object _ => vN
  | .array _ => vN
  | _ => vI 0
/-- a value fits a field of a type as it stands -/
def pfit : FieldType → MV → Bool
  | .int, .inl _ => true
  | .char, .inl x => decide (x.toUInt32.toUInt16.toUInt32.toInt32 = x) && decide (0 ≤ x) && decide (x ≤ 65535)
  | .boolean, .inl x => decide (x = 0) || decide (x = 1)
  | .long, .inr (.inl _) => true
  | .object _, .inr (.inr (.inr (.inr _))) => true
  | .array _, .inr (.inr (.inr (.inr _))) => true
  | _, _ => false
def parr (ok : Nat × Nat → Bool) (len pc : Nat) (L : Lo) (st : List MV) (h : Hp) : PR := match st with
  | .inl j :: .inr (.inr (.inr (.inr (some q)))) :: st => match hget h q.1 q.2 with
    | some ob => if len = 1 ∧ ok (sk q.1) = true ∧ ¬ j < 0 then (ob[j.toNatClampNeg]?).map (fun v => (pc + 1, L, v :: st)) else none
    | none => none
  | _ => none
/-- instructions that read heap or tables and write neither -/
def hrd (o : Nat) (i : Instr) (len pc : Nat) (L : Lo) (st : List MV) (h : Hp) : PR := match i with
  | .getfield idx => match st with
    | .inr (.inr (.inr (.inr (some q)))) :: st => match fl o idx with
      | some z => match hget h q.1 q.2 with
        | some ob => if len = 3 ∧ sk q.1 = (0, z.1) then (ob[z.2]?).map (fun v => (pc + 3, L, v :: st)) else none
        | none => none
      | none => none
    | _ => none
  | .iaload => parr (fun k => k == (1, 0) || k == (4, 0)) len pc L st h
  | .laload => parr (fun k => k == (1, 1)) len pc L st h
  | .baload => parr (fun k => k == (1, 2)) len pc L st h
  | .caload => parr (fun k => k == (1, 3)) len pc L st h
  | .daload => parr (fun k => k == (1, 4)) len pc L st h
  | .aaload => parr (fun k => k == (1, 5) || k == (1, 6) || k == (1, 7)) len pc L st h
  | .arraylength => match st with
    | .inr (.inr (.inr (.inr (some q)))) :: st => match hget h q.1 q.2 with
      | some ob => if len = 1 ∧ ((sk q.1).1 = 1 ∨ sk q.1 = (4, 0)) then some (pc + 1, L, vI (Int32.ofNat ob.length) :: st) else none
      | none => none
    | _ => none
  | .checkcast idx => match st with
    | .inr (.inr (.inr (.inr none))) :: st => if len = 3 then some (pc + 3, L, vN :: st) else none
    | .inr (.inr (.inr (.inr (some q)))) :: st => if len = 3 ∧ (cl o idx).map (fun c => (0, c)) = some (sk q.1) ∧ (hget h q.1 q.2).isSome then some (pc + 3, L, vR q.1 q.2 :: st) else none
    | _ => none
  | .ldc idx => match co o idx with
    | some v => if len = 2 then some (pc + 2, L, vI v :: st) else none
    | none => match coF o idx with
      | some v => if len = 2 then some (pc + 2, L, vF v :: st) else none
      | none => none
  | .ldc_w idx => match co o idx with
    | some v => if len = 3 then some (pc + 3, L, vI v :: st) else none
    | none => match coF o idx with
      | some v => if len = 3 then some (pc + 3, L, vF v :: st) else none
      | none => none
  | .ldc2_w idx => match coL o idx with
    | some v => if len = 3 then some (pc + 3, L, vL v :: st) else none
    | none => none
  | .invokestatic idx => match st with
    | .inl y :: .inl x :: st => if len = 3 ∧ (st.map mcat).sum ≤ 8 then (if jl o idx = some 7 then some (pc + 3, L, vI (if x < y then y else x) :: st) else if jl o idx = some 8 then some (pc + 3, L, vI (if y < x then y else x) :: st) else none) else none
    | _ => none
  | .invokespecial idx => match st with
    | .inr (.inr (.inr (.inr (some _)))) :: st => if len = 3 ∧ (st.map mcat).sum ≤ 8 ∧ jl o idx = some 9 then some (pc + 3, L, st) else none
    | _ => none
  | .invokevirtual idx => match st with
    | .inl j :: .inr (.inr (.inr (.inr (some q)))) :: st => match hget h q.1 q.2 with
      | some ob => if len = 3 ∧ (st.map mcat).sum ≤ 8 ∧ jl o idx = some 2 ∧ sk q.1 = (2, 0) ∧ ¬ j < 0 then (ob[j.toNatClampNeg]?).map (fun v => (pc + 3, L, v :: st)) else none
      | none => none
    | .inr (.inr (.inr (.inr (some q)))) :: st => match hget h q.1 q.2 with
      | some ob => if len = 3 ∧ (st.map mcat).sum ≤ 8 ∧ jl o idx = some 3 ∧ sk q.1 = (2, 0) then some (pc + 3, L, vI (Int32.ofNat ob.length) :: st) else none
      | none => none
    | _ => none
  | _ => none
/-- what the lists of a site hold: references to what this site makes -/
def les (s : Nat) : Nat := ([4, 6, 7, 3, 0, 1, 3, 2] : List Nat).getD (s - 10) 0
abbrev PW : Type := Option (Nat × Lo × List MV × Hp)
def wst (t : Nat) (cv : MV → Option MV) (len pc : Nat) (L : Lo) (st : List MV) (h : Hp) : PW := match st with
  | v :: .inl j :: .inr (.inr (.inr (.inr (some q)))) :: st => match hget h q.1 q.2 with
    | some ob => if len = 1 ∧ sk q.1 = (1, t) ∧ ¬ j < 0 ∧ j.toNatClampNeg < ob.length then (cv v).map (fun w => (pc + 1, L, st, hput h q.1 q.2 (ob.set j.toNatClampNeg w))) else none
    | none => none
  | _ => none
/-- calls of a list's members that write it -/
def wls (k len pc : Nat) (L : Lo) (st : List MV) (h : Hp) : PW := match k with
  | 1 => match st with
    | .inr (.inr (.inr (.inr (some z)))) :: .inr (.inr (.inr (.inr (some q)))) :: st => match hget h q.1 q.2 with
      | some ob => if len = 3 ∧ (st.map mcat).sum ≤ 8 ∧ sk q.1 = (2, 0) ∧ (hget h z.1 z.2).isSome ∧ z.1 = les q.1 ∧ ob.length < 30000 then some (pc + 3, L, vI 1 :: st, hput (hcst h 1 (2 * ob.length + 10)) q.1 q.2 (ob ++ [vR z.1 z.2])) else none
      | none => none
    | _ => none
  | 4 => match st with
    | .inl j :: .inr (.inr (.inr (.inr (some q)))) :: st => match hget h q.1 q.2 with
      | some ob => if len = 3 ∧ (st.map mcat).sum ≤ 8 ∧ sk q.1 = (2, 0) ∧ ¬ j < 0 then (ob[j.toNatClampNeg]?).map (fun v => (pc + 3, L, v :: st, hput h q.1 q.2 (ob.eraseIdx j.toNatClampNeg))) else none
      | none => none
    | _ => none
  | 5 => match st with
    | .inr (.inr (.inr (.inr (some q)))) :: st => match hget h q.1 q.2 with
      | some _ => if len = 3 ∧ (st.map mcat).sum ≤ 8 ∧ sk q.1 = (2, 0) then some (pc + 3, L, st, hput h q.1 q.2 []) else none
      | none => none
    | _ => none
  | 6 => match st with
    | .inr (.inr (.inr (.inr (some z)))) :: .inl j :: .inr (.inr (.inr (.inr (some q)))) :: st => match hget h q.1 q.2 with
      | some ob => if len = 3 ∧ (st.map mcat).sum ≤ 8 ∧ sk q.1 = (2, 0) ∧ (hget h z.1 z.2).isSome ∧ z.1 = les q.1 ∧ ¬ j < 0 ∧ j.toNatClampNeg ≤ ob.length ∧ ob.length < 30000 then some (pc + 3, L, st, hput (hcst h 1 (2 * ob.length + 10)) q.1 q.2 (ob.insertIdx j.toNatClampNeg (vR z.1 z.2))) else none
      | none => none
    | _ => none
  | _ => none
/-- what a new object of a class holds -/
def odf (ci : Nat) : Ob := ((vtys.getD ci (fun _ => .int)) |> fun ty => (List.range (fN ci)).map (fun k => tdf (ty k)))
def ity (t : Nat) : Nat := if t = 5 then 0 else if t = 6 then 2 else 3
def nlb (y pc idx s0 : Nat) (st : List MV) : Bool := decide (sk s0 = (2, 0)) && decide (cl (mcl y) idx = some 11) && decide ((st.map mcat).sum ≤ 6) && decide (dec y (pc + 3) = some (.dup, 1)) && (match dec y (pc + 4) with | some (.invokespecial i2, 3) => decide (jl (mcl y) i2 = some 0) | _ => false)
/-- instructions that write the heap or make cells -/
def hwr (y : Nat) (i : Instr) (len pc : Nat) (L : Lo) (st : List MV) (h : Hp) : PW := match i with
  | .putfield idx => match st with
    | v :: .inr (.inr (.inr (.inr (some q)))) :: st => match fl (mcl y) idx with
      | some z => match hget h q.1 q.2 with
        | some ob => if len = 3 ∧ sk q.1 = (0, z.1) ∧ z.2 < ob.length ∧ pfit ((vtys.getD z.1 (fun _ => .int)) z.2) v = true ∧ ((fT z.1 z.2).2.2.2 = false ∨ ((mfct[y]?).map (fun f => f.2.1) = some 1 ∧ mcl y = z.1)) then some (pc + 3, L, st, hput h q.1 q.2 (ob.set z.2 v)) else none
        | none => none
      | none => none
    | _ => none
  | .iastore => wst 0 (fun v => match v with | .inl x => some (vI x) | _ => none) len pc L st h
  | .lastore => wst 1 (fun v => match v with | .inr (.inl x) => some (vL x) | _ => none) len pc L st h
  | .bastore => wst 2 (fun v => match v with | .inl x => some (vI (x &&& 1)) | _ => none) len pc L st h
  | .castore => wst 3 (fun v => match v with | .inl x => some (vI x.toUInt32.toUInt16.toUInt32.toInt32) | _ => none) len pc L st h
  | .dastore => wst 4 (fun v => match v with | .inr (.inr (.inr (.inl x))) => some (vD x) | _ => none) len pc L st h
  | .invokevirtual idx => match jl (mcl y) idx with
    | some k => wls k len pc L st h
    | none => none
  | .new idx => match al y pc with
    | some s => if len = 3 ∧ (sk s).1 = 0 ∧ (sk s).2 = s ∧ s < 10 ∧ cl (mcl y) idx = some s then some (pc + 3, L, vR s (h.1 s).length :: st, hnew h s [odf s] 1 (fN s))
      else if len = 3 ∧ nlb y pc idx s st = true then some (pc + 7, L, vR s (h.1 s).length :: st, hnew h s [[]] 1 3) else none
    | none => none
  | .newarray t => match al y pc with
    | some s => match st with
      | .inl n :: st => if len = 2 ∧ (sk s).1 = 1 ∧ (sk s).2 < 5 ∧ newarray.typeOf t = aty (sk s).2 ∧ ¬ n < 0 ∧ n.toNatClampNeg ≤ 60000 then some (pc + 2, L, vR s (h.1 s).length :: st, hnew h s [List.replicate n.toNatClampNeg (adf (sk s).2)] 1 n.toNatClampNeg) else none
      | _ => none
    | none => none
  | .multianewarray idx dims => match al y pc with
    | some s => match st with
      | .inl k :: .inl n :: st => if len = 4 ∧ dims = 2 ∧ mat (mcl y) idx = some (sk s).2 ∧ (sk s).1 = 1 ∧ (5 ≤ (sk s).2 ∧ (sk s).2 ≤ 7) ∧ sk (s + 1) = (1, ity (sk s).2) ∧ ¬ n < 0 ∧ ¬ k < 0 ∧ n.toNatClampNeg ≤ 60000 ∧ k.toNatClampNeg ≤ 60000 then
          some (pc + 4, L, vR s (h.1 s).length :: st, hnew (hnew h s [(List.range n.toNatClampNeg).map (fun j => vR (s + 1) ((h.1 (s + 1)).length + j))] 1 n.toNatClampNeg) (s + 1) (List.replicate n.toNatClampNeg (List.replicate k.toNatClampNeg (adf (sk (s + 1)).2))) n.toNatClampNeg (n.toNatClampNeg * k.toNatClampNeg)) else none
      | _ => none
    | none => none
  | _ => none
def isRt : Option FieldType → Bool
  | some (.object _) => true
  | some (.array _) => true
  | _ => false
/-- returns -/
def rst (i : Instr) (len : Nat) (st : List MV) (rt : Option FieldType) : Option (Option MV) := match i with
  | .ireturn => match st with
    | [.inl x] => if len = 1 ∧ (rt = some .int ∨ (rt = some .boolean ∧ x &&& 1 = x) ∨ (rt = some .char ∧ x.toUInt32.toUInt16.toUInt32.toInt32 = x)) then some (some (vI x)) else none
    | _ => none
  | .lreturn => match st with
    | [.inr (.inl x)] => if len = 1 ∧ rt = some .long then some (some (vL x)) else none
    | _ => none
  | .freturn => match st with
    | [.inr (.inr (.inl x))] => if len = 1 ∧ rt = some .float then some (some (vF x)) else none
    | _ => none
  | .dreturn => match st with
    | [.inr (.inr (.inr (.inl x)))] => if len = 1 ∧ rt = some .double then some (some (vD x)) else none
    | _ => none
  | .areturn => match st with
    | [.inr (.inr (.inr (.inr q)))] => if len = 1 ∧ isRt rt = true then some (some (.inr (.inr (.inr (.inr q))))) else none
    | _ => none
  | .return_ => match st with
    | [] => if len = 1 ∧ rt = none then some none else none
    | _ => none
  | _ => none
abbrev SR : Type := (Re × Hp) ⊕ ((Fr × Hp) ⊕ (Fr × (Nat × Nat × Lo × List MV)))
/-- the frame of a call: the method, its arguments -/
def ent (y : Nat) (as : List MV) : Option Fr := match mrow y with
  | some r => if as.length ≤ r.2.2.1 ∧ as.all (fun v => mcat v == 1) = true then some (y, 0, as.map some ++ List.replicate (r.2.2.1 - as.length) none, []) else none
  | none => none
def cst (y : Nat) (i : Instr) (len pc : Nat) (L : Lo) (st : List MV) (h : Hp) : Option (Fr × (Nat × Nat × Lo × List MV)) :=
  match (match i with | .invokestatic idx => some (0, idx) | .invokespecial idx => some (1, idx) | .invokevirtual idx => some (2, idx) | _ => none) with
  | some (kd, idx) => match ml (mcl y) idx with
    | some y2 => match mfct[y2]? with
      | some f => if len = 3 ∧ f.2.1 = kd ∧ f.2.2.2.2.2 ≤ st.length then
          (if kd = 0 then (if ((st.drop f.2.2.2.2.2).map mcat).sum ≤ 8 then (ent y2 (st.take f.2.2.2.2.2).reverse).map (fun fr => (fr, (y, pc, L, st.drop f.2.2.2.2.2))) else none)
           else match st.drop f.2.2.2.2.2 with
            | .inr (.inr (.inr (.inr (some q)))) :: rest => if (rest.map mcat).sum ≤ 8 ∧ sk q.1 = (0, mcl y2) ∧ (hget h q.1 q.2).isSome then (ent y2 (vR q.1 q.2 :: (st.take f.2.2.2.2.2).reverse)).map (fun fr => (fr, (y, pc, L, rest))) else none
            | _ => none) else none
      | none => none
    | none => none
  | none => none
def stp (fr : Fr) (h : Hp) : Option SR := match dec fr.1 fr.2.1 with
  | none => none
  | some (i, len) => match th fr.1 fr.2.1 with
    | some E => if fr.2.2.2.isEmpty = true then some (.inl (.inr E, hcst h 1 6)) else none
    | none => match pin i len fr.2.1 fr.2.2.1 fr.2.2.2 with
      | some z => some (.inr (.inl ((fr.1, z), h)))
      | none => match hrd (mcl fr.1) i len fr.2.1 fr.2.2.1 fr.2.2.2 h with
        | some z => some (.inr (.inl ((fr.1, z), h)))
        | none => match hwr fr.1 i len fr.2.1 fr.2.2.1 fr.2.2.2 h with
          | some z => some (.inr (.inl ((fr.1, z.1, z.2.1, z.2.2.1), z.2.2.2)))
          | none => match rst i len fr.2.2.2 ((mrow fr.1).bind (fun r => r.2.2.2.1)) with
            | some v => some (.inl (.inl v, h))
            | none => (cst fr.1 i len fr.2.1 fr.2.2.1 fr.2.2.2 h).map (fun z => .inr (.inr z))
/-- where an exception that comes out of a call goes: to the caller's caller, or to a row of the table -/
def hnd (y pc E : Nat) : Option (Option Nat) := match mrow y with
  | some r => match r.2.2.2.2 with
    | [] => some none
    | hh => match hh.find? (fun q => decide (q.1 ≤ pc) && decide (pc < q.2.1) && decide (exl (mcl y) q.2.2.2 = some E)) with
      | some q => some (some q.2.2.1)
      | none => none
  | none => none
def aft (k : Nat × Nat × Lo × List MV) (r : Re) (h : Hp) : Option ((Re × Hp) ⊕ (Fr × Hp)) := match r with
  | .inl v => some (.inr ((k.1, k.2.1 + 3, k.2.2.1, v.toList ++ k.2.2.2), h))
  | .inr E => match hnd k.1 k.2.1 E with
    | some none => some (.inl (.inr E, h))
    | some (some t) => some (.inr ((k.1, t, k.2.2.1, [vR sX (h.1 sX).length]), hnew h sX [[]] 0 0))
    | none => none
/-- d: calls that may stand open; n: steps -/
def run : Nat → Nat → Fr → Hp → Option (Re × Hp)
  | _, 0, _, _ => none
  | d, n + 1, fr, h => match stp fr h with
    | none => none
    | some (.inl r) => some r
    | some (.inr (.inl z)) => run d n z.1 z.2
    | some (.inr (.inr z)) => match d with
      | 0 => none
      | d' + 1 => match run d' n z.1 h with
        | none => none
        | some r => match aft z.2 r.1 r.2 with
          | none => none
          | some (.inl r') => some r'
          | some (.inr w) => run (d' + 1) n w.1 w.2
end
section
/-! the relation between the small machine's values and the JVM's, and the instructions that touch neither heap nor tables -/
def vr (ρ : Nat → List Nat) : MV → Value → Prop
  | .inl x, v => v = .int x
  | .inr (.inl x), v => v = .long x
  | .inr (.inr (.inl x)), v => v = .float x
  | .inr (.inr (.inr (.inl x))), v => v = .double x
  | .inr (.inr (.inr (.inr none))), v => v = .null
  | .inr (.inr (.inr (.inr (some q)))), v => ∃ a, (ρ q.1)[q.2]? = some a ∧ v = .ref a
theorem vr_cat {ρ : Nat → List Nat} {v : MV} {w : Value} (h : vr ρ v w) : w.category = mcat v := by
  rcases v with x | x | x | x | (_ | q)
  · rw [show w = .int x from h]; rfl
  · rw [show w = .long x from h]; rfl
  · rw [show w = .float x from h]; rfl
  · rw [show w = .double x from h]; rfl
  · rw [show w = .null from h]; rfl
  · obtain ⟨a, -, rfl⟩ := h; rfl
theorem vr_fun {ρ : Nat → List Nat} {v : MV} {w w' : Value} (h : vr ρ v w) (h' : vr ρ v w') : w = w' := by
  rcases v with x | x | x | x | (_ | q)
  · exact Eq.trans h h'.symm
  · exact Eq.trans h h'.symm
  · exact Eq.trans h h'.symm
  · exact Eq.trans h h'.symm
  · exact Eq.trans h h'.symm
  · obtain ⟨a, h1, rfl⟩ := h
    obtain ⟨b, h2, rfl⟩ := h'
    rw [Option.some.inj (h1.symm.trans h2)]
def srel (ρ : Nat → List Nat) : List MV → List Value → Prop
  | [], vs => vs = []
  | v :: l, vs => ∃ w ws, vs = w :: ws ∧ vr ρ v w ∧ srel ρ l ws
theorem srel_cat {ρ : Nat → List Nat} : ∀ {l : List MV} {vs : List Value}, srel ρ l vs → (vs.map fun v => v.category).sum = (l.map mcat).sum
  | [], vs, h => by rw [show vs = [] from h]; rfl
  | v :: l, vs, h => by
    obtain ⟨w, ws, rfl, h1, h2⟩ := h
    simp only [List.map_cons, List.sum_cons]
    rw [vr_cat h1, srel_cat h2]
theorem srel_len {ρ : Nat → List Nat} : ∀ {l : List MV} {vs : List Value}, srel ρ l vs → vs.length = l.length
  | [], vs, h => by rw [show vs = [] from h]; rfl
  | v :: l, vs, h => by
    obtain ⟨w, ws, rfl, h1, h2⟩ := h
    simp [srel_len h2]
def lrel (ρ : Nat → List Nat) (ls : Array Slot) (L : Lo) (nL : Nat) : Prop :=
  ls.size = nL ∧ L.length = nL ∧ lv_wf ls ∧ ∀ i v, lget L i = some v → ∃ w, ls[i]? = some (.val w) ∧ vr ρ v w
theorem lget_set (L : Lo) (i j : Nat) (o : Option MV) : lget (L.set i o) j = if i = j ∧ i < L.length then o else lget L j := by
  unfold lget
  rw [List.getElem?_set]
  by_cases h : i = j
  · subst h
    by_cases h2 : i < L.length
    · simp [h2]
    · simp [h2]
  · simp [h]
theorem lget_lt {L : Lo} {i : Nat} {v : MV} (h : lget L i = some v) : i < L.length := by
  unfold lget at h
  by_cases h2 : i < L.length
  · exact h2
  · rw [List.getElem?_eq_none (by omega)] at h
    cases h
theorem lclr_len (L : Lo) (i : Nat) : (lclr L i).length = L.length := by
  unfold lclr
  cases i with
  | zero => rfl
  | succ j =>
    simp only
    split
    · split
      · simp
      · rfl
    · rfl
theorem lclr_get {L : Lo} {i j : Nat} {u : MV} (h : lget (lclr L i) j = some u) : lget L j = some u ∧ ¬ (j + 1 = i ∧ mcat u = 2) := by
  unfold lclr at h
  cases i with
  | zero => exact ⟨h, fun z => by omega⟩
  | succ k =>
    simp only at h
    split at h
    · rename_i v hv
      split at h
      · rename_i h2
        rw [lget_set] at h
        split at h
        · cases h
        · rename_i h3
          refine ⟨h, fun z => ?_⟩
          have : k = j := by omega
          exact h3 ⟨this, lget_lt hv⟩
      · rename_i h2
        refine ⟨h, fun z => ?_⟩
        have : k = j := by omega
        subst this
        rw [hv] at h
        cases h
        exact h2 z.2
    · rename_i hv
      refine ⟨h, fun z => ?_⟩
      have : k = j := by omega
      subst this
      rw [hv] at h
      cases h
theorem lset_len (L : Lo) (i : Nat) (v : MV) : (lset L i v).length = L.length := by
  unfold lset
  split <;> simp [lclr_len]
theorem lset_get1 {L : Lo} {i j : Nat} {v u : MV} (hc : mcat v = 1) (h : lget (lset L i v) j = some u) : (j = i ∧ u = v) ∨ (lget L j = some u ∧ j ≠ i ∧ ¬ (j + 1 = i ∧ mcat u = 2)) := by
  unfold lset at h
  rw [if_neg (by omega), lget_set] at h
  split at h
  · rename_i z
    cases h
    exact Or.inl ⟨z.1.symm, rfl⟩
  · rename_i z
    by_cases e : j = i
    · subst e
      have h2 := lclr_get h
      exact absurd ⟨rfl, by rw [lclr_len]; exact lget_lt h2.1⟩ z
    · exact Or.inr ⟨(lclr_get h).1, e, (lclr_get h).2⟩
theorem lset_get2 {L : Lo} {i j : Nat} {v u : MV} (hc : mcat v = 2) (h : lget (lset L i v) j = some u) : (j = i ∧ u = v) ∨ (lget L j = some u ∧ j ≠ i ∧ j ≠ i + 1 ∧ ¬ (j + 1 = i ∧ mcat u = 2)) := by
  unfold lset at h
  rw [if_pos hc, lget_set] at h
  split at h
  · cases h
  · rename_i z
    rw [lget_set] at h
    split at h
    · rename_i z2
      cases h
      exact Or.inl ⟨z2.1.symm, rfl⟩
    · rename_i z2
      have h2 := lclr_get h
      have hl := lget_lt h2.1
      refine Or.inr ⟨h2.1, ?_, ?_, h2.2⟩
      · intro e
        subst e
        exact z2 ⟨rfl, by rw [lclr_len]; exact hl⟩
      · intro e
        subst e
        exact z ⟨rfl, by rw [List.length_set, lclr_len]; exact hl⟩
/-- all that the JVM's locals hold -/
def lall (ls : Array Slot) (nL : Nat) : List (Nat × Value) := (List.range nL).filterMap (fun j => match (ls[j]? : Option Slot) with | some (Slot.val w) => some (j, w) | _ => none)
theorem lall_mem {ls : Array Slot} {nL j : Nat} {w : Value} (hs : ls.size = nL) : (j, w) ∈ lall ls nL ↔ ls[j]? = some (.val w) := by
  unfold lall
  rw [List.mem_filterMap]
  constructor
  · rintro ⟨i, -, h⟩
    split at h
    · rename_i u hu
      cases h
      exact hu
    · cases h
  · intro h
    refine ⟨j, List.mem_range.mpr (by rw [← hs]; exact lv_lt h), ?_⟩
    rw [h]
theorem lall_has {ρ : Nat → List Nat} {ls : Array Slot} {L : Lo} {nL : Nat} (h : lrel ρ ls L nL) : lv_has ls nL (lall ls nL) :=
  ⟨h.1, h.2.2.1, fun q hq => (lall_mem h.1).mp (by exact hq)⟩
theorem lrel_st1 {ρ : Nat → List Nat} {ls ls' : Array Slot} {L : Lo} {nL i : Nat} {v : MV} {w : Value} (h : lrel ρ ls L nL) (hc : mcat v = 1) (hv : vr ρ v w)
    (h' : lv_has ls' nL ((i, w) :: (lall ls nL).filter (fun q => !(q.1 == i) && !(q.1 + 1 == i && q.2.category == 2)))) : lrel ρ ls' (lset L i v) nL := by
  refine ⟨h'.1, by rw [lset_len]; exact h.2.1, h'.2.1, fun j u hu => ?_⟩
  rcases lset_get1 hc hu with ⟨rfl, rfl⟩ | ⟨h1, h2, h3⟩
  · exact ⟨w, h'.2.2 (j, w) List.mem_cons_self, hv⟩
  · obtain ⟨x, hx, hvx⟩ := h.2.2.2 j u h1
    refine ⟨x, h'.2.2 (j, x) (List.mem_cons_of_mem _ (List.mem_filter.mpr ⟨(lall_mem h.1).mpr hx, ?_⟩)), hvx⟩
    have := vr_cat hvx
    simp only [Bool.and_eq_true, Bool.not_eq_true', Bool.and_eq_false_iff, beq_eq_false_iff_ne]
    refine ⟨h2, ?_⟩
    by_cases e : j + 1 = i
    · right
      intro e2
      exact h3 ⟨e, by rw [← this]; exact e2⟩
    · exact Or.inl e
theorem lrel_st2 {ρ : Nat → List Nat} {ls ls' : Array Slot} {L : Lo} {nL i : Nat} {v : MV} {w : Value} (h : lrel ρ ls L nL) (hc : mcat v = 2) (hv : vr ρ v w)
    (h' : lv_has ls' nL ((i, w) :: (lall ls nL).filter (fun q => !(q.1 == i) && (!(q.1 == i + 1) && !(q.1 + 1 == i && q.2.category == 2))))) : lrel ρ ls' (lset L i v) nL := by
  refine ⟨h'.1, by rw [lset_len]; exact h.2.1, h'.2.1, fun j u hu => ?_⟩
  rcases lset_get2 hc hu with ⟨rfl, rfl⟩ | ⟨h1, h2, h4, h3⟩
  · exact ⟨w, h'.2.2 (j, w) List.mem_cons_self, hv⟩
  · obtain ⟨x, hx, hvx⟩ := h.2.2.2 j u h1
    refine ⟨x, h'.2.2 (j, x) (List.mem_cons_of_mem _ (List.mem_filter.mpr ⟨(lall_mem h.1).mpr hx, ?_⟩)), hvx⟩
    have := vr_cat hvx
    simp only [Bool.and_eq_true, Bool.not_eq_true', Bool.and_eq_false_iff, beq_eq_false_iff_ne]
    refine ⟨h2, h4, ?_⟩
    by_cases e : j + 1 = i
    · right
      intro e2
      exact h3 ⟨e, by rw [← this]; exact e2⟩
    · exact Or.inl e
/-! what the pieces of 'pin' say when they answer -/
theorem tgt_s {pc t : Nat} {off : Int} (h : tgt pc off = some t) : (pc : Int) + off = (t : Int) := by
  unfold tgt at h
  split at h
  · rename_i h0
    cases h
    exact (Int.toNat_of_nonneg h0).symm
  · cases h
theorem br_inv {pc : Nat} {off : Int} {b : Bool} {α : Type} {f : Nat → α} {z : α} {w : α} (h : (match tgt pc off with | some t => if b = true then some (f t) else some w | none => none) = some z) : ∃ t : Nat, (pc : Int) + off = (t : Int) ∧ ((b = true ∧ z = f t) ∨ (b = false ∧ z = w)) := by
  split at h
  · rename_i t ht
    refine ⟨t, tgt_s ht, ?_⟩
    split at h
    · rename_i g; cases h; exact Or.inl ⟨g, rfl⟩
    · rename_i g; cases h; exact Or.inr ⟨by simpa using g, rfl⟩
  · cases h
theorem tgt_inv {pc : Nat} {off : Int} {α : Type} {f : Nat → α} {z : α} (h : (tgt pc off).map f = some z) : ∃ t : Nat, (pc : Int) + off = (t : Int) ∧ z = f t := by
  unfold tgt at h
  split at h
  · rename_i h0
    cases h
    exact ⟨_, (Int.toNat_of_nonneg h0).symm, rfl⟩
  · cases h
theorem p0_inv {n len pc : Nat} {L : Lo} {st : List MV} {v : MV} {z} (h : p0 n len pc L st v = some z) : len = n ∧ z = (pc + n, L, v :: st) := by
  unfold p0 at h
  split at h
  · rename_i e; cases h; exact ⟨e, rfl⟩
  · cases h
theorem p1i_inv {len pc : Nat} {L : Lo} {st : List MV} {f} {z} (h : p1i len pc L st f = some z) : ∃ x st1, st = .inl x :: st1 ∧ len = 1 ∧ z = (pc + 1, L, f x :: st1) := by
  unfold p1i at h
  split at h
  · split at h
    · rename_i e; cases h; exact ⟨_, _, rfl, e, rfl⟩
    · cases h
  · cases h
theorem p1l_inv {len pc : Nat} {L : Lo} {st : List MV} {f} {z} (h : p1l len pc L st f = some z) : ∃ x st1, st = .inr (.inl x) :: st1 ∧ len = 1 ∧ z = (pc + 1, L, f x :: st1) := by
  unfold p1l at h
  split at h
  · split at h
    · rename_i e; cases h; exact ⟨_, _, rfl, e, rfl⟩
    · cases h
  · cases h
theorem omap_inv {α β : Type} {o : Option α} {f : α → β} {z : β} (h : o.map f = some z) : ∃ v, o = some v ∧ z = f v := by
  cases o with
  | none => cases h
  | some v => cases h; exact ⟨v, rfl, rfl⟩
theorem p1f_inv {len pc : Nat} {L : Lo} {st : List MV} {f} {z} (h : p1f len pc L st f = some z) : ∃ x st1 v, st = .inr (.inr (.inl x)) :: st1 ∧ len = 1 ∧ f x = some v ∧ z = (pc + 1, L, v :: st1) := by
  unfold p1f at h
  split at h
  · split at h
    · rename_i e
      obtain ⟨v, h1, h2⟩ := omap_inv h
      exact ⟨_, _, v, rfl, e, h1, h2⟩
    · cases h
  · cases h
theorem p2i_inv {len pc : Nat} {L : Lo} {st : List MV} {f} {z} (h : p2i len pc L st f = some z) : ∃ x y st1 v, st = .inl y :: .inl x :: st1 ∧ len = 1 ∧ f x y = some v ∧ z = (pc + 1, L, v :: st1) := by
  unfold p2i at h
  split at h
  · split at h
    · rename_i e
      obtain ⟨v, h1, h2⟩ := omap_inv h
      exact ⟨_, _, _, v, rfl, e, h1, h2⟩
    · cases h
  · cases h
theorem p2l_inv {len pc : Nat} {L : Lo} {st : List MV} {f} {z} (h : p2l len pc L st f = some z) : ∃ x y st1 v, st = .inr (.inl y) :: .inr (.inl x) :: st1 ∧ len = 1 ∧ f x y = some v ∧ z = (pc + 1, L, v :: st1) := by
  unfold p2l at h
  split at h
  · split at h
    · rename_i e
      obtain ⟨v, h1, h2⟩ := omap_inv h
      exact ⟨_, _, _, v, rfl, e, h1, h2⟩
    · cases h
  · cases h
theorem p2f_inv {len pc : Nat} {L : Lo} {st : List MV} {f} {z} (h : p2f len pc L st f = some z) : ∃ x y st1 v, st = .inr (.inr (.inl y)) :: .inr (.inr (.inl x)) :: st1 ∧ len = 1 ∧ f x y = some v ∧ z = (pc + 1, L, v :: st1) := by
  unfold p2f at h
  split at h
  · split at h
    · rename_i e
      obtain ⟨v, h1, h2⟩ := omap_inv h
      exact ⟨_, _, _, v, rfl, e, h1, h2⟩
    · cases h
  · cases h
theorem p2d_inv {len pc : Nat} {L : Lo} {st : List MV} {f} {z} (h : p2d len pc L st f = some z) : ∃ x y st1 v, st = .inr (.inr (.inr (.inl y))) :: .inr (.inr (.inr (.inl x))) :: st1 ∧ len = 1 ∧ f x y = some v ∧ z = (pc + 1, L, v :: st1) := by
  unfold p2d at h
  split at h
  · split at h
    · rename_i e
      obtain ⟨v, h1, h2⟩ := omap_inv h
      exact ⟨_, _, _, v, rfl, e, h1, h2⟩
    · cases h
  · cases h
theorem pld_inv {k n len pc i : Nat} {L : Lo} {st : List MV} {z} (h : pld k n len pc L st i = some z) : ∃ v, lget L i = some v ∧ mkd v = k ∧ len = n ∧ z = (pc + n, L, v :: st) := by
  unfold pld at h
  split at h
  · rename_i v hv
    split at h
    · rename_i e; cases h; exact ⟨v, hv, e.2, e.1, rfl⟩
    · cases h
  · cases h
theorem pst_inv {k n len pc i : Nat} {L : Lo} {st : List MV} {z} (h : pst k n len pc L st i = some z) : ∃ v st1, st = v :: st1 ∧ mkd v = k ∧ len = n ∧ i + mcat v ≤ L.length ∧ z = (pc + n, lset L i v, st1) := by
  unfold pst at h
  split at h
  · split at h
    · rename_i e; cases h; exact ⟨_, _, rfl, e.2.1, e.1, e.2.2, rfl⟩
    · cases h
  · cases h
theorem pif_inv {len pc : Nat} {L : Lo} {st : List MV} {off : Int} {f} {z} (h : pif len pc L st off f = some z) : ∃ x st1, ∃ t : Nat, st = .inl x :: st1 ∧ len = 3 ∧ (pc : Int) + off = (t : Int) ∧ ((f x = true ∧ z = (t, L, st1)) ∨ (f x = false ∧ z = (pc + 3, L, st1))) := by
  unfold pif at h
  split at h
  · split at h
    · rename_i e
      obtain ⟨t, h1, h2⟩ := br_inv (f := fun t => (t, L, _)) h
      exact ⟨_, _, t, rfl, e, h1, h2⟩
    · cases h
  · cases h
theorem pcm_inv {len pc : Nat} {L : Lo} {st : List MV} {off : Int} {f} {z} (h : pcm len pc L st off f = some z) : ∃ x y st1, ∃ t : Nat, st = .inl y :: .inl x :: st1 ∧ len = 3 ∧ (pc : Int) + off = (t : Int) ∧ ((f x y = true ∧ z = (t, L, st1)) ∨ (f x y = false ∧ z = (pc + 3, L, st1))) := by
  unfold pcm at h
  split at h
  · split at h
    · rename_i e
      obtain ⟨t, h1, h2⟩ := br_inv (f := fun t => (t, L, _)) h
      exact ⟨_, _, _, t, rfl, e, h1, h2⟩
    · cases h
  · cases h
theorem pnl_inv {len pc : Nat} {L : Lo} {st : List MV} {off : Int} {b : Bool} {z} (h : pnl len pc L st off b = some z) : ∃ q st1, ∃ t : Nat, st = .inr (.inr (.inr (.inr q))) :: st1 ∧ len = 3 ∧ (pc : Int) + off = (t : Int) ∧ ((q.isNone = b ∧ z = (t, L, st1)) ∨ (¬ q.isNone = b ∧ z = (pc + 3, L, st1))) := by
  unfold pnl at h
  split at h
  · split at h
    · rename_i e
      split at h
      · rename_i t ht
        refine ⟨_, _, t, rfl, e, tgt_s ht, ?_⟩
        split at h
        · rename_i g; cases h; exact Or.inl ⟨g, rfl⟩
        · rename_i g; cases h; exact Or.inr ⟨g, rfl⟩
      · cases h
    · cases h
  · cases h
end
section
theorem pac_inv {len pc : Nat} {L : Lo} {st : List MV} {off : Int} {b : Bool} {z} (h : pac len pc L st off b = some z) : ∃ p q st1, ∃ t : Nat, st = .inr (.inr (.inr (.inr p))) :: .inr (.inr (.inr (.inr q))) :: st1 ∧ len = 3 ∧ (∀ u, p = some u → (sk u.1).1 < 3) ∧ (∀ u, q = some u → (sk u.1).1 < 3) ∧ (pc : Int) + off = (t : Int) ∧ ((decide (p = q) = b ∧ z = (t, L, st1)) ∨ (¬ decide (p = q) = b ∧ z = (pc + 3, L, st1))) := by
  unfold pac at h
  split at h
  · split at h
    · rename_i e
      obtain ⟨e1, e2, e3⟩ := e
      split at h
      · rename_i t ht
        refine ⟨_, _, _, t, rfl, e1, fun u hu => ?_, fun u hu => ?_, tgt_s ht, ?_⟩
        · subst hu; simpa using e2
        · subst hu; simpa using e3
        · split at h
          · rename_i g; cases h; exact Or.inl ⟨g, rfl⟩
          · rename_i g; cases h; exact Or.inr ⟨g, rfl⟩
      · cases h
    · cases h
  · cases h
/-- an address stands for one place, but where what was caught, or the script, stands -/
def InjR (ρ : Nat → List Nat) : Prop := ∀ (s i s' i' a : Nat), (sk s).1 < 3 → (sk s').1 < 3 → (ρ s)[i]? = some a → (ρ s')[i']? = some a → s = s' ∧ i = i'
theorem vr_rf {ρ : Nat → List Nat} {q : Option (Nat × Nat)} {w : Value} (h : vr ρ (.inr (.inr (.inr (.inr q)))) w) : ∃ r : Option Nat, w = va_rf r ∧ (q = none ↔ r = none) ∧ ∀ u, q = some u → ∃ a, (ρ u.1)[u.2]? = some a ∧ r = some a := by
  rcases q with _ | u
  · exact ⟨none, h, by simp, fun u hu => by cases hu⟩
  · obtain ⟨a, h1, h2⟩ := h
    exact ⟨some a, h2, by simp, fun v hv => by cases hv; exact ⟨a, h1, rfl⟩⟩
theorem vr_eq {ρ : Nat → List Nat} (hI : InjR ρ) {p q : Option (Nat × Nat)} (hp : ∀ u, p = some u → (sk u.1).1 < 3) (hq : ∀ u, q = some u → (sk u.1).1 < 3) {rp rq : Option Nat} (h1 : p = none ↔ rp = none) (h2 : ∀ u, p = some u → ∃ a, (ρ u.1)[u.2]? = some a ∧ rp = some a) (h3 : q = none ↔ rq = none) (h4 : ∀ u, q = some u → ∃ a, (ρ u.1)[u.2]? = some a ∧ rq = some a) : p = q ↔ rq = rp := by
  constructor
  · rintro rfl
    cases p with
    | none => rw [h1.mp rfl, h3.mp rfl]
    | some u =>
      obtain ⟨a, e1, e2⟩ := h2 u rfl
      obtain ⟨b, e3, e4⟩ := h4 u rfl
      rw [e2, e4, Option.some.inj (e1.symm.trans e3)]
  · intro e
    cases p with
    | none => exact (h3.mpr (e.trans (h1.mp rfl))).symm
    | some u =>
      cases q with
      | none =>
        have := h1.mpr (e.symm.trans (h3.mp rfl))
        cases this
      | some w =>
        obtain ⟨a, e1, e2⟩ := h2 u rfl
        obtain ⟨b, e3, e4⟩ := h4 w rfl
        have hab : a = b := Option.some.inj (e2.symm.trans (e.symm.trans e4))
        subst hab
        obtain ⟨x1, x2⟩ := hI _ _ _ _ _ (hp u rfl) (hq w rfl) e1 e3
        exact congrArg some (Prod.ext x1 x2)
theorem mkd_i {ρ : Nat → List Nat} {v : MV} {w : Value} (h : vr ρ v w) (hk : mkd v = 0) : ∃ x, v = .inl x ∧ w = .int x := by
  rcases v with x | x | x | x | x <;> first | (exact ⟨x, rfl, h⟩) | (exact absurd hk (by simp [mkd]))
theorem mkd_l {ρ : Nat → List Nat} {v : MV} {w : Value} (h : vr ρ v w) (hk : mkd v = 1) : ∃ x, v = .inr (.inl x) ∧ w = .long x := by
  rcases v with x | x | x | x | x <;> first | (exact ⟨x, rfl, h⟩) | (exact absurd hk (by simp [mkd]))
theorem mkd_f {ρ : Nat → List Nat} {v : MV} {w : Value} (h : vr ρ v w) (hk : mkd v = 2) : ∃ x, v = .inr (.inr (.inl x)) ∧ w = .float x := by
  rcases v with x | x | x | x | x <;> first | (exact ⟨x, rfl, h⟩) | (exact absurd hk (by simp [mkd]))
theorem mkd_d {ρ : Nat → List Nat} {v : MV} {w : Value} (h : vr ρ v w) (hk : mkd v = 3) : ∃ x, v = .inr (.inr (.inr (.inl x))) ∧ w = .double x := by
  rcases v with x | x | x | x | x <;> first | (exact ⟨x, rfl, h⟩) | (exact absurd hk (by simp [mkd]))
theorem mkd_r {ρ : Nat → List Nat} {v : MV} {w : Value} (h : vr ρ v w) (hk : mkd v = 4) : (∃ q, v = .inr (.inr (.inr (.inr q)))) ∧ (w = .null ∨ ∃ a, w = .ref a) := by
  rcases v with x | x | x | x | (_ | q)
  · exact absurd hk (by simp [mkd])
  · exact absurd hk (by simp [mkd])
  · exact absurd hk (by simp [mkd])
  · exact absurd hk (by simp [mkd])
  · exact ⟨⟨_, rfl⟩, Or.inl h⟩
  · obtain ⟨a, -, rfl⟩ := h
    exact ⟨⟨_, rfl⟩, Or.inr ⟨a, rfl⟩⟩
section PIN
variable {p : Program} {l : Launch} {e : Env} {R : Room} {s : State} {m : MethodId} {args : Array Value} {below : List Frame} {meth : Method} {c : Code} {H : Heap} {locs : List Loc} {cells slots : Nat} {Q : State → Prop}
variable {cc : ByteArray} {pc : Nat} {ls : Array Slot} {st' : List Value} {ρ : Nat → List Nat} {nL : Nat} {L : Lo} {st : List MV}
set_option maxHeartbeats 4000000 in
theorem pin_ok (hx : p.tables.exec = Jvm.exec) (hb : c.code = cc) (hI : InjR ρ) {i : Instr} {len : Nat} {z : Nat × Lo × List MV} (h : pin i len pc L st = some z) (hd : decode cc pc = .ok (i, len)) (hl : lrel ρ ls L nL) (hs : srel ρ st st')
    (k : ∀ (ls2 : Array Slot) (st2 : List Value), lrel ρ ls2 z.2.1 nL → srel ρ z.2.2 st2 → W p l e R s m args below meth c H locs cells slots Q (F0 m z.1 ls2 st2)) : W p l e R s m args below meth c H locs cells slots Q (F0 m pc ls st') := by
  cases i with
  | iconst n => obtain ⟨rfl, rfl⟩ := p0_inv h; exact lv_iconst hx hb hd rfl (k _ _ hl ⟨_, _, rfl, rfl, hs⟩)
  | bipush n => obtain ⟨rfl, rfl⟩ := p0_inv h; exact lv_bipush hx hb hd rfl (k _ _ hl ⟨_, _, rfl, rfl, hs⟩)
  | sipush n => obtain ⟨rfl, rfl⟩ := p0_inv h; exact lv_sipush hx hb hd rfl (k _ _ hl ⟨_, _, rfl, rfl, hs⟩)
  | lconst n => obtain ⟨rfl, rfl⟩ := p0_inv h; exact lv_lconst hx hb hd rfl (k _ _ hl ⟨_, _, rfl, rfl, hs⟩)
  | fconst n =>
    simp only [pin] at h
    split at h
    · rename_i hn; subst hn; obtain ⟨rfl, rfl⟩ := p0_inv h; exact lv_fconst0 hx hb hd (k _ _ hl ⟨_, _, rfl, rfl, hs⟩)
    · cases h
  | dconst n =>
    simp only [pin] at h
    split at h
    · rename_i hn; subst hn; obtain ⟨rfl, rfl⟩ := p0_inv h; exact lv_dconst0 hx hb hd (k _ _ hl ⟨_, _, rfl, rfl, hs⟩)
    · cases h
  | aconst_null => obtain ⟨rfl, rfl⟩ := p0_inv h; exact lv_null hx hb hd (k _ _ hl ⟨_, _, rfl, rfl, hs⟩)
  | iload_n i =>
    obtain ⟨v, h1, h2, rfl, rfl⟩ := pld_inv h
    obtain ⟨w, h3, h4⟩ := hl.2.2.2 _ _ h1
    obtain ⟨x, rfl, rfl⟩ := mkd_i h4 h2
    exact lv_iload_n hx hb hd rfl h3 (k _ _ hl ⟨_, _, rfl, h4, hs⟩)
  | iload i =>
    obtain ⟨v, h1, h2, rfl, rfl⟩ := pld_inv h
    obtain ⟨w, h3, h4⟩ := hl.2.2.2 _ _ h1
    obtain ⟨x, rfl, rfl⟩ := mkd_i h4 h2
    exact lv_iload hx hb hd h3 (k _ _ hl ⟨_, _, rfl, h4, hs⟩)
  | lload_n i =>
    obtain ⟨v, h1, h2, rfl, rfl⟩ := pld_inv h
    obtain ⟨w, h3, h4⟩ := hl.2.2.2 _ _ h1
    obtain ⟨x, rfl, rfl⟩ := mkd_l h4 h2
    exact lv_lload_n hx hb hd rfl h3 (k _ _ hl ⟨_, _, rfl, h4, hs⟩)
  | lload i =>
    obtain ⟨v, h1, h2, rfl, rfl⟩ := pld_inv h
    obtain ⟨w, h3, h4⟩ := hl.2.2.2 _ _ h1
    obtain ⟨x, rfl, rfl⟩ := mkd_l h4 h2
    exact lv_lload hx hb hd h3 (k _ _ hl ⟨_, _, rfl, h4, hs⟩)
  | fload i =>
    obtain ⟨v, h1, h2, rfl, rfl⟩ := pld_inv h
    obtain ⟨w, h3, h4⟩ := hl.2.2.2 _ _ h1
    obtain ⟨x, rfl, rfl⟩ := mkd_f h4 h2
    exact lv_fload hx hb hd h3 (k _ _ hl ⟨_, _, rfl, h4, hs⟩)
  | dload i =>
    obtain ⟨v, h1, h2, rfl, rfl⟩ := pld_inv h
    obtain ⟨w, h3, h4⟩ := hl.2.2.2 _ _ h1
    obtain ⟨x, rfl, rfl⟩ := mkd_d h4 h2
    exact lv_dload hx hb hd h3 (k _ _ hl ⟨_, _, rfl, h4, hs⟩)
  | aload_n i =>
    obtain ⟨v, h1, h2, rfl, rfl⟩ := pld_inv h
    obtain ⟨w, h3, h4⟩ := hl.2.2.2 _ _ h1
    rcases (mkd_r h4 h2).2 with rfl | ⟨a, rfl⟩
    · exact lv_aload_nN hx hb hd rfl h3 (k _ _ hl ⟨_, _, rfl, h4, hs⟩)
    · exact lv_aload_n hx hb hd rfl h3 (k _ _ hl ⟨_, _, rfl, h4, hs⟩)
  | aload i =>
    obtain ⟨v, h1, h2, rfl, rfl⟩ := pld_inv h
    obtain ⟨w, h3, h4⟩ := hl.2.2.2 _ _ h1
    rcases (mkd_r h4 h2).2 with rfl | ⟨a, rfl⟩
    · exact lv_aloadN hx hb hd h3 (k _ _ hl ⟨_, _, rfl, h4, hs⟩)
    · exact lv_aload hx hb hd h3 (k _ _ hl ⟨_, _, rfl, h4, hs⟩)
  | istore_n i =>
    obtain ⟨v, st1, rfl, h2, rfl, h3, rfl⟩ := pst_inv h
    obtain ⟨w, ws, rfl, h4, h5⟩ := hs
    obtain ⟨x, rfl, rfl⟩ := mkd_i h4 h2
    exact lv_istore_n hx hb hd rfl (lall_has hl) (by rw [← hl.2.1]; exact h3) rfl fun ls2 h6 => k _ _ (lrel_st1 hl rfl h4 h6) h5
  | istore i =>
    obtain ⟨v, st1, rfl, h2, rfl, h3, rfl⟩ := pst_inv h
    obtain ⟨w, ws, rfl, h4, h5⟩ := hs
    obtain ⟨x, rfl, rfl⟩ := mkd_i h4 h2
    exact lv_istore hx hb hd (lall_has hl) (by rw [← hl.2.1]; exact h3) rfl fun ls2 h6 => k _ _ (lrel_st1 hl rfl h4 h6) h5
  | lstore_n i =>
    obtain ⟨v, st1, rfl, h2, rfl, h3, rfl⟩ := pst_inv h
    obtain ⟨w, ws, rfl, h4, h5⟩ := hs
    obtain ⟨x, rfl, rfl⟩ := mkd_l h4 h2
    exact lv_lstore_n hx hb hd rfl (lall_has hl) (by rw [← hl.2.1]; exact h3) rfl fun ls2 h6 => k _ _ (lrel_st2 hl rfl h4 h6) h5
  | lstore i =>
    obtain ⟨v, st1, rfl, h2, rfl, h3, rfl⟩ := pst_inv h
    obtain ⟨w, ws, rfl, h4, h5⟩ := hs
    obtain ⟨x, rfl, rfl⟩ := mkd_l h4 h2
    exact lv_lstore hx hb hd (lall_has hl) (by rw [← hl.2.1]; exact h3) rfl fun ls2 h6 => k _ _ (lrel_st2 hl rfl h4 h6) h5
  | fstore i =>
    obtain ⟨v, st1, rfl, h2, rfl, h3, rfl⟩ := pst_inv h
    obtain ⟨w, ws, rfl, h4, h5⟩ := hs
    obtain ⟨x, rfl, rfl⟩ := mkd_f h4 h2
    exact lv_fstore hx hb hd (lall_has hl) (by rw [← hl.2.1]; exact h3) rfl fun ls2 h6 => k _ _ (lrel_st1 hl rfl h4 h6) h5
  | dstore i =>
    obtain ⟨v, st1, rfl, h2, rfl, h3, rfl⟩ := pst_inv h
    obtain ⟨w, ws, rfl, h4, h5⟩ := hs
    obtain ⟨x, rfl, rfl⟩ := mkd_d h4 h2
    exact lv_dstore hx hb hd (lall_has hl) (by rw [← hl.2.1]; exact h3) rfl fun ls2 h6 => k _ _ (lrel_st2 hl rfl h4 h6) h5
  | astore_n i =>
    obtain ⟨v, st1, rfl, h2, rfl, h3, rfl⟩ := pst_inv h
    obtain ⟨w, ws, rfl, h4, h5⟩ := hs
    obtain ⟨⟨q, rfl⟩, rfl | ⟨a, rfl⟩⟩ := mkd_r h4 h2
    · exact lv_astore_nN hx hb hd rfl (lall_has hl) (by rw [← hl.2.1]; exact h3) rfl fun ls2 h6 => k _ _ (lrel_st1 hl rfl h4 h6) h5
    · exact lv_astore_n hx hb hd rfl (lall_has hl) (by rw [← hl.2.1]; exact h3) rfl fun ls2 h6 => k _ _ (lrel_st1 hl rfl h4 h6) h5
  | astore i =>
    obtain ⟨v, st1, rfl, h2, rfl, h3, rfl⟩ := pst_inv h
    obtain ⟨w, ws, rfl, h4, h5⟩ := hs
    obtain ⟨⟨q, rfl⟩, rfl | ⟨a, rfl⟩⟩ := mkd_r h4 h2
    · exact lv_astoreN hx hb hd (lall_has hl) (by rw [← hl.2.1]; exact h3) rfl fun ls2 h6 => k _ _ (lrel_st1 hl rfl h4 h6) h5
    · exact lv_astore hx hb hd (lall_has hl) (by rw [← hl.2.1]; exact h3) rfl fun ls2 h6 => k _ _ (lrel_st1 hl rfl h4 h6) h5
  | iinc i n =>
    simp only [pin, pii] at h
    split at h
    · rename_i x hx1
      split at h
      · rename_i e
        cases h
        subst e
        obtain ⟨w, h3, h4⟩ := hl.2.2.2 _ _ hx1
        obtain rfl : w = .int x := h4
        obtain ⟨j, hj⟩ := List.getElem?_of_mem ((lall_mem hl.1).mpr h3)
        exact lv_iinc hx hb hd (lall_has hl) hj rfl (by rw [← hl.2.1]; exact lget_lt hx1) rfl fun ls2 h6 => k _ _ (lrel_st1 (v := vI (x + Int32.ofInt n)) hl rfl rfl h6) hs
      · cases h
    · cases h
  | iadd => obtain ⟨x, y, st1, v, rfl, rfl, h1, rfl⟩ := p2i_inv h; cases h1; obtain ⟨_, _, rfl, rfl, _, st2, rfl, rfl, h5⟩ := hs; exact lv_iadd hx hb hd (k _ _ hl ⟨_, _, rfl, rfl, h5⟩)
  | isub => obtain ⟨x, y, st1, v, rfl, rfl, h1, rfl⟩ := p2i_inv h; cases h1; obtain ⟨_, _, rfl, rfl, _, st2, rfl, rfl, h5⟩ := hs; exact lv_isub hx hb hd (k _ _ hl ⟨_, _, rfl, rfl, h5⟩)
  | imul => obtain ⟨x, y, st1, v, rfl, rfl, h1, rfl⟩ := p2i_inv h; cases h1; obtain ⟨_, _, rfl, rfl, _, st2, rfl, rfl, h5⟩ := hs; exact lv_imul hx hb hd (k _ _ hl ⟨_, _, rfl, rfl, h5⟩)
  | idiv =>
    obtain ⟨x, y, st1, v, rfl, rfl, h1, rfl⟩ := p2i_inv h
    split at h1
    · cases h1
    · rename_i hne; cases h1; obtain ⟨_, _, rfl, rfl, _, st2, rfl, rfl, h5⟩ := hs; exact lv_idiv hx hb hd hne (k _ _ hl ⟨_, _, rfl, rfl, h5⟩)
  | iand => obtain ⟨x, y, st1, v, rfl, rfl, h1, rfl⟩ := p2i_inv h; cases h1; obtain ⟨_, _, rfl, rfl, _, st2, rfl, rfl, h5⟩ := hs; exact lv_iand hx hb hd (k _ _ hl ⟨_, _, rfl, rfl, h5⟩)
  | ior => obtain ⟨x, y, st1, v, rfl, rfl, h1, rfl⟩ := p2i_inv h; cases h1; obtain ⟨_, _, rfl, rfl, _, st2, rfl, rfl, h5⟩ := hs; exact lv_ior hx hb hd (k _ _ hl ⟨_, _, rfl, rfl, h5⟩)
  | ishl => obtain ⟨x, y, st1, v, rfl, rfl, h1, rfl⟩ := p2i_inv h; cases h1; obtain ⟨_, _, rfl, rfl, _, st2, rfl, rfl, h5⟩ := hs; exact lv_ishl hx hb hd (k _ _ hl ⟨_, _, rfl, rfl, h5⟩)
  | ineg => obtain ⟨x, st1, rfl, rfl, rfl⟩ := p1i_inv h; obtain ⟨_, st2, rfl, rfl, h5⟩ := hs; exact lv_ineg hx hb hd (k _ _ hl ⟨_, _, rfl, rfl, h5⟩)
  | i2l => obtain ⟨x, st1, rfl, rfl, rfl⟩ := p1i_inv h; obtain ⟨_, st2, rfl, rfl, h5⟩ := hs; exact lv_i2l hx hb hd rfl (k _ _ hl ⟨_, _, rfl, rfl, h5⟩)
  | i2c => obtain ⟨x, st1, rfl, rfl, rfl⟩ := p1i_inv h; obtain ⟨_, st2, rfl, rfl, h5⟩ := hs; exact lv_i2c hx hb hd rfl (k _ _ hl ⟨_, _, rfl, rfl, h5⟩)
  | i2f => obtain ⟨x, st1, rfl, rfl, rfl⟩ := p1i_inv h; obtain ⟨_, st2, rfl, rfl, h5⟩ := hs; exact lv_i2f hx hb hd (k _ _ hl ⟨_, _, rfl, rfl, h5⟩)
  | i2d => obtain ⟨x, st1, rfl, rfl, rfl⟩ := p1i_inv h; obtain ⟨_, st2, rfl, rfl, h5⟩ := hs; exact lv_i2d hx hb hd (k _ _ hl ⟨_, _, rfl, rfl, h5⟩)
  | l2i => obtain ⟨x, st1, rfl, rfl, rfl⟩ := p1l_inv h; obtain ⟨_, st2, rfl, rfl, h5⟩ := hs; exact lv_l2i hx hb hd rfl (k _ _ hl ⟨_, _, rfl, rfl, h5⟩)
  | lneg => obtain ⟨x, st1, rfl, rfl, rfl⟩ := p1l_inv h; obtain ⟨_, st2, rfl, rfl, h5⟩ := hs; exact lv_lneg hx hb hd (k _ _ hl ⟨_, _, rfl, rfl, h5⟩)
  | f2d =>
    obtain ⟨x, st1, v, rfl, rfl, h1, rfl⟩ := p1f_inv h
    split at h1
    · rename_i hne; cases h1; obtain ⟨_, st2, rfl, rfl, h5⟩ := hs; exact lv_f2d hx hb hd hne (k _ _ hl ⟨_, _, rfl, rfl, h5⟩)
    · cases h1
  | ladd => obtain ⟨x, y, st1, v, rfl, rfl, h1, rfl⟩ := p2l_inv h; cases h1; obtain ⟨_, _, rfl, rfl, _, st2, rfl, rfl, h5⟩ := hs; exact lv_ladd hx hb hd (k _ _ hl ⟨_, _, rfl, rfl, h5⟩)
  | lmul => obtain ⟨x, y, st1, v, rfl, rfl, h1, rfl⟩ := p2l_inv h; cases h1; obtain ⟨_, _, rfl, rfl, _, st2, rfl, rfl, h5⟩ := hs; exact lv_lmul hx hb hd (k _ _ hl ⟨_, _, rfl, rfl, h5⟩)
  | ldiv =>
    obtain ⟨x, y, st1, v, rfl, rfl, h1, rfl⟩ := p2l_inv h
    split at h1
    · cases h1
    · rename_i hne; cases h1; obtain ⟨_, _, rfl, rfl, _, st2, rfl, rfl, h5⟩ := hs; exact lv_ldiv hx hb hd hne (k _ _ hl ⟨_, _, rfl, rfl, h5⟩)
  | lrem =>
    obtain ⟨x, y, st1, v, rfl, rfl, h1, rfl⟩ := p2l_inv h
    split at h1
    · cases h1
    · rename_i hne; cases h1; obtain ⟨_, _, rfl, rfl, _, st2, rfl, rfl, h5⟩ := hs; exact lv_lrem hx hb hd hne (k _ _ hl ⟨_, _, rfl, rfl, h5⟩)
  | lcmp => obtain ⟨x, y, st1, v, rfl, rfl, h1, rfl⟩ := p2l_inv h; cases h1; obtain ⟨_, _, rfl, rfl, _, st2, rfl, rfl, h5⟩ := hs; exact W.lcmp hx hb hd (k _ _ hl ⟨_, _, rfl, rfl, h5⟩)
  | fdiv =>
    obtain ⟨x, y, st1, v, rfl, rfl, h1, rfl⟩ := p2f_inv h
    split at h1
    · rename_i hne; cases h1; obtain ⟨_, _, rfl, rfl, _, st2, rfl, rfl, h5⟩ := hs; exact lv_fdiv hx hb hd hne (k _ _ hl ⟨_, _, rfl, rfl, h5⟩)
    · cases h1
  | ddiv =>
    obtain ⟨x, y, st1, v, rfl, rfl, h1, rfl⟩ := p2d_inv h
    split at h1
    · rename_i hne; cases h1; obtain ⟨_, _, rfl, rfl, _, st2, rfl, rfl, h5⟩ := hs; exact lv_ddiv hx hb hd hne (k _ _ hl ⟨_, _, rfl, rfl, h5⟩)
    · cases h1
  | fcmp o => obtain ⟨x, y, st1, v, rfl, rfl, h1, rfl⟩ := p2f_inv h; cases h1; obtain ⟨_, _, rfl, rfl, _, st2, rfl, rfl, h5⟩ := hs; exact lv_fcmp hx hb hd (k _ _ hl ⟨_, _, rfl, rfl, h5⟩)
  | dcmp o => obtain ⟨x, y, st1, v, rfl, rfl, h1, rfl⟩ := p2d_inv h; cases h1; obtain ⟨_, _, rfl, rfl, _, st2, rfl, rfl, h5⟩ := hs; exact lv_dcmp hx hb hd (k _ _ hl ⟨_, _, rfl, rfl, h5⟩)
  | dup =>
    simp only [pin, pdu] at h
    split at h
    · split at h
      · rename_i g; cases h; obtain ⟨rfl, g2⟩ := g; obtain ⟨w, st2, rfl, h4, h5⟩ := hs; exact lv_dup hx hb hd (by rw [vr_cat h4]; exact g2) (k _ _ hl ⟨_, _, rfl, h4, _, _, rfl, h4, h5⟩)
      · cases h
    · cases h
  | pop =>
    simp only [pin, ppo] at h
    split at h
    · split at h
      · rename_i g; cases h; obtain ⟨rfl, g2⟩ := g; obtain ⟨w, st2, rfl, h4, h5⟩ := hs; exact lv_pop hx hb hd (by rw [vr_cat h4]; exact g2) (k _ _ hl h5)
      · cases h
    · cases h
  | dup2 =>
    simp only [pin, pd2] at h
    split at h
    · split at h
      · rename_i g; cases h; obtain ⟨rfl, g2, g3⟩ := g; obtain ⟨w, _, rfl, h4, w2, st2, rfl, h6, h5⟩ := hs
        exact lv_dup2_11 hx hb hd (by rw [vr_cat h4]; exact g2) (by rw [vr_cat h6]; exact g3) (k _ _ hl ⟨_, _, rfl, h4, _, _, rfl, h6, _, _, rfl, h4, _, _, rfl, h6, h5⟩)
      · cases h
    · cases h
  | goto off =>
    simp only [pin] at h
    split at h
    · rename_i g; subst g; obtain ⟨t, h1, rfl⟩ := tgt_inv h; exact lv_goto hx hb hd h1 (k _ _ hl hs)
    · cases h
  | ifCond c1 off =>
    obtain ⟨x, st1, t, rfl, rfl, ht, h3⟩ := pif_inv h
    obtain ⟨_, st2, rfl, rfl, h5⟩ := hs
    cases c1
    · rcases h3 with ⟨h4, rfl⟩ | ⟨h4, rfl⟩
      · exact lv_if_eq hx hb hd ht (fun _ => k _ _ hl h5) (fun q => absurd (by simpa using h4) q)
      · exact lv_if_eq hx hb hd ht (fun q => absurd q (by simpa using h4)) (fun _ => k _ _ hl h5)
    · rcases h3 with ⟨h4, rfl⟩ | ⟨h4, rfl⟩
      · exact lv_if_ne hx hb hd ht (fun _ => k _ _ hl h5) (fun q => absurd q (by simpa using h4))
      · exact lv_if_ne hx hb hd ht (fun q => absurd (by simpa using h4) q) (fun _ => k _ _ hl h5)
    · rcases h3 with ⟨h4, rfl⟩ | ⟨h4, rfl⟩
      · exact lv_if_lt hx hb hd ht (fun _ => k _ _ hl h5) (fun q => absurd (by simpa using h4) q)
      · exact lv_if_lt hx hb hd ht (fun q => absurd q (by simpa using h4)) (fun _ => k _ _ hl h5)
    · rcases h3 with ⟨h4, rfl⟩ | ⟨h4, rfl⟩
      · exact lv_if_ge hx hb hd ht (fun _ => k _ _ hl h5) (fun q => absurd (by simpa using h4) q)
      · exact lv_if_ge hx hb hd ht (fun q => absurd q (by simpa using h4)) (fun _ => k _ _ hl h5)
    · rcases h3 with ⟨h4, rfl⟩ | ⟨h4, rfl⟩
      · exact lv_if_gt hx hb hd ht (fun _ => k _ _ hl h5) (fun q => absurd (by simpa using h4) q)
      · exact lv_if_gt hx hb hd ht (fun q => absurd q (by simpa using h4)) (fun _ => k _ _ hl h5)
    · rcases h3 with ⟨h4, rfl⟩ | ⟨h4, rfl⟩
      · exact lv_if_le hx hb hd ht (fun _ => k _ _ hl h5) (fun q => absurd (by simpa using h4) q)
      · exact lv_if_le hx hb hd ht (fun q => absurd q (by simpa using h4)) (fun _ => k _ _ hl h5)
  | if_icmp c1 off =>
    obtain ⟨x, y, st1, t, rfl, rfl, ht, h3⟩ := pcm_inv h
    obtain ⟨_, _, rfl, rfl, _, st2, rfl, rfl, h5⟩ := hs
    cases c1
    · rcases h3 with ⟨h4, rfl⟩ | ⟨h4, rfl⟩
      · exact lv_icmp_eq hx hb hd ht (fun _ => k _ _ hl h5) (fun q => absurd (by simpa using h4) q)
      · exact lv_icmp_eq hx hb hd ht (fun q => absurd q (by simpa using h4)) (fun _ => k _ _ hl h5)
    · rcases h3 with ⟨h4, rfl⟩ | ⟨h4, rfl⟩
      · exact lv_icmp_ne hx hb hd ht (fun _ => k _ _ hl h5) (fun q => absurd q (by simpa using h4))
      · exact lv_icmp_ne hx hb hd ht (fun q => absurd (by simpa using h4) q) (fun _ => k _ _ hl h5)
    · rcases h3 with ⟨h4, rfl⟩ | ⟨h4, rfl⟩
      · exact lv_icmp_lt hx hb hd ht (fun _ => k _ _ hl h5) (fun q => absurd (by simpa using h4) q)
      · exact lv_icmp_lt hx hb hd ht (fun q => absurd q (by simpa using h4)) (fun _ => k _ _ hl h5)
    · rcases h3 with ⟨h4, rfl⟩ | ⟨h4, rfl⟩
      · exact lv_icmp_ge hx hb hd ht (fun _ => k _ _ hl h5) (fun q => absurd (by simpa using h4) q)
      · exact lv_icmp_ge hx hb hd ht (fun q => absurd q (by simpa using h4)) (fun _ => k _ _ hl h5)
    · rcases h3 with ⟨h4, rfl⟩ | ⟨h4, rfl⟩
      · exact lv_icmp_gt hx hb hd ht (fun _ => k _ _ hl h5) (fun q => absurd (by simpa using h4) q)
      · exact lv_icmp_gt hx hb hd ht (fun q => absurd q (by simpa using h4)) (fun _ => k _ _ hl h5)
    · rcases h3 with ⟨h4, rfl⟩ | ⟨h4, rfl⟩
      · exact lv_icmp_le hx hb hd ht (fun _ => k _ _ hl h5) (fun q => absurd (by simpa using h4) q)
      · exact lv_icmp_le hx hb hd ht (fun q => absurd q (by simpa using h4)) (fun _ => k _ _ hl h5)
  | if_acmp c1 off =>
    obtain ⟨p1, q1, st1, t, rfl, rfl, hp, hq, ht, h3⟩ := pac_inv h
    obtain ⟨_, _, rfl, h6, _, st2, rfl, h7, h5⟩ := hs
    obtain ⟨r1, rfl, e1, e2⟩ := vr_rf h6
    obtain ⟨r2, rfl, e3, e4⟩ := vr_rf h7
    have he := vr_eq hI hp hq e1 e2 e3 e4
    cases c1
    · rcases h3 with ⟨h4, rfl⟩ | ⟨h4, rfl⟩
      · have h8 := he.mp (by simpa using h4)
        exact lv_acmp_eq hx hb hd ht (fun _ => k _ _ hl h5) (fun q => absurd h8 q)
      · have h8 : ¬ r2 = r1 := fun z => h4 (by simpa using he.mpr z)
        exact lv_acmp_eq hx hb hd ht (fun q => absurd q h8) (fun _ => k _ _ hl h5)
    · rcases h3 with ⟨h4, rfl⟩ | ⟨h4, rfl⟩
      · have h8 : ¬ r2 = r1 := fun z => (by simpa using h4 : ¬ p1 = q1) (he.mpr z)
        exact lv_acmp_ne hx hb hd ht (fun _ => k _ _ hl h5) (fun q => absurd q h8)
      · have h8 := he.mp (by simpa using h4)
        exact lv_acmp_ne hx hb hd ht (fun q => absurd h8 q) (fun _ => k _ _ hl h5)
  | ifnull off =>
    obtain ⟨q, st1, t, rfl, rfl, ht, h3⟩ := pnl_inv h
    obtain ⟨_, st2, rfl, h6, h5⟩ := hs
    rcases q with _ | u
    · obtain rfl : _ = Value.null := h6
      rcases h3 with ⟨h4, rfl⟩ | ⟨h4, rfl⟩
      · exact lv_ifnullN hx hb hd ht (k _ _ hl h5)
      · exact absurd rfl h4
    · obtain ⟨a, -, rfl⟩ := h6
      rcases h3 with ⟨h4, rfl⟩ | ⟨h4, rfl⟩
      · cases h4
      · exact lv_ifnull hx hb hd (k _ _ hl h5)
  | ifnonnull off =>
    obtain ⟨q, st1, t, rfl, rfl, ht, h3⟩ := pnl_inv h
    obtain ⟨_, st2, rfl, h6, h5⟩ := hs
    rcases q with _ | u
    · obtain rfl : _ = Value.null := h6
      rcases h3 with ⟨h4, rfl⟩ | ⟨h4, rfl⟩
      · cases h4
      · exact lv_ifnonnullN hx hb hd (k _ _ hl h5)
    · obtain ⟨a, -, rfl⟩ := h6
      rcases h3 with ⟨h4, rfl⟩ | ⟨h4, rfl⟩
      · exact lv_ifnonnull hx hb hd ht (k _ _ hl h5)
      · exact absurd rfl h4
  | tableswitch d lo hi offs =>
    simp only [pin, ptw] at h
    split at h
    · obtain ⟨_, st2, rfl, rfl, h5⟩ := hs
      split at h
      · rename_i g
        obtain ⟨t, h1, rfl⟩ := tgt_inv h
        exact lv_tableOut hx hb hd g h1 (k _ _ hl h5)
      · rename_i g
        split at h
        · rename_i o ho
          obtain ⟨t, h1, rfl⟩ := tgt_inv h
          exact lv_tableIn hx hb hd (fun q => g (Or.inl q)) (fun q => g (Or.inr q)) ho h1 (k _ _ hl h5)
        · cases h
    · cases h
  | _ => simp [pin] at h
end PIN
end
section
/-! the heap of the small machine in the JVM's heap -/
def Ext (ρ ρ' : Nat → List Nat) : Prop := ∀ (s i a : Nat), (ρ s)[i]? = some a → (ρ' s)[i]? = some a
theorem Ext.rf {ρ : Nat → List Nat} : Ext ρ ρ := fun _ _ _ h => h
theorem Ext.tr {ρ ρ' ρ'' : Nat → List Nat} (h : Ext ρ ρ') (h' : Ext ρ' ρ'') : Ext ρ ρ'' := fun s i a z => h' s i a (h s i a z)
theorem vr_mono {ρ ρ' : Nat → List Nat} (hE : Ext ρ ρ') {v : MV} {w : Value} (h : vr ρ v w) : vr ρ' v w := by
  rcases v with x | x | x | x | (_ | q)
  · exact h
  · exact h
  · exact h
  · exact h
  · exact h
  · obtain ⟨a, h1, h2⟩ := h
    exact ⟨a, hE _ _ _ h1, h2⟩
theorem srel_mono {ρ ρ' : Nat → List Nat} (hE : Ext ρ ρ') : ∀ {l : List MV} {vs : List Value}, srel ρ l vs → srel ρ' l vs
  | [], _, h => h
  | _ :: _, _, h => by
    obtain ⟨w, ws, e, h1, h2⟩ := h
    exact ⟨w, ws, e, vr_mono hE h1, srel_mono hE h2⟩
theorem lrel_mono {ρ ρ' : Nat → List Nat} (hE : Ext ρ ρ') {ls : Array Slot} {L : Lo} {nL : Nat} (h : lrel ρ ls L nL) : lrel ρ' ls L nL :=
  ⟨h.1, h.2.1, h.2.2.1, fun i v hv => by obtain ⟨w, h1, h2⟩ := h.2.2.2 i v hv; exact ⟨w, h1, vr_mono hE h2⟩⟩
theorem srel_at {ρ : Nat → List Nat} : ∀ {l : List MV} {vs : List Value}, srel ρ l vs → ∀ {k : Nat} {v : MV}, l[k]? = some v → ∃ w, vs[k]? = some w ∧ vr ρ v w
  | [], _, _, k, v, hk => by simp at hk
  | u :: l, vs, h, k, v, hk => by
    obtain ⟨w, ws, rfl, h1, h2⟩ := h
    cases k with
    | zero => simp at hk; subst hk; exact ⟨w, by simp, h1⟩
    | succ k => simp at hk; obtain ⟨x, hx, hv⟩ := srel_at h2 hk; exact ⟨x, by simpa using hx, hv⟩
theorem srel_set {ρ : Nat → List Nat} : ∀ {l : List MV} {vs : List Value}, srel ρ l vs → ∀ (k : Nat) {v : MV} {w : Value}, vr ρ v w → srel ρ (l.set k v) (vs.set k w)
  | [], _, h, k, v, w, _ => by rw [show _ = [] from h]; simp [srel]
  | u :: l, vs, h, k, v, w, hv => by
    obtain ⟨x, ws, rfl, h1, h2⟩ := h
    cases k with
    | zero => exact ⟨w, ws, by simp, hv, h2⟩
    | succ k => exact ⟨x, ws.set k w, by simp, h1, srel_set h2 k hv⟩
theorem srel_app {ρ : Nat → List Nat} : ∀ {l l2 : List MV} {vs vs2 : List Value}, srel ρ l vs → srel ρ l2 vs2 → srel ρ (l ++ l2) (vs ++ vs2)
  | [], _, _, _, h, h2 => by rw [show _ = [] from h]; exact h2
  | _ :: _, _, _, _, h, h2 => by
    obtain ⟨w, ws, rfl, h1, h3⟩ := h
    exact ⟨w, _, rfl, h1, srel_app h3 h2⟩
theorem srel_rev {ρ : Nat → List Nat} : ∀ {l : List MV} {vs : List Value}, srel ρ l vs → srel ρ l.reverse vs.reverse
  | [], _, h => by rw [show _ = [] from h]; rfl
  | v :: l, _, h => by
    obtain ⟨w, ws, rfl, h1, h3⟩ := h
    rw [List.reverse_cons, List.reverse_cons]
    exact srel_app (srel_rev h3) ⟨w, [], rfl, h1, rfl⟩
theorem srel_take {ρ : Nat → List Nat} : ∀ (n : Nat) {l : List MV} {vs : List Value}, srel ρ l vs → srel ρ (l.take n) (vs.take n) ∧ srel ρ (l.drop n) (vs.drop n)
  | 0, _, _, h => ⟨rfl, h⟩
  | n + 1, [], _, h => by rw [show _ = [] from h]; exact ⟨rfl, rfl⟩
  | n + 1, _ :: _, _, h => by
    obtain ⟨w, ws, rfl, h1, h3⟩ := h
    exact ⟨⟨w, _, rfl, h1, (srel_take n h3).1⟩, (srel_take n h3).2⟩
/-- a list: its object at a, its row at b: the row is the shared empty one, at E0, or its own -/
def lst_at (D : va_G) (U : State) (ρ : Nat → List Nat) (base E0 es : Nat) (ob : Ob) (a b : Nat) (H : Heap) : Prop :=
  (∃ k : Int32, va_at D vcl (a, .inr (10, [.int k, .ref b, .int (nI ob.length)])) H) ∧ (∀ v ∈ ob, ∃ i, v = vR es i) ∧
    ((b = E0 ∧ ob = []) ∨ (base ≤ b ∧ b ≠ a ∧ ∃ (cap : Nat) (f : Nat → Option Nat) (cO : ClassId), va_at D vcl (b, .inl (cO, cap, .inr (.inr (.inr (.inr f))))) H ∧
    ArrOfT U cO (.object "java/lang/Object") ∧ va_RA U cO (.object "java/lang/Object") ∧ ob.length ≤ cap ∧ 2 ≤ cap ∧ cap ≤ 60000 ∧ ∀ (j : Nat) (v : MV), ob[j]? = some v → vr ρ v (va_rf (f j))))
def ob_at (D : va_G) (U : State) (ρ : Nat → List Nat) (β : Nat → Nat → Nat) (base E0 : Nat) (s i : Nat) (ob : Ob) (a : Nat) (H : Heap) : Prop :=
  match sk s with
  | (0, ci) => ob.length = fN ci ∧ base ≤ a ∧ ∃ vs, srel ρ ob vs ∧ va_at D vcl (a, .inr (ci, vs)) H
  | (1, t) => base ≤ a ∧ ∃ (cA : ClassId) (f : Nat → Value), H[a]? = some (arrV cA ob.length f) ∧ ArrOfT U cA (aty t) ∧ va_RA U cA (aty t) ∧ ∀ (j : Nat) (v : MV), ob[j]? = some v → vr ρ v (f j)
  | (2, _) => base ≤ a ∧ lst_at D U ρ base E0 (les s) ob a (β s i) H
  | (3, _) => True
  | (4, _) => a < base ∧ ∃ scr : Cell, H[a]? = some scr ∧ U.isArrayOf scr .int ∧ scr.vm ≠ .unknown ∧ scr.slots.size = ob.length ∧ ob.length < 2 ^ 31 ∧ ∀ (j : Nat) (v : MV), ob[j]? = some v → ∃ w, scr.slots[j]? = some w ∧ vr ρ v w
  | _ => False
def Sim (base E0 : Nat) (D : va_G) (ρ : Nat → List Nat) (β : Nat → Nat → Nat) (h : Hp) (U : State) (H : Heap) : Prop :=
  va_K D vcl [] U ∧ (∀ s, (ρ s).length = (h.1 s).length) ∧ InjR ρ ∧
  (∀ (s i s' i' a : Nat), sk s = (2, 0) → i < (ρ s).length → base ≤ β s i → (sk s').1 < 3 → (ρ s')[i']? = some a → β s i ≠ a) ∧
  (∀ (s i s' i' : Nat), sk s = (2, 0) → sk s' = (2, 0) → i < (ρ s).length → i' < (ρ s').length → base ≤ β s i → β s i = β s' i' → s = s' ∧ i = i') ∧
  E0 < base ∧ base ≤ H.size ∧
  ∀ (s i : Nat) (ob : Ob) (a : Nat), hget h s i = some ob → (ρ s)[i]? = some a → ob_at D U ρ β base E0 s i ob a H
theorem Sim.ad {base E0 : Nat} {D : va_G} {ρ : Nat → List Nat} {β : Nat → Nat → Nat} {h : Hp} {U : State} {H : Heap} (S : Sim base E0 D ρ β h U H) {s i : Nat} {ob : Ob} (hg : hget h s i = some ob) : ∃ a, (ρ s)[i]? = some a ∧ ob_at D U ρ β base E0 s i ob a H := by
  have h1 : i < (h.1 s).length := (List.getElem?_eq_some_iff.mp hg).1
  rw [← S.2.1 s] at h1
  exact ⟨_, List.getElem?_eq_getElem h1, S.2.2.2.2.2.2.2 s i ob _ hg (List.getElem?_eq_getElem h1)⟩
theorem ob_at.lt {D : va_G} {U : State} {ρ : Nat → List Nat} {β : Nat → Nat → Nat} {base E0 s i : Nat} {ob : Ob} {a : Nat} {H : Heap} (h : ob_at D U ρ β base E0 s i ob a H) (hs : (sk s).1 < 3) : a < H.size := by
  unfold ob_at at h
  split at h
  · obtain ⟨-, -, vs, -, h2⟩ := h; exact h2.lt
  · obtain ⟨-, cA, f, h2, -⟩ := h; exact (Array.getElem?_eq_some_iff.mp h2).1
  · obtain ⟨-, ⟨k, h2⟩, -⟩ := h; exact h2.lt
  · rename_i e; rw [e] at hs; exact absurd hs (by simp)
  · rename_i e; rw [e] at hs; exact absurd hs (by simp)
  · exact h.elim
theorem ob_at.ge {D : va_G} {U : State} {ρ : Nat → List Nat} {β : Nat → Nat → Nat} {base E0 s i : Nat} {ob : Ob} {a : Nat} {H : Heap} (h : ob_at D U ρ β base E0 s i ob a H) (hs : (sk s).1 < 3) : base ≤ a := by
  unfold ob_at at h
  split at h
  · exact h.2.1
  · exact h.1
  · exact h.1
  · rename_i e; rw [e] at hs; exact absurd hs (by simp)
  · rename_i e; rw [e] at hs; exact absurd hs (by simp)
  · exact h.elim
theorem ob_at.bk {D : va_G} {U : State} {ρ : Nat → List Nat} {β : Nat → Nat → Nat} {base E0 s i : Nat} {ob : Ob} {a : Nat} {H : Heap} (h : ob_at D U ρ β base E0 s i ob a H) (hs : sk s = (2, 0)) (he : E0 < base) (hb : base ≤ β s i) : β s i < H.size := by
  unfold ob_at at h
  rw [hs] at h
  obtain ⟨-, -, -, h3⟩ := h
  rcases h3 with ⟨h3, -⟩ | ⟨-, -, cap, f, cO, h2, -⟩
  · omega
  · exact h2.lt
/-- what stands at a place stands there still, where its cells and its values' places do -/
theorem ob_at.kept {D : va_G} {U : State} {ρ ρ' : Nat → List Nat} {β β' : Nat → Nat → Nat} {base E0 s i : Nat} {ob : Ob} {a : Nat} {H H' : Heap} (h : ob_at D U ρ β base E0 s i ob a H) (hE : Ext ρ ρ') (ha : sk s ≠ (3, 0) → H'[a]? = H[a]?) (hb : sk s = (2, 0) → β' s i = β s i ∧ (base ≤ β s i → H'[β s i]? = H[β s i]?)) (hk : sk s = (2, 0) ∨ (sk s).1 ≠ 2) (h3 : sk s = (3, 0) ∨ (sk s).1 ≠ 3) : ob_at D U ρ' β' base E0 s i ob a H' := by
  unfold ob_at at h ⊢
  split at h
  · rename_i ci e
    rw [e] at ha
    obtain ⟨h1, h2, vs, h3, h4⟩ := h
    exact ⟨h1, h2, vs, srel_mono hE h3, h4.kept (ha (by simp))⟩
  · rename_i t e
    rw [e] at ha
    obtain ⟨h1, cA, f, h2, h3, h4, h5⟩ := h
    exact ⟨h1, cA, f, by rw [ha (by simp)]; exact h2, h3, h4, fun j v hj => vr_mono hE (h5 j v hj)⟩
  · rename_i z e
    have e2 : sk s = (2, 0) := hk.resolve_right (by rw [e]; simp)
    rw [e2] at ha
    obtain ⟨h1, ⟨k, g1⟩, g2, g3⟩ := h
    obtain ⟨b1, b2⟩ := hb e2
    refine ⟨h1, ⟨k, ?_⟩, g2, ?_⟩
    · rw [b1]; exact g1.kept (ha (by simp))
    · rw [b1]
      rcases g3 with g3 | ⟨x1, x2, cap, f, cO, x3, x4, x5, x6, x7, x8, x9⟩
      · exact Or.inl g3
      · exact Or.inr ⟨x1, x2, cap, f, cO, x3.kept (b2 x1), x4, x5, x6, x7, x8, fun j v hj => vr_mono hE (x9 j v hj)⟩
  · rename_i z e
    trivial
  · rename_i z e
    rw [e] at ha
    obtain ⟨h0, scr, h1, h2, h3, h4, h6, h5⟩ := h
    exact ⟨h0, scr, by rw [ha (by simp)]; exact h1, h2, h3, h4, h6, fun j v hj => by obtain ⟨w, x1, x2⟩ := h5 j v hj; exact ⟨w, x1, vr_mono hE x2⟩⟩
  · exact h.elim
theorem sk_fm (s : Nat) : (sk s = (2, 0) ∨ (sk s).1 ≠ 2) ∧ (sk s = (3, 0) ∨ (sk s).1 ≠ 3) := by
  have h : ∀ q ∈ sktab, (q = (2, 0) ∨ q.1 ≠ 2) ∧ (q = (3, 0) ∨ q.1 ≠ 3) := by decide
  unfold sk
  rw [List.getD_eq_getElem?_getD]
  cases hs : sktab[s]? with
  | none => simp
  | some q => exact h q (List.mem_of_getElem? hs)
theorem ob_at.keep {D : va_G} {U : State} {ρ ρ' : Nat → List Nat} {β β' : Nat → Nat → Nat} {base E0 s i : Nat} {ob : Ob} {a : Nat} {H H' : Heap} (h : ob_at D U ρ β base E0 s i ob a H) (hE : Ext ρ ρ') (ha : sk s ≠ (3, 0) → H'[a]? = H[a]?) (hb : sk s = (2, 0) → β' s i = β s i ∧ (base ≤ β s i → H'[β s i]? = H[β s i]?)) : ob_at D U ρ' β' base E0 s i ob a H' :=
  h.kept hE ha hb (sk_fm s).1 (sk_fm s).2
theorem ob_at.moved {D : va_G} {u U : State} {ρ : Nat → List Nat} {β : Nat → Nat → Nat} {base E0 s i : Nat} {ob : Ob} {a : Nat} {H : Heap} (hvm : u.vm.Alike U.vm) (h : ob_at D u ρ β base E0 s i ob a H) : ob_at D U ρ β base E0 s i ob a H := by
  unfold ob_at at h ⊢
  split at h
  · exact h
  · obtain ⟨h1, cA, f, h2, h3, h4, h5⟩ := h
    exact ⟨h1, cA, f, h2, arrOfT_moved hvm h3, h4.moved hvm, h5⟩
  · obtain ⟨h1, g1, g2, g3⟩ := h
    refine ⟨h1, g1, g2, g3.imp id ?_⟩
    rintro ⟨x1, x2, cap, f, cO, x3, x4, x5, x6⟩
    exact ⟨x1, x2, cap, f, cO, x3, arrOfT_moved hvm x4, x5.moved hvm, x6⟩
  · trivial
  · obtain ⟨h0, scr, h1, h2, h3, h4, h6, h5⟩ := h
    exact ⟨h0, scr, h1, State.isArrayOf_alike hvm h2, h3, h4, h6, h5⟩
  · exact h.elim
theorem Sim.moved {base E0 : Nat} {D : va_G} {ρ : Nat → List Nat} {β : Nat → Nat → Nat} {h : Hp} {u U : State} {H : Heap} (hvm : u.vm.Alike U.vm) (S : Sim base E0 D ρ β h u H) : Sim base E0 D ρ β h U H := by
  obtain ⟨h1, h2, h3, h4, h5, h6, h7, h8⟩ := S
  exact ⟨va_K.moved hvm h1, h2, h3, h4, h5, h6, h7, fun s i ob a x y => (h8 s i ob a x y).moved hvm⟩
/-- the script's cell stands below base; all else that is looked at stands from base on, or is the empty row -/
theorem Sim.scr {base E0 : Nat} {D : va_G} {ρ : Nat → List Nat} {β : Nat → Nat → Nat} {h : Hp} {U : State} {H : Heap} (_ : Sim base E0 D ρ β h U H) : True := trivial
/-- more cells: nothing that stands is changed -/
theorem Sim.grown {base E0 : Nat} {D : va_G} {ρ : Nat → List Nat} {β : Nat → Nat → Nat} {h : Hp} {U : State} {H H' : Heap} (S : Sim base E0 D ρ β h U H) (hz : H.size ≤ H'.size) (ho : ∀ q, q < H.size → H'[q]? = H[q]?) : Sim base E0 D ρ β h U H' := by
  obtain ⟨h1, h2, h3, h4, h5, h6, h7, h8⟩ := S
  refine ⟨h1, h2, h3, h4, h5, h6, Nat.le_trans h7 hz, fun s i ob a x y => ?_⟩
  have ha := h8 s i ob a x y
  refine ha.keep Ext.rf (fun hn => ho a ?_) (fun hs => ⟨rfl, fun hb => ho _ (ha.bk hs h6 hb)⟩)
  by_cases hs : (sk s).1 < 3
  · exact ha.lt hs
  · unfold ob_at at ha
    split at ha
    · rename_i e; rw [e] at hs; exact absurd (by simp) hs
    · rename_i e; rw [e] at hs; exact absurd (by simp) hs
    · rename_i e; rw [e] at hs; exact absurd (by simp) hs
    · rename_i z e
      have e2 : sk s = (3, 0) := (sk_fm s).2.resolve_right (by rw [e]; simp)
      exact absurd e2 hn
    · obtain ⟨-, scr, g1, -⟩ := ha; exact (Array.getElem?_eq_some_iff.mp g1).1
    · exact ha.elim
theorem Sim.cost {base E0 : Nat} {D : va_G} {ρ : Nat → List Nat} {β : Nat → Nat → Nat} {h : Hp} {U : State} {H : Heap} (S : Sim base E0 D ρ β h U H) (c n : Nat) : Sim base E0 D ρ β (hcst h c n) U H := S
end
section
/-! what the tables of entries say, as words that hold; then the instructions that read -/
theorem ws_of {w : Cond} {i : Nat} (h : lw_tbl[i]? = some w) (hg : goodWord w = true) : w ∈ WS := List.mem_filter.mpr ⟨List.mem_of_getElem? h, hg⟩
theorem fl_spec {o idx : Nat} {z : Nat × Nat} (h : fl o idx = some z) : Cond.fieldLink (cnm o) idx (fT z.1 z.2).1 (fT z.1 z.2).2.1 (fT z.1 z.2).2.2.1 ∈ WS ∧ z.2 < fN z.1 ∧ z.1 < 10 := by
  unfold fl at h
  obtain ⟨q, h1, rfl⟩ := omap_inv h
  have h2 := List.find?_some h1
  have h3 := List.all_eq_true.mp fl_ok q (List.mem_of_find?_eq_some h1)
  obtain ⟨a, b, c, d, e⟩ := q
  simp only [Bool.and_eq_true, beq_iff_eq] at h2
  obtain ⟨rfl, rfl⟩ := h2
  simp only [okF, Bool.and_eq_true, decide_eq_true_eq] at h3
  exact ⟨ws_of h3.1.1 rfl, h3.1.2, h3.2⟩
theorem cl_spec {o idx c : Nat} (h : cl o idx = some c) : Cond.classLink (cnm o) idx (cnm c) ∈ WS := by
  unfold cl at h
  obtain ⟨q, h1, rfl⟩ := omap_inv h
  have h2 := List.find?_some h1
  have h3 := List.all_eq_true.mp cl_ok q (List.mem_of_find?_eq_some h1)
  obtain ⟨a, b, c, d⟩ := q
  simp only [Bool.and_eq_true, beq_iff_eq] at h2
  obtain ⟨rfl, rfl⟩ := h2
  simp only [okC, decide_eq_true_eq] at h3
  have e : (if c = 11 then 11 else c) = c := by split <;> simp_all
  rw [e] at h3
  exact ws_of h3 rfl
theorem co_spec {o idx : Nat} {v : Int32} (h : co o idx = some v) : Cond.constant (cnm o) idx v ∈ WS := by
  unfold co at h
  obtain ⟨q, h1, rfl⟩ := omap_inv h
  have h2 := List.find?_some h1
  have h3 := List.all_eq_true.mp co_ok q (List.mem_of_find?_eq_some h1)
  obtain ⟨a, b, c, d⟩ := q
  simp only [Bool.and_eq_true, beq_iff_eq] at h2
  obtain ⟨rfl, rfl⟩ := h2
  simp only [decide_eq_true_eq] at h3
  exact ws_of h3 rfl
theorem coL_spec {o idx : Nat} {v : Int64} (h : coL o idx = some v) : Cond.constantLong (cnm o) idx v ∈ WS := by
  unfold coL at h
  obtain ⟨q, h1, rfl⟩ := omap_inv h
  have h2 := List.find?_some h1
  have h3 := List.all_eq_true.mp coL_ok q (List.mem_of_find?_eq_some h1)
  obtain ⟨a, b, c, d⟩ := q
  simp only [Bool.and_eq_true, beq_iff_eq] at h2
  obtain ⟨rfl, rfl⟩ := h2
  simp only [decide_eq_true_eq] at h3
  exact ws_of h3 rfl
theorem coF_spec {o idx : Nat} {v : UInt32} (h : coF o idx = some v) : Cond.constantFloat (cnm o) idx v ∈ WS := by
  unfold coF at h
  obtain ⟨q, h1, rfl⟩ := omap_inv h
  have h2 := List.find?_some h1
  have h3 := List.all_eq_true.mp coF_ok q (List.mem_of_find?_eq_some h1)
  obtain ⟨a, b, c, d⟩ := q
  simp only [Bool.and_eq_true, beq_iff_eq] at h2
  obtain ⟨rfl, rfl⟩ := h2
  simp only [decide_eq_true_eq] at h3
  exact ws_of h3 rfl
set_option maxRecDepth 100000 in
set_option maxHeartbeats 4000000 in
theorem vcl_all : (vcl.all (fun q => (u_ws q.1 q.2.1 q.2.2).all (fun w => goodWord w && decide (w ∈ lw_tbl)))) = true := by decide +kernel
theorem vcl_ws {ci : Nat} {q : vw_C} (h : vcl[ci]? = some q) : ∀ w ∈ u_ws q.1 q.2.1 q.2.2, w ∈ WS := fun w hw => by
  have h1 := List.all_eq_true.mp (List.all_eq_true.mp vcl_all q (List.mem_of_getElem? h)) w hw
  simp only [Bool.and_eq_true, decide_eq_true_eq] at h1
  exact List.mem_filter.mpr ⟨h1.2, h1.1⟩
theorem vcl_zip : ∀ q ∈ vcl.zip vtys, (∀ k, k < q.1.2.2 → parseFieldDescriptor (q.1.2.1 k).2.2.1 = some (q.2 k)) ∧ (∀ a, a < q.1.2.2 → ∀ b, b < q.1.2.2 → a ≠ b → (q.1.2.1 a).2.1 ≠ (q.1.2.1 b).2.1) := by
  intro q hq
  simp only [vcl, vtys, List.zip_cons_cons, List.zip_nil_right, List.mem_cons, List.not_mem_nil, or_false] at hq
  rcases hq with rfl | rfl | rfl | rfl | rfl | rfl | rfl | rfl | rfl | rfl | rfl
  · exact ⟨tyX0_ok, nmX0⟩
  · exact ⟨tyX1_ok, nmX1⟩
  · exact ⟨tyX2_ok, nmX2⟩
  · exact ⟨tyX3_ok, nmX3⟩
  · exact ⟨tyX4_ok, nmX4⟩
  · exact ⟨tyX5_ok, nmX5⟩
  · exact ⟨tyX6_ok, nmX6⟩
  · exact ⟨tyX7_ok, nmX7⟩
  · exact ⟨tyX8_ok, nmX8⟩
  · exact ⟨tyX9_ok, nmX9⟩
  · exact ⟨tyJx4a65c_ok, nmJx4a65c⟩
theorem vcl_at {ci : Nat} (h : ci < 11) : ∃ q, vcl[ci]? = some q ∧ (∀ k, q.2.1 k = fT ci k) ∧ q.2.2 = fN ci ∧ (ci < 10 → q.1 = cnm ci) ∧ (q, vtys.getD ci (fun _ => .int)) ∈ vcl.zip vtys := by
  have hl : vcl.length = 11 := rfl
  obtain ⟨q, hq⟩ : ∃ q, vcl[ci]? = some q := ⟨_, List.getElem?_eq_getElem (by rw [hl]; exact h)⟩
  refine ⟨q, hq, ?_, ?_, ?_, ?_⟩
  · intro k; unfold fT; rw [hq]
  · unfold fN; rw [hq]
  · intro h2
    match ci, h2 with
    | 0, _ => cases hq; rfl
    | 1, _ => cases hq; rfl
    | 2, _ => cases hq; rfl
    | 3, _ => cases hq; rfl
    | 4, _ => cases hq; rfl
    | 5, _ => cases hq; rfl
    | 6, _ => cases hq; rfl
    | 7, _ => cases hq; rfl
    | 8, _ => cases hq; rfl
    | 9, _ => cases hq; rfl
    | n + 10, h2 => omega
  · have hl2 : vtys.length = 11 := rfl
    obtain ⟨t, ht⟩ : ∃ t, vtys[ci]? = some t := ⟨_, List.getElem?_eq_getElem (by rw [hl2]; exact h)⟩
    have hz : (vcl.zip vtys)[ci]? = some (q, t) := List.getElem?_zip_eq_some.mpr ⟨hq, ht⟩
    rw [List.getD_eq_getElem?_getD, ht]
    exact List.mem_of_getElem? hz
/-- where a method of the tables stands: its row, the machine, its code, its class, the words -/
def Ctx (y : Nat) (p : Program) (s : State) (m : MethodId) (args : Array Value) (meth : Method) (c : Code) (nL : Nat) : Prop := ∃ r : MRow, mrow y = some r ∧ p.tables.exec = Jvm.exec ∧ c.code = r.2.1 ∧ c.maxLocals = nL ∧ nL = r.2.2.1 ∧ meth.sig.returnType = r.2.2.2.1 ∧ s.vm.findClass (cnm (mcl y)) = some m.cls ∧ meth.locks = false ∧ meth.name = r.1.name ∧ (∀ w ∈ WS, w.before args s = true) ∧ c.exceptionTable.toList = tableOf r.2.2.2.2
theorem dec_inv {y pc : Nat} {r : MRow} {q : Instr × Nat} (hr : mrow y = some r) (h : dec y pc = some q) : decode r.2.1 pc = .ok q := by
  unfold dec at h
  rw [hr] at h
  simp only at h
  split at h
  · rename_i z hz; cases h; exact hz
  · cases h
theorem parr_inv {ok : Nat × Nat → Bool} {len pc : Nat} {L : Lo} {st : List MV} {h : Hp} {z} (hh : parr ok len pc L st h = some z) : ∃ j q st1 ob v, st = .inl j :: .inr (.inr (.inr (.inr (some q)))) :: st1 ∧ len = 1 ∧ hget h q.1 q.2 = some ob ∧ ok (sk q.1) = true ∧ ¬ j < 0 ∧ ob[j.toNatClampNeg]? = some v ∧ z = (pc + 1, L, v :: st1) := by
  unfold parr at hh
  split at hh
  · split at hh
    · rename_i ob hg
      split at hh
      · rename_i e
        obtain ⟨v, h1, h2⟩ := omap_inv hh
        exact ⟨_, _, _, ob, v, rfl, e.1, hg, e.2.1, e.2.2, h1, h2⟩
      · cases hh
    · cases hh
  · cases hh
theorem sz_lt {α : Type} {ob : List α} {j : Nat} {v : α} (h : ob[j]? = some v) : j < ob.length := (List.getElem?_eq_some_iff.mp h).1
section RD
variable {p : Program} {l : Launch} {e : Env} {R : Room} {s : State} {m : MethodId} {args : Array Value} {below : List Frame} {meth : Method} {c : Code} {H : Heap} {locs : List Loc} {cells slots : Nat} {Q : State → Prop}
variable {cc : ByteArray} {pc : Nat} {ls : Array Slot} {st' : List Value} {ρ : Nat → List Nat} {β : Nat → Nat → Nat} {nL base E0 : Nat} {L : Lo} {st : List MV} {h : Hp} {D : va_G}
theorem vr_ref {q : Nat × Nat} {w : Value} {a : Nat} (ha : (ρ q.1)[q.2]? = some a) (hv : vr ρ (.inr (.inr (.inr (.inr (some q))))) w) : w = .ref a := by
  obtain ⟨b, h1, rfl⟩ := hv
  rw [Option.some.inj (ha.symm.trans h1)]
/-- a component of an array: the cell, its class, the place -/
theorem arr_at (S : Sim base E0 D ρ β h s H) {q : Nat × Nat} {ob : Ob} (hg : hget h q.1 q.2 = some ob) {t : Nat} (hk : sk q.1 = (1, t)) : ∃ a cA f, (ρ q.1)[q.2]? = some a ∧ H[a]? = some (arrV cA ob.length f) ∧ ArrOfT s cA (aty t) ∧ va_RA s cA (aty t) ∧ base ≤ a ∧ ∀ (j : Nat) (v : MV), ob[j]? = some v → vr ρ v (f j) := by
  obtain ⟨a, ha, ho⟩ := S.ad hg
  unfold ob_at at ho
  rw [hk] at ho
  obtain ⟨h1, cA, f, h2, h3, h4, h5⟩ := ho
  exact ⟨a, cA, f, ha, h2, h3, h4, h1, h5⟩
theorem scr_at (S : Sim base E0 D ρ β h s H) {q : Nat × Nat} {ob : Ob} (hg : hget h q.1 q.2 = some ob) (hk : sk q.1 = (4, 0)) : ∃ a scr, (ρ q.1)[q.2]? = some a ∧ H[a]? = some scr ∧ s.isArrayOf scr .int ∧ scr.vm ≠ .unknown ∧ scr.slots.size = ob.length ∧ ob.length < 2 ^ 31 ∧ ∀ (j : Nat) (v : MV), ob[j]? = some v → ∃ w, scr.slots[j]? = some w ∧ vr ρ v w := by
  obtain ⟨a, ha, ho⟩ := S.ad hg
  unfold ob_at at ho
  rw [hk] at ho
  obtain ⟨-, scr, h2, h3, h4, h5⟩ := ho
  exact ⟨a, scr, ha, h2, h3, h4, h5⟩
theorem obj_at (S : Sim base E0 D ρ β h s H) {q : Nat × Nat} {ob : Ob} (hg : hget h q.1 q.2 = some ob) {ci : Nat} (hk : sk q.1 = (0, ci)) : ∃ a vs, (ρ q.1)[q.2]? = some a ∧ base ≤ a ∧ ob.length = fN ci ∧ srel ρ ob vs ∧ va_at D vcl (a, .inr (ci, vs)) H := by
  obtain ⟨a, ha, ho⟩ := S.ad hg
  unfold ob_at at ho
  rw [hk] at ho
  obtain ⟨h1, h2, vs, h3, h4⟩ := ho
  exact ⟨a, vs, ha, h2, h1, h3, h4⟩
theorem one_P {q : Nat × va_E} {cl : List vw_C} (h : va_at D cl q H) : va_P D cl [q] H := fun k x hk => by
  cases k with
  | zero => simp at hk; subst hk; exact h
  | succ k => simp at hk
set_option maxHeartbeats 4000000 in
/-- reading a field -/
theorem get_ok {y : Nat} (C0 : Ctx y p s m args meth c nL) (S : Sim base E0 D ρ β h s H) {idx : Nat} {z : Nat × Nat} (hf : fl (mcl y) idx = some z) {q : Nat × Nat} {ob : Ob} (hg : hget h q.1 q.2 = some ob) (hk : sk q.1 = (0, z.1)) {v : MV} (hv : ob[z.2]? = some v) {w : Value} (hw : vr ρ (.inr (.inr (.inr (.inr (some q))))) w)
    (hd : dec y pc = some (.getfield idx, 3)) (k : ∀ w2, vr ρ v w2 → W p l e R s m args below meth c H locs cells slots Q (F0 m (pc + 3) ls (w2 :: st'))) : W p l e R s m args below meth c H locs cells slots Q (F0 m pc ls (w :: st')) := by
  obtain ⟨r, hr, hx, hb, hml, -, -, hown, -, -, hts, -⟩ := C0
  obtain ⟨a, vs, ha, -, hlen, hsr, hat⟩ := obj_at S hg hk
  rw [vr_ref ha hw]
  obtain ⟨h1, h2, h3⟩ := fl_spec hf
  obtain ⟨cq, g1, g2, g3, g4, g5⟩ := vcl_at (ci := z.1) (by omega)
  obtain ⟨w2, x1, x2⟩ := srel_at hsr hv
  have e := g2 z.2
  rw [← e] at h1
  exact va_get (C := cq.1) (T := cq.2.1) (N := cq.2.2) (ci := z.1) (cl := vcl) (D := D) (tys := []) (Ts := WS) (ws := [(a, .inr (z.1, vs))]) hx hb hts (vcl_ws g1) hown S.1 (one_P hat) 0 rfl g1 z.2 (by rw [g3]; exact h2) (hts _ h1) (fun _ z => z) x1 (dec_inv hr hd) (k w2 x2)
theorem rd_in {j : Int32} {n : Nat} (h0 : ¬ j < 0) (h : j.toNatClampNeg < n) : ¬ (j < 0 ∨ n ≤ j.toNatClampNeg) := fun q => q.elim h0 (fun z => by omega)
set_option maxHeartbeats 4000000 in
/-- reading a component, or a length -/
theorem ald_ok {y : Nat} (C0 : Ctx y p s m args meth c nL) (S : Sim base E0 D ρ β h s H) {i : Instr} {ok : Nat × Nat → Bool} {len : Nat} {z : Nat × Lo × List MV} (hh : parr ok len pc L st h = some z) (hd : dec y pc = some (i, len)) (hs : srel ρ st st')
    (hi : (i = .iaload ∧ ok = (fun k => k == (1, 0) || k == (4, 0))) ∨ (i = .laload ∧ ok = (fun k => k == (1, 1))) ∨ (i = .baload ∧ ok = (fun k => k == (1, 2))) ∨ (i = .caload ∧ ok = (fun k => k == (1, 3))) ∨ (i = .daload ∧ ok = (fun k => k == (1, 4))) ∨ (i = .aaload ∧ ok = (fun k => k == (1, 5) || k == (1, 6) || k == (1, 7))))
    (k : ∀ (st2 : List Value), z.2.1 = L → srel ρ z.2.2 st2 → W p l e R s m args below meth c H locs cells slots Q (F0 m z.1 ls st2)) : W p l e R s m args below meth c H locs cells slots Q (F0 m pc ls st') := by
  obtain ⟨r, hr, hx, hb, hml, -, -, hown, -, -, hts, -⟩ := C0
  obtain ⟨j, q, st1, ob, v, rfl, rfl, hg, hok, h0, hv, rfl⟩ := parr_inv hh
  obtain ⟨_, _, rfl, rfl, w, st2, rfl, hw, h5⟩ := hs
  have hdd := dec_inv hr hd
  have hin := rd_in h0 (sz_lt hv)
  have go : ∀ w2, vr ρ v w2 → W p l e R s m args below meth c H locs cells slots Q (F0 m (pc + 1) ls (w2 :: st2)) := fun w2 h2 => k _ rfl ⟨_, _, rfl, h2, h5⟩
  rcases hi with ⟨rfl, rfl⟩ | ⟨rfl, rfl⟩ | ⟨rfl, rfl⟩ | ⟨rfl, rfl⟩ | ⟨rfl, rfl⟩ | ⟨rfl, rfl⟩
  · simp only [Bool.or_eq_true, beq_iff_eq] at hok
    rcases hok with hk | hk
    · obtain ⟨a, cA, f, ha, h1, h2, h3, -, h4⟩ := arr_at S hg hk
      rw [vr_ref ha hw]
      exact W.iald hx hb h1 (h2 _ _) (fun q => by cases q) (by rw [arrV_size]; exact hin) (arrV_read _ _ (sz_lt hv)) rfl rfl hdd (go _ (h4 _ _ hv))
    · obtain ⟨a, scr, ha, h1, h2, h3, h4, -, h5⟩ := scr_at S hg hk
      rw [vr_ref ha hw]
      obtain ⟨w2, x1, x2⟩ := h5 _ _ hv
      exact W.iald hx hb h1 h2 h3 (by rw [h4]; exact hin) x1 rfl rfl hdd (go _ x2)
  · obtain ⟨a, cA, f, ha, h1, h2, h3, -, h4⟩ := arr_at S hg (by simpa using hok)
    rw [vr_ref ha hw]
    exact W.lald hx hb h1 (h2 _ _) (fun q => by cases q) (by rw [arrV_size]; exact hin) (arrV_read _ _ (sz_lt hv)) rfl rfl hdd (go _ (h4 _ _ hv))
  · obtain ⟨a, cA, f, ha, h1, h2, h3, -, h4⟩ := arr_at S hg (by simpa using hok)
    rw [vr_ref ha hw]
    exact W.zald hx hb h1 (h2 _ _) (fun q => by cases q) (by rw [arrV_size]; exact hin) (arrV_read _ _ (sz_lt hv)) rfl rfl hdd (go _ (h4 _ _ hv))
  · obtain ⟨a, cA, f, ha, h1, h2, h3, -, h4⟩ := arr_at S hg (by simpa using hok)
    rw [vr_ref ha hw]
    exact W.cald hx hb h1 (h2 _ _) (fun q => by cases q) (by rw [arrV_size]; exact hin) (arrV_read _ _ (sz_lt hv)) rfl rfl hdd (go _ (h4 _ _ hv))
  · obtain ⟨a, cA, f, ha, h1, h2, h3, -, h4⟩ := arr_at S hg (by simpa using hok)
    rw [vr_ref ha hw]
    exact W.dald hx hb h1 (h2 _ _) (fun q => by cases q) (by rw [arrV_size]; exact hin) (arrV_read _ _ (sz_lt hv)) rfl rfl hdd (go _ (h4 _ _ hv))
  · obtain ⟨t, hk, ht⟩ : ∃ t, sk q.1 = (1, t) ∧ (aty t).isReference = true := by
      simp only [Bool.or_eq_true, beq_iff_eq] at hok
      rcases hok with (hk | hk) | hk
      · exact ⟨5, hk, rfl⟩
      · exact ⟨6, hk, rfl⟩
      · exact ⟨7, hk, rfl⟩
    obtain ⟨a, cA, f, ha, h1, h2, h3, -, h4⟩ := arr_at S hg hk
    rw [vr_ref ha hw]
    exact W.aald hx hb h1 (h2 _ _) ht (fun q => by cases q) (by rw [arrV_size]; exact hin) (arrV_read _ _ (sz_lt hv)) rfl rfl hdd (go _ (h4 _ _ hv))
end RD
end
section
section RD2
variable {p : Program} {l : Launch} {e : Env} {R : Room} {s : State} {m : MethodId} {args : Array Value} {below : List Frame} {meth : Method} {c : Code} {H : Heap} {locs : List Loc} {cells slots : Nat} {Q : State → Prop}
variable {cc : ByteArray} {pc : Nat} {ls : Array Slot} {st' : List Value} {ρ : Nat → List Nat} {β : Nat → Nat → Nat} {nL base E0 : Nat} {L : Lo} {st : List MV} {h : Hp} {D : va_G}
theorem m_ldcwF {T : State} (X : Stand p l e R s m args below meth c T locs cells slots) (hexec : p.tables.exec = Jvm.exec) {own : String} {index : Nat} {v : UInt32} (hown : s.vm.findClass own = some m.cls)
    (hconst : (Cond.constantFloat own index v).before args s = true) {g : JFrame} (hg : g.method = m) (hdg : decode c.code g.pc = .ok (.ldc_w index, 3)) :
    ∀ target, Steps p.tables e below (T.setTop { g with pc := g.pc + 3, stack := .float v :: g.stack }) target → Steps p.tables e below (T.setTop g) target := by
  obtain ⟨k, cf, hk, hcf, hcp⟩ := Cond.constantFloat_spec hown hconst
  obtain ⟨k', hk', he⟩ := X.warmed.alike.2.2 _ _ hk
  intro target hrest
  subst hg
  jvm_step X.here [hexec, hdg, ldc_w.wp_float (s := T) (f := g) X.here.top hk' (by rw [he]; exact hcf) hcp]
  exact hrest
theorem m_ldcw (hexec : p.tables.exec = Jvm.exec) (hb : c.code = cc) {own : String} {index : Nat} {v : UInt32} (hown : s.vm.findClass own = some m.cls) (hconst : (Jvm.Cond.constantFloat own index v).before args s = true) (hdg : decode cc pc = .ok (.ldc_w index, 3)) {rest : List Value} (k : W p l e R s m args below meth c H locs cells slots Q (F0 m (pc + 3) ls (.float v :: rest))) : W p l e R s m args below meth c H locs cells slots Q (F0 m pc ls rest) := by
  intro T hT X
  obtain ⟨t, a, b⟩ := k T hT X
  exact ⟨t, m_ldcwF X hexec hown hconst (g := F0 m pc ls rest) rfl (by rw [hb]; exact hdg) t a, b⟩
theorem jl_mem {o idx k : Nat} (h : jl o idx = some k) : ∃ pl, (o, idx, k, pl) ∈ jltab := by
  unfold jl at h
  obtain ⟨q, h1, rfl⟩ := omap_inv h
  have h2 := List.find?_some h1
  obtain ⟨a, b, c, d⟩ := q
  simp only [Bool.and_eq_true, beq_iff_eq] at h2
  obtain ⟨rfl, rfl⟩ := h2
  exact ⟨d, List.mem_of_find?_eq_some h1⟩
/-- the members of the JDK that are called by name -/
def jnm (k : Nat) : MethodName := ([⟨"java/util/ArrayList", "<init>", "()V"⟩, ⟨"java/util/ArrayList", "add", "(Ljava/lang/Object;)Z"⟩, ⟨"java/util/ArrayList", "get", "(I)Ljava/lang/Object;"⟩, ⟨"java/util/ArrayList", "size", "()I"⟩, ⟨"java/util/ArrayList", "remove", "(I)Ljava/lang/Object;"⟩, ⟨"java/util/ArrayList", "clear", "()V"⟩, ⟨"java/util/ArrayList", "add", "(ILjava/lang/Object;)V"⟩, ⟨"java/lang/Math", "max", "(II)I"⟩, ⟨"java/lang/Math", "min", "(II)I"⟩, ⟨"java/lang/Object", "<init>", "()V"⟩] : List MethodName).getD k ⟨"", "", ""⟩
set_option maxRecDepth 100000 in
theorem jl_ok : jltab.all (fun q => decide (lw_tbl[q.2.2.2]? = some (.methodLink (cnm q.1) q.2.1 (jnm q.2.2.1)))) = true := by decide +kernel
theorem jl_spec {o idx k : Nat} (h : jl o idx = some k) : Cond.methodLink (cnm o) idx (jnm k) ∈ WS := by
  obtain ⟨pl, h1⟩ := jl_mem h
  have h2 := List.all_eq_true.mp jl_ok _ h1
  simp only [decide_eq_true_eq] at h2
  exact ws_of h2 rfl
set_option maxRecDepth 100000 in
theorem w_maxS : Cond.static Lib.Math.max.name ∈ WS := ws_of (i := 197) (by decide +kernel) rfl
set_option maxRecDepth 100000 in
theorem w_minS : Cond.static Lib.Math.min.name ∈ WS := ws_of (i := 237) (by decide +kernel) rfl
set_option maxRecDepth 100000 in
theorem w_mathI : Cond.initialized "java/lang/Math" ∈ WS := ws_of (i := 69) (by decide +kernel) rfl
set_option maxRecDepth 100000 in
theorem w_maxC : Cond.code Lib.Math.max.name Lib.Math.max.code 2 (some .int) ∈ WS := ws_of (i := 198) (by decide +kernel) rfl
set_option maxRecDepth 100000 in
theorem w_minC : Cond.code Lib.Math.min.name Lib.Math.min.code 2 (some .int) ∈ WS := ws_of (i := 238) (by decide +kernel) rfl
set_option maxRecDepth 100000 in
theorem w_objI : Cond.instanceMethod objectInit ∈ WS := ws_of (i := 104) (by decide +kernel) rfl
set_option maxRecDepth 100000 in
theorem w_objC : Cond.code objectInit ⟨#[0xb1]⟩ 1 none ∈ WS := ws_of (i := 105) (by decide +kernel) rfl
/-- the room that every frame has -/
def Rm (R : Room) : Prop := 14 ≤ R.frames ∧ 900 ≤ R.locals
set_option maxHeartbeats 4000000 in
/-- the other readers: lengths, casts, constants, Math, Object() -/
theorem hrd_ok {y : Nat} (C0 : Ctx y p s m args meth c nL) (hR : Rm R) (hcs : cells ≤ R.cells ∧ slots ≤ R.slots) (S : Sim base E0 D ρ β h s H) {i : Instr} {len : Nat} {z : Nat × Lo × List MV} (hnv : ∀ idx, i ≠ .invokevirtual idx) (hh : hrd (mcl y) i len pc L st h = some z) (hd : dec y pc = some (i, len)) (hl : lrel ρ ls L nL) (hs : srel ρ st st')
    (k : ∀ (st2 : List Value), z.2.1 = L → srel ρ z.2.2 st2 → W p l e R s m args below meth c H locs cells slots Q (F0 m z.1 ls st2)) : W p l e R s m args below meth c H locs cells slots Q (F0 m pc ls st') := by
  have C1 := C0
  obtain ⟨r, hr, hx, hb, hml, hnl, -, hown, -, -, hts, -⟩ := C0
  have hdd := dec_inv hr hd
  have hsz : c.maxLocals = ls.size := by rw [hml]; exact hl.1.symm
  cases i with
  | getfield idx =>
    simp only [hrd] at hh
    split at hh
    · split at hh
      · rename_i f hf
        split at hh
        · rename_i ob hg
          split at hh
          · rename_i g
            obtain ⟨v, h1, rfl⟩ := omap_inv hh
            obtain ⟨rfl, g2⟩ := g
            obtain ⟨w, st2, rfl, hw, h5⟩ := hs
            exact get_ok C1 S hf hg g2 h1 hw hd fun w2 h2 => k _ rfl ⟨_, _, rfl, h2, h5⟩
          · cases hh
        · cases hh
      · cases hh
    · cases hh
  | iaload => simp only [hrd] at hh; exact ald_ok C1 S hh hd hs (Or.inl ⟨rfl, rfl⟩) k
  | laload => simp only [hrd] at hh; exact ald_ok C1 S hh hd hs (Or.inr (Or.inl ⟨rfl, rfl⟩)) k
  | baload => simp only [hrd] at hh; exact ald_ok C1 S hh hd hs (Or.inr (Or.inr (Or.inl ⟨rfl, rfl⟩))) k
  | caload => simp only [hrd] at hh; exact ald_ok C1 S hh hd hs (Or.inr (Or.inr (Or.inr (Or.inl ⟨rfl, rfl⟩)))) k
  | daload => simp only [hrd] at hh; exact ald_ok C1 S hh hd hs (Or.inr (Or.inr (Or.inr (Or.inr (Or.inl ⟨rfl, rfl⟩))))) k
  | aaload => simp only [hrd] at hh; exact ald_ok C1 S hh hd hs (Or.inr (Or.inr (Or.inr (Or.inr (Or.inr ⟨rfl, rfl⟩))))) k
  | arraylength =>
    simp only [hrd] at hh
    split at hh
    · split at hh
      · rename_i ob hg
        split at hh
        · rename_i g
          cases hh
          obtain ⟨rfl, g2⟩ := g
          obtain ⟨w, st2, rfl, hw, h5⟩ := hs
          rcases g2 with g2 | g2
          · obtain ⟨a, cA, f, ha, h1, h2, h3, -, h4⟩ := arr_at (t := (sk _).2) S hg (Prod.ext g2 rfl)
            rw [vr_ref ha hw]
            exact W.alen (n := Int32.ofNat ob.length) hx hb h1 (h2 _ _) (by rw [arrV_size] <;> rfl) rfl rfl hdd (k _ rfl ⟨_, _, rfl, rfl, h5⟩)
          · obtain ⟨a, scr, ha, h1, h2, h3, h4, -, h6⟩ := scr_at S hg g2
            rw [vr_ref ha hw]
            exact W.alen (n := Int32.ofNat ob.length) hx hb h1 h2 (by rw [h4] <;> rfl) rfl rfl hdd (k _ rfl ⟨_, _, rfl, rfl, h5⟩)
        · cases hh
      · cases hh
    · cases hh
  | checkcast idx =>
    simp only [hrd] at hh
    split at hh
    · split at hh
      · rename_i g
        cases hh
        subst g
        obtain ⟨w, st2, rfl, hw, h5⟩ := hs
        obtain rfl : w = Value.null := hw
        exact lv_castN hx hb hdd (k _ rfl ⟨_, _, rfl, rfl, h5⟩)
      · cases hh
    · rename_i q st1
      split at hh
      · rename_i g
        cases hh
        obtain ⟨rfl, g2, g3⟩ := g
        obtain ⟨w, st2, rfl, hw, h5⟩ := hs
        obtain ⟨cx, hc, hk⟩ := omap_inv g2
        obtain ⟨ob, hg⟩ := Option.isSome_iff_exists.mp g3
        obtain ⟨a, vs, ha, -, -, -, hat⟩ := obj_at S hg hk
        have hlk := cl_spec hc
        rw [vr_ref ha hw]
        obtain ⟨rr, h1, h2⟩ := hat
        have hcx : cx < 11 := by
          have := (List.getElem?_eq_some_iff.mp h1).1
          exact this
        obtain ⟨cq, g1, -, -, g4, -⟩ := vcl_at hcx
        have e1 : rr = cq := Option.some.inj (h1.symm.trans g1)
        subst e1
        have hkn := S.1.1 cx _ g1
        obtain ⟨cell, q1, q2, q3, q4⟩ := h2
        by_cases h10 : cx < 10
        · rw [← g4 h10] at hlk
          exact va_castS hx hb hown (hts _ hlk) hkn.2 ⟨cell, q1, by rw [q3]; rfl, by rw [q2]; exact hkn.2.1⟩ hdd (k _ rfl ⟨_, _, rfl, ⟨a, ha, rfl⟩, h5⟩)
        · exfalso
          have e10 : cx = 10 := by omega
          subst e10
          exact absurd hk (by
            intro z
            have hm : ∀ q ∈ sktab, q ≠ (0, 10) := by decide
            unfold sk at z
            rw [List.getD_eq_getElem?_getD] at z
            cases hs2 : sktab[q.1]? with
            | none => rw [hs2] at z; simp at z
            | some u => rw [hs2] at z; exact hm u (List.mem_of_getElem? hs2) z)
      · cases hh
    · cases hh
  | ldc idx =>
    simp only [hrd] at hh
    split at hh
    · rename_i v hv
      split at hh
      · rename_i g; cases hh; subst g; exact lv_ldc hx hb hown (hts _ (co_spec hv)) hdd (k _ rfl ⟨_, _, rfl, rfl, hs⟩)
      · cases hh
    · split at hh
      · rename_i v hv
        split at hh
        · rename_i g; cases hh; subst g; exact lv_ldcf hx hb hown (hts _ (coF_spec hv)) hdd (k _ rfl ⟨_, _, rfl, rfl, hs⟩)
        · cases hh
      · cases hh
  | ldc_w idx =>
    simp only [hrd] at hh
    split at hh
    · rename_i v hv
      split at hh
      · rename_i g; cases hh; subst g; exact lv_ldcw hx hb hown (hts _ (co_spec hv)) hdd (k _ rfl ⟨_, _, rfl, rfl, hs⟩)
      · cases hh
    · split at hh
      · rename_i v hv
        split at hh
        · rename_i g; cases hh; subst g; exact m_ldcw hx hb hown (hts _ (coF_spec hv)) hdd (k _ rfl ⟨_, _, rfl, rfl, hs⟩)
        · cases hh
      · cases hh
  | ldc2_w idx =>
    simp only [hrd] at hh
    split at hh
    · rename_i v hv
      split at hh
      · rename_i g; cases hh; subst g; exact lv_ldc2 hx hb hown (hts _ (coL_spec hv)) hdd (k _ rfl ⟨_, _, rfl, rfl, hs⟩)
      · cases hh
    · cases hh
  | invokestatic idx =>
    simp only [hrd] at hh
    split at hh
    · split at hh
      · rename_i g
        obtain ⟨rfl, g2⟩ := g
        obtain ⟨_, _, rfl, rfl, _, st2, rfl, rfl, h5⟩ := hs
        rw [← srel_cat h5] at g2
        split at hh
        · rename_i hj
          cases hh
          exact va_mmax hx hb hsz hown (hts _ (jl_spec hj)) (hts _ w_maxS) (hts _ w_mathI) (hts _ w_maxC) (by have := hR.1; omega) (by have := hR.2; omega) hcs.1 hcs.2 hdd (k _ rfl ⟨_, _, rfl, rfl, h5⟩)
        · split at hh
          · rename_i hj
            cases hh
            exact va_mmin hx hb hsz hown (hts _ (jl_spec hj)) (hts _ w_minS) (hts _ w_mathI) (hts _ w_minC) (by have := hR.1; omega) (by have := hR.2; omega) hcs.1 hcs.2 hdd (k _ rfl ⟨_, _, rfl, rfl, h5⟩)
          · cases hh
      · cases hh
    · cases hh
  | invokespecial idx =>
    simp only [hrd] at hh
    split at hh
    · split at hh
      · rename_i g
        cases hh
        obtain ⟨rfl, g2, hj⟩ := g
        obtain ⟨w, st2, rfl, ⟨a, ha, rfl⟩, h5⟩ := hs
        rw [← srel_cat h5] at g2
        exact W.objInit (g := F0 m pc ls (.ref a :: st2)) hx hb hown (hts _ (jl_spec hj)) (hts _ w_objI) (hts _ w_objC) rfl hsz.symm rfl hdd (by have := hR.1; omega) (by have := hR.2; show 2 * 0 + _ + 12 ≤ _; omega) (k _ rfl h5)
      · cases hh
    · cases hh
  | invokevirtual idx => exact absurd rfl (hnv idx)
  | _ => simp [hrd] at hh
end RD2
end
section
/-! writes -/
/-- one object's cells change, nothing else that stands -/
theorem Sim.ch {base E0 : Nat} {D : va_G} {ρ : Nat → List Nat} {β : Nat → Nat → Nat} {h : Hp} {U : State} {H H' : Heap} (S : Sim base E0 D ρ β h U H) {s0 i0 : Nat} {ob ob' : Ob} {a : Nat} (hg : hget h s0 i0 = some ob) (ha : (ρ s0)[i0]? = some a) (h3 : (sk s0).1 < 3) (h2 : (sk s0).1 ≠ 2)
    (hz : H'.size = H.size) (ho : ∀ q, q ≠ a → H'[q]? = H[q]?) (hn : ob_at D U ρ β base E0 s0 i0 ob' a H') : Sim base E0 D ρ β (hput h s0 i0 ob') U H' := by
  obtain ⟨k1, k2, k3, k4, k5, k6, k7, k8⟩ := S
  have ha0 := k8 s0 i0 ob a hg ha
  refine ⟨k1, fun s => ?_, k3, k4, k5, k6, by rw [hz]; exact k7, fun s i ob2 a2 x y => ?_⟩
  · rw [k2 s]
    show _ = (if s = s0 then (h.1 s0).set i0 ob' else h.1 s).length
    split
    · rename_i e; subst e; simp
    · rfl
  · by_cases e : s = s0 ∧ i = i0
    · obtain ⟨rfl, rfl⟩ := e
      have e2 : a2 = a := Option.some.inj (y.symm.trans ha)
      subst e2
      have hx : hget (hput h s i ob') s i = some ob' := by
        show (if s = s then (h.1 s).set i ob' else h.1 s)[i]? = some ob'
        rw [if_pos rfl, List.getElem?_set]
        have : i < (h.1 s).length := sz_lt hg
        simp [this]
      rw [hx] at x
      cases x
      exact hn
    · have hx : hget (hput h s0 i0 ob') s i = hget h s i := by
        show (if s = s0 then (h.1 s0).set i0 ob' else h.1 s)[i]? = (h.1 s)[i]?
        split
        · rename_i e1
          subst e1
          rw [List.getElem?_set, if_neg (fun z => e ⟨rfl, z.symm⟩)]
        · rfl
      rw [hx] at x
      have hb2 := k8 s i ob2 a2 x y
      refine hb2.keep Ext.rf (fun hn3 => ho a2 (fun z => ?_)) (fun hs => ⟨rfl, fun hb => ho _ (fun z => ?_)⟩)
      · by_cases hs3 : (sk s).1 < 3
        · subst z
          exact e (k3 _ _ _ _ _ hs3 h3 y ha)
        · -- the script stands below base
          unfold ob_at at hb2
          split at hb2
          · rename_i e4; rw [e4] at hs3; exact absurd (by simp) hs3
          · rename_i e4; rw [e4] at hs3; exact absurd (by simp) hs3
          · rename_i e4; rw [e4] at hs3; exact absurd (by simp) hs3
          · rename_i z4 e4
            exact hn3 ((sk_fm s).2.resolve_right (by rw [e4]; simp))
          · have := hb2.1
            have := ha0.ge h3
            omega
          · exact hb2.elim
      · exact k4 s i s0 i0 a hs (sz_lt y) hb h3 ha z
theorem fT_own : ∀ {ci k : Nat}, ci < 10 → k < fN ci → (fT ci k).1 = cnm ci := by
  have h : ∀ ci, ci < 10 → ∀ k, k < fN ci → (fT ci k).1 = cnm ci := by decide +kernel
  intro ci k h1 h2
  exact h _ h1 _ h2
section WR
variable {p : Program} {l : Launch} {e : Env} {R : Room} {s : State} {m : MethodId} {args : Array Value} {below : List Frame} {meth : Method} {c : Code} {H : Heap} {locs : List Loc} {cells slots : Nat} {Q : State → Prop}
variable {cc : ByteArray} {pc : Nat} {ls : Array Slot} {st' : List Value} {ρ : Nat → List Nat} {β : Nat → Nat → Nat} {nL base E0 : Nat} {L : Lo} {st : List MV} {h : Hp} {D : va_G}
theorem pfit_ok {ty : FieldType} {v : MV} {w : Value} (h : pfit ty v = true) (hv : vr ρ v w) : narrow ty w = w ∧ fits ty w = true := by
  rcases v with x | x | x | x | (_ | q)
  · obtain rfl : w = .int x := hv
    cases ty with
    | boolean =>
      simp only [pfit, Bool.or_eq_true, decide_eq_true_eq] at h
      rcases h with rfl | rfl
      · exact ⟨rfl, rfl⟩
      · exact ⟨rfl, rfl⟩
    | char =>
      simp only [pfit, Bool.and_eq_true, decide_eq_true_eq] at h
      refine ⟨congrArg Value.int h.1.1, ?_⟩
      simp [fits, h.1.2, h.2]
    | int => exact ⟨rfl, rfl⟩
    | _ => simp [pfit] at h
  · obtain rfl : w = .long x := hv
    cases ty with
    | long => exact ⟨rfl, rfl⟩
    | _ => simp [pfit] at h
  · cases ty <;> simp [pfit] at h
  · cases ty <;> simp [pfit] at h
  · obtain rfl : w = .null := hv
    cases ty with
    | object n => exact ⟨rfl, rfl⟩
    | array t => exact ⟨rfl, rfl⟩
    | _ => simp [pfit] at h
  · obtain ⟨a, -, rfl⟩ := hv
    cases ty with
    | object n => exact ⟨rfl, rfl⟩
    | array t => exact ⟨rfl, rfl⟩
    | _ => simp [pfit] at h
theorem srel_len2 {l : List MV} {vs : List Value} (hh : srel ρ l vs) {k : Nat} (hk : k < l.length) : k < vs.length := by rw [srel_len hh]; exact hk
set_option maxHeartbeats 4000000 in
/-- writing a field -/
theorem put_ok {y : Nat} (C0 : Ctx y p s m args meth c nL) (S : Sim base E0 D ρ β h s H) {H0 : Heap} (hS : va_S (fun q => base ≤ q) H0 H locs) {idx : Nat} {z : Nat × Nat} (hf : fl (mcl y) idx = some z) {q : Nat × Nat} {ob : Ob} (hg : hget h q.1 q.2 = some ob) (hk : sk q.1 = (0, z.1)) {v : MV} {w wr : Value} (hv : vr ρ v w) (hw : vr ρ (.inr (.inr (.inr (.inr (some q))))) wr)
    (hfit : pfit ((vtys.getD z.1 (fun _ => .int)) z.2) v = true) (hfin : (fT z.1 z.2).2.2.2 = false ∨ (meth.name = "<init>" ∧ mcl y = z.1)) (hd : dec y pc = some (.putfield idx, 3))
    (k : ∀ (H1 : Heap) (locs1 : List Loc), Sim base E0 D ρ β (hput h q.1 q.2 (ob.set z.2 v)) s H1 → va_S (fun q => base ≤ q) H0 H1 locs1 → W p l e R s m args below meth c H1 locs1 cells slots Q (F0 m (pc + 3) ls st')) : W p l e R s m args below meth c H locs cells slots Q (F0 m pc ls (w :: wr :: st')) := by
  obtain ⟨r, hr, hx, hb, hml, -, -, hown, -, -, hts, -⟩ := C0
  obtain ⟨a, vs, ha, hba, hlen, hsr, hat⟩ := obj_at S hg hk
  rw [vr_ref ha hw]
  obtain ⟨h1, h2, h3⟩ := fl_spec hf
  obtain ⟨cq, g1, g2, g3, g4, g5⟩ := vcl_at (ci := z.1) (by omega)
  have e := g2 z.2
  rw [← e] at h1 hfin
  have hz : z.2 < cq.2.2 := by rw [g3]; exact h2
  obtain ⟨hty, hnm⟩ := vcl_zip _ g5
  obtain ⟨hn, hft⟩ := pfit_ok hfit hv
  have hkl : z.2 < vs.length := srel_len2 hsr (by rw [hlen]; exact h2)
  have fin : ∀ (H1 : Heap), va_at D vcl (a, .inr (z.1, vs.set z.2 w)) H1 → H1.size = H.size → (∀ q, q ≠ a → H1[q]? = H[q]?) → Sim base E0 D ρ β (hput h q.1 q.2 (ob.set z.2 v)) s H1 := by
    intro H1 x1 x2 x3
    refine S.ch hg ha (by rw [hk]; simp) (by rw [hk]; simp) x2 x3 ?_
    unfold ob_at
    rw [hk]
    exact ⟨by rw [List.length_set]; exact hlen, hba, vs.set z.2 w, srel_set hsr z.2 hv, x1⟩
  have hts' : ∀ w ∈ WS, w.before args s = true := hts
  have hap := va_apart (cl := vcl) (D := D) (ci := z.1) (own := cnm (mcl y)) hts' (vcl_ws g1) ((vtys.getD z.1 (fun _ => .int))) hty hnm S.1 g1
  have hat2 := hat
  obtain ⟨rr, y1, cell, q1, q2, q3, q4⟩ := hat2
  have hr2 : rr = cq := Option.some.inj (y1.symm.trans g1)
  subst hr2
  obtain ⟨hSl, hfc, kC, hkC, hkind⟩ := S.1.1 z.1 _ g1
  obtain ⟨cf, kf, fi, f, hi, hsl⟩ := hSl z.2 hz
  have hlay := hts _ (vcl_ws g1 _ (u_in_lay hz))
  have hst := (u_facts hfc hkC (u_lays hts (vcl_ws g1) hz) hi).1
  have mk : ∀ H1 : Heap, H1[a]? = some (cell.setSlot f.slot w) → va_at D vcl (a, .inr (z.1, vs.set z.2 w)) H1 := by
    intro H1 e1
    rw [hsl] at e1
    exact ⟨rr, y1, t_OB.to (V := updV (vp_V vs) z.2 w) ⟨_, e1, q2, q3, t_set q4 hap hz w⟩ (fun j _ => vp_updV_set hkl w j)⟩
  rcases Bool.eq_false_or_eq_true (rr.2.1 z.2).2.2.2 with hF | hF
  · have hin2 := hfin.resolve_left (by rw [hF]; decide)
    unfold u_lay at hlay
    rw [if_pos hF] at hlay
    have hcf : m.cls = cf := by
      obtain ⟨_, _, c', _, _, _, -, -, hf', -, -, -, hown2, -⟩ := Cond.laysFinal_spec hlay
      have e1 : c' = cf := by have := hi.symm.trans hf'; simp at this; exact this.1.symm
      have hdecl : (rr.2.1 z.2).1 = cnm (mcl y) := by
        rw [hin2.2, e]
        exact fT_own h3 h2
      rw [hdecl] at hown2
      rw [← e1]; exact Option.some.inj (hown.symm.trans hown2)
    have h6 := u_fits hfc hkC hkind (Or.inr hlay) hi (hty _ hz) hn hft
    refine W.putFinK hx hb hown (hts _ h1) hi hst hcf hin2.1 (by rw [q2]; exact h6) q1 q3 (by rw [hsl]; exact k2_hasslot (q4 z.2 hz)) rfl rfl (dec_inv hr hd) fun H' e1 e2 e3 => ?_
    exact k H' _ (fin H' (mk H' e1) e2 e3) (hS.put e2 e3 hba)
  · unfold u_lay at hlay
    rw [if_neg (by rw [hF]; decide)] at hlay
    have h6 := u_store hfc hkC hkind hlay hi (hty _ hz) hn hft
    refine W.putK hx hb (f := f) ⟨hown, hts _ h1, ⟨_, _, _, hi⟩, hst⟩ (by rw [q2]; exact h6) q1 q3 (by rw [hsl]; exact k2_hasslot (q4 z.2 hz)) rfl rfl (dec_inv hr hd) fun H' e1 e2 e3 => ?_
    exact k H' _ (fin H' (mk H' e1) e2 e3) (hS.put e2 e3 hba)
theorem wst_inv {t : Nat} {cv : MV → Option MV} {len pc : Nat} {L : Lo} {st : List MV} {h : Hp} {z} (hh : wst t cv len pc L st h = some z) : ∃ v j q st1 ob w, st = v :: .inl j :: .inr (.inr (.inr (.inr (some q)))) :: st1 ∧ len = 1 ∧ hget h q.1 q.2 = some ob ∧ sk q.1 = (1, t) ∧ ¬ j < 0 ∧ j.toNatClampNeg < ob.length ∧ cv v = some w ∧ z = (pc + 1, L, st1, hput h q.1 q.2 (ob.set j.toNatClampNeg w)) := by
  unfold wst at hh
  split at hh
  · split at hh
    · rename_i ob hg
      split at hh
      · rename_i e
        obtain ⟨w, h1, h2⟩ := omap_inv hh
        exact ⟨_, _, _, _, ob, w, rfl, e.1, hg, e.2.1, e.2.2.1, e.2.2.2, h1, h2⟩
      · cases hh
    · cases hh
  · cases hh
theorem arr_ch (S : Sim base E0 D ρ β h s H) {q : Nat × Nat} {ob : Ob} {a t j : Nat} {cA : ClassId} {f : Nat → Value} {v : MV} {w : Value} (hg : hget h q.1 q.2 = some ob) (hk : sk q.1 = (1, t)) (ha : (ρ q.1)[q.2]? = some a) (hba : base ≤ a) (h2 : ArrOfT s cA (aty t)) (h3 : va_RA s cA (aty t)) (h4 : ∀ (j : Nat) (v : MV), ob[j]? = some v → vr ρ v (f j)) (hv : vr ρ v w)
    {H1 : Heap} (e1 : H1[a]? = some ((arrV cA ob.length f).setSlot j w)) (e2 : H1.size = H.size) (e3 : ∀ q, q ≠ a → H1[q]? = H[q]?) : Sim base E0 D ρ β (hput h q.1 q.2 (ob.set j v)) s H1 := by
  refine S.ch hg ha (by rw [hk]; simp) (by rw [hk]; simp) e2 e3 ?_
  unfold ob_at
  rw [hk]
  refine ⟨hba, cA, updV f j w, ?_, h2, h3, fun i u hu => ?_⟩
  · rw [e1, arrV_store, List.length_set]
  · rw [List.getElem?_set] at hu
    unfold updV
    split at hu
    · rename_i e
      subst e
      split at hu
      · cases hu; rw [if_pos rfl]; exact hv
      · cases hu
    · rename_i e
      rw [if_neg (fun z => e z.symm)]
      exact h4 _ _ hu
set_option maxHeartbeats 4000000 in
/-- storing a component -/
theorem ast_ok {y : Nat} (C0 : Ctx y p s m args meth c nL) (S : Sim base E0 D ρ β h s H) {H0 : Heap} (hS : va_S (fun q => base ≤ q) H0 H locs) {i : Instr} {len : Nat} {z : Nat × Lo × List MV × Hp} (hh : hwr y i len pc L st h = some z) (hi : i = .iastore ∨ i = .lastore ∨ i = .bastore ∨ i = .castore ∨ i = .dastore) (hd : dec y pc = some (i, len)) (hs : srel ρ st st')
    (k : ∀ (H1 : Heap) (locs1 : List Loc) (st2 : List Value), z.2.1 = L → srel ρ z.2.2.1 st2 → Sim base E0 D ρ β z.2.2.2 s H1 → va_S (fun q => base ≤ q) H0 H1 locs1 → W p l e R s m args below meth c H1 locs1 cells slots Q (F0 m z.1 ls st2)) : W p l e R s m args below meth c H locs cells slots Q (F0 m pc ls st') := by
  obtain ⟨r, hr, hx, hb, hml, -, -, hown, -, -, hts, -⟩ := C0
  rcases hi with rfl | rfl | rfl | rfl | rfl <;> simp only [hwr] at hh <;> obtain ⟨v, j, q, st1, ob, w, rfl, rfl, hg, hk, h0, hj, hcv, rfl⟩ := wst_inv hh <;> split at hcv <;> cases hcv <;>
    obtain ⟨_, _, rfl, rfl, _, _, rfl, rfl, w, st2, rfl, hw, h5⟩ := hs <;> have hdd := dec_inv hr hd <;> obtain ⟨a, cA, f, ha, h1, h2, h3, hba, h4⟩ := arr_at S hg hk <;> rw [vr_ref ha hw]
  · exact W.iast hx hb h1 (h2 _ _) (fun q => by cases q) (by rw [arrV_size]; exact rd_in h0 hj) rfl rfl hdd fun H1 e1 e2 e3 => k H1 _ _ rfl h5 (arr_ch (v := vI _) (w := .int _) S hg hk ha hba h2 h3 h4 rfl e1 e2 e3) (hS.put e2 e3 hba)
  · exact W.last hx hb h1 (h2 _ _) (fun q => by cases q) (by rw [arrV_size]; exact rd_in h0 hj) rfl rfl hdd fun H1 e1 e2 e3 => k H1 _ _ rfl h5 (arr_ch (v := vL _) (w := .long _) S hg hk ha hba h2 h3 h4 rfl e1 e2 e3) (hS.put e2 e3 hba)
  · exact W.zast hx hb h1 (h2 _ _) (fun q => by cases q) (by rw [arrV_size]; exact rd_in h0 hj) rfl rfl hdd fun H1 e1 e2 e3 => k H1 _ _ rfl h5 (arr_ch (v := vI (_ &&& 1)) (w := .int (_ &&& 1)) S hg hk ha hba h2 h3 h4 rfl e1 e2 e3) (hS.put e2 e3 hba)
  · exact W.cast hx hb h1 (h2 _ _) (fun q => by cases q) (by rw [arrV_size]; exact rd_in h0 hj) rfl rfl hdd fun H1 e1 e2 e3 => k H1 _ _ rfl h5 (arr_ch (v := vI (_ : Int32).toUInt32.toUInt16.toUInt32.toInt32) (w := .int (_ : Int32).toUInt32.toUInt16.toUInt32.toInt32) S hg hk ha hba h2 h3 h4 rfl e1 e2 e3) (hS.put e2 e3 hba)
  · exact W.dast hx hb h1 (h2 _ _) (fun q => by cases q) (by rw [arrV_size]; exact rd_in h0 hj) rfl rfl hdd fun H1 e1 e2 e3 => k H1 _ _ rfl h5 (arr_ch (v := vD _) (w := .double _) S hg hk ha hba h2 h3 h4 rfl e1 e2 e3) (hS.put e2 e3 hba)
end WR
end
section
/-! new objects and arrays -/
def radds (ρ : Nat → List Nat) (s0 : Nat) (as : List Nat) : Nat → List Nat := fun t => if t = s0 then ρ s0 ++ as else ρ t
def badds (β : Nat → Nat → Nat) (s0 k E0 : Nat) : Nat → Nat → Nat := fun t i => if t = s0 ∧ k ≤ i then E0 else β t i
def Fresh (base : Nat) (ρ : Nat → List Nat) (β : Nat → Nat → Nat) (a : Nat) : Prop := (∀ (s i b : Nat), (sk s).1 < 3 → (ρ s)[i]? = some b → b ≠ a) ∧ ∀ (s i : Nat), sk s = (2, 0) → i < (ρ s).length → base ≤ β s i → β s i ≠ a
theorem radds_ext {ρ : Nat → List Nat} {s0 : Nat} {as : List Nat} : Ext ρ (radds ρ s0 as) := by
  intro s i a h
  unfold radds
  split
  · rename_i e
    subst e
    rw [List.getElem?_append_left (sz_lt h)]
    exact h
  · exact h
theorem radds_inv {ρ : Nat → List Nat} {s0 s i a : Nat} {as : List Nat} (h : (radds ρ s0 as s)[i]? = some a) : (ρ s)[i]? = some a ∨ (s = s0 ∧ (ρ s0).length ≤ i ∧ as[i - (ρ s0).length]? = some a) := by
  unfold radds at h
  split at h
  · rename_i e
    subst e
    by_cases hl : i < (ρ s).length
    · rw [List.getElem?_append_left hl] at h
      exact Or.inl h
    · rw [List.getElem?_append_right (by omega)] at h
      exact Or.inr ⟨rfl, by omega, h⟩
  · exact Or.inl h
theorem Sim.adr {base E0 : Nat} {D : va_G} {ρ : Nat → List Nat} {β : Nat → Nat → Nat} {h : Hp} {U : State} {H : Heap} (S : Sim base E0 D ρ β h U H) {s i a : Nat} (ha : (ρ s)[i]? = some a) : ∃ ob, hget h s i = some ob ∧ ob_at D U ρ β base E0 s i ob a H := by
  have h1 : i < (ρ s).length := sz_lt ha
  rw [S.2.1 s] at h1
  exact ⟨_, List.getElem?_eq_getElem h1, S.2.2.2.2.2.2.2 s i _ a (List.getElem?_eq_getElem h1) ha⟩
theorem Sim.fresh {base E0 : Nat} {D : va_G} {ρ : Nat → List Nat} {β : Nat → Nat → Nat} {h : Hp} {U : State} {H : Heap} (S : Sim base E0 D ρ β h U H) {a : Nat} (hz : H.size ≤ a) : Fresh base ρ β a := by
  refine ⟨fun s i b hs hb e => ?_, fun s i hs hi hb e => ?_⟩
  · obtain ⟨ob, h1, h2⟩ := S.adr hb
    have := h2.lt hs
    omega
  · obtain ⟨ob, h1, h2⟩ := S.adr (List.getElem?_eq_getElem hi)
    have := h2.bk hs S.2.2.2.2.2.1 hb
    omega
theorem Sim.adds {base E0 : Nat} {D : va_G} {ρ : Nat → List Nat} {β : Nat → Nat → Nat} {h : Hp} {U : State} {H : Heap} (S : Sim base E0 D ρ β h U H) {s0 : Nat} {as : List Nat} {obs : List Ob} (h3 : (sk s0).1 < 3) (hlen : as.length = obs.length) (hnd : ∀ (i j a : Nat), as[i]? = some a → as[j]? = some a → i = j) (hf : ∀ a ∈ as, Fresh base ρ β a)
    (hn : ∀ (j : Nat) (ob : Ob) (a : Nat), obs[j]? = some ob → as[j]? = some a → ob_at D U (radds ρ s0 as) (badds β s0 (h.1 s0).length E0) base E0 s0 ((h.1 s0).length + j) ob a H) (c n : Nat) : Sim base E0 D (radds ρ s0 as) (badds β s0 (h.1 s0).length E0) (hnew h s0 obs c n) U H := by
  have S0 := S
  obtain ⟨k1, k2, k3, k4, k5, k6, k7, k8⟩ := S
  have hold : ∀ (s i : Nat), base ≤ badds β s0 (h.1 s0).length E0 s i → i < (radds ρ s0 as s).length → badds β s0 (h.1 s0).length E0 s i = β s i ∧ i < (ρ s).length := by
    intro s i hb hi
    unfold badds at hb ⊢
    split at hb
    · omega
    · rename_i e
      refine ⟨if_neg e, ?_⟩
      unfold radds at hi
      split at hi
      · rename_i e2
        subst e2
        have := k2 s
        have : ¬ (h.1 s).length ≤ i := fun z => e ⟨rfl, z⟩
        omega
      · exact hi
  refine ⟨k1, fun s => ?_, ?_, ?_, ?_, k6, k7, ?_⟩
  · show _ = (if s = s0 then h.1 s0 ++ obs else h.1 s).length
    unfold radds
    split
    · rw [List.length_append, List.length_append, k2 s0, hlen]
    · exact k2 s
  · intro s i s' i' a hs hs' x0 y0
    rcases radds_inv x0 with x | ⟨ex, x1, x2⟩
    · rcases radds_inv y0 with y | ⟨ey, y1, y2⟩
      · exact k3 s i s' i' a hs hs' x y
      · exact absurd rfl ((hf a (List.mem_of_getElem? y2)).1 _ _ _ hs x)
    · rcases radds_inv y0 with y | ⟨ey, y1, y2⟩
      · exact absurd rfl ((hf a (List.mem_of_getElem? x2)).1 _ _ _ hs' y)
      · have := hnd _ _ _ x2 y2
        exact ⟨ex.trans ey.symm, by omega⟩
  · intro s i s' i' a hs hi hb hs' y
    obtain ⟨e1, e2⟩ := hold s i hb hi
    rw [e1] at hb ⊢
    rcases radds_inv y with y | ⟨rfl, y1, y2⟩
    · exact k4 s i s' i' a hs e2 hb hs' y
    · exact (hf a (List.mem_of_getElem? y2)).2 _ _ hs e2 hb
  · intro s i s' i' hs hs' hi hi' hb he
    obtain ⟨e1, e2⟩ := hold s i hb hi
    have hb' : base ≤ badds β s0 (h.1 s0).length E0 s' i' := by rw [← he]; exact hb
    obtain ⟨e3, e4⟩ := hold s' i' hb' hi'
    rw [e1] at hb he
    rw [e3] at he
    exact k5 s i s' i' hs hs' e2 e4 hb he
  · intro s i ob a x y
    rcases radds_inv y with y | ⟨rfl, y1, y2⟩
    · have hi : i < (h.1 s).length := by rw [← k2 s]; exact sz_lt y
      have hx : hget h s i = some ob := by
        have x' : (if s = s0 then h.1 s0 ++ obs else h.1 s)[i]? = some ob := x
        split at x'
        · rename_i e
          subst e
          rw [List.getElem?_append_left hi] at x'
          exact x'
        · exact x'
      refine (k8 s i ob a hx y).keep radds_ext (fun _ => rfl) (fun hs => ⟨?_, fun _ => rfl⟩)
      unfold badds
      rw [if_neg]
      rintro ⟨rfl, z⟩
      omega
    · have x' : (if s = s then h.1 s ++ obs else h.1 s)[i]? = some ob := x
      rw [if_pos rfl, List.getElem?_append_right (by rw [← k2 s]; exact y1)] at x'
      rw [k2 s] at y1 y2
      have h9 := hn _ _ _ x' y2
      rw [show (h.1 s).length + (i - (h.1 s).length) = i by omega] at h9
      exact h9
theorem Sim.cong {base E0 : Nat} {D : va_G} {ρ : Nat → List Nat} {β : Nat → Nat → Nat} {h h' : Hp} {U : State} {H : Heap} (S : Sim base E0 D ρ β h U H) (e : ∀ t, h'.1 t = h.1 t) : Sim base E0 D ρ β h' U H := by
  obtain ⟨k1, k2, k3, k4, k5, k6, k7, k8⟩ := S
  exact ⟨k1, fun s => by rw [e s]; exact k2 s, k3, k4, k5, k6, k7, fun s i ob a x y => k8 s i ob a (by unfold hget at x ⊢; rw [e s] at x; exact x) y⟩
theorem Sim.one {base E0 : Nat} {D : va_G} {ρ : Nat → List Nat} {β : Nat → Nat → Nat} {h : Hp} {U : State} {H H1 : Heap} (S : Sim base E0 D ρ β h U H) {s0 : Nat} {ob : Ob} (h3 : (sk s0).1 < 3) (hz : H.size ≤ H1.size) (ho : ∀ q, q < H.size → H1[q]? = H[q]?) (hn : ob_at D U (radds ρ s0 [H.size]) (badds β s0 (h.1 s0).length E0) base E0 s0 (h.1 s0).length ob H.size H1) (c n : Nat) : Sim base E0 D (radds ρ s0 [H.size]) (badds β s0 (h.1 s0).length E0) (hnew h s0 [ob] c n) U H1 := by
  refine (S.grown hz ho).adds h3 rfl (fun i j a x y => ?_) (fun a ha => ?_) (fun j ob2 a x y => ?_) c n
  · have := sz_lt x
    have := sz_lt y
    simp at *
    omega
  · rw [List.mem_singleton.mp ha]
    exact S.fresh (Nat.le_refl _)
  · have hj := sz_lt x
    simp at hj
    subst hj
    simp at x y
    subst x; subst y
    exact hn
section AL
variable {p : Program} {l : Launch} {e : Env} {R : Room} {s : State} {m : MethodId} {args : Array Value} {below : List Frame} {meth : Method} {c : Code} {H : Heap} {locs : List Loc} {cells slots : Nat} {Q : State → Prop}
variable {cc : ByteArray} {pc : Nat} {ls : Array Slot} {st' : List Value} {ρ : Nat → List Nat} {β : Nat → Nat → Nat} {nL base E0 : Nat} {L : Lo} {st : List MV} {h : Hp} {D : va_G}
theorem tdf_ok (ty : FieldType) : vr ρ (tdf ty) (defaultValue ty) := by cases ty <;> rfl
theorem srel_map {α : Type} (f : α → MV) (g : α → Value) (hfg : ∀ x, vr ρ (f x) (g x)) : ∀ l : List α, srel ρ (l.map f) (l.map g)
  | [] => rfl
  | x :: l => ⟨_, _, rfl, hfg x, srel_map f g hfg l⟩
theorem getD_rm (T : Nat → Value) {n j : Nat} (h : j < n) : ((List.range n).map T).getD j .null = T j := by
  rw [List.getD_eq_getElem?_getD, List.getElem?_map, List.getElem?_range h]
  rfl
set_option maxRecDepth 100000 in
theorem inst_all : (List.range 10).all (fun ci => decide (Cond.instantiable (cnm ci) (fN ci) ∈ lw_tbl) && decide (Cond.initialized (cnm ci) ∈ lw_tbl)) = true := by decide +kernel
theorem inst_ws {ci : Nat} (h : ci < 10) : Cond.instantiable (cnm ci) (fN ci) ∈ WS ∧ Cond.initialized (cnm ci) ∈ WS := by
  have h1 := List.all_eq_true.mp inst_all ci (List.mem_range.mpr h)
  simp only [Bool.and_eq_true, decide_eq_true_eq] at h1
  exact ⟨List.mem_filter.mpr ⟨h1.1, rfl⟩, List.mem_filter.mpr ⟨h1.2, rfl⟩⟩
set_option maxHeartbeats 4000000 in
theorem new_ok {y : Nat} (C0 : Ctx y p s m args meth c nL) (S : Sim base E0 D ρ β h s H) {H0 : Heap} (hS : va_S (fun q => base ≤ q) H0 H locs) {idx ci : Nat} (hci : ci < 10) (hsk : sk ci = (0, ci)) (hcl : cl (mcl y) idx = some ci) (hcells : cells + 1 ≤ R.cells) (hslots : slots + fN ci ≤ R.slots) (hd : dec y pc = some (.new idx, 3)) (n2 c2 : Nat)
    (k : ∀ (H1 : Heap) (ρ1 : Nat → List Nat) (β1 : Nat → Nat → Nat) (a : Nat), Ext ρ ρ1 → (ρ1 ci)[(h.1 ci).length]? = some a → Sim base E0 D ρ1 β1 (hnew h ci [odf ci] c2 n2) s H1 → va_S (fun q => base ≤ q) H0 H1 locs → W p l e R s m args below meth c H1 locs (cells + 1) (slots + fN ci) Q (F0 m (pc + 3) ls (.ref a :: st'))) : W p l e R s m args below meth c H locs cells slots Q (F0 m pc ls st') := by
  obtain ⟨r, hr, hx, hb, hml, -, -, hown, -, -, hts, -⟩ := C0
  obtain ⟨cq, g1, g2, g3, g4, g5⟩ := vcl_at (ci := ci) (by omega)
  obtain ⟨w1, w2⟩ := inst_ws hci
  have hlk := cl_spec hcl
  rw [← g4 hci] at hlk w1 w2
  have hKn := S.1.1 ci _ g1
  obtain ⟨hty, hnm⟩ := vcl_zip _ g5
  refine W.newcK (n := fN ci) hx hb hown (hts _ hlk) (hts _ w1) (hts _ w2) rfl (dec_inv hr hd) hcells hslots hKn.2.1 rfl fun H1 kC hkC e1 z1 o1 => ?_
  have hbs := S.2.2.2.2.2.2.1
  refine k H1 (radds ρ ci [H.size]) (badds β ci (h.1 ci).length E0) H.size radds_ext ?_ (S.one (by rw [hsk]; simp) (by omega) o1 ?_ _ _) ⟨by have := hS.1; omega, fun q q1 q2 => (o1 q (by have := hS.1; omega)).trans (hS.2.1 q q1 q2), hS.2.2⟩
  · unfold radds
    rw [if_pos rfl, List.getElem?_append_right (by rw [S.2.1 ci]; exact Nat.le_refl _), S.2.1 ci]
    simp
  · unfold ob_at
    rw [hsk]
    refine ⟨by simp [odf], hbs, (List.range (fN ci)).map (fun k => defaultValue ((vtys.getD ci (fun _ => .int)) k)), srel_map _ _ (fun k => tdf_ok _) _, ?_⟩
    refine ⟨cq, g1, (u_born _ hts (vcl_ws g1) hKn hkC e1 hty).to fun j hj => ?_⟩
    have hj2 : j < fN ci := by rw [← g3]; exact hj
    exact (getD_rm (fun k => defaultValue ((vtys.getD ci (fun _ => .int)) k)) hj2).symm
def atw (t : Nat) : Bool := decide (Cond.arrayClass (aty t) ∈ lw_tbl)
set_option maxRecDepth 100000 in
theorem atw_all : (List.range 5).all atw = true := by decide +kernel
theorem arrc_ws {t : Nat} (h : t < 5) : Cond.arrayClass (aty t) ∈ WS := by
  have h1 := List.all_eq_true.mp atw_all t (List.mem_range.mpr h)
  exact List.mem_filter.mpr ⟨by simpa [atw] using h1, rfl⟩
theorem adf_ok {t : Nat} (h : t < 5) : vr ρ (adf t) (defaultValue (aty t)) := by
  match t, h with
  | 0, _ => rfl
  | 1, _ => rfl
  | 2, _ => rfl
  | 3, _ => rfl
  | 4, _ => rfl
  | n + 5, h => omega
theorem aty_RA {t : Nat} (h : t < 5) {U : State} {cA : ClassId} (hf : U.vm.findClass ("[" ++ (aty t).toString) = some cA) : va_RA U cA (aty t) := by
  match t, h with
  | 0, _ => exact hf
  | 1, _ => exact hf
  | 2, _ => exact hf
  | 3, _ => exact hf
  | 4, _ => exact hf
  | n + 5, h => omega
theorem aty_cb {t : Nat} (h : t < 5) : componentBytes (aty t) ≤ 8 := by
  match t, h with
  | 0, _ => decide
  | 1, _ => decide
  | 2, _ => decide
  | 3, _ => decide
  | 4, _ => decide
  | n + 5, h => omega
set_option maxHeartbeats 4000000 in
theorem newa_ok {y : Nat} (C0 : Ctx y p s m args meth c nL) (S : Sim base E0 D ρ β h s H) {H0 : Heap} (hS : va_S (fun q => base ≤ q) H0 H locs) {at1 : ArrayType} {s0 t : Nat} (ht : t < 5) (hsk : sk s0 = (1, t)) (hat : newarray.typeOf at1 = aty t) {n : Int32} (h0 : ¬ n < 0) (hn : n.toNatClampNeg ≤ 60000) (hcells : cells + 1 ≤ R.cells) (hslots : slots + n.toNatClampNeg ≤ R.slots) (hd : dec y pc = some (.newarray at1, 2)) (n2 c2 : Nat)
    (k : ∀ (H1 : Heap) (ρ1 : Nat → List Nat) (β1 : Nat → Nat → Nat) (a : Nat), Ext ρ ρ1 → (ρ1 s0)[(h.1 s0).length]? = some a → Sim base E0 D ρ1 β1 (hnew h s0 [List.replicate n.toNatClampNeg (adf t)] c2 n2) s H1 → va_S (fun q => base ≤ q) H0 H1 locs → W p l e R s m args below meth c H1 locs (cells + 1) (slots + n.toNatClampNeg) Q (F0 m (pc + 2) ls (.ref a :: st'))) : W p l e R s m args below meth c H locs cells slots Q (F0 m pc ls (.int n :: st')) := by
  obtain ⟨r, hr, hx, hb, hml, -, -, hown, -, -, hts, -⟩ := C0
  have hbs := S.2.2.2.2.2.2.1
  have hw := hts _ (arrc_ws ht)
  rw [← hat] at hw
  have hcb : n.toNatClampNeg * componentBytes (newarray.typeOf at1) ≤ 536870912 := by
    rw [hat]
    have := aty_cb ht
    calc _ ≤ 60000 * 8 := Nat.mul_le_mul hn this
      _ ≤ _ := by decide
  refine va_newaK (g := F0 m pc ls (.int n :: st')) hx hb hw rfl (dec_inv hr hd) rfl h0 rfl hcb hcells hslots rfl fun H1 cA e1 z1 o1 hAr hNm => ?_
  rw [hat] at e1 hAr hNm
  refine k H1 (radds ρ s0 [H.size]) (badds β s0 (h.1 s0).length E0) H.size radds_ext ?_ (S.one (by rw [hsk]; simp) (by omega) o1 ?_ _ _) ⟨by have := hS.1; omega, fun q q1 q2 => (o1 q (by have := hS.1; omega)).trans (hS.2.1 q q1 q2), hS.2.2⟩
  · unfold radds
    rw [if_pos rfl, List.getElem?_append_right (by rw [S.2.1 s0]; exact Nat.le_refl _), S.2.1 s0]
    simp
  · unfold ob_at
    rw [hsk]
    refine ⟨hbs, cA, fun _ => defaultValue (aty t), ?_, hAr, aty_RA ht hNm, fun j v hj => ?_⟩
    · rw [List.length_replicate]; exact e1
    · have := List.eq_of_mem_replicate (List.mem_of_getElem? hj)
      subst this
      exact adf_ok ht
end AL
end
section
/-! new T[n][k] -/
set_option maxRecDepth 100000 in
theorem mat_all : matab.all (fun q => decide (lw_tbl[q.2.2.2]? = some (.classLink (cnm q.1) q.2.1 ("[" ++ (aty q.2.2.1).toString))) && decide (q.2.2.1 = 5 ∨ q.2.2.1 = 6 ∨ q.2.2.1 = 7) && decide (Cond.arrayOver (aty q.2.2.1) ∈ lw_tbl)) = true := by decide +kernel
theorem mat_spec {o idx t : Nat} (h : mat o idx = some t) : Cond.classLink (cnm o) idx ("[" ++ (aty t).toString) ∈ WS ∧ (t = 5 ∨ t = 6 ∨ t = 7) ∧ Cond.arrayOver (aty t) ∈ lw_tbl := by
  unfold mat at h
  obtain ⟨q, h1, rfl⟩ := omap_inv h
  have h2 := List.find?_some h1
  have h3 := List.all_eq_true.mp mat_all q (List.mem_of_find?_eq_some h1)
  obtain ⟨a, b, c, d⟩ := q
  simp only [Bool.and_eq_true, beq_iff_eq] at h2
  obtain ⟨rfl, rfl⟩ := h2
  simp only [Bool.and_eq_true, decide_eq_true_eq] at h3
  exact ⟨ws_of h3.1.1 rfl, h3.1.2, h3.2⟩
theorem over_ty : ∀ t, t = 5 ∨ t = 6 ∨ t = 7 → aty t = .array (aty (ity t)) ∧ ity t < 5 := by
  rintro t (rfl | rfl | rfl) <;> exact ⟨rfl, by decide⟩
def AOs (U : State) : Prop := ∀ t, t = 5 ∨ t = 6 ∨ t = 7 → (Cond.arrayOver (aty t)).before #[] U = true
section MU
variable {p : Program} {l : Launch} {e : Env} {R : Room} {s : State} {m : MethodId} {args : Array Value} {below : List Frame} {meth : Method} {c : Code} {H : Heap} {locs : List Loc} {cells slots : Nat} {Q : State → Prop}
variable {cc : ByteArray} {pc : Nat} {ls : Array Slot} {st' : List Value} {ρ : Nat → List Nat} {β : Nat → Nat → Nat} {nL base E0 : Nat} {L : Lo} {st : List MV} {h : Hp} {D : va_G}
set_option maxHeartbeats 4000000 in
theorem mna_ok {y : Nat} (C0 : Ctx y p s m args meth c nL) (hAO : AOs s) (S : Sim base E0 D ρ β h s H) {H0 : Heap} (hS : va_S (fun q => base ≤ q) H0 H locs) {idx s0 t : Nat} (hm : mat (mcl y) idx = some t) (hsk : sk s0 = (1, t)) (hsk2 : sk (s0 + 1) = (1, ity t)) {n k : Int32} (hn0 : ¬ n < 0) (hk0 : ¬ k < 0) (hn : n.toNatClampNeg ≤ 60000) (hkk : k.toNatClampNeg ≤ 60000) (hcells : cells + (1 + n.toNatClampNeg) ≤ R.cells) (hslots : slots + (n.toNatClampNeg + n.toNatClampNeg * k.toNatClampNeg) ≤ R.slots) (hd : dec y pc = some (.multianewarray idx 2, 4)) (c1 n1 c2 n2 : Nat)
    (kk : ∀ (H1 : Heap) (ρ1 : Nat → List Nat) (β1 : Nat → Nat → Nat) (a : Nat), Ext ρ ρ1 → (ρ1 s0)[(h.1 s0).length]? = some a → Sim base E0 D ρ1 β1 (hnew (hnew h s0 [(List.range n.toNatClampNeg).map (fun j => vR (s0 + 1) ((h.1 (s0 + 1)).length + j))] c1 n1) (s0 + 1) (List.replicate n.toNatClampNeg (List.replicate k.toNatClampNeg (adf (ity t)))) c2 n2) s H1 → va_S (fun q => base ≤ q) H0 H1 locs →
      W p l e R s m args below meth c H1 locs (cells + 1 + n.toNatClampNeg) (slots + n.toNatClampNeg + n.toNatClampNeg * k.toNatClampNeg) Q (F0 m (pc + 4) ls (.ref a :: st'))) : W p l e R s m args below meth c H locs cells slots Q (F0 m pc ls (.int k :: .int n :: st')) := by
  obtain ⟨r, hr, hx, hb, hml, -, -, hown, -, -, hts, -⟩ := C0
  obtain ⟨hlk, ht, -⟩ := mat_spec hm
  obtain ⟨hty, hi5⟩ := over_ty t ht
  have hbs := S.2.2.2.2.2.2.1
  have hover : (Cond.arrayOver (aty t)).before args s = true := hAO t ht
  rw [hty] at hlk hover
  have harr := hts _ (arrc_ws hi5)
  have hcb : k.toNatClampNeg * componentBytes (aty (ity t)) ≤ 536870912 := by
    calc _ ≤ 60000 * 8 := Nat.mul_le_mul hkk (aty_cb hi5)
      _ ≤ _ := by decide
  have hdf : fits (aty (ity t)) (defaultValue (aty (ity t))) = true ∧ (defaultValue (aty (ity t))).isDefault = true := by
    rcases ht with rfl | rfl | rfl <;> exact ⟨by decide, by decide⟩
  intro T hT Xs
  obtain ⟨vm₁, cA, cy, -, fA, fC, hO, hIn, X', step⟩ := Xs.multianewarray2F hx hown (hts _ hlk) hover harr (g := F0 m pc ls (.int k :: .int n :: st')) rfl (by rw [hb]; exact dec_inv hr hd) rfl hn0 hk0 (by omega) hcb (by omega) hdf.1 hdf.2 hcells hslots
  generalize hF : Jvm.Free.Multi.fill (T.setVm vm₁) cA cy n.toNatClampNeg k.toNatClampNeg (defaultValue (aty (ity t))) n.toNatClampNeg = F at X' step
  have hTh : (T.setVm vm₁).heap = H := hT
  obtain ⟨f1, f2, -, -⟩ := Jvm.Free.Multi.fill_facts (T.setVm vm₁) cA cy n.toNatClampNeg k.toNatClampNeg (defaultValue (aty (ity t))) n.toNatClampNeg
  rw [hF, hTh] at f1 f2
  have hold : ∀ x : Nat, x < H.size → F.heap[x]? = H[x]? := fun x hx => by
    have := Jvm.Free.Multi.fill_old (T.setVm vm₁) cA cy n.toNatClampNeg k.toNatClampNeg (defaultValue (aty (ity t))) (a := x) (by rw [hTh]; exact hx) n.toNatClampNeg
    rw [hF, hTh] at this
    exact this
  have hrow : ∀ j : Nat, j < n.toNatClampNeg → F.heap[H.size + 1 + j]? = some (arrV cy k.toNatClampNeg (fun _ => defaultValue (aty (ity t)))) := fun j hj => by
    have := Jvm.Free.Multi.fill_inner (T.setVm vm₁) cA cy n.toNatClampNeg k.toNatClampNeg (defaultValue (aty (ity t))) n.toNatClampNeg j hj
    rw [hF, hTh] at this
    rw [this]
    unfold Jvm.Free.Multi.innerC
    rw [arrV_new]
  rw [vr_outer] at f2
  have hArO : ArrOfT s cA (aty t) := fun N9 z9 => by
    rw [hty]
    obtain ⟨-, k9, hk9, cm9, hkk9⟩ := (hO 0 0 0).1
    exact ⟨(fun q hq => by cases hq), k9, hk9, cm9, hkk9⟩
  have hArI : ArrOfT s cy (aty (ity t)) := fun N9 z9 => by
    obtain ⟨-, k9, hk9, cm9, hkk9⟩ := (hIn 0 .null).1
    exact ⟨(fun q hq => by cases hq), k9, hk9, cm9, hkk9⟩
  have hRO : va_RA s cA (aty t) := by rw [hty]; exact fA
  have hRI : va_RA s cy (aty (ity t)) := aty_RA hi5 fC
  have S1 : Sim base E0 D ρ β h s F.heap := S.grown (by rw [f1]; omega) hold
  have hasl : ∀ (j a : Nat), ((List.range n.toNatClampNeg).map (fun i => H.size + 1 + i))[j]? = some a → j < n.toNatClampNeg ∧ a = H.size + 1 + j := fun j a hj => by
    have h1 := sz_lt hj
    simp only [List.length_map, List.length_range] at h1
    rw [List.getElem?_map, List.getElem?_range h1] at hj
    exact ⟨h1, (Option.some.inj hj).symm⟩
  have S2 := S1.adds (s0 := s0 + 1) (as := (List.range n.toNatClampNeg).map (fun i => H.size + 1 + i)) (obs := List.replicate n.toNatClampNeg (List.replicate k.toNatClampNeg (adf (ity t)))) (by rw [hsk2]; simp) (by simp) (fun i j a x y => by
      have := (hasl _ _ x).2
      have := (hasl _ _ y).2
      omega) (fun a ha => by
      obtain ⟨i, -, rfl⟩ := List.mem_map.mp ha
      exact S.fresh (by omega)) (fun j ob a x y => by
      obtain ⟨hj, rfl⟩ := hasl _ _ y
      have e1 := List.eq_of_mem_replicate (List.mem_of_getElem? x)
      subst e1
      unfold ob_at
      rw [hsk2]
      refine ⟨by omega, cy, fun _ => defaultValue (aty (ity t)), ?_, hArI, hRI, fun i v hi => ?_⟩
      · rw [List.length_replicate]; exact hrow j hj
      · have := List.eq_of_mem_replicate (List.mem_of_getElem? hi)
        subst this
        exact adf_ok hi5) c2 n2
  have hρ : ∀ j, j < n.toNatClampNeg → (radds ρ (s0 + 1) ((List.range n.toNatClampNeg).map (fun i => H.size + 1 + i)) (s0 + 1))[(h.1 (s0 + 1)).length + j]? = some (H.size + 1 + j) := fun j hj => by
    unfold radds
    rw [if_pos rfl, List.getElem?_append_right (by rw [S.2.1]; omega), S.2.1]
    rw [show (h.1 (s0 + 1)).length + j - (h.1 (s0 + 1)).length = j by omega, List.getElem?_map, List.getElem?_range hj]
    rfl
  have S3 := S2.adds (s0 := s0) (as := [H.size]) (obs := [(List.range n.toNatClampNeg).map (fun j => vR (s0 + 1) ((h.1 (s0 + 1)).length + j))]) (by rw [hsk]; simp) rfl (fun i j a x y => by
      have := sz_lt x
      have := sz_lt y
      simp at *
      omega) (fun a ha => by
      rw [List.mem_singleton.mp ha]
      have hfr := S.fresh (Nat.le_refl H.size)
      refine ⟨fun s i b hs hb => ?_, fun s i hs hi hb2 => ?_⟩
      · rcases radds_inv hb with hb | ⟨-, -, hb⟩
        · exact hfr.1 _ _ _ hs hb
        · have := (hasl _ _ hb).2
          omega
      · have hns : s ≠ s0 + 1 := fun z => by subst z; rw [hsk2] at hs; cases hs
        have e1 : badds β (s0 + 1) (h.1 (s0 + 1)).length E0 s i = β s i := if_neg (fun z => hns z.1)
        have e2 : radds ρ (s0 + 1) ((List.range n.toNatClampNeg).map (fun i => H.size + 1 + i)) s = ρ s := if_neg hns
        rw [e1] at hb2 ⊢
        rw [e2] at hi
        exact hfr.2 _ _ hs hi hb2) (fun j ob a x y => by
      have hj := sz_lt x
      simp at hj
      subst hj
      simp at x y
      subst x; subst y
      unfold ob_at
      rw [hsk]
      refine ⟨hbs, cA, fun j => va_rf (if j < n.toNatClampNeg then some (H.size + 1 + j) else none), ?_, hArO, hRO, fun i v hi => ?_⟩
      · rw [List.length_map, List.length_range]; exact f2
      · have hi1 := sz_lt hi
        simp only [List.length_map, List.length_range] at hi1
        rw [List.getElem?_map, List.getElem?_range hi1] at hi
        cases hi
        show vr _ _ (va_rf (if i < n.toNatClampNeg then some (H.size + 1 + i) else none))
        rw [if_pos hi1]
        exact ⟨_, radds_ext _ _ _ (hρ i hi1), rfl⟩) c1 n1
  have hne : s0 ≠ s0 + 1 := by omega
  have hl0 : ((hnew h (s0 + 1) (List.replicate n.toNatClampNeg (List.replicate k.toNatClampNeg (adf (ity t)))) c2 n2).1 s0) = h.1 s0 := if_neg hne
  obtain ⟨tt, a1, b1⟩ := kk F.heap _ _ H.size (radds_ext.tr radds_ext) (by
      unfold radds
      rw [if_pos rfl, if_neg hne, List.getElem?_append_right (by rw [S.2.1 s0]; exact Nat.le_refl _), S.2.1 s0]
      simp) (S3.cong (fun u => by
      show (if u = s0 + 1 then (if s0 + 1 = s0 then _ else h.1 (s0 + 1)) ++ _ else (if u = s0 then h.1 s0 ++ _ else h.1 u)) = (if u = s0 then (if s0 = s0 + 1 then _ else h.1 s0) ++ _ else (if u = s0 + 1 then h.1 (s0 + 1) ++ _ else h.1 u))
      by_cases e1 : u = s0 + 1
      · rw [if_pos e1, if_neg (show ¬ u = s0 by omega), if_pos e1, if_neg (show ¬ s0 + 1 = s0 by omega)]
      · rw [if_neg e1, if_neg e1, if_neg hne])) ⟨by rw [f1]; have := hS.1; omega, fun x h1 h2 => (hold x (Nat.lt_of_lt_of_le h1 hS.1)).trans (hS.2.1 x h1 h2), hS.2.2⟩ F rfl X'
  refine ⟨tt, step tt ?_, b1⟩
  have e : T.heap.size = H.size := by rw [hT]
  rw [e]
  exact a1
end MU
end
section
/-! what holds of the launch wherever the system stands; one step that writes -/
def cdw : Cond → Bool
  | .castable _ _ => true
  | .declares _ => true
  | _ => false
def EnvW (base E0 : Nat) (U : State) (H : Heap) : Prop :=
  AOs U ∧ va_AO "java/lang/Object" U ∧ (∀ q ∈ thtab, ∃ sa, vk_R "Lendlathe" q.2.2.2.2.1 q.2.2.2.2.2.2.2.1 sa U) ∧
  vx_Zq Bundle.tN "UNASSIGNED_STACK" Bundle.steD (fun q => base ≤ q) U H ∧ vx_Zq Bundle.tN "SUPPRESSED_SENTINEL" Bundle.listD (fun q => base ≤ q) U H ∧
  va_Z "java/util/ArrayList" "DEFAULTCAPACITY_EMPTY_ELEMENTDATA" "[Ljava/lang/Object;" (.ref E0) (fun q => base ≤ q) U H ∧
  va_T (.object "java/lang/Object") E0 0 (fun _ => .null) (fun q => base ≤ q) U H ∧
  (∃ mi, va_Mi "[Ljava/lang/Object;" mi U) ∧
  (∀ i j, i < 6 → j < 6 → i ≠ j → va_Nc (exnm i) (exnm j) U) ∧ ∀ w ∈ lw_tbl, cdw w = true → va_Nw w U
theorem AO_moved {t : FieldType} {u U : State} (hvm : u.vm.Alike U.vm) (h : (Cond.arrayOver (.array t)).before #[] u = true) : (Cond.arrayOver (.array t)).before #[] U = true := by
  unfold Cond.before Cond.holds at h ⊢
  simp only [Cond.value, beq_iff_eq] at h ⊢
  cases hc : u.vm.findClass (FieldType.array t).toString with
  | none => simp [hc] at h
  | some comp =>
    simp only [hc, Option.bind_some, Option.bind_eq_some_iff, Option.map_eq_some_iff] at h
    obtain ⟨c, h2, k, h3, h4⟩ := h
    obtain ⟨k', hk', he⟩ := hvm.2.2 _ _ h3
    have hi : (U.vm.classes.findIdx? fun (x : Class) => match x.kind with | .array component _ => component == comp | _ => false) = some c := by
      have e1 := va_idx_bare U.vm comp
      have e2 := va_idx_bare u.vm comp
      rw [hvm.bare_eq] at e1
      exact (e1.symm.trans e2).trans h2
    have hkind : k'.kind = k.kind := by rw [he]
    rw [hvm.findClass, hc, Option.bind_some, Option.bind_eq_some_iff]
    refine ⟨c, hi, ?_⟩
    rw [hk', Option.map_some, hkind, hvm.findClass]
    exact congrArg some h4
theorem EnvW.moved {base E0 : Nat} {u U : State} {H : Heap} (hW : u.WarmedH U.vm) (h : EnvW base E0 u H) : EnvW base E0 U H := by
  obtain ⟨h1, h2, h3, h4, h5, h6, h7, ⟨mi, h8⟩, h9, h10⟩ := h
  have hvm := hW.alike
  exact ⟨fun t ht => by have h := h1 t ht; rw [(over_ty t ht).1] at h ⊢; exact AO_moved hvm h, va_AO.moved hvm h2, fun q hq => by obtain ⟨sa, h⟩ := h3 q hq; exact ⟨sa, vk_R.warm hW h⟩, h4.moved hvm, h5.moved hvm, h6.moved hvm, h7.moved hvm, ⟨mi, h8.moved hvm⟩, fun i j x y z => (h9 i j x y z).moved hvm, fun w hw hc => by
    have h := h10 w hw hc
    cases w with
    | castable C T => exact h.warmC hW
    | declares x => exact h.warmD hW
    | _ => cases hc⟩
theorem EnvW.kept {base E0 : Nat} {U : State} {H H1 : Heap} (h : EnvW base E0 U H) (hq : ∀ a : Nat, a < H.size → ¬ base ≤ a → H1[a]? = H[a]?) : EnvW base E0 U H1 := by
  obtain ⟨h1, h2, h3, h4, h5, h6, h7, h8, h9⟩ := h
  exact ⟨h1, h2, h3, h4.kept hq, h5.kept hq, h6.kept hq, h7.kept hq, h8, h9⟩
/-- the walk goes on from the place pc1 of the small machine -/
def Nx (p : Program) (l : Launch) (e : Env) (R : Room) (s : State) (m : MethodId) (args : Array Value) (below : List Frame) (meth : Method) (c : Code) (Q : State → Prop) (base E0 : Nat) (D : va_G) (nL cells slots : Nat) (ρ : Nat → List Nat) (h : Hp) (pc1 : Nat) (L1 : Lo) (st1 : List MV) (h1 : Hp) : Prop :=
  ∀ (H1 : Heap) (locs1 : List Loc) (ρ1 : Nat → List Nat) (β1 : Nat → Nat → Nat) (ls2 : Array Slot) (st2 : List Value) (cells1 slots1 : Nat), Ext ρ ρ1 → Sim base E0 D ρ1 β1 h1 s H1 → va_S (fun q => base ≤ q) s.heap H1 locs1 → lrel ρ1 ls2 L1 nL → srel ρ1 st1 st2 → cells1 + h.2.1 = cells + h1.2.1 → slots1 + h.2.2 = slots + h1.2.2 →
    W p l e R s m args below meth c H1 locs1 cells1 slots1 Q (F0 m pc1 ls2 st2)
/-- 'new ArrayList(); dup; ArrayList()' at a site of lists -/
def isNL (y pc idx s0 : Nat) (st : List MV) : Prop := al y pc = some s0 ∧ sk s0 = (2, 0) ∧ cl (mcl y) idx = some 11 ∧ (st.map mcat).sum ≤ 6 ∧ dec y (pc + 3) = some (.dup, 1) ∧ ∃ i2, dec y (pc + 4) = some (.invokespecial i2, 3) ∧ jl (mcl y) i2 = some 0
/-- what the JDK's lists are held to -/
def LstOK (l : Launch) : Prop := ∀ {p : Program} {e : Env} {R : Room} {s : State} {m : MethodId} {args : Array Value} {below : List Frame} {meth : Method} {c : Code} {H : Heap} {locs : List Loc} {cells slots : Nat} {Q : State → Prop} {pc : Nat} {ls : Array Slot} {st' : List Value} {ρ : Nat → List Nat} {β : Nat → Nat → Nat} {nL base E0 : Nat} {L : Lo} {st : List MV} {h : Hp} {D : va_G} {y : Nat} {i : Instr} {len : Nat} {z : Nat × Lo × List MV × Hp},
  Ctx y p s m args meth c nL → Rm R → EnvW base E0 s s.heap → Sim base E0 D ρ β h s H → va_S (fun q => base ≤ q) s.heap H locs → cells + z.2.2.2.2.1 ≤ R.cells + h.2.1 → slots + z.2.2.2.2.2 ≤ R.slots + h.2.2 → dec y pc = some (i, len) → lrel ρ ls L nL → srel ρ st st' →
  ((∃ idx w, i = .invokevirtual idx ∧ hrd (mcl y) i len pc L st h = some w ∧ z = (w.1, w.2.1, w.2.2, h)) ∨ (∃ idx k, i = .invokevirtual idx ∧ jl (mcl y) idx = some k ∧ wls k len pc L st h = some z) ∨ (∃ idx s0, i = .new idx ∧ len = 3 ∧ isNL y pc idx s0 st ∧ z = (pc + 7, L, vR s0 (h.1 s0).length :: st, hnew h s0 [[]] 1 3))) →
  Nx p l e R s m args below meth c Q base E0 D nL cells slots ρ h z.1 z.2.1 z.2.2.1 z.2.2.2 → W p l e R s m args below meth c H locs cells slots Q (F0 m pc ls st')
section ST
variable {p : Program} {l : Launch} {e : Env} {R : Room} {s : State} {m : MethodId} {args : Array Value} {below : List Frame} {meth : Method} {c : Code} {H : Heap} {locs : List Loc} {cells slots : Nat} {Q : State → Prop}
variable {pc : Nat} {ls : Array Slot} {st' : List Value} {ρ : Nat → List Nat} {β : Nat → Nat → Nat} {nL base E0 : Nat} {L : Lo} {st : List MV} {h : Hp} {D : va_G}
set_option maxHeartbeats 4000000 in
theorem hwr_ok (hL : LstOK l) {y : Nat} (C0 : Ctx y p s m args meth c nL) (hnm : (mfct[y]?).map (fun f => f.2.1) = some 1 → meth.name = "<init>") (hR : Rm R) (hE : EnvW base E0 s s.heap) (S : Sim base E0 D ρ β h s H) (hS : va_S (fun q => base ≤ q) s.heap H locs) {i : Instr} {len : Nat} {z : Nat × Lo × List MV × Hp} (hc1 : cells + z.2.2.2.2.1 ≤ R.cells + h.2.1) (hc2 : slots + z.2.2.2.2.2 ≤ R.slots + h.2.2) (hh : hwr y i len pc L st h = some z) (hd : dec y pc = some (i, len)) (hl : lrel ρ ls L nL) (hs : srel ρ st st')
    (k : Nx p l e R s m args below meth c Q base E0 D nL cells slots ρ h z.1 z.2.1 z.2.2.1 z.2.2.2) : W p l e R s m args below meth c H locs cells slots Q (F0 m pc ls st') := by
  cases i with
  | putfield idx =>
    simp only [hwr] at hh
    split at hh
    · rename_i v q st1
      split at hh
      · rename_i f hf
        split at hh
        · rename_i ob hg
          split at hh
          · rename_i g
            cases hh
            obtain ⟨rfl, g2, g3, g4, g5⟩ := g
            obtain ⟨w, _, rfl, hv, wr, st2, rfl, hw, h5⟩ := hs
            exact put_ok C0 S hS hf hg g2 hv hw g4 (g5.imp id (fun z => ⟨hnm z.1, z.2⟩)) hd fun H1 locs1 S1 hS1 => k H1 locs1 ρ β ls st2 cells slots Ext.rf S1 hS1 hl h5 rfl rfl
          · cases hh
        · cases hh
      · cases hh
    · cases hh
  | iastore => exact ast_ok C0 S hS hh (Or.inl rfl) hd hs fun H1 locs1 st2 e1 h5 S1 hS1 => k H1 locs1 ρ β ls st2 cells slots Ext.rf S1 hS1 (by rw [e1]; exact hl) h5 (by obtain ⟨v, j, q, st1, ob, w, rfl, rfl, hg, hk, h0, hj, hcv, rfl⟩ := wst_inv hh; rfl) (by obtain ⟨v, j, q, st1, ob, w, rfl, rfl, hg, hk, h0, hj, hcv, rfl⟩ := wst_inv hh; rfl)
  | lastore => exact ast_ok C0 S hS hh (Or.inr (Or.inl rfl)) hd hs fun H1 locs1 st2 e1 h5 S1 hS1 => k H1 locs1 ρ β ls st2 cells slots Ext.rf S1 hS1 (by rw [e1]; exact hl) h5 (by obtain ⟨v, j, q, st1, ob, w, rfl, rfl, hg, hk, h0, hj, hcv, rfl⟩ := wst_inv hh; rfl) (by obtain ⟨v, j, q, st1, ob, w, rfl, rfl, hg, hk, h0, hj, hcv, rfl⟩ := wst_inv hh; rfl)
  | bastore => exact ast_ok C0 S hS hh (Or.inr (Or.inr (Or.inl rfl))) hd hs fun H1 locs1 st2 e1 h5 S1 hS1 => k H1 locs1 ρ β ls st2 cells slots Ext.rf S1 hS1 (by rw [e1]; exact hl) h5 (by obtain ⟨v, j, q, st1, ob, w, rfl, rfl, hg, hk, h0, hj, hcv, rfl⟩ := wst_inv hh; rfl) (by obtain ⟨v, j, q, st1, ob, w, rfl, rfl, hg, hk, h0, hj, hcv, rfl⟩ := wst_inv hh; rfl)
  | castore => exact ast_ok C0 S hS hh (Or.inr (Or.inr (Or.inr (Or.inl rfl)))) hd hs fun H1 locs1 st2 e1 h5 S1 hS1 => k H1 locs1 ρ β ls st2 cells slots Ext.rf S1 hS1 (by rw [e1]; exact hl) h5 (by obtain ⟨v, j, q, st1, ob, w, rfl, rfl, hg, hk, h0, hj, hcv, rfl⟩ := wst_inv hh; rfl) (by obtain ⟨v, j, q, st1, ob, w, rfl, rfl, hg, hk, h0, hj, hcv, rfl⟩ := wst_inv hh; rfl)
  | dastore => exact ast_ok C0 S hS hh (Or.inr (Or.inr (Or.inr (Or.inr rfl)))) hd hs fun H1 locs1 st2 e1 h5 S1 hS1 => k H1 locs1 ρ β ls st2 cells slots Ext.rf S1 hS1 (by rw [e1]; exact hl) h5 (by obtain ⟨v, j, q, st1, ob, w, rfl, rfl, hg, hk, h0, hj, hcv, rfl⟩ := wst_inv hh; rfl) (by obtain ⟨v, j, q, st1, ob, w, rfl, rfl, hg, hk, h0, hj, hcv, rfl⟩ := wst_inv hh; rfl)
  | invokevirtual idx =>
    simp only [hwr] at hh
    split at hh
    · rename_i k1 hk1
      exact hL C0 hR hE S hS hc1 hc2 hd hl hs (Or.inr (Or.inl ⟨idx, k1, rfl, hk1, hh⟩)) k
    · cases hh
  | new idx =>
    simp only [hwr] at hh
    split at hh
    · rename_i s0 hal
      split at hh
      · rename_i g
        cases hh
        obtain ⟨rfl, g2, g3, g4, g5⟩ := g
        have e1 : sk s0 = (0, s0) := Prod.ext g2 g3
        have hc1' : cells + (h.2.1 + 1) ≤ R.cells + h.2.1 := hc1
        have hc2' : slots + (h.2.2 + fN s0) ≤ R.slots + h.2.2 := hc2
        exact new_ok C0 S hS g4 e1 g5 (by omega) (by omega) hd _ _ fun H1 ρ1 β1 a hE1 ha S1 hS1 => k H1 locs ρ1 β1 ls _ _ _ hE1 S1 hS1 (lrel_mono hE1 hl) ⟨_, _, rfl, ⟨a, ha, rfl⟩, srel_mono hE1 hs⟩ (by show _ = cells + (h.2.1 + 1); omega) (by show _ = slots + (h.2.2 + fN s0); omega)
      · split at hh
        · rename_i g
          cases hh
          obtain ⟨rfl, g6⟩ := g
          have hnl : isNL y pc idx s0 st := by
            simp only [nlb, Bool.and_eq_true, decide_eq_true_eq] at g6
            obtain ⟨⟨⟨⟨g2, g3⟩, g4⟩, g5⟩, g6⟩ := g6
            refine ⟨hal, g2, g3, g4, g5, ?_⟩
            split at g6
            · rename_i i2 hi2
              exact ⟨i2, hi2, by simpa using g6⟩
            · cases g6
          exact hL C0 hR hE S hS hc1 hc2 hd hl hs (Or.inr (Or.inr ⟨idx, s0, rfl, rfl, hnl, rfl⟩)) k
        · cases hh
    · cases hh
  | newarray t =>
    simp only [hwr] at hh
    split at hh
    · rename_i s0 hal
      split at hh
      · rename_i n st1
        split at hh
        · rename_i g
          cases hh
          obtain ⟨rfl, g2, g3, g4, g5, g6⟩ := g
          have e1 : sk s0 = (1, (sk s0).2) := Prod.ext g2 rfl
          obtain ⟨_, st2, rfl, rfl, h5⟩ := hs
          have hc1' : cells + (h.2.1 + 1) ≤ R.cells + h.2.1 := hc1
          have hc2' : slots + (h.2.2 + n.toNatClampNeg) ≤ R.slots + h.2.2 := hc2
          exact newa_ok C0 S hS g3 e1 g4 g5 g6 (by omega) (by omega) hd _ _ fun H1 ρ1 β1 a hE1 ha S1 hS1 => k H1 locs ρ1 β1 ls _ _ _ hE1 S1 hS1 (lrel_mono hE1 hl) ⟨_, _, rfl, ⟨a, ha, rfl⟩, srel_mono hE1 h5⟩ (by show _ = cells + (h.2.1 + 1); omega) (by show _ = slots + (h.2.2 + n.toNatClampNeg); omega)
        · cases hh
      · cases hh
    · cases hh
  | multianewarray idx dims =>
    simp only [hwr] at hh
    split at hh
    · rename_i s0 hal
      split at hh
      · rename_i kq n st1
        split at hh
        · rename_i g
          cases hh
          obtain ⟨rfl, rfl, g1, g2, g3, g4, g5, g6, g7, g8⟩ := g
          have e1 : sk s0 = (1, (sk s0).2) := Prod.ext g2 rfl
          have e2 : sk (s0 + 1) = (1, ity (sk s0).2) := g4
          obtain ⟨_, _, rfl, rfl, _, st2, rfl, rfl, h5⟩ := hs
          have hc1' : cells + (h.2.1 + 1 + n.toNatClampNeg) ≤ R.cells + h.2.1 := hc1
          have hc2' : slots + (h.2.2 + n.toNatClampNeg + n.toNatClampNeg * kq.toNatClampNeg) ≤ R.slots + h.2.2 := hc2
          refine mna_ok C0 hE.1 S hS g1 e1 e2 g5 g6 g7 g8 (by omega) (by omega) hd 1 n.toNatClampNeg n.toNatClampNeg (n.toNatClampNeg * kq.toNatClampNeg) fun H1 ρ1 β1 a hE1 ha S1 hS1 => k H1 locs ρ1 β1 ls _ _ _ hE1 ?_ hS1 (lrel_mono hE1 hl) ⟨_, _, rfl, ⟨a, ha, rfl⟩, srel_mono hE1 h5⟩ (by show _ = cells + (h.2.1 + 1 + n.toNatClampNeg); omega) (by show _ = slots + (h.2.2 + n.toNatClampNeg + n.toNatClampNeg * kq.toNatClampNeg); omega)
          rw [e2]
          exact S1
        · cases hh
      · cases hh
    · cases hh
  | _ => simp [hwr] at hh
end ST
end
section
/-! ===== BEGIN a constructor that throws (launches without stack traces) ===== -/
section VXIA
variable {p : Program} {l : Launch} {e : Env} {R : Room} {s : State} {m : MethodId} {args : Array Value} {below : List Frame} {meth : Method} {c : Code} {T : State} {locs : List Loc} {cells slots : Nat}
theorem vx_callI (X : Stand p l e R s m args below meth c T locs cells slots) (hexec : p.tables.exec = Jvm.exec) {own : String} {index : Nat} {y : MethodName} {bytes : ByteArray} {maxL : Nat}
    (hown : s.vm.findClass own = some m.cls) (hy1 : y.name = "<init>") (hlink : (Cond.methodLink own index y).before args s = true) (hinst : (Cond.instanceMethod y).before args s = true)
    (hcode : (Cond.code y bytes maxL none).before args s = true) (hy : y.cls ≠ "java/lang/invoke/MethodHandle" ∧ y.cls ≠ "java/lang/invoke/VarHandle")
    {W9 : Nat} {Pre : Pt → Array Value → Prop} {Post : Pt → Array Value → Option Value → Pt → Prop} {PostX : Pt → Array Value → Addr → Pt → Prop} (hK : vx_Back l R p e below s args y 3 W9 Pre Post PostX)
    {g : JFrame} (hg : g.method = m) (hsize : g.locals.size = c.maxLocals) {a : Addr} {argsL rest : List Value} (hlen : ∀ sig, parseMethodDescriptor y.desc = some sig → argsL.length = sig.parameters.length)
    (hstack : g.stack = argsL.reverse ++ .ref a :: rest) (hW : 2 * g.monitorRoom + (rest.map fun v => v.category).sum ≤ W9) (hdg : decode c.code g.pc = .ok (.invokespecial index, 3))
    (hpre : ∀ vm₁, s.WarmedH vm₁ → Pre ⟨T.setVm vm₁, locs, cells, slots⟩ (Value.ref a :: argsL).toArray) :
    (∃ (v : Option Value) (vm₁ : Vm) (B : Pt), s.WarmedH vm₁ ∧ Stand p l e R s m args below meth c B.U B.locs B.cells B.slots ∧ Post ⟨T.setVm vm₁, locs, cells, slots⟩ (Value.ref a :: argsL).toArray v B ∧
      ∀ target, Steps p.tables e below (B.U.setTop { g with pc := g.pc + 3, stack := v.toList ++ rest }) target → Steps p.tables e below (T.setTop g) target) ∨
    (∃ (q : Addr) (vm₁ : Vm) (B : Pt), s.WarmedH vm₁ ∧ Stand p l e R s m args below meth c B.U B.locs B.cells B.slots ∧ PostX ⟨T.setVm vm₁, locs, cells, slots⟩ (Value.ref a :: argsL).toArray q B ∧
      Steps p.tables e below (T.setTop g) ((B.U.setTop { g with stack := rest }).pushFrame (.throwing q))) := by
  subst hg
  have hpl : e.platform.magicAccessors = ({} : Platform).magicAccessors := by rw [X.admits.platform]
  obtain ⟨mk, methM, cM, kP, vm₁, hnamed, hmethM, hcodeM, -, hlocalsM, -, hkP, -, hW₁, hstep₁⟩ := Steps.initColdArgs (e := e) X.here hexec X.warmed hpl hown hy1 hy hlink hinst hcode (f := g) rfl hlen hstack hdg
  have X₁ := X.noted hW₁
  rcases hK g.method meth c ⟨T.setVm vm₁, locs, cells, slots⟩ { g with stack := rest } (.invokespecial index) mk (Value.ref a :: argsL).toArray X₁ rfl hsize hdg hW (X₁.named hnamed) (hpre vm₁ X₁.warmed) with ⟨v, B, X', hpost, hsteps⟩ | ⟨q, B, X', hpost, hsteps⟩
  · exact Or.inl ⟨v, vm₁, B, X₁.warmed, X', hpost, fun target h => hstep₁ _ fun acts => by rw [doInvoke_state]; exact hsteps.trans h⟩
  · exact Or.inr ⟨q, vm₁, B, X₁.warmed, X', hpost, hstep₁ _ fun acts => by rw [doInvoke_state]; exact hsteps⟩
end VXIA
section VXIB
variable {p : Program} {l : Launch} {e : Env} {R : Room} {s : State} {m : MethodId} {args : Array Value} {below : List Frame} {meth : Method} {c : Code} {H : Heap} {locs : List Loc} {cells slots : Nat}
variable {y : MethodName} {bytes cc : ByteArray} {maxL nL mc ms n index : Nat} {ret : Option FieldType} {ws : List Cond} {rm : Room} {Pc : Array Value → State → Prop} {Qc : Array Value → State → Outcome → State → Prop} {XC : String → State → State → Prop} {free : Addr → Prop} {Ts : List Cond} {own C : String} {b : Addr} {As rest : List Value} {g : JFrame}
theorem vx_runI (S : CallFix p m c cc nL s args Ts own) (hM : vx_Met l y ws rm Pc Qc XC mc ms free) (cw : CallB R s args own index y bytes maxL none ws rm mc ms n ∧ y.name = "<init>" ∧ (Cond.instanceMethod y).before args s = true) (hp : PreS s H Pc (.ref b :: As))
    (hg : g.method = m) (hn : As.length = n) (hsize : g.locals.size = nL) (hstack : g.stack = As.reverse ++ .ref b :: rest) (hW : 2 * g.monitorRoom + (rest.map fun v => v.category).sum ≤ 8) (hdg : decode cc g.pc = .ok (.invokespecial index, 3)) (hf : cells + mc ≤ R.cells ∧ slots + ms ≤ R.slots) :
    vx_Run p l e R s m args below meth c H locs cells slots mc ms g rest (Qc (Value.ref b :: As).toArray) XC free := by
  have hK : vx_Back l R p e below s args y 3 8 (PreOf R mc ms Pc) (PostOf Qc mc ms free) (vx_Post XC mc ms free) := vx_callBack cw.1 hM hp.1
  obtain ⟨⟨-, -, -, -, -, -, hcode, -, hy, hlen, hl⟩, hy1, hin⟩ := cw
  obtain ⟨hx, hb, hml, ho, -⟩ := S
  have hPc := hp.2
  intro T hT X
  rcases vx_callI X hx (bytes := bytes) (maxL := maxL) ho hy1 hl hin hcode hy hK hg (hsize.trans hml.symm) (a := b) (argsL := As) (rest := rest) (fun sig h => hn.trans (hlen sig h)) hstack hW (by rw [hb]; exact hdg)
    (fun vm₁ hW₁ => ⟨hf.1, hf.2, hPc (T.setVm vm₁) hT hW₁⟩) with ⟨v, vm₁, ⟨U', l2, c2, s2⟩, hW₁, X', ⟨g', mk, t, L, e1, e2, hq, h1, hL, h2, h3⟩, st⟩ | ⟨q, vm₁, ⟨U', l2, c2, s2⟩, hW₁, X', ⟨g', mk, t, L, E, ce, e1, e2, hq, hce, hcv, hcl, h1, hL, h2, h3⟩, st⟩
  · dsimp only [Pt.U, Pt.locs, Pt.cells, Pt.slots] at X' e1 e2 h1 h2 h3 st
    subst h1; subst h2; subst h3
    exact Or.inl ⟨v, (T.setVm vm₁).calling g' mk (Value.ref b :: As).toArray, t, U', L, hT, X', hL, e1, e2, hq, st⟩
  · dsimp only [Pt.U, Pt.locs, Pt.cells, Pt.slots] at X' e1 e2 h1 h2 h3 st hcl
    subst h1; subst h2; subst h3
    exact Or.inr ⟨q, (T.setVm vm₁).calling g' mk (Value.ref b :: As).toArray, t, U', L, E, ce, hT, X', hL, e1, e2, hq, hce, hcv, vx_cls hW₁ hcl, st⟩
end VXIB
/-! ===== END ===== -/
end
section
/-! what a run costs never falls -/
theorem cs_rf {h : Hp} : h.2.1 ≤ h.2.1 ∧ h.2.2 ≤ h.2.2 := ⟨Nat.le_refl _, Nat.le_refl _⟩
theorem cs_add {h : Hp} {a b : Nat} : h.2.1 ≤ h.2.1 + a ∧ h.2.2 ≤ h.2.2 + b := ⟨Nat.le_add_right _ _, Nat.le_add_right _ _⟩
theorem wls_cost {k len pc : Nat} {L : Lo} {st : List MV} {h : Hp} {z} (hh : wls k len pc L st h = some z) : h.2.1 ≤ z.2.2.2.2.1 ∧ h.2.2 ≤ z.2.2.2.2.2 := by
  unfold wls at hh
  split at hh
  · repeat' split at hh
    all_goals first | (cases hh; done) | (cases hh; exact cs_add)
  · repeat' split at hh
    all_goals first | (cases hh; done) | (obtain ⟨v, -, rfl⟩ := omap_inv hh; exact cs_rf)
  · repeat' split at hh
    all_goals first | (cases hh; done) | (cases hh; exact cs_rf)
  · repeat' split at hh
    all_goals first | (cases hh; done) | (cases hh; exact cs_add)
  · cases hh
theorem hwr_cost {y : Nat} {i : Instr} {len pc : Nat} {L : Lo} {st : List MV} {h : Hp} {z} (hh : hwr y i len pc L st h = some z) : h.2.1 ≤ z.2.2.2.2.1 ∧ h.2.2 ≤ z.2.2.2.2.2 := by
  cases i with
  | putfield idx =>
    simp only [hwr] at hh
    repeat' split at hh
    all_goals first | (cases hh; done) | (cases hh; exact cs_rf)
  | iastore => obtain ⟨v, j, q, st1, ob, w, rfl, rfl, hg, hk, h0, hj, hcv, rfl⟩ := wst_inv hh; exact cs_rf
  | lastore => obtain ⟨v, j, q, st1, ob, w, rfl, rfl, hg, hk, h0, hj, hcv, rfl⟩ := wst_inv hh; exact cs_rf
  | bastore => obtain ⟨v, j, q, st1, ob, w, rfl, rfl, hg, hk, h0, hj, hcv, rfl⟩ := wst_inv hh; exact cs_rf
  | castore => obtain ⟨v, j, q, st1, ob, w, rfl, rfl, hg, hk, h0, hj, hcv, rfl⟩ := wst_inv hh; exact cs_rf
  | dastore => obtain ⟨v, j, q, st1, ob, w, rfl, rfl, hg, hk, h0, hj, hcv, rfl⟩ := wst_inv hh; exact cs_rf
  | invokevirtual idx =>
    simp only [hwr] at hh
    split at hh
    · exact wls_cost hh
    · cases hh
  | new idx =>
    simp only [hwr] at hh
    repeat' split at hh
    all_goals first | (cases hh; done) | (cases hh; exact cs_add)
  | newarray t =>
    simp only [hwr] at hh
    repeat' split at hh
    all_goals first | (cases hh; done) | (cases hh; exact cs_add)
  | multianewarray idx dims =>
    simp only [hwr] at hh
    repeat' split at hh
    all_goals first | (cases hh; done) | (cases hh; exact ⟨Nat.le_trans (Nat.le_add_right _ _) (Nat.le_add_right _ _), Nat.le_trans (Nat.le_add_right _ _) (Nat.le_add_right _ _)⟩)
  | _ => simp [hwr] at hh
/-- one step, read apart -/
theorem stp_inv {fr : Fr} {h : Hp} {r : SR} (hh : stp fr h = some r) : ∃ i len, dec fr.1 fr.2.1 = some (i, len) ∧
    ((∃ E, th fr.1 fr.2.1 = some E ∧ fr.2.2.2 = [] ∧ r = .inl (.inr E, hcst h 1 6)) ∨ (th fr.1 fr.2.1 = none ∧
    ((∃ z, pin i len fr.2.1 fr.2.2.1 fr.2.2.2 = some z ∧ r = .inr (.inl ((fr.1, z), h))) ∨
    (∃ z, hrd (mcl fr.1) i len fr.2.1 fr.2.2.1 fr.2.2.2 h = some z ∧ r = .inr (.inl ((fr.1, z), h))) ∨
    (∃ z, hwr fr.1 i len fr.2.1 fr.2.2.1 fr.2.2.2 h = some z ∧ r = .inr (.inl ((fr.1, z.1, z.2.1, z.2.2.1), z.2.2.2))) ∨
    (∃ v, rst i len fr.2.2.2 ((mrow fr.1).bind (fun r => r.2.2.2.1)) = some v ∧ r = .inl (.inl v, h)) ∨
    (∃ z, cst fr.1 i len fr.2.1 fr.2.2.1 fr.2.2.2 h = some z ∧ r = .inr (.inr z))))) := by
  unfold stp at hh
  split at hh
  · cases hh
  · rename_i i len hd
    refine ⟨i, len, hd, ?_⟩
    split at hh
    · rename_i E hE
      split at hh
      · rename_i he
        cases hh
        exact Or.inl ⟨E, hE, List.isEmpty_iff.mp he, rfl⟩
      · cases hh
    · rename_i hE
      refine Or.inr ⟨hE, ?_⟩
      split at hh
      · rename_i z hz; cases hh; exact Or.inl ⟨z, hz, rfl⟩
      · split at hh
        · rename_i z hz; cases hh; exact Or.inr (Or.inl ⟨z, hz, rfl⟩)
        · split at hh
          · rename_i z hz; cases hh; exact Or.inr (Or.inr (Or.inl ⟨z, hz, rfl⟩))
          · split at hh
            · rename_i v hv; cases hh; exact Or.inr (Or.inr (Or.inr (Or.inl ⟨v, hv, rfl⟩)))
            · obtain ⟨z, h1, h2⟩ := omap_inv hh
              exact Or.inr (Or.inr (Or.inr (Or.inr ⟨z, h1, h2⟩)))
theorem aft_cost {k : Nat × Nat × Lo × List MV} {r : Re} {h : Hp} {z} (hh : aft k r h = some z) : (∀ x, z = .inl x → x.2 = h) ∧ (∀ x, z = .inr x → x.2.2 = h.2) := by
  unfold aft at hh
  split at hh
  · cases hh
    exact ⟨fun x e => (by cases e), fun x e => (by cases e; rfl)⟩
  · split at hh
    · cases hh; exact ⟨fun x e => (by cases e; rfl), fun x e => (by cases e)⟩
    · cases hh; exact ⟨fun x e => (by cases e), fun x e => (by cases e; rfl)⟩
    · cases hh
theorem run_cost : ∀ {n d : Nat} {fr : Fr} {h h' : Hp} {r : Re}, run d n fr h = some (r, h') → h.2.1 ≤ h'.2.1 ∧ h.2.2 ≤ h'.2.2
  | 0, d, fr, h, h', r, hh => by unfold run at hh; cases hh
  | n + 1, d, fr, h, h', r, hh => by
    unfold run at hh
    split at hh
    · cases hh
    · rename_i q hq
      cases hh
      obtain ⟨i, len, -, h1 | ⟨-, h1 | h1 | h1 | h1 | h1⟩⟩ := stp_inv hq
      · obtain ⟨E, -, -, e⟩ := h1; cases e; exact cs_add
      · obtain ⟨z, -, e⟩ := h1; cases e
      · obtain ⟨z, -, e⟩ := h1; cases e
      · obtain ⟨z, -, e⟩ := h1; cases e
      · obtain ⟨v, -, e⟩ := h1; cases e; exact cs_rf
      · obtain ⟨z, -, e⟩ := h1; cases e
    · rename_i w hq
      have h2 := run_cost hh
      obtain ⟨i, len, -, h1 | ⟨-, h1 | h1 | h1 | h1 | h1⟩⟩ := stp_inv hq
      · obtain ⟨E, -, -, e⟩ := h1; cases e
      · obtain ⟨z, -, e⟩ := h1; cases e; exact h2
      · obtain ⟨z, -, e⟩ := h1; cases e; exact h2
      · obtain ⟨z, h3, e⟩ := h1
        cases e
        have h4 := hwr_cost h3
        exact ⟨Nat.le_trans h4.1 h2.1, Nat.le_trans h4.2 h2.2⟩
      · obtain ⟨v, -, e⟩ := h1; cases e
      · obtain ⟨z, -, e⟩ := h1; cases e
    · rename_i w hq
      split at hh
      · cases hh
      · split at hh
        · cases hh
        · rename_i r1 hr1
          have h2 := run_cost (r := r1.1) (h' := r1.2) hr1
          split at hh
          · cases hh
          · rename_i x hx
            cases hh
            have h3 := (aft_cost hx).1 _ rfl
            dsimp only at h3
            rw [h3]
            exact h2
          · rename_i x hx
            have h3 := (aft_cost hx).2 _ rfl
            have h4 := run_cost hh
            rw [h3] at h4
            exact ⟨Nat.le_trans h2.1 h4.1, Nat.le_trans h2.2 h4.2⟩
end
section
/-! an exception whose own constructor links another entry of its pool (no stack traces) -/
section NSE
variable {p : Program} {l : Launch} {e : Env} {R : Room} {s : State} {m₀ : MethodId} {args : Array Value} {below : List Frame} {meth : Method} {c : Code} {W : State} {locs : List Loc} {cells slots : Nat}
set_option maxHeartbeats 4000000 in
theorem nse_ctor (X : Stand p l e R s m₀ args below meth c W locs cells slots) (hexec : p.tables.exec = Jvm.exec) (htr : e.platform.stackTraces = false) {own cls : String} {names : List String} {ic ix : Nat} {rx : ByteArray}
    (x0 : decode rx 0 = .ok (.aload_n 0, 1)) (x1 : decode rx 1 = .ok (.aload_n 1, 1)) (x2 : decode rx 2 = .ok (.invokespecial ix, 3)) (x5 : decode rx 5 = .ok (.return_, 1))
    (hown : s.vm.findClass own = some m₀.cls) (hcls : Bundle.fit cls = true) (hnames : ∀ n ∈ names, Bundle.fit n = true)
    (h : ∀ a ∈ Bundle.ownAtomsX own ic cls ix rx names, a.before args s = true)
    (hlocs : ∀ x ∈ locs, ∀ cell, s.heap[x.base]? = some cell → cell.vm.isStatics = false)
    {a : Addr} {cX : ClassId} {kX : Class} (hfoundX : s.vm.findClass cls = some cX) (hkX : s.vm.classes[cX]? = some kX) (hcell : W.heap[a]? = some (freshCell cX kX)) (hnew : s.heap.size ≤ a)
    {msg : Value} (hmsg : msg.isRef = true)
    {g : JFrame} (hg : g.method = m₀) (hsize : g.locals.size = c.maxLocals) (hlocked : g.locked = none) (hentered : g.entered = []) {rest : List Value} (hstack : g.stack = msg :: .ref a :: .ref a :: rest)
    (hd6 : decode c.code g.pc = .ok (.invokespecial ic, 3)) (hd9 : decode c.code (g.pc + 3) = .ok (.athrow, 1)) (hout : ∀ x ∈ c.exceptionTable.toList, covers x (g.pc + 3) = false)
    (hRframes : names.length + 3 < R.frames) (hRlocals : 2 * g.monitorRoom + ((Value.ref a :: rest).map fun v => v.category).sum + (13 * (names.length + 1) + 42) ≤ R.locals) (hlocks : meth.locks = false) :
    ∃ U : State, Steps p.tables e below (W.setTop g) U ∧ U.status = .running ∧ Ended U below (.threw a) ∧ s.WarmedH U.vm ∧ s.sameButNew ({ U with vm := s.vm } : State) locs cells slots ∧
      ∃ ce, U.heap[a]? = some ce ∧ ce.cls = cX ∧ ce.vm = .none := by
  have hpl : e.platform.magicAccessors = ({} : Platform).magicAccessors := by rw [X.admits.platform]
  have word : ∀ w, w ∈ Bundle.ownAtomsX own ic cls ix rx names → w.holds args s none s [] = true := fun w hw => h w hw
  -- Throwable, its constructor, the chain up to it
  obtain ⟨T, Z0, L, -, Y⟩ := ThrowableC.of_atoms (args := args) (by rw [X.admits.platform]) (by rw [X.admits.platform]) hpl (fun w hw => h w (by simp [Bundle.ownAtomsX, hw]))
  obtain ⟨Z, M, LZ, LM, hnZ⟩ := Init0T.ofS_atoms (args := args) hpl L Y (fun w hw => h w (by simp [Bundle.ownAtomsX, hw]))
  obtain ⟨P1, Ps, hlen, L1, hL, hP1m, hlink1, hlink⟩ := Bundle.chainSX (args := args) hpl hnZ x0 x1 x2 x5 names cls hcls hnames (fun w hw => h w (by simp [Bundle.ownAtomsX, hw]))
  -- the class
  have hfound : s.vm.findClass cls = some P1.m.cls := findClass_of_methodNamed hP1m
  obtain rfl : cX = P1.m.cls := Option.some.inj (hfoundX.symm.trans hfound)
  obtain ⟨c1, kX', hc1, hk, hord, -, -, hn6⟩ := Cond.instantiable_spec (word (.instantiable cls 6) (by simp [Bundle.ownAtomsX]))
  cases Option.some.inj (hc1.symm.trans hfound)
  obtain rfl : kX = kX' := Option.some.inj (hkX.symm.trans hk)
  have sel : ∀ (y : MethodName) (t : MethodId), s.methodNamed? y = some t → s.methodFound? y.cls y.name y.desc = some t → Cond.selects cls y y ∈ Bundle.ownAtomsX own ic cls ix rx names → selectMethod e.platform s.vm P1.m.cls t = .method t := by
    intro y t h1 h2 h3
    obtain ⟨c2, r2, m2, q1, q2, q3, q4, -⟩ := Cond.selects_spec (word _ h3)
    cases Option.some.inj (q1.symm.trans hfound)
    cases Option.some.inj (q2.symm.trans h2)
    cases Option.some.inj (q3.symm.trans h1)
    rw [Launch.admits_selectMethod X.admits]
    exact q4
  have hsel0 := sel _ T.fill0 Y.fill0 (State.methodFound?_of_named Y.fill0 (by decide)) (by simp [Bundle.ownAtomsX])
  have hselF := sel _ T.fill Y.fill (State.methodFound?_of_named Y.fill (by decide)) (by simp [Bundle.ownAtomsX])
  -- the statics that every Throwable begins with
  obtain ⟨cellS0, hcS0, hiss⟩ := Y.statics
  obtain ⟨u0, hu0⟩ := Cond.staticRefV Y.unassigned L.unassignedStatic L.statics hcS0 hiss (word (.isRef (.static Bundle.tN "UNASSIGNED_STACK" Bundle.steD)) (by simp [Bundle.ownAtomsX]))
  obtain ⟨sen, hsen⟩ := Cond.staticRefV Y.sentinel L.sentinelStatic L.statics hcS0 hiss (word (.isRef (.static Bundle.tN "SUPPRESSED_SENTINEL" Bundle.listD)) (by simp [Bundle.ownAtomsX]))
  obtain ⟨ci198, i198, fB, hk198, hg198, ha198, hsB, -, hnB, htB, hffB⟩ := Cond.ownField (t := .object "java/lang/Object") Y.found L.cls (by decide +kernel) (word (.fieldLink Bundle.tN 198 Bundle.tN "backtrace" "Ljava/lang/Object;") (by simp [Bundle.ownAtomsX])) (word (.lays Bundle.tN Bundle.tN "backtrace" "Ljava/lang/Object;") (by simp [Bundle.ownAtomsX])) e.platform hpl
  obtain ⟨cellS, hcS', heS, -, hkeep⟩ := X.same.2.2.2.2.2 T.aS cellS0 hcS0
  have hcellS : W.heap[T.aS]? = some cellS := hcS'
  have hfree : ∀ i, (⟨T.aS, i⟩ : Loc) ∉ locs := fun i hm => by
    have h9 := hlocs _ hm cellS0 hcS0
    rw [hiss] at h9
    cases h9
  have hknownS : cellS.vm ≠ .unknown := by
    rw [heS]
    intro hu
    rw [show cellS0.vm = .unknown from hu] at hiss
    cases hiss
  have hneS : T.aS ≠ a := Nat.ne_of_lt (Nat.lt_of_lt_of_le (Array.getElem?_eq_some_iff.mp hcS0).1 hnew)
  -- its fields
  obtain ⟨iM, hffM⟩ := Y.msg
  obtain ⟨tyC, dC, hdC, hdnC⟩ := Cond.laysAt hfound hk Y.cause (word (.lays cls Bundle.tN "cause" "Ljava/lang/Throwable;") (by simp [Bundle.ownAtomsX]))
  obtain ⟨tyS, dS, hdS, hdnS⟩ := Cond.laysAt hfound hk Y.stack (word (.lays cls Bundle.tN "stackTrace" Bundle.steD) (by simp [Bundle.ownAtomsX]))
  obtain ⟨tyP, dP, hdP, hdnP⟩ := Cond.laysAt hfound hk Y.supp (word (.lays cls Bundle.tN "suppressedExceptions" Bundle.listD) (by simp [Bundle.ownAtomsX]))
  obtain ⟨tyM, dM, hdM, hdnM⟩ := Cond.laysAt hfound hk hffM (word (.lays cls Bundle.tN "detailMessage" "Ljava/lang/String;") (by simp [Bundle.ownAtomsX]))
  obtain ⟨tyB, dB, hdB, hdnB⟩ := Cond.laysAt hfound hk hffB (word (.lays cls Bundle.tN "backtrace" "Ljava/lang/Object;") (by simp [Bundle.ownAtomsX]))
  have bC := Cond.laysApart hdB hdC hdnB hdnC (by rw [hnB, Y.causeName]; decide)
  have bS := Cond.laysApart hdB hdS hdnB hdnS (by rw [hnB, Y.stackName]; decide)
  have bP := Cond.laysApart hdB hdP hdnB hdnP (by rw [hnB, Y.suppName]; decide)
  have hskip : SkipFacts T e.platform s (fun u => u) u0 ((preparedCellV T.toThrowableT (freshCell P1.m.cls kX) a u0 sen).withEntry W.cur) :=
    ⟨{ ci198 := ci198, i198 := i198, fBack := fB }, ⟨hk198, hg198, ha198, hsB⟩, by
      have := fresh_default (c := P1.m.cls) tyB
      rw [htB] at this
      simpa [preparedCellV, Cell.setSlot, Cell.withEntry, Array.getElem?_setIfInBounds, bC, bS, bP, bC.symm, bS.symm, bP.symm, defaultValue] using this, fun _ _ => rfl⟩
  -- the call, the chain, the throw
  obtain ⟨tm, methC, cdC, kC, vm₁, hnC, -, -, -, -, -, -, -, hW₁, st1⟩ := Steps.initColdS (tb := p.tables) (e := e) (below := below) (s := s) (U := W) X.here hexec X.warmed hpl hown (t := Bundle.initS cls) rfl rfl (Bundle.fit_spec hcls).2
    (word (.methodLink own ic (Bundle.initS cls)) (by simp [Bundle.ownAtomsX])) (h (.instanceMethod (Bundle.initS cls)) (by cases names <;> simp [Bundle.ownAtomsX, Bundle.chainSAtomsX, Bundle.passSAtoms])) (bytes := rx) (maxL := 2) (h (.code (Bundle.initS cls) rx 2 none) (by cases names <;> simp [Bundle.ownAtomsX, Bundle.chainSAtomsX, Bundle.passSAtoms]))
    (f := g) hg (a := a) (msg := msg) (rest := .ref a :: rest) hstack hd6
  cases Option.some.inj (hnC.symm.trans hP1m)
  obtain ⟨vm₂, X₂, st2⟩ := (X.noted hW₁).ctorMessageOffV hexec (g := { g with stack := .ref a :: rest }) hg hsize T L Z LZ M LM (P1 :: Ps)
    (fun P hP => by rcases List.mem_cons.mp hP with rfl | hP; exact L1; exact hL P hP) ⟨hlink1, hlink⟩ (u0 := u0) (sen := sen) (self := a) hmsg (cell := freshCell P1.m.cls kX) (cellS := cellS)
    hcell (fun _ => by simp) (by simp) rfl rfl hsel0 hselF hcellS hneS hknownS (by rw [hkeep _ (hfree _)]; exact hu0) (by rw [hkeep _ (hfree _)]; exact hsen)
    (Takes.of_laid hk hord tyC (by rw [Y.causeType]; rfl)) (Takes.of_laid hk hord tyS (by rw [Y.stackType]; exact fits_refV_array _ u0)) (Takes.of_laid hk hord tyP (by rw [Y.suppType]; exact fits_refV_object _ sen))
    (Takes.of_laid hk hord tyM (by rw [Y.msgType]; exact fits_refV_object _ ⟨msg, hmsg⟩)) Y.objLocals hskip htr [] hd6
    (by simp only [List.length_cons, hlen]; omega) (by simp only [List.length_cons, hlen]; exact hRlocals)
  obtain ⟨hwalk, hrun, hended, hWU, hsame⟩ := X₂.athrowLeaves hexec (g := { g with stack := .ref a :: rest, pc := g.pc + 3 }) hg hlocked hentered hout (a := a) (rest := rest) rfl hd9
  have hlt : a < ((W.setVm vm₁).setVm vm₂).heap.size := (Array.getElem?_eq_some_iff.mp hcell).1
  have hU := heapAt_setCell_self (s := (W.setVm vm₁).setVm vm₂) (plainBareV T.toThrowableT (freshCell P1.m.cls kX) a u0 sen msg) hlt
  refine ⟨_, st1 _ (fun acts => ?_), hrun, hended, hWU, hsame.weaken (fun y hy hlt' => ?_) (Nat.le_refl _) (Nat.le_refl _), _, hU, rfl, rfl⟩
  · rw [doInvoke_state]
    exact st2 _ hwalk
  · rcases List.mem_append.mp hy with h1 | h1
    · exact h1
    · exfalso
      have hb : y.base = a := by
        simp only [List.mem_cons, List.not_mem_nil, or_false] at h1
        rcases h1 with rfl | rfl | rfl | rfl | rfl <;> rfl
      rw [hb] at hlt'
      exact Nat.not_lt.mpr hnew hlt'
end NSE
def nseC : String := "java/util/NoSuchElementException"
abbrev nseR : ByteArray := prog_44_method_4_code
theorem nse_0 : decode nseR 0 = .ok (.aload_n 0, 1) := by decide +kernel
theorem nse_1 : decode nseR 1 = .ok (.aload_n 1, 1) := by decide +kernel
theorem nse_2 : decode nseR 2 = .ok (.invokespecial 13, 3) := by decide +kernel
theorem nse_5 : decode nseR 5 = .ok (.return_, 1) := by decide +kernel
def nseAt : List Cond := (Bundle.ownAtomsX "Lendlathe" 148 nseC 13 nseR ["java/lang/RuntimeException", "java/lang/Exception"]).filter vx_no
set_option maxRecDepth 100000 in
set_option maxHeartbeats 4000000 in
theorem nseAt_ok : (nseAt.all (fun w => decide (w ∈ lw_tbl) && (goodWord w || cdw w) && vx_ot w)) = true := by decide +kernel
section NSW
variable {p : Program} {l : Launch} {e : Env} {R : Room} {s : State} {m : MethodId} {args : Array Value} {below : List Frame} {meth : Method} {c : Code} {H : Heap} {locs : List Loc} {cells slots : Nat} {Qc : Array Value → State → Outcome → State → Prop} {XC : String → State → State → Prop} {free : Addr → Prop} {ls : Array Slot} {rest : List Value}
set_option maxHeartbeats 4000000 in
theorem nse_thr {cc : ByteArray} {pc pcI : Nat} (hexec : p.tables.exec = Jvm.exec) (hb : c.code = cc) (hl : l.stackTraces = false) {text : String} {ik is mc ms sa : Nat} {A : Nat → Prop}
    (hown : s.vm.findClass "Lendlathe" = some m.cls)
    (hk : (Cond.classLink "Lendlathe" ik nseC).before args s = true) (hini : (Cond.initialized nseC).before args s = true) (hstr : vk_R "Lendlathe" is text sa s) (hat : ∀ w ∈ nseAt, w.before args s = true)
    (hgood : ∀ w ∈ Cond.classLink "Lendlathe" ik nseC :: Cond.initialized nseC :: nseAt, vx_ot w = true)
    (hU : vx_Zq Bundle.tN "UNASSIGNED_STACK" Bundle.steD A s s.heap) (hN : vx_Zq Bundle.tN "SUPPRESSED_SENTINEL" Bundle.listD A s s.heap) (hS : va_S A s.heap H locs) (hsize : ls.size = c.maxLocals)
    (d0 : decode cc pc = .ok (.new ik, 3)) (d3 : decode cc (pc + 3) = .ok (.dup, 1)) (d4 : (decode cc (pc + 4) = .ok (.ldc is, 2) ∧ pcI = pc + 6) ∨ (decode cc (pc + 4) = .ok (.ldc_w is, 3) ∧ pcI = pc + 7)) (d6 : decode cc pcI = .ok (.invokespecial 148, 3)) (d9 : decode cc (pcI + 3) = .ok (.athrow, 1))
    (hout : ∀ x ∈ c.exceptionTable.toList, covers x (pcI + 3) = false)
    (hRframes : 2 + 3 < R.frames) (hRlocals : (rest.map fun v => v.category).sum + (13 * (2 + 1) + 43) ≤ R.locals) (hRcells : cells + 1 ≤ R.cells) (hRslots : slots + 6 ≤ R.slots) (hlocks : meth.locks = false)
    (hx : ∀ t : State, s.vm.Alike t.vm → H.size ≤ t.heap.size → (∀ q : Nat, q < H.size → t.heap[q]? = H[q]?) → XC nseC s t)
    (hf : ∀ z ∈ locs, free z.base) (hc : cells + 1 ≤ mc) (hs : slots + 6 ≤ ms) :
    W p l e R s m args below meth c H locs cells slots (vx_MQ below Qc XC args s mc ms free) (F0 m pc ls rest) := by
  intro T hT X
  have htr : e.platform.stackTraces = false := (show e.platform.stackTraces = l.stackTraces by rw [X.admits.platform]).trans hl
  have Y := vx_rebase X (R' := { frames := R.frames, locals := R.locals, cells := 1, slots := 6 }) (Nat.le_refl _) (Nat.le_refl _) hRcells hRslots
  obtain ⟨s', hA⟩ : ∃ z, z = (T.setVm s.vm).setFrames (.invoking m args :: below) := ⟨_, rfl⟩
  rw [← hA] at Y
  have hvm : s'.vm = s.vm := by rw [hA]; rfl
  have hhp : s'.heap = H := by rw [hA]; exact hT
  have hW0 : s.WarmedH s'.vm := by rw [hvm]; exact State.WarmedH.refl s
  have up : ∀ w, vx_ot w = true → w.before args s = true → w.before args s' = true := fun w g h => vx_ot_at hW0 hvm.symm g h
  have hU' : vx_Zq Bundle.tN "UNASSIGNED_STACK" Bundle.steD A s' s'.heap := by rw [hhp]; exact vx_Zq.moved hW0.alike (hU.kept hS.2.1)
  have hN' : vx_Zq Bundle.tN "SUPPRESSED_SENTINEL" Bundle.listD A s' s'.heap := by rw [hhp]; exact vx_Zq.moved hW0.alike (hN.kept hS.2.1)
  have h : ∀ w ∈ Bundle.ownAtomsX "Lendlathe" 148 nseC 13 nseR ["java/lang/RuntimeException", "java/lang/Exception"], w.before args s' = true :=
    vx_own (fun w hw => up w (hgood w (List.mem_cons_of_mem _ (List.mem_cons_of_mem _ hw))) (hat w hw)) (vx_isRefq hU'.1) (vx_isRefq hN'.1) hU'.2.word hN'.2.word
  have hown' : s'.vm.findClass "Lendlathe" = some m.cls := by rw [hvm]; exact hown
  obtain ⟨vm₁, cX, kX, hfX, hkX, -, -, X₁, st1⟩ := Y.newCold hexec (own := "Lendlathe") (C := nseC) (index := ik) (n := 6) hown' (up _ (hgood _ List.mem_cons_self) hk) (h _ (by simp [Bundle.ownAtomsX])) (up _ (hgood _ (List.mem_cons_of_mem _ List.mem_cons_self)) hini)
    (g := F0 m pc ls rest) rfl (by rw [hb]; exact d0) (Nat.le_refl _) (Nat.le_refl _)
  generalize hT1 : (T.setVm vm₁).pushCell { cls := cX, slots := kX.instanceTypes.map defaultValue, vm := .none } = T1 at X₁ st1
  have hcat : (Value.ref T.heap.size).category = 1 := rfl
  have hcellA : T1.heap[T.heap.size]? = some (freshCell cX kX) := by rw [← hT1]; exact State.heap_pushCell_size _ _
  have d3' : decode c.code (pc + 3) = .ok (.dup, 1) := by rw [hb]; exact d3
  have hstr' : vk_R "Lendlathe" is text sa s' := vk_R.warm hW0 hstr
  obtain ⟨U, hsteps, hrun, hend, hW, hsame, ce, hce, hcls, hcv⟩ := nse_ctor X₁ hexec htr nse_0 nse_1 nse_2 nse_5 (own := "Lendlathe") (cls := nseC) (names := ["java/lang/RuntimeException", "java/lang/Exception"]) (ic := 148) hown' (by decide) (by decide) h (fun x hx => nomatch hx) hfX hkX hcellA (by rw [hhp, hT]; exact Nat.le_refl _) (msg := .ref sa) rfl
    (g := { method := m, pc := pcI, locals := ls, stack := .ref sa :: .ref T.heap.size :: .ref T.heap.size :: rest, locked := none }) rfl hsize rfl rfl (rest := rest) rfl
    (by rw [hb]; exact d6) (by rw [hb]; exact d9) hout hRframes (by show 2 * 0 + _ + (13 * (2 + 1) + 42) ≤ R.locals; simp only [List.map_cons, List.sum_cons, hcat]; omega) hlocks
  obtain ⟨f1, f2⟩ := vx_frame hsame
  rw [hhp] at f1 f2
  have hWs : s.WarmedH U.vm := State.WarmedH.trans hW0 hW
  have hcl : s.vm.findClass nseC = some ce.cls := by
    rw [hcls, ← hvm]
    exact hfX
  have hall : s.sameButNew ({ U with vm := s.vm } : State) locs mc ms := by
    subst hA
    obtain ⟨e1, e2⟩ := hsame
    rw [State.setFrames_setFrames] at e1
    have h2 : (T.setVm s.vm).sameButNew ({ U with vm := s.vm } : State) [] (0 + 1) (0 + 6) := ⟨e1, e2⟩
    have h3 := X.same.trans h2
    rw [List.append_nil] at h3
    exact h3.mono hc hs
  refine ⟨U, ?_, .threw T.heap.size, hrun, hend, Or.inr ⟨T.heap.size, rfl, nseC, ce, locs, hx U hWs.alike f1 (fun q hq => f2 q hq (fun z hz => nomatch hz)), hce, hcv, hcl, hWs, hall, hf⟩⟩
  refine st1 _ ?_
  show Steps p.tables e below (T1.setTop { method := m, pc := pc + 3, locals := ls, stack := .ref T.heap.size :: rest, locked := none }) _
  jvm_step X₁.here [X₁.here.top, hexec, d3', Value.category]
  rcases d4 with ⟨d4, rfl⟩ | ⟨d4, rfl⟩
  · exact X₁.ldcString hexec (own := "Lendlathe") (text := text) (index := is) (a := sa) hown' hstr'.1 hstr'.2
      (g := { method := m, pc := pc + 4, locals := ls, stack := .ref T.heap.size :: .ref T.heap.size :: rest, locked := none }) rfl (by rw [hb]; exact d4) _ hsteps
  · exact X₁.ldcStringW hexec (own := "Lendlathe") (text := text) (index := is) (a := sa) hown' hstr'.1 hstr'.2
      (g := { method := m, pc := pc + 4, locals := ls, stack := .ref T.heap.size :: .ref T.heap.size :: rest, locked := none }) rfl (by rw [hb]; exact d4) _ hsteps
end NSW
end
section
/-! the throws of the class: what the tables say of each -/
def exup : List String := ["java/lang/RuntimeException", "java/lang/Exception"]
/-- the constructor's entry in the pool of class 8, by the exception -/
def exic (E : Nat) : Nat := ([362, 76, 114, 143, 148, 87] : List Nat).getD E 0
def exik (E : Nat) : Nat := ([358, 72, 110, 139, 144, 83] : List Nat).getD E 0
def okX (E : Nat) : Bool := decide (Cond.classLink "Lendlathe" (exik E) (exnm E) ∈ lw_tbl) && decide (Cond.initialized (exnm E) ∈ lw_tbl) && (vx_atS "Lendlathe" (exic E) (exnm E) exup).all (fun w => decide (w ∈ lw_tbl) && (goodWord w || cdw w) && vx_ot w) && Bundle.fit (exnm E)
set_option maxRecDepth 100000 in
set_option maxHeartbeats 4000000 in
theorem okX_all : ([0, 1, 2, 3, 5] : List Nat).all okX = true := by decide +kernel
def okT (q : Nat × Nat × Nat × Nat × Nat × Nat × Nat × String × Nat) : Bool := match q with
  | (y, pc, E, ik, is, ic, wide, _, _) => decide (E < 6) && decide (ik = exik E) && decide (ic = exic E) && decide (mcl y = 8) && decide (dec y pc = some (.new ik, 3)) && decide (dec y (pc + 3) = some (.dup, 1)) && (match mrow y with | some r => r.2.2.2.2.isEmpty | none => false) &&
    (if wide = 0 then decide (dec y (pc + 4) = some (.ldc is, 2)) && decide (dec y (pc + 6) = some (.invokespecial ic, 3)) && decide (dec y (pc + 9) = some (.athrow, 1)) else decide (dec y (pc + 4) = some (.ldc_w is, 3)) && decide (dec y (pc + 7) = some (.invokespecial ic, 3)) && decide (dec y (pc + 10) = some (.athrow, 1)))
set_option maxRecDepth 100000 in
set_option maxHeartbeats 4000000 in
theorem th_ok : thtab.all okT = true := by decide +kernel
theorem th_mem {y pc E : Nat} (h : th y pc = some E) : ∃ q ∈ thtab, q.1 = y ∧ q.2.1 = pc ∧ q.2.2.1 = E := by
  unfold th at h
  obtain ⟨q, h1, rfl⟩ := omap_inv h
  have h2 := List.find?_some h1
  simp only [Bool.and_eq_true, beq_iff_eq] at h2
  exact ⟨q, List.mem_of_find?_eq_some h1, h2.1, h2.2, rfl⟩
set_option maxRecDepth 100000 in
theorem nse_words : Cond.classLink "Lendlathe" (exik 4) nseC ∈ lw_tbl ∧ Cond.initialized nseC ∈ lw_tbl ∧ exnm 4 = nseC := by decide +kernel
section TH
variable {p : Program} {l : Launch} {e : Env} {R : Room} {s : State} {m : MethodId} {args : Array Value} {below : List Frame} {meth : Method} {c : Code} {H : Heap} {locs : List Loc} {cells slots : Nat}
variable {pc : Nat} {ls : Array Slot} {nL base E0 : Nat}
set_option maxHeartbeats 4000000 in
/-- a throw of the class leaves the method -/
theorem thr_ok (htr : l.stackTraces = false) {y : Nat} (C0 : Ctx y p s m args meth c nL) (hR : Rm R) (hE : EnvW base E0 s s.heap) (hS : va_S (fun q => base ≤ q) s.heap H locs) {E : Nat} (ht : th y pc = some E) (hls : ls.size = nL) {mc ms : Nat} (hc1 : cells + 1 ≤ R.cells) (hc2 : slots + 6 ≤ R.slots) (hm1 : cells + 1 ≤ mc) (hm2 : slots + 6 ≤ ms)
    {Qc : Array Value → State → Outcome → State → Prop} {XC : String → State → State → Prop} (hx : ∀ t : State, s.vm.Alike t.vm → H.size ≤ t.heap.size → (∀ q : Nat, q < H.size → t.heap[q]? = H[q]?) → XC (exnm E) s t) :
    W p l e R s m args below meth c H locs cells slots (vx_MQ below Qc XC args s mc ms (fun q => base ≤ q)) (F0 m pc ls []) := by
  obtain ⟨r, hr, hxx, hb, hml, hnl, -, hown, hlk, -, hts, htab⟩ := C0
  obtain ⟨q, hq, rfl, rfl, rfl⟩ := th_mem ht
  have h1 := List.all_eq_true.mp th_ok q hq
  obtain ⟨sa, hstr⟩ := hE.2.2.1 q hq
  obtain ⟨y, pc, E, ik, is, ic, wide, text, pl⟩ := q
  simp only [okT, hr, Bool.and_eq_true, decide_eq_true_eq] at h1
  obtain ⟨⟨⟨⟨⟨⟨⟨g1, g2⟩, g3⟩, g4⟩, g5⟩, g6⟩, g7⟩, g8⟩ := h1
  dsimp only at hr hown hstr hx g1 g2 g3 g4 g5 g6 g7 g8 ⊢
  subst g2; subst g3
  by_cases hE4 : E = 4
  · subst hE4
    have hown' : s.vm.findClass "Lendlathe" = some m.cls := by rw [g4] at hown; exact hown
    have hwd : ∀ w, w ∈ lw_tbl → goodWord w = true → w.before args s = true := fun w hw hg => hts w (List.mem_filter.mpr ⟨hw, hg⟩)
    have hempty : ∀ x ∈ c.exceptionTable.toList, False := by
      rw [htab, List.isEmpty_iff.mp g7]
      intro x hx
      simp [tableOf] at hx
    obtain ⟨n1, n2, -⟩ := nse_words
    have hall : ∀ w ∈ nseAt, (w ∈ lw_tbl ∧ (goodWord w = true ∨ cdw w = true)) ∧ vx_ot w = true := fun w hw => by
      have h := List.all_eq_true.mp nseAt_ok w hw
      simpa only [Bool.and_eq_true, decide_eq_true_eq, Bool.or_eq_true] using h
    have hat : ∀ w ∈ nseAt, w.before args s = true := fun w hw => by
      obtain ⟨⟨z1, z2⟩, -⟩ := hall w hw
      rcases z2 with z2 | z2
      · exact hwd w z1 z2
      · have h := hE.2.2.2.2.2.2.2.2.2 w z1 z2
        cases w with
        | castable C T => exact va_Nw.use rfl h
        | declares x => exact va_Nw.use rfl h
        | _ => cases z2
    have hgood : ∀ w ∈ Cond.classLink "Lendlathe" (exik 4) nseC :: Cond.initialized nseC :: nseAt, vx_ot w = true := fun w hw => by
      rcases List.mem_cons.mp hw with rfl | hw
      · rfl
      · rcases List.mem_cons.mp hw with rfl | hw
        · rfl
        · exact (hall w hw).2
    have hz : ls.size = c.maxLocals := by rw [hml]; exact hls
    split at g8
    · obtain ⟨⟨d4, d6⟩, d9⟩ := by simpa only [Bool.and_eq_true, decide_eq_true_eq] using g8
      exact nse_thr (pcI := pc + 6) hxx hb htr hown' (hwd _ n1 rfl) (hwd _ n2 rfl) hstr hat hgood hE.2.2.2.1 hE.2.2.2.2.1 hS hz (dec_inv hr g5) (dec_inv hr g6) (Or.inl ⟨dec_inv hr d4, rfl⟩) (dec_inv hr d6) (dec_inv hr d9) (fun x hx => absurd (hempty x hx) id) (by have := hR.1; show 2 + 3 < _; omega) (by have := hR.2; show 0 + (13 * (2 + 1) + 43) ≤ _; omega) hc1 hc2 hlk hx hS.2.2 hm1 hm2
    · obtain ⟨⟨d4, d6⟩, d9⟩ := by simpa only [Bool.and_eq_true, decide_eq_true_eq] using g8
      exact nse_thr (pcI := pc + 7) hxx hb htr hown' (hwd _ n1 rfl) (hwd _ n2 rfl) hstr hat hgood hE.2.2.2.1 hE.2.2.2.2.1 hS hz (dec_inv hr g5) (dec_inv hr g6) (Or.inr ⟨dec_inv hr d4, rfl⟩) (dec_inv hr d6) (dec_inv hr d9) (fun x hx => absurd (hempty x hx) id) (by have := hR.1; show 2 + 3 < _; omega) (by have := hR.2; show 0 + (13 * (2 + 1) + 43) ≤ _; omega) hc1 hc2 hlk hx hS.2.2 hm1 hm2
  have hX := List.all_eq_true.mp okX_all E (by
    have : E = 0 ∨ E = 1 ∨ E = 2 ∨ E = 3 ∨ E = 5 := by omega
    rcases this with rfl | rfl | rfl | rfl | rfl <;> decide)
  simp only [okX, Bool.and_eq_true, decide_eq_true_eq, List.all_eq_true, Bool.or_eq_true] at hX
  obtain ⟨⟨⟨x1, x2⟩, x3⟩, x4⟩ := hX
  have hown' : s.vm.findClass "Lendlathe" = some m.cls := by rw [g4] at hown; exact hown
  have hwd : ∀ w, w ∈ lw_tbl → goodWord w = true → w.before args s = true := fun w hw hg => hts w (List.mem_filter.mpr ⟨hw, hg⟩)
  have hempty : ∀ x ∈ c.exceptionTable.toList, False := by
    rw [htab, List.isEmpty_iff.mp g7]
    intro x hx
    simp [tableOf] at hx
  have hat : ∀ w ∈ vx_atS "Lendlathe" (exic E) (exnm E) exup, w.before args s = true := fun w hw => by
    obtain ⟨⟨z1, z2⟩, z3⟩ := x3 w hw
    rcases z2 with z2 | z2
    · exact hwd w z1 z2
    · have h := hE.2.2.2.2.2.2.2.2.2 w z1 z2
      cases w with
      | castable C T => exact va_Nw.use rfl h
      | declares x => exact va_Nw.use rfl h
      | _ => cases z2
  have hgood : ∀ w ∈ Cond.classLink "Lendlathe" (exik E) (exnm E) :: Cond.initialized (exnm E) :: vx_atS "Lendlathe" (exic E) (exnm E) exup, vx_ot w = true := fun w hw => by
    rcases List.mem_cons.mp hw with rfl | hw
    · rfl
    · rcases List.mem_cons.mp hw with rfl | hw
      · rfl
      · exact (x3 w hw).2
  have hfit : ∀ n ∈ exup, Bundle.fit n = true := by decide
  have hz : ls.size = c.maxLocals := by rw [hml]; exact hls
  split at g8
  · obtain ⟨⟨d4, d6⟩, d9⟩ := by simpa only [Bool.and_eq_true, decide_eq_true_eq] using g8
    exact vx_throwS hxx hb htr hown' x4 hfit (hwd _ x1 rfl) (hwd _ x2 rfl) hstr hat hgood hE.2.2.2.1 hE.2.2.2.2.1 hS hz (dec_inv hr g5) (dec_inv hr g6) (dec_inv hr d4) (dec_inv hr d6) (dec_inv hr d9) (fun x hx => absurd (hempty x hx) id) (by have := hR.1; show 2 + 3 < _; omega) (by have := hR.2; show 0 + (13 * (2 + 1) + 43) ≤ _; omega) hc1 hc2 hlk hx hS.2.2 hm1 hm2
  · obtain ⟨⟨d4, d6⟩, d9⟩ := by simpa only [Bool.and_eq_true, decide_eq_true_eq] using g8
    exact vx_throwSW hxx hb htr hown' x4 hfit (hwd _ x1 rfl) (hwd _ x2 rfl) hstr hat hgood hE.2.2.2.1 hE.2.2.2.2.1 hS hz (dec_inv hr g5) (dec_inv hr g6) (dec_inv hr d4) (dec_inv hr d6) (dec_inv hr d9) (fun x hx => absurd (hempty x hx) id) (by have := hR.1; show 2 + 3 < _; omega) (by have := hR.2; show 0 + (13 * (2 + 1) + 43) ≤ _; omega) hc1 hc2 hlk hx hS.2.2 hm1 hm2
end TH
end
section
/-! the small machine's runs are the JVM's -/
set_option maxRecDepth 100000 in
set_option maxHeartbeats 4000000 in
theorem mt_all : ((mtab.zip (mclt.zip mfct)).take 216).all okM = true := by decide +kernel
set_option maxRecDepth 100000 in
set_option maxHeartbeats 4000000 in
theorem mt_app : mtab.take 216 = mtab_0 ++ (mtab_1 ++ (mtab_2 ++ (mtab_3 ++ (mtab_4 ++ (mtab_5 ++ (mtab_6 ++ (mtab_7 ++ mtab_8))))))) := rfl
theorem mt_words : ∀ r ∈ mtab.take 216, mword r ∈ lw_tbl := by
  intro r hr
  rw [mt_app] at hr
  simp only [List.mem_append] at hr
  rcases hr with h | h | h | h | h | h | h | h | h
  · exact mc_0 r h
  · exact mc_1 r h
  · exact mc_2 r h
  · exact mc_3 r h
  · exact mc_4 r h
  · exact mc_5 r h
  · exact mc_6 r h
  · exact mc_7 r h
  · exact mc_8 r h
theorem mword_good (r : MRow) : goodWord (mword r) = true := by
  obtain ⟨a, b, c, d, hh⟩ := r
  cases hh <;> rfl
/-- what the tables say of a method -/
theorem mt_spec {y : Nat} {r : MRow} (hr : mrow y = some r) (hy : y < 216) : ∃ f, mfct[y]? = some f ∧ mword r ∈ WS ∧ r.1.cls = cnm (mcl y) ∧ mcl y < 11 ∧ (if f.2.1 = 0 then Cond.static r.1 else Cond.instanceMethod r.1) ∈ WS ∧ Cond.initialized r.1.cls ∈ WS ∧ (f.2.1 = 2 → Cond.selects r.1.cls r.1 r.1 ∈ WS) ∧ (f.2.1 = 1 → r.1.name = "<init>" ∧ r.2.2.2.1 = none) ∧ (parseMethodDescriptor r.1.desc).map (fun d => d.parameters.length) = some f.2.2.2.2.2 ∧ plainName r.1.cls = true ∧ f.2.1 ≤ 2 ∧ r.2.2.1 ≤ 20 ∧ (r.1.cls ≠ "java/lang/invoke/MethodHandle" ∧ r.1.cls ≠ "java/lang/invoke/VarHandle") := by
  have hr' : mtab[y]? = some r := hr
  have l1 : y < mclt.length := by rw [mt_len.2.1]; omega
  have l2 : y < mfct.length := by rw [mt_len.2.2]; omega
  obtain ⟨f, hf⟩ : ∃ f, mfct[y]? = some f := ⟨_, List.getElem?_eq_getElem l2⟩
  have ho : mclt[y]? = some (mcl y) := by
    unfold mcl
    rw [List.getD_eq_getElem?_getD, List.getElem?_eq_getElem l1]
    rfl
  have hz : (mtab.zip (mclt.zip mfct))[y]? = some (r, mcl y, f) := List.getElem?_zip_eq_some.mpr ⟨hr', List.getElem?_zip_eq_some.mpr ⟨ho, hf⟩⟩
  have hz2 : ((mtab.zip (mclt.zip mfct)).take 216)[y]? = some (r, mcl y, f) := by rw [List.getElem?_take_of_lt hy]; exact hz
  have h1 := List.all_eq_true.mp mt_all _ (List.mem_of_getElem? hz2)
  have hw : mword r ∈ lw_tbl := mt_words r (List.mem_of_getElem? (i := y) (by rw [List.getElem?_take_of_lt hy]; exact hr'))
  obtain ⟨pc, kd, pk, pi, ps, n⟩ := f
  simp only [okM, Bool.and_eq_true, decide_eq_true_eq, Bool.or_eq_true, bne_iff_ne, ne_eq] at h1
  obtain ⟨⟨⟨⟨⟨⟨⟨⟨⟨g1, g2⟩, g3⟩, g4⟩, g5⟩, g6⟩, g7⟩, g8⟩, g9⟩, g10⟩ := h1
  refine ⟨(pc, kd, pk, pi, ps, n), hf, List.mem_filter.mpr ⟨hw, mword_good r⟩, g1, g2, ws_of g3 (by dsimp only; split <;> rfl), ws_of g4 rfl, fun e => ws_of (g5.resolve_left (fun z => z e)) rfl, fun e => g6.resolve_left (fun z => z e), g7, g8, g9, g10, ?_⟩
  have hn : ∀ o, o < 11 → cnm o ≠ "java/lang/invoke/MethodHandle" ∧ cnm o ≠ "java/lang/invoke/VarHandle" := by decide
  rw [g1]
  exact hn _ g2
theorem ml_spec {o idx y2 : Nat} {r : MRow} (h : ml o idx = some y2) (hr : mrow y2 = some r) : Cond.methodLink (cnm o) idx r.1 ∈ WS := by
  unfold ml at h
  obtain ⟨q, h1, rfl⟩ := omap_inv h
  have h2 := List.find?_some h1
  have h3 := List.all_eq_true.mp ml_ok q (List.mem_of_find?_eq_some h1)
  obtain ⟨a, b, c, d⟩ := q
  simp only [Bool.and_eq_true, beq_iff_eq] at h2
  obtain ⟨rfl, rfl⟩ := h2
  have hr' : mtab[c]? = some r := hr
  simp only [okL, hr', decide_eq_true_eq] at h3
  exact ws_of h3 rfl
theorem ml_lt {o idx y2 : Nat} (h : ml o idx = some y2) : y2 < 216 := by
  have hm : ∀ q ∈ mltab, q.2.2.1 < 216 := by decide +kernel
  unfold ml at h
  obtain ⟨q, h1, rfl⟩ := omap_inv h
  exact hm q (List.mem_of_find?_eq_some h1)
theorem exl_spec {o idx E : Nat} (h : exl o idx = some E) : Cond.classLink (cnm o) idx (exnm E) ∈ WS ∧ E < 6 := by
  unfold exl at h
  obtain ⟨q, h1, rfl⟩ := omap_inv h
  have h2 := List.find?_some h1
  have h3 := List.all_eq_true.mp ex_ok q (List.mem_of_find?_eq_some h1)
  obtain ⟨a, b, c, d⟩ := q
  simp only [Bool.and_eq_true, beq_iff_eq] at h2
  obtain ⟨rfl, rfl⟩ := h2
  simp only [Bool.and_eq_true, decide_eq_true_eq] at h3
  exact ⟨ws_of h3.1 rfl, h3.2⟩
/-- the rows of the tables of handlers name exceptions that are known -/
theorem hh_ok : (mtab.zip mclt).all (fun q => q.1.2.2.2.2.all (fun x => (exl q.2 x.2.2.2).isSome && decide (x.2.2.2 ≠ 0))) = true := by decide +kernel
set_option maxRecDepth 100000 in
theorem cast_ok : (List.range 6).all (fun E => decide (Cond.castable (exnm E) (exnm E) ∈ lw_tbl)) = true := by decide +kernel
end
section
/-! calls: a run of the callee gives its contract; then every run -/
def kpt (base : Nat) (H : Heap) (t : State) : Prop := H.size ≤ t.heap.size ∧ ∀ q, q < H.size → ¬ base ≤ q → t.heap[q]? = H[q]?
def vro (ρ : Nat → List Nat) : Option MV → Option Value → Prop
  | none, w => w = none
  | some v, w => ∃ x, w = some x ∧ vr ρ v x
theorem vro_list {ρ : Nat → List Nat} {v : Option MV} {w : Option Value} (h : vro ρ v w) : srel ρ v.toList w.toList := by
  cases v with
  | none => rw [show w = none from h]; rfl
  | some v => obtain ⟨x, rfl, h1⟩ := h; exact ⟨x, [], rfl, h1, rfl⟩
def PcU (base E0 : Nat) (D : va_G) (ρ : Nat → List Nat) (β : Nat → Nat → Nat) (h : Hp) (H : Heap) (as : List Value) : Array Value → State → Prop := va_Pc as (fun U => U.heap = H ∧ Sim base E0 D ρ β h U U.heap ∧ EnvW base E0 U U.heap)
def QcU (base E0 : Nat) (D : va_G) (ρ : Nat → List Nat) (H : Heap) (r1 : Re) (h1 : Hp) : Array Value → State → Outcome → State → Prop := fun _ _ o t => ∃ v w ρ1 β1, r1 = .inl v ∧ o = .returned w ∧ vro ρ1 v w ∧ Ext ρ ρ1 ∧ Sim base E0 D ρ1 β1 h1 t t.heap ∧ kpt base H t
def XcU (base E0 : Nat) (D : va_G) (ρ : Nat → List Nat) (H : Heap) (r1 : Re) (h1 : Hp) : String → State → State → Prop := fun En _ t => ∃ E ρ1 β1, r1 = .inr E ∧ En = exnm E ∧ Ext ρ ρ1 ∧ Sim base E0 D ρ1 β1 h1 t t.heap ∧ kpt base H t
def rmU (d mc ms : Nat) : Room := { frames := 14 + d, cells := mc, slots := ms, locals := 900 + 60 * d }
def RmD (d : Nat) (R : Room) : Prop := 14 + d ≤ R.frames ∧ 900 + 60 * d ≤ R.locals
theorem RmD.rm {d : Nat} {R : Room} (h : RmD d R) : Rm R := ⟨by have := h.1; omega, by have := h.2; omega⟩
/-- how a run may end, for the walk -/
def EndR (p : Program) (l : Launch) (e : Env) (R : Room) (s : State) (m : MethodId) (args : Array Value) (below : List Frame) (meth : Method) (c : Code) (Q : State → Prop) (base E0 : Nat) (D : va_G) (nL y : Nat) (cells slots : Nat) (ρ : Nat → List Nat) (h : Hp) (r : Re) (h' : Hp) : Prop :=
  (∀ (v : Option MV) (i : Instr) (len pc1 : Nat) (st1 : List MV) (H1 : Heap) (locs1 : List Loc) (ρ1 : Nat → List Nat) (β1 : Nat → Nat → Nat) (ls2 : Array Slot) (st2 : List Value) (cells1 slots1 : Nat), r = .inl v → dec y pc1 = some (i, len) → rst i len st1 ((mrow y).bind (fun r => r.2.2.2.1)) = some v → Ext ρ ρ1 → Sim base E0 D ρ1 β1 h' s H1 → va_S (fun q => base ≤ q) s.heap H1 locs1 → srel ρ1 st1 st2 → cells1 + h.2.1 = cells + h'.2.1 → slots1 + h.2.2 = slots + h'.2.2 → W p l e R s m args below meth c H1 locs1 cells1 slots1 Q (F0 m pc1 ls2 st2)) ∧
  (∀ (E pc1 : Nat) (hx : Hp) (H1 : Heap) (locs1 : List Loc) (ρ1 : Nat → List Nat) (β1 : Nat → Nat → Nat) (ls2 : Array Slot) (cells1 slots1 : Nat), r = .inr E → th y pc1 = some E → h' = hcst hx 1 6 → Ext ρ ρ1 → Sim base E0 D ρ1 β1 hx s H1 → va_S (fun q => base ≤ q) s.heap H1 locs1 → ls2.size = nL → cells1 + h.2.1 = cells + hx.2.1 → slots1 + h.2.2 = slots + hx.2.2 → W p l e R s m args below meth c H1 locs1 cells1 slots1 Q (F0 m pc1 ls2 [])) ∧
  (∀ (E pc1 : Nat) (H1 : Heap) (locs1 : List Loc) (ρ1 : Nat → List Nat) (β1 : Nat → Nat → Nat) (ls2 : Array Slot) (rest : List Value) (q : Addr) (ce : Cell) (cells1 slots1 : Nat), r = .inr E → hnd y pc1 E = some none → Ext ρ ρ1 → Sim base E0 D ρ1 β1 h' s H1 → va_S (fun q => base ≤ q) s.heap H1 locs1 → H1[q]? = some ce → ce.vm = .none → s.vm.findClass (exnm E) = some ce.cls → cells1 + h.2.1 = cells + h'.2.1 → slots1 + h.2.2 = slots + h'.2.2 → vx_W p l e R s m args below meth c H1 locs1 cells1 slots1 Q (F0 m pc1 ls2 rest) q)
/-- every run of n steps is the JVM's -/
def PN (l : Launch) (n : Nat) : Prop := ∀ (d : Nat) (fr : Fr) (h : Hp) (r : Re) (h' : Hp), run d n fr h = some (r, h') → ∀ {p : Program} {e : Env} {R : Room} {s : State} {m : MethodId} {args : Array Value} {below : List Frame} {meth : Method} {c : Code} {H : Heap} {locs : List Loc} {cells slots : Nat} {Q : State → Prop} {ls : Array Slot} {st' : List Value} {ρ : Nat → List Nat} {β : Nat → Nat → Nat} {nL base E0 : Nat} {D : va_G},
  Ctx fr.1 p s m args meth c nL → ((mfct[fr.1]?).map (fun f => f.2.1) = some 1 → meth.name = "<init>") → RmD d R → EnvW base E0 s s.heap → Sim base E0 D ρ β h s H → va_S (fun q => base ≤ q) s.heap H locs → cells + h'.2.1 ≤ R.cells + h.2.1 → slots + h'.2.2 ≤ R.slots + h.2.2 → lrel ρ ls fr.2.2.1 nL → srel ρ fr.2.2.2 st' →
  EndR p l e R s m args below meth c Q base E0 D nL fr.1 cells slots ρ h r h' → W p l e R s m args below meth c H locs cells slots Q (F0 m fr.2.1 ls st')
theorem EndR.step {p : Program} {l : Launch} {e : Env} {R : Room} {s : State} {m : MethodId} {args : Array Value} {below : List Frame} {meth : Method} {c : Code} {Q : State → Prop} {base E0 : Nat} {D : va_G} {nL y cells slots cells1 slots1 : Nat} {ρ ρ1 : Nat → List Nat} {h h1 : Hp} {r : Re} {h' : Hp} (hE : EndR p l e R s m args below meth c Q base E0 D nL y cells slots ρ h r h') (hρ : Ext ρ ρ1) (e1 : cells1 + h.2.1 = cells + h1.2.1) (e2 : slots1 + h.2.2 = slots + h1.2.2) : EndR p l e R s m args below meth c Q base E0 D nL y cells1 slots1 ρ1 h1 r h' := by
  obtain ⟨k1, k2, k3⟩ := hE
  refine ⟨fun v i len pc1 st1 H1 locs1 ρ2 β1 ls2 st2 cs sl a1 a2 a3 a4 a5 a6 a7 a8 a9 => k1 v i len pc1 st1 H1 locs1 ρ2 β1 ls2 st2 cs sl a1 a2 a3 (hρ.tr a4) a5 a6 a7 (by omega) (by omega), fun E pc1 hx H1 locs1 ρ2 β1 ls2 cs sl a1 a2 a3 a4 a5 a6 a7 a8 a9 => k2 E pc1 hx H1 locs1 ρ2 β1 ls2 cs sl a1 a2 a3 (hρ.tr a4) a5 a6 a7 (by omega) (by omega), fun E pc1 H1 locs1 ρ2 β1 ls2 rest q ce cs sl a1 a2 a3 a4 a5 a6 a7 a8 a9 a10 => k3 E pc1 H1 locs1 ρ2 β1 ls2 rest q ce cs sl a1 a2 (hρ.tr a3) a4 a5 a6 a7 a8 (by omega) (by omega)⟩
theorem lv_args_1 {ρ : Nat → List Nat} : ∀ {l : List MV} {vs : List Value} {k i : Nat} {v : MV}, srel ρ l vs → (∀ v ∈ l, mcat v = 1) → l[i]? = some v → ∃ w, (k + i, w) ∈ lv_args k vs ∧ vr ρ v w
  | [], _, _, _, _, _, _, h => by simp at h
  | u :: l, _, k, i, v, hs, hc, h => by
    obtain ⟨w, ws, rfl, h1, h2⟩ := hs
    have hw : w.category = 1 := by rw [vr_cat h1]; exact hc u List.mem_cons_self
    cases i with
    | zero => simp at h; subst h; exact ⟨w, by simp [lv_args], h1⟩
    | succ i =>
      simp at h
      obtain ⟨x, hx, hv⟩ := lv_args_1 (k := k + 1) h2 (fun v hv => hc v (List.mem_cons_of_mem _ hv)) h
      refine ⟨x, ?_, hv⟩
      unfold lv_args
      rw [if_neg (by omega)]
      refine List.mem_cons_of_mem _ ?_
      rw [show k + (i + 1) = k + 1 + i by omega]
      exact hx
theorem lg_len : ∀ {vs : List Value}, (∀ v ∈ vs, v.category = 1) → (lg_sl vs).length = vs.length
  | [], _ => rfl
  | v :: vs, h => by
    have h1 := h v List.mem_cons_self
    unfold lg_sl
    rw [List.flatMap_cons, List.length_append]
    have h2 := lg_len (vs := vs) (fun v hv => h v (List.mem_cons_of_mem _ hv))
    unfold lg_sl at h2
    rw [h2, if_neg (by omega)]
    simp
    omega
theorem srel_cat1 {ρ : Nat → List Nat} : ∀ {l : List MV} {vs : List Value}, srel ρ l vs → (∀ v ∈ l, mcat v = 1) → ∀ w ∈ vs, w.category = 1
  | [], _, h, _, w, hw => by rw [show _ = [] from h] at hw; cases hw
  | u :: l, _, hs, hc, w, hw => by
    obtain ⟨x, ws, rfl, h1, h2⟩ := hs
    rcases List.mem_cons.mp hw with rfl | hw
    · rw [vr_cat h1]; exact hc u List.mem_cons_self
    · exact srel_cat1 h2 (fun v hv => hc v (List.mem_cons_of_mem _ hv)) w hw
/-- the entry of a method -/
theorem ent_ok {y : Nat} {as : List MV} {fr : Fr} {r : MRow} {ρ : Nat → List Nat} {vs : List Value} (he : ent y as = some fr) (hr : mrow y = some r) (hs : srel ρ as vs) : fr.1 = y ∧ fr.2.1 = 0 ∧ fr.2.2.2 = [] ∧ ∀ m : MethodId, ∃ ls, entryFrame m vs.toArray r.2.2.1 = F0 m 0 ls [] ∧ lrel ρ ls fr.2.2.1 r.2.2.1 := by
  unfold ent at he
  rw [hr] at he
  simp only at he
  split at he
  · rename_i g
    cases he
    obtain ⟨g1, g2⟩ := g
    have hc : ∀ v ∈ as, mcat v = 1 := fun v hv => by simpa using List.all_eq_true.mp g2 v hv
    have hl : (lg_sl vs).length = vs.length := lg_len (srel_cat1 hs hc)
    have hvl : vs.length = as.length := srel_len hs
    refine ⟨rfl, rfl, rfl, fun m => ⟨_, lg_entry_eq m vs r.2.2.1, ?_⟩⟩
    have hh := lv_entry vs (n := r.2.2.1) (by rw [hl, hvl]; exact g1)
    refine ⟨hh.1, by simp; omega, hh.2.1, fun i v hv => ?_⟩
    have hv1 : as[i]? = some v := by
      unfold lget at hv
      by_cases hi : i < as.length
      · rw [List.getElem?_append_left (by simpa using hi), List.getElem?_map, List.getElem?_eq_getElem hi] at hv
        rw [List.getElem?_eq_getElem hi]
        exact hv
      · rw [List.getElem?_append_right (by simp; omega)] at hv
        cases hx : (List.replicate (r.2.2.1 - as.length) (none : Option MV))[i - (as.map some).length]? with
        | none => rw [hx] at hv; cases hv
        | some u =>
          rw [hx] at hv
          have := List.eq_of_mem_replicate (List.mem_of_getElem? hx)
          subst this
          cases hv
    obtain ⟨w, h1, h2⟩ := lv_args_1 (k := 0) hs hc hv1
    rw [Nat.zero_add] at h1
    exact ⟨w, hh.2.2 _ h1, h2⟩
  · cases he
end
section
section RT
variable {p : Program} {l : Launch} {e : Env} {R : Room} {s : State} {m : MethodId} {args : Array Value} {below : List Frame} {meth : Method} {c : Code} {H : Heap} {locs : List Loc} {cells slots : Nat}
variable {cc : ByteArray} {pc : Nat} {ls : Array Slot} {ρ : Nat → List Nat}
set_option maxHeartbeats 4000000 in
/-- a return -/
theorem ret_ok {rt : Option FieldType} (hx : p.tables.exec = Jvm.exec) (hb : c.code = cc) (hrt : meth.sig.returnType = rt) (hlk : meth.locks = false) {i : Instr} {len : Nat} (hd : decode cc pc = .ok (i, len)) {st1 : List MV} {v : Option MV} (hr : rst i len st1 rt = some v) {st2 : List Value} (hs : srel ρ st1 st2) {Qc : Array Value → State → Outcome → State → Prop} {free : Addr → Prop}
    (hq : ∀ (t : State) (w : Option Value), t.heap = H → s.WarmedH t.vm → vro ρ v w → Qc args s (.returned w) t) (hf : ∀ q ∈ locs, free q.base) : W p l e R s m args below meth c H locs cells slots (MQ below Qc args s cells slots free) (F0 m pc ls st2) := by
  cases i with
  | ireturn =>
    simp only [rst] at hr
    split at hr
    · split at hr
      · rename_i g
        cases hr
        obtain ⟨rfl, g⟩ := g
        obtain ⟨_, _, rfl, rfl, rfl⟩ := hs
        rcases g with rfl | ⟨rfl, g⟩ | ⟨rfl, g⟩
        · exact W.iret hx hb hrt (fun t a b => hq t _ a b ⟨_, rfl, rfl⟩) hf hd hlk
        · exact W.zret (ty := .boolean) hx hb hrt (congrArg Value.int g) (fun t a b => hq t _ a b ⟨_, rfl, rfl⟩) hf hd hlk
        · exact W.zret (ty := .char) hx hb hrt (congrArg Value.int g) (fun t a b => hq t _ a b ⟨_, rfl, rfl⟩) hf hd hlk
      · cases hr
    · cases hr
  | lreturn =>
    simp only [rst] at hr
    split at hr
    · split at hr
      · rename_i g
        cases hr
        obtain ⟨rfl, rfl⟩ := g
        obtain ⟨_, _, rfl, rfl, rfl⟩ := hs
        exact W.lret hx hb hrt (fun t a b => hq t _ a b ⟨_, rfl, rfl⟩) hf hd hlk
      · cases hr
    · cases hr
  | freturn =>
    simp only [rst] at hr
    split at hr
    · split at hr
      · rename_i g
        cases hr
        obtain ⟨rfl, rfl⟩ := g
        obtain ⟨_, _, rfl, rfl, rfl⟩ := hs
        exact W.fret hx hb hrt (fun t a b => hq t _ a b ⟨_, rfl, rfl⟩) hf hd hlk
      · cases hr
    · cases hr
  | dreturn =>
    simp only [rst] at hr
    split at hr
    · split at hr
      · rename_i g
        cases hr
        obtain ⟨rfl, rfl⟩ := g
        obtain ⟨_, _, rfl, rfl, rfl⟩ := hs
        exact W.dret hx hb hrt (fun t a b => hq t _ a b ⟨_, rfl, rfl⟩) hf hd hlk
      · cases hr
    · cases hr
  | areturn =>
    simp only [rst] at hr
    split at hr
    · rename_i q
      split at hr
      · rename_i g
        cases hr
        obtain ⟨rfl, g⟩ := g
        obtain ⟨w, _, rfl, hw, rfl⟩ := hs
        have hv : w = .null ∨ ∃ a, w = .ref a := (mkd_r hw rfl).2
        have hrt2 : ∃ t, rt = some t ∧ ((∃ n, t = .object n) ∨ ∃ u, t = .array u) := by
          unfold isRt at g
          split at g
          · exact ⟨_, rfl, Or.inl ⟨_, rfl⟩⟩
          · exact ⟨_, rfl, Or.inr ⟨_, rfl⟩⟩
          · cases g
        obtain ⟨t, rfl, ht⟩ := hrt2
        exact W.aret hx hb hrt ht hv (fun t a b => hq t _ a b ⟨_, rfl, hw⟩) hf hd hlk
      · cases hr
    · cases hr
  | return_ =>
    simp only [rst] at hr
    split at hr
    · split at hr
      · rename_i g
        cases hr
        obtain ⟨rfl, rfl⟩ := g
        obtain rfl : st2 = [] := hs
        exact W.vret hx hb hrt (fun t a b => hq t _ a b rfl) hf hd hlk
      · cases hr
    · cases hr
  | _ => simp [rst] at hr
end RT
theorem hnd_none {y pc E : Nat} {r : MRow} (hr : mrow y = some r) (h : hnd y pc E = some none) : r.2.2.2.2 = [] := by
  unfold hnd at h
  rw [hr] at h
  simp only at h
  split at h
  · assumption
  · split at h <;> cases h
set_option maxHeartbeats 4000000 in
/-- the contract of a callee, out of its run -/
theorem met_of {l : Launch} (htr : l.stackTraces = false) {n : Nat} (hP : PN l n) {d y : Nat} {as : List MV} {fr : Fr} {h h1 : Hp} {r1 : Re} {row : MRow} {ρ : Nat → List Nat} {β : Nat → Nat → Nat} {H : Heap} {vs : List Value} {base E0 : Nat} {D : va_G} (hrun : run d n fr h = some (r1, h1)) (he : ent y as = some fr) (hr : mrow y = some row) (hy : y < 216) (hs : srel ρ as vs) :
    vx_Met l row.1 (mword row :: WS) (rmU d (h1.2.1 - h.2.1) (h1.2.2 - h.2.2)) (PcU base E0 D ρ β h H vs) (QcU base E0 D ρ H r1 h1) (XcU base E0 D ρ H r1 h1) (h1.2.1 - h.2.1) (h1.2.2 - h.2.2) (fun q => base ≤ q) := by
  obtain ⟨f, hf, hw, hcls, ho, -, -, -, hin, -, hpl, -, -, -⟩ := mt_spec hr hy
  have hcost := run_cost hrun
  have body : ∀ p e s m args below meth c s₁, BodyLoose p l row.1 (headSpec (mword row :: WS) (rmU d (h1.2.1 - h.2.1) (h1.2.2 - h.2.2))) row.2.1 row.2.2.1 row.2.2.2.1 e s m args below meth c s₁ → c.maxLocals = row.2.2.1 → c.exceptionTable.toList = tableOf row.2.2.2.2 → PcU base E0 D ρ β h H vs args s →
      W p l e (headSpec (mword row :: WS) (rmU d (h1.2.1 - h.2.1) (h1.2.2 - h.2.2))).room s m args below meth c s.heap [] 0 0 (vx_MQ below (QcU base E0 D ρ H r1 h1) (XcU base E0 D ρ H r1 h1) args s (h1.2.1 - h.2.1) (h1.2.2 - h.2.2) (fun q => base ≤ q)) (entryFrame m args row.2.2.1) := by
    intro p e s m args below meth c s₁ B hml htab hPc
    obtain ⟨rfl, hH, hSim, hEnv⟩ := hPc
    subst hH
    have hts : ∀ w ∈ mword row :: WS, w.before vs.toArray s = true := atoms_spec B.pre
    have hCtx : Ctx y p s m vs.toArray meth c row.2.2.1 := ⟨row, hr, B.exec, B.bytes, hml, rfl, B.returns, by rw [← hcls]; exact findClass_of_methodNamed B.named, B.notSynchronized, (name_of_methodNamed B.named B.method).1, fun w hw => hts w (List.mem_cons_of_mem _ hw), htab⟩
    obtain ⟨e1, e2, e3, e4⟩ := ent_ok he hr hs
    obtain ⟨ls, e5, e6⟩ := e4 m
    rw [e5]
    have hS0 : va_S (fun q => base ≤ q) s.heap s.heap [] := va_S.rf
    have hnm : (mfct[fr.1]?).map (fun f => f.2.1) = some 1 → meth.name = "<init>" := by
      rw [e1, hf]
      intro z
      rw [(name_of_methodNamed B.named B.method).1]
      exact (hin (Option.some.inj z)).1
    have hRD : RmD d (headSpec (mword row :: WS) (rmU d (h1.2.1 - h.2.1) (h1.2.2 - h.2.2))).room := ⟨Nat.le_refl _, Nat.le_refl _⟩
    have hRm : Rm (headSpec (mword row :: WS) (rmU d (h1.2.1 - h.2.1) (h1.2.2 - h.2.2))).room := hRD.rm
    suffices K : W p l e (headSpec (mword row :: WS) (rmU d (h1.2.1 - h.2.1) (h1.2.2 - h.2.2))).room s m vs.toArray below meth c s.heap [] 0 0 (vx_MQ below (QcU base E0 D ρ s.heap r1 h1) (XcU base E0 D ρ s.heap r1 h1) vs.toArray s (h1.2.1 - h.2.1) (h1.2.2 - h.2.2) (fun q => base ≤ q)) (F0 m fr.2.1 ls []) by
      rw [e2] at K
      exact K
    refine hP d fr h r1 h1 hrun (β := β) (by rw [e1]; exact hCtx) hnm hRD hEnv hSim hS0 ?_ ?_ e6 (by rw [e3]; rfl) ?_
    · show 0 + h1.2.1 ≤ (h1.2.1 - h.2.1) + h.2.1
      omega
    · show 0 + h1.2.2 ≤ (h1.2.2 - h.2.2) + h.2.2
      omega
    · rw [e1]
      refine ⟨?_, ?_, ?_⟩
      · intro v i len pc1 st1 H1 locs1 ρ1 β1 ls2 st2 cells1 slots1 a1 a2 a3 a4 a5 a6 a7 a8 a9
        have c1 : cells1 = h1.2.1 - h.2.1 := by omega
        have c2 : slots1 = h1.2.2 - h.2.2 := by omega
        subst c1; subst c2
        rw [hr] at a3
        refine vx_ret (ret_ok B.exec B.bytes B.returns B.notSynchronized (dec_inv hr a2) a3 a7 (fun t w b1 b2 b3 => ?_) a6.2.2)
        exact ⟨v, w, ρ1, β1, a1, rfl, b3, a4, by rw [b1]; exact a5.moved b2.alike, by rw [b1]; exact a6.1, fun q q1 q2 => by rw [b1]; exact a6.2.1 q q1 q2⟩
      · intro E pc1 hx H1 locs1 ρ1 β1 ls2 cells1 slots1 a1 a2 a3 a4 a5 a6 a7 a8 a9
        have c0 : h1.2.1 = hx.2.1 + 1 ∧ h1.2.2 = hx.2.2 + 6 := by rw [a3]; exact ⟨rfl, rfl⟩
        refine thr_ok htr hCtx hRm hEnv a6 a2 a7 ?_ ?_ ?_ ?_ ?_
        · show cells1 + 1 ≤ h1.2.1 - h.2.1
          omega
        · show slots1 + 6 ≤ h1.2.2 - h.2.2
          omega
        · omega
        · omega
        · intro t b1 b2 b3
          refine ⟨E, ρ1, β1, a1, rfl, a4, ?_, Nat.le_trans a6.1 b2, fun q q1 q2 => (b3 q (Nat.lt_of_lt_of_le q1 a6.1)).trans (a6.2.1 q q1 q2)⟩
          rw [a3]
          exact ((a5.grown b2 b3).moved b1).cost 1 6
      · intro E pc1 H1 locs1 ρ1 β1 ls2 rest q ce cells1 slots1 a1 a2 a3 a4 a5 a6 a7 a8 a9 a10
        have hh := hnd_none hr a2
        refine vx_out (fun x hx => ?_) B.notSynchronized a6 a7 a8 (fun t b1 b2 => ?_) a5.2.2 (by omega) (by omega)
        · rw [htab, hh] at hx
          simp [tableOf] at hx
        · exact ⟨E, ρ1, β1, a1, rfl, a3, by rw [b1]; exact a4.moved b2, by rw [b1]; exact a5.1, fun q q1 q2 => by rw [b1]; exact a5.2.1 q q1 q2⟩
  obtain ⟨nm, bytes, maxL, ret, hh⟩ := row
  cases hh with
  | nil =>
    refine vx_ofW (cc := bytes) (maxL := maxL) (ret := ret) (ws' := WS) hpl rfl ?_
    intro p e s m args below meth c s₁ B hml hx hPc
    refine body p e s m args below meth c s₁ B hml ?_ hPc
    cases hl : c.exceptionTable.toList with
    | nil => rfl
    | cons x t => exact (hx x (by rw [hl]; exact List.mem_cons_self)).elim
  | cons x t =>
    refine vx_ofWH (cc := bytes) (maxL := maxL) (ret := ret) (hh := x :: t) (ws' := WS) hpl rfl ?_
    intro p e s m args below meth c s₁ B hml hPc
    refine body p e s m args below meth c s₁ B hml ?_ hPc
    exact vx_table (x := nm) B (atoms_spec (ws := mword (nm, bytes, maxL, ret, x :: t) :: WS) B.pre _ List.mem_cons_self)
end
section
/-! the main theorem: every run of the small machine is the JVM's -/
theorem cst_inv {y : Nat} {i : Instr} {len pc : Nat} {L : Lo} {st : List MV} {h : Hp} {z} (hh : cst y i len pc L st h = some z) : ∃ kd idx y2 f as rest, ml (mcl y) idx = some y2 ∧ mfct[y2]? = some f ∧ len = 3 ∧ f.2.1 = kd ∧ ent y2 as = some z.1 ∧ z.2 = (y, pc, L, rest) ∧ (rest.map mcat).sum ≤ 8 ∧
    ((kd = 0 ∧ i = .invokestatic idx ∧ st = as.reverse ++ rest ∧ as.length = f.2.2.2.2.2) ∨ (∃ (q : Nat × Nat) (bs : List MV), as = vR q.1 q.2 :: bs ∧ st = bs.reverse ++ vR q.1 q.2 :: rest ∧ bs.length = f.2.2.2.2.2 ∧ sk q.1 = (0, mcl y2) ∧ (hget h q.1 q.2).isSome = true ∧ ((kd = 1 ∧ i = .invokespecial idx) ∨ (kd = 2 ∧ i = .invokevirtual idx)))) := by
  unfold cst at hh
  split at hh
  · rename_i kd idx hki
    split at hh
    · rename_i y2 hy2
      split at hh
      · rename_i f hf
        split at hh
        · rename_i g
          obtain ⟨rfl, g2, g3⟩ := g
          have hlt : (st.take f.2.2.2.2.2).length = f.2.2.2.2.2 := by rw [List.length_take]; omega
          split at hh
          · rename_i k0
            split at hh
            · rename_i g4
              obtain ⟨fr, h1, rfl⟩ := omap_inv hh
              refine ⟨kd, idx, y2, f, (st.take f.2.2.2.2.2).reverse, st.drop f.2.2.2.2.2, hy2, hf, rfl, g2, h1, rfl, g4, Or.inl ⟨k0, ?_, ?_, ?_⟩⟩
              · subst k0
                split at hki <;> cases hki
                rfl
              · rw [List.reverse_reverse, List.take_append_drop]
              · rw [List.length_reverse]; exact hlt
            · cases hh
          · rename_i k0
            split at hh
            · rename_i q rest hdr
              split at hh
              · rename_i g4
                obtain ⟨fr, h1, rfl⟩ := omap_inv hh
                refine ⟨kd, idx, y2, f, _, rest, hy2, hf, rfl, g2, h1, rfl, g4.1, Or.inr ⟨q, _, rfl, ?_, ?_, g4.2.1, g4.2.2, ?_⟩⟩
                · rw [List.reverse_reverse]
                  have e := List.take_append_drop f.2.2.2.2.2 st
                  rw [hdr] at e
                  exact e.symm
                · rw [List.length_reverse]; exact hlt
                · split at hki <;> cases hki
                  · exact absurd rfl k0
                  · exact Or.inl ⟨rfl, rfl⟩
                  · exact Or.inr ⟨rfl, rfl⟩
              · cases hh
            · cases hh
        · cases hh
      · cases hh
    · cases hh
  · cases hh
theorem hnd_some {y pc E t : Nat} {r : MRow} (hr : mrow y = some r) (h : hnd y pc E = some (some t)) : ∃ pre x suf, r.2.2.2.2 = pre ++ x :: suf ∧ (∀ z ∈ pre, (decide (z.1 ≤ pc) && decide (pc < z.2.1) && decide (exl (mcl y) z.2.2.2 = some E)) = false) ∧ (x.1 ≤ pc ∧ pc < x.2.1 ∧ exl (mcl y) x.2.2.2 = some E) ∧ t = x.2.2.1 := by
  unfold hnd at h
  rw [hr] at h
  simp only at h
  split at h
  · cases h
  · split at h
    · rename_i hh _ q hq
      cases h
      obtain ⟨hp, as, bs, he, hn⟩ := List.find?_eq_some_iff_append.mp hq
      simp only [Bool.and_eq_true, decide_eq_true_eq] at hp
      exact ⟨as, q, bs, he, fun z hz => by have := hn z hz; rw [Bool.not_eq_true'] at this; exact this, ⟨hp.1.1, hp.1.2, hp.2⟩, rfl⟩
    · cases h
theorem hh_spec {y : Nat} {r : MRow} (hr : mrow y = some r) {x : Nat × Nat × Nat × Nat} (hx : x ∈ r.2.2.2.2) : (∃ E, exl (mcl y) x.2.2.2 = some E) ∧ x.2.2.2 ≠ 0 := by
  have hr' : mtab[y]? = some r := hr
  have l1 : y < mclt.length := by
    have := sz_lt hr'
    rw [mt_len.2.1]
    rw [mt_len.1] at this
    exact this
  have ho : mclt[y]? = some (mcl y) := by
    unfold mcl
    rw [List.getD_eq_getElem?_getD, List.getElem?_eq_getElem l1]
    rfl
  have hz : (mtab.zip mclt)[y]? = some (r, mcl y) := List.getElem?_zip_eq_some.mpr ⟨hr', ho⟩
  have h1 := List.all_eq_true.mp hh_ok _ (List.mem_of_getElem? hz)
  have h2 := List.all_eq_true.mp h1 _ hx
  simp only [Bool.and_eq_true, decide_eq_true_eq] at h2
  exact ⟨Option.isSome_iff_exists.mp h2.1, h2.2⟩
theorem tab_hh : ((mtab.zip mfct).take 216).all (fun q => decide (q.2.2.1 = 0) || q.1.2.2.2.2.isEmpty) = true := by decide +kernel
theorem hh_nil {y : Nat} {r : MRow} {f : Nat × Nat × Nat × Nat × Nat × Nat} (hr : mrow y = some r) (hf : mfct[y]? = some f) (hy : y < 216) (h0 : f.2.1 ≠ 0) : r.2.2.2.2 = [] := by
  have hz : (mtab.zip mfct)[y]? = some (r, f) := List.getElem?_zip_eq_some.mpr ⟨hr, hf⟩
  have hz2 : ((mtab.zip mfct).take 216)[y]? = some (r, f) := by rw [List.getElem?_take_of_lt hy]; exact hz
  have h1 := List.all_eq_true.mp tab_hh _ (List.mem_of_getElem? hz2)
  simp only [Bool.or_eq_true, decide_eq_true_eq] at h1
  exact List.isEmpty_iff.mp (h1.resolve_left h0)
theorem PcU_blind {base E0 : Nat} {D : va_G} {ρ : Nat → List Nat} {β : Nat → Nat → Nat} {h : Hp} {H : Heap} {vs : List Value} : FrameBlind (PcU base E0 D ρ β h H vs) := by
  intro a U g mk q
  obtain ⟨q1, q2, q3, q4⟩ := q
  exact ⟨q1, q2, Sim.moved (u := U) (U := U.calling g mk a) (Vm.Alike.refl U.vm) q3, EnvW.moved (u := U) (U := U.calling g mk a) (State.WarmedH.refl U) q4⟩
section CL
variable {p : Program} {l : Launch} {e : Env} {R : Room} {s : State} {m : MethodId} {args : Array Value} {below : List Frame} {meth : Method} {c : Code} {H : Heap} {locs : List Loc} {cells slots : Nat}
variable {pc : Nat} {ls : Array Slot} {st' : List Value} {ρ : Nat → List Nat} {β : Nat → Nat → Nat} {nL base E0 : Nat} {L : Lo} {st : List MV} {h : Hp} {D : va_G}
set_option maxHeartbeats 4000000 in
/-- a call, up to what comes back -/
theorem call_ok (htr : l.stackTraces = false) {n : Nat} (hP : PN l n) {y : Nat} (C0 : Ctx y p s m args meth c nL) {d : Nat} (hRD : RmD (d + 1) R) (hE : EnvW base E0 s s.heap) (S : Sim base E0 D ρ β h s H) (hS : va_S (fun q => base ≤ q) s.heap H locs) {i : Instr} {len : Nat} (hd : dec y pc = some (i, len)) (hl : lrel ρ ls L nL) (hs : srel ρ st st') {z : Fr × (Nat × Nat × Lo × List MV)} (hc : cst y i len pc L st h = some z) {r1 : Re} {h1 : Hp} (hrun : run d n z.1 h = some (r1, h1)) (hc1 : cells + h1.2.1 ≤ R.cells + h.2.1) (hc2 : slots + h1.2.2 ≤ R.slots + h.2.2) :
    ∃ (rest : List MV) (rest' : List Value) (a9 : Array Value), z.2 = (y, pc, L, rest) ∧ srel ρ rest rest' ∧ vx_Run p l e R s m args below meth c H locs cells slots (h1.2.1 - h.2.1) (h1.2.2 - h.2.2) (F0 m pc ls st') rest' (QcU base E0 D ρ H r1 h1 a9) (XcU base E0 D ρ H r1 h1) (fun q => base ≤ q) := by
  obtain ⟨kd, idx, y2, f, as, rest, hml2, hf, rfl, hk, he, hz, hcat, hcase⟩ := cst_inv hc
  have hy2 := ml_lt hml2
  have hcost := run_cost hrun
  obtain ⟨row, hr, hx, hb, hml, hnl, hret, hown, hlk, hname, hts, htab⟩ := C0
  have hl2 : y2 < mtab.length := by rw [mt_len.1]; omega
  obtain ⟨row2, hr2⟩ : ∃ r, mrow y2 = some r := ⟨_, List.getElem?_eq_getElem hl2⟩
  obtain ⟨f', hf', hw2, hcls2, ho2, hkd2, hini2, hsel2, hin2, hdesc2, hpl2, hkle, hmx2, hmh2⟩ := mt_spec hr2 hy2
  cases hf.symm.trans hf'
  have hlink := ml_spec hml2 hr2
  have hd' := dec_inv hr hd
  have hsz : (F0 m pc ls st').locals.size = nL := hl.1
  have hfix : CallFix p m c row.2.1 nL s args WS (cnm (mcl y)) := ⟨hx, hb, hml, hown, hts⟩
  have hwarm : ∀ w ∈ mword row2 :: WS, ∀ (a' : Array Value) (U : State), s.WarmedH U.vm → w.before a' U = true := fun w hw a' U hW => by
    have hw' : w ∈ WS := by
      rcases List.mem_cons.mp hw with rfl | h9
      · exact hw2
      · exact h9
    exact word_at hW (WS_good w hw') (hts w hw')
  have hEH : EnvW base E0 s H := hE.kept hS.2.1
  have hpre : ∀ (vs : List Value) (U : State), U.heap = H → s.WarmedH U.vm → PcU base E0 D ρ β h H vs vs.toArray U := fun vs U hU hW => ⟨rfl, hU, by rw [hU]; exact S.moved hW.alike, by rw [hU]; exact hEH.moved hW⟩
  have hrf : (rmU d (h1.2.1 - h.2.1) (h1.2.2 - h.2.2)).frames + 1 ≤ R.frames := by have := hRD.1; show 14 + d + 1 ≤ _; omega
  have hrl : 8 + (row2.2.2.1 + 11) + (rmU d (h1.2.1 - h.2.1) (h1.2.2 - h.2.2)).locals ≤ R.locals := by have := hRD.2; show 8 + (row2.2.2.1 + 11) + (900 + 60 * d) ≤ _; omega
  have hroom : cells + (h1.2.1 - h.2.1) ≤ R.cells ∧ slots + (h1.2.2 - h.2.2) ≤ R.slots := ⟨by omega, by omega⟩
  have hsig : ∀ sig, parseMethodDescriptor row2.1.desc = some sig → f.2.2.2.2.2 = sig.parameters.length := fun sig h9 => by
    rw [h9] at hdesc2
    exact (Option.some.inj hdesc2).symm
  have hcode : ∀ (hh : row2.2.2.2.2 = []), mword row2 = Cond.code row2.1 row2.2.1 row2.2.2.1 row2.2.2.2.1 := fun hh => by
    obtain ⟨a, b, c, d, hh'⟩ := row2
    dsimp only at hh
    subst hh
    rfl
  have hB : ∀ (hh : row2.2.2.2.2 = []), CallB R s args (cnm (mcl y)) idx row2.1 row2.2.1 row2.2.2.1 row2.2.2.2.1 (mword row2 :: WS) (rmU d (h1.2.1 - h.2.1) (h1.2.2 - h.2.2)) (h1.2.1 - h.2.1) (h1.2.2 - h.2.2) f.2.2.2.2.2 := fun hh =>
    ⟨rfl, rfl, hrf, hrl, hwarm, by rw [← hcode hh]; exact List.mem_cons_self, by rw [← hcode hh]; exact hts _ hw2, hts _ hini2, hmh2, hsig, hts _ hlink⟩
  rcases hcase with ⟨k0, rfl, rfl, hlen⟩ | ⟨q, bs, rfl, rfl, hlen, hsk, hal, hki⟩
  · -- static
    rw [hk] at hkd2
    rw [if_pos k0] at hkd2
    have hsp := srel_take as.reverse.length hs
    rw [List.take_left' rfl, List.drop_left' rfl] at hsp
    obtain ⟨hs1, hs2⟩ := hsp
    obtain ⟨A, B, rfl, hA, hBl⟩ : ∃ A B, st' = A ++ B ∧ srel ρ as.reverse A ∧ srel ρ rest B := ⟨_, _, (List.take_append_drop as.reverse.length st').symm, hs1, hs2⟩
    have hvs : srel ρ as A.reverse := by
      have := srel_rev hA
      rw [List.reverse_reverse] at this
      exact this
    have hM := met_of (β := β) (H := H) (base := base) (E0 := E0) (D := D) htr hP hrun he hr2 hy2 hvs
    have hstack : (F0 m pc ls (A ++ B)).stack = A.reverse.reverse ++ B := by rw [List.reverse_reverse]
    have hlenA : A.reverse.length = f.2.2.2.2.2 := by rw [srel_len hvs]; exact hlen
    have hcB : 2 * (F0 m pc ls (A ++ B)).monitorRoom + (B.map fun v => v.category).sum ≤ 8 := lv_room (by rw [srel_cat hBl]; exact hcat)
    refine ⟨rest, B, A.reverse.toArray, hz, hBl, ?_⟩
    cases hh : row2.2.2.2.2 with
    | nil => exact vx_runS hfix hM ⟨hB hh, hts _ hkd2⟩ ⟨PcU_blind, hpre _⟩ rfl hlenA hsz hstack hcB hd' hroom
    | cons x t =>
      have hcw : mword row2 = Cond.codeWith row2.1 row2.2.1 row2.2.2.1 row2.2.2.2.1 (x :: t) := by
        obtain ⟨a, b, c, d, hh'⟩ := row2
        dsimp only at hh
        subst hh
        rfl
      exact vx_runSX (hh := x :: t) (bytes := row2.2.1) (maxL := row2.2.2.1) (ret := row2.2.2.2.1) hfix hM ⟨⟨rfl, rfl, hrf, hrl, hwarm, by rw [← hcw]; exact List.mem_cons_self⟩, by rw [← hcw]; exact hts _ hw2, hts _ hini2, hmh2, hsig, hts _ hlink, hts _ hkd2⟩ ⟨PcU_blind, hpre _⟩ rfl hlenA hsz hstack hcB hd' hroom
  · have hk0 : f.2.1 ≠ 0 := by rcases hki with ⟨e, -⟩ | ⟨e, -⟩ <;> omega
    have hh := hh_nil hr2 hf hy2 hk0
    rw [if_neg hk0] at hkd2
    have hsp := srel_take bs.reverse.length hs
    rw [List.take_left' rfl, List.drop_left' rfl] at hsp
    obtain ⟨hs1, hs2⟩ := hsp
    obtain ⟨A, B, rfl, hA, hBl⟩ : ∃ A B, st' = A ++ B ∧ srel ρ bs.reverse A ∧ srel ρ (vR q.1 q.2 :: rest) B := ⟨_, _, (List.take_append_drop bs.reverse.length st').symm, hs1, hs2⟩
    obtain ⟨w, B, rfl, hw, hB2⟩ := hBl
    obtain ⟨ob, hg⟩ := Option.isSome_iff_exists.mp hal
    obtain ⟨a, vs0, ha, hba, hlen0, hsr, hat⟩ := obj_at S hg hsk
    obtain rfl := vr_ref ha hw
    have hvs : srel ρ (vR q.1 q.2 :: bs) (.ref a :: A.reverse) := by
      have := srel_rev hA
      rw [List.reverse_reverse] at this
      exact ⟨_, _, rfl, hw, this⟩
    have hM := met_of (β := β) (H := H) (base := base) (E0 := E0) (D := D) htr hP hrun he hr2 hy2 hvs
    have hstack : (F0 m pc ls (A ++ .ref a :: B)).stack = A.reverse.reverse ++ .ref a :: B := by rw [List.reverse_reverse]
    have hlenA : A.reverse.length = f.2.2.2.2.2 := by
      rw [List.length_reverse, srel_len hA, List.length_reverse]
      exact hlen
    have hcB : 2 * (F0 m pc ls (A ++ .ref a :: B)).monitorRoom + (B.map fun v => v.category).sum ≤ 8 := lv_room (by rw [srel_cat hB2]; exact hcat)
    refine ⟨rest, B, (Value.ref a :: A.reverse).toArray, hz, hB2, ?_⟩
    rcases hki with ⟨e1, rfl⟩ | ⟨e2, rfl⟩
    · obtain ⟨hi1, hi2⟩ := hin2 (hk.trans e1)
      have hB' := hB hh
      rw [hi2] at hB'
      exact vx_runI hfix hM ⟨hB', hi1, hts _ hkd2⟩ ⟨PcU_blind, hpre _⟩ rfl hlenA hsz hstack hcB hd' hroom
    · have hsel := hts _ (hsel2 (hk.trans e2))
      have hrecv : ∃ cellB : Cell, H[a]? = some cellB ∧ cellB.vm.isStatics = false ∧ s.vm.findClass row2.1.cls = some cellB.cls := by
        obtain ⟨rr, x1, cell, x2, x3, x4, -⟩ := hat
        have hk10 : mcl y2 < 10 := by
          have h9 : ∀ u ∈ sktab, u.1 = 0 → u.2 < 10 := by decide
          have hsk2 := hsk
          unfold sk at hsk2
          rw [List.getD_eq_getElem?_getD] at hsk2
          cases hx9 : sktab[q.1]? with
          | none => rw [hx9] at hsk2; simp at hsk2
          | some u =>
            rw [hx9] at hsk2
            have hu : u = (0, mcl y2) := hsk2
            have := h9 u (List.mem_of_getElem? hx9) (by rw [hu])
            rw [hu] at this
            exact this
        obtain ⟨cq, g1, -, -, g4, -⟩ := vcl_at (ci := mcl y2) (by omega)
        cases Option.some.inj (x1.symm.trans g1)
        have hkn := S.1.1 (mcl y2) _ g1
        refine ⟨cell, x2, by rw [x4]; rfl, ?_⟩
        rw [hcls2, ← g4 hk10, x3]
        exact hkn.2.1
      exact vx_runV (C := row2.1.cls) hfix hM ⟨hB hh, hts _ hkd2, hsel⟩ ⟨PcU_blind, hrecv, hpre _⟩ rfl hlenA hsz hstack hcB hd' hroom
end CL
theorem Sim.opq {base E0 : Nat} {D : va_G} {ρ : Nat → List Nat} {β : Nat → Nat → Nat} {h : Hp} {U : State} {H : Heap} (S : Sim base E0 D ρ β h U H) (q c n : Nat) : Sim base E0 D (radds ρ sX [q]) β (hnew h sX [[]] c n) U H := by
  have hsk : sk sX = (3, 0) := rfl
  obtain ⟨k1, k2, k3, k4, k5, k6, k7, k8⟩ := S
  have old : ∀ (s i a : Nat), (sk s).1 < 3 → (radds ρ sX [q] s)[i]? = some a → (ρ s)[i]? = some a := fun s i a hs ha => by
    rcases radds_inv ha with z | ⟨z, -, -⟩
    · exact z
    · subst z; rw [hsk] at hs; exact absurd hs (by simp)
  have hl : ∀ s : Nat, sk s = (2, 0) → radds ρ sX [q] s = ρ s := fun s hs => if_neg (fun z => by subst z; rw [hsk] at hs; cases hs)
  refine ⟨k1, fun s => ?_, fun s i s' i' a hs hs' x y => k3 s i s' i' a hs hs' (old _ _ _ hs x) (old _ _ _ hs' y), fun s i s' i' a hs hi hb hs' y => k4 s i s' i' a hs (by rw [hl s hs] at hi; exact hi) hb hs' (old _ _ _ hs' y), fun s i s' i' hs hs' hi hi' => k5 s i s' i' hs hs' (by rw [hl s hs] at hi; exact hi) (by rw [hl s' hs'] at hi'; exact hi'), k6, k7, fun s i ob a x y => ?_⟩
  · show _ = (if s = sX then h.1 sX ++ [[]] else h.1 s).length
    unfold radds
    split
    · rw [List.length_append, List.length_append, k2 sX]; rfl
    · exact k2 s
  · by_cases e : s = sX
    · subst e
      unfold ob_at
      rw [hsk]
      trivial
    · have x' : hget h s i = some ob := by
        have x2 : (if s = sX then h.1 sX ++ [[]] else h.1 s)[i]? = some ob := x
        rw [if_neg e] at x2
        exact x2
      have y' : (ρ s)[i]? = some a := by
        unfold radds at y
        rw [if_neg e] at y
        exact y
      exact (k8 s i ob a x' y').keep radds_ext (fun _ => rfl) (fun _ => ⟨rfl, fun _ => rfl⟩)
set_option maxHeartbeats 8000000 in
theorem run_ok {l : Launch} (htr : l.stackTraces = false) (hL : LstOK l) : ∀ n, PN l n
  | 0 => by
    intro d fr h r h' hrun
    unfold run at hrun
    cases hrun
  | n + 1 => by
    have IH := run_ok htr hL n
    intro d fr h r h' hrun p e R s m args below meth c H locs cells slots Q ls st' ρ β nL base E0 D C0 hnm hRD hE S hS hc1 hc2 hl hs hEnd
    have hR := hRD.rm
    obtain ⟨y, pc, L, st⟩ := fr
    dsimp only at C0 hnm hl hs hEnd ⊢
    have C1 := C0
    obtain ⟨row, hr, hx, hb, hml, hnl, hret, hown, hlk, hname, hts, htab⟩ := C0
    unfold run at hrun
    split at hrun
    · cases hrun
    · rename_i q hq
      cases hrun
      obtain ⟨i, len, hd, h1 | ⟨-, h1 | h1 | h1 | h1 | h1⟩⟩ := stp_inv hq
      · obtain ⟨E, g1, g2, g3⟩ := h1
        cases g3
        dsimp only at g1 g2
        subst g2
        obtain rfl : st' = [] := hs
        exact hEnd.2.1 E pc h H locs ρ β ls cells slots rfl g1 rfl Ext.rf S hS hl.1 rfl rfl
      · obtain ⟨z, -, g⟩ := h1; cases g
      · obtain ⟨z, -, g⟩ := h1; cases g
      · obtain ⟨z, -, g⟩ := h1; cases g
      · obtain ⟨v, g1, g2⟩ := h1
        cases g2
        exact hEnd.1 v i len pc st H locs ρ β ls st' cells slots rfl hd g1 Ext.rf S hS hs rfl rfl
      · obtain ⟨z, -, g⟩ := h1; cases g
    · rename_i w hq
      obtain ⟨i, len, hd, h1 | ⟨-, h1 | h1 | h1 | h1 | h1⟩⟩ := stp_inv hq
      · obtain ⟨E, -, -, g⟩ := h1; cases g
      · obtain ⟨z, g1, g2⟩ := h1
        cases g2
        refine pin_ok hx hb S.2.2.1 g1 (dec_inv hr hd) hl hs fun ls2 st2 k1 k2 => ?_
        exact IH d _ _ _ _ hrun C1 hnm hRD hE S hS hc1 hc2 k1 k2 hEnd
      · obtain ⟨z, g1, g2⟩ := h1
        cases g2
        have hcst := run_cost hrun
        dsimp only at hcst
        by_cases hv : ∃ idx, i = .invokevirtual idx
        · obtain ⟨idx, rfl⟩ := hv
          refine hL (z := (z.1, z.2.1, z.2.2, h)) C1 hR hE S hS ?_ ?_ hd hl hs (Or.inl ⟨idx, z, rfl, g1, rfl⟩) ?_
          · show cells + h.2.1 ≤ _
            omega
          · show slots + h.2.2 ≤ _
            omega
          · intro H1 locs1 ρ1 β1 ls2 st2 cells1 slots1 k1 k2 k3 k4 k5 k6 k7
            have e1 : cells1 = cells := by dsimp only at k6; omega
            have e2 : slots1 = slots := by dsimp only at k7; omega
            subst e1; subst e2
            exact IH d _ _ _ _ hrun C1 hnm hRD hE k2 k3 hc1 hc2 k4 k5 (hEnd.step k1 rfl rfl)
        · refine hrd_ok C1 hR ⟨by omega, by omega⟩ S (fun idx z => hv ⟨idx, z⟩) g1 hd hl hs fun st2 k1 k2 => ?_
          exact IH d _ _ _ _ hrun C1 hnm hRD hE S hS hc1 hc2 (by dsimp only; rw [k1]; exact hl) k2 hEnd
      · obtain ⟨z, g1, g2⟩ := h1
        cases g2
        have hcst := run_cost hrun
        refine hwr_ok hL C1 hnm hR hE S hS ?_ ?_ g1 hd hl hs ?_
        · have := hcst.1
          dsimp only at this
          omega
        · have := hcst.2
          dsimp only at this
          omega
        · intro H1 locs1 ρ1 β1 ls2 st2 cells1 slots1 k1 k2 k3 k4 k5 k6 k7
          exact IH d _ _ _ _ hrun C1 hnm hRD hE k2 k3 (by dsimp only; omega) (by dsimp only; omega) k4 k5 (hEnd.step k1 k6 k7)
      · obtain ⟨v, -, g⟩ := h1; cases g
      · obtain ⟨z, -, g⟩ := h1; cases g
    · rename_i w hq
      obtain ⟨i, len, hd, h1 | ⟨-, h1 | h1 | h1 | h1 | h1⟩⟩ := stp_inv hq
      · obtain ⟨E, -, -, g⟩ := h1; cases g
      · obtain ⟨z, -, g⟩ := h1; cases g
      · obtain ⟨z, -, g⟩ := h1; cases g
      · obtain ⟨z, -, g⟩ := h1; cases g
      · obtain ⟨v, -, g⟩ := h1; cases g
      · obtain ⟨z, g1, g2⟩ := h1
        cases g2
        split at hrun
        · cases hrun
        · rename_i d'
          split at hrun
          · cases hrun
          · rename_i r1 hr1
            have hcst1 := run_cost (r := r1.1) (h' := r1.2) hr1
            have hroom : cells + r1.2.2.1 ≤ R.cells + h.2.1 ∧ slots + r1.2.2.2 ≤ R.slots + h.2.2 := by
              split at hrun
              · cases hrun
              · rename_i x hx9
                cases hrun
                have := (aft_cost hx9).1 _ rfl
                dsimp only at this
                rw [← this]
                exact ⟨hc1, hc2⟩
              · rename_i x hx9
                have h3 := (aft_cost hx9).2 _ rfl
                have h4 := run_cost hrun
                rw [h3] at h4
                exact ⟨by omega, by omega⟩
            obtain ⟨rest, rest', a9, hz2, hB2, hR9⟩ := call_ok htr IH C1 hRD hE S hS hd hl hs g1 (r1 := r1.1) (h1 := r1.2) hr1 hroom.1 hroom.2
            intro T hT X
            have mkS : ∀ {L' : List Loc} {t T' : State}, (∀ q ∈ L', base ≤ q.base) → T'.heap = t.heap → kpt base H t → va_S (fun q => base ≤ q) s.heap T'.heap (locs ++ L') := by
              intro L' t T' hL' e1 hk
              refine ⟨by rw [e1]; exact Nat.le_trans hS.1 hk.1, fun q q1 q2 => by rw [e1]; exact (hk.2 q (Nat.lt_of_lt_of_le q1 hS.1) q2).trans (hS.2.1 q q1 q2), fun q hq => ?_⟩
              rcases List.mem_append.mp hq with h9 | h9
              · exact hS.2.2 q h9
              · exact hL' q h9
            rcases hR9 T hT X with ⟨v, st₀, t, T', L', h0, X', hL', e1, e2, hq9, st⟩ | ⟨q, st₀, t, T', L', E', ce, h0, X', hL', e1, e2, hx9, hce, hcv, hcl, st9⟩
            · obtain ⟨v1, w1, ρ1, β1, b1, b2, b3, b4, b5, b6⟩ := hq9
              cases b2
              rw [b1, hz2] at hrun
              have S1 : Sim base E0 D ρ1 β1 r1.2 s T'.heap := by
                rw [e1]
                exact b5.moved (by rw [← e2]; exact X'.warmed.alike.symm)
              simp only [aft] at hrun
              obtain ⟨t2, c1, c2⟩ := IH (d' + 1) _ _ _ _ hrun (st' := v.toList ++ rest') C1 hnm hRD hE S1 (mkS hL' e1 b6) (cells := cells + (r1.2.2.1 - h.2.1)) (slots := slots + (r1.2.2.2 - h.2.2)) (by omega) (by omega) (lrel_mono b4 hl) (srel_app (vro_list b3) (srel_mono b4 hB2)) (hEnd.step b4 (by omega) (by omega)) T' rfl X'
              exact ⟨t2, st t2 c1, c2⟩
            · obtain ⟨E, ρ1, β1, b1, b2, b4, b5, b6⟩ := hx9
              subst b2
              have S1 : Sim base E0 D ρ1 β1 r1.2 s T'.heap := by
                rw [e1]
                exact b5.moved (by rw [← e2]; exact X'.warmed.alike.symm)
              have hce' : T'.heap[q]? = some ce := by rw [e1]; exact hce
              rw [b1, hz2] at hrun
              simp only [aft] at hrun
              cases hh9 : hnd y pc E with
              | none => rw [hh9] at hrun; cases hrun
              | some o =>
                rw [hh9] at hrun
                cases o with
                | none =>
                  cases hrun
                  obtain ⟨t2, c1, c2⟩ := hEnd.2.2 E pc T'.heap (locs ++ L') ρ1 β1 ls rest' q ce (cells + (r1.2.2.1 - h.2.1)) (slots + (r1.2.2.2 - h.2.2)) rfl hh9 b4 S1 (mkS hL' e1 b6) hce' hcv hcl (by omega) (by omega) T' rfl X'
                  exact ⟨t2, st9.trans c1, c2⟩
                | some tg =>
                  dsimp only at hrun
                  obtain ⟨pre, x, suf, f1, f2, f3, rfl⟩ := hnd_some hr hh9
                  have S2 := S1.opq q 0 0
                  have E2 : Ext ρ (radds ρ1 sX [q]) := b4.tr radds_ext
                  have K : W p l e R s m args below meth c T'.heap (locs ++ L') (cells + (r1.2.2.1 - h.2.1)) (slots + (r1.2.2.2 - h.2.2)) Q (F0 m x.2.2.1 ls [.ref q]) := by
                    refine IH (d' + 1) _ _ _ _ hrun C1 hnm hRD hE S2 (mkS hL' e1 b6) ?_ ?_ (lrel_mono E2 hl) ⟨_, [], rfl, ⟨q, ?_, rfl⟩, rfl⟩ (hEnd.step E2 ?_ ?_)
                    · show cells + (r1.2.2.1 - h.2.1) + h'.2.1 ≤ R.cells + (r1.2.2.1 + 0)
                      have := run_cost hrun
                      omega
                    · show slots + (r1.2.2.2 - h.2.2) + h'.2.2 ≤ R.slots + (r1.2.2.2 + 0)
                      omega
                    · unfold radds
                      rw [if_pos rfl, List.getElem?_append_right (by rw [S1.2.1 sX]; exact Nat.le_refl _), S1.2.1 sX]
                      simp
                    · show cells + (r1.2.2.1 - h.2.1) + h.2.1 = cells + (r1.2.2.1 + 0)
                      omega
                    · show slots + (r1.2.2.2 - h.2.2) + h.2.2 = slots + (r1.2.2.2 + 0)
                      omega
                  obtain ⟨hl1, hl6⟩ := exl_spec f3.2.2
                  have hx0 := hh_spec hr (x := x) (by rw [f1]; simp)
                  have hcast : (Cond.castable (exnm E) (exnm E)).before args s = true := by
                    have h1 := List.all_eq_true.mp cast_ok E (List.mem_range.mpr hl6)
                    exact va_Nw.use rfl (hE.2.2.2.2.2.2.2.2.2 _ (by simpa using h1) rfl)
                  have KX : vx_W p l e R s m args below meth c T'.heap (locs ++ L') (cells + (r1.2.2.1 - h.2.1)) (slots + (r1.2.2.2 - h.2.2)) Q (F0 m pc ls rest') q := by
                    refine vx_catch hown (tableOf pre) ⟨x.1, x.2.1, x.2.2.1, x.2.2.2⟩ (tableOf suf) (by rw [htab, f1]; simp [tableOf]) (fun z hz => ?_) (by simp [covers, f3.1, f3.2.1]) hx0.2 (hts _ hl1) hcast hce' hcv hcl K
                    unfold tableOf at hz
                    obtain ⟨u, hu, rfl⟩ := List.mem_map.mp hz
                    have hu2 := f2 u hu
                    obtain ⟨⟨Eu, hEu⟩, hu0⟩ := hh_spec hr (x := u) (by rw [f1]; exact List.mem_append_left _ hu)
                    simp only [Bool.and_eq_false_iff, decide_eq_false_iff_not] at hu2
                    rcases hu2 with (hu2 | hu2) | hu2
                    · exact Or.inl (by simp [covers]; omega)
                    · exact Or.inl (by simp [covers]; omega)
                    · obtain ⟨hlu, hlu6⟩ := exl_spec hEu
                      refine Or.inr ⟨hu0, exnm Eu, hts _ hlu, hE.2.2.2.2.2.2.2.2.1 E Eu hl6 hlu6 (fun z9 => hu2 (by rw [hEu, z9]))⟩
                  obtain ⟨t2, c1, c2⟩ := KX T' rfl X'
                  exact ⟨t2, st9.trans c1, c2⟩
end
section
/-! THE CLAIM OUT OF ONE WALK OF THE LAW'S BODY. Your part is whole_start (and what it stands on); all else here is the same for every law, but numbers. -/
def R_law : String := "LendlatheLaw"
def lw_P (b : Addr) (xs : List Int32) (args : Array Value) (s : State) : Prop := args = #[.ref b] ∧ s.IntsAt b xs ∧ xs.length ≤ 3584 ∧ (Jvm.Cond.and given_1 narrow_1).before args s = true
/-- what a walk over the start with the record d0 says of its end, said of the start itself -/
theorem lw_closed {s t : State} {o : Outcome} {d0 : Drawn} {L : List Loc} {k n : Nat} (hd0 : s.drawn.sameBut d0 lw_cs) (hv : ∃ v, o = .returned v) (hW : (s.setDrawn d0).WarmedH t.vm) (hs : (s.setDrawn d0).sameButNew ({ t with vm := s.vm } : State) L k n) : State.butDraws s t lw_cs (fun t1 => Framed s o t1 L k n) := by
  have h2 : t.drawn = d0 := congrArg State.drawn hs.1
  refine ⟨⟨hv, hW, State.sameButNew.setDrawn hs s.drawn⟩, ?_, by decide⟩
  rw [h2]
  exact hd0
def lw_Q (_ : Array Value) (s : State) (o : Outcome) (t : State) : Prop := o = .returned (some (.int 1)) ∧ State.butDraws s t lw_cs (fun t1 => Framed s o t1 [] 603072 7215210)
def lw_Z (below : List Frame) (a : Array Value) (s : State) : State → Prop := fun t => ∃ o, t.status = .running ∧ Ended t below o ∧ lw_Q a s o t
/-- the law's own end, with 1 on the stack, nothing written that was there before, its room as the claim has it; d0: the record of draws at this point (at the entry s.drawn: begin with 'refine W.base ?_' and 'have hd0 := Drawn.sameBut.refl s.drawn lw_cs') -/
theorem lw_ret {p : Program} {l : Launch} {e : Env} {s : State} {m : MethodId} {below : List Frame} {meth : Method} {c : Code} {b : Nat} {d0 : Drawn} (hd0 : s.drawn.sameBut d0 lw_cs) (hx : p.tables.exec = Jvm.exec) (hb : c.code = code) (hr : meth.sig.returnType = ret) (hlocks : meth.locks = false) {pc : Nat} {H : Heap} {ls : Array Slot} (hdg : decode code pc = .ok (.ireturn, 1)) : W p l e room_1 (s.setDrawn d0) m #[Value.ref b] below meth c H [] 603072 7215210 (lw_Z below #[Value.ref b] s) (F0 m pc ls [.int 1]) := by
  intro T hT X
  obtain ⟨fs, hret, hrun, hended, hW, hframe⟩ := X.leave (v := some (.int 1)) (hlocks := hlocks) (fun h => by rw [hr] at h; cases h)
  have hmeth' : T.vm.method? m = some meth := X.method'
  refine ⟨T.setFrames fs, ?_, .returned (some (.int 1)), hrun, hended, rfl, lw_closed hd0 ⟨_, rfl⟩ hW hframe⟩
  jvm_step X.here [X.here.top, hx, hb, hdg, hmeth', hr, ret, narrow_b1]
  (try refine ⟨rfl, ?_⟩); (try refine ⟨rfl, ?_⟩)
  first | (intro acts; rw [hret _ acts rfl rfl rfl]) | rw [hret _ _ rfl rfl rfl]
  exact Steps.refl _
/-- what holds at the law's entry: the machine, the code, the tables' words (any of lw_tbl by 'hts w (by decide +kernel)'), the script of L ints xs at the cell b, what the Statement gives of the start (any of its parts by flat_of_before) -/
def lw_At (p : Program) (s : State) (m : MethodId) (meth : Method) (c : Code) (b L : Nat) (xs : Nat → Int32) : Prop :=
  p.tables.exec = Jvm.exec ∧ c.code = code ∧ meth.sig.returnType = ret ∧ c.maxLocals = 9 ∧ s.vm.findClass R_law = some m.cls ∧ (∀ w ∈ lw_tbl, w.before #[Value.ref b] s = true) ∧ va_X b L xs s s.heap ∧ b < s.heap.size ∧ meth.locks = false ∧ (Jvm.Cond.and given_1 narrow_1).before #[Value.ref b] s = true
/-! the law's entry: what holds of the launch there; the claim out of one run of the small machine -/
def yLaw : Nat := 216
theorem row_law : mrow 216 = some (⟨"LendlatheLaw", "law", "([I)Z"⟩, code, 9, some .boolean, []) := by
  have h : mtab[216]? = mtab_9[0]? := rfl
  exact h
theorem vk_of {args : Array Value} {s : State} {own tx : String} {k : Nat} (h1 : (Cond.stringRef own k tx).before args s = true) (h2 : (Cond.exactly (.string own k) "java/lang/String").before args s = true) : ∃ sa, vk_R own k tx sa s := by
  obtain ⟨a, c, cell, kk, q1, -⟩ := Cond.exactly_spec (args := args) (first := s) (o := none) (s := s) (idx := []) h2
  exact ⟨a, h1, q1⟩
def okS (q : Nat × Nat × Nat × Nat × Nat × Nat × Nat × String × Nat) : Bool := match q with
  | (_, _, _, _, is, _, _, text, pl) => decide (lw_tbl[pl]? = some (.stringRef "Lendlathe" is text))
set_option maxRecDepth 100000 in
set_option maxHeartbeats 4000000 in
theorem okS_all : thtab.all okS = true := by decide +kernel
def gv : Cond := Jvm.Cond.and given_1 narrow_1
set_option maxRecDepth 100000 in
set_option maxHeartbeats 4000000 in
theorem okS2_all : thtab.all (fun q => decide (Cond.exactly (.string "Lendlathe" q.2.2.2.2.1) "java/lang/String" ∈ flatC gv)) = true := by decide +kernel
set_option maxRecDepth 100000 in
set_option maxHeartbeats 4000000 in
theorem okN_all : ((List.range 6).all (fun i => (List.range 6).all (fun j => decide (i = j) || decide (Cond.not (.castable (exnm i) (exnm j)) ∈ flatC gv)))) = true := by decide +kernel
set_option maxRecDepth 100000 in
theorem gv_1 : Cond.arrayOf (.static "java/util/ArrayList" "DEFAULTCAPACITY_EMPTY_ELEMENTDATA" "[Ljava/lang/Object;") (.object "java/lang/Object") ∈ flatC gv := by decide +kernel
set_option maxRecDepth 100000 in
theorem gv_2 : Cond.eq (.length (.static "java/util/ArrayList" "DEFAULTCAPACITY_EMPTY_ELEMENTDATA" "[Ljava/lang/Object;")) (.int 0) ∈ flatC gv := by decide +kernel
set_option maxRecDepth 100000 in
theorem gv_3 : Cond.isRef (.static "java/lang/Throwable" "UNASSIGNED_STACK" "[Ljava/lang/StackTraceElement;") ∈ flatC gv := by decide +kernel
set_option maxRecDepth 100000 in
theorem gv_4 : Cond.isRef (.static "java/lang/Throwable" "SUPPRESSED_SENTINEL" "Ljava/util/List;") ∈ flatC gv := by decide +kernel
set_option maxRecDepth 100000 in
theorem gv_5 : Cond.isRef (.mirror "[Ljava/lang/Object;") ∈ flatC gv := by decide +kernel
set_option maxRecDepth 100000 in
theorem tb_1 : Cond.laysStatic "java/util/ArrayList" "DEFAULTCAPACITY_EMPTY_ELEMENTDATA" "[Ljava/lang/Object;" ∈ lw_tbl ∧ Cond.initialized "java/util/ArrayList" ∈ lw_tbl ∧ Cond.laysStatic Bundle.tN "UNASSIGNED_STACK" Bundle.steD ∈ lw_tbl ∧ Cond.laysStatic Bundle.tN "SUPPRESSED_SENTINEL" Bundle.listD ∈ lw_tbl ∧ Cond.initialized Bundle.tN ∈ lw_tbl ∧ Cond.arrayOver (.object "java/lang/Object") ∈ lw_tbl ∧ Cond.instantiable "java/util/ArrayList" 3 ∈ lw_tbl := by decide +kernel
set_option maxRecDepth 100000 in
theorem tb_2 : (∀ t, t = 5 ∨ t = 6 ∨ t = 7 → Cond.arrayOver (aty t) ∈ lw_tbl) := by
  have h : Cond.arrayOver (aty 5) ∈ lw_tbl ∧ Cond.arrayOver (aty 6) ∈ lw_tbl ∧ Cond.arrayOver (aty 7) ∈ lw_tbl := by decide +kernel
  rintro t (rfl | rfl | rfl)
  · exact h.1
  · exact h.2.1
  · exact h.2.2
theorem eq_len0 {args : Array Value} {s : State} {t : Term} (h : (Cond.eq (.length t) (.int 0)).before args s = true) : (Term.length t).eval args s none [] s = some (.int (Int32.ofNat 0)) := by
  cases hv : (Term.length t).eval args s none [] s with
  | none => simp [Cond.before, Cond.holds, Cond.value, hv] at h
  | some w =>
    obtain ⟨w1, h1, h2⟩ := Cond.eq_one (show (Cond.eq (.length t) (.int 0)).holds args s none s [] = true from h)
    rw [hv] at h1
    cases h1
    have h3 : (Term.int 0).eval args s none [] s = some (.int 0) := rfl
    rw [h3] at h2
    cases h2
    rfl
/-- what EnvW says, at the law's entry -/
theorem env_0 {s : State} {b : Addr} (hts : ∀ w ∈ lw_tbl, w.before #[Value.ref b] s = true) (hgv : gv.before #[Value.ref b] s = true) : ∃ E0, E0 < s.heap.size ∧ EnvW s.heap.size E0 s s.heap := by
  have hfl := flat_of_before _ hgv
  have hA : ∀ a : Nat, a < s.heap.size → ¬ (fun q : Nat => s.heap.size ≤ q) a := fun a h => Nat.not_le.mpr h
  obtain ⟨t1, t2, t3, t4, t5, t6, -⟩ := tb_1
  obtain ⟨E0, he, hT⟩ := va_Tof (N := 0) (f := fun _ => Value.null) (ty := .object "java/lang/Object") (A := fun q : Nat => s.heap.size ≤ q) (by decide) (hfl _ gv_1) (eq_len0 (hfl _ gv_2)) (fun j hj => absurd hj (Nat.not_lt_zero _)) hA
  have hlt : E0 < s.heap.size := by
    obtain ⟨cell, h1, -⟩ := hT
    exact (Array.getElem?_eq_some_iff.mp h1).1
  refine ⟨E0, hlt, fun t ht => ?_, va_AO.of (hts _ t6), fun q hq => ?_, vx_Zqof (hts _ t3) (hts _ t5) (hfl _ gv_3) hA, vx_Zqof (hts _ t4) (hts _ t5) (hfl _ gv_4) hA, va_Zof (hts _ t1) (hts _ t2) he hA, hT, va_Mi.of (hfl _ gv_5), fun i j hi hj hij => ?_, fun w hw hc => ?_⟩
  · have h := hts _ (tb_2 t ht)
    rw [(over_ty t ht).1] at h ⊢
    exact h
  · have h1 := List.all_eq_true.mp okS_all q hq
    have h2 := List.all_eq_true.mp okS2_all q hq
    obtain ⟨y, pc, E, ik, is, ic, wide, text, pl⟩ := q
    simp only [okS, decide_eq_true_eq] at h1 h2
    exact vk_of (hts _ (List.mem_of_getElem? h1)) (hfl _ h2)
  · have h1 := List.all_eq_true.mp (List.all_eq_true.mp okN_all i (List.mem_range.mpr hi)) j (List.mem_range.mpr hj)
    simp only [Bool.or_eq_true, decide_eq_true_eq] at h1
    exact va_Nc.of (hfl _ (h1.resolve_left hij))
  · cases w with
    | castable C T => exact va_Nw.of rfl (hts _ hw)
    | declares x => exact va_Nw.of rfl (hts _ hw)
    | _ => cases hc
end
section
/-! the law's entry out of one run of the small machine -/
def scOb (L : Nat) (xs : Nat → Int32) : Ob := (List.range L).map (fun j => vI (xs j))
def h0 (L : Nat) (xs : Nat → Int32) : Hp := (fun s => if s = sScr then [scOb L xs] else [], 0, 0)
def fr0 : Fr := (216, 0, some (vR sScr 0) :: List.replicate 8 none, [])
def ρ0 (b : Nat) : Nat → List Nat := fun s => if s = sScr then [b] else []
set_option maxRecDepth 100000 in
theorem cnm_law : cnm (mcl 216) = R_law := by decide +kernel
theorem sk_scr : sk sScr = (4, 0) := by decide +kernel
set_option maxRecDepth 100000 in
theorem vinst_all : (vcl.all (fun q => decide (Cond.instantiable q.1 q.2.2 ∈ lw_tbl) || decide (Cond.instantiable q.1 (q.2.2 + 0) ∈ lw_tbl))) = true := by decide +kernel
theorem know_0 {s : State} {args : Array Value} (hts : ∀ w ∈ lw_tbl, w.before args s = true) : ∃ D : va_G, va_K D vcl [] s := by
  have h : ∀ k : Nat, ∃ (cC : ClassId) (iS : Nat → Nat), ∀ q, vcl[k]? = some q → u_Kn s q.1 q.2.1 q.2.2 cC iS := by
    intro k
    cases hk : vcl[k]? with
    | none => exact ⟨default, fun _ => 0, fun q hq => by cases hq⟩
    | some q =>
      have h1 := List.all_eq_true.mp vinst_all q (List.mem_of_getElem? hk)
      simp only [Nat.add_zero, Bool.or_self, decide_eq_true_eq] at h1
      obtain ⟨cC, iS, h2⟩ := u_known (C := q.1) (T := q.2.1) (N := q.2.2) hts (fun w hw => (List.mem_filter.mp (vcl_ws hk w hw)).1) (hts _ h1)
      exact ⟨cC, iS, fun q' hq => by cases hq; exact h2⟩
  refine ⟨(fun k => (h k).choose, fun k => (h k).choose_spec.choose), fun k q hq => (h k).choose_spec.choose_spec q hq, fun k q h => by simp at h⟩
theorem sim_0 {s : State} {b L E0 : Nat} {xs : Nat → Int32} {D : va_G} (hK : va_K D vcl [] s) (hX : va_X b L xs s s.heap) (hb : b < s.heap.size) (hL : L ≤ 3584) (hE : E0 < s.heap.size) : Sim s.heap.size E0 D (ρ0 b) (fun _ _ => E0) (h0 L xs) s s.heap := by
  obtain ⟨scr, x1, x2, x3, x4, x5⟩ := hX
  have e1 : ∀ (s' i a : Nat), (ρ0 b s')[i]? = some a → s' = sScr ∧ i = 0 ∧ a = b := by
    intro s' i a h
    unfold ρ0 at h
    split at h
    · rename_i e
      cases i with
      | zero => simp at h; exact ⟨e, rfl, h.symm⟩
      | succ i => simp at h
    · simp at h
  refine ⟨hK, fun s' => ?_, fun s' i s2 i2 a h1 h2 h3 h4 => ?_, fun s' i s2 i2 a h1 h2 h3 h4 h5 => ?_, fun s' i s2 i2 h1 h2 h3 h4 h5 h6 => ?_, hE, Nat.le_refl _, fun s' i ob a h1 h2 => ?_⟩
  · unfold ρ0 h0
    dsimp only
    split <;> rfl
  · obtain ⟨r1, -, -⟩ := e1 _ _ _ h3
    rw [r1, sk_scr] at h1
    exact absurd h1 (by decide)
  · exact absurd h3 (by show ¬ s.heap.size ≤ E0; omega)
  · exact absurd h5 (by show ¬ s.heap.size ≤ E0; omega)
  · obtain ⟨r1, r2, r3⟩ := e1 _ _ _ h2
    subst r1 r2 r3
    have h3 : ob = scOb L xs := by
      have h3 : hget (h0 L xs) sScr 0 = some (scOb L xs) := rfl
      rw [h3] at h1
      exact (Option.some.inj h1).symm
    subst h3
    unfold ob_at
    rw [sk_scr]
    refine ⟨hb, scr, x1, x2, x3, by simp [scOb, x4], by simp [scOb]; omega, fun j v hj => ?_⟩
    have hjl : j < L := by
      have := (List.getElem?_eq_some_iff.mp hj).1
      simpa [scOb] using this
    refine ⟨_, x5 j hjl, ?_⟩
    unfold scOb at hj
    rw [List.getElem?_map, List.getElem?_range hjl] at hj
    cases hj
    rfl
theorem rst_1 {i : Instr} {len : Nat} {st1 : List MV} (h : rst i len st1 (some .boolean) = some (some (vI 1))) : i = .ireturn ∧ len = 1 ∧ st1 = [vI 1] := by
  cases i with
  | ireturn =>
    simp only [rst] at h
    split at h
    · split at h
      · rename_i g
        simp only [Option.some.injEq, vI, Sum.inl.injEq] at h
        subst h
        exact ⟨rfl, g.1, rfl⟩
      · cases h
    · cases h
  | lreturn =>
    simp only [rst] at h
    split at h
    · split at h <;> simp [vL, vI] at h
    · cases h
  | freturn =>
    simp only [rst] at h
    split at h
    · split at h <;> simp [vF, vI] at h
    · cases h
  | dreturn =>
    simp only [rst] at h
    split at h
    · split at h <;> simp [vD, vI] at h
    · cases h
  | areturn =>
    simp only [rst] at h
    split at h
    · split at h <;> simp [vI] at h
    · cases h
  | return_ =>
    simp only [rst] at h
    split at h
    · split at h <;> simp at h
    · cases h
  | _ => simp [rst] at h
theorem flags_tr {l : Launch} (hflags : l.flags = flags0) : l.stackTraces = false := by
  unfold Launch.stackTraces
  rw [hflags]
  decide +kernel
theorem whole_run {p : Program} {e : Env} {s : State} {m : MethodId} {below : List Frame} {meth : Method} {c : Code} (l : Launch) (hflags : l.flags = flags0) (hLst : LstOK l) {b L : Nat} {xs : Nat → Int32} (hL : L ≤ 3584) (C0 : lw_At p s m meth c b L xs) (hcT : c.exceptionTable.toList = []) (hnm : meth.name = "law")
    (hrun : ∃ n h', run 60 n fr0 (h0 L xs) = some (.inl (some (vI 1)), h') ∧ h'.2.1 ≤ 603072 ∧ h'.2.2 ≤ 7215210) :
    W p l e room_1 s m #[Value.ref b] below meth c s.heap [] 0 0 (lw_Z below #[Value.ref b] s) (entryFrame m ([Value.ref b] : List Value).toArray 9) := by
  obtain ⟨hx, hb, hr, hml, hown, hts, hX, hbl, hlocks, hgv⟩ := id C0
  obtain ⟨n, h', hrun, hc1, hc2⟩ := hrun
  obtain ⟨E0, hE0, hEnv⟩ := env_0 hts hgv
  obtain ⟨D, hK⟩ := know_0 hts
  have hS := sim_0 hK hX hbl hL hE0
  have hCtx : Ctx 216 p s m #[Value.ref b] meth c 9 := ⟨_, row_law, hx, hb, hml, rfl, hr, by rw [cnm_law]; exact hown, hlocks, hnm, fun w hw => hts w (List.mem_filter.mp hw).1, by rw [hcT]; rfl⟩
  rw [lg_entry_eq]
  have hl := lv_entry ([.ref b]) (n := 9) (Nat.le_of_ble_eq_true rfl)
  generalize (lg_sl ([.ref b]) ++ List.replicate (9 - (lg_sl ([.ref b])).length) Slot.unset).toArray = ls at hl ⊢
  refine run_ok (flags_tr hflags) hLst n 60 fr0 (h0 L xs) _ h' hrun (nL := 9) (D := D) (ρ := ρ0 b) hCtx (fun h => ?_) ⟨by decide, by decide⟩ hEnv hS (va_S.rf (A := fun q : Nat => s.heap.size ≤ q)) ?_ ?_ ?_ rfl ?_
  · exfalso
    revert h
    show ¬ (mfct[216]?).map (fun f => f.2.1) = some 1
    decide +kernel
  · show 0 + h'.2.1 ≤ 603072 + 0
    omega
  · show 0 + h'.2.2 ≤ 7215210 + 0
    omega
  · refine ⟨hl.1, rfl, hl.2.1, fun i v hv => ?_⟩
    match i, hv with
    | 0, hv =>
      have hv : v = vR sScr 0 := (Option.some.inj (show some (vR sScr 0) = some v from hv)).symm
      subst hv
      exact ⟨.ref b, hl.2.2 (0, .ref b) List.mem_cons_self, b, rfl, rfl⟩
    | i + 1, hv =>
      exfalso
      unfold lget fr0 at hv
      simp only [List.getElem?_cons_succ] at hv
      cases hx : (List.replicate 8 (none : Option MV))[i]? with
      | none => rw [hx] at hv; cases hv
      | some u =>
        rw [hx] at hv
        have := List.eq_of_mem_replicate (List.mem_of_getElem? hx)
        subst this
        cases hv
  · refine ⟨?_, ?_, ?_⟩
    · intro v i len pc1 st1 H1 locs1 ρ1 β1 ls2 st2 cells1 slots1 a1 a2 a3 a4 a5 a6 a7 a8 a9
      cases a1
      rw [show (mrow fr0.1) = _ from row_law] at a3
      obtain ⟨rfl, rfl, rfl⟩ := rst_1 a3
      obtain ⟨w, _, rfl, hw, hz⟩ := a7
      cases hz
      cases hw
      refine va_forget a6.2.2 ?_
      have e1 : cells1 ≤ 603072 := by
        have : cells1 + 0 = 0 + h'.2.1 := a8
        omega
      have e2 : slots1 ≤ 7215210 := by
        have : slots1 + 0 = 0 + h'.2.2 := a9
        omega
      refine W.widen e1 e2 (W.base ?_)
      have a2 : dec 216 pc1 = some (.ireturn, 1) := a2
      have hd := dec_inv row_law a2
      dsimp only at hd
      exact lw_ret (b := b) (Drawn.sameBut.refl s.drawn lw_cs) hx hb hr hlocks hd
    · intro E pc1 hx H1 locs1 ρ1 β1 ls2 cells1 slots1 a1
      cases a1
    · intro E pc1 H1 locs1 ρ1 β1 ls2 rest q ce cells1 slots1 a1
      cases a1
end
section
/-! words of the statement of the JDK's lists, by their places (written by gen23.py) -/
set_option maxRecDepth 100000 in
theorem p_0 : Cond.selects "java/util/ArrayList" ⟨"java/util/ArrayList", "add", "(Ljava/lang/Object;[Ljava/lang/Object;I)V"⟩ ⟨"java/util/ArrayList", "add", "(Ljava/lang/Object;[Ljava/lang/Object;I)V"⟩ ∈ WS := ws_of (i := 0) (by decide +kernel) rfl
set_option maxRecDepth 100000 in
theorem p_1 : Cond.selects "java/util/ArrayList" ⟨"java/util/ArrayList", "grow", "()[Ljava/lang/Object;"⟩ ⟨"java/util/ArrayList", "grow", "()[Ljava/lang/Object;"⟩ ∈ WS := ws_of (i := 1) (by decide +kernel) rfl
set_option maxRecDepth 100000 in
theorem p_2 : Cond.selects "java/util/ArrayList" ⟨"java/util/ArrayList", "grow", "(I)[Ljava/lang/Object;"⟩ ⟨"java/util/ArrayList", "grow", "(I)[Ljava/lang/Object;"⟩ ∈ WS := ws_of (i := 2) (by decide +kernel) rfl
set_option maxRecDepth 100000 in
theorem p_21 : Cond.selects "java/util/ArrayList" ⟨"java/util/ArrayList", "fastRemove", "([Ljava/lang/Object;I)V"⟩ ⟨"java/util/ArrayList", "fastRemove", "([Ljava/lang/Object;I)V"⟩ ∈ WS := ws_of (i := 21) (by decide +kernel) rfl
set_option maxRecDepth 100000 in
theorem p_24 : Cond.selects "java/util/ArrayList" ⟨"java/util/ArrayList", "rangeCheckForAdd", "(I)V"⟩ ⟨"java/util/ArrayList", "rangeCheckForAdd", "(I)V"⟩ ∈ WS := ws_of (i := 24) (by decide +kernel) rfl
set_option maxRecDepth 100000 in
theorem q_2 : (Jvm.Cond.initialized "java/util/AbstractCollection") ∈ WS := ws_of (i := 63) (by decide +kernel) rfl
set_option maxRecDepth 100000 in
theorem q_3 : (Jvm.Cond.initialized "java/util/AbstractList") ∈ WS := ws_of (i := 64) (by decide +kernel) rfl
set_option maxRecDepth 100000 in
theorem q_4 : (Jvm.Cond.initialized "java/util/ArrayList") ∈ WS := ws_of (i := 65) (by decide +kernel) rfl
set_option maxRecDepth 100000 in
theorem q_7 : (Jvm.Cond.initialized "jdk/internal/util/ArraysSupport") ∈ WS := ws_of (i := 68) (by decide +kernel) rfl
set_option maxRecDepth 100000 in
theorem q_8 : (Jvm.Cond.initialized "java/lang/Math") ∈ WS := ws_of (i := 69) (by decide +kernel) rfl
set_option maxRecDepth 100000 in
theorem q_9 : (Jvm.Cond.initialized "java/util/Arrays") ∈ WS := ws_of (i := 70) (by decide +kernel) rfl
set_option maxRecDepth 100000 in
theorem q_10 : (Jvm.Cond.initialized "java/lang/System") ∈ WS := ws_of (i := 71) (by decide +kernel) rfl
set_option maxRecDepth 100000 in
theorem q_16 : (Jvm.Cond.initialized "java/util/Objects") ∈ WS := ws_of (i := 77) (by decide +kernel) rfl
set_option maxRecDepth 100000 in
theorem q_17 : (Jvm.Cond.initialized "jdk/internal/util/Preconditions") ∈ WS := ws_of (i := 78) (by decide +kernel) rfl
set_option maxRecDepth 100000 in
theorem q_43 : (Jvm.Cond.instanceMethod ({ cls := "java/lang/Object", name := "<init>", desc := "()V" } : Jvm.MethodName)) ∈ WS := ws_of (i := 104) (by decide +kernel) rfl
set_option maxRecDepth 100000 in
theorem q_44 : (Jvm.Cond.code ({ cls := "java/lang/Object", name := "<init>", desc := "()V" } : Jvm.MethodName) object_method_1_code (1 : Nat) (Option.none : Option Jvm.ClassFile.FieldType)) ∈ WS := ws_of (i := 105) (by decide +kernel) rfl
set_option maxRecDepth 100000 in
theorem q_48 : (Jvm.Cond.instanceMethod ({ cls := "java/util/ArrayList", name := "<init>", desc := "()V" } : Jvm.MethodName)) ∈ WS := ws_of (i := 109) (by decide +kernel) rfl
set_option maxRecDepth 100000 in
theorem q_49 : (Jvm.Cond.code ({ cls := "java/util/ArrayList", name := "<init>", desc := "()V" } : Jvm.MethodName) prog_40_method_2_code (1 : Nat) (Option.none : Option Jvm.ClassFile.FieldType)) ∈ WS := ws_of (i := 110) (by decide +kernel) rfl
set_option maxRecDepth 100000 in
theorem q_50 : (Jvm.Cond.methodLink "java/util/ArrayList" (1 : Nat) ({ cls := "java/util/AbstractList", name := "<init>", desc := "()V" } : Jvm.MethodName)) ∈ WS := ws_of (i := 111) (by decide +kernel) rfl
set_option maxRecDepth 100000 in
theorem q_51 : (Jvm.Cond.instanceMethod ({ cls := "java/util/AbstractList", name := "<init>", desc := "()V" } : Jvm.MethodName)) ∈ WS := ws_of (i := 112) (by decide +kernel) rfl
set_option maxRecDepth 100000 in
theorem q_52 : (Jvm.Cond.code ({ cls := "java/util/AbstractList", name := "<init>", desc := "()V" } : Jvm.MethodName) prog_39_method_1_code (1 : Nat) (Option.none : Option Jvm.ClassFile.FieldType)) ∈ WS := ws_of (i := 113) (by decide +kernel) rfl
set_option maxRecDepth 100000 in
theorem q_53 : (Jvm.Cond.methodLink "java/util/AbstractList" (1 : Nat) ({ cls := "java/util/AbstractCollection", name := "<init>", desc := "()V" } : Jvm.MethodName)) ∈ WS := ws_of (i := 114) (by decide +kernel) rfl
set_option maxRecDepth 100000 in
theorem q_54 : (Jvm.Cond.instanceMethod ({ cls := "java/util/AbstractCollection", name := "<init>", desc := "()V" } : Jvm.MethodName)) ∈ WS := ws_of (i := 115) (by decide +kernel) rfl
set_option maxRecDepth 100000 in
theorem q_55 : (Jvm.Cond.code ({ cls := "java/util/AbstractCollection", name := "<init>", desc := "()V" } : Jvm.MethodName) prog_38_method_1_code (1 : Nat) (Option.none : Option Jvm.ClassFile.FieldType)) ∈ WS := ws_of (i := 116) (by decide +kernel) rfl
set_option maxRecDepth 100000 in
theorem q_56 : (Jvm.Cond.methodLink "java/util/AbstractCollection" (1 : Nat) ({ cls := "java/lang/Object", name := "<init>", desc := "()V" } : Jvm.MethodName)) ∈ WS := ws_of (i := 117) (by decide +kernel) rfl
set_option maxRecDepth 100000 in
theorem q_57 : (Jvm.Cond.fieldLink "java/util/ArrayList" (39 : Nat) "java/util/ArrayList" "DEFAULTCAPACITY_EMPTY_ELEMENTDATA" "[Ljava/lang/Object;") ∈ WS := ws_of (i := 118) (by decide +kernel) rfl
set_option maxRecDepth 100000 in
theorem q_59 : (Jvm.Cond.fieldLink "java/util/ArrayList" (9 : Nat) "java/util/ArrayList" "elementData" "[Ljava/lang/Object;") ∈ WS := ws_of (i := 120) (by decide +kernel) rfl
set_option maxRecDepth 100000 in
theorem q_60 : (Jvm.Cond.fieldLink "java/util/ArrayList" (48 : Nat) "java/util/ArrayList" "size" "I") ∈ WS := ws_of (i := 121) (by decide +kernel) rfl
set_option maxRecDepth 100000 in
theorem q_61 : (Jvm.Cond.fieldLink "java/util/AbstractList" (7 : Nat) "java/util/AbstractList" "modCount" "I") ∈ WS := ws_of (i := 122) (by decide +kernel) rfl
set_option maxRecDepth 100000 in
theorem q_62 : (Jvm.Cond.fieldLink "java/util/ArrayList" (63 : Nat) "java/util/ArrayList" "modCount" "I") ∈ WS := ws_of (i := 123) (by decide +kernel) rfl
set_option maxRecDepth 100000 in
theorem q_63 : (Jvm.Cond.sameField "java/util/ArrayList" "java/util/AbstractList" "modCount" "I") ∈ WS := ws_of (i := 124) (by decide +kernel) rfl
set_option maxRecDepth 100000 in
theorem q_117 : (Jvm.Cond.instanceMethod ({ cls := "java/util/ArrayList", name := "add", desc := "(Ljava/lang/Object;)Z" } : Jvm.MethodName)) ∈ WS := ws_of (i := 178) (by decide +kernel) rfl
set_option maxRecDepth 100000 in
theorem q_118 : (Jvm.Cond.selects "java/util/ArrayList" ({ cls := "java/util/ArrayList", name := "add", desc := "(Ljava/lang/Object;)Z" } : Jvm.MethodName) ({ cls := "java/util/ArrayList", name := "add", desc := "(Ljava/lang/Object;)Z" } : Jvm.MethodName)) ∈ WS := ws_of (i := 179) (by decide +kernel) rfl
set_option maxRecDepth 100000 in
theorem q_119 : (Jvm.Cond.code ({ cls := "java/util/ArrayList", name := "add", desc := "(Ljava/lang/Object;)Z" } : Jvm.MethodName) prog_40_method_25_code (2 : Nat) (Option.some Jvm.ClassFile.FieldType.boolean)) ∈ WS := ws_of (i := 180) (by decide +kernel) rfl
set_option maxRecDepth 100000 in
theorem q_120 : (Jvm.Cond.methodLink "java/util/ArrayList" (131 : Nat) ({ cls := "java/util/ArrayList", name := "add", desc := "(Ljava/lang/Object;[Ljava/lang/Object;I)V" } : Jvm.MethodName)) ∈ WS := ws_of (i := 181) (by decide +kernel) rfl
set_option maxRecDepth 100000 in
theorem q_122 : (Jvm.Cond.instanceMethod ({ cls := "java/util/ArrayList", name := "add", desc := "(Ljava/lang/Object;[Ljava/lang/Object;I)V" } : Jvm.MethodName)) ∈ WS := ws_of (i := 183) (by decide +kernel) rfl
set_option maxRecDepth 100000 in
theorem q_123 : (Jvm.Cond.code ({ cls := "java/util/ArrayList", name := "add", desc := "(Ljava/lang/Object;[Ljava/lang/Object;I)V" } : Jvm.MethodName) prog_40_method_24_code (4 : Nat) (Option.none : Option Jvm.ClassFile.FieldType)) ∈ WS := ws_of (i := 184) (by decide +kernel) rfl
set_option maxRecDepth 100000 in
theorem q_124 : (Jvm.Cond.methodLink "java/util/ArrayList" (129 : Nat) ({ cls := "java/util/ArrayList", name := "grow", desc := "()[Ljava/lang/Object;" } : Jvm.MethodName)) ∈ WS := ws_of (i := 185) (by decide +kernel) rfl
set_option maxRecDepth 100000 in
theorem q_126 : (Jvm.Cond.instanceMethod ({ cls := "java/util/ArrayList", name := "grow", desc := "()[Ljava/lang/Object;" } : Jvm.MethodName)) ∈ WS := ws_of (i := 187) (by decide +kernel) rfl
set_option maxRecDepth 100000 in
theorem q_127 : (Jvm.Cond.code ({ cls := "java/util/ArrayList", name := "grow", desc := "()[Ljava/lang/Object;" } : Jvm.MethodName) prog_40_method_7_code (1 : Nat) (Option.some (Jvm.ClassFile.FieldType.array (Jvm.ClassFile.FieldType.object "java/lang/Object")))) ∈ WS := ws_of (i := 188) (by decide +kernel) rfl
set_option maxRecDepth 100000 in
theorem q_128 : (Jvm.Cond.methodLink "java/util/ArrayList" (69 : Nat) ({ cls := "java/util/ArrayList", name := "grow", desc := "(I)[Ljava/lang/Object;" } : Jvm.MethodName)) ∈ WS := ws_of (i := 189) (by decide +kernel) rfl
set_option maxRecDepth 100000 in
theorem q_130 : (Jvm.Cond.instanceMethod ({ cls := "java/util/ArrayList", name := "grow", desc := "(I)[Ljava/lang/Object;" } : Jvm.MethodName)) ∈ WS := ws_of (i := 191) (by decide +kernel) rfl
set_option maxRecDepth 100000 in
theorem q_131 : (Jvm.Cond.code ({ cls := "java/util/ArrayList", name := "grow", desc := "(I)[Ljava/lang/Object;" } : Jvm.MethodName) prog_40_method_6_code (4 : Nat) (Option.some (Jvm.ClassFile.FieldType.array (Jvm.ClassFile.FieldType.object "java/lang/Object")))) ∈ WS := ws_of (i := 192) (by decide +kernel) rfl
set_option maxRecDepth 100000 in
theorem q_132 : (Jvm.Cond.methodLink "java/util/ArrayList" (73 : Nat) ({ cls := "jdk/internal/util/ArraysSupport", name := "newLength", desc := "(III)I" } : Jvm.MethodName)) ∈ WS := ws_of (i := 193) (by decide +kernel) rfl
set_option maxRecDepth 100000 in
theorem q_133 : (Jvm.Cond.static ({ cls := "jdk/internal/util/ArraysSupport", name := "newLength", desc := "(III)I" } : Jvm.MethodName)) ∈ WS := ws_of (i := 194) (by decide +kernel) rfl
set_option maxRecDepth 100000 in
theorem q_134 : (Jvm.Cond.code ({ cls := "jdk/internal/util/ArraysSupport", name := "newLength", desc := "(III)I" } : Jvm.MethodName) prog_48_method_27_code (4 : Nat) (Option.some Jvm.ClassFile.FieldType.int)) ∈ WS := ws_of (i := 195) (by decide +kernel) rfl
set_option maxRecDepth 100000 in
theorem q_135 : (Jvm.Cond.methodLink "jdk/internal/util/ArraysSupport" (194 : Nat) ({ cls := "java/lang/Math", name := "max", desc := "(II)I" } : Jvm.MethodName)) ∈ WS := ws_of (i := 196) (by decide +kernel) rfl
set_option maxRecDepth 100000 in
theorem q_136 : (Jvm.Cond.static ({ cls := "java/lang/Math", name := "max", desc := "(II)I" } : Jvm.MethodName)) ∈ WS := ws_of (i := 197) (by decide +kernel) rfl
set_option maxRecDepth 100000 in
theorem q_137 : (Jvm.Cond.code ({ cls := "java/lang/Math", name := "max", desc := "(II)I" } : Jvm.MethodName) prog_26_method_65_code (2 : Nat) (Option.some Jvm.ClassFile.FieldType.int)) ∈ WS := ws_of (i := 198) (by decide +kernel) rfl
set_option maxRecDepth 100000 in
theorem q_138 : (Jvm.Cond.constant "jdk/internal/util/ArraysSupport" (200 : Nat) (2147483639 : Int32)) ∈ WS := ws_of (i := 199) (by decide +kernel) rfl
set_option maxRecDepth 100000 in
theorem q_139 : (Jvm.Cond.methodLink "jdk/internal/util/ArraysSupport" (201 : Nat) ({ cls := "jdk/internal/util/ArraysSupport", name := "hugeLength", desc := "(II)I" } : Jvm.MethodName)) ∈ WS := ws_of (i := 200) (by decide +kernel) rfl
set_option maxRecDepth 100000 in
theorem q_140 : (Jvm.Cond.static ({ cls := "jdk/internal/util/ArraysSupport", name := "hugeLength", desc := "(II)I" } : Jvm.MethodName)) ∈ WS := ws_of (i := 201) (by decide +kernel) rfl
set_option maxRecDepth 100000 in
theorem q_141 : (Jvm.Cond.code ({ cls := "jdk/internal/util/ArraysSupport", name := "hugeLength", desc := "(II)I" } : Jvm.MethodName) prog_48_method_28_code (3 : Nat) (Option.some Jvm.ClassFile.FieldType.int)) ∈ WS := ws_of (i := 202) (by decide +kernel) rfl
set_option maxRecDepth 100000 in
theorem q_142 : (Jvm.Cond.methodLink "java/util/ArrayList" (66 : Nat) ({ cls := "java/util/Arrays", name := "copyOf", desc := "([Ljava/lang/Object;I)[Ljava/lang/Object;" } : Jvm.MethodName)) ∈ WS := ws_of (i := 203) (by decide +kernel) rfl
set_option maxRecDepth 100000 in
theorem q_143 : (Jvm.Cond.static ({ cls := "java/util/Arrays", name := "copyOf", desc := "([Ljava/lang/Object;I)[Ljava/lang/Object;" } : Jvm.MethodName)) ∈ WS := ws_of (i := 204) (by decide +kernel) rfl
set_option maxRecDepth 100000 in
theorem q_144 : (Jvm.Cond.code ({ cls := "java/util/Arrays", name := "copyOf", desc := "([Ljava/lang/Object;I)[Ljava/lang/Object;" } : Jvm.MethodName) prog_41_method_119_code (2 : Nat) (Option.some (Jvm.ClassFile.FieldType.array (Jvm.ClassFile.FieldType.object "java/lang/Object")))) ∈ WS := ws_of (i := 205) (by decide +kernel) rfl
set_option maxRecDepth 100000 in
theorem q_145 : (Jvm.Cond.methodLink "java/util/Arrays" (86 : Nat) ({ cls := "java/lang/Object", name := "getClass", desc := "()Ljava/lang/Class;" } : Jvm.MethodName)) ∈ WS := ws_of (i := 206) (by decide +kernel) rfl
set_option maxRecDepth 100000 in
theorem q_146 : (Jvm.Cond.instanceMethod ({ cls := "java/lang/Object", name := "getClass", desc := "()Ljava/lang/Class;" } : Jvm.MethodName)) ∈ WS := ws_of (i := 207) (by decide +kernel) rfl
set_option maxRecDepth 100000 in
theorem q_168 : (Jvm.Cond.native ({ cls := "java/lang/Object", name := "getClass", desc := "()Ljava/lang/Class;" } : Jvm.MethodName)) ∈ WS := ws_of (i := 229) (by decide +kernel) rfl
set_option maxRecDepth 100000 in
theorem q_169 : (Jvm.Cond.methodLink "java/util/Arrays" (300 : Nat) ({ cls := "java/util/Arrays", name := "copyOf", desc := "([Ljava/lang/Object;ILjava/lang/Class;)[Ljava/lang/Object;" } : Jvm.MethodName)) ∈ WS := ws_of (i := 230) (by decide +kernel) rfl
set_option maxRecDepth 100000 in
theorem q_170 : (Jvm.Cond.static ({ cls := "java/util/Arrays", name := "copyOf", desc := "([Ljava/lang/Object;ILjava/lang/Class;)[Ljava/lang/Object;" } : Jvm.MethodName)) ∈ WS := ws_of (i := 231) (by decide +kernel) rfl
set_option maxRecDepth 100000 in
theorem q_171 : (Jvm.Cond.code ({ cls := "java/util/Arrays", name := "copyOf", desc := "([Ljava/lang/Object;ILjava/lang/Class;)[Ljava/lang/Object;" } : Jvm.MethodName) prog_41_method_120_code (4 : Nat) (Option.some (Jvm.ClassFile.FieldType.array (Jvm.ClassFile.FieldType.object "java/lang/Object")))) ∈ WS := ws_of (i := 232) (by decide +kernel) rfl
set_option maxRecDepth 100000 in
theorem q_172 : (Jvm.Cond.classLink "java/util/Arrays" (110 : Nat) "[Ljava/lang/Object;") ∈ WS := ws_of (i := 233) (by decide +kernel) rfl
set_option maxRecDepth 100000 in
theorem q_174 : (Jvm.Cond.classLink "java/util/Arrays" (2 : Nat) "java/lang/Object") ∈ WS := ws_of (i := 235) (by decide +kernel) rfl
set_option maxRecDepth 100000 in
theorem q_175 : (Jvm.Cond.methodLink "java/util/Arrays" (304 : Nat) ({ cls := "java/lang/Math", name := "min", desc := "(II)I" } : Jvm.MethodName)) ∈ WS := ws_of (i := 236) (by decide +kernel) rfl
set_option maxRecDepth 100000 in
theorem q_176 : (Jvm.Cond.static ({ cls := "java/lang/Math", name := "min", desc := "(II)I" } : Jvm.MethodName)) ∈ WS := ws_of (i := 237) (by decide +kernel) rfl
set_option maxRecDepth 100000 in
theorem q_177 : (Jvm.Cond.code ({ cls := "java/lang/Math", name := "min", desc := "(II)I" } : Jvm.MethodName) prog_26_method_69_code (2 : Nat) (Option.some Jvm.ClassFile.FieldType.int)) ∈ WS := ws_of (i := 238) (by decide +kernel) rfl
set_option maxRecDepth 100000 in
theorem q_178 : (Jvm.Cond.methodLink "java/util/Arrays" (150 : Nat) ({ cls := "java/lang/System", name := "arraycopy", desc := "(Ljava/lang/Object;ILjava/lang/Object;II)V" } : Jvm.MethodName)) ∈ WS := ws_of (i := 239) (by decide +kernel) rfl
set_option maxRecDepth 100000 in
theorem q_179 : (Jvm.Cond.static ({ cls := "java/lang/System", name := "arraycopy", desc := "(Ljava/lang/Object;ILjava/lang/Object;II)V" } : Jvm.MethodName)) ∈ WS := ws_of (i := 240) (by decide +kernel) rfl
set_option maxRecDepth 100000 in
theorem q_180 : (Jvm.Cond.native ({ cls := "java/lang/System", name := "arraycopy", desc := "(Ljava/lang/Object;ILjava/lang/Object;II)V" } : Jvm.MethodName)) ∈ WS := ws_of (i := 241) (by decide +kernel) rfl
set_option maxRecDepth 100000 in
theorem q_181 : (Jvm.Cond.methodLink "java/util/ArrayList" (79 : Nat) ({ cls := "java/lang/Math", name := "max", desc := "(II)I" } : Jvm.MethodName)) ∈ WS := ws_of (i := 242) (by decide +kernel) rfl
set_option maxRecDepth 100000 in
theorem q_182 : (Jvm.Cond.classLink "java/util/ArrayList" (7 : Nat) "java/lang/Object") ∈ WS := ws_of (i := 243) (by decide +kernel) rfl
set_option maxRecDepth 100000 in
theorem q_217 : (Jvm.Cond.instanceMethod ({ cls := "java/util/ArrayList", name := "size", desc := "()I" } : Jvm.MethodName)) ∈ WS := ws_of (i := 278) (by decide +kernel) rfl
set_option maxRecDepth 100000 in
theorem q_218 : (Jvm.Cond.selects "java/util/ArrayList" ({ cls := "java/util/ArrayList", name := "size", desc := "()I" } : Jvm.MethodName) ({ cls := "java/util/ArrayList", name := "size", desc := "()I" } : Jvm.MethodName)) ∈ WS := ws_of (i := 279) (by decide +kernel) rfl
set_option maxRecDepth 100000 in
theorem q_219 : (Jvm.Cond.code ({ cls := "java/util/ArrayList", name := "size", desc := "()I" } : Jvm.MethodName) prog_40_method_8_code (1 : Nat) (Option.some Jvm.ClassFile.FieldType.int)) ∈ WS := ws_of (i := 280) (by decide +kernel) rfl
set_option maxRecDepth 100000 in
theorem q_225 : (Jvm.Cond.instanceMethod ({ cls := "java/util/ArrayList", name := "get", desc := "(I)Ljava/lang/Object;" } : Jvm.MethodName)) ∈ WS := ws_of (i := 286) (by decide +kernel) rfl
set_option maxRecDepth 100000 in
theorem q_226 : (Jvm.Cond.selects "java/util/ArrayList" ({ cls := "java/util/ArrayList", name := "get", desc := "(I)Ljava/lang/Object;" } : Jvm.MethodName) ({ cls := "java/util/ArrayList", name := "get", desc := "(I)Ljava/lang/Object;" } : Jvm.MethodName)) ∈ WS := ws_of (i := 287) (by decide +kernel) rfl
set_option maxRecDepth 100000 in
theorem q_227 : (Jvm.Cond.code ({ cls := "java/util/ArrayList", name := "get", desc := "(I)Ljava/lang/Object;" } : Jvm.MethodName) prog_40_method_20_code (2 : Nat) (Option.some (Jvm.ClassFile.FieldType.object "java/lang/Object"))) ∈ WS := ws_of (i := 288) (by decide +kernel) rfl
set_option maxRecDepth 100000 in
theorem q_228 : (Jvm.Cond.methodLink "java/util/ArrayList" (118 : Nat) ({ cls := "java/util/Objects", name := "checkIndex", desc := "(II)I" } : Jvm.MethodName)) ∈ WS := ws_of (i := 289) (by decide +kernel) rfl
set_option maxRecDepth 100000 in
theorem q_229 : (Jvm.Cond.static ({ cls := "java/util/Objects", name := "checkIndex", desc := "(II)I" } : Jvm.MethodName)) ∈ WS := ws_of (i := 290) (by decide +kernel) rfl
set_option maxRecDepth 100000 in
theorem q_230 : (Jvm.Cond.code ({ cls := "java/util/Objects", name := "checkIndex", desc := "(II)I" } : Jvm.MethodName) prog_45_method_17_code (2 : Nat) (Option.some Jvm.ClassFile.FieldType.int)) ∈ WS := ws_of (i := 291) (by decide +kernel) rfl
set_option maxRecDepth 100000 in
theorem q_231 : (Jvm.Cond.methodLink "java/util/Objects" (105 : Nat) ({ cls := "jdk/internal/util/Preconditions", name := "checkIndex", desc := "(IILjava/util/function/BiFunction;)I" } : Jvm.MethodName)) ∈ WS := ws_of (i := 292) (by decide +kernel) rfl
set_option maxRecDepth 100000 in
theorem q_232 : (Jvm.Cond.static ({ cls := "jdk/internal/util/Preconditions", name := "checkIndex", desc := "(IILjava/util/function/BiFunction;)I" } : Jvm.MethodName)) ∈ WS := ws_of (i := 293) (by decide +kernel) rfl
set_option maxRecDepth 100000 in
theorem q_233 : (Jvm.Cond.code ({ cls := "jdk/internal/util/Preconditions", name := "checkIndex", desc := "(IILjava/util/function/BiFunction;)I" } : Jvm.MethodName) prog_49_method_11_code (3 : Nat) (Option.some Jvm.ClassFile.FieldType.int)) ∈ WS := ws_of (i := 294) (by decide +kernel) rfl
set_option maxRecDepth 100000 in
theorem q_234 : (Jvm.Cond.methodLink "java/util/ArrayList" (123 : Nat) ({ cls := "java/util/ArrayList", name := "elementData", desc := "(I)Ljava/lang/Object;" } : Jvm.MethodName)) ∈ WS := ws_of (i := 295) (by decide +kernel) rfl
set_option maxRecDepth 100000 in
theorem q_235 : (Jvm.Cond.instanceMethod ({ cls := "java/util/ArrayList", name := "elementData", desc := "(I)Ljava/lang/Object;" } : Jvm.MethodName)) ∈ WS := ws_of (i := 296) (by decide +kernel) rfl
set_option maxRecDepth 100000 in
theorem q_236 : (Jvm.Cond.selects "java/util/ArrayList" ({ cls := "java/util/ArrayList", name := "elementData", desc := "(I)Ljava/lang/Object;" } : Jvm.MethodName) ({ cls := "java/util/ArrayList", name := "elementData", desc := "(I)Ljava/lang/Object;" } : Jvm.MethodName)) ∈ WS := ws_of (i := 297) (by decide +kernel) rfl
set_option maxRecDepth 100000 in
theorem q_237 : (Jvm.Cond.code ({ cls := "java/util/ArrayList", name := "elementData", desc := "(I)Ljava/lang/Object;" } : Jvm.MethodName) prog_40_method_18_code (2 : Nat) (Option.some (Jvm.ClassFile.FieldType.object "java/lang/Object"))) ∈ WS := ws_of (i := 298) (by decide +kernel) rfl
set_option maxRecDepth 100000 in
theorem q_553 : (Jvm.Cond.instanceMethod ({ cls := "java/util/ArrayList", name := "remove", desc := "(I)Ljava/lang/Object;" } : Jvm.MethodName)) ∈ WS := ws_of (i := 614) (by decide +kernel) rfl
set_option maxRecDepth 100000 in
theorem q_554 : (Jvm.Cond.selects "java/util/ArrayList" ({ cls := "java/util/ArrayList", name := "remove", desc := "(I)Ljava/lang/Object;" } : Jvm.MethodName) ({ cls := "java/util/ArrayList", name := "remove", desc := "(I)Ljava/lang/Object;" } : Jvm.MethodName)) ∈ WS := ws_of (i := 615) (by decide +kernel) rfl
set_option maxRecDepth 100000 in
theorem q_555 : (Jvm.Cond.code ({ cls := "java/util/ArrayList", name := "remove", desc := "(I)Ljava/lang/Object;" } : Jvm.MethodName) prog_40_method_29_code (4 : Nat) (Option.some (Jvm.ClassFile.FieldType.object "java/lang/Object"))) ∈ WS := ws_of (i := 616) (by decide +kernel) rfl
set_option maxRecDepth 100000 in
theorem q_556 : (Jvm.Cond.methodLink "java/util/ArrayList" (144 : Nat) ({ cls := "java/util/ArrayList", name := "fastRemove", desc := "([Ljava/lang/Object;I)V" } : Jvm.MethodName)) ∈ WS := ws_of (i := 617) (by decide +kernel) rfl
set_option maxRecDepth 100000 in
theorem q_558 : (Jvm.Cond.instanceMethod ({ cls := "java/util/ArrayList", name := "fastRemove", desc := "([Ljava/lang/Object;I)V" } : Jvm.MethodName)) ∈ WS := ws_of (i := 619) (by decide +kernel) rfl
set_option maxRecDepth 100000 in
theorem q_559 : (Jvm.Cond.code ({ cls := "java/util/ArrayList", name := "fastRemove", desc := "([Ljava/lang/Object;I)V" } : Jvm.MethodName) prog_40_method_39_code (4 : Nat) (Option.none : Option Jvm.ClassFile.FieldType)) ∈ WS := ws_of (i := 620) (by decide +kernel) rfl
set_option maxRecDepth 100000 in
theorem q_560 : (Jvm.Cond.methodLink "java/util/ArrayList" (112 : Nat) ({ cls := "java/lang/System", name := "arraycopy", desc := "(Ljava/lang/Object;ILjava/lang/Object;II)V" } : Jvm.MethodName)) ∈ WS := ws_of (i := 621) (by decide +kernel) rfl
set_option maxRecDepth 100000 in
theorem q_562 : (Jvm.Cond.instanceMethod ({ cls := "java/util/ArrayList", name := "clear", desc := "()V" } : Jvm.MethodName)) ∈ WS := ws_of (i := 623) (by decide +kernel) rfl
set_option maxRecDepth 100000 in
theorem q_563 : (Jvm.Cond.selects "java/util/ArrayList" ({ cls := "java/util/ArrayList", name := "clear", desc := "()V" } : Jvm.MethodName) ({ cls := "java/util/ArrayList", name := "clear", desc := "()V" } : Jvm.MethodName)) ∈ WS := ws_of (i := 624) (by decide +kernel) rfl
set_option maxRecDepth 100000 in
theorem q_564 : (Jvm.Cond.code ({ cls := "java/util/ArrayList", name := "clear", desc := "()V" } : Jvm.MethodName) prog_40_method_40_code (4 : Nat) (Option.none : Option Jvm.ClassFile.FieldType)) ∈ WS := ws_of (i := 625) (by decide +kernel) rfl
set_option maxRecDepth 100000 in
theorem q_581 : (Jvm.Cond.instanceMethod ({ cls := "java/util/ArrayList", name := "add", desc := "(ILjava/lang/Object;)V" } : Jvm.MethodName)) ∈ WS := ws_of (i := 642) (by decide +kernel) rfl
set_option maxRecDepth 100000 in
theorem q_582 : (Jvm.Cond.selects "java/util/ArrayList" ({ cls := "java/util/ArrayList", name := "add", desc := "(ILjava/lang/Object;)V" } : Jvm.MethodName) ({ cls := "java/util/ArrayList", name := "add", desc := "(ILjava/lang/Object;)V" } : Jvm.MethodName)) ∈ WS := ws_of (i := 643) (by decide +kernel) rfl
set_option maxRecDepth 100000 in
theorem q_583 : (Jvm.Cond.code ({ cls := "java/util/ArrayList", name := "add", desc := "(ILjava/lang/Object;)V" } : Jvm.MethodName) prog_40_method_26_code (5 : Nat) (Option.none : Option Jvm.ClassFile.FieldType)) ∈ WS := ws_of (i := 644) (by decide +kernel) rfl
set_option maxRecDepth 100000 in
theorem q_584 : (Jvm.Cond.methodLink "java/util/ArrayList" (135 : Nat) ({ cls := "java/util/ArrayList", name := "rangeCheckForAdd", desc := "(I)V" } : Jvm.MethodName)) ∈ WS := ws_of (i := 645) (by decide +kernel) rfl
set_option maxRecDepth 100000 in
theorem q_586 : (Jvm.Cond.instanceMethod ({ cls := "java/util/ArrayList", name := "rangeCheckForAdd", desc := "(I)V" } : Jvm.MethodName)) ∈ WS := ws_of (i := 647) (by decide +kernel) rfl
set_option maxRecDepth 100000 in
theorem q_587 : (Jvm.Cond.code ({ cls := "java/util/ArrayList", name := "rangeCheckForAdd", desc := "(I)V" } : Jvm.MethodName) prog_40_method_45_code (2 : Nat) (Option.none : Option Jvm.ClassFile.FieldType)) ∈ WS := ws_of (i := 648) (by decide +kernel) rfl
set_option maxRecDepth 100000 in
theorem q_676 : (Jvm.Cond.static ({ cls := "jdk/internal/util/Preconditions", name := "checkFromToIndex", desc := "(IIILjava/util/function/BiFunction;)I" } : Jvm.MethodName)) ∈ WS := ws_of (i := 737) (by decide +kernel) rfl
set_option maxRecDepth 100000 in
theorem q_677 : (Jvm.Cond.code ({ cls := "jdk/internal/util/Preconditions", name := "checkFromToIndex", desc := "(IIILjava/util/function/BiFunction;)I" } : Jvm.MethodName) prog_49_method_12_code (4 : Nat) (Option.some Jvm.ClassFile.FieldType.int)) ∈ WS := ws_of (i := 738) (by decide +kernel) rfl
set_option maxRecDepth 100000 in
theorem q_722 : (Jvm.Cond.static ({ cls := "jdk/internal/util/Preconditions", name := "checkFromIndexSize", desc := "(IIILjava/util/function/BiFunction;)I" } : Jvm.MethodName)) ∈ WS := ws_of (i := 783) (by decide +kernel) rfl
set_option maxRecDepth 100000 in
theorem q_723 : (Jvm.Cond.code ({ cls := "jdk/internal/util/Preconditions", name := "checkFromIndexSize", desc := "(IIILjava/util/function/BiFunction;)I" } : Jvm.MethodName) prog_49_method_13_code (4 : Nat) (Option.some Jvm.ClassFile.FieldType.int)) ∈ WS := ws_of (i := 784) (by decide +kernel) rfl
set_option maxRecDepth 100000 in
theorem q_789 : (Jvm.Cond.methodLink "java/util/Arrays" (343 : Nat) ({ cls := "java/util/Arrays", name := "checkLength", desc := "(II)V" } : Jvm.MethodName)) ∈ WS := ws_of (i := 850) (by decide +kernel) rfl
set_option maxRecDepth 100000 in
theorem q_790 : (Jvm.Cond.static ({ cls := "java/util/Arrays", name := "checkLength", desc := "(II)V" } : Jvm.MethodName)) ∈ WS := ws_of (i := 851) (by decide +kernel) rfl
set_option maxRecDepth 100000 in
theorem q_791 : (Jvm.Cond.code ({ cls := "java/util/Arrays", name := "checkLength", desc := "(II)V" } : Jvm.MethodName) prog_41_method_131_code (2 : Nat) (Option.none : Option Jvm.ClassFile.FieldType)) ∈ WS := ws_of (i := 852) (by decide +kernel) rfl
set_option maxRecDepth 100000 in
theorem q_1733 : (Jvm.Cond.selects "[Ljava/lang/Object;" ({ cls := "java/lang/Object", name := "getClass", desc := "()Ljava/lang/Class;" } : Jvm.MethodName) ({ cls := "java/lang/Object", name := "getClass", desc := "()Ljava/lang/Class;" } : Jvm.MethodName)) ∈ WS := ws_of (i := 1794) (by decide +kernel) rfl
abbrev cCI3 : ByteArray := prog_49_method_11_code
abbrev yCI3 : MethodName := ⟨"jdk/internal/util/Preconditions", "checkIndex", "(IILjava/util/function/BiFunction;)I"⟩
theorem eCI3_0 : decode cCI3 0 = .ok (.iload_n 0, 1) := by decide +kernel
theorem eCI3_1 : decode cCI3 1 = .ok (.ifCond .lt 8, 3) := by decide +kernel
theorem eCI3_4 : decode cCI3 4 = .ok (.iload_n 0, 1) := by decide +kernel
theorem eCI3_5 : decode cCI3 5 = .ok (.iload_n 1, 1) := by decide +kernel
theorem eCI3_6 : decode cCI3 6 = .ok (.if_icmp .lt 10, 3) := by decide +kernel
theorem eCI3_9 : decode cCI3 9 = .ok (.aload_n 2, 1) := by decide +kernel
theorem eCI3_10 : decode cCI3 10 = .ok (.iload_n 0, 1) := by decide +kernel
theorem eCI3_11 : decode cCI3 11 = .ok (.iload_n 1, 1) := by decide +kernel
theorem eCI3_12 : decode cCI3 12 = .ok (.invokestatic 95, 3) := by decide +kernel
theorem eCI3_15 : decode cCI3 15 = .ok (.athrow, 1) := by decide +kernel
theorem eCI3_16 : decode cCI3 16 = .ok (.iload_n 0, 1) := by decide +kernel
theorem eCI3_17 : decode cCI3 17 = .ok (.ireturn, 1) := by decide +kernel
abbrev cCI2 : ByteArray := prog_45_method_17_code
abbrev yCI2 : MethodName := ⟨"java/util/Objects", "checkIndex", "(II)I"⟩
theorem eCI2_0 : decode cCI2 0 = .ok (.iload_n 0, 1) := by decide +kernel
theorem eCI2_1 : decode cCI2 1 = .ok (.iload_n 1, 1) := by decide +kernel
theorem eCI2_2 : decode cCI2 2 = .ok (.aconst_null, 1) := by decide +kernel
theorem eCI2_3 : decode cCI2 3 = .ok (.invokestatic 105, 3) := by decide +kernel
theorem eCI2_6 : decode cCI2 6 = .ok (.ireturn, 1) := by decide +kernel
abbrev cED : ByteArray := prog_40_method_18_code
abbrev yED : MethodName := ⟨"java/util/ArrayList", "elementData", "(I)Ljava/lang/Object;"⟩
theorem eED_0 : decode cED 0 = .ok (.aload_n 0, 1) := by decide +kernel
theorem eED_1 : decode cED 1 = .ok (.getfield 9, 3) := by decide +kernel
theorem eED_4 : decode cED 4 = .ok (.iload_n 1, 1) := by decide +kernel
theorem eED_5 : decode cED 5 = .ok (.aaload, 1) := by decide +kernel
theorem eED_6 : decode cED 6 = .ok (.areturn, 1) := by decide +kernel
abbrev cGT : ByteArray := prog_40_method_20_code
abbrev yGT : MethodName := ⟨"java/util/ArrayList", "get", "(I)Ljava/lang/Object;"⟩
theorem eGT_0 : decode cGT 0 = .ok (.iload_n 1, 1) := by decide +kernel
theorem eGT_1 : decode cGT 1 = .ok (.aload_n 0, 1) := by decide +kernel
theorem eGT_2 : decode cGT 2 = .ok (.getfield 48, 3) := by decide +kernel
theorem eGT_5 : decode cGT 5 = .ok (.invokestatic 118, 3) := by decide +kernel
theorem eGT_8 : decode cGT 8 = .ok (.pop, 1) := by decide +kernel
theorem eGT_9 : decode cGT 9 = .ok (.aload_n 0, 1) := by decide +kernel
theorem eGT_10 : decode cGT 10 = .ok (.iload_n 1, 1) := by decide +kernel
theorem eGT_11 : decode cGT 11 = .ok (.invokevirtual 123, 3) := by decide +kernel
theorem eGT_14 : decode cGT 14 = .ok (.areturn, 1) := by decide +kernel
abbrev cSZ : ByteArray := prog_40_method_8_code
abbrev ySZ : MethodName := ⟨"java/util/ArrayList", "size", "()I"⟩
theorem eSZ_0 : decode cSZ 0 = .ok (.aload_n 0, 1) := by decide +kernel
theorem eSZ_1 : decode cSZ 1 = .ok (.getfield 48, 3) := by decide +kernel
theorem eSZ_4 : decode cSZ 4 = .ok (.ireturn, 1) := by decide +kernel
abbrev cRC : ByteArray := prog_40_method_45_code
abbrev yRC : MethodName := ⟨"java/util/ArrayList", "rangeCheckForAdd", "(I)V"⟩
theorem eRC_0 : decode cRC 0 = .ok (.iload_n 1, 1) := by decide +kernel
theorem eRC_1 : decode cRC 1 = .ok (.aload_n 0, 1) := by decide +kernel
theorem eRC_2 : decode cRC 2 = .ok (.getfield 48, 3) := by decide +kernel
theorem eRC_5 : decode cRC 5 = .ok (.if_icmp .gt 7, 3) := by decide +kernel
theorem eRC_8 : decode cRC 8 = .ok (.iload_n 1, 1) := by decide +kernel
theorem eRC_9 : decode cRC 9 = .ok (.ifCond .ge 16, 3) := by decide +kernel
theorem eRC_12 : decode cRC 12 = .ok (.new 187, 3) := by decide +kernel
theorem eRC_15 : decode cRC 15 = .ok (.dup, 1) := by decide +kernel
theorem eRC_16 : decode cRC 16 = .ok (.aload_n 0, 1) := by decide +kernel
theorem eRC_17 : decode cRC 17 = .ok (.iload_n 1, 1) := by decide +kernel
theorem eRC_18 : decode cRC 18 = .ok (.invokevirtual 198, 3) := by decide +kernel
theorem eRC_21 : decode cRC 21 = .ok (.invokespecial 193, 3) := by decide +kernel
theorem eRC_24 : decode cRC 24 = .ok (.athrow, 1) := by decide +kernel
theorem eRC_25 : decode cRC 25 = .ok (.return_, 1) := by decide +kernel
abbrev cNL : ByteArray := prog_48_method_27_code
abbrev yNL : MethodName := ⟨"jdk/internal/util/ArraysSupport", "newLength", "(III)I"⟩
theorem eNL_0 : decode cNL 0 = .ok (.iload_n 0, 1) := by decide +kernel
theorem eNL_1 : decode cNL 1 = .ok (.iload_n 1, 1) := by decide +kernel
theorem eNL_2 : decode cNL 2 = .ok (.iload_n 2, 1) := by decide +kernel
theorem eNL_3 : decode cNL 3 = .ok (.invokestatic 194, 3) := by decide +kernel
theorem eNL_6 : decode cNL 6 = .ok (.iadd, 1) := by decide +kernel
theorem eNL_7 : decode cNL 7 = .ok (.istore_n 3, 1) := by decide +kernel
theorem eNL_8 : decode cNL 8 = .ok (.iconst 0, 1) := by decide +kernel
theorem eNL_9 : decode cNL 9 = .ok (.iload_n 3, 1) := by decide +kernel
theorem eNL_10 : decode cNL 10 = .ok (.if_icmp .ge 11, 3) := by decide +kernel
theorem eNL_13 : decode cNL 13 = .ok (.iload_n 3, 1) := by decide +kernel
theorem eNL_14 : decode cNL 14 = .ok (.ldc 200, 2) := by decide +kernel
theorem eNL_16 : decode cNL 16 = .ok (.if_icmp .gt 5, 3) := by decide +kernel
theorem eNL_19 : decode cNL 19 = .ok (.iload_n 3, 1) := by decide +kernel
theorem eNL_20 : decode cNL 20 = .ok (.ireturn, 1) := by decide +kernel
theorem eNL_21 : decode cNL 21 = .ok (.iload_n 0, 1) := by decide +kernel
theorem eNL_22 : decode cNL 22 = .ok (.iload_n 1, 1) := by decide +kernel
theorem eNL_23 : decode cNL 23 = .ok (.invokestatic 201, 3) := by decide +kernel
theorem eNL_26 : decode cNL 26 = .ok (.ireturn, 1) := by decide +kernel
abbrev cCP3 : ByteArray := prog_41_method_120_code
abbrev yCP3 : MethodName := ⟨"java/util/Arrays", "copyOf", "([Ljava/lang/Object;ILjava/lang/Class;)[Ljava/lang/Object;"⟩
theorem eCP3_0 : decode cCP3 0 = .ok (.aload_n 2, 1) := by decide +kernel
theorem eCP3_1 : decode cCP3 1 = .ok (.ldc 110, 2) := by decide +kernel
theorem eCP3_3 : decode cCP3 3 = .ok (.if_acmp .ne 10, 3) := by decide +kernel
theorem eCP3_6 : decode cCP3 6 = .ok (.iload_n 1, 1) := by decide +kernel
theorem eCP3_7 : decode cCP3 7 = .ok (.anewarray 2, 3) := by decide +kernel
theorem eCP3_10 : decode cCP3 10 = .ok (.goto 14, 3) := by decide +kernel
theorem eCP3_13 : decode cCP3 13 = .ok (.aload_n 2, 1) := by decide +kernel
theorem eCP3_14 : decode cCP3 14 = .ok (.invokevirtual 90, 3) := by decide +kernel
theorem eCP3_17 : decode cCP3 17 = .ok (.iload_n 1, 1) := by decide +kernel
theorem eCP3_18 : decode cCP3 18 = .ok (.invokestatic 95, 3) := by decide +kernel
theorem eCP3_21 : decode cCP3 21 = .ok (.checkcast 110, 3) := by decide +kernel
theorem eCP3_24 : decode cCP3 24 = .ok (.astore_n 3, 1) := by decide +kernel
theorem eCP3_25 : decode cCP3 25 = .ok (.aload_n 0, 1) := by decide +kernel
theorem eCP3_26 : decode cCP3 26 = .ok (.iconst 0, 1) := by decide +kernel
theorem eCP3_27 : decode cCP3 27 = .ok (.aload_n 3, 1) := by decide +kernel
theorem eCP3_28 : decode cCP3 28 = .ok (.iconst 0, 1) := by decide +kernel
theorem eCP3_29 : decode cCP3 29 = .ok (.aload_n 0, 1) := by decide +kernel
theorem eCP3_30 : decode cCP3 30 = .ok (.arraylength, 1) := by decide +kernel
theorem eCP3_31 : decode cCP3 31 = .ok (.iload_n 1, 1) := by decide +kernel
theorem eCP3_32 : decode cCP3 32 = .ok (.invokestatic 304, 3) := by decide +kernel
theorem eCP3_35 : decode cCP3 35 = .ok (.invokestatic 150, 3) := by decide +kernel
theorem eCP3_38 : decode cCP3 38 = .ok (.aload_n 3, 1) := by decide +kernel
theorem eCP3_39 : decode cCP3 39 = .ok (.areturn, 1) := by decide +kernel
abbrev cCP2 : ByteArray := prog_41_method_119_code
abbrev yCP2 : MethodName := ⟨"java/util/Arrays", "copyOf", "([Ljava/lang/Object;I)[Ljava/lang/Object;"⟩
theorem eCP2_0 : decode cCP2 0 = .ok (.aload_n 0, 1) := by decide +kernel
theorem eCP2_1 : decode cCP2 1 = .ok (.iload_n 1, 1) := by decide +kernel
theorem eCP2_2 : decode cCP2 2 = .ok (.aload_n 0, 1) := by decide +kernel
theorem eCP2_3 : decode cCP2 3 = .ok (.invokevirtual 86, 3) := by decide +kernel
theorem eCP2_6 : decode cCP2 6 = .ok (.invokestatic 300, 3) := by decide +kernel
theorem eCP2_9 : decode cCP2 9 = .ok (.areturn, 1) := by decide +kernel
abbrev cGI : ByteArray := prog_40_method_6_code
abbrev yGI : MethodName := ⟨"java/util/ArrayList", "grow", "(I)[Ljava/lang/Object;"⟩
theorem eGI_0 : decode cGI 0 = .ok (.aload_n 0, 1) := by decide +kernel
theorem eGI_1 : decode cGI 1 = .ok (.getfield 9, 3) := by decide +kernel
theorem eGI_4 : decode cGI 4 = .ok (.arraylength, 1) := by decide +kernel
theorem eGI_5 : decode cGI 5 = .ok (.istore_n 2, 1) := by decide +kernel
theorem eGI_6 : decode cGI 6 = .ok (.iload_n 2, 1) := by decide +kernel
theorem eGI_7 : decode cGI 7 = .ok (.ifCond .gt 13, 3) := by decide +kernel
theorem eGI_10 : decode cGI 10 = .ok (.aload_n 0, 1) := by decide +kernel
theorem eGI_11 : decode cGI 11 = .ok (.getfield 9, 3) := by decide +kernel
theorem eGI_14 : decode cGI 14 = .ok (.getstatic 39, 3) := by decide +kernel
theorem eGI_17 : decode cGI 17 = .ok (.if_acmp .eq 28, 3) := by decide +kernel
theorem eGI_20 : decode cGI 20 = .ok (.iload_n 2, 1) := by decide +kernel
theorem eGI_21 : decode cGI 21 = .ok (.iload_n 1, 1) := by decide +kernel
theorem eGI_22 : decode cGI 22 = .ok (.iload_n 2, 1) := by decide +kernel
theorem eGI_23 : decode cGI 23 = .ok (.isub, 1) := by decide +kernel
theorem eGI_24 : decode cGI 24 = .ok (.iload_n 2, 1) := by decide +kernel
theorem eGI_25 : decode cGI 25 = .ok (.iconst 1, 1) := by decide +kernel
theorem eGI_26 : decode cGI 26 = .ok (.ishr, 1) := by decide +kernel
theorem eGI_27 : decode cGI 27 = .ok (.invokestatic 73, 3) := by decide +kernel
theorem eGI_30 : decode cGI 30 = .ok (.istore_n 3, 1) := by decide +kernel
theorem eGI_31 : decode cGI 31 = .ok (.aload_n 0, 1) := by decide +kernel
theorem eGI_32 : decode cGI 32 = .ok (.aload_n 0, 1) := by decide +kernel
theorem eGI_33 : decode cGI 33 = .ok (.getfield 9, 3) := by decide +kernel
theorem eGI_36 : decode cGI 36 = .ok (.iload_n 3, 1) := by decide +kernel
theorem eGI_37 : decode cGI 37 = .ok (.invokestatic 66, 3) := by decide +kernel
theorem eGI_40 : decode cGI 40 = .ok (.dup_x1, 1) := by decide +kernel
theorem eGI_41 : decode cGI 41 = .ok (.putfield 9, 3) := by decide +kernel
theorem eGI_44 : decode cGI 44 = .ok (.areturn, 1) := by decide +kernel
theorem eGI_45 : decode cGI 45 = .ok (.aload_n 0, 1) := by decide +kernel
theorem eGI_46 : decode cGI 46 = .ok (.bipush 10, 2) := by decide +kernel
theorem eGI_48 : decode cGI 48 = .ok (.iload_n 1, 1) := by decide +kernel
theorem eGI_49 : decode cGI 49 = .ok (.invokestatic 79, 3) := by decide +kernel
theorem eGI_52 : decode cGI 52 = .ok (.anewarray 7, 3) := by decide +kernel
theorem eGI_55 : decode cGI 55 = .ok (.dup_x1, 1) := by decide +kernel
theorem eGI_56 : decode cGI 56 = .ok (.putfield 9, 3) := by decide +kernel
theorem eGI_59 : decode cGI 59 = .ok (.areturn, 1) := by decide +kernel
abbrev cGR : ByteArray := prog_40_method_7_code
abbrev yGR : MethodName := ⟨"java/util/ArrayList", "grow", "()[Ljava/lang/Object;"⟩
theorem eGR_0 : decode cGR 0 = .ok (.aload_n 0, 1) := by decide +kernel
theorem eGR_1 : decode cGR 1 = .ok (.aload_n 0, 1) := by decide +kernel
theorem eGR_2 : decode cGR 2 = .ok (.getfield 48, 3) := by decide +kernel
theorem eGR_5 : decode cGR 5 = .ok (.iconst 1, 1) := by decide +kernel
theorem eGR_6 : decode cGR 6 = .ok (.iadd, 1) := by decide +kernel
theorem eGR_7 : decode cGR 7 = .ok (.invokevirtual 69, 3) := by decide +kernel
theorem eGR_10 : decode cGR 10 = .ok (.areturn, 1) := by decide +kernel
abbrev cA3 : ByteArray := prog_40_method_24_code
abbrev yA3 : MethodName := ⟨"java/util/ArrayList", "add", "(Ljava/lang/Object;[Ljava/lang/Object;I)V"⟩
theorem eA3_0 : decode cA3 0 = .ok (.iload_n 3, 1) := by decide +kernel
theorem eA3_1 : decode cA3 1 = .ok (.aload_n 2, 1) := by decide +kernel
theorem eA3_2 : decode cA3 2 = .ok (.arraylength, 1) := by decide +kernel
theorem eA3_3 : decode cA3 3 = .ok (.if_icmp .ne 8, 3) := by decide +kernel
theorem eA3_6 : decode cA3 6 = .ok (.aload_n 0, 1) := by decide +kernel
theorem eA3_7 : decode cA3 7 = .ok (.invokevirtual 129, 3) := by decide +kernel
theorem eA3_10 : decode cA3 10 = .ok (.astore_n 2, 1) := by decide +kernel
theorem eA3_11 : decode cA3 11 = .ok (.aload_n 2, 1) := by decide +kernel
theorem eA3_12 : decode cA3 12 = .ok (.iload_n 3, 1) := by decide +kernel
theorem eA3_13 : decode cA3 13 = .ok (.aload_n 1, 1) := by decide +kernel
theorem eA3_14 : decode cA3 14 = .ok (.aastore, 1) := by decide +kernel
theorem eA3_15 : decode cA3 15 = .ok (.aload_n 0, 1) := by decide +kernel
theorem eA3_16 : decode cA3 16 = .ok (.iload_n 3, 1) := by decide +kernel
theorem eA3_17 : decode cA3 17 = .ok (.iconst 1, 1) := by decide +kernel
theorem eA3_18 : decode cA3 18 = .ok (.iadd, 1) := by decide +kernel
theorem eA3_19 : decode cA3 19 = .ok (.putfield 48, 3) := by decide +kernel
theorem eA3_22 : decode cA3 22 = .ok (.return_, 1) := by decide +kernel
abbrev cA1 : ByteArray := prog_40_method_25_code
abbrev yA1 : MethodName := ⟨"java/util/ArrayList", "add", "(Ljava/lang/Object;)Z"⟩
theorem eA1_0 : decode cA1 0 = .ok (.aload_n 0, 1) := by decide +kernel
theorem eA1_1 : decode cA1 1 = .ok (.dup, 1) := by decide +kernel
theorem eA1_2 : decode cA1 2 = .ok (.getfield 63, 3) := by decide +kernel
theorem eA1_5 : decode cA1 5 = .ok (.iconst 1, 1) := by decide +kernel
theorem eA1_6 : decode cA1 6 = .ok (.iadd, 1) := by decide +kernel
theorem eA1_7 : decode cA1 7 = .ok (.putfield 63, 3) := by decide +kernel
theorem eA1_10 : decode cA1 10 = .ok (.aload_n 0, 1) := by decide +kernel
theorem eA1_11 : decode cA1 11 = .ok (.aload_n 1, 1) := by decide +kernel
theorem eA1_12 : decode cA1 12 = .ok (.aload_n 0, 1) := by decide +kernel
theorem eA1_13 : decode cA1 13 = .ok (.getfield 9, 3) := by decide +kernel
theorem eA1_16 : decode cA1 16 = .ok (.aload_n 0, 1) := by decide +kernel
theorem eA1_17 : decode cA1 17 = .ok (.getfield 48, 3) := by decide +kernel
theorem eA1_20 : decode cA1 20 = .ok (.invokevirtual 131, 3) := by decide +kernel
theorem eA1_23 : decode cA1 23 = .ok (.iconst 1, 1) := by decide +kernel
theorem eA1_24 : decode cA1 24 = .ok (.ireturn, 1) := by decide +kernel
abbrev cAI : ByteArray := prog_40_method_26_code
abbrev yAI : MethodName := ⟨"java/util/ArrayList", "add", "(ILjava/lang/Object;)V"⟩
theorem eAI_0 : decode cAI 0 = .ok (.aload_n 0, 1) := by decide +kernel
theorem eAI_1 : decode cAI 1 = .ok (.iload_n 1, 1) := by decide +kernel
theorem eAI_2 : decode cAI 2 = .ok (.invokevirtual 135, 3) := by decide +kernel
theorem eAI_5 : decode cAI 5 = .ok (.aload_n 0, 1) := by decide +kernel
theorem eAI_6 : decode cAI 6 = .ok (.dup, 1) := by decide +kernel
theorem eAI_7 : decode cAI 7 = .ok (.getfield 63, 3) := by decide +kernel
theorem eAI_10 : decode cAI 10 = .ok (.iconst 1, 1) := by decide +kernel
theorem eAI_11 : decode cAI 11 = .ok (.iadd, 1) := by decide +kernel
theorem eAI_12 : decode cAI 12 = .ok (.putfield 63, 3) := by decide +kernel
theorem eAI_15 : decode cAI 15 = .ok (.aload_n 0, 1) := by decide +kernel
theorem eAI_16 : decode cAI 16 = .ok (.getfield 48, 3) := by decide +kernel
theorem eAI_19 : decode cAI 19 = .ok (.dup, 1) := by decide +kernel
theorem eAI_20 : decode cAI 20 = .ok (.istore_n 3, 1) := by decide +kernel
theorem eAI_21 : decode cAI 21 = .ok (.aload_n 0, 1) := by decide +kernel
theorem eAI_22 : decode cAI 22 = .ok (.getfield 9, 3) := by decide +kernel
theorem eAI_25 : decode cAI 25 = .ok (.dup, 1) := by decide +kernel
theorem eAI_26 : decode cAI 26 = .ok (.astore 4, 2) := by decide +kernel
theorem eAI_28 : decode cAI 28 = .ok (.arraylength, 1) := by decide +kernel
theorem eAI_29 : decode cAI 29 = .ok (.if_icmp .ne 9, 3) := by decide +kernel
theorem eAI_32 : decode cAI 32 = .ok (.aload_n 0, 1) := by decide +kernel
theorem eAI_33 : decode cAI 33 = .ok (.invokevirtual 129, 3) := by decide +kernel
theorem eAI_36 : decode cAI 36 = .ok (.astore 4, 2) := by decide +kernel
theorem eAI_38 : decode cAI 38 = .ok (.aload 4, 2) := by decide +kernel
theorem eAI_40 : decode cAI 40 = .ok (.iload_n 1, 1) := by decide +kernel
theorem eAI_41 : decode cAI 41 = .ok (.aload 4, 2) := by decide +kernel
theorem eAI_43 : decode cAI 43 = .ok (.iload_n 1, 1) := by decide +kernel
theorem eAI_44 : decode cAI 44 = .ok (.iconst 1, 1) := by decide +kernel
theorem eAI_45 : decode cAI 45 = .ok (.iadd, 1) := by decide +kernel
theorem eAI_46 : decode cAI 46 = .ok (.iload_n 3, 1) := by decide +kernel
theorem eAI_47 : decode cAI 47 = .ok (.iload_n 1, 1) := by decide +kernel
theorem eAI_48 : decode cAI 48 = .ok (.isub, 1) := by decide +kernel
theorem eAI_49 : decode cAI 49 = .ok (.invokestatic 112, 3) := by decide +kernel
theorem eAI_52 : decode cAI 52 = .ok (.aload 4, 2) := by decide +kernel
theorem eAI_54 : decode cAI 54 = .ok (.iload_n 1, 1) := by decide +kernel
theorem eAI_55 : decode cAI 55 = .ok (.aload_n 2, 1) := by decide +kernel
theorem eAI_56 : decode cAI 56 = .ok (.aastore, 1) := by decide +kernel
theorem eAI_57 : decode cAI 57 = .ok (.aload_n 0, 1) := by decide +kernel
theorem eAI_58 : decode cAI 58 = .ok (.iload_n 3, 1) := by decide +kernel
theorem eAI_59 : decode cAI 59 = .ok (.iconst 1, 1) := by decide +kernel
theorem eAI_60 : decode cAI 60 = .ok (.iadd, 1) := by decide +kernel
theorem eAI_61 : decode cAI 61 = .ok (.putfield 48, 3) := by decide +kernel
theorem eAI_64 : decode cAI 64 = .ok (.return_, 1) := by decide +kernel
abbrev cFR : ByteArray := prog_40_method_39_code
abbrev yFR : MethodName := ⟨"java/util/ArrayList", "fastRemove", "([Ljava/lang/Object;I)V"⟩
theorem eFR_0 : decode cFR 0 = .ok (.aload_n 0, 1) := by decide +kernel
theorem eFR_1 : decode cFR 1 = .ok (.dup, 1) := by decide +kernel
theorem eFR_2 : decode cFR 2 = .ok (.getfield 63, 3) := by decide +kernel
theorem eFR_5 : decode cFR 5 = .ok (.iconst 1, 1) := by decide +kernel
theorem eFR_6 : decode cFR 6 = .ok (.iadd, 1) := by decide +kernel
theorem eFR_7 : decode cFR 7 = .ok (.putfield 63, 3) := by decide +kernel
theorem eFR_10 : decode cFR 10 = .ok (.aload_n 0, 1) := by decide +kernel
theorem eFR_11 : decode cFR 11 = .ok (.getfield 48, 3) := by decide +kernel
theorem eFR_14 : decode cFR 14 = .ok (.iconst 1, 1) := by decide +kernel
theorem eFR_15 : decode cFR 15 = .ok (.isub, 1) := by decide +kernel
theorem eFR_16 : decode cFR 16 = .ok (.dup, 1) := by decide +kernel
theorem eFR_17 : decode cFR 17 = .ok (.istore_n 3, 1) := by decide +kernel
theorem eFR_18 : decode cFR 18 = .ok (.iload_n 2, 1) := by decide +kernel
theorem eFR_19 : decode cFR 19 = .ok (.if_icmp .le 15, 3) := by decide +kernel
theorem eFR_22 : decode cFR 22 = .ok (.aload_n 1, 1) := by decide +kernel
theorem eFR_23 : decode cFR 23 = .ok (.iload_n 2, 1) := by decide +kernel
theorem eFR_24 : decode cFR 24 = .ok (.iconst 1, 1) := by decide +kernel
theorem eFR_25 : decode cFR 25 = .ok (.iadd, 1) := by decide +kernel
theorem eFR_26 : decode cFR 26 = .ok (.aload_n 1, 1) := by decide +kernel
theorem eFR_27 : decode cFR 27 = .ok (.iload_n 2, 1) := by decide +kernel
theorem eFR_28 : decode cFR 28 = .ok (.iload_n 3, 1) := by decide +kernel
theorem eFR_29 : decode cFR 29 = .ok (.iload_n 2, 1) := by decide +kernel
theorem eFR_30 : decode cFR 30 = .ok (.isub, 1) := by decide +kernel
theorem eFR_31 : decode cFR 31 = .ok (.invokestatic 112, 3) := by decide +kernel
theorem eFR_34 : decode cFR 34 = .ok (.aload_n 1, 1) := by decide +kernel
theorem eFR_35 : decode cFR 35 = .ok (.aload_n 0, 1) := by decide +kernel
theorem eFR_36 : decode cFR 36 = .ok (.iload_n 3, 1) := by decide +kernel
theorem eFR_37 : decode cFR 37 = .ok (.dup_x1, 1) := by decide +kernel
theorem eFR_38 : decode cFR 38 = .ok (.putfield 48, 3) := by decide +kernel
theorem eFR_41 : decode cFR 41 = .ok (.aconst_null, 1) := by decide +kernel
theorem eFR_42 : decode cFR 42 = .ok (.aastore, 1) := by decide +kernel
theorem eFR_43 : decode cFR 43 = .ok (.return_, 1) := by decide +kernel
abbrev cRM : ByteArray := prog_40_method_29_code
abbrev yRM : MethodName := ⟨"java/util/ArrayList", "remove", "(I)Ljava/lang/Object;"⟩
theorem eRM_0 : decode cRM 0 = .ok (.iload_n 1, 1) := by decide +kernel
theorem eRM_1 : decode cRM 1 = .ok (.aload_n 0, 1) := by decide +kernel
theorem eRM_2 : decode cRM 2 = .ok (.getfield 48, 3) := by decide +kernel
theorem eRM_5 : decode cRM 5 = .ok (.invokestatic 118, 3) := by decide +kernel
theorem eRM_8 : decode cRM 8 = .ok (.pop, 1) := by decide +kernel
theorem eRM_9 : decode cRM 9 = .ok (.aload_n 0, 1) := by decide +kernel
theorem eRM_10 : decode cRM 10 = .ok (.getfield 9, 3) := by decide +kernel
theorem eRM_13 : decode cRM 13 = .ok (.astore_n 2, 1) := by decide +kernel
theorem eRM_14 : decode cRM 14 = .ok (.aload_n 2, 1) := by decide +kernel
theorem eRM_15 : decode cRM 15 = .ok (.iload_n 1, 1) := by decide +kernel
theorem eRM_16 : decode cRM 16 = .ok (.aaload, 1) := by decide +kernel
theorem eRM_17 : decode cRM 17 = .ok (.astore_n 3, 1) := by decide +kernel
theorem eRM_18 : decode cRM 18 = .ok (.aload_n 0, 1) := by decide +kernel
theorem eRM_19 : decode cRM 19 = .ok (.aload_n 2, 1) := by decide +kernel
theorem eRM_20 : decode cRM 20 = .ok (.iload_n 1, 1) := by decide +kernel
theorem eRM_21 : decode cRM 21 = .ok (.invokevirtual 144, 3) := by decide +kernel
theorem eRM_24 : decode cRM 24 = .ok (.aload_n 3, 1) := by decide +kernel
theorem eRM_25 : decode cRM 25 = .ok (.areturn, 1) := by decide +kernel
abbrev cCL : ByteArray := prog_40_method_40_code
abbrev yCL : MethodName := ⟨"java/util/ArrayList", "clear", "()V"⟩
theorem eCL_0 : decode cCL 0 = .ok (.aload_n 0, 1) := by decide +kernel
theorem eCL_1 : decode cCL 1 = .ok (.dup, 1) := by decide +kernel
theorem eCL_2 : decode cCL 2 = .ok (.getfield 63, 3) := by decide +kernel
theorem eCL_5 : decode cCL 5 = .ok (.iconst 1, 1) := by decide +kernel
theorem eCL_6 : decode cCL 6 = .ok (.iadd, 1) := by decide +kernel
theorem eCL_7 : decode cCL 7 = .ok (.putfield 63, 3) := by decide +kernel
theorem eCL_10 : decode cCL 10 = .ok (.aload_n 0, 1) := by decide +kernel
theorem eCL_11 : decode cCL 11 = .ok (.getfield 9, 3) := by decide +kernel
theorem eCL_14 : decode cCL 14 = .ok (.astore_n 1, 1) := by decide +kernel
theorem eCL_15 : decode cCL 15 = .ok (.aload_n 0, 1) := by decide +kernel
theorem eCL_16 : decode cCL 16 = .ok (.getfield 48, 3) := by decide +kernel
theorem eCL_19 : decode cCL 19 = .ok (.istore_n 2, 1) := by decide +kernel
theorem eCL_20 : decode cCL 20 = .ok (.aload_n 0, 1) := by decide +kernel
theorem eCL_21 : decode cCL 21 = .ok (.iconst 0, 1) := by decide +kernel
theorem eCL_22 : decode cCL 22 = .ok (.dup_x1, 1) := by decide +kernel
theorem eCL_23 : decode cCL 23 = .ok (.putfield 48, 3) := by decide +kernel
theorem eCL_26 : decode cCL 26 = .ok (.istore_n 3, 1) := by decide +kernel
theorem eCL_27 : decode cCL 27 = .ok (.iload_n 3, 1) := by decide +kernel
theorem eCL_28 : decode cCL 28 = .ok (.iload_n 2, 1) := by decide +kernel
theorem eCL_29 : decode cCL 29 = .ok (.if_icmp .ge 13, 3) := by decide +kernel
theorem eCL_32 : decode cCL 32 = .ok (.aload_n 1, 1) := by decide +kernel
theorem eCL_33 : decode cCL 33 = .ok (.iload_n 3, 1) := by decide +kernel
theorem eCL_34 : decode cCL 34 = .ok (.aconst_null, 1) := by decide +kernel
theorem eCL_35 : decode cCL 35 = .ok (.aastore, 1) := by decide +kernel
theorem eCL_36 : decode cCL 36 = .ok (.iinc 3 1, 3) := by decide +kernel
theorem eCL_39 : decode cCL 39 = .ok (.goto (-12), 3) := by decide +kernel
theorem eCL_42 : decode cCL 42 = .ok (.return_, 1) := by decide +kernel
abbrev cIN : ByteArray := prog_40_method_2_code
abbrev yIN : MethodName := ⟨"java/util/ArrayList", "<init>", "()V"⟩
theorem eIN_0 : decode cIN 0 = .ok (.aload_n 0, 1) := by decide +kernel
theorem eIN_1 : decode cIN 1 = .ok (.invokespecial 1, 3) := by decide +kernel
theorem eIN_4 : decode cIN 4 = .ok (.aload_n 0, 1) := by decide +kernel
theorem eIN_5 : decode cIN 5 = .ok (.getstatic 39, 3) := by decide +kernel
theorem eIN_8 : decode cIN 8 = .ok (.putfield 9, 3) := by decide +kernel
theorem eIN_11 : decode cIN 11 = .ok (.return_, 1) := by decide +kernel
abbrev cIL : ByteArray := prog_39_method_1_code
abbrev yIL : MethodName := ⟨"java/util/AbstractList", "<init>", "()V"⟩
theorem eIL_0 : decode cIL 0 = .ok (.aload_n 0, 1) := by decide +kernel
theorem eIL_1 : decode cIL 1 = .ok (.invokespecial 1, 3) := by decide +kernel
theorem eIL_4 : decode cIL 4 = .ok (.aload_n 0, 1) := by decide +kernel
theorem eIL_5 : decode cIL 5 = .ok (.iconst 0, 1) := by decide +kernel
theorem eIL_6 : decode cIL 6 = .ok (.putfield 7, 3) := by decide +kernel
theorem eIL_9 : decode cIL 9 = .ok (.return_, 1) := by decide +kernel
abbrev cIC : ByteArray := prog_38_method_1_code
abbrev yIC : MethodName := ⟨"java/util/AbstractCollection", "<init>", "()V"⟩
theorem eIC_0 : decode cIC 0 = .ok (.aload_n 0, 1) := by decide +kernel
theorem eIC_1 : decode cIC 1 = .ok (.invokespecial 1, 3) := by decide +kernel
theorem eIC_4 : decode cIC 4 = .ok (.return_, 1) := by decide +kernel
end
section
/-! the JDK's lists: frames and calls -/
def JC (y : MethodName) (cc : ByteArray) (mL : Nat) (ret : Option FieldType) (p : Program) (s : State) (m : MethodId) (args : Array Value) (meth : Method) (c : Code) : Prop :=
  p.tables.exec = Jvm.exec ∧ c.code = cc ∧ c.maxLocals = mL ∧ meth.sig.returnType = ret ∧ s.vm.findClass y.cls = some m.cls ∧ meth.locks = false ∧ meth.name = y.name ∧ ∀ w ∈ WS, w.before args s = true
theorem JC.fix {y : MethodName} {cc : ByteArray} {mL : Nat} {ret : Option FieldType} {p : Program} {s : State} {m : MethodId} {args : Array Value} {meth : Method} {c : Code} (h : JC y cc mL ret p s m args meth c) : CallFix p m c cc mL s args WS y.cls := ⟨h.1, h.2.1, h.2.2.1, h.2.2.2.2.1, h.2.2.2.2.2.2.2⟩
def rmJ (k mc ms : Nat) : Room := { frames := k, cells := mc, slots := ms, locals := 100 * k }
def PcJ (base E0 mi : Nat) (D : va_G) (tys : List (ClassId × FieldType)) (H : Heap) (as : List Value) : Array Value → State → Prop := va_Pc as (fun U => U.heap = H ∧ va_K D vcl tys U ∧ EnvW base E0 U U.heap ∧ va_Mi "[Ljava/lang/Object;" mi U)
theorem PcJ_blind {base E0 mi : Nat} {D : va_G} {tys : List (ClassId × FieldType)} {H : Heap} {as : List Value} : FrameBlind (PcJ base E0 mi D tys H as) := by
  intro a U g mk q
  obtain ⟨q1, q2, q3, q4, q5⟩ := q
  exact ⟨q1, q2, va_K.moved (u := U) (U := U.calling g mk a) (Vm.Alike.refl U.vm) q3, EnvW.moved (u := U) (U := U.calling g mk a) (State.WarmedH.refl U) q4, va_Mi.moved (u := U) (U := U.calling g mk a) (Vm.Alike.refl U.vm) q5⟩
abbrev JM (l : Launch) (y : MethodName) (cc : ByteArray) (mL : Nat) (ret : Option FieldType) (k mc ms base E0 mi : Nat) (D : va_G) (tys : List (ClassId × FieldType)) (H : Heap) (as : List Value) (Qc : Array Value → State → Outcome → State → Prop) (free : Addr → Prop) : Prop :=
  Met l y (Cond.code y cc mL ret :: WS) (rmJ k mc ms) (PcJ base E0 mi D tys H as) Qc mc ms free
theorem JM.mk {l : Launch} {y : MethodName} {cc : ByteArray} {mL : Nat} {ret : Option FieldType} {k mc ms base E0 mi : Nat} {D : va_G} {tys : List (ClassId × FieldType)} {H : Heap} {as : List Value} {Qc : Array Value → State → Outcome → State → Prop} {free : Addr → Prop} (hy : plainName y.cls = true)
    (hn : (lg_sl as).length ≤ mL)
    (body : ∀ (p : Program) (e : Env) (s : State) (m : MethodId) (below : List Frame) (meth : Method) (c : Code) (ls : Array Slot), JC y cc mL ret p s m as.toArray meth c → s.heap = H → va_K D vcl tys s → EnvW base E0 s s.heap → va_Mi "[Ljava/lang/Object;" mi s → lv_has ls mL (lv_args 0 as) →
      W p l e (rmJ k mc ms) s m as.toArray below meth c s.heap [] 0 0 (MQ below Qc as.toArray s mc ms free) (F0 m 0 ls [])) : JM l y cc mL ret k mc ms base E0 mi D tys H as Qc free := by
  refine Met.ofW (cc := cc) (maxL := mL) (ret := ret) hy rfl ?_
  intro p e s m args below meth c s₁ B hml hv
  obtain ⟨rfl, h1, h2, h3, h4⟩ := hv
  have hts := atoms_spec (ws := Cond.code y cc mL ret :: WS) B.pre
  rw [lg_entry_eq]
  exact body p e s m below meth c _ ⟨B.exec, B.bytes, hml, B.returns, findClass_of_methodNamed B.named, B.notSynchronized, (name_of_methodNamed B.named B.method).1, fun w hw => hts w (List.mem_cons_of_mem _ hw)⟩ h1 h2 h3 h4 (lv_entry as (n := mL) hn)
def JB (own : String) (idx : Nat) (y2 : MethodName) (cc2 : ByteArray) (mL2 : Nat) (ret2 : Option FieldType) (n : Nat) : Prop :=
  Cond.methodLink own idx y2 ∈ WS ∧ Cond.initialized y2.cls ∈ WS ∧ Cond.code y2 cc2 mL2 ret2 ∈ WS ∧ (y2.cls ≠ "java/lang/invoke/MethodHandle" ∧ y2.cls ≠ "java/lang/invoke/VarHandle") ∧ (parseMethodDescriptor y2.desc).map (fun d => d.parameters.length) = some n ∧ mL2 ≤ 10
theorem Z_mono {C n d : String} {v : Value} {A A' : Nat → Prop} {U : State} {H : Heap} (h : va_Z C n d v A U H) (hA : ∀ q, A' q → A q) : va_Z C n d v A' U H := by
  obtain ⟨cf, kf, fi, f, a, cell, h1, h2, h3, h4, h5, h6, h7, h8⟩ := h
  exact ⟨cf, kf, fi, f, a, cell, h1, h2, h3, h4, h5, h6, h7, fun z => h8 (hA _ z)⟩
section JS
variable {p : Program} {l : Launch} {e : Env} {R : Room} {s : State} {m : MethodId} {args : Array Value} {below : List Frame} {meth : Method} {c : Code} {H : Heap} {locs : List Loc} {cells slots : Nat} {Q : State → Prop}
variable {cc : ByteArray} {pc nL : Nat} {ls : Array Slot} {rest : List Value} {A : Nat → Prop} {own : String}
variable {y2 : MethodName} {cc2 : ByteArray} {mL2 : Nat} {ret2 : Option FieldType} {k2 mc ms base E0 mi : Nat} {D : va_G} {tys : List (ClassId × FieldType)} {as : List Value} {Qc : Array Value → State → Outcome → State → Prop} {free : Addr → Prop} {idx n : Nat}
theorem JB.cb (h : JB own idx y2 cc2 mL2 ret2 n) (hts : ∀ w ∈ WS, w.before args s = true) (hk : k2 + 1 ≤ R.frames) (hl : 100 * k2 + 30 ≤ R.locals) : CallB R s args own idx y2 cc2 mL2 ret2 (Cond.code y2 cc2 mL2 ret2 :: WS) (rmJ k2 mc ms) mc ms n := by
  obtain ⟨h1, h2, h3, h4, h5, h6⟩ := h
  refine ⟨rfl, rfl, hk, ?_, fun w hw a' U hW => ?_, List.mem_cons_self, hts _ h3, hts _ h2, h4, fun sig h9 => ?_, hts _ h1⟩
  · show 8 + (mL2 + 11) + 100 * k2 ≤ _
    omega
  · have hw' : w ∈ WS := by
      rcases List.mem_cons.mp hw with rfl | h9
      · exact h3
      · exact h9
    exact word_at hW (WS_good w hw') (hts w hw')
  · rw [h9] at h5
    exact (Option.some.inj h5).symm
theorem pcj_at {H0 : Heap} (hA : ∀ q, A q → base ≤ q) (hK : va_K D vcl tys s) (hE : EnvW base E0 s s.heap) (hM0 : va_Mi "[Ljava/lang/Object;" mi s) (hS : va_S A s.heap H locs) (vs : List Value) (U : State) (hU : U.heap = H) (hW : s.WarmedH U.vm) : PcJ base E0 mi D tys H vs vs.toArray U := by
  have h1 : EnvW base E0 s H := hE.kept fun a h1 h2 => hS.2.1 a h1 (fun z => h2 (hA _ z))
  exact ⟨rfl, hU, va_K.moved hW.alike hK, by rw [hU]; exact h1.moved hW, hM0.moved hW.alike⟩
theorem jcallS (F : CallFix p m c cc nL s args WS own) (hM : JM l y2 cc2 mL2 ret2 k2 mc ms base E0 mi D tys H as Qc free) (hB : JB own idx y2 cc2 mL2 ret2 n) (hst : Cond.static y2 ∈ WS) (hk : k2 + 1 ≤ R.frames) (hl : 100 * k2 + 30 ≤ R.locals) (hA : ∀ q, A q → base ≤ q) (hK : va_K D vcl tys s) (hE : EnvW base E0 s s.heap) (hM0 : va_Mi "[Ljava/lang/Object;" mi s) (hS : va_S A s.heap H locs)
    (hn : as.length = n) (hsz : ls.size = nL) (hW : (rest.map fun v => v.category).sum ≤ 8) (hd : decode cc pc = .ok (.invokestatic idx, 3)) (hf : cells + mc ≤ R.cells ∧ slots + ms ≤ R.slots) {st : List Value} (hst2 : st = as.reverse ++ rest) :
    va_Run p l e R s m args below meth c H locs cells slots mc ms (F0 m pc ls st) rest (Qc as.toArray) free :=
  va_runS F hM ⟨hB.cb F.2.2.2.2 hk hl, F.2.2.2.2 _ hst⟩ ⟨PcJ_blind, pcj_at (H0 := H) hA hK hE hM0 hS _⟩ rfl hn hsz hst2 (lv_room hW) hd hf
theorem jcallV {a : Nat} {cv : String} (F : CallFix p m c cc nL s args WS own) (hM : JM l y2 cc2 mL2 ret2 k2 mc ms base E0 mi D tys H (.ref a :: as) Qc free) (hB : JB own idx y2 cc2 mL2 ret2 n) (hst : Cond.instanceMethod y2 ∈ WS) (hse : Cond.selects cv y2 y2 ∈ WS) (hk : k2 + 1 ≤ R.frames) (hl : 100 * k2 + 30 ≤ R.locals) (hA : ∀ q, A q → base ≤ q) (hK : va_K D vcl tys s) (hE : EnvW base E0 s s.heap) (hM0 : va_Mi "[Ljava/lang/Object;" mi s) (hS : va_S A s.heap H locs)
    (hr : ∃ cellB : Cell, H[a]? = some cellB ∧ cellB.vm.isStatics = false ∧ s.vm.findClass cv = some cellB.cls)
    (hn : as.length = n) (hsz : ls.size = nL) (hW : (rest.map fun v => v.category).sum ≤ 8) (hd : decode cc pc = .ok (.invokevirtual idx, 3)) (hf : cells + mc ≤ R.cells ∧ slots + ms ≤ R.slots) {st : List Value} (hst2 : st = as.reverse ++ .ref a :: rest) :
    va_Run p l e R s m args below meth c H locs cells slots mc ms (F0 m pc ls st) rest (Qc (Value.ref a :: as).toArray) free :=
  va_runV F hM ⟨hB.cb F.2.2.2.2 hk hl, F.2.2.2.2 _ hst, F.2.2.2.2 _ hse⟩ ⟨PcJ_blind, hr, pcj_at (H0 := H) hA hK hE hM0 hS _⟩ rfl hn hsz hst2 (lv_room hW) hd hf
theorem jcallI {a : Nat} (F : CallFix p m c cc nL s args WS own) (hM : JM l y2 cc2 mL2 none k2 mc ms base E0 mi D tys H (.ref a :: as) Qc free) (hB : JB own idx y2 cc2 mL2 none n) (hst : Cond.instanceMethod y2 ∈ WS) (hi : y2.name = "<init>") (hk : k2 + 1 ≤ R.frames) (hl : 100 * k2 + 30 ≤ R.locals) (hA : ∀ q, A q → base ≤ q) (hK : va_K D vcl tys s) (hE : EnvW base E0 s s.heap) (hM0 : va_Mi "[Ljava/lang/Object;" mi s) (hS : va_S A s.heap H locs)
    (hn : as.length = n) (hsz : ls.size = nL) (hW : (rest.map fun v => v.category).sum ≤ 8) (hd : decode cc pc = .ok (.invokespecial idx, 3)) (hf : cells + mc ≤ R.cells ∧ slots + ms ≤ R.slots) {st : List Value} (hst2 : st = as.reverse ++ .ref a :: rest) :
    va_Run p l e R s m args below meth c H locs cells slots mc ms (F0 m pc ls st) rest (Qc (Value.ref a :: as).toArray) free :=
  va_runI F hM ⟨hB.cb F.2.2.2.2 hk hl, hi, F.2.2.2.2 _ hst⟩ ⟨PcJ_blind, pcj_at (H0 := H) hA hK hE hM0 hS _⟩ rfl hn hsz hst2 (lv_room hW) hd hf
end JS
end
section
/-! the JDK's lists: what only reads -/
def NoA : Nat → Prop := fun _ => False
section JI
variable {l : Launch} {base E0 mi : Nat} {D : va_G} {tys : List (ClassId × FieldType)} {H : Heap}
theorem k_CI3 {x n : Int32} (h0 : ¬ x < 0) (h1 : x < n) : JM l yCI3 cCI3 3 (some .int) 1 0 0 base E0 mi D tys H [.int x, .int n, .null] (va_Qi (S := Unit) (fun r _ => r = x) (fun _ t => t.heap = H) NoA) NoA :=
  JM.mk (by decide) (Nat.le_of_ble_eq_true rfl) fun p e s m below meth c ls C hH hK hE hM0 hl => by
  obtain ⟨hx, hb, hml, hr, hown, hlk, hnm, hts⟩ := C
  have hl : lv_has ls 3 [(0, .int x), (1, .int n), (2, .null)] := hl
  refine lv_iload_n hx hb eCI3_0 rfl (lv_at hl 0 rfl) ?_
  refine lv_if_lt (tgt := 9) hx hb eCI3_1 rfl (fun h => absurd h h0) (fun _ => ?_)
  refine lv_iload_n hx hb eCI3_4 rfl (lv_at hl 0 rfl) ?_
  refine lv_iload_n hx hb eCI3_5 rfl (lv_at hl 1 rfl) ?_
  refine lv_icmp_lt (tgt := 16) hx hb eCI3_6 rfl (fun _ => ?_) (fun h => absurd h1 h)
  refine lv_iload_n hx hb eCI3_16 rfl (lv_at hl 0 rfl) ?_
  exact W.iret hx hb hr (fun t e1 e2 => ⟨⟨x, (), rfl, rfl, e1.trans hH⟩, va_S.rf.F e1⟩) (fun _ h => nomatch h) eCI3_17 hlk
theorem jb_CI3 : JB "java/util/Objects" 105 yCI3 cCI3 3 (some .int) 3 := ⟨q_231, q_17, q_233, by decide, by decide +kernel, by decide⟩
theorem k_CI2 {x n : Int32} (h0 : ¬ x < 0) (h1 : x < n) : JM l yCI2 cCI2 2 (some .int) 2 0 0 base E0 mi D tys H [.int x, .int n] (va_Qi (S := Unit) (fun r _ => r = x) (fun _ t => t.heap = H) NoA) NoA :=
  JM.mk (by decide) (Nat.le_of_ble_eq_true rfl) fun p e s m below meth c ls C hH hK hE hM0 hl => by
  obtain ⟨hx, hb, hml, hr, hown, hlk, hnm, hts⟩ := id C
  have hl : lv_has ls 2 [(0, .int x), (1, .int n)] := hl
  refine lv_iload_n hx hb eCI2_0 rfl (lv_at hl 0 rfl) ?_
  refine lv_iload_n hx hb eCI2_1 rfl (lv_at hl 1 rfl) ?_
  refine lv_null hx hb eCI2_2 ?_
  refine va_calli (jcallS (rest := []) C.fix (k_CI3 (H := s.heap) h0 h1) jb_CI3 q_232 (by decide) (by decide) (A := NoA) (fun q h => h.elim) hK hE hM0 va_S.rf rfl hl.1 (by decide) eCI2_3 ⟨by decide, by decide⟩ rfl) (A0 := NoA) va_S.rf (fun _ _ h => h) (fun _ h => h) fun r u t H1 locs1 e1 e2 e3 e4 e5 e6 hS => ?_
  subst e3
  have hH1 : H1 = s.heap := e1.symm.trans e4
  subst hH1
  exact W.iret hx hb hr (fun t e1 e2 => ⟨⟨_, (), rfl, rfl, e1.trans hH⟩, hS.F e1⟩) (fun q h => hS.2.2 q h) eCI2_6 hlk
theorem k_NL {o g f r : Int32} (h1 : o + (if g < f then f else g) = r) (h2 : 0 < r) (h3 : r ≤ 2147483639) : JM l yNL cNL 4 (some .int) 2 0 0 base E0 mi D tys H [.int o, .int g, .int f] (va_Qi (S := Unit) (fun v _ => v = r) (fun _ t => t.heap = H) NoA) NoA :=
  JM.mk (by decide) (Nat.le_of_ble_eq_true rfl) fun p e s m below meth c ls C hH hK hE hM0 hl => by
  obtain ⟨hx, hb, hml, hr, hown, hlk, hnm, hts⟩ := id C
  have hl : lv_has ls 4 [(0, .int o), (1, .int g), (2, .int f)] := hl
  refine lv_iload_n hx hb eNL_0 rfl (lv_at hl 0 rfl) ?_
  refine lv_iload_n hx hb eNL_1 rfl (lv_at hl 1 rfl) ?_
  refine lv_iload_n hx hb eNL_2 rfl (lv_at hl 2 rfl) ?_
  refine va_mmax hx hb (by rw [hml]; exact hl.1.symm) hown (hts _ q_135) (hts _ q_136) (hts _ q_8) (hts _ q_137) (by decide) (Nat.le_of_ble_eq_true rfl) (by decide) (by decide) eNL_3 ?_
  refine lv_iadd hx hb eNL_6 ?_
  rw [h1]
  refine lv_istore_n (lv' := [(3, .int r), (0, .int o), (1, .int g), (2, .int f)]) hx hb eNL_7 rfl hl (by decide) rfl (fun ls hl => ?_)
  refine lv_iconst (v := 0) hx hb eNL_8 (by decide) ?_
  refine lv_iload_n hx hb eNL_9 rfl (lv_at hl 0 rfl) ?_
  refine lv_icmp_ge (tgt := 21) hx hb eNL_10 rfl (fun h => absurd h2 (Int32.not_lt.mpr h)) (fun _ => ?_)
  refine lv_iload_n hx hb eNL_13 rfl (lv_at hl 0 rfl) ?_
  refine lv_ldc hx hb hown (hts _ q_138) eNL_14 ?_
  refine lv_icmp_gt (tgt := 21) hx hb eNL_16 rfl (fun h => absurd h3 (Int32.not_le.mpr h)) (fun _ => ?_)
  refine lv_iload_n hx hb eNL_19 rfl (lv_at hl 0 rfl) ?_
  exact W.iret hx hb hr (fun t e1 e2 => ⟨⟨r, (), rfl, rfl, e1.trans hH⟩, va_S.rf.F e1⟩) (fun _ h => nomatch h) eNL_20 hlk
theorem jb_NL : JB "java/util/ArrayList" 73 yNL cNL 4 (some .int) 3 := ⟨q_132, q_7, q_134, by decide, by decide +kernel, by decide⟩
theorem jb_CI2 : JB "java/util/ArrayList" 118 yCI2 cCI2 2 (some .int) 2 := ⟨q_228, q_16, q_230, by decide, by decide +kernel, by decide⟩
/-- the list's object: its counter, its row, its size -/
abbrev LO (a : Nat) (k : Int32) (b n : Nat) : Nat × va_E := (a, .inr (10, [.int k, .ref b, .int (nI n)]))
abbrev RW (b : Nat) (cO : ClassId) (cap : Nat) (f : Nat → Option Nat) : Nat × va_E := (b, .inl (cO, cap, .inr (.inr (.inr (.inr f)))))
theorem lo_ws : ∀ w ∈ u_ws RJx4a65c TJx4a65c 3, w ∈ WS := vcl_ws (ci := 10) rfl
theorem k_SZ {a b n : Nat} {k : Int32} {ws : va_W} (hP : va_P D vcl ws H) {i : Nat} (hi : ws[i]? = some (LO a k b n)) : JM l ySZ cSZ 1 (some .int) 1 0 0 base E0 mi D tys H [.ref a] (va_Qi (S := Unit) (fun v _ => v = nI n) (fun _ t => t.heap = H) NoA) NoA :=
  JM.mk (by decide) (Nat.le_of_ble_eq_true rfl) fun p e s m below meth c ls C hH hK hE hM0 hl => by
  obtain ⟨hx, hb, hml, hr, hown, hlk, hnm, hts⟩ := id C
  subst hH
  have hl : lv_has ls 1 [(0, .ref a)] := hl
  refine lv_aload_n hx hb eSZ_0 rfl (lv_at hl 0 rfl) ?_
  refine va_get hx hb hts lo_ws hown hK hP i hi rfl 2 (by decide) (hts _ q_60) (fun _ h => h) rfl eSZ_1 ?_
  exact W.iret hx hb hr (fun t e1 e2 => ⟨⟨_, (), rfl, rfl, e1⟩, va_S.rf.F e1⟩) (fun _ h => nomatch h) eSZ_4 hlk
theorem k_ED {a b n cap j : Nat} {k : Int32} {cO : ClassId} {f : Nat → Option Nat} {ws : va_W} (hP : va_P D vcl ws H) {i i2 i3 : Nat} (hi : ws[i]? = some (LO a k b n)) (hi2 : ws[i2]? = some (RW b cO cap f)) (hi3 : tys[i3]? = some (cO, .object "java/lang/Object")) (hj : j < cap) (hc : cap < 2 ^ 31) : JM l yED cED 2 (some (.object "java/lang/Object")) 1 0 0 base E0 mi D tys H [.ref a, .int (nI j)] (va_Qq (S := Unit) (fun v _ => v = f j) (fun _ t => t.heap = H) NoA) NoA :=
  JM.mk (by decide) (Nat.le_of_ble_eq_true rfl) fun p e s m below meth c ls C hH hK hE hM0 hl => by
  obtain ⟨hx, hb, hml, hr, hown, hlk, hnm, hts⟩ := id C
  subst hH
  have hl : lv_has ls 2 [(0, .ref a), (1, .int (nI j))] := hl
  refine lv_aload_n hx hb eED_0 rfl (lv_at hl 0 rfl) ?_
  refine va_get hx hb hts lo_ws hown hK hP i hi rfl 1 (by decide) (hts _ q_59) (fun _ h => h) rfl eED_1 ?_
  refine lv_iload_n hx hb eED_4 rfl (lv_at hl 1 rfl) ?_
  refine va_aldq hx hb hK hP i2 i3 hi2 hi3 (vp_in_nI hj hc) eED_5 ?_
  rw [nI_clamp (by omega)]
  exact W.aret hx hb hr (Or.inl ⟨_, rfl⟩) (va_rf_or _) (fun t e1 e2 => ⟨⟨_, (), rfl, rfl, e1⟩, va_S.rf.F e1⟩) (fun _ h => nomatch h) eED_6 hlk
theorem jb_ED : JB "java/util/ArrayList" 123 yED cED 2 (some (.object "java/lang/Object")) 1 := ⟨q_234, q_4, q_237, by decide, by decide +kernel, by decide⟩
theorem k_GT {a b n cap j : Nat} {k : Int32} {cO : ClassId} {f : Nat → Option Nat} {ws : va_W} (hP : va_P D vcl ws H) {i i2 i3 : Nat} (hi : ws[i]? = some (LO a k b n)) (hi2 : ws[i2]? = some (RW b cO cap f)) (hi3 : tys[i3]? = some (cO, .object "java/lang/Object")) (hj : j < n) (hn : n ≤ cap) (hc : cap < 2 ^ 31) : JM l yGT cGT 2 (some (.object "java/lang/Object")) 3 0 0 base E0 mi D tys H [.ref a, .int (nI j)] (va_Qq (S := Unit) (fun v _ => v = f j) (fun _ t => t.heap = H) NoA) NoA :=
  JM.mk (by decide) (Nat.le_of_ble_eq_true rfl) fun p e s m below meth c ls C hH hK hE hM0 hl => by
  obtain ⟨hx, hb, hml, hr, hown, hlk, hnm, hts⟩ := id C
  subst hH
  have hl : lv_has ls 2 [(0, .ref a), (1, .int (nI j))] := hl
  refine lv_iload_n hx hb eGT_0 rfl (lv_at hl 1 rfl) ?_
  refine lv_aload_n hx hb eGT_1 rfl (lv_at hl 0 rfl) ?_
  refine va_get hx hb hts lo_ws hown hK hP i hi rfl 2 (by decide) (hts _ q_60) (fun _ h => h) rfl eGT_2 ?_
  refine va_calli (jcallS (rest := []) C.fix (k_CI2 (H := s.heap) (nI_pos (by omega)) (nI_lt hj (by omega))) jb_CI2 q_229 (by decide) (by decide) (A := NoA) (fun q h => h.elim) hK hE hM0 va_S.rf rfl hl.1 (by decide) eGT_5 ⟨by decide, by decide⟩ rfl) (A0 := NoA) va_S.rf (fun _ _ h => h) (fun _ h => h) fun r u t H1 locs1 e1 e2 e3 e4 e5 e6 hS => ?_
  have hH1 : H1 = s.heap := e1.symm.trans e4
  subst hH1
  refine lv_pop hx hb eGT_8 rfl ?_
  refine lv_aload_n hx hb eGT_9 rfl (lv_at hl 0 rfl) ?_
  refine lv_iload_n hx hb eGT_10 rfl (lv_at hl 1 rfl) ?_
  refine va_callq (jcallV (rest := []) C.fix (k_ED (H := s.heap) hP hi hi2 hi3 (by omega) hc) jb_ED q_235 q_236 (by decide) (by decide) (A := NoA) (fun q h => h.elim) hK hE hM0 hS (va_recv hK hP rfl hi) rfl hl.1 (by decide) eGT_11 ⟨by decide, by decide⟩ rfl) (A0 := NoA) hS (fun _ _ h => h) (fun _ h => h) fun r2 u2 t2 H2 locs2 g1 g2 g3 g4 g5 g6 hS2 => ?_
  have hH2 : H2 = s.heap := g1.symm.trans g4
  subst hH2
  subst g3
  exact W.aret hx hb hr (Or.inl ⟨_, rfl⟩) (va_rf_or _) (fun t e1 e2 => ⟨⟨_, (), rfl, rfl, e1⟩, hS2.F e1⟩) (fun q h => hS2.2.2 q h) eGT_14 hlk
theorem k_RC {a b n j : Nat} {k : Int32} {ws : va_W} (hP : va_P D vcl ws H) {i : Nat} (hi : ws[i]? = some (LO a k b n)) (hj : j ≤ n) (hn : n < 2 ^ 31) : JM l yRC cRC 2 none 1 0 0 base E0 mi D tys H [.ref a, .int (nI j)] (va_Qv (S := Unit) (fun _ => True) (fun _ t => t.heap = H) NoA) NoA :=
  JM.mk (by decide) (Nat.le_of_ble_eq_true rfl) fun p e s m below meth c ls C hH hK hE hM0 hl => by
  obtain ⟨hx, hb, hml, hr, hown, hlk, hnm, hts⟩ := id C
  subst hH
  have hl : lv_has ls 2 [(0, .ref a), (1, .int (nI j))] := hl
  refine lv_iload_n hx hb eRC_0 rfl (lv_at hl 1 rfl) ?_
  refine lv_aload_n hx hb eRC_1 rfl (lv_at hl 0 rfl) ?_
  refine va_get hx hb hts lo_ws hown hK hP i hi rfl 2 (by decide) (hts _ q_60) (fun _ h => h) rfl eRC_2 ?_
  refine lv_icmp_gt (tgt := 12) hx hb eRC_5 rfl (fun h => absurd h (nI_nlt hj hn)) (fun _ => ?_)
  refine lv_iload_n hx hb eRC_8 rfl (lv_at hl 1 rfl) ?_
  refine lv_if_ge (tgt := 25) hx hb eRC_9 rfl (fun _ => ?_) (fun h => absurd (nI_pos' (by omega)) h)
  exact W.vret hx hb hr (fun t e1 e2 => ⟨⟨(), rfl, trivial, e1⟩, va_S.rf.F e1⟩) (fun _ h => nomatch h) eRC_25 hlk
end JI
end
section
/-! the JDK's lists: more room -/
abbrev oO : FieldType := .object "java/lang/Object"
abbrev gC : MethodName := ⟨"java/lang/Object", "getClass", "()Ljava/lang/Class;"⟩
/-- the cells that a list's member may change -/
abbrev AX (base a b sz : Nat) : Nat → Prop := fun q => q = a ∨ (base ≤ b ∧ q = b) ∨ sz ≤ q
/-- an object that may stand in a list -/
def El (D : va_G) (X : Nat → Prop) (H : Heap) (y : Nat) : Prop := ¬ X y ∧ ∃ (ci : Nat) (vs : List Value), ci < 10 ∧ va_at D vcl (y, .inr (ci, vs)) H
theorem El.keep {D : va_G} {X A : Nat → Prop} {H H1 : Heap} {y : Nat} (h : El D X H y) (hA : ∀ q, A q → X q ∨ H.size ≤ q) (hk : ∀ q : Nat, q < H.size → ¬ A q → H1[q]? = H[q]?) : El D X H1 y := by
  obtain ⟨h1, ci, vs, h2, h3⟩ := h
  refine ⟨h1, ci, vs, h2, h3.kept (hk y h3.lt fun z => ?_)⟩
  rcases hA y z with w | w
  · exact h1 w
  · have := h3.lt
    exact absurd this (Nat.not_lt.mpr w)
set_option maxRecDepth 100000 in
theorem cast_all : (List.range 10).all (fun ci => decide (Cond.castable (cnm ci) "java/lang/Object" ∈ lw_tbl)) = true := by decide +kernel
theorem P2 {D : va_G} {cl : List vw_C} {x y : Nat × va_E} {H : Heap} (h1 : va_at D cl x H) (h2 : va_at D cl y H) : va_P D cl [x, y] H := fun k q hk => by
  match k, hk with
  | 0, hk => cases hk; exact h1
  | 1, hk => cases hk; exact h2
  | k + 2, hk => simp at hk
theorem P1 {D : va_G} {cl : List vw_C} {x : Nat × va_E} {H : Heap} (h1 : va_at D cl x H) : va_P D cl [x] H := fun k q hk => by
  match k, hk with
  | 0, hk => cases hk; exact h1
  | k + 1, hk => simp at hk
theorem D2 {A : Nat → Prop} {x y : Nat × va_E} (h : x.1 ≠ y.1) (h1 : A x.1) (h2 : A y.1) : va_D A [x, y] := ⟨fun i j p q hp hq e => by
  match i, j, hp, hq with
  | 0, 0, _, _ => rfl
  | 1, 1, _, _ => rfl
  | 0, 1, hp, hq => cases hp; cases hq; exact absurd e h
  | 1, 0, hp, hq => cases hp; cases hq; exact absurd e.symm h
  | i + 2, _, hp, _ => simp at hp
  | _, j + 2, _, hq => simp at hq, fun k q hk => by
  match k, hk with
  | 0, hk => cases hk; exact h1
  | 1, hk => cases hk; exact h2
  | k + 2, hk => simp at hk⟩
theorem D1 {A : Nat → Prop} {x : Nat × va_E} (h1 : A x.1) : va_D A [x] := ⟨fun i j p q hp hq e => by
  match i, j, hp, hq with
  | 0, 0, _, _ => rfl
  | i + 1, _, hp, _ => simp at hp
  | _, j + 1, _, hq => simp at hq, fun k q hk => by
  match k, hk with
  | 0, hk => cases hk; exact h1
  | k + 1, hk => simp at hk⟩
theorem El.any {D : va_G} {X : Nat → Prop} {H : Heap} {y base E0 : Nat} {s : State} {tys : List (ClassId × FieldType)} (h : El D X H y) (hK : va_K D vcl tys s) (hE : EnvW base E0 s s.heap) : va_Any "java/lang/Object" s H y := by
  obtain ⟨-, ci, vs, h2, h3⟩ := h
  obtain ⟨cq, g1, -, -, g4, -⟩ := vcl_at (ci := ci) (by omega)
  have hc := List.all_eq_true.mp cast_all ci (List.mem_range.mpr h2)
  simp only [decide_eq_true_eq] at hc
  have hN := hE.2.2.2.2.2.2.2.2.2 _ hc rfl
  rw [← g4 h2] at hN
  exact va_rAny hK (P1 h3) (q0 := 0) rfl g1 (vb_asgC hN)
set_option maxRecDepth 100000 in
theorem decl_gC : Cond.declares gC ∈ lw_tbl := by decide +kernel
theorem copy_words : nativeFrameWords "java/lang/System" "arraycopy" 5 ≤ 20 := by decide
section JG
variable {l : Launch} {base E0 mi : Nat} {D : va_G} {tys : List (ClassId × FieldType)} {H : Heap}
/-- what a copy comes back with -/
def Cp (D : va_G) (H : Heap) (b : Nat) (cO : ClassId) (cap : Nat) (f : Nat → Option Nat) (N : Nat) : ClassId → Nat → State → Prop := fun cA ra t =>
  va_at D vcl (RW b cO cap f) t.heap ∧ va_at D vcl (RW ra cA N (va_cpy f (fun _ => none) 0 0 cap)) t.heap ∧ va_K D vcl [(cA, oO)] t ∧ H.size ≤ ra
set_option maxHeartbeats 4000000 in
theorem k_CP3 {b cap N i3 : Nat} {cO : ClassId} {f : Nat → Option Nat} (hb0 : va_at D vcl (RW b cO cap f) H) (hi3 : tys[i3]? = some (cO, oO)) (hN : cap ≤ N) (hN2 : N ≤ 100000) (hbb : base ≤ b) (hbs : base ≤ H.size) (hel : ∀ i, i < cap → ∀ y, f i = some y → El D (fun q => q = b) H y) :
    JM l yCP3 cCP3 4 (some (.array oO)) 2 1 N base E0 mi D tys H [.ref b, .int (nI N), .ref mi] (va_Qr (S := ClassId) (fun _ => True) (Cp D H b cO cap f N) (AX base b b H.size)) (AX base b b H.size) :=
  JM.mk (by decide) (Nat.le_of_ble_eq_true rfl) fun p e s m below meth c ls C hH hK hE hM0 hl => by
  obtain ⟨hx, hb, hml, hr, hown, hlk, hnm, hts⟩ := id C
  subst hH
  have hl : lv_has ls 4 [(0, .ref b), (1, .int (nI N)), (2, .ref mi)] := hl
  have hS : va_S (AX base b b s.heap.size) s.heap s.heap [] := va_S.rf
  have hA : ∀ q, s.heap.size ≤ q → AX base b b s.heap.size q := fun q h => Or.inr (Or.inr h)
  have hD : va_D (AX base b b s.heap.size) [RW b cO cap f] := D1 (Or.inl rfl)
  refine lv_aload_n hx hb eCP3_0 rfl (lv_at hl 2 rfl) ?_
  refine va_ldcM hx hb hown (hts _ q_172) hM0 eCP3_1 ?_
  refine lv_acmp_ne (rx := some mi) (ry := some mi) (tgt := 13) hx hb eCP3_3 rfl (fun h => absurd rfl h) (fun _ => ?_)
  refine lv_iload_n hx hb eCP3_6 rfl (lv_at hl 1 rfl) ?_
  refine va_newq (N' := N) hx hb hown (hts _ q_174) hE.2.1 hK (P1 hb0) hD hS hA (nI_pos (by omega)) (nI_clamp (by omega)) (by omega) (by show 0 + 1 ≤ 1; omega) (by show 0 + N ≤ N; omega) eCP3_7 fun ra cA H1 hK1 hP1 hD1 hS1 => ?_
  have hP1 : va_P D vcl [RW b cO cap f, RW ra cA N (fun _ => none)] H1 := hP1
  have hD1 : va_D (AX base b b s.heap.size) [RW b cO cap f, RW ra cA N (fun _ => none)] := hD1
  have hne : b ≠ ra := fun z => by have := hD1.1 0 1 _ _ rfl rfl z; cases this
  have hra : s.heap.size ≤ ra := by
    rcases hD1.2 1 _ rfl with z | z | z
    · exact absurd z.symm hne
    · exact absurd z.2.symm hne
    · exact z
  refine lv_goto (tgt := 24) hx hb eCP3_10 rfl ?_
  refine lv_astore_n (lv' := [(3, .ref ra), (0, .ref b), (1, .int (nI N)), (2, .ref mi)]) hx hb eCP3_24 rfl hl (by decide) rfl (fun ls hl => ?_)
  refine lv_aload_n hx hb eCP3_25 rfl (lv_at hl 1 rfl) ?_
  refine lv_iconst (v := 0) hx hb eCP3_26 (by decide) ?_
  refine lv_aload_n hx hb eCP3_27 rfl (lv_at hl 0 rfl) ?_
  refine lv_iconst (v := 0) hx hb eCP3_28 (by decide) ?_
  refine lv_aload_n hx hb eCP3_29 rfl (lv_at hl 1 rfl) ?_
  have ht3 : (tys ++ [(cA, oO)])[i3]? = some (cO, oO) := by
    rw [List.getElem?_append_left (List.getElem?_eq_some_iff.mp hi3).1]
    exact hi3
  refine va_alen (v := nI cap) hx hb hK1 hP1 0 i3 rfl ht3 rfl eCP3_30 ?_
  refine lv_iload_n hx hb eCP3_31 rfl (lv_at hl 2 rfl) ?_
  refine va_mmin hx hb (by rw [hml]; exact hl.1.symm) hown (hts _ q_175) (hts _ q_176) (hts _ q_8) (hts _ q_177) (show 1 ≤ 2 by decide) (Nat.le_of_ble_eq_true rfl) (show 0 + 1 ≤ 1 by omega) (show 0 + N ≤ N by omega) eCP3_32 ?_
  rw [show (if nI N < nI cap then nI N else nI cap) = nI cap from if_neg (nI_nlt hN (by omega))]
  refine va_copyM (q0 := 0) (q1 := 1) (t0 := i3) (t1 := tys.length) hx hb (by rw [hml]; exact hl.1.symm) hown (hts _ q_178) (hts _ q_180) (hts _ q_179) (hts _ q_10) hK1 (E0 := "java/lang/Object") (E1 := "java/lang/Object") hP1 hD1 hS1 rfl rfl ht3 (by simp) (by decide) (by decide) (nI_pos (by omega)) (by rw [nI_clamp (by omega)]; show 0 + cap ≤ cap; omega) (by rw [nI_clamp (by omega)]; show 0 + cap ≤ N; omega) (fun i hi y hy => ?_) (show 1 ≤ 2 by decide) (by have := copy_words; show 0 + _ ≤ 200; omega) eCP3_35 (fun H2 locs2 hP2 hD2 hS2 => ?_)
  · rw [nI_clamp (by omega)] at hi
    have h9 : f i = some y := by
      rw [show (0 : Int32).toNatClampNeg + i = i by show 0 + i = i; omega] at hy
      exact hy
    refine ((hel i hi y h9).keep (A := AX base b b s.heap.size) (fun q z => ?_) hS1.2.1).any hK1 hE
    rcases z with z | z | z
    · exact Or.inl z
    · exact Or.inl z.2
    · exact Or.inr z
  refine lv_aload_n hx hb eCP3_38 rfl (lv_at hl 0 rfl) ?_
  have e9 : va_cpy f (fun _ => none) (0 : Int32).toNatClampNeg (0 : Int32).toNatClampNeg (nI cap).toNatClampNeg = va_cpy f (fun _ => none) 0 0 cap := by rw [nI_clamp (by omega)]; rfl
  rw [e9] at hP2
  have k0 : va_at D vcl (RW b cO cap f) H2 := hP2 0 _ rfl
  have k1 : va_at D vcl (RW ra cA N (va_cpy f (fun _ => none) 0 0 cap)) H2 := hP2 1 _ rfl
  refine W.widen (k := 1) (n := N) (by omega) (by omega) ?_
  exact W.aret hx hb hr (Or.inr ⟨_, rfl⟩) (Or.inr ⟨ra, rfl⟩) (fun t e1 e2 => ⟨⟨cA, ra, rfl, trivial, by rw [e1]; exact k0, by rw [e1]; exact k1, va_K.moved e2.alike ⟨hK1.1, fun k q hk => by
    match k, hk with
    | 0, hk => cases hk; exact hK1.2 tys.length _ (by simp)
    | k + 1, hk => simp at hk⟩, hra⟩, hS2.F e1⟩) (fun q h => hS2.2.2 q h) eCP3_39 hlk
theorem jb_CP3 : JB "java/util/Arrays" 300 yCP3 cCP3 4 (some (.array oO)) 3 := ⟨q_169, q_9, q_171, by decide, by decide +kernel, by decide⟩
theorem jb_CP2 : JB "java/util/ArrayList" 66 yCP2 cCP2 2 (some (.array oO)) 2 := ⟨q_142, q_9, q_144, by decide, by decide +kernel, by decide⟩
set_option maxHeartbeats 4000000 in
theorem k_CP2 {b cap N i3 : Nat} {cO : ClassId} {f : Nat → Option Nat} (hb0 : va_at D vcl (RW b cO cap f) H) (hi3 : tys[i3]? = some (cO, oO)) (hN : cap ≤ N) (hN2 : N ≤ 100000) (hbb : base ≤ b) (hbs : base ≤ H.size) (hel : ∀ i, i < cap → ∀ y, f i = some y → El D (fun q => q = b) H y) :
    JM l yCP2 cCP2 2 (some (.array oO)) 3 1 N base E0 mi D tys H [.ref b, .int (nI N)] (va_Qr (S := ClassId) (fun _ => True) (Cp D H b cO cap f N) (AX base b b H.size)) (AX base b b H.size) :=
  JM.mk (by decide) (Nat.le_of_ble_eq_true rfl) fun p e s m below meth c ls C hH hK hE hM0 hl => by
  obtain ⟨hx, hb, hml, hr, hown, hlk, hnm, hts⟩ := id C
  subst hH
  have hl : lv_has ls 2 [(0, .ref b), (1, .int (nI N))] := hl
  have hAb : ∀ q, AX base b b s.heap.size q → base ≤ q := fun q h => by rcases h with z | z | z <;> omega
  refine lv_aload_n hx hb eCP2_0 rfl (lv_at hl 0 rfl) ?_
  refine lv_iload_n hx hb eCP2_1 rfl (lv_at hl 1 rfl) ?_
  refine lv_aload_n hx hb eCP2_2 rfl (lv_at hl 0 rfl) ?_
  refine va_getC (C := "[Ljava/lang/Object;") hx hb (by rw [hml]; exact hl.1.symm) hown (hts _ q_145) (va_Nw.use rfl (hE.2.2.2.2.2.2.2.2.2 _ decl_gC rfl)) (hts _ q_1733) (hts _ q_146) (hts _ q_168) hM0 ⟨_, hb0, rfl, va_nmO (hK.2 i3 _ hi3).2 (by decide +kernel)⟩ (show 1 ≤ 3 by decide) (Nat.le_of_ble_eq_true rfl) eCP2_3 ?_
  refine va_callr (jcallS (rest := []) C.fix (k_CP3 (H := s.heap) hb0 hi3 hN hN2 hbb hbs hel) jb_CP3 q_170 (show 2 + 1 ≤ 3 by decide) (show 100 * 2 + 30 ≤ 300 by decide) (A := AX base b b s.heap.size) hAb hK hE hM0 va_S.rf rfl hl.1 (by decide) eCP2_6 ⟨by show 0 + 1 ≤ 1; omega, by show 0 + N ≤ N; omega⟩ rfl) (A0 := AX base b b s.heap.size) va_S.rf (fun _ _ h => h) (fun _ h => h) fun cA ra t H1 locs1 e1 e2 e3 e4 e5 e6 hS => ?_
  obtain ⟨g1, g2, g3, g4⟩ := e4
  rw [e1] at g1 g2
  have gK : va_K D vcl [(cA, oO)] s := va_K.moved e2.symm g3
  refine W.widen (k := 1) (n := N) (by omega) (by omega) ?_
  exact W.aret hx hb hr (Or.inr ⟨_, rfl⟩) (Or.inr ⟨ra, rfl⟩) (fun t e1 e2 => ⟨⟨cA, ra, rfl, trivial, by rw [e1]; exact g1, by rw [e1]; exact g2, va_K.moved e2.alike gK, g4⟩, hS.F e1⟩) (fun q h => hS.2.2 q h) eCP2_9 hlk
end JG
end
section
/-! the JDK's lists: grow -/
section JG
variable {l : Launch} {base E0 mi : Nat} {D : va_G} {tys : List (ClassId × FieldType)} {H : Heap}
/-- a list without room -/
def Lg (D : va_G) (base E0 : Nat) (tys : List (ClassId × FieldType)) (a b n : Nat) (g : Nat → Option Nat) (H : Heap) : Prop :=
  (b = E0 ∧ E0 < base ∧ n = 0 ∧ tys = []) ∨ (base ≤ b ∧ a ≠ b ∧ ∃ (f : Nat → Option Nat) (cO : ClassId), tys = [(cO, oO)] ∧ va_at D vcl (RW b cO n f) H ∧ 2 ≤ n ∧ n ≤ 40000 ∧ ∀ j, j < n → f j = g j)
def Gp (D : va_G) (H : Heap) (a : Nat) (k : Int32) (n : Nat) (g : Nat → Option Nat) : ClassId × Nat × (Nat → Option Nat) → Nat → State → Prop := fun u ra t =>
  va_at D vcl (LO a k ra n) t.heap ∧ va_at D vcl (RW ra u.1 u.2.1 u.2.2) t.heap ∧ va_K D vcl [(u.1, oO)] t ∧ H.size ≤ ra ∧ n < u.2.1 ∧ 2 ≤ u.2.1 ∧ u.2.1 ≤ 60000 ∧ ∀ j, j < n → u.2.2 j = g j
theorem lo_new {a n b b' : Nat} {k : Int32} : [LO a k b n].set 0 (a, .inr (10, ([.int k, .ref b, .int (nI n)] : List Value).set 1 (.ref b'))) = [LO a k b' n] := rfl
theorem lo_ty : ∀ k, k < 3 → parseFieldDescriptor (TJx4a65c k).2.2.1 = some (tyJx4a65c k) := by decide +kernel
theorem lo_nm : ∀ a, a < 3 → ∀ b, b < 3 → a ≠ b → (TJx4a65c a).2.1 ≠ (TJx4a65c b).2.1 := by decide +kernel
theorem lo_d0 : parseFieldDescriptor (TJx4a65c 0).2.2.1 = some .int := by decide +kernel
theorem lo_d1 : parseFieldDescriptor (TJx4a65c 1).2.2.1 = some (.array oO) := by decide +kernel
theorem lo_d2 : parseFieldDescriptor (TJx4a65c 2).2.2.1 = some .int := by decide +kernel
set_option maxHeartbeats 4000000 in
theorem k_GI {a b n : Nat} {k : Int32} {g : Nat → Option Nat} (hLO : va_at D vcl (LO a k b n) H) (hba : base ≤ a) (hbs : base ≤ H.size) (hG : Lg D base E0 tys a b n g H) (hel : ∀ j, j < n → ∀ y, g j = some y → El D (fun q => q = a ∨ q = b) H y) :
    JM l yGI cGI 4 (some (.array oO)) 5 1 (2 * n + 10) base E0 mi D tys H [.ref a, .int (nI (n + 1))] (va_Qr (S := ClassId × Nat × (Nat → Option Nat)) (fun _ => True) (Gp D H a k n g) (AX base a b H.size)) (AX base a b H.size) :=
  JM.mk (by decide) (Nat.le_of_ble_eq_true rfl) fun p e s m below meth c ls C hH hK hE hM0 hl => by
  obtain ⟨hx, hb, hml, hr, hown, hlk, hnm, hts⟩ := id C
  subst hH
  have hl : lv_has ls 4 [(0, .ref a), (1, .int (nI (n + 1)))] := hl
  have hAb : ∀ q, AX base a b s.heap.size q → base ≤ q := fun q h => by rcases h with z | z | z <;> omega
  have hA : ∀ q, s.heap.size ≤ q → AX base a b s.heap.size q := fun q h => Or.inr (Or.inr h)
  have hal : a < s.heap.size := hLO.lt
  refine lv_aload_n hx hb eGI_0 rfl (lv_at hl 0 rfl) ?_
  refine va_get hx hb hts lo_ws hown hK (P1 hLO) 0 rfl rfl 1 (by decide) (hts _ q_59) (fun _ h => h) rfl eGI_1 ?_
  rcases hG with ⟨rfl, hE0, rfl, rfl⟩ | ⟨hbb, hab, f, cO, rfl, hRW, hn2, hn4, hfg⟩
  · have hT := hE.2.2.2.2.2.2.1
    refine va_tlen (v := 0) hx hb hT (va_S.rf (A := fun q => base ≤ q)) rfl eGI_4 ?_
    refine lv_istore_n (lv' := [(2, .int 0), (0, .ref a), (1, .int (nI 1))]) hx hb eGI_5 rfl hl (by decide) rfl (fun ls hl => ?_)
    refine lv_iload_n hx hb eGI_6 rfl (lv_at hl 0 rfl) ?_
    refine lv_if_gt (tgt := 20) hx hb eGI_7 rfl (fun h => absurd h (by decide)) (fun _ => ?_)
    refine lv_aload_n hx hb eGI_10 rfl (lv_at hl 1 rfl) ?_
    refine va_get hx hb hts lo_ws hown hK (P1 hLO) 0 rfl rfl 1 (by decide) (hts _ q_59) (fun _ h => h) rfl eGI_11 ?_
    refine va_gets hx hb hE.2.2.2.2.2.1 (va_S.rf (A := fun q => base ≤ q)) hown (hts _ q_57) (fun _ h => h) eGI_14 ?_
    refine lv_acmp_eq (rx := some b) (ry := some b) (tgt := 45) hx hb eGI_17 rfl (fun _ => ?_) (fun h => absurd rfl h)
    refine lv_aload_n hx hb eGI_45 rfl (lv_at hl 1 rfl) ?_
    refine lv_bipush (v := 10) hx hb eGI_46 (by decide) ?_
    refine lv_iload_n hx hb eGI_48 rfl (lv_at hl 2 rfl) ?_
    refine va_mmax hx hb (by rw [hml]; exact hl.1.symm) hown (hts _ q_181) (hts _ q_136) (hts _ q_8) (hts _ q_137) (show 1 ≤ 5 by decide) (Nat.le_of_ble_eq_true rfl) (show 0 ≤ 1 by omega) (show 0 ≤ 2 * 0 + 10 by omega) eGI_49 ?_
    rw [show (if (10 : Int32) < nI 1 then nI 1 else 10) = 10 by decide]
    have hS : va_S (AX base a b s.heap.size) s.heap s.heap [] := va_S.rf
    refine va_newq (N' := 10) hx hb hown (hts _ q_182) hE.2.1 hK (P1 hLO) (D1 (Or.inl rfl)) hS hA (by decide) (by decide) (by decide) (show 0 + 1 ≤ 1 by omega) (show 0 + 10 ≤ 2 * 0 + 10 by omega) eGI_52 fun ra cA H1 hK1 hP1 hD1 hS1 => ?_
    have hP1 : va_P D vcl [LO a k b 0, RW ra cA 10 (fun _ => none)] H1 := hP1
    have hD1 : va_D (AX base a b s.heap.size) [LO a k b 0, RW ra cA 10 (fun _ => none)] := hD1
    have hne : a ≠ ra := fun z => by have := hD1.1 0 1 _ _ rfl rfl z; cases this
    have hra : s.heap.size ≤ ra := by
      rcases hD1.2 1 _ rfl with z | z | z
      · exact absurd z.symm hne
      · exact absurd z.1 (Nat.not_le.mpr hE0)
      · exact z
    refine lv_dup_x1 hx hb eGI_55 rfl rfl ?_
    refine va_put hx hb hts lo_ws _ lo_ty lo_nm hown hK1 hP1 hD1 hS1 0 rfl rfl 1 (by decide) (hts _ q_59) (fun _ h => h) rfl lo_d1 rfl rfl (Nat.le_of_ble_eq_true rfl) eGI_56 fun H2 locs2 hP2 hD2 hS2 => ?_
    have g1 : va_at D vcl (LO a k ra 0) H2 := hP2 0 _ rfl
    have g2 : va_at D vcl (RW ra cA 10 (fun _ => none)) H2 := hP2 1 _ rfl
    refine W.widen (k := 1) (n := 2 * 0 + 10) (by omega) (by omega) ?_
    exact W.aret hx hb hr (Or.inr ⟨_, rfl⟩) (Or.inr ⟨ra, rfl⟩) (fun t e1 e2 => ⟨⟨(cA, 10, fun _ => none), ra, rfl, trivial, by rw [e1]; exact g1, by rw [e1]; exact g2, va_K.moved e2.alike hK1, hra, show 0 < 10 by decide, show 2 ≤ 10 by decide, show 10 ≤ 60000 by decide, fun j hj => absurd hj (Nat.not_lt_zero _)⟩, hS2.F e1⟩) (fun q h => hS2.2.2 q h) eGI_59 hlk
  · refine va_alen (v := nI n) hx hb hK (P1 hRW) 0 0 rfl rfl rfl eGI_4 ?_
    refine lv_istore_n (lv' := [(2, .int (nI n)), (0, .ref a), (1, .int (nI (n + 1)))]) hx hb eGI_5 rfl hl (by decide) rfl (fun ls hl => ?_)
    refine lv_iload_n hx hb eGI_6 rfl (lv_at hl 0 rfl) ?_
    refine lv_if_gt (tgt := 20) hx hb eGI_7 rfl (fun _ => ?_) (fun h => absurd (nI_lt (a := 0) (by omega) (by omega)) h)
    refine lv_iload_n hx hb eGI_20 rfl (lv_at hl 0 rfl) ?_
    refine lv_iload_n hx hb eGI_21 rfl (lv_at hl 2 rfl) ?_
    refine lv_iload_n hx hb eGI_22 rfl (lv_at hl 0 rfl) ?_
    refine lv_isub hx hb eGI_23 ?_
    rw [pk_sub (a := n + 1) (b := n) (by omega), Nat.add_sub_cancel_left]
    refine lv_iload_n hx hb eGI_24 rfl (lv_at hl 0 rfl) ?_
    refine lv_iconst (v := 1) hx hb eGI_25 (by decide) ?_
    refine lv_ishr hx hb eGI_26 ?_
    have es : nI n >>> ((1 : Int32) &&& 31) = nI (n / 2) := by
      have k := pk_shrN (n := n) (by omega) ((1 : Int32) &&& 31) 1 (by decide)
      rw [Nat.pow_one] at k
      exact k
    rw [es]
    have el : nI n + (if nI 1 < nI (n / 2) then nI (n / 2) else nI 1) = nI (n + n / 2) := by
      by_cases c : 1 < n / 2
      · rw [if_pos (nI_lt c (by omega))]
        exact nI_add n (n / 2)
      · rw [if_neg (nI_nlt (by omega) (by decide))]
        have hd : n / 2 = 1 := by omega
        rw [hd]
        exact nI_add n 1
    have hS0 : va_S (AX base a b s.heap.size) s.heap s.heap [] := va_S.rf
    refine va_calli (jcallS (rest := []) C.fix (k_NL (H := s.heap) el (nI_lt (a := 0) (by omega) (by omega)) (nI_le (b := 2147483639) (by omega) (by decide))) jb_NL q_133 (show 2 + 1 ≤ 5 by decide) (show 100 * 2 + 30 ≤ 500 by decide) (A := AX base a b s.heap.size) hAb hK hE hM0 hS0 rfl hl.1 (by decide) eGI_27 ⟨show 0 + 0 ≤ 1 by omega, show 0 + 0 ≤ 2 * n + 10 by omega⟩ rfl) (A0 := AX base a b s.heap.size) hS0 (fun _ _ h => h.elim) (fun _ h => h.elim) fun r u t H1 locs1 e1 e2 e3 e4 e5 e6 hS => ?_
    have hH1 : H1 = s.heap := e1.symm.trans e4
    subst hH1
    subst e3
    refine lv_istore_n (lv' := [(3, .int (nI (n + n / 2))), (2, .int (nI n)), (0, .ref a), (1, .int (nI (n + 1)))]) hx hb eGI_30 rfl hl (by decide) rfl (fun ls hl => ?_)
    refine lv_aload_n hx hb eGI_31 rfl (lv_at hl 2 rfl) ?_
    refine lv_aload_n hx hb eGI_32 rfl (lv_at hl 2 rfl) ?_
    refine va_get hx hb hts lo_ws hown hK (P1 hLO) 0 rfl rfl 1 (by decide) (hts _ q_59) (fun _ h => h) rfl eGI_33 ?_
    refine lv_iload_n hx hb eGI_36 rfl (lv_at hl 0 rfl) ?_
    refine va_callr (jcallS (rest := [.ref a]) C.fix (k_CP2 (H := s.heap) (N := n + n / 2) (i3 := 0) hRW rfl (by omega) (by omega) hbb hbs (fun i hi y hy => by
      obtain ⟨z1, z2⟩ := hel i hi y ((hfg i hi).symm.trans hy)
      exact ⟨fun z => z1 (Or.inr z), z2⟩)) jb_CP2 q_143 (show 3 + 1 ≤ 5 by decide) (show 100 * 3 + 30 ≤ 500 by decide) (A := AX base a b s.heap.size) hAb hK hE hM0 hS rfl hl.1 (Nat.le_of_ble_eq_true rfl) eGI_37 ⟨show 0 + 0 + 1 ≤ 1 by omega, show 0 + 0 + (n + n / 2) ≤ 2 * n + 10 by omega⟩ rfl) (A0 := AX base a b s.heap.size) hS (fun q _ h => by
        rcases h with z | z | z
        · exact Or.inr (Or.inl ⟨hbb, z⟩)
        · exact Or.inr (Or.inl z)
        · exact Or.inr (Or.inr z)) (fun q h => by
        rcases h with z | z | z
        · exact Or.inr (Or.inl ⟨hbb, z⟩)
        · exact Or.inr (Or.inl z)
        · exact Or.inr (Or.inr z)) fun cA ra t2 H2 locs2 f1 f2 f3 f4 f5 f6 hS2 => ?_
    obtain ⟨g1, g2, g3, g4⟩ := f4
    rw [f1] at g1 g2
    have gK : va_K D vcl [(cA, oO)] s := va_K.moved f2.symm g3
    have gLO : va_at D vcl (LO a k b n) H2 := hLO.kept (f6 a hal fun z => by rcases z with z | z | z <;> omega)
    have hne : a ≠ ra := by omega
    refine lv_dup_x1 hx hb eGI_40 rfl rfl ?_
    refine va_put hx hb hts lo_ws _ lo_ty lo_nm hown gK (P2 gLO g2) (D2 hne (Or.inl rfl) (hA _ g4)) hS2 0 rfl rfl 1 (by decide) (hts _ q_59) (fun _ h => h) rfl lo_d1 rfl rfl (Nat.le_of_ble_eq_true rfl) eGI_41 fun H3 locs3 hP3 hD3 hS3 => ?_
    have k1 : va_at D vcl (LO a k ra n) H3 := hP3 0 _ rfl
    have k2 : va_at D vcl (RW ra cA (n + n / 2) (va_cpy f (fun _ => none) 0 0 n)) H3 := hP3 1 _ rfl
    refine W.widen (k := 1) (n := 2 * n + 10) (by omega) (by omega) ?_
    exact W.aret hx hb hr (Or.inr ⟨_, rfl⟩) (Or.inr ⟨ra, rfl⟩) (fun t e1 e2 => ⟨⟨(cA, n + n / 2, va_cpy f (fun _ => none) 0 0 n), ra, rfl, trivial, by rw [e1]; exact k1, by rw [e1]; exact k2, va_K.moved e2.alike gK, g4, show n < n + n / 2 by omega, show 2 ≤ n + n / 2 by omega, show n + n / 2 ≤ 60000 by omega, fun j hj => by
      show va_cpy f (fun _ => none) 0 0 n j = g j
      unfold va_cpy
      rw [if_pos ⟨Nat.zero_le _, by omega⟩, Nat.zero_add, Nat.sub_zero]
      exact hfg j hj⟩, hS3.F e1⟩) (fun q h => hS3.2.2 q h) eGI_44 hlk
theorem jb_GI : JB "java/util/ArrayList" 69 yGI cGI 4 (some (.array oO)) 1 := ⟨q_128, q_4, q_131, by decide, by decide +kernel, by decide⟩
theorem jb_GR : JB "java/util/ArrayList" 129 yGR cGR 1 (some (.array oO)) 0 := ⟨q_124, q_4, q_127, by decide, by decide +kernel, by decide⟩
set_option maxHeartbeats 4000000 in
theorem k_GR {a b n : Nat} {k : Int32} {g : Nat → Option Nat} (hLO : va_at D vcl (LO a k b n) H) (hba : base ≤ a) (hbs : base ≤ H.size) (hG : Lg D base E0 tys a b n g H) (hel : ∀ j, j < n → ∀ y, g j = some y → El D (fun q => q = a ∨ q = b) H y) :
    JM l yGR cGR 1 (some (.array oO)) 6 1 (2 * n + 10) base E0 mi D tys H [.ref a] (va_Qr (S := ClassId × Nat × (Nat → Option Nat)) (fun _ => True) (Gp D H a k n g) (AX base a b H.size)) (AX base a b H.size) :=
  JM.mk (by decide) (Nat.le_of_ble_eq_true rfl) fun p e s m below meth c ls C hH hK hE hM0 hl => by
  obtain ⟨hx, hb, hml, hr, hown, hlk, hnm, hts⟩ := id C
  subst hH
  have hl : lv_has ls 1 [(0, .ref a)] := hl
  have hAb : ∀ q, AX base a b s.heap.size q → base ≤ q := fun q h => by rcases h with z | z | z <;> omega
  refine lv_aload_n hx hb eGR_0 rfl (lv_at hl 0 rfl) ?_
  refine lv_aload_n hx hb eGR_1 rfl (lv_at hl 0 rfl) ?_
  refine va_get hx hb hts lo_ws hown hK (P1 hLO) 0 rfl rfl 2 (by decide) (hts _ q_60) (fun _ h => h) rfl eGR_2 ?_
  refine lv_iconst (v := 1) hx hb eGR_5 (by decide) ?_
  refine lv_iadd hx hb eGR_6 ?_
  rw [nI_1]
  refine va_callr (jcallV (rest := []) C.fix (k_GI (H := s.heap) hLO hba hbs hG hel) jb_GI q_130 p_2 (show 5 + 1 ≤ 6 by decide) (show 100 * 5 + 30 ≤ 600 by decide) (A := AX base a b s.heap.size) hAb hK hE hM0 va_S.rf (va_recv hK (P1 hLO) (q0 := 0) rfl rfl) rfl hl.1 (by decide) eGR_7 ⟨show 0 + 1 ≤ 1 by omega, show 0 + (2 * n + 10) ≤ 2 * n + 10 by omega⟩ rfl) (A0 := AX base a b s.heap.size) va_S.rf (fun _ _ h => h) (fun _ h => h) fun u ra t H1 locs1 e1 e2 e3 e4 e5 e6 hS => ?_
  obtain ⟨g1, g2, g3, g4, g5⟩ := e4
  rw [e1] at g1 g2
  have gK : va_K D vcl [(u.1, oO)] s := va_K.moved e2.symm g3
  refine W.widen (k := 1) (n := 2 * n + 10) (by omega) (by omega) ?_
  exact W.aret hx hb hr (Or.inr ⟨_, rfl⟩) (Or.inr ⟨ra, rfl⟩) (fun t e1 e2 => ⟨⟨u, ra, rfl, trivial, by rw [e1]; exact g1, by rw [e1]; exact g2, va_K.moved e2.alike gK, g4, g5⟩, hS.F e1⟩) (fun q h => hS.2.2 q h) eGR_10 hlk
end JG
end
section
/-! the JDK's lists: add -/
section JA
variable {l : Launch} {base E0 mi : Nat} {D : va_G} {tys : List (ClassId × FieldType)} {H : Heap}
/-- a list of n elements, g its elements -/
def Lr (D : va_G) (base E0 : Nat) (tys : List (ClassId × FieldType)) (a : Nat) (k : Int32) (b n : Nat) (g : Nat → Option Nat) (H : Heap) : Prop :=
  va_at D vcl (LO a k b n) H ∧ base ≤ a ∧ base ≤ H.size ∧ ((b = E0 ∧ E0 < base ∧ n = 0 ∧ tys = []) ∨ (base ≤ b ∧ a ≠ b ∧ ∃ (cap : Nat) (f : Nat → Option Nat) (cO : ClassId), tys = [(cO, oO)] ∧ va_at D vcl (RW b cO cap f) H ∧ n ≤ cap ∧ 2 ≤ cap ∧ cap ≤ 60000 ∧ ∀ j, j < n → f j = g j))
def Lp (D : va_G) (base E0 : Nat) (H : Heap) (a b n : Nat) (g : Nat → Option Nat) (t : State) : Prop :=
  ∃ (k : Int32) (b' : Nat) (tys' : List (ClassId × FieldType)), Lr D base E0 tys' a k b' n g t.heap ∧ va_K D vcl tys' t ∧ (b' = b ∨ H.size ≤ b')
theorem K1 {s : State} {cO : ClassId} (h : va_K D vcl [(cO, oO)] s) : va_K D vcl [(cO, oO)] s := h
theorem AX_X {a b sz q : Nat} (h : AX base a b sz q) : (q = a ∨ q = b) ∨ sz ≤ q := by
  rcases h with z | z | z
  · exact Or.inl (Or.inl z)
  · exact Or.inl (Or.inr z.2)
  · exact Or.inr z
theorem va_S.weak {A B : Nat → Prop} {H0 H1 : Heap} {locs : List Loc} (h : va_S A H0 H1 locs) (hAB : ∀ q, A q → B q) : va_S B H0 H1 locs := ⟨h.1, fun q h1 h2 => h.2.1 q h1 (fun z => h2 (hAB q z)), fun q h1 => hAB _ (h.2.2 q h1)⟩
set_option maxHeartbeats 4000000 in
theorem k_A3 {a b n v : Nat} {k : Int32} {g : Nat → Option Nat} (hL : Lr D base E0 tys a k b n g H) (hn : n < 30000) (hel : ∀ j, j < n → ∀ y, g j = some y → El D (fun q => q = a ∨ q = b) H y) (hv : El D (fun q => q = a ∨ q = b) H v) :
    JM l yA3 cA3 4 none 7 1 (2 * n + 10) base E0 mi D tys H [.ref a, .ref v, .ref b, .int (nI n)] (va_Qv (S := Unit) (fun _ => True) (fun _ t => Lp D base E0 H a b (n + 1) (va_up g n (some v)) t) (AX base a b H.size)) (AX base a b H.size) :=
  JM.mk (by decide) (Nat.le_of_ble_eq_true rfl) fun p e s m below meth c ls C hH hK hE hM0 hl => by
  obtain ⟨hx, hb, hml, hr, hown, hlk, hnm, hts⟩ := id C
  subst hH
  obtain ⟨hLO, hba, hbs, hcase⟩ := hL
  have hl : lv_has ls 4 [(0, .ref a), (1, .ref v), (2, .ref b), (3, .int (nI n))] := hl
  have hAb : ∀ q, AX base a b s.heap.size q → base ≤ q := fun q h => by rcases h with z | z | z <;> omega
  have hA : ∀ q, s.heap.size ≤ q → AX base a b s.heap.size q := fun q h => Or.inr (Or.inr h)
  have hal : a < s.heap.size := hLO.lt
  have hX : ∀ q, AX base a b s.heap.size q → (q = a ∨ q = b) ∨ s.heap.size ≤ q := fun q h => AX_X h
  have tail : ∀ (H1 : Heap) (locs1 : List Loc) (b1 cap1 : Nat) (cO1 : ClassId) (f1 : Nat → Option Nat) (ls1 : Array Slot) (cells1 slots1 : Nat), va_at D vcl (LO a k b1 n) H1 → va_at D vcl (RW b1 cO1 cap1 f1) H1 → va_K D vcl [(cO1, oO)] s → va_S (AX base a b s.heap.size) s.heap H1 locs1 → a ≠ b1 → AX base a b s.heap.size b1 → (b1 = b ∨ s.heap.size ≤ b1) → n < cap1 → 2 ≤ cap1 → cap1 ≤ 60000 → (∀ j, j < n → f1 j = g j) → lv_has ls1 4 [(2, .ref b1), (0, .ref a), (1, .ref v), (3, .int (nI n))] → cells1 ≤ 1 → slots1 ≤ 2 * n + 10 →
      W p l e (rmJ 7 1 (2 * n + 10)) s m #[.ref a, .ref v, .ref b, .int (nI n)] below meth c H1 locs1 cells1 slots1 (MQ below (va_Qv (S := Unit) (fun _ => True) (fun _ t => Lp D base E0 s.heap a b (n + 1) (va_up g n (some v)) t) (AX base a b s.heap.size)) #[.ref a, .ref v, .ref b, .int (nI n)] s 1 (2 * n + 10) (AX base a b s.heap.size)) (F0 m 11 ls1 []) := by
    intro H1 locs1 b1 cap1 cO1 f1 ls1 cells1 slots1 g1 g2 gK hS hab gA gb gn gc2 gc6 gf hl hc1 hs1
    refine lv_aload_n hx hb eA3_11 rfl (lv_at hl 0 rfl) ?_
    refine lv_iload_n hx hb eA3_12 rfl (lv_at hl 3 rfl) ?_
    refine lv_aload_n hx hb eA3_13 rfl (lv_at hl 2 rfl) ?_
    refine va_astqM hx hb gK (P2 g1 g2) (D2 hab (Or.inl rfl) gA) hS 1 0 rfl rfl ((hv.keep hX hS.2.1).any gK hE) (vp_in_nI gn (by omega)) eA3_14 fun H2 locs2 hP2 hD2 hS2 => ?_
    have hP2 : va_P D vcl [LO a k b1 n, RW b1 cO1 cap1 (va_up f1 (nI n).toNatClampNeg (some v))] H2 := hP2
    have hD2 : va_D (AX base a b s.heap.size) [LO a k b1 n, RW b1 cO1 cap1 (va_up f1 (nI n).toNatClampNeg (some v))] := hD2
    rw [nI_clamp (by omega)] at hP2 hD2
    refine lv_aload_n hx hb eA3_15 rfl (lv_at hl 1 rfl) ?_
    refine lv_iload_n hx hb eA3_16 rfl (lv_at hl 3 rfl) ?_
    refine lv_iconst (v := 1) hx hb eA3_17 (by decide) ?_
    refine lv_iadd hx hb eA3_18 ?_
    rw [nI_1]
    refine va_put hx hb hts lo_ws _ lo_ty lo_nm hown gK hP2 hD2 hS2 0 rfl rfl 2 (by decide) (hts _ q_60) (fun _ h => h) rfl lo_d2 rfl rfl (Nat.le_of_ble_eq_true rfl) eA3_19 fun H3 locs3 hP3 hD3 hS3 => ?_
    have k1 : va_at D vcl (LO a k b1 (n + 1)) H3 := hP3 0 _ rfl
    have k2 : va_at D vcl (RW b1 cO1 cap1 (va_up f1 n (some v))) H3 := hP3 1 _ rfl
    refine W.widen (k := 1) (n := 2 * n + 10) hc1 hs1 ?_
    refine W.vret hx hb hr (fun t e1 e2 => ⟨⟨(), rfl, trivial, k, b1, [(cO1, oO)], ⟨by rw [e1]; exact k1, hba, by rw [e1]; exact Nat.le_trans hbs hS3.1, Or.inr ⟨hAb _ gA, hab, cap1, _, cO1, rfl, by rw [e1]; exact k2, gn, gc2, gc6, fun j hj => ?_⟩⟩, va_K.moved e2.alike gK, gb⟩, hS3.F e1⟩) (fun q h => hS3.2.2 q h) eA3_22 hlk
    unfold va_up
    split
    · rfl
    · exact gf j (by omega)
  have grow : Lg D base E0 tys a b n g s.heap → W p l e (rmJ 7 1 (2 * n + 10)) s m #[.ref a, .ref v, .ref b, .int (nI n)] below meth c s.heap [] 0 0 (MQ below (va_Qv (S := Unit) (fun _ => True) (fun _ t => Lp D base E0 s.heap a b (n + 1) (va_up g n (some v)) t) (AX base a b s.heap.size)) #[.ref a, .ref v, .ref b, .int (nI n)] s 1 (2 * n + 10) (AX base a b s.heap.size)) (F0 m 6 ls []) := by
    intro hG
    refine lv_aload_n hx hb eA3_6 rfl (lv_at hl 0 rfl) ?_
    refine va_callr (jcallV (rest := []) C.fix (k_GR (H := s.heap) hLO hba hbs hG hel) jb_GR q_126 p_1 (show 6 + 1 ≤ 7 by decide) (show 100 * 6 + 30 ≤ 700 by decide) (A := AX base a b s.heap.size) hAb hK hE hM0 va_S.rf (va_recv hK (P1 hLO) (q0 := 0) rfl rfl) rfl hl.1 (by decide) eA3_7 ⟨show 0 + 1 ≤ 1 by omega, show 0 + (2 * n + 10) ≤ 2 * n + 10 by omega⟩ rfl) (A0 := AX base a b s.heap.size) va_S.rf (fun _ _ h => h) (fun _ h => h) fun u ra t H1 locs1 e1 e2 e3 e4 e5 e6 hS => ?_
    obtain ⟨g1, g2, g3, g4, g5, g6, g7, g8⟩ := e4
    rw [e1] at g1 g2
    have gK : va_K D vcl [(u.1, oO)] s := va_K.moved e2.symm g3
    refine lv_astore_n (lv' := [(2, .ref ra), (0, .ref a), (1, .ref v), (3, .int (nI n))]) hx hb eA3_10 rfl hl (by decide) rfl (fun ls hl => ?_)
    exact tail H1 locs1 ra u.2.1 u.1 u.2.2 ls _ _ g1 g2 gK hS (by omega) (hA _ g4) (Or.inr g4) g5 g6 g7 g8 hl (by omega) (by omega)
  refine lv_iload_n hx hb eA3_0 rfl (lv_at hl 3 rfl) ?_
  refine lv_aload_n hx hb eA3_1 rfl (lv_at hl 2 rfl) ?_
  rcases hcase with ⟨rfl, hE0, rfl, rfl⟩ | ⟨hbb, hab, cap, f, cO, rfl, hRW, hnc, hc2, hc6, hfg⟩
  · refine va_tlen (v := 0) hx hb hE.2.2.2.2.2.2.1 (va_S.rf (A := fun q => base ≤ q)) rfl eA3_2 ?_
    refine lv_icmp_ne (tgt := 11) hx hb eA3_3 rfl (fun h => absurd rfl h) (fun _ => ?_)
    exact grow (Or.inl ⟨rfl, hE0, rfl, rfl⟩)
  · refine va_alen (v := nI cap) hx hb hK (P1 hRW) 0 0 rfl rfl rfl eA3_2 ?_
    refine lv_icmp_ne (tgt := 11) hx hb eA3_3 rfl (fun h => ?_) (fun h => ?_)
    · have hne : n ≠ cap := fun z => h (by rw [z])
      exact tail s.heap [] b cap cO f ls 0 0 hLO hRW hK va_S.rf hab (Or.inr (Or.inl ⟨hbb, rfl⟩)) (Or.inl rfl) (by omega) hc2 hc6 hfg (lv_sub hl [2, 0, 1, 3] rfl) (by omega) (by omega)
    · have hcn : n = cap := (nI_eq (by omega) (by omega)).mp h
      subst hcn
      exact grow (Or.inr ⟨hbb, hab, f, cO, rfl, hRW, hc2, by omega, hfg⟩)
theorem jb_A3 : JB "java/util/ArrayList" 131 yA3 cA3 4 none 3 := ⟨q_120, q_4, q_123, by decide, by decide +kernel, by decide⟩
theorem lo_same0 {s : State} {args : Array Value} (hts : ∀ w ∈ WS, w.before args s = true) : ∀ x, s.fieldFound? (TJx4a65c 0).1 (TJx4a65c 0).2.1 (TJx4a65c 0).2.2.1 = some x → s.fieldFound? "java/util/ArrayList" (TJx4a65c 0).2.1 (TJx4a65c 0).2.2.1 = some x := fun x h => u_same (hts _ q_63) x h
theorem lo_n0 (k : Int32) : narrow .int (.int k) = .int k := rfl
/-- the counter up by one: what a list is stays -/
theorem Lr.bump {a b n : Nat} {k k' : Int32} {g : Nat → Option Nat} {H1 : Heap} {locs : List Loc} (hL : Lr D base E0 tys a k b n g H) (h1 : va_at D vcl (LO a k' b n) H1) (hS : va_S (fun q => q = a) H H1 locs) : Lr D base E0 tys a k' b n g H1 := by
  obtain ⟨h2, h3, h4, h5⟩ := hL
  refine ⟨h1, h3, Nat.le_trans h4 hS.1, h5.imp id ?_⟩
  rintro ⟨x1, x2, cap, f, cO, x3, x4, x5⟩
  exact ⟨x1, x2, cap, f, cO, x3, x4.kept (hS.2.1 b x4.lt (Ne.symm x2)), x5⟩
theorem El.a {a b y : Nat} {H1 : Heap} {locs : List Loc} (h : El D (fun q => q = a ∨ q = b) H y) (hS : va_S (fun q => q = a) H H1 locs) : El D (fun q => q = a ∨ q = b) H1 y := h.keep (A := fun q => q = a) (fun q z => Or.inl (Or.inl z)) hS.2.1
theorem AX_le {a b sz sz' q : Nat} (h : AX base a b sz' q) (hz : sz ≤ sz') : AX base a b sz q := by
  rcases h with z | z | z
  · exact Or.inl z
  · exact Or.inr (Or.inl z)
  · exact Or.inr (Or.inr (Nat.le_trans hz z))
theorem Lp.le {a b n : Nat} {g : Nat → Option Nat} {t t' : State} {H0 : Heap} (h : Lp D base E0 H a b n g t) (hz : H0.size ≤ H.size) (ht : t'.heap = t.heap) (hvm : t.vm.Alike t'.vm) : Lp D base E0 H0 a b n g t' := by
  obtain ⟨k, b', tys', h1, h2, h3⟩ := h
  exact ⟨k, b', tys', by rw [ht]; exact h1, va_K.moved hvm h2, h3.imp id (Nat.le_trans hz)⟩
set_option maxHeartbeats 4000000 in
theorem k_A1 {a b n v : Nat} {k : Int32} {g : Nat → Option Nat} (hL : Lr D base E0 tys a k b n g H) (hn : n < 30000) (hel : ∀ j, j < n → ∀ y, g j = some y → El D (fun q => q = a ∨ q = b) H y) (hv : El D (fun q => q = a ∨ q = b) H v) :
    JM l yA1 cA1 2 (some .boolean) 8 1 (2 * n + 10) base E0 mi D tys H [.ref a, .ref v] (va_Qi (S := Unit) (fun r _ => r = 1) (fun _ t => Lp D base E0 H a b (n + 1) (va_up g n (some v)) t) (AX base a b H.size)) (AX base a b H.size) :=
  JM.mk (by decide) (Nat.le_of_ble_eq_true rfl) fun p e s m below meth c ls C hH hK hE hM0 hl => by
  obtain ⟨hx, hb, hml, hr, hown, hlk, hnm, hts⟩ := id C
  subst hH
  have hLO := hL.1
  have hba := hL.2.1
  have hbs := hL.2.2.1
  have hl : lv_has ls 2 [(0, .ref a), (1, .ref v)] := hl
  have hAb : ∀ q, AX base a b s.heap.size q → base ≤ q := fun q h => by rcases h with z | z | z <;> omega
  refine lv_aload_n hx hb eA1_0 rfl (lv_at hl 0 rfl) ?_
  refine lv_dup hx hb eA1_1 rfl ?_
  refine va_get hx hb hts lo_ws hown hK (P1 hLO) 0 rfl rfl 0 (by decide) (hts _ q_62) (lo_same0 hts) rfl eA1_2 ?_
  refine lv_iconst (v := 1) hx hb eA1_5 (by decide) ?_
  refine lv_iadd hx hb eA1_6 ?_
  refine va_put (A := fun q => q = a) hx hb hts lo_ws _ lo_ty lo_nm hown hK (P1 hLO) (D1 rfl) va_S.rf 0 rfl rfl 0 (by decide) (hts _ q_62) (lo_same0 hts) rfl lo_d0 rfl rfl (Nat.le_of_ble_eq_true rfl) eA1_7 fun H1 locs1 hP1 hD1 hSa => ?_
  have g1 : va_at D vcl (LO a (k + 1) b n) H1 := hP1 0 _ rfl
  have hL1 := hL.bump g1 hSa
  have hS1 : va_S (AX base a b s.heap.size) s.heap H1 locs1 := hSa.weak fun q z => Or.inl z
  refine lv_aload_n hx hb eA1_10 rfl (lv_at hl 0 rfl) ?_
  refine lv_aload_n hx hb eA1_11 rfl (lv_at hl 1 rfl) ?_
  refine lv_aload_n hx hb eA1_12 rfl (lv_at hl 0 rfl) ?_
  refine va_get hx hb hts lo_ws hown hK (P1 g1) 0 rfl rfl 1 (by decide) (hts _ q_59) (fun _ h => h) rfl eA1_13 ?_
  refine lv_aload_n hx hb eA1_16 rfl (lv_at hl 0 rfl) ?_
  refine va_get hx hb hts lo_ws hown hK (P1 g1) 0 rfl rfl 2 (by decide) (hts _ q_60) (fun _ h => h) rfl eA1_17 ?_
  refine va_callv (jcallV (rest := []) C.fix (k_A3 (H := H1) hL1 hn (fun j hj y hy => (hel j hj y hy).a hSa) (hv.a hSa)) jb_A3 q_122 p_0 (show 7 + 1 ≤ 8 by decide) (show 100 * 7 + 30 ≤ 800 by decide) (A := AX base a b s.heap.size) hAb hK hE hM0 hS1 (va_recv hK (P1 g1) (q0 := 0) rfl rfl) rfl hl.1 (by decide) eA1_20 ⟨show 0 + 1 ≤ 1 by omega, show 0 + (2 * n + 10) ≤ 2 * n + 10 by omega⟩ rfl) (A0 := AX base a b s.heap.size) hS1 (fun _ _ h => AX_le h hS1.1) (fun _ h => AX_le h hS1.1) fun u t H2 locs2 e1 e2 e3 e4 e5 e6 hS => ?_
  refine lv_iconst (v := 1) hx hb eA1_23 (by decide) ?_
  refine W.widen (k := 1) (n := 2 * n + 10) (by omega) (by omega) ?_
  exact W.zret (ty := .boolean) hx hb hr rfl (fun t2 f1 f2 => ⟨⟨1, (), rfl, rfl, e4.le hS1.1 (f1.trans e1.symm) (e2.symm.trans f2.alike)⟩, hS.F f1⟩) (fun q h => hS.2.2 q h) eA1_24 hlk
end JA
end
section
/-! the JDK's lists: add(int, E) -/
section JN
variable {l : Launch} {base E0 mi : Nat} {D : va_G} {tys : List (ClassId × FieldType)} {H : Heap}
def ins (g : Nat → Option Nat) (i : Nat) (v : Nat) : Nat → Option Nat := fun j => if j < i then g j else if j = i then some v else g (j - 1)
def del (g : Nat → Option Nat) (i : Nat) : Nat → Option Nat := fun j => if j < i then g j else g (j + 1)
theorem jb_RC : JB "java/util/ArrayList" 135 yRC cRC 2 none 1 := ⟨q_584, q_4, q_587, by decide, by decide +kernel, by decide⟩
set_option maxHeartbeats 4000000 in
theorem k_AI {a b n i v : Nat} {k : Int32} {g : Nat → Option Nat} (hL : Lr D base E0 tys a k b n g H) (hi : i ≤ n) (hn : n < 30000) (hel : ∀ j, j < n → ∀ y, g j = some y → El D (fun q => q = a ∨ q = b) H y) (hv : El D (fun q => q = a ∨ q = b) H v) :
    JM l yAI cAI 5 none 7 1 (2 * n + 10) base E0 mi D tys H [.ref a, .int (nI i), .ref v] (va_Qv (S := Unit) (fun _ => True) (fun _ t => Lp D base E0 H a b (n + 1) (ins g i v) t) (AX base a b H.size)) (AX base a b H.size) :=
  JM.mk (by decide) (Nat.le_of_ble_eq_true rfl) fun p e s m below meth c ls C hH hK hE hM0 hl => by
  obtain ⟨hx, hb, hml, hr, hown, hlk, hnm, hts⟩ := id C
  subst hH
  have hLO := hL.1
  have hba := hL.2.1
  have hbs := hL.2.2.1
  have hl : lv_has ls 5 [(0, .ref a), (1, .int (nI i)), (2, .ref v)] := hl
  have hAb : ∀ q, AX base a b s.heap.size q → base ≤ q := fun q h => by rcases h with z | z | z <;> omega
  have hA : ∀ q, s.heap.size ≤ q → AX base a b s.heap.size q := fun q h => Or.inr (Or.inr h)
  have hal : a < s.heap.size := hLO.lt
  refine lv_aload_n hx hb eAI_0 rfl (lv_at hl 0 rfl) ?_
  refine lv_iload_n hx hb eAI_1 rfl (lv_at hl 1 rfl) ?_
  refine va_callv (jcallV (rest := []) C.fix (k_RC (H := s.heap) (P1 hLO) (i := 0) rfl hi (by omega)) jb_RC q_586 p_24 (show 1 + 1 ≤ 7 by decide) (show 100 * 1 + 30 ≤ 700 by decide) (A := fun q => q = a) (fun q h => by subst h; exact hba) hK hE hM0 va_S.rf (va_recv hK (P1 hLO) (q0 := 0) rfl rfl) rfl hl.1 (by decide) eAI_2 ⟨show 0 + 0 ≤ 1 by omega, show 0 + 0 ≤ 2 * n + 10 by omega⟩ rfl) (A0 := fun q => q = a) va_S.rf (fun _ _ h => h.elim) (fun _ h => h.elim) fun u0 t0 H0 locs0 x1 x2 x3 x4 x5 x6 hS0 => ?_
  have hH0 : H0 = s.heap := x1.symm.trans x4
  subst hH0
  refine lv_aload_n hx hb eAI_5 rfl (lv_at hl 0 rfl) ?_
  refine lv_dup hx hb eAI_6 rfl ?_
  refine va_get hx hb hts lo_ws hown hK (P1 hLO) 0 rfl rfl 0 (by decide) (hts _ q_62) (lo_same0 hts) rfl eAI_7 ?_
  refine lv_iconst (v := 1) hx hb eAI_10 (by decide) ?_
  refine lv_iadd hx hb eAI_11 ?_
  refine va_put (A := fun q => q = a) hx hb hts lo_ws _ lo_ty lo_nm hown hK (P1 hLO) (D1 rfl) hS0 0 rfl rfl 0 (by decide) (hts _ q_62) (lo_same0 hts) rfl lo_d0 rfl rfl (Nat.le_of_ble_eq_true rfl) eAI_12 fun H1 locs1 hP1 hD1 hSa => ?_
  have g1 : va_at D vcl (LO a (k + 1) b n) H1 := hP1 0 _ rfl
  have hL1 := hL.bump g1 hSa
  have hS1 : va_S (AX base a b s.heap.size) s.heap H1 locs1 := hSa.weak fun q z => Or.inl z
  have hel1 : ∀ j, j < n → ∀ y, g j = some y → El D (fun q => q = a ∨ q = b) H1 y := fun j hj y hy => (hel j hj y hy).a hSa
  have hX : ∀ q, AX base a b s.heap.size q → (q = a ∨ q = b) ∨ s.heap.size ≤ q := fun q h => AX_X h
  refine lv_aload_n hx hb eAI_15 rfl (lv_at hl 0 rfl) ?_
  refine va_get hx hb hts lo_ws hown hK (P1 g1) 0 rfl rfl 2 (by decide) (hts _ q_60) (fun _ h => h) rfl eAI_16 ?_
  refine lv_dup hx hb eAI_19 rfl ?_
  refine lv_istore_n (lv' := [(3, .int (nI n)), (0, .ref a), (1, .int (nI i)), (2, .ref v)]) hx hb eAI_20 rfl hl (by decide) rfl (fun ls hl => ?_)
  refine lv_aload_n hx hb eAI_21 rfl (lv_at hl 1 rfl) ?_
  refine va_get hx hb hts lo_ws hown hK (P1 g1) 0 rfl rfl 1 (by decide) (hts _ q_59) (fun _ h => h) rfl eAI_22 ?_
  refine lv_dup hx hb eAI_25 rfl ?_
  refine lv_astore (lv' := [(4, .ref b), (3, .int (nI n)), (0, .ref a), (1, .int (nI i)), (2, .ref v)]) hx hb eAI_26 hl (by decide) rfl (fun ls hl => ?_)
  have tail : ∀ (H2 : Heap) (locs2 : List Loc) (b1 cap1 : Nat) (cO1 : ClassId) (f1 : Nat → Option Nat) (ls1 : Array Slot) (cells1 slots1 : Nat), va_at D vcl (LO a (k + 1) b1 n) H2 → va_at D vcl (RW b1 cO1 cap1 f1) H2 → va_K D vcl [(cO1, oO)] s → va_S (AX base a b s.heap.size) s.heap H2 locs2 → a ≠ b1 → AX base a b s.heap.size b1 → (b1 = b ∨ s.heap.size ≤ b1) → n < cap1 → 2 ≤ cap1 → cap1 ≤ 60000 → (∀ j, j < n → f1 j = g j) → lv_has ls1 5 [(4, .ref b1), (3, .int (nI n)), (0, .ref a), (1, .int (nI i)), (2, .ref v)] → cells1 ≤ 1 → slots1 ≤ 2 * n + 10 →
      W p l e (rmJ 7 1 (2 * n + 10)) s m #[.ref a, .int (nI i), .ref v] below meth c H2 locs2 cells1 slots1 (MQ below (va_Qv (S := Unit) (fun _ => True) (fun _ t => Lp D base E0 s.heap a b (n + 1) (ins g i v) t) (AX base a b s.heap.size)) #[.ref a, .int (nI i), .ref v] s 1 (2 * n + 10) (AX base a b s.heap.size)) (F0 m 38 ls1 []) := by
    intro H2 locs2 b1 cap1 cO1 f1 ls1 cells1 slots1 g1 g2 gK hS hab gA gb gn gc2 gc6 gf hl hc1 hs1
    have hDD : ∀ f, va_D (AX base a b s.heap.size) [LO a (k + 1) b1 n, RW b1 cO1 cap1 f] := fun f => D2 hab (Or.inl rfl) gA
    refine lv_aload hx hb eAI_38 (lv_at hl 0 rfl) ?_
    refine lv_iload_n hx hb eAI_40 rfl (lv_at hl 3 rfl) ?_
    refine lv_aload hx hb eAI_41 (lv_at hl 0 rfl) ?_
    refine lv_iload_n hx hb eAI_43 rfl (lv_at hl 3 rfl) ?_
    refine lv_iconst (v := 1) hx hb eAI_44 (by decide) ?_
    refine lv_iadd hx hb eAI_45 ?_
    rw [nI_1]
    refine lv_iload_n hx hb eAI_46 rfl (lv_at hl 1 rfl) ?_
    refine lv_iload_n hx hb eAI_47 rfl (lv_at hl 3 rfl) ?_
    refine lv_isub hx hb eAI_48 ?_
    rw [pk_sub hi]
    refine va_copyM (q0 := 1) (q1 := 1) (t0 := 0) (t1 := 0) hx hb (by rw [hml]; exact hl.1.symm) hown (hts _ q_560) (hts _ q_180) (hts _ q_179) (hts _ q_10) gK (E0 := "java/lang/Object") (E1 := "java/lang/Object") (P2 g1 g2) (hDD _) hS rfl rfl rfl rfl (nI_pos (by omega)) (nI_pos (by omega)) (nI_pos (by omega)) (by rw [nI_clamp (by omega), nI_clamp (by omega)]; omega) (by rw [nI_clamp (by omega), nI_clamp (by omega)]; omega) (fun j hj y hy => ?_) (show 1 ≤ 7 by decide) (by have := copy_words; show 0 + _ ≤ 700; omega) eAI_49 (fun H3 locs3 hP3 hD3 hS3 => ?_)
    · rw [nI_clamp (by omega)] at hj hy
      have hj2 : i + j < n := by omega
      exact ((hel (i + j) hj2 y ((gf _ hj2).symm.trans hy)).keep (A := AX base a b s.heap.size) hX hS.2.1).any gK hE
    rw [nI_clamp (by omega), nI_clamp (by omega), nI_clamp (by omega)] at hP3 hD3
    have hP3 : va_P D vcl [LO a (k + 1) b1 n, RW b1 cO1 cap1 (va_cpy f1 f1 i (i + 1) (n - i))] H3 := hP3
    have hD3 := hDD (va_cpy f1 f1 i (i + 1) (n - i))
    refine lv_aload hx hb eAI_52 (lv_at hl 0 rfl) ?_
    refine lv_iload_n hx hb eAI_54 rfl (lv_at hl 3 rfl) ?_
    refine lv_aload_n hx hb eAI_55 rfl (lv_at hl 4 rfl) ?_
    refine va_astqM hx hb gK hP3 hD3 hS3 1 0 rfl rfl ((hv.keep hX hS3.2.1).any gK hE) (vp_in_nI (by omega) (by omega)) eAI_56 fun H4 locs4 hP4 hD4 hS4 => ?_
    rw [nI_clamp (by omega)] at hP4 hD4
    have hP4 : va_P D vcl [LO a (k + 1) b1 n, RW b1 cO1 cap1 (va_up (va_cpy f1 f1 i (i + 1) (n - i)) i (some v))] H4 := hP4
    have hD4 := hDD (va_up (va_cpy f1 f1 i (i + 1) (n - i)) i (some v))
    refine lv_aload_n hx hb eAI_57 rfl (lv_at hl 2 rfl) ?_
    refine lv_iload_n hx hb eAI_58 rfl (lv_at hl 1 rfl) ?_
    refine lv_iconst (v := 1) hx hb eAI_59 (by decide) ?_
    refine lv_iadd hx hb eAI_60 ?_
    rw [nI_1]
    refine va_put hx hb hts lo_ws _ lo_ty lo_nm hown gK hP4 hD4 hS4 0 rfl rfl 2 (by decide) (hts _ q_60) (fun _ h => h) rfl lo_d2 rfl rfl (Nat.le_of_ble_eq_true rfl) eAI_61 fun H5 locs5 hP5 hD5 hS5 => ?_
    have k1 : va_at D vcl (LO a (k + 1) b1 (n + 1)) H5 := hP5 0 _ rfl
    have k2 : va_at D vcl (RW b1 cO1 cap1 (va_up (va_cpy f1 f1 i (i + 1) (n - i)) i (some v))) H5 := hP5 1 _ rfl
    refine W.widen (k := 1) (n := 2 * n + 10) hc1 hs1 ?_
    refine W.vret hx hb hr (fun t e1 e2 => ⟨⟨(), rfl, trivial, k + 1, b1, [(cO1, oO)], ⟨by rw [e1]; exact k1, hba, by rw [e1]; exact Nat.le_trans hbs hS5.1, Or.inr ⟨hAb _ gA, hab, cap1, _, cO1, rfl, by rw [e1]; exact k2, gn, gc2, gc6, fun j hj => ?_⟩⟩, va_K.moved e2.alike gK, gb⟩, hS5.F e1⟩) (fun q h => hS5.2.2 q h) eAI_64 hlk
    unfold va_up va_cpy ins
    by_cases c1 : j = i
    · rw [if_pos c1, if_neg (by omega), if_pos c1]
    · rw [if_neg c1]
      by_cases c2 : j < i
      · rw [if_neg (by omega), if_pos c2]
        exact gf j (by omega)
      · rw [if_pos (by omega), if_neg c2, if_neg c1, gf _ (by omega)]
        congr 1
        omega
  have grow : Lg D base E0 tys a b n g H1 → W p l e (rmJ 7 1 (2 * n + 10)) s m #[.ref a, .int (nI i), .ref v] below meth c H1 locs1 (0 + 0) (0 + 0) (MQ below (va_Qv (S := Unit) (fun _ => True) (fun _ t => Lp D base E0 s.heap a b (n + 1) (ins g i v) t) (AX base a b s.heap.size)) #[.ref a, .int (nI i), .ref v] s 1 (2 * n + 10) (AX base a b s.heap.size)) (F0 m 32 ls []) := by
    intro hG
    refine lv_aload_n hx hb eAI_32 rfl (lv_at hl 2 rfl) ?_
    refine va_callr (jcallV (rest := []) C.fix (k_GR (H := H1) g1 hba hL1.2.2.1 hG hel1) jb_GR q_126 p_1 (show 6 + 1 ≤ 7 by decide) (show 100 * 6 + 30 ≤ 700 by decide) (A := AX base a b s.heap.size) hAb hK hE hM0 hS1 (va_recv hK (P1 g1) (q0 := 0) rfl rfl) rfl hl.1 (by decide) eAI_33 ⟨show 0 + 0 + 1 ≤ 1 by omega, show 0 + 0 + (2 * n + 10) ≤ 2 * n + 10 by omega⟩ rfl) (A0 := AX base a b s.heap.size) hS1 (fun _ _ h => AX_le h hS1.1) (fun _ h => AX_le h hS1.1) fun u ra t H2 locs2 e1 e2 e3 e4 e5 e6 hS => ?_
    obtain ⟨g1, g2, g3, g4, g5, g6, g7, g8⟩ := e4
    rw [e1] at g1 g2
    have gK : va_K D vcl [(u.1, oO)] s := va_K.moved e2.symm g3
    have g4' : s.heap.size ≤ ra := Nat.le_trans hS1.1 g4
    refine lv_astore (lv' := [(4, .ref ra), (3, .int (nI n)), (0, .ref a), (1, .int (nI i)), (2, .ref v)]) hx hb eAI_36 hl (by decide) rfl (fun ls hl => ?_)
    exact tail H2 locs2 ra u.2.1 u.1 u.2.2 ls _ _ g1 g2 gK hS (by omega) (hA _ g4') (Or.inr g4') g5 g6 g7 g8 hl (by omega) (by omega)
  obtain ⟨-, -, -, hcase⟩ := hL1
  rcases hcase with ⟨rfl, hE0, rfl, rfl⟩ | ⟨hbb, hab, cap, f, cO, rfl, hRW, hnc, hc2, hc6, hfg⟩
  · refine va_tlen (v := 0) hx hb hE.2.2.2.2.2.2.1 (hS1.weak hAb) rfl eAI_28 ?_
    refine lv_icmp_ne (tgt := 38) hx hb eAI_29 rfl (fun h => absurd rfl h) (fun _ => ?_)
    exact grow (Or.inl ⟨rfl, hE0, rfl, rfl⟩)
  · refine va_alen (v := nI cap) hx hb hK (P1 hRW) 0 0 rfl rfl rfl eAI_28 ?_
    refine lv_icmp_ne (tgt := 38) hx hb eAI_29 rfl (fun h => ?_) (fun h => ?_)
    · have hne : n ≠ cap := fun z => h (by rw [z])
      exact tail H1 locs1 b cap cO f ls _ _ g1 hRW hK hS1 hab (Or.inr (Or.inl ⟨hbb, rfl⟩)) (Or.inl rfl) (by omega) hc2 hc6 hfg hl (by omega) (by omega)
    · have hcn : n = cap := (nI_eq (by omega) (by omega)).mp h
      subst hcn
      exact grow (Or.inr ⟨hbb, hab, f, cO, rfl, hRW, hc2, by omega, hfg⟩)
end JN
end
section
/-! the JDK's lists: remove, clear, the constructors -/
section JR
variable {l : Launch} {base E0 mi : Nat} {D : va_G} {tys : List (ClassId × FieldType)} {H : Heap}
theorem jb_FR : JB "java/util/ArrayList" 144 yFR cFR 4 none 2 := ⟨q_556, q_4, q_559, by decide, by decide +kernel, by decide⟩
set_option maxHeartbeats 4000000 in
theorem k_FR {a b n i cap : Nat} {k : Int32} {f g : Nat → Option Nat} {cO : ClassId} (hLO : va_at D vcl (LO a k b n) H) (hba : base ≤ a) (hbs : base ≤ H.size) (hbb : base ≤ b) (hab : a ≠ b) (hRW : va_at D vcl (RW b cO cap f) H) (hty : tys = [(cO, oO)]) (hnc : n ≤ cap) (hc2 : 2 ≤ cap) (hc6 : cap ≤ 60000) (hfg : ∀ j, j < n → f j = g j) (hi : i < n) (hel : ∀ j, j < n → ∀ y, g j = some y → El D (fun q => q = a ∨ q = b) H y) :
    JM l yFR cFR 4 none 2 0 0 base E0 mi D tys H [.ref a, .ref b, .int (nI i)] (va_Qv (S := Unit) (fun _ => True) (fun _ t => Lp D base E0 H a b (n - 1) (del g i) t) (AX base a b H.size)) (AX base a b H.size) :=
  JM.mk (by decide) (Nat.le_of_ble_eq_true rfl) fun p e s m below meth c ls C hH hK hE hM0 hl => by
  obtain ⟨hx, hb, hml, hr, hown, hlk, hnm, hts⟩ := id C
  subst hH; subst hty
  have hl : lv_has ls 4 [(0, .ref a), (1, .ref b), (2, .int (nI i))] := hl
  have hX : ∀ q, AX base a b s.heap.size q → (q = a ∨ q = b) ∨ s.heap.size ≤ q := fun q h => AX_X h
  have hDD : ∀ (z : Int32) n' f', va_D (AX base a b s.heap.size) [LO a z b n', RW b cO cap f'] := fun z n' f' => D2 hab (Or.inl rfl) (Or.inr (Or.inl ⟨hbb, rfl⟩))
  refine lv_aload_n hx hb eFR_0 rfl (lv_at hl 0 rfl) ?_
  refine lv_dup hx hb eFR_1 rfl ?_
  refine va_get hx hb hts lo_ws hown hK (P1 hLO) 0 rfl rfl 0 (by decide) (hts _ q_62) (lo_same0 hts) rfl eFR_2 ?_
  refine lv_iconst (v := 1) hx hb eFR_5 (by decide) ?_
  refine lv_iadd hx hb eFR_6 ?_
  refine va_put (A := AX base a b s.heap.size) hx hb hts lo_ws _ lo_ty lo_nm hown hK (P2 hLO hRW) (hDD _ _ _) va_S.rf 0 rfl rfl 0 (by decide) (hts _ q_62) (lo_same0 hts) rfl lo_d0 rfl rfl (Nat.le_of_ble_eq_true rfl) eFR_7 fun H1 locs1 hP1 hD1 hS1 => ?_
  have hP1 : va_P D vcl [LO a (k + 1) b n, RW b cO cap f] H1 := hP1
  refine lv_aload_n hx hb eFR_10 rfl (lv_at hl 0 rfl) ?_
  refine va_get hx hb hts lo_ws hown hK hP1 0 rfl rfl 2 (by decide) (hts _ q_60) (fun _ h => h) rfl eFR_11 ?_
  refine lv_iconst (v := 1) hx hb eFR_14 (by decide) ?_
  refine lv_isub hx hb eFR_15 ?_
  have e1 : nI n - 1 = nI (n - 1) := pk_sub (a := n) (b := 1) (by omega)
  rw [e1]
  refine lv_dup hx hb eFR_16 rfl ?_
  refine lv_istore_n (lv' := [(3, .int (nI (n - 1))), (0, .ref a), (1, .ref b), (2, .int (nI i))]) hx hb eFR_17 rfl hl (by decide) rfl (fun ls hl => ?_)
  have tail : ∀ (H2 : Heap) (locs2 : List Loc) (f1 : Nat → Option Nat), va_P D vcl [LO a (k + 1) b n, RW b cO cap f1] H2 → va_S (AX base a b s.heap.size) s.heap H2 locs2 → (∀ j, j < n - 1 → f1 j = del g i j) →
      W p l e (rmJ 2 0 0) s m #[.ref a, .ref b, .int (nI i)] below meth c H2 locs2 0 0 (MQ below (va_Qv (S := Unit) (fun _ => True) (fun _ t => Lp D base E0 s.heap a b (n - 1) (del g i) t) (AX base a b s.heap.size)) #[.ref a, .ref b, .int (nI i)] s 0 0 (AX base a b s.heap.size)) (F0 m 34 ls []) := by
    intro H2 locs2 f1 hP hS hf
    refine lv_aload_n hx hb eFR_34 rfl (lv_at hl 2 rfl) ?_
    refine lv_aload_n hx hb eFR_35 rfl (lv_at hl 1 rfl) ?_
    refine lv_iload_n hx hb eFR_36 rfl (lv_at hl 0 rfl) ?_
    refine lv_dup_x1 hx hb eFR_37 rfl rfl ?_
    refine va_put hx hb hts lo_ws _ lo_ty lo_nm hown hK hP (hDD _ _ _) hS 0 rfl rfl 2 (by decide) (hts _ q_60) (fun _ h => h) rfl lo_d2 rfl rfl (Nat.le_of_ble_eq_true rfl) eFR_38 fun H3 locs3 hP3 hD3 hS3 => ?_
    have hP3 : va_P D vcl [LO a (k + 1) b (n - 1), RW b cO cap f1] H3 := hP3
    refine lv_null hx hb eFR_41 ?_
    refine va_astqN hx hb hK hP3 (hDD _ _ _) hS3 1 0 rfl rfl (vp_in_nI (by omega) (by omega)) eFR_42 fun H4 locs4 hP4 hD4 hS4 => ?_
    rw [nI_clamp (by omega)] at hP4
    have k1 : va_at D vcl (LO a (k + 1) b (n - 1)) H4 := hP4 0 _ rfl
    have k2 : va_at D vcl (RW b cO cap (va_up f1 (n - 1) none)) H4 := hP4 1 _ rfl
    refine W.vret hx hb hr (fun t e1 e2 => ⟨⟨(), rfl, trivial, k + 1, b, [(cO, oO)], ⟨by rw [e1]; exact k1, hba, by rw [e1]; exact Nat.le_trans hbs hS4.1, Or.inr ⟨hbb, hab, cap, _, cO, rfl, by rw [e1]; exact k2, by omega, hc2, hc6, fun j hj => ?_⟩⟩, va_K.moved e2.alike hK, Or.inl rfl⟩, hS4.F e1⟩) (fun q h => hS4.2.2 q h) eFR_43 hlk
    unfold va_up
    rw [if_neg (by omega)]
    exact hf j hj
  refine lv_iload_n hx hb eFR_18 rfl (lv_at hl 3 rfl) ?_
  refine lv_icmp_le (tgt := 34) hx hb eFR_19 rfl (fun h => ?_) (fun h => ?_)
  · have h9 : n - 1 ≤ i := (nI_leI (by omega) (by omega)).mp h
    exact tail H1 locs1 f hP1 hS1 fun j hj => by
      unfold del
      rw [if_pos (by omega)]
      exact hfg j (by omega)
  · have h9 : i < n - 1 := Nat.lt_of_not_le fun z => h ((nI_leI (by omega) (by omega)).mpr z)
    refine lv_aload_n hx hb eFR_22 rfl (lv_at hl 2 rfl) ?_
    refine lv_iload_n hx hb eFR_23 rfl (lv_at hl 3 rfl) ?_
    refine lv_iconst (v := 1) hx hb eFR_24 (by decide) ?_
    refine lv_iadd hx hb eFR_25 ?_
    rw [nI_1]
    refine lv_aload_n hx hb eFR_26 rfl (lv_at hl 2 rfl) ?_
    refine lv_iload_n hx hb eFR_27 rfl (lv_at hl 3 rfl) ?_
    refine lv_iload_n hx hb eFR_28 rfl (lv_at hl 0 rfl) ?_
    refine lv_iload_n hx hb eFR_29 rfl (lv_at hl 3 rfl) ?_
    refine lv_isub hx hb eFR_30 ?_
    rw [pk_sub (a := n - 1) (b := i) (by omega)]
    refine va_copyM (q0 := 1) (q1 := 1) (t0 := 0) (t1 := 0) hx hb (by rw [hml]; exact hl.1.symm) hown (hts _ q_560) (hts _ q_180) (hts _ q_179) (hts _ q_10) hK (E0 := "java/lang/Object") (E1 := "java/lang/Object") hP1 (hDD _ _ _) hS1 rfl rfl rfl rfl (nI_pos (by omega)) (nI_pos (by omega)) (nI_pos (by omega)) (by rw [nI_clamp (by omega), nI_clamp (by omega)]; omega) (by rw [nI_clamp (by omega), nI_clamp (by omega)]; omega) (fun j hj y hy => ?_) (show 1 ≤ 2 by decide) (by have := copy_words; show 0 + _ ≤ 200; omega) eFR_31 (fun H3 locs3 hP3 hD3 hS3 => ?_)
    · rw [nI_clamp (by omega)] at hj hy
      have hj2 : i + 1 + j < n := by omega
      exact ((hel (i + 1 + j) hj2 y ((hfg _ hj2).symm.trans hy)).keep (A := AX base a b s.heap.size) hX hS1.2.1).any hK hE
    rw [nI_clamp (by omega), nI_clamp (by omega), nI_clamp (by omega)] at hP3
    refine tail H3 locs3 (va_cpy f f (i + 1) i (n - 1 - i)) hP3 hS3 fun j hj => ?_
    unfold va_cpy del
    by_cases c1 : j < i
    · rw [if_neg (by omega), if_pos c1]
      exact hfg j (by omega)
    · rw [if_pos (by omega), if_neg c1, hfg _ (by omega)]
      congr 1
      omega
set_option maxHeartbeats 4000000 in
theorem k_RM {a b n i y : Nat} {k : Int32} {g : Nat → Option Nat} (hL : Lr D base E0 tys a k b n g H) (hi : i < n) (hy : g i = some y) (hel : ∀ j, j < n → ∀ y, g j = some y → El D (fun q => q = a ∨ q = b) H y) :
    JM l yRM cRM 4 (some oO) 3 0 0 base E0 mi D tys H [.ref a, .int (nI i)] (va_Qr (S := Unit) (fun _ => True) (fun _ ra t => ra = y ∧ Lp D base E0 H a b (n - 1) (del g i) t) (AX base a b H.size)) (AX base a b H.size) :=
  JM.mk (by decide) (Nat.le_of_ble_eq_true rfl) fun p e s m below meth c ls C hH hK hE hM0 hl => by
  obtain ⟨hx, hb, hml, hr, hown, hlk, hnm, hts⟩ := id C
  subst hH
  obtain ⟨hLO, hba, hbs, hcase⟩ := hL
  have hl : lv_has ls 4 [(0, .ref a), (1, .int (nI i))] := hl
  have hAb : ∀ q, AX base a b s.heap.size q → base ≤ q := fun q h => by rcases h with z | z | z <;> omega
  rcases hcase with ⟨-, -, hn0, -⟩ | ⟨hbb, hab, cap, f, cO, rfl, hRW, hnc, hc2, hc6, hfg⟩
  · omega
  refine lv_iload_n hx hb eRM_0 rfl (lv_at hl 1 rfl) ?_
  refine lv_aload_n hx hb eRM_1 rfl (lv_at hl 0 rfl) ?_
  refine va_get hx hb hts lo_ws hown hK (P1 hLO) 0 rfl rfl 2 (by decide) (hts _ q_60) (fun _ h => h) rfl eRM_2 ?_
  refine va_calli (jcallS (rest := []) C.fix (k_CI2 (H := s.heap) (nI_pos (by omega)) (nI_lt hi (by omega))) jb_CI2 q_229 (show 2 + 1 ≤ 3 by decide) (show 100 * 2 + 30 ≤ 300 by decide) (A := AX base a b s.heap.size) hAb hK hE hM0 va_S.rf rfl hl.1 (by decide) eRM_5 ⟨show 0 + 0 ≤ 0 by omega, show 0 + 0 ≤ 0 by omega⟩ rfl) (A0 := AX base a b s.heap.size) va_S.rf (fun _ _ h => h.elim) (fun _ h => h.elim) fun r u t H1 locs1 e1 e2 e3 e4 e5 e6 hS => ?_
  have hH1 : H1 = s.heap := e1.symm.trans e4
  subst hH1
  refine lv_pop hx hb eRM_8 rfl ?_
  refine lv_aload_n hx hb eRM_9 rfl (lv_at hl 0 rfl) ?_
  refine va_get hx hb hts lo_ws hown hK (P1 hLO) 0 rfl rfl 1 (by decide) (hts _ q_59) (fun _ h => h) rfl eRM_10 ?_
  refine lv_astore_n (lv' := [(2, .ref b), (0, .ref a), (1, .int (nI i))]) hx hb eRM_13 rfl hl (by decide) rfl (fun ls hl => ?_)
  refine lv_aload_n hx hb eRM_14 rfl (lv_at hl 0 rfl) ?_
  refine lv_iload_n hx hb eRM_15 rfl (lv_at hl 2 rfl) ?_
  refine va_aldq hx hb hK (P1 hRW) 0 0 rfl rfl (vp_in_nI (by omega) (by omega)) eRM_16 ?_
  rw [nI_clamp (by omega), hfg i hi, hy]
  refine lv_astore_n (x := y) (lv' := [(3, .ref y), (2, .ref b), (0, .ref a), (1, .int (nI i))]) hx hb eRM_17 rfl hl (by decide) rfl (fun ls hl => ?_)
  refine lv_aload_n hx hb eRM_18 rfl (lv_at hl 2 rfl) ?_
  refine lv_aload_n hx hb eRM_19 rfl (lv_at hl 1 rfl) ?_
  refine lv_iload_n hx hb eRM_20 rfl (lv_at hl 3 rfl) ?_
  refine va_callv (jcallV (rest := []) C.fix (k_FR (H := s.heap) hLO hba hbs hbb hab hRW rfl hnc hc2 hc6 hfg hi hel) jb_FR q_558 p_21 (show 2 + 1 ≤ 3 by decide) (show 100 * 2 + 30 ≤ 300 by decide) (A := AX base a b s.heap.size) hAb hK hE hM0 hS (va_recv hK (P1 hLO) (q0 := 0) rfl rfl) rfl hl.1 (by decide) eRM_21 ⟨show 0 + 0 + 0 ≤ 0 by omega, show 0 + 0 + 0 ≤ 0 by omega⟩ rfl) (A0 := AX base a b s.heap.size) hS (fun _ _ h => h) (fun _ h => h) fun u t H2 locs2 e1 e2 e3 e4 e5 e6 hS2 => ?_
  refine lv_aload_n hx hb eRM_24 rfl (lv_at hl 0 rfl) ?_
  exact W.aret hx hb hr (Or.inl ⟨_, rfl⟩) (Or.inr ⟨y, rfl⟩) (fun t2 f1 f2 => ⟨⟨(), y, rfl, trivial, rfl, e4.le (Nat.le_refl _) (f1.trans e1.symm) (e2.symm.trans f2.alike)⟩, hS2.F f1⟩) (fun q h => hS2.2.2 q h) eRM_25 hlk
end JR
end
section
/-! the JDK's lists: clear, the constructors -/
section JK
variable {l : Launch} {base E0 mi : Nat} {D : va_G} {tys : List (ClassId × FieldType)} {H : Heap}
set_option maxHeartbeats 4000000 in
theorem k_CL {a b n : Nat} {k : Int32} {g : Nat → Option Nat} (hL : Lr D base E0 tys a k b n g H) :
    JM l yCL cCL 4 none 1 0 0 base E0 mi D tys H [.ref a] (va_Qv (S := Unit) (fun _ => True) (fun _ t => Lp D base E0 H a b 0 g t) (AX base a b H.size)) (AX base a b H.size) :=
  JM.mk (by decide) (Nat.le_of_ble_eq_true rfl) fun p e s m below meth c ls C hH hK hE hM0 hl => by
  obtain ⟨hx, hb, hml, hr, hown, hlk, hnm, hts⟩ := id C
  subst hH
  obtain ⟨hLO, hba, hbs, hcase⟩ := hL
  have hl : lv_has ls 4 [(0, .ref a)] := hl
  refine lv_aload_n hx hb eCL_0 rfl (lv_at hl 0 rfl) ?_
  refine lv_dup hx hb eCL_1 rfl ?_
  refine va_get hx hb hts lo_ws hown hK (P1 hLO) 0 rfl rfl 0 (by decide) (hts _ q_62) (lo_same0 hts) rfl eCL_2 ?_
  refine lv_iconst (v := 1) hx hb eCL_5 (by decide) ?_
  refine lv_iadd hx hb eCL_6 ?_
  rcases hcase with ⟨rfl, hE0, rfl, rfl⟩ | ⟨hbb, hab, cap, f, cO, rfl, hRW, hnc, hc2, hc6, hfg⟩
  · refine va_put (A := AX base a b s.heap.size) hx hb hts lo_ws _ lo_ty lo_nm hown hK (P1 hLO) (D1 (Or.inl rfl)) va_S.rf 0 rfl rfl 0 (by decide) (hts _ q_62) (lo_same0 hts) rfl lo_d0 rfl rfl (Nat.le_of_ble_eq_true rfl) eCL_7 fun H1 locs1 hP1 hD1 hS1 => ?_
    have hP1 : va_P D vcl [LO a (k + 1) b 0] H1 := hP1
    refine lv_aload_n hx hb eCL_10 rfl (lv_at hl 0 rfl) ?_
    refine va_get hx hb hts lo_ws hown hK hP1 0 rfl rfl 1 (by decide) (hts _ q_59) (fun _ h => h) rfl eCL_11 ?_
    refine lv_astore_n (lv' := [(1, .ref b), (0, .ref a)]) hx hb eCL_14 rfl hl (by decide) rfl (fun ls hl => ?_)
    refine lv_aload_n hx hb eCL_15 rfl (lv_at hl 1 rfl) ?_
    refine va_get hx hb hts lo_ws hown hK hP1 0 rfl rfl 2 (by decide) (hts _ q_60) (fun _ h => h) rfl eCL_16 ?_
    refine lv_istore_n (lv' := [(2, .int (nI 0)), (1, .ref b), (0, .ref a)]) hx hb eCL_19 rfl hl (by decide) rfl (fun ls hl => ?_)
    refine lv_aload_n hx hb eCL_20 rfl (lv_at hl 2 rfl) ?_
    refine lv_iconst (v := nI 0) hx hb eCL_21 (by decide) ?_
    refine lv_dup_x1 hx hb eCL_22 rfl rfl ?_
    refine va_put hx hb hts lo_ws _ lo_ty lo_nm hown hK hP1 (D1 (Or.inl rfl)) hS1 0 rfl rfl 2 (by decide) (hts _ q_60) (fun _ h => h) rfl lo_d2 rfl rfl (Nat.le_of_ble_eq_true rfl) eCL_23 fun H2 locs2 hP2 hD2 hS2 => ?_
    have k1 : va_at D vcl (LO a (k + 1) b 0) H2 := hP2 0 _ rfl
    refine lv_istore_n (lv' := [(3, .int (nI 0)), (2, .int (nI 0)), (1, .ref b), (0, .ref a)]) hx hb eCL_26 rfl hl (by decide) rfl (fun ls hl => ?_)
    refine lv_iload_n hx hb eCL_27 rfl (lv_at hl 0 rfl) ?_
    refine lv_iload_n hx hb eCL_28 rfl (lv_at hl 1 rfl) ?_
    refine lv_icmp_ge (tgt := 42) hx hb eCL_29 rfl (fun _ => ?_) (fun h => absurd (Int32.le_refl _) h)
    exact W.vret hx hb hr (fun t e1 e2 => ⟨⟨(), rfl, trivial, k + 1, b, [], ⟨by rw [e1]; exact k1, hba, by rw [e1]; exact Nat.le_trans hbs hS2.1, Or.inl ⟨rfl, hE0, rfl, rfl⟩⟩, va_K.moved e2.alike hK, Or.inl rfl⟩, hS2.F e1⟩) (fun q h => hS2.2.2 q h) eCL_42 hlk
  · have hDD : ∀ (z : Int32) n' f', va_D (AX base a b s.heap.size) [LO a z b n', RW b cO cap f'] := fun z n' f' => D2 hab (Or.inl rfl) (Or.inr (Or.inl ⟨hbb, rfl⟩))
    refine va_put (A := AX base a b s.heap.size) hx hb hts lo_ws _ lo_ty lo_nm hown hK (P2 hLO hRW) (hDD _ _ _) va_S.rf 0 rfl rfl 0 (by decide) (hts _ q_62) (lo_same0 hts) rfl lo_d0 rfl rfl (Nat.le_of_ble_eq_true rfl) eCL_7 fun H1 locs1 hP1 hD1 hS1 => ?_
    have hP1 : va_P D vcl [LO a (k + 1) b n, RW b cO cap f] H1 := hP1
    refine lv_aload_n hx hb eCL_10 rfl (lv_at hl 0 rfl) ?_
    refine va_get hx hb hts lo_ws hown hK hP1 0 rfl rfl 1 (by decide) (hts _ q_59) (fun _ h => h) rfl eCL_11 ?_
    refine lv_astore_n (lv' := [(1, .ref b), (0, .ref a)]) hx hb eCL_14 rfl hl (by decide) rfl (fun ls hl => ?_)
    refine lv_aload_n hx hb eCL_15 rfl (lv_at hl 1 rfl) ?_
    refine va_get hx hb hts lo_ws hown hK hP1 0 rfl rfl 2 (by decide) (hts _ q_60) (fun _ h => h) rfl eCL_16 ?_
    refine lv_istore_n (lv' := [(2, .int (nI n)), (1, .ref b), (0, .ref a)]) hx hb eCL_19 rfl hl (by decide) rfl (fun ls hl => ?_)
    refine lv_aload_n hx hb eCL_20 rfl (lv_at hl 2 rfl) ?_
    refine lv_iconst (v := nI 0) hx hb eCL_21 (by decide) ?_
    refine lv_dup_x1 hx hb eCL_22 rfl rfl ?_
    refine va_put hx hb hts lo_ws _ lo_ty lo_nm hown hK hP1 (hDD _ _ _) hS1 0 rfl rfl 2 (by decide) (hts _ q_60) (fun _ h => h) rfl lo_d2 rfl rfl (Nat.le_of_ble_eq_true rfl) eCL_23 fun H2 locs2 hP2 hD2 hS2 => ?_
    have hP2 : va_P D vcl [LO a (k + 1) b 0, RW b cO cap f] H2 := hP2
    refine lv_istore_n (lv' := [(3, .int (nI 0)), (2, .int (nI n)), (1, .ref b), (0, .ref a)]) hx hb eCL_26 rfl hl (by decide) rfl (fun ls hl => ?_)
    have loop : ∀ (d j : Nat) (H3 : Heap) (locs3 : List Loc) (f3 : Nat → Option Nat) (ls3 : Array Slot), j + d = n → va_P D vcl [LO a (k + 1) b 0, RW b cO cap f3] H3 → va_S (AX base a b s.heap.size) s.heap H3 locs3 → lv_has ls3 4 [(3, .int (nI j)), (2, .int (nI n)), (1, .ref b), (0, .ref a)] →
        W p l e (rmJ 1 0 0) s m #[.ref a] below meth c H3 locs3 0 0 (MQ below (va_Qv (S := Unit) (fun _ => True) (fun _ t => Lp D base E0 s.heap a b 0 g t) (AX base a b s.heap.size)) #[.ref a] s 0 0 (AX base a b s.heap.size)) (F0 m 27 ls3 []) := by
      intro d
      induction d with
      | zero =>
        intro j H3 locs3 f3 ls3 hj hP hS hl
        refine lv_iload_n hx hb eCL_27 rfl (lv_at hl 0 rfl) ?_
        refine lv_iload_n hx hb eCL_28 rfl (lv_at hl 1 rfl) ?_
        have hj : j = n := by omega
        subst hj
        refine lv_icmp_ge (tgt := 42) hx hb eCL_29 rfl (fun _ => ?_) (fun h => absurd (Int32.le_refl _) h)
        have k1 : va_at D vcl (LO a (k + 1) b 0) H3 := hP 0 _ rfl
        have k2 : va_at D vcl (RW b cO cap f3) H3 := hP 1 _ rfl
        exact W.vret hx hb hr (fun t e1 e2 => ⟨⟨(), rfl, trivial, k + 1, b, [(cO, oO)], ⟨by rw [e1]; exact k1, hba, by rw [e1]; exact Nat.le_trans hbs hS.1, Or.inr ⟨hbb, hab, cap, _, cO, rfl, by rw [e1]; exact k2, Nat.zero_le _, hc2, hc6, fun j hj => absurd hj (Nat.not_lt_zero _)⟩⟩, va_K.moved e2.alike hK, Or.inl rfl⟩, hS.F e1⟩) (fun q h => hS.2.2 q h) eCL_42 hlk
      | succ d ih =>
        intro j H3 locs3 f3 ls3 hj hP hS hl
        refine lv_iload_n hx hb eCL_27 rfl (lv_at hl 0 rfl) ?_
        refine lv_iload_n hx hb eCL_28 rfl (lv_at hl 1 rfl) ?_
        refine lv_icmp_ge (tgt := 42) hx hb eCL_29 rfl (fun h => absurd h (nI_ge (by omega) (by omega))) (fun _ => ?_)
        refine lv_aload_n hx hb eCL_32 rfl (lv_at hl 2 rfl) ?_
        refine lv_iload_n hx hb eCL_33 rfl (lv_at hl 0 rfl) ?_
        refine lv_null hx hb eCL_34 ?_
        refine va_astqN hx hb hK hP (hDD _ _ _) hS 1 0 rfl rfl (vp_in_nI (by omega) (by omega)) eCL_35 fun H4 locs4 hP4 hD4 hS4 => ?_
        refine lv_iinc (v := nI (j + 1)) (lv' := [(3, .int (nI (j + 1))), (2, .int (nI n)), (1, .ref b), (0, .ref a)]) hx hb eCL_36 hl (k := 0) rfl (nI_1 j) (by decide) rfl (fun ls hl => ?_)
        refine lv_goto (tgt := 27) hx hb eCL_39 rfl ?_
        exact ih (j + 1) H4 locs4 _ ls (by omega) hP4 hS4 hl
    exact loop n 0 H2 locs2 f ls (by omega) hP2 hS2 hl
theorem jb_IC : JB "java/util/AbstractList" 1 yIC cIC 1 none 0 := ⟨q_53, q_2, q_55, by decide, by decide +kernel, by decide⟩
theorem jb_IL : JB "java/util/ArrayList" 1 yIL cIL 1 none 0 := ⟨q_50, q_3, q_52, by decide, by decide +kernel, by decide⟩
set_option maxRecDepth 100000 in
theorem w_obj : Cond.code Lib.objectInit ⟨#[0xb1]⟩ 1 none ∈ WS := ws_of (i := 105) (by decide +kernel) rfl
theorem k_IC {a : Nat} : JM l yIC cIC 1 none 2 0 0 base E0 mi D tys H [.ref a] (va_Qv (S := Unit) (fun _ => True) (fun _ t => t.heap = H) NoA) NoA :=
  JM.mk (by decide) (Nat.le_of_ble_eq_true rfl) fun p e s m below meth c ls C hH hK hE hM0 hl => by
  obtain ⟨hx, hb, hml, hr, hown, hlk, hnm, hts⟩ := id C
  subst hH
  have hl : lv_has ls 1 [(0, .ref a)] := hl
  refine lv_aload_n hx hb eIC_0 rfl (lv_at hl 0 rfl) ?_
  refine W.objInit hx hb hown (hts _ q_56) (hts _ q_43) (hts _ w_obj) rfl (by rw [hml]; exact hl.1) rfl eIC_1 (Nat.le_of_ble_eq_true rfl) (Nat.le_of_ble_eq_true rfl) ?_
  refine W.eq (g2 := F0 m 4 ls []) rfl ?_
  exact W.vret hx hb hr (fun t e1 e2 => ⟨⟨(), rfl, trivial, e1⟩, va_S.rf.F e1⟩) (fun _ h => nomatch h) eIC_4 hlk
/-- a list's object, whatever its fields hold -/
abbrev LV (a : Nat) (vs : List Value) : Nat × va_E := (a, .inr (10, vs))
theorem k_IL {a : Nat} {v0 v1 v2 : Value} (hLO : va_at D vcl (LV a [v0, v1, v2]) H) (hba : base ≤ a) :
    JM l yIL cIL 1 none 3 0 0 base E0 mi D tys H [.ref a] (va_Qv (S := Unit) (fun _ => True) (fun _ t => va_at D vcl (LV a [.int 0, v1, v2]) t.heap) (fun q => q = a)) (fun q => q = a) :=
  JM.mk (by decide) (Nat.le_of_ble_eq_true rfl) fun p e s m below meth c ls C hH hK hE hM0 hl => by
  obtain ⟨hx, hb, hml, hr, hown, hlk, hnm, hts⟩ := id C
  subst hH
  have hl : lv_has ls 1 [(0, .ref a)] := hl
  refine lv_aload_n hx hb eIL_0 rfl (lv_at hl 0 rfl) ?_
  refine va_callv (jcallI (rest := []) C.fix (k_IC (H := s.heap)) jb_IC q_54 rfl (show 2 + 1 ≤ 3 by decide) (show 100 * 2 + 30 ≤ 300 by decide) (A := fun q => q = a) (fun q h => by subst h; exact hba) hK hE hM0 va_S.rf rfl hl.1 (by decide) eIL_1 ⟨by decide, by decide⟩ rfl) (A0 := fun q => q = a) va_S.rf (fun _ _ h => h.elim) (fun _ h => h.elim) fun u t H1 locs1 e1 e2 e3 e4 e5 e6 hS => ?_
  have hH1 : H1 = s.heap := e1.symm.trans e4
  subst hH1
  refine lv_aload_n hx hb eIL_4 rfl (lv_at hl 0 rfl) ?_
  refine lv_iconst (v := 0) hx hb eIL_5 (by decide) ?_
  refine va_put (A := fun q => q = a) hx hb hts lo_ws _ lo_ty lo_nm hown hK (P1 hLO) (D1 rfl) hS 0 rfl rfl 0 (by decide) (hts _ q_61) (fun _ h => h) rfl lo_d0 rfl rfl (Nat.le_of_ble_eq_true rfl) eIL_6 fun H2 locs2 hP2 hD2 hS2 => ?_
  have k1 : va_at D vcl (LV a [.int 0, v1, v2]) H2 := hP2 0 _ rfl
  exact W.vret hx hb hr (fun t e1 e2 => ⟨⟨(), rfl, trivial, by show va_at _ _ _ t.heap; rw [e1]; exact k1⟩, hS2.F e1⟩) (fun q h => hS2.2.2 q h) eIL_9 hlk
theorem k_IN {a : Nat} {v0 v1 v2 : Value} (hLO : va_at D vcl (LV a [v0, v1, v2]) H) (hba : base ≤ a) :
    JM l yIN cIN 1 none 4 0 0 base E0 mi D tys H [.ref a] (va_Qv (S := Unit) (fun _ => True) (fun _ t => va_at D vcl (LV a [.int 0, .ref E0, v2]) t.heap) (fun q => q = a)) (fun q => q = a) :=
  JM.mk (by decide) (Nat.le_of_ble_eq_true rfl) fun p e s m below meth c ls C hH hK hE hM0 hl => by
  obtain ⟨hx, hb, hml, hr, hown, hlk, hnm, hts⟩ := id C
  subst hH
  have hl : lv_has ls 1 [(0, .ref a)] := hl
  refine lv_aload_n hx hb eIN_0 rfl (lv_at hl 0 rfl) ?_
  refine va_callv (jcallI (rest := []) C.fix (k_IL (H := s.heap) hLO hba) jb_IL q_51 rfl (show 3 + 1 ≤ 4 by decide) (show 100 * 3 + 30 ≤ 400 by decide) (A := fun q => q = a) (fun q h => by subst h; exact hba) hK hE hM0 va_S.rf rfl hl.1 (by decide) eIN_1 ⟨by decide, by decide⟩ rfl) (A0 := fun q => q = a) va_S.rf (fun _ _ h => h) (fun _ h => h) fun u t H1 locs1 e1 e2 e3 e4 e5 e6 hS => ?_
  have e4 : va_at D vcl (LV a [.int 0, v1, v2]) H1 := by rw [← e1]; exact e4
  refine lv_aload_n hx hb eIN_4 rfl (lv_at hl 0 rfl) ?_
  refine va_gets hx hb hE.2.2.2.2.2.1 (hS.weak (B := fun q => base ≤ q) (fun q h => by subst h; exact hba)) hown (hts _ q_57) (fun _ h => h) eIN_5 ?_
  refine va_put (A := fun q => q = a) hx hb hts lo_ws _ lo_ty lo_nm hown hK (P1 e4) (D1 rfl) hS 0 rfl rfl 1 (by decide) (hts _ q_59) (fun _ h => h) rfl lo_d1 rfl rfl (Nat.le_of_ble_eq_true rfl) eIN_8 fun H2 locs2 hP2 hD2 hS2 => ?_
  have k1 : va_at D vcl (LV a [.int 0, .ref E0, v2]) H2 := hP2 0 _ rfl
  exact W.vret hx hb hr (fun t e1 e2 => ⟨⟨(), rfl, trivial, by show va_at _ _ _ t.heap; rw [e1]; exact k1⟩, hS2.F e1⟩) (fun q h => hS2.2.2 q h) eIN_11 hlk
end JK
end
section
/-! the lists of the small machine are the JDK's -/
theorem les_ok {s : Nat} (h : sk s = (2, 0)) : ∃ ci, ci < 10 ∧ sk (les s) = (0, ci) := by
  have h9 : ∀ s, s < 62 → sk s = (2, 0) → (sk (les s)).1 = 0 ∧ (sk (les s)).2 < 10 := by decide +kernel
  by_cases hs : s < 62
  · obtain ⟨h1, h2⟩ := h9 s hs h
    exact ⟨_, h2, Prod.ext h1 rfl⟩
  · exfalso
    unfold sk at h
    rw [List.getD_eq_getElem?_getD, List.getElem?_eq_none (Nat.not_lt.mp hs)] at h
    simp at h
def gof (ρ : Nat → List Nat) (ob : Ob) (j : Nat) : Option Nat := match ob[j]? with
  | some (.inr (.inr (.inr (.inr (some q))))) => (ρ q.1)[q.2]?
  | _ => none
section LF
variable {base E0 : Nat} {D : va_G} {ρ : Nat → List Nat} {β : Nat → Nat → Nat} {h : Hp} {s : State} {H : Heap}
theorem obj_sk {s1 : Nat} (h1 : (sk s1).1 = 0) : (sk s1).1 < 3 := by omega
/-- an object of a list's elements -/
theorem elem_El (S : Sim base E0 D ρ β h s H) {s0 i0 a : Nat} {ob : Ob} (hg : hget h s0 i0 = some ob) (hk : sk s0 = (2, 0)) (ha : (ρ s0)[i0]? = some a) {s1 i1 y ci : Nat} (hk1 : sk s1 = (0, ci)) (hci : ci < 10) (hy : (ρ s1)[i1]? = some y) : El D (fun q => q = a ∨ q = β s0 i0) H y := by
  obtain ⟨ob1, hg1, ho1⟩ := S.adr hy
  have ho := S.2.2.2.2.2.2.2 s0 i0 ob a hg ha
  refine ⟨fun z => ?_, ?_⟩
  · rcases z with z | z
    · subst z
      obtain ⟨e, -⟩ := S.2.2.1 s1 i1 s0 i0 y (by rw [hk1]; simp) (by rw [hk]; simp) hy ha
      rw [e, hk] at hk1
      cases hk1
    · by_cases hb : base ≤ β s0 i0
      · exact S.2.2.2.1 s0 i0 s1 i1 y hk (sz_lt ha) hb (by rw [hk1]; simp) hy z.symm
      · have := ho1.ge (by rw [hk1]; simp)
        omega
  · unfold ob_at at ho1
    rw [hk1] at ho1
    obtain ⟨-, -, vs, -, h4⟩ := ho1
    exact ⟨ci, vs, hci, h4⟩
theorem lst_facts (S : Sim base E0 D ρ β h s H) {s0 i0 : Nat} {ob : Ob} (hg : hget h s0 i0 = some ob) (hk : sk s0 = (2, 0)) : ∃ (a : Nat) (k : Int32) (tys : List (ClassId × FieldType)), (ρ s0)[i0]? = some a ∧ Lr D base E0 tys a k (β s0 i0) ob.length (gof ρ ob) H ∧ va_K D vcl tys s ∧ (∀ j, j < ob.length → ∀ y, gof ρ ob j = some y → El D (fun q => q = a ∨ q = β s0 i0) H y) ∧ ∀ (j : Nat) (v : MV), ob[j]? = some v → ∃ y, gof ρ ob j = some y ∧ vr ρ v (.ref y) ∧ ∃ i, v = vR (les s0) i := by
  obtain ⟨a, ha, ho⟩ := S.ad hg
  have ho0 := ho
  unfold ob_at at ho
  rw [hk] at ho
  obtain ⟨hba, ⟨k, h1⟩, h2, h3⟩ := ho
  obtain ⟨ci, hci, hle⟩ := les_ok hk
  have hG : ∀ (f : Nat → Option Nat), (∀ (j : Nat) (v : MV), ob[j]? = some v → vr ρ v (va_rf (f j))) → ∀ j, j < ob.length → f j = gof ρ ob j ∧ ∃ y, gof ρ ob j = some y ∧ vr ρ (ob[j]?.getD vN) (.ref y) := by
    intro f hf j hj
    have hv : ob[j]? = some ob[j] := List.getElem?_eq_getElem hj
    obtain ⟨i, hi⟩ := h2 _ (List.getElem_mem hj)
    have h9 := hf j _ hv
    rw [hi] at h9
    obtain ⟨y, h5, h6⟩ := h9
    have e : gof ρ ob j = some y := by
      unfold gof
      rw [hv, hi]
      exact h5
    refine ⟨?_, y, e, ?_⟩
    · rw [e]
      cases hfj : f j with
      | none => rw [hfj] at h6; cases h6
      | some z => rw [hfj] at h6; cases h6; rfl
    · rw [hv, hi]
      exact ⟨y, h5, rfl⟩
  have hall : ∀ (j : Nat) (v : MV), ob[j]? = some v → (∀ j, j < ob.length → ∃ y, gof ρ ob j = some y ∧ vr ρ (ob[j]?.getD vN) (.ref y)) → ∃ y, gof ρ ob j = some y ∧ vr ρ v (.ref y) ∧ ∃ i, v = vR (les s0) i := by
    intro j v hv hh
    obtain ⟨y, q1, q2⟩ := hh j (sz_lt hv)
    rw [hv] at q2
    exact ⟨y, q1, q2, h2 v (List.mem_of_getElem? hv)⟩
  have hel : ∀ j, j < ob.length → ∀ y, gof ρ ob j = some y → El D (fun q => q = a ∨ q = β s0 i0) H y := by
    intro j hj y hy
    have hv : ob[j]? = some ob[j] := List.getElem?_eq_getElem hj
    obtain ⟨i, hi⟩ := h2 _ (List.getElem_mem hj)
    unfold gof at hy
    rw [hv, hi] at hy
    exact elem_El S hg hk ha hle hci hy
  rcases h3 with ⟨hb, rfl⟩ | ⟨x1, x2, cap, f, cO, x3, x4, x5, x6, x7, x8, x9⟩
  · exact ⟨a, k, [], ha, ⟨h1, hba, S.2.2.2.2.2.2.1, Or.inl ⟨hb, S.2.2.2.2.2.1, rfl, rfl⟩⟩, S.1, hel, fun j v hv => by simp at hv⟩
  · refine ⟨a, k, [(cO, oO)], ha, ⟨h1, hba, S.2.2.2.2.2.2.1, Or.inr ⟨x1, Ne.symm x2, cap, f, cO, rfl, x3, x6, x7, x8, fun j hj => (hG f x9 j hj).1⟩⟩, ⟨S.1.1, fun k q hq => ?_⟩, hel, fun j v hv => hall j v hv fun j hj => (hG f x9 j hj).2⟩
    match k, hq with
    | 0, hq => cases hq; exact ⟨x4, x5⟩
    | k + 1, hq => simp at hq
def bset (β : Nat → Nat → Nat) (s0 i0 b : Nat) : Nat → Nat → Nat := fun t i => if t = s0 ∧ i = i0 then b else β t i
/-- a list changes, nothing else that stands -/
theorem Sim.lch (S : Sim base E0 D ρ β h s H) {s0 i0 a : Nat} {ob ob' : Ob} (hg : hget h s0 i0 = some ob) (hk : sk s0 = (2, 0)) (ha : (ρ s0)[i0]? = some a) {H1 : Heap} {t : State} {g : Nat → Option Nat} (ht : t.heap = H1) (hvm : s.vm.Alike t.vm) (hz : H.size ≤ H1.size) (ho : ∀ q : Nat, q < H.size → ¬ AX base a (β s0 i0) H.size q → H1[q]? = H[q]?) (hL : Lp D base E0 H a (β s0 i0) ob'.length g t)
    (hob : ∀ v ∈ ob', ∃ i, v = vR (les s0) i) (hgo : ∀ (j : Nat) (v : MV), ob'[j]? = some v → vr ρ v (va_rf (g j))) : ∃ β', Sim base E0 D ρ β' (hput h s0 i0 ob') s H1 := by
  have S0 := S
  obtain ⟨k1, k2, k3, k4, k5, k6, k7, k8⟩ := S
  have ha0 := k8 s0 i0 ob a hg ha
  obtain ⟨k, b', tys', ⟨l1, l2, l3, l4⟩, hKt, hb'⟩ := hL
  rw [ht] at l1 l3 l4
  have hKs : va_K D vcl tys' s := va_K.moved hvm.symm hKt
  have hi0 : i0 < (ρ s0).length := sz_lt ha
  have e0 : bset β s0 i0 b' s0 i0 = b' := if_pos ⟨rfl, rfl⟩
  have e1 : ∀ t i, ¬ (t = s0 ∧ i = i0) → bset β s0 i0 b' t i = β t i := fun t i z => if_neg z
  refine ⟨bset β s0 i0 b', k1, fun s => ?_, k3, ?_, ?_, k6, Nat.le_trans k7 hz, fun s1 i1 ob2 a2 x y => ?_⟩
  · rw [k2 s]
    show _ = (if s = s0 then (h.1 s0).set i0 ob' else h.1 s).length
    split
    · rename_i e; subst e; simp
    · rfl
  · intro s1 i1 s' i' a' hs1 hi1 hb hs' ha'
    by_cases e : s1 = s0 ∧ i1 = i0
    · obtain ⟨rfl, rfl⟩ := e
      rw [e0] at hb ⊢
      rcases hb' with rfl | hb'
      · exact k4 _ _ _ _ _ hs1 hi1 hb hs' ha'
      · obtain ⟨ob3, g1, g2⟩ := S0.adr ha'
        have := g2.lt hs'
        omega
    · rw [e1 _ _ e] at hb ⊢
      exact k4 _ _ _ _ _ hs1 hi1 hb hs' ha'
  · intro s1 i1 s' i' hs1 hs' hi1 hi' hb he
    have bkl : ∀ t i, sk t = (2, 0) → i < (ρ t).length → base ≤ β t i → β t i < H.size := fun t i z1 z2 z3 => by
      obtain ⟨ob3, g1, g2⟩ := S0.adr (List.getElem?_eq_getElem z2)
      exact g2.bk z1 k6 z3
    by_cases e : s1 = s0 ∧ i1 = i0
    · by_cases e' : s' = s0 ∧ i' = i0
      · exact ⟨e.1.trans e'.1.symm, e.2.trans e'.2.symm⟩
      · obtain ⟨rfl, rfl⟩ := e
        rw [e0] at hb he
        rw [e1 _ _ e'] at he
        rcases hb' with rfl | hb'
        · exact k5 _ _ _ _ hs1 hs' hi1 hi' hb he
        · have := bkl s' i' hs' hi' (by omega)
          omega
    · by_cases e' : s' = s0 ∧ i' = i0
      · obtain ⟨rfl, rfl⟩ := e'
        rw [e1 _ _ e] at hb he
        rw [e0] at he
        rcases hb' with rfl | hb'
        · exact k5 _ _ _ _ hs1 hs' hi1 hi' hb he
        · have := bkl s1 i1 hs1 hi1 hb
          omega
      · rw [e1 _ _ e] at hb he
        rw [e1 _ _ e'] at he
        exact k5 _ _ _ _ hs1 hs' hi1 hi' hb he
  · by_cases e : s1 = s0 ∧ i1 = i0
    · obtain ⟨rfl, rfl⟩ := e
      have e2 : a2 = a := Option.some.inj (y.symm.trans ha)
      subst e2
      have hx : hget (hput h s1 i1 ob') s1 i1 = some ob' := by
        show (if s1 = s1 then (h.1 s1).set i1 ob' else h.1 s1)[i1]? = some ob'
        rw [if_pos rfl, List.getElem?_set]
        have : i1 < (h.1 s1).length := sz_lt hg
        simp [this]
      rw [hx] at x
      cases x
      unfold ob_at
      rw [hk]
      refine ⟨l2, ⟨k, by rw [e0]; exact l1⟩, hob, ?_⟩
      rw [e0]
      rcases l4 with ⟨z1, z2, z3, z4⟩ | ⟨z1, z2, cap, f, cO, rfl, z4, z5, z6, z7, z8⟩
      · exact Or.inl ⟨z1, List.length_eq_zero_iff.mp z3⟩
      · refine Or.inr ⟨z1, Ne.symm z2, cap, f, cO, z4, (hKs.2 0 _ rfl).1, (hKs.2 0 _ rfl).2, z5, z6, z7, fun j v hv => ?_⟩
        rw [z8 j (sz_lt hv)]
        exact hgo j v hv
    · have hx : hget (hput h s0 i0 ob') s1 i1 = hget h s1 i1 := by
        show (if s1 = s0 then (h.1 s0).set i0 ob' else h.1 s1)[i1]? = (h.1 s1)[i1]?
        split
        · rename_i e1
          subst e1
          rw [List.getElem?_set, if_neg (fun z => e ⟨rfl, z.symm⟩)]
        · rfl
      rw [hx] at x
      have hb2 := k8 s1 i1 ob2 a2 x y
      have hi1 : i1 < (ρ s1).length := sz_lt y
      refine hb2.keep Ext.rf (fun hn3 => ?_) (fun hs => ⟨e1 _ _ e, fun hb => ?_⟩)
      · by_cases hs3 : (sk s1).1 < 3
        · refine ho a2 (hb2.lt hs3) (fun z => ?_)
          rcases z with z | z | z
          · subst z
            exact e (k3 _ _ _ _ _ hs3 (by rw [hk]; simp) y ha)
          · exact k4 s0 i0 s1 i1 a2 hk hi0 z.1 hs3 y z.2.symm
          · exact absurd (hb2.lt hs3) (Nat.not_lt.mpr z)
        · unfold ob_at at hb2
          split at hb2
          · rename_i e4; rw [e4] at hs3; exact absurd (by simp) hs3
          · rename_i e4; rw [e4] at hs3; exact absurd (by simp) hs3
          · rename_i e4; rw [e4] at hs3; exact absurd (by simp) hs3
          · rename_i z4 e4
            exact absurd ((sk_fm s1).2.resolve_right (by rw [e4]; simp)) hn3
          · have hlt := hb2.1
            have hba := ha0.ge (by rw [hk]; simp)
            refine ho a2 (by omega) (fun z => ?_)
            rcases z with z | z | z <;> omega
          · exact hb2.elim
      · refine ho _ (hb2.bk hs k6 hb) (fun z => ?_)
        rcases z with z | z | z
        · exact k4 s1 i1 s0 i0 a hs hi1 hb (by rw [hk]; simp) ha z
        · exact e (k5 s1 i1 s0 i0 hs hk hi1 hi0 hb z.2)
        · exact absurd (hb2.bk hs k6 hb) (Nat.not_lt.mpr z)
end LF
end
section
/-! every call of a list -/
section LK
variable {p : Program} {l : Launch} {e : Env} {R : Room} {s : State} {m : MethodId} {args : Array Value} {below : List Frame} {meth : Method} {c : Code} {H : Heap} {locs : List Loc} {cells slots : Nat} {Q : State → Prop}
variable {pc : Nat} {ls : Array Slot} {st' : List Value} {ρ : Nat → List Nat} {β : Nat → Nat → Nat} {nL base E0 : Nat} {L : Lo} {st : List MV} {h : Hp} {D : va_G}
theorem ctx_fix {y : Nat} (C0 : Ctx y p s m args meth c nL) : ∃ r, mrow y = some r ∧ CallFix p m c r.2.1 nL s args WS (cnm (mcl y)) := by
  obtain ⟨r, hr, hx, hb, hml, -, -, hown, -, -, hts, -⟩ := C0
  exact ⟨r, hr, hx, hb, hml, hown, hts⟩
theorem cat8 {rest : List MV} {rest' : List Value} (h : srel ρ rest rest') (hc : (rest.map mcat).sum ≤ 8) : (rest'.map fun v => v.category).sum ≤ 8 := by
  rw [srel_cat h]; exact hc
theorem AXb {a b : Nat} (hba : base ≤ a) (hbs : base ≤ H.size) : ∀ q, AX base a b H.size q → base ≤ q := fun q h => by rcases h with z | z | z <;> omega
theorem i32_nI {j : Int32} (h : ¬ j < 0) : j = nI j.toNatClampNeg ∧ j.toNatClampNeg < 2 ^ 31 := by
  obtain ⟨n, hn, rfl⟩ := nI_of h
  rw [nI_clamp hn]
  exact ⟨rfl, hn⟩
theorem tg_at {w : Value} {q : Nat × Nat} (hw : vr ρ (.inr (.inr (.inr (.inr (some q))))) w) : ∃ a, (ρ q.1)[q.2]? = some a ∧ w = .ref a := hw
theorem w_instAL : Cond.instantiable RJx4a65c 3 ∈ WS := List.mem_filter.mpr ⟨by obtain ⟨-, -, -, -, -, -, h⟩ := tb_1; exact h, rfl⟩
set_option maxHeartbeats 8000000 in
theorem lst_ok (l : Launch) : LstOK l := by
  intro p e R s m args below meth c H locs cells slots Q pc ls st' ρ β nL base E0 L st h D y i len z C0 hR hE S hS hc1 hc2 hd hl hs hcase hk
  obtain ⟨r, hr, F⟩ := ctx_fix C0
  obtain ⟨mi, hM⟩ := hE.2.2.2.2.2.2.2.1
  have hts := F.2.2.2.2
  have hS0 : va_S (fun q => base ≤ q) s.heap H locs := hS
  have hsz : ls.size = nL := hl.1
  rcases hcase with ⟨idx, w, rfl, hh, rfl⟩ | ⟨idx, k, rfl, hjl, hh⟩ | ⟨idx, s0, rfl, rfl, hnl, rfl⟩
  · -- get, size
    simp only [hrd] at hh
    split at hh
    · rename_i j q st1
      split at hh
      · rename_i ob hg
        split at hh
        · rename_i g
          obtain ⟨rfl, g2, g3, g4, g5⟩ := g
          obtain ⟨v, hv, rfl⟩ := omap_inv hh
          obtain ⟨_, _, rfl, rfl, wr, st2, rfl, hw, h5⟩ := hs
          obtain ⟨a, k, tys, ha, hL, hK, hel, hvr⟩ := lst_facts S hg g4
          rw [vr_ref ha hw]
          obtain ⟨e1, e2⟩ := i32_nI g5
          rw [e1]
          have hj := sz_lt hv
          obtain ⟨yv, y1, y2, -⟩ := hvr _ _ hv
          obtain ⟨hLO, hba, hbs, hc⟩ := hL
          rcases hc with ⟨-, -, hn0, -⟩ | ⟨hbb, hab, cap, f, cO, rfl, hRW, hnc, hc2', hc6, hfg⟩
          · omega
          have hlink : JB (cnm (mcl y)) idx yGT cGT 2 (some oO) 1 := ⟨jl_spec g3, q_4, q_227, by decide, by decide +kernel, by decide⟩
          refine va_callq (jcallV (rest := st2) F (k_GT (l := l) (H := H) (P2 hLO hRW) (i := 0) (i2 := 1) (i3 := 0) rfl rfl rfl hj hnc (by omega)) hlink q_225 q_226 (by have := hR.1; omega) (by have := hR.2; omega) (A := fun q => base ≤ q) (fun _ h => h) hK hE hM hS (va_recv hK (P1 hLO) (q0 := 0) rfl rfl) rfl hsz (cat8 h5 g2) (dec_inv hr hd) ⟨by show cells + 0 ≤ _; have : cells + h.2.1 ≤ R.cells + h.2.1 := hc1; omega, by show slots + 0 ≤ _; have : slots + h.2.2 ≤ R.slots + h.2.2 := hc2; omega⟩ rfl) (A0 := fun q => base ≤ q) hS (fun _ _ h => h.elim) (fun _ h => h.elim) fun r2 u t H1 locs1 e1 e2 e3 e4 e5 e6 hS1 => ?_
          have hH1 : H1 = H := e1.symm.trans e4
          subst hH1
          subst e3
          rw [hfg _ hj, y1]
          exact hk _ _ ρ β _ _ _ _ Ext.rf S hS1 hl ⟨_, _, rfl, y2, h5⟩ rfl rfl
        · cases hh
      · cases hh
    · rename_i q st1 _
      split at hh
      · rename_i ob hg
        split at hh
        · rename_i g
          obtain ⟨rfl, g2, g3, g4⟩ := g
          cases hh
          obtain ⟨wr, st2, rfl, hw, h5⟩ := hs
          obtain ⟨a, k, tys, ha, hL, hK, hel, hvr⟩ := lst_facts S hg g4
          rw [vr_ref ha hw]
          have hlink : JB (cnm (mcl y)) idx ySZ cSZ 1 (some .int) 0 := ⟨jl_spec g3, q_4, q_219, by decide, by decide +kernel, by decide⟩
          refine va_calli (jcallV (rest := st2) F (k_SZ (l := l) (H := H) (P1 hL.1) (i := 0) rfl) hlink q_217 q_218 (by have := hR.1; omega) (by have := hR.2; omega) (A := fun q => base ≤ q) (fun _ h => h) hK hE hM hS (va_recv hK (P1 hL.1) (q0 := 0) rfl rfl) rfl hsz (cat8 h5 g2) (dec_inv hr hd) ⟨by show cells + 0 ≤ _; have : cells + h.2.1 ≤ R.cells + h.2.1 := hc1; omega, by show slots + 0 ≤ _; have : slots + h.2.2 ≤ R.slots + h.2.2 := hc2; omega⟩ rfl) (A0 := fun q => base ≤ q) hS (fun _ _ h => h.elim) (fun _ h => h.elim) fun r2 u t H1 locs1 e1 e2 e3 e4 e5 e6 hS1 => ?_
          have hH1 : H1 = H := e1.symm.trans e4
          subst hH1
          subst e3
          exact hk _ _ ρ β _ _ _ _ Ext.rf S hS1 hl ⟨_, _, rfl, rfl, h5⟩ rfl rfl
        · cases hh
      · cases hh
    · cases hh
  · -- writers
    unfold wls at hh
    split at hh
    · -- add
      split at hh
      · rename_i zq q st1
        split at hh
        · rename_i ob hg
          split at hh
          · rename_i g
            obtain ⟨rfl, g2, g3, g4, g5, g6⟩ := g
            cases hh
            obtain ⟨wv, _, rfl, hv, wr, st2, rfl, hw, h5⟩ := hs
            obtain ⟨a, k, tys, ha, hL, hK, hel, hvr⟩ := lst_facts S hg g3
            rw [vr_ref ha hw]
            obtain ⟨av, hav, rfl⟩ := tg_at hv
            obtain ⟨ci, hci, hle⟩ := les_ok g3
            have hEl := elem_El S hg g3 ha (by rw [g5]; exact hle) hci hav
            have hlink : JB (cnm (mcl y)) idx yA1 cA1 2 (some .boolean) 1 := ⟨jl_spec hjl, q_4, q_119, by decide, by decide +kernel, by decide⟩
            have hc1' : cells + (h.2.1 + 1) ≤ R.cells + h.2.1 := hc1
            have hc2' : slots + (h.2.2 + (2 * ob.length + 10)) ≤ R.slots + h.2.2 := hc2
            refine va_calli (jcallV (rest := st2) F (k_A1 (l := l) (H := H) hL g6 hel hEl) hlink q_117 q_118 (by have := hR.1; omega) (by have := hR.2; omega) (A := fun q => base ≤ q) (fun _ h => h) hK hE hM hS (va_recv hK (P1 hL.1) (q0 := 0) rfl rfl) rfl hsz (cat8 h5 g2) (dec_inv hr hd) ⟨by omega, by omega⟩ rfl) (A0 := fun q => base ≤ q) hS (fun q _ h => AXb hL.2.1 hL.2.2.1 q h) (fun q h => AXb hL.2.1 hL.2.2.1 q h) fun r2 u t H1 locs1 e1 e2 e3 e4 e5 e6 hS1 => ?_
            subst e3
            obtain ⟨β', S'⟩ := S.lch (ob' := ob ++ [vR zq.1 zq.2]) hg g3 ha e1 e2 e5 e6 (by rw [List.length_append]; exact e4) (fun v hv => by
              rcases List.mem_append.mp hv with h9 | h9
              · obtain ⟨j, hj⟩ := List.mem_iff_getElem?.mp h9
                obtain ⟨_, _, _, h8⟩ := hvr j v hj
                exact h8
              · rw [List.mem_singleton.mp h9]
                exact ⟨zq.2, by rw [g5]⟩) (fun j v hv => by
              unfold va_up
              by_cases hj : j < ob.length
              · rw [List.getElem?_append_left hj] at hv
                obtain ⟨yy, h7, h8, -⟩ := hvr j v hv
                rw [if_neg (by omega), h7]
                exact h8
              · have hj2 := sz_lt hv
                simp at hj2
                have hj3 : j = ob.length := by omega
                subst hj3
                rw [if_pos rfl]
                simp at hv
                subst hv
                exact ⟨av, hav, rfl⟩)
            exact hk _ _ ρ β' _ _ _ _ Ext.rf (S'.cong (fun _ => rfl)) hS1 hl ⟨_, _, rfl, rfl, h5⟩ (by show cells + 1 + h.2.1 = cells + (h.2.1 + 1); omega) (by show slots + (2 * ob.length + 10) + h.2.2 = slots + (h.2.2 + (2 * ob.length + 10)); omega)
          · cases hh
        · cases hh
      · cases hh
    · -- remove
      split at hh
      · rename_i j q st1
        split at hh
        · rename_i ob hg
          split at hh
          · rename_i g
            obtain ⟨rfl, g2, g3, g4⟩ := g
            obtain ⟨v, hv, rfl⟩ := omap_inv hh
            obtain ⟨_, _, rfl, rfl, wr, st2, rfl, hw, h5⟩ := hs
            obtain ⟨a, k, tys, ha, hL, hK, hel, hvr⟩ := lst_facts S hg g3
            rw [vr_ref ha hw]
            obtain ⟨e1, e2⟩ := i32_nI g4
            rw [e1]
            have hj := sz_lt hv
            obtain ⟨yv, y1, y2, -⟩ := hvr _ _ hv
            have hlink : JB (cnm (mcl y)) idx yRM cRM 4 (some oO) 1 := ⟨jl_spec hjl, q_4, q_555, by decide, by decide +kernel, by decide⟩
            have hc1' : cells + h.2.1 ≤ R.cells + h.2.1 := hc1
            have hc2' : slots + h.2.2 ≤ R.slots + h.2.2 := hc2
            refine va_callr (jcallV (rest := st2) F (k_RM (l := l) (H := H) hL hj y1 hel) hlink q_553 q_554 (by have := hR.1; omega) (by have := hR.2; omega) (A := fun q => base ≤ q) (fun _ h => h) hK hE hM hS (va_recv hK (P1 hL.1) (q0 := 0) rfl rfl) rfl hsz (cat8 h5 g2) (dec_inv hr hd) ⟨by omega, by omega⟩ rfl) (A0 := fun q => base ≤ q) hS (fun q _ h => AXb hL.2.1 hL.2.2.1 q h) (fun q h => AXb hL.2.1 hL.2.2.1 q h) fun u ra t H1 locs1 e1 e2 e3 e4 e5 e6 hS1 => ?_
            obtain ⟨rfl, e4⟩ := e4
            obtain ⟨β', S'⟩ := S.lch (ob' := ob.eraseIdx j.toNatClampNeg) hg g3 ha e1 e2 e5 e6 (by rw [List.length_eraseIdx_of_lt hj]; exact e4) (fun v hv => by
              obtain ⟨j2, hj2⟩ := List.mem_iff_getElem?.mp (List.mem_of_mem_eraseIdx hv)
              obtain ⟨_, _, _, h8⟩ := hvr j2 v hj2
              exact h8) (fun j2 v hv => by
              rw [List.getElem?_eraseIdx] at hv
              unfold del
              split at hv
              · rename_i h9
                obtain ⟨yy, h7, h8, -⟩ := hvr j2 v hv
                rw [if_pos h9, h7]
                exact h8
              · rename_i h9
                obtain ⟨yy, h7, h8, -⟩ := hvr (j2 + 1) v hv
                rw [if_neg h9, h7]
                exact h8)
            exact hk _ _ ρ β' _ _ _ _ Ext.rf S' hS1 hl ⟨_, _, rfl, y2, h5⟩ rfl rfl
          · cases hh
        · cases hh
      · cases hh
    · -- clear
      split at hh
      · rename_i q st1
        split at hh
        · rename_i ob hg
          split at hh
          · rename_i g
            obtain ⟨rfl, g2, g3⟩ := g
            cases hh
            obtain ⟨wr, st2, rfl, hw, h5⟩ := hs
            obtain ⟨a, k, tys, ha, hL, hK, hel, hvr⟩ := lst_facts S hg g3
            rw [vr_ref ha hw]
            have hlink : JB (cnm (mcl y)) idx yCL cCL 4 none 0 := ⟨jl_spec hjl, q_4, q_564, by decide, by decide +kernel, by decide⟩
            have hc1' : cells + h.2.1 ≤ R.cells + h.2.1 := hc1
            have hc2' : slots + h.2.2 ≤ R.slots + h.2.2 := hc2
            refine va_callv (jcallV (rest := st2) F (k_CL (l := l) (H := H) hL) hlink q_562 q_563 (by have := hR.1; omega) (by have := hR.2; omega) (A := fun q => base ≤ q) (fun _ h => h) hK hE hM hS (va_recv hK (P1 hL.1) (q0 := 0) rfl rfl) rfl hsz (cat8 h5 g2) (dec_inv hr hd) ⟨by omega, by omega⟩ rfl) (A0 := fun q => base ≤ q) hS (fun q _ h => AXb hL.2.1 hL.2.2.1 q h) (fun q h => AXb hL.2.1 hL.2.2.1 q h) fun u t H1 locs1 e1 e2 e3 e4 e5 e6 hS1 => ?_
            obtain ⟨β', S'⟩ := S.lch (ob' := []) hg g3 ha e1 e2 e5 e6 e4 (fun v hv => by cases hv) (fun j2 v hv => by simp at hv)
            exact hk _ _ ρ β' _ _ _ _ Ext.rf S' hS1 hl h5 rfl rfl
          · cases hh
        · cases hh
      · cases hh
    · -- insert
      split at hh
      · rename_i zq j q st1
        split at hh
        · rename_i ob hg
          split at hh
          · rename_i g
            obtain ⟨rfl, g2, g3, g4, g5, g6, g7, g8⟩ := g
            cases hh
            obtain ⟨wv, _, rfl, hv, _, _, rfl, rfl, wr, st2, rfl, hw, h5⟩ := hs
            obtain ⟨a, k, tys, ha, hL, hK, hel, hvr⟩ := lst_facts S hg g3
            rw [vr_ref ha hw]
            obtain ⟨e1, e2⟩ := i32_nI g6
            obtain ⟨av, hav, rfl⟩ := tg_at hv
            obtain ⟨ci, hci, hle⟩ := les_ok g3
            have hEl := elem_El S hg g3 ha (by rw [g5]; exact hle) hci hav
            have hlink : JB (cnm (mcl y)) idx yAI cAI 5 none 2 := ⟨jl_spec hjl, q_4, q_583, by decide, by decide +kernel, by decide⟩
            have hc1' : cells + (h.2.1 + 1) ≤ R.cells + h.2.1 := hc1
            have hc2' : slots + (h.2.2 + (2 * ob.length + 10)) ≤ R.slots + h.2.2 := hc2
            refine va_callv (jcallV (rest := st2) F (k_AI (l := l) (H := H) hL g7 g8 hel hEl) hlink q_581 q_582 (by have := hR.1; omega) (by have := hR.2; omega) (A := fun q => base ≤ q) (fun _ h => h) hK hE hM hS (va_recv hK (P1 hL.1) (q0 := 0) rfl rfl) rfl hsz (cat8 h5 g2) (dec_inv hr hd) ⟨by omega, by omega⟩ (by rw [← e1]; rfl)) (A0 := fun q => base ≤ q) hS (fun q _ h => AXb hL.2.1 hL.2.2.1 q h) (fun q h => AXb hL.2.1 hL.2.2.1 q h) fun u t H1 locs1 e1 e2 e3 e4 e5 e6 hS1 => ?_
            obtain ⟨β', S'⟩ := S.lch (ob' := ob.insertIdx j.toNatClampNeg (vR zq.1 zq.2)) hg g3 ha e1 e2 e5 e6 (by rw [List.length_insertIdx_of_le_length g7]; exact e4) (fun v hv => by
              rcases (List.mem_insertIdx g7).mp hv with h9 | h9
              · rw [h9]
                exact ⟨zq.2, by rw [g5]⟩
              · obtain ⟨j2, hj2⟩ := List.mem_iff_getElem?.mp h9
                obtain ⟨_, _, _, h8⟩ := hvr j2 v hj2
                exact h8) (fun j2 v hv => by
              rw [List.getElem?_insertIdx] at hv
              unfold ins
              split at hv
              · rename_i h9
                obtain ⟨yy, h7, h8, -⟩ := hvr j2 v hv
                rw [if_pos h9, h7]
                exact h8
              · rename_i h9
                rw [if_neg h9]
                split at hv
                · rename_i h10
                  rw [if_pos h10]
                  split at hv
                  · cases hv
                    exact ⟨av, hav, rfl⟩
                  · cases hv
                · rename_i h10
                  obtain ⟨yy, h7, h8, -⟩ := hvr _ v hv
                  rw [if_neg h10, h7]
                  exact h8)
            exact hk _ _ ρ β' _ _ _ _ Ext.rf (S'.cong (fun _ => rfl)) hS1 hl h5 (by show cells + 1 + h.2.1 = cells + (h.2.1 + 1); omega) (by show slots + (2 * ob.length + 10) + h.2.2 = slots + (h.2.2 + (2 * ob.length + 10)); omega)
          · cases hh
        · cases hh
      · cases hh
    · cases hh
  · -- a new list
    obtain ⟨n1, n2, n3, n4, n5, i2, n6, n7⟩ := hnl
    have hKn := S.1.1 10 _ (show vcl[10]? = some (RJx4a65c, TJx4a65c, 3) from rfl)
    have hbs := S.2.2.2.2.2.2.1
    have hc1' : cells + (h.2.1 + 1) ≤ R.cells + h.2.1 := hc1
    have hc2' : slots + (h.2.2 + 3) ≤ R.slots + h.2.2 := hc2
    refine W.newcK (n := 3) (C := RJx4a65c) F.1 F.2.1 F.2.2.2.1 (hts _ (cl_spec n3)) (hts _ w_instAL) (hts _ q_4) rfl (dec_inv hr hd) (by omega) (by omega) hKn.2.1 rfl fun H1 kC hkC e1 z1 o1 => ?_
    have hLV : va_at D vcl (LV H.size [.int 0, .null, .int 0]) H1 := by
      refine ⟨_, rfl, (u_born _ hts lo_ws hKn hkC e1 lo_ty).to fun j hj => ?_⟩
      match j, hj with
      | 0, _ => rfl
      | 1, _ => rfl
      | 2, _ => rfl
      | j + 3, hj => exact absurd hj (by show ¬ j + 3 < 3; omega)
    have hS1 : va_S (fun q => base ≤ q) s.heap H1 locs := ⟨by have := hS.1; omega, fun q q1 q2 => (o1 q (by have := hS.1; omega)).trans (hS.2.1 q q1 q2), hS.2.2⟩
    refine lv_dup F.1 F.2.1 (dec_inv hr n5) rfl ?_
    have hlink : JB (cnm (mcl y)) i2 yIN cIN 1 none 0 := ⟨jl_spec n7, q_4, q_49, by decide, by decide +kernel, by decide⟩
    have hcat : ((Value.ref H.size :: st').map fun v => v.category).sum ≤ 8 := by
      show 1 + (st'.map fun v => v.category).sum ≤ 8
      have := srel_cat hs
      omega
    refine va_callv (jcallI (rest := .ref H.size :: st') (tys := []) F (k_IN (l := l) (E0 := E0) (mi := mi) (base := base) (H := H1) hLV hbs) hlink q_48 rfl (by have := hR.1; omega) (by have := hR.2; omega) (A := fun q => base ≤ q) (fun _ h => h) S.1 hE hM hS1 rfl hsz hcat (dec_inv hr n6) ⟨by show cells + 1 + 0 ≤ _; omega, by show slots + 3 + 0 ≤ _; omega⟩ rfl) (A0 := fun q => base ≤ q) hS1 (fun q _ h => by subst h; exact hbs) (fun q h => by subst h; exact hbs) fun u t H2 locs2 f1 f2 f3 f4 f5 f6 hS2 => ?_
    have f4 : va_at D vcl (LV H.size [.int 0, .ref E0, .int 0]) H2 := by rw [← f1]; exact f4
    have ho2 : ∀ q, q < H.size → H2[q]? = H[q]? := fun q hq => (f6 q (by omega) (by omega)).trans (o1 q hq)
    refine hk H2 locs2 (radds ρ s0 [H.size]) (badds β s0 (h.1 s0).length E0) ls _ _ _ radds_ext (S.one (by rw [n2]; simp) (by omega) ho2 ?_ 1 3) hS2 (lrel_mono radds_ext hl) ⟨_, _, rfl, ⟨H.size, ?_, rfl⟩, srel_mono radds_ext hs⟩ (by show cells + 1 + 0 + h.2.1 = cells + (h.2.1 + 1); omega) (by show slots + 3 + 0 + h.2.2 = slots + (h.2.2 + 3); omega)
    · unfold ob_at
      rw [n2]
      have eb : badds β s0 (h.1 s0).length E0 s0 (h.1 s0).length = E0 := if_pos ⟨rfl, Nat.le_refl _⟩
      have hv0 : ∀ v ∈ ([] : Ob), ∃ i, v = vR (les s0) i := fun v hv => absurd hv List.not_mem_nil
      have hat : ∃ k : Int32, va_at D vcl (H.size, .inr (10, [.int k, .ref (badds β s0 (h.1 s0).length E0 s0 (h.1 s0).length), .int (nI ([] : Ob).length)])) H2 := ⟨0, by rw [eb]; exact f4⟩
      exact ⟨hbs, hat, hv0, Or.inl ⟨eb, rfl⟩⟩
    · unfold radds
      rw [if_pos rfl, List.getElem?_append_right (by rw [S.2.1 s0]; exact Nat.le_refl _), S.2.1 s0]
      simp
end LK
end
section
/-! LAYER 2: what a run comes to, as a value; its equations -/
theorem run_succ : ∀ (n d : Nat) (fr : Fr) (h : Hp) (x : Re × Hp), run d n fr h = some x → run d (n + 1) fr h = some x
  | 0, d, fr, h, x, e => by simp [run] at e
  | n + 1, d, fr, h, x, e => by
    unfold run at e ⊢
    split at e
    · cases e
    · rename_i r hr
      exact e
    · rename_i z hr
      exact run_succ n _ _ _ _ e
    · rename_i z hr
      cases d with
      | zero => cases e
      | succ d =>
        dsimp only at e ⊢
        split at e
        · cases e
        · rename_i r h1
          rw [run_succ n _ _ _ _ h1]
          dsimp only
          split at e
          · cases e
          · rename_i r' h2
            exact e
          · rename_i w h2
            exact run_succ n _ _ _ _ e
theorem run_le {n n' d : Nat} {fr : Fr} {h : Hp} {x : Re × Hp} (e : run d n fr h = some x) (hn : n ≤ n') : run d n' fr h = some x := by
  obtain ⟨k, rfl⟩ := Nat.exists_eq_add_of_le hn
  clear hn
  induction k with
  | zero => exact e
  | succ k ih => exact run_succ _ _ _ _ _ ih
theorem run_d : ∀ (n d : Nat) (fr : Fr) (h : Hp) (x : Re × Hp), run d n fr h = some x → run (d + 1) n fr h = some x
  | 0, d, fr, h, x, e => by simp [run] at e
  | n + 1, d, fr, h, x, e => by
    unfold run at e ⊢
    split at e
    · cases e
    · rename_i r hr
      exact e
    · rename_i z hr
      exact run_d n _ _ _ _ e
    · rename_i z hr
      cases d with
      | zero => cases e
      | succ d =>
        dsimp only at e ⊢
        split at e
        · cases e
        · rename_i r h1
          rw [run_d n _ _ _ _ h1]
          dsimp only
          split at e
          · cases e
          · rename_i r' h2
            exact e
          · rename_i w h2
            exact run_d n _ _ _ _ e
theorem run_de {n d d' : Nat} {fr : Fr} {h : Hp} {x : Re × Hp} (e : run d n fr h = some x) (hd : d ≤ d') : run d' n fr h = some x := by
  obtain ⟨k, rfl⟩ := Nat.exists_eq_add_of_le hd
  clear hd
  induction k with
  | zero => exact e
  | succ k ih => exact run_d _ _ _ _ _ ih
/-- the run from fr, over h, comes to x -/
def Ev (d : Nat) (fr : Fr) (h : Hp) (x : Re × Hp) : Prop := ∃ n, run d n fr h = some x
theorem Ev.d {d d' : Nat} {fr : Fr} {h : Hp} {x : Re × Hp} (e : Ev d fr h x) (hd : d ≤ d') : Ev d' fr h x := by
  obtain ⟨n, e⟩ := e
  exact ⟨n, run_de e hd⟩
theorem Ev.det {d d' : Nat} {fr : Fr} {h : Hp} {x x' : Re × Hp} (e : Ev d fr h x) (e' : Ev d' fr h x') : x = x' := by
  obtain ⟨n, e⟩ := e
  obtain ⟨n', e'⟩ := e'
  have h1 := run_de (run_le e (Nat.le_max_left n n')) (Nat.le_max_left d d')
  have h2 := run_de (run_le e' (Nat.le_max_right n n')) (Nat.le_max_right d d')
  exact Option.some.inj (h1.symm.trans h2)
theorem Ev.ret {d : Nat} {fr : Fr} {h : Hp} {x : Re × Hp} (hs : stp fr h = some (.inl x)) : Ev d fr h x := ⟨1, by unfold run; rw [hs]⟩
theorem Ev.go {d : Nat} {fr : Fr} {h : Hp} {z : Fr × Hp} {x : Re × Hp} (hs : stp fr h = some (.inr (.inl z))) (k : Ev d z.1 z.2 x) : Ev d fr h x := by
  obtain ⟨n, e⟩ := k
  exact ⟨n + 1, by unfold run; rw [hs]; exact e⟩
theorem Ev.call {d : Nat} {fr : Fr} {h : Hp} {z : Fr × (Nat × Nat × Lo × List MV)} {r : Re} {h1 : Hp} {w : Fr × Hp} {x : Re × Hp} (hs : stp fr h = some (.inr (.inr z))) (hc : Ev d z.1 h (r, h1)) (ha : aft z.2 r h1 = some (.inr w)) (k : Ev (d + 1) w.1 w.2 x) : Ev (d + 1) fr h x := by
  obtain ⟨n1, e1⟩ := hc
  obtain ⟨n2, e2⟩ := k
  refine ⟨max n1 n2 + 1, ?_⟩
  unfold run
  rw [hs]
  dsimp only
  rw [run_le e1 (Nat.le_max_left n1 n2)]
  dsimp only
  rw [ha]
  exact run_le e2 (Nat.le_max_right n1 n2)
theorem Ev.thru {d : Nat} {fr : Fr} {h : Hp} {z : Fr × (Nat × Nat × Lo × List MV)} {r : Re} {h1 : Hp} {x : Re × Hp} (hs : stp fr h = some (.inr (.inr z))) (hc : Ev d z.1 h (r, h1)) (ha : aft z.2 r h1 = some (.inl x)) : Ev (d + 1) fr h x := by
  obtain ⟨n1, e1⟩ := hc
  refine ⟨n1 + 1, ?_⟩
  unfold run
  rw [hs]
  dsimp only
  rw [e1]
  dsimp only
  rw [ha]
end
section
/-! the instructions of every method by place (written by gen41.py); the first of a throw are left out -/
abbrev CI : Type := Option (Instr × Nat)
def cd_0 : List (List CI) := [[some (.aload_n 0, 1), some (.invokespecial 1, 3), none, none, some (.aload_n 0, 1), some (.iload_n 1, 1), some (.putfield 7, 3), none, none, some (.aload_n 0, 1), some (.iload_n 2, 1), some (.putfield 13, 3), none, none, some (.aload_n 0, 1), some (.iload_n 2, 1)],
  [some (.putfield 16, 3), none, none, some (.return_, 1)]]
def cd_1 : List (List CI) := [[some (.aload_n 0, 1), some (.invokespecial 1, 3), none, none, some (.aload_n 0, 1), some (.aload_n 1, 1), some (.putfield 7, 3), none, none, some (.return_, 1)]]
def cd_2 : List (List CI) := [[some (.iload_n 1, 1), some (.ifCond .lt 21, 3), none, none, some (.iload_n 1, 1), some (.aload_n 0, 1), some (.getfield 7, 3), none, none, some (.arraylength, 1), some (.if_icmp .ge 12, 3), none, none, some (.aload_n 0, 1), some (.getfield 7, 3), none],
  [none, some (.iload_n 1, 1), some (.iaload, 1), some (.goto 4, 3), none, none, some (.iconst 0, 1), some (.ireturn, 1)]]
def cd_3 : List (List CI) := [[some (.aload_n 0, 1), some (.invokespecial 1, 3), none, none, some (.aload_n 0, 1), some (.aload_n 1, 1), some (.putfield 7, 3), none, none, some (.aload_n 0, 1), some (.iload_n 2, 1), some (.putfield 13, 3), none, none, some (.return_, 1)]]
def cd_4 : List (List CI) := [[some (.aload_n 0, 1), some (.invokespecial 3, 3), none, none, some (.aload_n 0, 1), some (.new 9, 3), none, none, some (.dup, 1), some (.invokespecial 11, 3), none, none, some (.putfield 12, 3), none, none, some (.aload_n 0, 1)],
  [some (.bipush 119, 2), none, some (.putfield 18, 3), none, none, some (.aload_n 0, 1), some (.iconst 0, 1), some (.putfield 22, 3), none, none, some (.aload_n 0, 1), some (.aload_n 1, 1), some (.putfield 26, 3), none, none, some (.aload_n 0, 1)],
  [some (.aload_n 2, 1), some (.putfield 30, 3), none, none, some (.aload_n 0, 1), some (.iload_n 3, 1), some (.putfield 34, 3), none, none, some (.aload_n 0, 1), some (.iload 4, 2), none, some (.putfield 37, 3), none, none, some (.aload_n 0, 1)],
  [some (.iload 5, 2), none, some (.putfield 40, 3), none, none, some (.aload_n 0, 1), some (.iload 4, 2), none, some (.iload 5, 2), none, some (.iadd, 1), some (.putfield 43, 3), none, none, some (.aload_n 0, 1), some (.iload 6, 2)],
  [none, some (.putfield 46, 3), none, none, some (.return_, 1)]]
def cd_5 : List (List CI) := [[some (.aload_n 0, 1), some (.getfield 18, 3), none, none, some (.bipush 119, 2), none, some (.if_icmp .eq 12, 3), none, none, some (.aload_n 0, 1), some (.getfield 18, 3), none, none, some (.bipush 98, 2), none, some (.if_icmp .ne 7, 3)],
  [none, none, some (.iconst 1, 1), some (.goto 4, 3), none, none, some (.iconst 0, 1), some (.ireturn, 1)]]
def cd_6 : List (List CI) := [[some (.aload_n 0, 1), some (.getfield 34, 3), none, none, some (.iload_n 1, 1), some (.if_icmp .ne 23, 3), none, none, some (.aload_n 0, 1), some (.getfield 37, 3), none, none, some (.iload_n 3, 1), some (.if_icmp .ge 15, 3), none, none],
  [some (.iload_n 2, 1), some (.aload_n 0, 1), some (.getfield 43, 3), none, none, some (.if_icmp .ge 7, 3), none, none, some (.iconst 1, 1), some (.goto 4, 3), none, none, some (.iconst 0, 1), some (.ireturn, 1)]]
def cd_7 : List (List CI) := [[some (.aload_n 0, 1), some (.invokespecial 3, 3), none, none, some (.aload_n 0, 1), some (.iconst 0, 1), some (.putfield 9, 3), none, none, some (.aload_n 0, 1), some (.new 15, 3), none, none, some (.dup, 1), some (.iconst 0, 1), some (.iconst 0, 1)],
  [some (.aconst_null, 1), some (.invokespecial 17, 3), none, none, some (.putfield 20, 3), none, none, some (.aload_n 0, 1), some (.iload_n 1, 1), some (.putfield 24, 3), none, none, some (.aload_n 0, 1), some (.iconst 1, 1), some (.iload_n 1, 1), some (.ishl, 1)],
  [some (.putfield 27, 3), none, none, some (.return_, 1)]]
def cd_8 : List (List CI) := [[some (.aload_n 0, 1), some (.getfield 9, 3), none, none, some (.aload_n 1, 1), some (.getfield 27, 3), none, none, some (.iand, 1), some (.ifCond .eq 7, 3), none, none, some (.iconst 1, 1), some (.goto 4, 3), none, none],
  [some (.iconst 0, 1), some (.ireturn, 1)]]
def cd_9 : List (List CI) := [[some (.aload_n 0, 1), some (.dup, 1), some (.getfield 9, 3), none, none, some (.aload_n 1, 1), some (.getfield 27, 3), none, none, some (.ior, 1), some (.putfield 9, 3), none, none, some (.return_, 1)]]
def cd_10 : List (List CI) := [[some (.aload_n 0, 1), some (.invokespecial 1, 3), none, none, some (.aload_n 0, 1), some (.iload_n 1, 1), some (.putfield 7, 3), none, none, some (.aload_n 0, 1), some (.iload_n 2, 1), some (.putfield 13, 3), none, none, some (.aload_n 0, 1), some (.aload_n 3, 1)],
  [some (.putfield 16, 3), none, none, some (.aload_n 0, 1), some (.aload_n 3, 1), some (.ifnonnull 7, 3), none, none, some (.iconst 1, 1), some (.goto 9, 3), none, none, some (.aload_n 3, 1), some (.getfield 20, 3), none, none],
  [some (.iconst 1, 1), some (.iadd, 1), some (.putfield 20, 3), none, none, some (.return_, 1)]]
def cd_11 : List (List CI) := [[some (.aload_n 0, 1), some (.invokespecial 1, 3), none, none, some (.aload_n 0, 1), some (.new 7, 3), none, none, some (.dup, 1), some (.invokespecial 9, 3), none, none, some (.putfield 10, 3), none, none, some (.aload_n 0, 1)],
  [some (.aload_n 1, 1), some (.putfield 16, 3), none, none, some (.aload_n 0, 1), some (.iload_n 2, 1), some (.putfield 20, 3), none, none, some (.return_, 1)]]
def cd_12 : List (List CI) := [[some (.iload_n 1, 1), some (.iload_n 2, 1), some (.if_icmp .ne 7, 3), none, none, some (.iconst 0, 1), some (.goto 7, 3), none, none, some (.aload_n 0, 1), some (.getfield 20, 3), none, none, some (.ireturn, 1)]]
def cd_13 : List (List CI) := [[some (.iconst 0, 1), some (.istore_n 3, 1), some (.iload_n 3, 1), some (.aload_n 0, 1), some (.getfield 10, 3), none, none, some (.invokevirtual 24, 3), none, none, some (.if_icmp .ge 28, 3), none, none, some (.aload_n 0, 1), some (.getfield 10, 3), none],
  [none, some (.iload_n 3, 1), some (.invokevirtual 28, 3), none, none, some (.checkcast 32, 3), none, none, some (.iload_n 1, 1), some (.iload_n 2, 1), some (.invokestatic 34, 3), none, none, some (.ifCond .eq 9, 3), none, none],
  [some (.iinc 3 1, 3), none, none, some (.goto (-33), 3), none, none, some (.iload_n 3, 1), some (.ireturn, 1)]]
def cd_14 : List (List CI) := [[some (.aload_n 0, 1), some (.getfield 38, 3), none, none, some (.iload_n 1, 1), some (.if_icmp .lt 19, 3), none, none, some (.aload_n 0, 1), some (.getfield 38, 3), none, none, some (.iload_n 1, 1), some (.if_icmp .ne 15, 3), none, none],
  [some (.aload_n 0, 1), some (.getfield 41, 3), none, none, some (.iload_n 2, 1), some (.if_icmp .ge 7, 3), none, none, some (.iconst 1, 1), some (.goto 4, 3), none, none, some (.iconst 0, 1), some (.ireturn, 1)]]
def cd_15 : List (List CI) := [[some (.aload_n 0, 1), some (.getfield 10, 3), none, none, some (.aload_n 0, 1), some (.aload_n 1, 1), some (.getfield 38, 3), none, none, some (.aload_n 1, 1), some (.getfield 41, 3), none, none, some (.invokevirtual 44, 3), none, none],
  [some (.aload_n 1, 1), some (.invokevirtual 48, 3), none, none, some (.return_, 1)]]
def cd_16 : List (List CI) := [[some (.aload_n 0, 1), some (.aload_n 1, 1), some (.getfield 38, 3), none, none, some (.aload_n 1, 1), some (.getfield 41, 3), none, none, some (.invokevirtual 44, 3), none, none, some (.istore_n 2, 1), some (.iload_n 2, 1), some (.aload_n 0, 1), some (.getfield 10, 3)],
  [none, none, some (.invokevirtual 24, 3), none, none, some (.if_icmp .ge 24, 3), none, none, some (.aload_n 0, 1), some (.getfield 10, 3), none, none, some (.iload_n 2, 1), some (.invokevirtual 28, 3), none, none],
  [some (.aload_n 1, 1), some (.if_acmp .ne 12, 3), none, none, some (.aload_n 0, 1), some (.getfield 10, 3), none, none, some (.iload_n 2, 1), some (.invokevirtual 52, 3), none, none, some (.pop, 1), some (.return_, 1)]]
def cd_17 : List (List CI) := [[some (.aload_n 0, 1), some (.invokespecial 3, 3), none, none, some (.aload_n 0, 1), some (.iconst 4, 1), some (.newarray .int, 2), none, some (.putfield 9, 3), none, none, some (.aload_n 0, 1), some (.iconst 0, 1), some (.putfield 15, 3), none, none],
  [some (.aload_n 0, 1), some (.iconst 0, 1), some (.putfield 19, 3), none, none, some (.iconst 0, 1), some (.istore_n 1, 1), some (.iload_n 1, 1), some (.aload_n 0, 1), some (.getfield 9, 3), none, none, some (.arraylength, 1), some (.if_icmp .ge 16, 3), none, none],
  [some (.aload_n 0, 1), some (.getfield 9, 3), none, none, some (.iload_n 1, 1), some (.iconst (-1), 1), some (.iastore, 1), some (.iinc 1 1, 3), none, none, some (.goto (-19), 3), none, none, some (.return_, 1)]]
def cd_18 : List (List CI) := [[some (.aload_n 1, 1), some (.getfield 22, 3), none, none, some (.istore_n 2, 1), some (.iload_n 2, 1), some (.ifCond .lt 21, 3), none, none, some (.iload_n 2, 1), some (.aload_n 0, 1), some (.getfield 9, 3), none, none, some (.arraylength, 1), some (.if_icmp .ge 12, 3)],
  [none, none, some (.aload_n 0, 1), some (.getfield 9, 3), none, none, some (.iload_n 2, 1), some (.iaload, 1), some (.goto 4, 3), none, none, some (.iconst (-1), 1), some (.ireturn, 1)]]
def cd_19 : List (List CI) := [[some (.aload_n 1, 1), some (.getfield 22, 3), none, none, some (.istore_n 3, 1), some (.iload_n 3, 1), some (.ifCond .lt 19, 3), none, none, some (.iload_n 3, 1), some (.aload_n 0, 1), some (.getfield 9, 3), none, none, some (.arraylength, 1), some (.if_icmp .ge 10, 3)],
  [none, none, some (.aload_n 0, 1), some (.getfield 9, 3), none, none, some (.iload_n 3, 1), some (.iload_n 2, 1), some (.iastore, 1), some (.return_, 1)]]
def cd_20 : List (List CI) := [[some (.aload_n 0, 1), some (.invokespecial 1, 3), none, none, some (.aload_n 0, 1), some (.new 7, 3), none, none, some (.dup, 1), some (.invokespecial 9, 3), none, none, some (.putfield 10, 3), none, none, some (.aload_n 0, 1)],
  [some (.new 7, 3), none, none, some (.dup, 1), some (.invokespecial 9, 3), none, none, some (.putfield 16, 3), none, none, some (.aload_n 0, 1), some (.new 7, 3), none, none, some (.dup, 1), some (.invokespecial 9, 3)],
  [none, none, some (.putfield 19, 3), none, none, some (.aload_n 0, 1), some (.new 7, 3), none, none, some (.dup, 1), some (.invokespecial 9, 3), none, none, some (.putfield 22, 3), none, none],
  [some (.aload_n 0, 1), some (.new 7, 3), none, none, some (.dup, 1), some (.invokespecial 9, 3), none, none, some (.putfield 25, 3), none, none, some (.aload_n 0, 1), some (.new 7, 3), none, none, some (.dup, 1)],
  [some (.invokespecial 9, 3), none, none, some (.putfield 28, 3), none, none, some (.aload_n 0, 1), some (.iconst 3, 1), some (.newarray .int, 2), none, some (.putfield 31, 3), none, none, some (.aload_n 0, 1), some (.iconst 0, 1), some (.putfield 35, 3)],
  [none, none, some (.iconst 0, 1), some (.istore_n 1, 1), some (.iload_n 1, 1), some (.iconst 4, 1), some (.if_icmp .ge 25, 3), none, none, some (.aload_n 0, 1), some (.getfield 10, 3), none, none, some (.new 39, 3), none, none],
  [some (.dup, 1), some (.iload_n 1, 1), some (.invokespecial 41, 3), none, none, some (.invokevirtual 44, 3), none, none, some (.pop, 1), some (.iinc 1 1, 3), none, none, some (.goto (-24), 3), none, none, some (.return_, 1)]]
def cd_21 : List (List CI) := [[some (.aload_n 0, 1), some (.iload_n 1, 1), some (.invokevirtual 48, 3), none, none, some (.astore_n 3, 1), some (.iload_n 2, 1), some (.iconst 0, 1), some (.bipush 30, 2), none, some (.invokestatic 52, 3), none, none, some (.aload_n 0, 1), some (.getfield 16, 3), none],
  [none, some (.invokevirtual 56, 3), none, none, some (.bipush 6, 2), none, some (.invokestatic 60, 3), none, none, some (.aload_n 0, 1), some (.getfield 16, 3), none, none, some (.new 64, 3), none, none],
  [some (.dup, 1), some (.aload_n 3, 1), some (.iload_n 2, 1), some (.invokespecial 66, 3), none, none, some (.invokevirtual 44, 3), none, none, some (.pop, 1), some (.aload_n 0, 1), some (.getfield 16, 3), none, none, some (.invokevirtual 56, 3), none],
  [none, some (.iconst 1, 1), some (.isub, 1), some (.ireturn, 1)]]
def cd_22 : List (List CI) := [[some (.aload_n 0, 1), some (.getfield 19, 3), none, none, some (.invokevirtual 56, 3), none, none, some (.bipush 10, 2), none, some (.invokestatic 60, 3), none, none, some (.aload_n 0, 1), some (.getfield 19, 3), none, none],
  [some (.new 69, 3), none, none, some (.dup, 1), some (.invokespecial 71, 3), none, none, some (.invokevirtual 44, 3), none, none, some (.pop, 1), some (.aload_n 0, 1), some (.getfield 19, 3), none, none, some (.invokevirtual 56, 3)],
  [none, none, some (.iconst 1, 1), some (.isub, 1), some (.ireturn, 1)]]
def cd_23 : List (List CI) := [[some (.aload_n 0, 1), some (.getfield 35, 3), none, none, some (.ireturn, 1)]]
def cd_24 : List (List CI) := [[some (.aload_n 0, 1), some (.iload_n 1, 1), some (.invokevirtual 48, 3), none, none, some (.astore_n 3, 1), some (.aload_n 0, 1), some (.iload_n 2, 1), some (.invokevirtual 48, 3), none, none, some (.astore 4, 2), none, some (.aload_n 3, 1), some (.aload 4, 2), none],
  [some (.if_acmp .ne 13, 3), none, none, none, none, none, some (.dup, 1), some (.ldc 74, 2), none, some (.invokespecial 76, 3), none, none, some (.athrow, 1), some (.aload_n 0, 1), some (.getfield 10, 3), none],
  [none, some (.aload 4, 2), none, some (.aload_n 3, 1), some (.iconst 0, 1), some (.invokestatic 79, 3), none, none, some (.ifCond .eq 13, 3), none, none, none, none, none, some (.dup, 1), some (.ldc 85, 2)],
  [none, some (.invokespecial 87, 3), none, none, some (.athrow, 1), some (.aload_n 3, 1), some (.aload 4, 2), none, some (.invokevirtual 88, 3), none, none, some (.ifCond .ne 7, 3), none, none, some (.iconst 1, 1), some (.goto 4, 3)],
  [none, none, some (.iconst 0, 1), some (.istore 5, 2), none, some (.aload_n 3, 1), some (.aload 4, 2), none, some (.invokevirtual 92, 3), none, none, some (.aload_n 0, 1), some (.invokevirtual 96, 3), none, none, some (.aload_n 0, 1)],
  [some (.invokevirtual 99, 3), none, none, some (.iload 5, 2), none, some (.ireturn, 1)]]
def cd_25 : List (List CI) := [[some (.aload_n 0, 1), some (.iload_n 1, 1), some (.invokevirtual 102, 3), none, none, some (.astore_n 3, 1), some (.aload_n 0, 1), some (.iload_n 2, 1), some (.invokevirtual 48, 3), none, none, some (.astore 4, 2), none, some (.aload_n 0, 1), some (.aload_n 3, 1), some (.aload 4, 2)],
  [none, some (.aload_n 0, 1), some (.getfield 35, 3), none, none, some (.iconst 0, 1), some (.invokevirtual 106, 3), none, none, some (.ifCond .ne 13, 3), none, none, none, none, none, some (.dup, 1)],
  [some (.ldc 112, 2), none, some (.invokespecial 114, 3), none, none, some (.athrow, 1), some (.aload_n 3, 1), some (.aload 4, 2), none, some (.invokevirtual 115, 3), none, none, some (.istore 5, 2), none, some (.aload_n 3, 1), some (.aload 4, 2)],
  [none, some (.aload_n 0, 1), some (.getfield 35, 3), none, none, some (.invokevirtual 119, 3), none, none, some (.aload_n 0, 1), some (.invokevirtual 99, 3), none, none, some (.iload 5, 2), none, some (.iconst (-1), 1), some (.if_icmp .ne 7, 3)],
  [none, none, some (.iconst (-1), 1), some (.goto 10, 3), none, none, some (.aload_n 0, 1), some (.getfield 35, 3), none, none, some (.iload 5, 2), none, some (.isub, 1), some (.ireturn, 1)]]
def cd_26 : List (List CI) := [[some (.aload_n 0, 1), some (.iload_n 1, 1), some (.invokevirtual 102, 3), none, none, some (.astore 4, 2), none, some (.aload_n 0, 1), some (.iload_n 2, 1), some (.invokevirtual 48, 3), none, none, some (.astore 5, 2), none, some (.iload_n 3, 1), some (.aload_n 0, 1)],
  [some (.getfield 35, 3), none, none, some (.sipush 999, 3), none, none, some (.invokestatic 52, 3), none, none, some (.aload_n 0, 1), some (.aload 4, 2), none, some (.aload 5, 2), none, some (.iload_n 3, 1), some (.iconst 0, 1)],
  [some (.invokevirtual 122, 3), none, none, some (.ireturn, 1)]]
def cd_27 : List (List CI) := [[some (.aload_n 0, 1), some (.iload_n 1, 1), some (.invokevirtual 102, 3), none, none, some (.astore 7, 2), none, some (.aload_n 0, 1), some (.iload_n 2, 1), some (.invokevirtual 125, 3), none, none, some (.astore 8, 2), none, some (.aload_n 0, 1), some (.iload_n 3, 1)],
  [some (.iload 4, 2), none, some (.iload 5, 2), none, some (.iload 6, 2), none, some (.invokevirtual 129, 3), none, none, some (.aload_n 0, 1), some (.aload 7, 2), none, some (.aload 8, 2), none, some (.iload_n 3, 1), some (.iload 4, 2)],
  [none, some (.iload 5, 2), none, some (.iload 6, 2), none, some (.invokevirtual 133, 3), none, none, some (.istore 9, 2), none, some (.iload 9, 2), none, some (.bipush 105, 2), none, some (.if_icmp .ne 13, 3), none],
  [none, none, none, none, some (.dup, 1), some (.ldc 137, 2), none, some (.invokespecial 114, 3), none, none, some (.athrow, 1), some (.iload 9, 2), none, some (.bipush 109, 2), none, some (.if_icmp .ne 13, 3)],
  [none, none, none, none, none, some (.dup, 1), some (.ldc 141, 2), none, some (.invokespecial 143, 3), none, none, some (.athrow, 1), some (.iload 9, 2), none, some (.bipush 116, 2), none],
  [some (.if_icmp .ne 13, 3), none, none, none, none, none, some (.dup, 1), some (.ldc 146, 2), none, some (.invokespecial 148, 3), none, none, some (.athrow, 1), some (.aload_n 0, 1), some (.getfield 22, 3), none],
  [none, some (.invokevirtual 56, 3), none, none, some (.sipush 150, 3), none, none, some (.invokestatic 60, 3), none, none, some (.new 149, 3), none, none, some (.dup, 1), some (.aload 7, 2), none],
  [some (.aload 8, 2), none, some (.iload_n 3, 1), some (.iload 4, 2), none, some (.iload 5, 2), none, some (.iload 6, 2), none, some (.invokespecial 151, 3), none, none, some (.astore 10, 2), none, some (.aload_n 0, 1), some (.getfield 22, 3)],
  [none, none, some (.aload 10, 2), none, some (.invokevirtual 44, 3), none, none, some (.pop, 1), some (.aload 10, 2), none, some (.invokestatic 154, 3), none, none, some (.aload_n 0, 1), some (.invokevirtual 99, 3), none],
  [none, some (.aload_n 0, 1), some (.getfield 22, 3), none, none, some (.invokevirtual 56, 3), none, none, some (.iconst 1, 1), some (.isub, 1), some (.ireturn, 1)]]
def cd_28 : List (List CI) := [[some (.aload_n 0, 1), some (.iload_n 1, 1), some (.invokevirtual 102, 3), none, none, some (.astore 7, 2), none, some (.aload_n 0, 1), some (.iload_n 2, 1), some (.invokevirtual 125, 3), none, none, some (.astore 8, 2), none, some (.aload_n 0, 1), some (.iload_n 3, 1)],
  [some (.iload 4, 2), none, some (.iload 5, 2), none, some (.iload 6, 2), none, some (.invokevirtual 129, 3), none, none, some (.aload_n 0, 1), some (.aload 7, 2), none, some (.aload 8, 2), none, some (.iload_n 3, 1), some (.iload 4, 2)],
  [none, some (.iload 5, 2), none, some (.iload 6, 2), none, some (.invokevirtual 133, 3), none, none, some (.istore 9, 2), none, some (.iload 9, 2), none, some (.bipush 105, 2), none, some (.if_icmp .ne 13, 3), none],
  [none, none, none, none, some (.dup, 1), some (.ldc 137, 2), none, some (.invokespecial 114, 3), none, none, some (.athrow, 1), some (.iload 9, 2), none, some (.bipush 111, 2), none, some (.if_icmp .ne 13, 3)],
  [none, none, none, none, none, some (.dup, 1), some (.ldc 158, 2), none, some (.invokespecial 87, 3), none, none, some (.athrow, 1), some (.aload_n 0, 1), some (.getfield 22, 3), none, none],
  [some (.invokevirtual 56, 3), none, none, some (.sipush 150, 3), none, none, some (.invokestatic 60, 3), none, none, some (.aload_n 0, 1), some (.getfield 22, 3), none, none, some (.new 149, 3), none, none],
  [some (.dup, 1), some (.aload 7, 2), none, some (.aload 8, 2), none, some (.iload_n 3, 1), some (.iload 4, 2), none, some (.iload 5, 2), none, some (.iload 6, 2), none, some (.invokespecial 151, 3), none, none, some (.invokevirtual 44, 3)],
  [none, none, some (.pop, 1), some (.aload_n 0, 1), some (.getfield 22, 3), none, none, some (.invokevirtual 56, 3), none, none, some (.iconst 1, 1), some (.isub, 1), some (.ireturn, 1)]]
def cd_29 : List (List CI) := [[some (.aload_n 0, 1), some (.iload_n 1, 1), some (.invokevirtual 102, 3), none, none, some (.astore 7, 2), none, some (.aload_n 0, 1), some (.iload_n 2, 1), some (.invokevirtual 125, 3), none, none, some (.astore 8, 2), none, some (.aload_n 0, 1), some (.iload_n 3, 1)],
  [some (.iload 4, 2), none, some (.iload 5, 2), none, some (.iload 6, 2), none, some (.invokevirtual 129, 3), none, none, some (.aload_n 0, 1), some (.aload 7, 2), none, some (.aload 8, 2), none, some (.iload_n 3, 1), some (.iload 4, 2)],
  [none, some (.iload 5, 2), none, some (.iload 6, 2), none, some (.invokevirtual 133, 3), none, none, some (.ireturn, 1)]]
def cd_30 : List (List CI) := [[some (.aload_n 0, 1), some (.iload_n 1, 1), some (.invokevirtual 160, 3), none, none, some (.astore_n 2, 1), some (.aload_n 2, 1), some (.invokevirtual 164, 3), none, none, some (.ifCond .ne 13, 3), none, none, none, none, none],
  [some (.dup, 1), some (.ldc 168, 2), none, some (.invokespecial 87, 3), none, none, some (.athrow, 1), some (.aload_n 0, 1), some (.aload_n 2, 1), some (.invokevirtual 170, 3), none, none, some (.istore_n 3, 1), some (.aload_n 2, 1), some (.invokestatic 174, 3), none],
  [none, some (.iload_n 3, 1), some (.bipush 104, 2), none, some (.if_icmp .ne 13, 3), none, none, some (.aload_n 2, 1), some (.aload_n 2, 1), some (.invokestatic 177, 3), none, none, some (.iconst 2, 1), some (.idiv, 1), some (.invokestatic 181, 3), none],
  [none, some (.aload_n 0, 1), some (.invokevirtual 99, 3), none, none, some (.iload_n 3, 1), some (.ireturn, 1)]]
def cd_31 : List (List CI) := [[some (.aload_n 0, 1), some (.iload_n 1, 1), some (.invokevirtual 160, 3), none, none, some (.getfield 185, 3), none, none, some (.ireturn, 1)]]
def cd_32 : List (List CI) := [[some (.aload_n 0, 1), some (.getfield 22, 3), none, none, some (.invokevirtual 56, 3), none, none, some (.ireturn, 1)]]
def cd_33 : List (List CI) := [[some (.aload_n 0, 1), some (.getfield 35, 3), none, none, some (.sipush 900, 3), none, none, some (.if_icmp .lt 13, 3), none, none, none, none, none, some (.dup, 1), some (.ldc 189, 2), none],
  [some (.invokespecial 87, 3), none, none, some (.athrow, 1), some (.iconst 0, 1), some (.istore_n 1, 1), some (.iconst 0, 1), some (.istore_n 2, 1), some (.iload_n 2, 1), some (.aload_n 0, 1), some (.getfield 22, 3), none, none, some (.invokevirtual 56, 3), none, none],
  [some (.if_icmp .ge 93, 3), none, none, some (.aload_n 0, 1), some (.getfield 22, 3), none, none, some (.iload_n 2, 1), some (.invokevirtual 191, 3), none, none, some (.checkcast 149, 3), none, none, some (.astore_n 3, 1), some (.aload_n 3, 1)],
  [some (.getfield 195, 3), none, none, some (.aload_n 0, 1), some (.getfield 35, 3), none, none, some (.if_icmp .ne 38, 3), none, none, some (.aload_n 3, 1), some (.getfield 185, 3), none, none, some (.bipush 98, 2), none],
  [some (.if_icmp .ne 29, 3), none, none, some (.aload_n 3, 1), some (.bipush 100, 2), none, some (.putfield 185, 3), none, none, some (.aload_n 3, 1), some (.aload_n 3, 1), some (.invokestatic 177, 3), none, none, some (.aload_n 0, 1), some (.aload_n 3, 1)],
  [some (.invokevirtual 198, 3), none, none, some (.iadd, 1), some (.invokestatic 181, 3), none, none, some (.iinc 1 1, 3), none, none, some (.goto 29, 3), none, none, some (.aload_n 3, 1), some (.getfield 195, 3), none],
  [none, some (.aload_n 0, 1), some (.getfield 35, 3), none, none, some (.if_icmp .ne 18, 3), none, none, some (.aload_n 3, 1), some (.getfield 185, 3), none, none, some (.bipush 119, 2), none, some (.if_icmp .ne 9, 3), none],
  [none, some (.aload_n 3, 1), some (.bipush 120, 2), none, some (.putfield 185, 3), none, none, some (.iinc 2 1, 3), none, none, some (.goto (-98), 3), none, none, some (.aload_n 0, 1), some (.dup, 1), some (.getfield 35, 3)],
  [none, none, some (.iconst 1, 1), some (.iadd, 1), some (.putfield 35, 3), none, none, some (.aload_n 0, 1), some (.invokevirtual 99, 3), none, none, some (.iload_n 1, 1), some (.ireturn, 1)]]
def cd_34 : List (List CI) := [[some (.aload_n 0, 1), some (.iload_n 1, 1), some (.invokevirtual 125, 3), none, none, some (.astore 4, 2), none, some (.iload_n 2, 1), some (.iconst 0, 1), some (.aload_n 0, 1), some (.getfield 35, 3), none, none, some (.bipush 6, 2), none, some (.iadd, 1)],
  [some (.invokestatic 52, 3), none, none, some (.iload_n 3, 1), some (.iconst 0, 1), some (.sipush 479, 3), none, none, some (.invokestatic 52, 3), none, none, some (.aload 4, 2), none, some (.aload 4, 2), none, some (.iload_n 2, 1)],
  [some (.iconst 0, 1), some (.invokevirtual 201, 3), none, none, some (.iload_n 2, 1), some (.iload_n 3, 1), some (.invokestatic 205, 3), none, none, some (.ireturn, 1)]]
def cd_35 : List (List CI) := [[some (.aload_n 0, 1), some (.iload_n 1, 1), some (.invokevirtual 125, 3), none, none, some (.astore_n 3, 1), some (.iload_n 2, 1), some (.iconst 0, 1), some (.aload_n 0, 1), some (.getfield 35, 3), none, none, some (.bipush 6, 2), none, some (.iadd, 1), some (.invokestatic 52, 3)],
  [none, none, some (.aload_n 3, 1), some (.iload_n 2, 1), some (.invokestatic 209, 3), none, none, some (.ireturn, 1)]]
def cd_36 : List (List CI) := [[some (.aload_n 0, 1), some (.iload_n 1, 1), some (.invokevirtual 125, 3), none, none, some (.astore_n 3, 1), some (.iload_n 2, 1), some (.iconst 0, 1), some (.aload_n 0, 1), some (.getfield 35, 3), none, none, some (.bipush 6, 2), none, some (.iadd, 1), some (.invokestatic 52, 3)],
  [none, none, some (.aload_n 3, 1), some (.iload_n 2, 1), some (.invokestatic 213, 3), none, none, some (.ireturn, 1)]]
def cd_37 : List (List CI) := [[some (.aload_n 0, 1), some (.iload_n 1, 1), some (.invokevirtual 125, 3), none, none, some (.astore_n 3, 1), some (.iload_n 2, 1), some (.iconst 0, 1), some (.aload_n 0, 1), some (.getfield 35, 3), none, none, some (.bipush 6, 2), none, some (.iadd, 1), some (.invokestatic 52, 3)],
  [none, none, some (.iconst 0, 1), some (.istore 4, 2), none, some (.aconst_null, 1), some (.astore 5, 2), none, some (.aload_n 3, 1), some (.iload_n 2, 1), some (.iconst 0, 1), some (.invokevirtual 201, 3), none, none, some (.istore 6, 2), none],
  [some (.iload 6, 2), none, some (.aload_n 3, 1), some (.getfield 216, 3), none, none, some (.invokevirtual 56, 3), none, none, some (.if_icmp .ge 70, 3), none, none, some (.aload_n 3, 1), some (.getfield 216, 3), none, none],
  [some (.iload 6, 2), none, some (.invokevirtual 191, 3), none, none, some (.checkcast 149, 3), none, none, some (.getfield 195, 3), none, none, some (.iload_n 2, 1), some (.if_icmp .ne 51, 3), none, none, some (.aload_n 3, 1)],
  [some (.getfield 216, 3), none, none, some (.iload 6, 2), none, some (.invokevirtual 191, 3), none, none, some (.checkcast 149, 3), none, none, some (.astore 7, 2), none, some (.aload 5, 2), none, some (.ifnull 22, 3)],
  [none, none, some (.iload 4, 2), none, some (.aload_n 3, 1), some (.aload 5, 2), none, some (.getfield 219, 3), none, none, some (.aload 7, 2), none, some (.getfield 219, 3), none, none, some (.invokevirtual 222, 3)],
  [none, none, some (.iadd, 1), some (.istore 4, 2), none, some (.aload 7, 2), none, some (.astore 5, 2), none, some (.iinc 6 1, 3), none, none, some (.goto (-76), 3), none, none, some (.iload 4, 2)],
  [none, some (.ireturn, 1)]]
def cd_38 : List (List CI) := [[some (.aload_n 0, 1), some (.iload_n 1, 1), some (.invokevirtual 125, 3), none, none, some (.astore 5, 2), none, some (.aload_n 0, 1), some (.iload_n 2, 1), some (.iload_n 3, 1), some (.iload 4, 2), none, some (.invokevirtual 226, 3), none, none, some (.aload 5, 2)],
  [none, some (.iload_n 2, 1), some (.iload_n 3, 1), some (.iload 4, 2), none, some (.invokestatic 230, 3), none, none, some (.istore 6, 2), none, some (.iload 6, 2), none, some (.iconst (-1), 1), some (.if_icmp .ne 13, 3), none, none],
  [none, none, none, some (.dup, 1), some (.ldc 234, 2), none, some (.invokespecial 148, 3), none, none, some (.athrow, 1), some (.iload 6, 2), none, some (.ireturn, 1)]]
def cd_39 : List (List CI) := [[some (.aload_n 0, 1), some (.iload_n 1, 1), some (.invokevirtual 125, 3), none, none, some (.astore 5, 2), none, some (.aload_n 0, 1), some (.iload_n 2, 1), some (.iload_n 3, 1), some (.iload 4, 2), none, some (.invokevirtual 226, 3), none, none, some (.aload 5, 2)],
  [none, some (.iload_n 2, 1), some (.iconst 0, 1), some (.invokevirtual 201, 3), none, none, some (.istore 6, 2), none, some (.iconst 0, 1), some (.istore 7, 2), none, some (.iload 7, 2), none, some (.sipush 480, 3), none, none],
  [some (.iload_n 3, 1), some (.isub, 1), some (.if_icmp .gt 28, 3), none, none, some (.aload 5, 2), none, some (.iload 6, 2), none, some (.iload_n 2, 1), some (.iload 7, 2), none, some (.iload_n 3, 1), some (.iload 4, 2), none, some (.invokestatic 236, 3)],
  [none, none, some (.ifCond .eq 6, 3), none, none, some (.iload 7, 2), none, some (.ireturn, 1), some (.iinc 7 1, 3), none, none, some (.goto (-32), 3), none, none, none, none],
  [none, some (.dup, 1), some (.ldc 234, 2), none, some (.invokespecial 148, 3), none, none, some (.athrow, 1)]]
def cd_40 : List (List CI) := [[some (.aload_n 0, 1), some (.iload_n 1, 1), some (.invokevirtual 125, 3), none, none, some (.astore_n 3, 1), some (.iload_n 2, 1), some (.aload_n 0, 1), some (.getfield 35, 3), none, none, some (.aload_n 0, 1), some (.getfield 35, 3), none, none, some (.bipush 6, 2)],
  [none, some (.iadd, 1), some (.invokestatic 52, 3), none, none, some (.iconst 0, 1), some (.istore 4, 2), none, some (.iconst 0, 1), some (.istore 5, 2), none, some (.iload 5, 2), none, some (.aload_n 0, 1), some (.getfield 22, 3), none],
  [none, some (.invokevirtual 56, 3), none, none, some (.if_icmp .ge 54, 3), none, none, some (.aload_n 0, 1), some (.getfield 22, 3), none, none, some (.iload 5, 2), none, some (.invokevirtual 191, 3), none, none],
  [some (.checkcast 149, 3), none, none, some (.astore 6, 2), none, some (.aload 6, 2), none, some (.getfield 185, 3), none, none, some (.bipush 119, 2), none, some (.if_icmp .ne 24, 3), none, none, some (.aload 6, 2)],
  [none, some (.getfield 240, 3), none, none, some (.aload_n 3, 1), some (.if_acmp .ne 15, 3), none, none, some (.aload 6, 2), none, some (.getfield 195, 3), none, none, some (.iload_n 2, 1), some (.if_icmp .ne 6, 3), none],
  [none, some (.iinc 4 1, 3), none, none, some (.iinc 5 1, 3), none, none, some (.goto (-60), 3), none, none, some (.iload 4, 2), none, some (.ireturn, 1)]]
def cd_41 : List (List CI) := [[some (.iload_n 1, 1), some (.iconst 0, 1), some (.iconst 2, 1), some (.invokestatic 52, 3), none, none, some (.iload_n 2, 1), some (.iconst 1, 1), some (.sipush 5000, 3), none, none, some (.invokestatic 52, 3), none, none, some (.aload_n 0, 1), some (.getfield 25, 3)],
  [none, none, some (.invokevirtual 56, 3), none, none, some (.bipush 30, 2), none, some (.invokestatic 60, 3), none, none, some (.aload_n 0, 1), some (.getfield 25, 3), none, none, some (.new 244, 3), none],
  [none, some (.dup, 1), some (.iload_n 1, 1), some (.iload_n 2, 1), some (.invokespecial 246, 3), none, none, some (.invokevirtual 44, 3), none, none, some (.pop, 1), some (.aload_n 0, 1), some (.getfield 25, 3), none, none, some (.invokevirtual 56, 3)],
  [none, none, some (.iconst 1, 1), some (.isub, 1), some (.ireturn, 1)]]
def cd_42 : List (List CI) := [[some (.aload_n 0, 1), some (.iload_n 1, 1), some (.invokevirtual 160, 3), none, none, some (.astore 4, 2), none, some (.iload_n 2, 1), some (.iconst 0, 1), some (.iconst 2, 1), some (.invokestatic 52, 3), none, none, some (.iload_n 3, 1), some (.iconst 1, 1), some (.sipush 5000, 3)],
  [none, none, some (.invokestatic 52, 3), none, none, some (.aload 4, 2), none, some (.getfield 185, 3), none, none, some (.bipush 98, 2), none, some (.if_icmp .eq 13, 3), none, none, none],
  [none, none, some (.dup, 1), some (.ldc 248, 2), none, some (.invokespecial 87, 3), none, none, some (.athrow, 1), some (.aload 4, 2), none, some (.getfield 250, 3), none, none, some (.invokevirtual 56, 3), none],
  [none, some (.iconst 5, 1), some (.invokestatic 60, 3), none, none, some (.aload_n 0, 1), some (.iload_n 2, 1), some (.iload_n 3, 1), some (.iconst 3, 1), some (.iadd, 1), some (.invokevirtual 253, 3), none, none, some (.istore 5, 2), none, some (.iload 5, 2)],
  [none, some (.iconst (-1), 1), some (.if_icmp .ne 14, 3), none, none, none, none, none, some (.dup, 1), some (.ldc_w 256, 3), none, none, some (.invokespecial 114, 3), none, none, some (.athrow, 1)],
  [some (.aload_n 0, 1), some (.iload 5, 2), none, some (.invokevirtual 258, 3), none, none, some (.astore 6, 2), none, some (.aload 4, 2), none, some (.getfield 250, 3), none, none, some (.new 262, 3), none, none],
  [some (.dup, 1), some (.aload 6, 2), none, some (.iload_n 3, 1), some (.invokespecial 264, 3), none, none, some (.invokevirtual 44, 3), none, none, some (.pop, 1), some (.aload 6, 2), none, some (.dup, 1), some (.getfield 267, 3), none],
  [none, some (.iload_n 3, 1), some (.iconst 3, 1), some (.iadd, 1), some (.isub, 1), some (.putfield 267, 3), none, none, some (.iload 5, 2), none, some (.ireturn, 1)]]
def cd_43 : List (List CI) := [[some (.aload_n 0, 1), some (.iload_n 1, 1), some (.invokevirtual 258, 3), none, none, some (.getfield 267, 3), none, none, some (.ireturn, 1)]]
def cd_44 : List (List CI) := [[some (.aload_n 0, 1), some (.aload_n 0, 1), some (.iload_n 1, 1), some (.invokevirtual 258, 3), none, none, some (.invokevirtual 270, 3), none, none, some (.ireturn, 1)]]
def cd_45 : List (List CI) := [[some (.iload_n 1, 1), some (.iconst 0, 1), some (.iconst 2, 1), some (.invokestatic 52, 3), none, none, some (.iload_n 2, 1), some (.iconst 0, 1), some (.bipush 99, 2), none, some (.invokestatic 52, 3), none, none, some (.aload_n 0, 1), some (.iload_n 1, 1), some (.invokevirtual 274, 3)],
  [none, none, some (.istore_n 3, 1), some (.iload_n 1, 1), some (.ifCond .lt 19, 3), none, none, some (.iload_n 1, 1), some (.aload_n 0, 1), some (.getfield 31, 3), none, none, some (.arraylength, 1), some (.if_icmp .ge 10, 3), none, none],
  [some (.aload_n 0, 1), some (.getfield 31, 3), none, none, some (.iload_n 1, 1), some (.iload_n 2, 1), some (.iastore, 1), some (.iload_n 3, 1), some (.ireturn, 1)]]
def cd_46 : List (List CI) := [[some (.aload_n 0, 1), some (.iload_n 1, 1), some (.invokevirtual 48, 3), none, none, some (.astore_n 3, 1), some (.iload_n 2, 1), some (.iconst 0, 1), some (.bipush 99, 2), none, some (.invokestatic 52, 3), none, none, some (.aload_n 3, 1), some (.getfield 278, 3), none],
  [none, some (.getfield 282, 3), none, none, some (.istore 4, 2), none, some (.aload_n 3, 1), some (.new 283, 3), none, none, some (.dup, 1), some (.iconst 0, 1), some (.iload_n 2, 1), some (.aconst_null, 1), some (.invokespecial 287, 3), none],
  [none, some (.putfield 278, 3), none, none, some (.iload 4, 2), none, some (.ireturn, 1)]]
def cd_47 : List (List CI) := [[some (.aload_n 0, 1), some (.iload_n 1, 1), some (.invokevirtual 48, 3), none, none, some (.astore_n 3, 1), some (.iload_n 2, 1), some (.iconst 0, 1), some (.sipush 999, 3), none, none, some (.invokestatic 52, 3), none, none, some (.aload_n 3, 1), some (.iconst 1, 1)],
  [some (.iload_n 2, 1), some (.invokestatic 290, 3), none, none, some (.ireturn, 1)]]
def cd_48 : List (List CI) := [[some (.aload_n 0, 1), some (.iload_n 1, 1), some (.invokevirtual 48, 3), none, none, some (.astore_n 3, 1), some (.iload_n 2, 1), some (.iconst 0, 1), some (.sipush 9999, 3), none, none, some (.invokestatic 52, 3), none, none, some (.aload_n 3, 1), some (.iconst 2, 1)],
  [some (.iload_n 2, 1), some (.invokestatic 290, 3), none, none, some (.ireturn, 1)]]
def cd_49 : List (List CI) := [[some (.aload_n 0, 1), some (.iload_n 1, 1), some (.invokevirtual 48, 3), none, none, some (.astore_n 3, 1), some (.iload_n 2, 1), some (.iconst 0, 1), some (.sipush 240, 3), none, none, some (.invokestatic 52, 3), none, none, some (.aload_n 3, 1), some (.iconst 3, 1)],
  [some (.iload_n 2, 1), some (.invokestatic 290, 3), none, none, some (.ireturn, 1)]]
def cd_50 : List (List CI) := [[some (.aload_n 0, 1), some (.iload_n 1, 1), some (.invokevirtual 48, 3), none, none, some (.astore_n 3, 1), some (.iload_n 2, 1), some (.iconst 0, 1), some (.bipush 100, 2), none, some (.invokestatic 52, 3), none, none, some (.aload_n 3, 1), some (.iconst 4, 1), some (.iload_n 2, 1)],
  [some (.invokestatic 290, 3), none, none, some (.ireturn, 1)]]
def cd_51 : List (List CI) := [[some (.aload_n 0, 1), some (.iload_n 1, 1), some (.invokevirtual 48, 3), none, none, some (.astore_n 3, 1), some (.iload_n 2, 1), some (.iconst 0, 1), some (.sipush 480, 3), none, none, some (.invokestatic 52, 3), none, none, some (.aload_n 3, 1), some (.getfield 278, 3)],
  [none, none, some (.iload_n 2, 1), some (.invokestatic 294, 3), none, none, some (.ireturn, 1)]]
def cd_52 : List (List CI) := [[some (.aload_n 0, 1), some (.iload_n 1, 1), some (.invokevirtual 125, 3), none, none, some (.astore_n 3, 1), some (.iload_n 2, 1), some (.iconst 1, 1), some (.ldc_w 298, 3), none, none, some (.invokestatic 52, 3), none, none, some (.aload_n 0, 1), some (.getfield 28, 3)],
  [none, none, some (.invokevirtual 56, 3), none, none, some (.bipush 20, 2), none, some (.invokestatic 60, 3), none, none, some (.aload_n 0, 1), some (.getfield 19, 3), none, none, some (.invokevirtual 56, 3), none],
  [none, some (.newarray .int, 2), none, some (.astore 4, 2), none, some (.iconst 0, 1), some (.istore 5, 2), none, some (.iconst 0, 1), some (.istore 6, 2), none, some (.iload 6, 2), none, some (.aload 4, 2), none, some (.arraylength, 1)],
  [some (.if_icmp .ge 35, 3), none, none, some (.aload 4, 2), none, some (.iload 6, 2), none, some (.aload_n 0, 1), some (.aload_n 0, 1), some (.iload 6, 2), none, some (.invokevirtual 102, 3), none, none, some (.aload_n 3, 1), some (.invokevirtual 299, 3)],
  [none, none, some (.iastore, 1), some (.iload 5, 2), none, some (.aload 4, 2), none, some (.iload 6, 2), none, some (.iaload, 1), some (.iadd, 1), some (.istore 5, 2), none, some (.iinc 6 1, 3), none, none],
  [some (.goto (-37), 3), none, none, some (.new 303, 3), none, none, some (.dup, 1), some (.iload_n 2, 1), some (.aload 4, 2), none, some (.iload 5, 2), none, some (.invokestatic 305, 3), none, none, some (.invokespecial 309, 3)],
  [none, none, some (.astore 6, 2), none, some (.aload_n 0, 1), some (.getfield 28, 3), none, none, some (.aload 6, 2), none, some (.invokevirtual 44, 3), none, none, some (.pop, 1), some (.iconst 0, 1), some (.istore 7, 2)],
  [none, some (.iload 7, 2), none, some (.aload 4, 2), none, some (.arraylength, 1), some (.if_icmp .ge 30, 3), none, none, some (.aload_n 0, 1), some (.iload 7, 2), none, some (.invokevirtual 102, 3), none, none, some (.dup, 1)],
  [some (.getfield 312, 3), none, none, some (.aload 6, 2), none, some (.iload 7, 2), none, some (.invokevirtual 315, 3), none, none, some (.iadd, 1), some (.putfield 312, 3), none, none, some (.iinc 7 1, 3), none],
  [none, some (.goto (-32), 3), none, none, some (.iload 5, 2), none, some (.ireturn, 1)]]
def cd_53 : List (List CI) := [[some (.iload_n 1, 1), some (.ifCond .lt 14, 3), none, none, some (.iload_n 1, 1), some (.aload_n 0, 1), some (.getfield 28, 3), none, none, some (.invokevirtual 56, 3), none, none, some (.if_icmp .lt 14, 3), none, none, none],
  [none, none, some (.dup, 1), some (.ldc_w 318, 3), none, none, some (.invokespecial 148, 3), none, none, some (.athrow, 1), some (.aload_n 0, 1), some (.iload_n 2, 1), some (.invokevirtual 320, 3), none, none, some (.aload_n 0, 1)],
  [some (.getfield 28, 3), none, none, some (.iload_n 1, 1), some (.invokevirtual 191, 3), none, none, some (.checkcast 303, 3), none, none, some (.iload_n 2, 1), some (.invokevirtual 315, 3), none, none, some (.ireturn, 1)]]
def cd_54 : List (List CI) := [[some (.aload_n 0, 1), some (.iload_n 1, 1), some (.invokevirtual 102, 3), none, none, some (.astore_n 3, 1), some (.iload_n 2, 1), some (.iconst 1, 1), some (.ldc_w 323, 3), none, none, some (.invokestatic 52, 3), none, none, some (.aload_n 3, 1), some (.getfield 324, 3)],
  [none, none, some (.ldc_w 327, 3), none, none, some (.iload_n 2, 1), some (.isub, 1), some (.if_icmp .le 14, 3), none, none, none, none, none, some (.dup, 1), some (.ldc_w 328, 3), none],
  [none, some (.invokespecial 87, 3), none, none, some (.athrow, 1), some (.aload_n 3, 1), some (.dup, 1), some (.getfield 324, 3), none, none, some (.iload_n 2, 1), some (.iadd, 1), some (.putfield 324, 3), none, none, some (.aload_n 3, 1)],
  [some (.getfield 312, 3), none, none, some (.aload_n 3, 1), some (.getfield 324, 3), none, none, some (.isub, 1), some (.ireturn, 1)]]
def cd_55 : List (List CI) := [[some (.aload_n 0, 1), some (.iload_n 1, 1), some (.invokevirtual 102, 3), none, none, some (.astore_n 2, 1), some (.aload_n 2, 1), some (.getfield 312, 3), none, none, some (.aload_n 2, 1), some (.getfield 324, 3), none, none, some (.isub, 1), some (.ireturn, 1)]]
def cd_56 : List (List CI) := [[some (.aload_n 0, 1), some (.iload_n 1, 1), some (.invokevirtual 320, 3), none, none, some (.aload_n 0, 1), some (.iload_n 1, 1), some (.invokevirtual 330, 3), none, none, some (.ireturn, 1)]]
def cd_57 : List (List CI) := [[some (.aload_n 0, 1), some (.iload_n 1, 1), some (.invokevirtual 160, 3), none, none, some (.getfield 333, 3), none, none, some (.ireturn, 1)]]
def cd_58 : List (List CI) := [[some (.lconst 0, 1), some (.lstore_n 1, 1), some (.iconst 0, 1), some (.istore_n 3, 1), some (.iload_n 3, 1), some (.aload_n 0, 1), some (.getfield 19, 3), none, none, some (.invokevirtual 56, 3), none, none, some (.if_icmp .ge 27, 3), none, none, some (.lload_n 1, 1)],
  [some (.aload_n 0, 1), some (.getfield 19, 3), none, none, some (.iload_n 3, 1), some (.invokevirtual 191, 3), none, none, some (.checkcast 69, 3), none, none, some (.getfield 324, 3), none, none, some (.i2l, 1), some (.ladd, 1)],
  [some (.lstore_n 1, 1), some (.iinc 3 1, 3), none, none, some (.goto (-32), 3), none, none, some (.lload_n 1, 1), some (.lreturn, 1)]]
def cd_59 : List (List CI) := [[some (.aload_n 0, 1), some (.iload_n 1, 1), some (.invokevirtual 125, 3), none, none, some (.astore_n 3, 1), some (.iload_n 2, 1), some (.iconst 0, 1), some (.aload_n 0, 1), some (.getfield 35, 3), none, none, some (.bipush 6, 2), none, some (.iadd, 1), some (.invokestatic 52, 3)],
  [none, none, some (.aload_n 3, 1), some (.iload_n 2, 1), some (.invokestatic 209, 3), none, none, some (.i2f, 1), some (.ldc_w 336, 3), none, none, some (.fdiv, 1), some (.freturn, 1)]]
def cd_60 : List (List CI) := [[some (.iconst 0, 1), some (.istore_n 1, 1), some (.iconst 0, 1), some (.istore_n 2, 1), some (.iconst 0, 1), some (.istore_n 3, 1), some (.iload_n 3, 1), some (.aload_n 0, 1), some (.getfield 22, 3), none, none, some (.invokevirtual 56, 3), none, none, some (.if_icmp .ge 43, 3), none],
  [none, some (.aload_n 0, 1), some (.getfield 22, 3), none, none, some (.iload_n 3, 1), some (.invokevirtual 191, 3), none, none, some (.checkcast 149, 3), none, none, some (.astore 4, 2), none, some (.aload 4, 2), none],
  [some (.getfield 185, 3), none, none, some (.bipush 100, 2), none, some (.if_icmp .ne 14, 3), none, none, some (.iload_n 1, 1), some (.aload 4, 2), none, some (.getfield 337, 3), none, none, some (.iadd, 1), some (.istore_n 1, 1)],
  [some (.iinc 2 1, 3), none, none, some (.iinc 3 1, 3), none, none, some (.goto (-48), 3), none, none, some (.iload_n 2, 1), some (.ifCond .ne 14, 3), none, none, none, none, none],
  [some (.dup, 1), some (.ldc_w 340, 3), none, none, some (.invokespecial 143, 3), none, none, some (.athrow, 1), some (.iload_n 1, 1), some (.i2d, 1), some (.iload_n 2, 1), some (.i2d, 1), some (.ddiv, 1), some (.dreturn, 1)]]
def cd_61 : List (List CI) := [[some (.aload_n 0, 1), some (.invokevirtual 342, 3), none, none, some (.ifCond .eq 28, 3), none, none, some (.aload_n 0, 1), some (.invokevirtual 345, 3), none, none, some (.ifCond .eq 21, 3), none, none, some (.aload_n 0, 1), some (.invokevirtual 348, 3)],
  [none, none, some (.ifCond .eq 14, 3), none, none, some (.aload_n 0, 1), some (.invokevirtual 351, 3), none, none, some (.ifCond .eq 7, 3), none, none, some (.iconst 1, 1), some (.goto 4, 3), none, none],
  [some (.iconst 0, 1), some (.ireturn, 1)]]
def cd_62 : List (List CI) := [[some (.iload_n 0, 1), some (.iload_n 1, 1), some (.if_icmp .lt 8, 3), none, none, some (.iload_n 0, 1), some (.iload_n 2, 1), some (.if_icmp .le 14, 3), none, none, none, none, none, some (.dup, 1), some (.ldc_w 354, 3), none],
  [none, some (.invokespecial 76, 3), none, none, some (.athrow, 1), some (.return_, 1)]]
def cd_63 : List (List CI) := [[some (.iload_n 0, 1), some (.iload_n 1, 1), some (.if_icmp .lt 14, 3), none, none, none, none, none, some (.dup, 1), some (.ldc_w 356, 3), none, none, some (.invokespecial 87, 3), none, none, some (.athrow, 1)],
  [some (.return_, 1)]]
def cd_64 : List (List CI) := [[some (.iload_n 1, 1), some (.aload_n 0, 1), some (.getfield 35, 3), none, none, some (.aload_n 0, 1), some (.getfield 35, 3), none, none, some (.bipush 6, 2), none, some (.iadd, 1), some (.invokestatic 52, 3), none, none, some (.iload_n 2, 1)],
  [some (.iconst 1, 1), some (.sipush 240, 3), none, none, some (.invokestatic 52, 3), none, none, some (.iload_n 3, 1), some (.bipush 97, 2), none, some (.bipush 99, 2), none, some (.invokestatic 52, 3), none, none, some (.return_, 1)]]
def cd_65 : List (List CI) := [[some (.aload_n 0, 1), some (.iload_n 1, 1), some (.iload_n 3, 1), some (.iload 4, 2), none, some (.invokevirtual 226, 3), none, none, some (.iload_n 2, 1), some (.iconst 0, 1), some (.sipush 480, 3), none, none, some (.iload_n 3, 1), some (.isub, 1), some (.invokestatic 52, 3)],
  [none, none, some (.return_, 1)]]
def cd_66 : List (List CI) := [[some (.iload_n 1, 1), some (.ifCond .lt 14, 3), none, none, some (.iload_n 1, 1), some (.aload_n 0, 1), some (.getfield 19, 3), none, none, some (.invokevirtual 56, 3), none, none, some (.if_icmp .lt 14, 3), none, none, none],
  [none, none, some (.dup, 1), some (.ldc_w 360, 3), none, none, some (.invokespecial 362, 3), none, none, some (.athrow, 1), some (.return_, 1)]]
def cd_67 : List (List CI) := [[some (.aload_n 0, 1), some (.iload_n 1, 1), some (.invokevirtual 320, 3), none, none, some (.aload_n 0, 1), some (.getfield 19, 3), none, none, some (.iload_n 1, 1), some (.invokevirtual 191, 3), none, none, some (.checkcast 69, 3), none, none],
  [some (.areturn, 1)]]
def cd_68 : List (List CI) := [[some (.iload_n 1, 1), some (.ifCond .lt 14, 3), none, none, some (.iload_n 1, 1), some (.aload_n 0, 1), some (.getfield 16, 3), none, none, some (.invokevirtual 56, 3), none, none, some (.if_icmp .lt 14, 3), none, none, none],
  [none, none, some (.dup, 1), some (.ldc_w 363, 3), none, none, some (.invokespecial 362, 3), none, none, some (.athrow, 1), some (.aload_n 0, 1), some (.getfield 16, 3), none, none, some (.iload_n 1, 1), some (.invokevirtual 191, 3)],
  [none, none, some (.checkcast 64, 3), none, none, some (.areturn, 1)]]
def cd_69 : List (List CI) := [[some (.iload_n 1, 1), some (.ifCond .lt 14, 3), none, none, some (.iload_n 1, 1), some (.aload_n 0, 1), some (.getfield 10, 3), none, none, some (.invokevirtual 56, 3), none, none, some (.if_icmp .lt 14, 3), none, none, none],
  [none, none, some (.dup, 1), some (.ldc_w 365, 3), none, none, some (.invokespecial 76, 3), none, none, some (.athrow, 1), some (.aload_n 0, 1), some (.getfield 10, 3), none, none, some (.iload_n 1, 1), some (.invokevirtual 191, 3)],
  [none, none, some (.checkcast 39, 3), none, none, some (.areturn, 1)]]
def cd_70 : List (List CI) := [[some (.iload_n 1, 1), some (.ifCond .lt 14, 3), none, none, some (.iload_n 1, 1), some (.aload_n 0, 1), some (.getfield 22, 3), none, none, some (.invokevirtual 56, 3), none, none, some (.if_icmp .lt 14, 3), none, none, none],
  [none, none, some (.dup, 1), some (.ldc_w 367, 3), none, none, some (.invokespecial 148, 3), none, none, some (.athrow, 1), some (.aload_n 0, 1), some (.getfield 22, 3), none, none, some (.iload_n 1, 1), some (.invokevirtual 191, 3)],
  [none, none, some (.checkcast 149, 3), none, none, some (.areturn, 1)]]
def cd_71 : List (List CI) := [[some (.iload_n 1, 1), some (.ifCond .lt 14, 3), none, none, some (.iload_n 1, 1), some (.aload_n 0, 1), some (.getfield 25, 3), none, none, some (.invokevirtual 56, 3), none, none, some (.if_icmp .lt 14, 3), none, none, none],
  [none, none, some (.dup, 1), some (.ldc_w 369, 3), none, none, some (.invokespecial 148, 3), none, none, some (.athrow, 1), some (.aload_n 0, 1), some (.getfield 25, 3), none, none, some (.iload_n 1, 1), some (.invokevirtual 191, 3)],
  [none, none, some (.checkcast 244, 3), none, none, some (.areturn, 1)]]
def cd_72 : List (List CI) := [[some (.iload_n 3, 1), some (.iconst 4, 1), some (.if_icmp .lt 5, 3), none, none, some (.iconst 0, 1), some (.ireturn, 1), some (.aload_n 1, 1), some (.aload_n 2, 1), some (.invokevirtual 88, 3), none, none, some (.ifCond .eq 5, 3), none, none, some (.iconst 1, 1)],
  [some (.ireturn, 1), some (.iconst 0, 1), some (.istore 4, 2), none, some (.iload 4, 2), none, some (.aload_n 0, 1), some (.invokevirtual 56, 3), none, none, some (.if_icmp .ge 44, 3), none, none, some (.aload_n 0, 1), some (.iload 4, 2), none],
  [some (.invokevirtual 191, 3), none, none, some (.checkcast 39, 3), none, none, some (.astore 5, 2), none, some (.aload_n 1, 1), some (.aload 5, 2), none, some (.invokevirtual 88, 3), none, none, some (.ifCond .eq 18, 3), none],
  [none, some (.aload_n 0, 1), some (.aload 5, 2), none, some (.aload_n 2, 1), some (.iload_n 3, 1), some (.iconst 1, 1), some (.iadd, 1), some (.invokestatic 79, 3), none, none, some (.ifCond .eq 5, 3), none, none, some (.iconst 1, 1), some (.ireturn, 1)],
  [some (.iinc 4 1, 3), none, none, some (.goto (-47), 3), none, none, some (.iconst 0, 1), some (.ireturn, 1)]]
def cd_73 : List (List CI) := [[some (.iload 4, 2), none, some (.iconst 4, 1), some (.if_icmp .lt 5, 3), none, none, some (.iconst 0, 1), some (.ireturn, 1), some (.aload_n 1, 1), some (.aload_n 2, 1), some (.invokevirtual 115, 3), none, none, some (.istore 5, 2), none, some (.iload 5, 2)],
  [none, some (.iconst (-1), 1), some (.if_icmp .eq 22, 3), none, none, some (.iload 5, 2), none, some (.iload_n 3, 1), some (.if_icmp .gt 16, 3), none, none, some (.iload_n 3, 1), some (.iload 5, 2), none, some (.isub, 1), some (.bipush 29, 2)],
  [none, some (.if_icmp .gt 7, 3), none, none, some (.iconst 1, 1), some (.goto 4, 3), none, none, some (.iconst 0, 1), some (.istore 6, 2), none, some (.iload 6, 2), none, some (.ifCond .eq 19, 3), none, none],
  [some (.aload_n 0, 1), some (.aload_n 1, 1), some (.aload_n 2, 1), some (.iload_n 3, 1), some (.iload 4, 2), none, some (.invokevirtual 106, 3), none, none, some (.ifCond .eq 7, 3), none, none, some (.iconst 1, 1), some (.goto 4, 3), none, none],
  [some (.iconst 0, 1), some (.ireturn, 1)]]
def cd_74 : List (List CI) := [[some (.iconst 0, 1), some (.istore 5, 2), none, some (.iload 5, 2), none, some (.aload_n 0, 1), some (.getfield 10, 3), none, none, some (.invokevirtual 56, 3), none, none, some (.if_icmp .ge 49, 3), none, none, some (.aload_n 0, 1)],
  [some (.getfield 10, 3), none, none, some (.iload 5, 2), none, some (.invokevirtual 191, 3), none, none, some (.checkcast 39, 3), none, none, some (.astore 6, 2), none, some (.aload_n 2, 1), some (.aload 6, 2), none],
  [some (.invokevirtual 88, 3), none, none, some (.ifCond .eq 20, 3), none, none, some (.aload_n 0, 1), some (.aload_n 1, 1), some (.aload 6, 2), none, some (.iload_n 3, 1), some (.iload 4, 2), none, some (.iconst 1, 1), some (.iadd, 1), some (.invokevirtual 122, 3)],
  [none, none, some (.ifCond .ne 5, 3), none, none, some (.iconst 0, 1), some (.ireturn, 1), some (.iinc 5 1, 3), none, none, some (.goto (-55), 3), none, none, some (.iconst 1, 1), some (.ireturn, 1)]]
def cd_75 : List (List CI) := [[some (.aload_n 0, 1), some (.aload_n 1, 1), some (.getfield 371, 3), none, none, some (.aload_n 1, 1), some (.getfield 240, 3), none, none, some (.getfield 375, 3), none, none, some (.aload_n 1, 1), some (.getfield 195, 3), none, none],
  [some (.iconst 0, 1), some (.invokevirtual 122, 3), none, none, some (.ireturn, 1)]]
def cd_76 : List (List CI) := [[some (.iconst 0, 1), some (.istore_n 1, 1), some (.iload_n 1, 1), some (.aload_n 0, 1), some (.getfield 22, 3), none, none, some (.invokevirtual 56, 3), none, none, some (.if_icmp .ge 40, 3), none, none, some (.aload_n 0, 1), some (.getfield 22, 3), none],
  [none, some (.iload_n 1, 1), some (.invokevirtual 191, 3), none, none, some (.checkcast 149, 3), none, none, some (.astore_n 2, 1), some (.aload_n 2, 1), some (.invokevirtual 164, 3), none, none, some (.ifCond .eq 15, 3), none, none],
  [some (.aload_n 0, 1), some (.aload_n 2, 1), some (.invokevirtual 379, 3), none, none, some (.ifCond .ne 7, 3), none, none, some (.aload_n 2, 1), some (.invokestatic 174, 3), none, none, some (.iinc 1 1, 3), none, none, some (.goto (-45), 3)],
  [none, none, some (.return_, 1)]]
def cd_77 : List (List CI) := [[some (.aload_n 0, 1), some (.aload_n 1, 1), some (.aload_n 2, 1), some (.getfield 375, 3), none, none, some (.iload_n 3, 1), some (.iconst 0, 1), some (.invokevirtual 122, 3), none, none, some (.ifCond .ne 6, 3), none, none, some (.bipush 105, 2), none],
  [some (.ireturn, 1), some (.aload_n 0, 1), some (.aload_n 1, 1), some (.iload_n 3, 1), some (.iload 4, 2), none, some (.iload 4, 2), none, some (.iload 5, 2), none, some (.iadd, 1), some (.invokevirtual 383, 3), none, none, some (.ifCond .eq 6, 3), none],
  [none, some (.bipush 109, 2), none, some (.ireturn, 1), some (.aload_n 2, 1), some (.iload_n 3, 1), some (.iconst 0, 1), some (.invokevirtual 201, 3), none, none, some (.istore 7, 2), none, some (.aload_n 2, 1), some (.iload 7, 2), none, some (.iload_n 3, 1)],
  [some (.iload 4, 2), none, some (.iload 5, 2), none, some (.iload 6, 2), none, some (.invokestatic 236, 3), none, none, some (.ifCond .eq 8, 3), none, none, some (.bipush 111, 2), none, some (.goto 5, 3), none],
  [none, some (.bipush 116, 2), none, some (.ireturn, 1)]]
def cd_78 : List (List CI) := [[some (.aload_n 0, 1), some (.aload_n 1, 1), some (.getfield 371, 3), none, none, some (.aload_n 1, 1), some (.getfield 240, 3), none, none, some (.aload_n 1, 1), some (.getfield 195, 3), none, none, some (.aload_n 1, 1), some (.getfield 387, 3), none],
  [none, some (.aload_n 1, 1), some (.getfield 337, 3), none, none, some (.aload_n 1, 1), some (.getfield 219, 3), none, none, some (.invokevirtual 133, 3), none, none, some (.bipush 111, 2), none, some (.if_icmp .ne 7, 3), none],
  [none, some (.iconst 1, 1), some (.goto 4, 3), none, none, some (.iconst 0, 1), some (.ireturn, 1)]]
def cd_79 : List (List CI) := [[some (.iconst 0, 1), some (.istore 5, 2), none, some (.iload 5, 2), none, some (.aload_n 0, 1), some (.getfield 22, 3), none, none, some (.invokevirtual 56, 3), none, none, some (.if_icmp .ge 56, 3), none, none, some (.aload_n 0, 1)],
  [some (.getfield 22, 3), none, none, some (.iload 5, 2), none, some (.invokevirtual 191, 3), none, none, some (.checkcast 149, 3), none, none, some (.astore 6, 2), none, some (.aload 6, 2), none, some (.getfield 185, 3)],
  [none, none, some (.bipush 98, 2), none, some (.if_icmp .ne 26, 3), none, none, some (.aload 6, 2), none, some (.getfield 371, 3), none, none, some (.aload_n 1, 1), some (.if_acmp .ne 17, 3), none, none],
  [some (.aload 6, 2), none, some (.iload_n 2, 1), some (.iload_n 3, 1), some (.iload 4, 2), none, some (.invokevirtual 390, 3), none, none, some (.ifCond .eq 5, 3), none, none, some (.iconst 1, 1), some (.ireturn, 1), some (.iinc 5 1, 3), none],
  [none, some (.goto (-62), 3), none, none, some (.iconst 0, 1), some (.ireturn, 1)]]
def cd_80 : List (List CI) := [[some (.iload_n 3, 1), some (.iload 4, 2), none, some (.iadd, 1), some (.istore 6, 2), none, some (.aconst_null, 1), some (.astore 7, 2), none, some (.aconst_null, 1), some (.astore 8, 2), none, some (.iload_n 1, 1), some (.istore 9, 2), none, some (.iload 9, 2)],
  [none, some (.aload_n 0, 1), some (.getfield 216, 3), none, none, some (.invokevirtual 56, 3), none, none, some (.if_icmp .ge 77, 3), none, none, some (.aload_n 0, 1), some (.getfield 216, 3), none, none, some (.iload 9, 2)],
  [none, some (.invokevirtual 191, 3), none, none, some (.checkcast 149, 3), none, none, some (.getfield 195, 3), none, none, some (.iload_n 2, 1), some (.if_icmp .ne 58, 3), none, none, some (.aload_n 0, 1), some (.getfield 216, 3)],
  [none, none, some (.iload 9, 2), none, some (.invokevirtual 191, 3), none, none, some (.checkcast 149, 3), none, none, some (.astore 10, 2), none, some (.aload 10, 2), none, some (.iload_n 2, 1), some (.iload_n 3, 1)],
  [some (.iload 6, 2), none, some (.invokevirtual 390, 3), none, none, some (.ifCond .eq 5, 3), none, none, some (.iconst 0, 1), some (.ireturn, 1), some (.aload 10, 2), none, some (.getfield 387, 3), none, none, some (.iload 6, 2)],
  [none, some (.if_icmp .lt 10, 3), none, none, some (.aload 10, 2), none, some (.astore 8, 2), none, some (.goto 13, 3), none, none, some (.aload 10, 2), none, some (.astore 7, 2), none, some (.iinc 9 1, 3)],
  [none, none, some (.goto (-83), 3), none, none, some (.aload 7, 2), none, some (.ifnull 24, 3), none, none, some (.iload_n 3, 1), some (.aload 7, 2), none, some (.getfield 394, 3), none, none],
  [some (.isub, 1), some (.aload_n 0, 1), some (.aload 7, 2), none, some (.getfield 219, 3), none, none, some (.iload 5, 2), none, some (.invokevirtual 222, 3), none, none, some (.if_icmp .lt 34, 3), none, none, some (.aload 8, 2)],
  [none, some (.ifnull 25, 3), none, none, some (.aload 8, 2), none, some (.getfield 387, 3), none, none, some (.iload 6, 2), none, some (.isub, 1), some (.aload_n 0, 1), some (.iload 5, 2), none, some (.aload 8, 2)],
  [none, some (.getfield 219, 3), none, none, some (.invokevirtual 222, 3), none, none, some (.if_icmp .lt 7, 3), none, none, some (.iconst 1, 1), some (.goto 4, 3), none, none, some (.iconst 0, 1), some (.ireturn, 1)]]
def cd_81 : List (List CI) := [[some (.aload_n 0, 1), some (.bipush 98, 2), none, some (.putfield 185, 3), none, none, some (.aload_n 0, 1), some (.getfield 240, 3), none, none, some (.aload_n 0, 1), some (.invokevirtual 397, 3), none, none, some (.return_, 1)]]
def cd_82 : List (List CI) := [[some (.aload_n 0, 1), some (.invokevirtual 400, 3), none, none, some (.astore_n 1, 1), some (.iconst 0, 1), some (.istore_n 2, 1), some (.iload_n 2, 1), some (.sipush 150, 3), none, none, some (.if_icmp .ge 22, 3), none, none, some (.aload_n 1, 1), some (.ifnull 18, 3)],
  [none, none, some (.aload_n 1, 1), some (.invokestatic 154, 3), none, none, some (.aload_n 0, 1), some (.invokevirtual 400, 3), none, none, some (.astore_n 1, 1), some (.iinc 2 1, 3), none, none, some (.goto (-23), 3), none],
  [none, some (.return_, 1)]]
def cd_83 : List (List CI) := [[some (.iconst 0, 1), some (.istore_n 1, 1), some (.iload_n 1, 1), some (.aload_n 0, 1), some (.getfield 22, 3), none, none, some (.invokevirtual 56, 3), none, none, some (.if_icmp .ge 40, 3), none, none, some (.aload_n 0, 1), some (.getfield 22, 3), none],
  [none, some (.iload_n 1, 1), some (.invokevirtual 191, 3), none, none, some (.checkcast 149, 3), none, none, some (.astore_n 2, 1), some (.aload_n 2, 1), some (.getfield 185, 3), none, none, some (.bipush 119, 2), none, some (.if_icmp .ne 13, 3)],
  [none, none, some (.aload_n 0, 1), some (.aload_n 2, 1), some (.invokevirtual 404, 3), none, none, some (.ifCond .eq 5, 3), none, none, some (.aload_n 2, 1), some (.areturn, 1), some (.iinc 1 1, 3), none, none, some (.goto (-45), 3)],
  [none, none, some (.aconst_null, 1), some (.areturn, 1)]]
def cd_84 : List (List CI) := [[some (.aload_n 1, 1), some (.getfield 185, 3), none, none, some (.bipush 119, 2), none, some (.if_icmp .ne 6, 3), none, none, some (.bipush 119, 2), none, some (.ireturn, 1), some (.aload_n 1, 1), some (.getfield 195, 3), none, none],
  [some (.aload_n 0, 1), some (.getfield 35, 3), none, none, some (.if_icmp .ne 8, 3), none, none, some (.bipush 104, 2), none, some (.goto 5, 3), none, none, some (.bipush 102, 2), none, some (.ireturn, 1)]]
def cd_85 : List (List CI) := [[some (.aload_n 0, 1), some (.getfield 185, 3), none, none, some (.bipush 98, 2), none, some (.if_icmp .ne 11, 3), none, none, some (.aload_n 0, 1), some (.getfield 240, 3), none, none, some (.aload_n 0, 1), some (.invokevirtual 407, 3), none],
  [none, some (.iconst 0, 1), some (.istore_n 1, 1), some (.iload_n 1, 1), some (.aload_n 0, 1), some (.getfield 250, 3), none, none, some (.invokevirtual 56, 3), none, none, some (.if_icmp .ge 39, 3), none, none, some (.aload_n 0, 1), some (.getfield 250, 3)],
  [none, none, some (.iload_n 1, 1), some (.invokevirtual 191, 3), none, none, some (.checkcast 262, 3), none, none, some (.astore_n 2, 1), some (.aload_n 2, 1), some (.getfield 410, 3), none, none, some (.dup, 1), some (.getfield 267, 3)],
  [none, none, some (.aload_n 2, 1), some (.getfield 414, 3), none, none, some (.iconst 3, 1), some (.iadd, 1), some (.iadd, 1), some (.putfield 267, 3), none, none, some (.iinc 1 1, 3), none, none, some (.goto (-44), 3)],
  [none, none, some (.aload_n 0, 1), some (.getfield 250, 3), none, none, some (.invokevirtual 417, 3), none, none, some (.aload_n 0, 1), some (.bipush 99, 2), none, some (.putfield 185, 3), none, none, some (.return_, 1)]]
def cd_86 : List (List CI) := [[some (.aconst_null, 1), some (.astore 4, 2), none, some (.iload_n 1, 1), some (.istore 5, 2), none, some (.iload 5, 2), none, some (.aload_n 0, 1), some (.getfield 216, 3), none, none, some (.invokevirtual 56, 3), none, none, some (.if_icmp .ge 116, 3)],
  [none, none, some (.aload_n 0, 1), some (.getfield 216, 3), none, none, some (.iload 5, 2), none, some (.invokevirtual 191, 3), none, none, some (.checkcast 149, 3), none, none, some (.getfield 195, 3), none],
  [none, some (.iload_n 2, 1), some (.if_icmp .ne 97, 3), none, none, some (.aload_n 0, 1), some (.getfield 216, 3), none, none, some (.iload 5, 2), none, some (.invokevirtual 191, 3), none, none, some (.checkcast 149, 3), none],
  [none, some (.astore 6, 2), none, some (.iload_n 3, 1), some (.aload 6, 2), none, some (.getfield 387, 3), none, none, some (.if_icmp .ge 52, 3), none, none, some (.aload 4, 2), none, some (.ifnull 31, 3), none],
  [none, some (.aload 6, 2), none, some (.getfield 387, 3), none, none, some (.iload_n 3, 1), some (.isub, 1), some (.aload_n 0, 1), some (.aload 4, 2), none, some (.getfield 219, 3), none, none, some (.aload 6, 2), none],
  [some (.getfield 219, 3), none, none, some (.invokevirtual 222, 3), none, none, some (.if_icmp .gt 7, 3), none, none, some (.iconst 1, 1), some (.goto 4, 3), none, none, some (.iconst 0, 1), some (.istore 7, 2), none],
  [some (.iload 7, 2), none, some (.ifCond .eq 8, 3), none, none, some (.bipush 115, 2), none, some (.goto 5, 3), none, none, some (.bipush 102, 2), none, some (.ireturn, 1), some (.iload_n 3, 1), some (.aload 6, 2), none],
  [some (.getfield 394, 3), none, none, some (.if_icmp .ge 6, 3), none, none, some (.bipush 98, 2), none, some (.ireturn, 1), some (.aload 6, 2), none, some (.astore 4, 2), none, some (.iinc 5 1, 3), none, none],
  [some (.goto (-122), 3), none, none, some (.bipush 102, 2), none, some (.ireturn, 1)]]
def cd_87 : List (List CI) := [[some (.iconst 0, 1), some (.istore_n 2, 1), some (.aload_n 0, 1), some (.iload_n 1, 1), some (.iconst 0, 1), some (.invokevirtual 201, 3), none, none, some (.istore_n 3, 1), some (.iload_n 3, 1), some (.aload_n 0, 1), some (.getfield 216, 3), none, none, some (.invokevirtual 56, 3), none],
  [none, some (.if_icmp .ge 44, 3), none, none, some (.aload_n 0, 1), some (.getfield 216, 3), none, none, some (.iload_n 3, 1), some (.invokevirtual 191, 3), none, none, some (.checkcast 149, 3), none, none, some (.getfield 195, 3)],
  [none, none, some (.iload_n 1, 1), some (.if_icmp .ne 26, 3), none, none, some (.iload_n 2, 1), some (.aload_n 0, 1), some (.getfield 216, 3), none, none, some (.iload_n 3, 1), some (.invokevirtual 191, 3), none, none, some (.checkcast 149, 3)],
  [none, none, some (.getfield 337, 3), none, none, some (.iadd, 1), some (.istore_n 2, 1), some (.iinc 3 1, 3), none, none, some (.goto (-49), 3), none, none, some (.iload_n 2, 1), some (.ireturn, 1)]]
def cd_88 : List (List CI) := [[some (.aload_n 0, 1), some (.iload_n 1, 1), some (.iconst 0, 1), some (.invokevirtual 201, 3), none, none, some (.istore_n 2, 1), some (.iconst 0, 1), some (.istore_n 3, 1), some (.iconst 0, 1), some (.istore 4, 2), none, some (.iload 4, 2), none, some (.sipush 480, 3), none],
  [none, some (.if_icmp .ge 25, 3), none, none, some (.aload_n 0, 1), some (.iload_n 2, 1), some (.iload_n 1, 1), some (.iload 4, 2), none, some (.invokestatic 205, 3), none, none, some (.bipush 98, 2), none, some (.if_icmp .ne 6, 3), none],
  [none, some (.iinc 3 1, 3), none, none, some (.iinc 4 1, 3), none, none, some (.goto (-27), 3), none, none, some (.iload_n 3, 1), some (.ireturn, 1)]]
def cd_89 : List (List CI) := [[some (.iconst 0, 1), some (.istore 4, 2), none, some (.aload_n 0, 1), some (.iload_n 1, 1), some (.iconst 0, 1), some (.invokevirtual 201, 3), none, none, some (.istore 5, 2), none, some (.iload 5, 2), none, some (.aload_n 0, 1), some (.getfield 216, 3), none],
  [none, some (.invokevirtual 56, 3), none, none, some (.if_icmp .ge 82, 3), none, none, some (.aload_n 0, 1), some (.getfield 216, 3), none, none, some (.iload 5, 2), none, some (.invokevirtual 191, 3), none, none],
  [some (.checkcast 149, 3), none, none, some (.getfield 195, 3), none, none, some (.iload_n 1, 1), some (.if_icmp .ne 63, 3), none, none, some (.aload_n 0, 1), some (.getfield 216, 3), none, none, some (.iload 5, 2), none],
  [some (.invokevirtual 191, 3), none, none, some (.checkcast 149, 3), none, none, some (.astore 6, 2), none, some (.aload_n 0, 1), some (.iload_n 3, 1), some (.aload 6, 2), none, some (.getfield 219, 3), none, none, some (.invokevirtual 222, 3)],
  [none, none, some (.istore 7, 2), none, some (.iload 4, 2), none, some (.iload_n 2, 1), some (.iadd, 1), some (.iload 7, 2), none, some (.iadd, 1), some (.aload 6, 2), none, some (.getfield 387, 3), none, none],
  [some (.if_icmp .gt 6, 3), none, none, some (.iload 4, 2), none, some (.ireturn, 1), some (.aload 6, 2), none, some (.getfield 394, 3), none, none, some (.iload 7, 2), none, some (.iadd, 1), some (.istore 4, 2), none],
  [some (.iinc 5 1, 3), none, none, some (.goto (-88), 3), none, none, some (.iload 4, 2), none, some (.iload_n 2, 1), some (.iadd, 1), some (.sipush 480, 3), none, none, some (.if_icmp .gt 8, 3), none, none],
  [some (.iload 4, 2), none, some (.goto 4, 3), none, none, some (.iconst (-1), 1), some (.ireturn, 1)]]
def cd_90 : List (List CI) := [[some (.iconst (-1), 1), some (.istore_n 3, 1), some (.iconst 0, 1), some (.istore 4, 2), none, some (.iconst 0, 1), some (.istore 5, 2), none, some (.iload 5, 2), none, some (.aload_n 0, 1), some (.getfield 25, 3), none, none, some (.invokevirtual 56, 3), none],
  [none, some (.if_icmp .ge 78, 3), none, none, some (.aload_n 0, 1), some (.getfield 25, 3), none, none, some (.iload 5, 2), none, some (.invokevirtual 191, 3), none, none, some (.checkcast 244, 3), none, none],
  [some (.astore 6, 2), none, some (.aload 6, 2), none, some (.getfield 420, 3), none, none, some (.iload_n 1, 1), some (.if_icmp .ne 16, 3), none, none, some (.aload 6, 2), none, some (.getfield 267, 3), none, none],
  [some (.iload_n 2, 1), some (.if_icmp .lt 7, 3), none, none, some (.iconst 1, 1), some (.goto 4, 3), none, none, some (.iconst 0, 1), some (.istore 7, 2), none, some (.iload 7, 2), none, some (.ifCond .eq 28, 3), none, none],
  [some (.iload_n 3, 1), some (.iconst (-1), 1), some (.if_icmp .eq 13, 3), none, none, some (.aload 6, 2), none, some (.getfield 267, 3), none, none, some (.iload 4, 2), none, some (.if_icmp .ge 13, 3), none, none, some (.iload 5, 2)],
  [none, some (.istore_n 3, 1), some (.aload 6, 2), none, some (.getfield 267, 3), none, none, some (.istore 4, 2), none, some (.iinc 5 1, 3), none, none, some (.goto (-84), 3), none, none, some (.iload_n 3, 1)],
  [some (.ireturn, 1)]]
def cd_91 : List (List CI) := [[some (.aload_n 1, 1), some (.getfield 423, 3), none, none, some (.istore_n 2, 1), some (.iconst 0, 1), some (.istore_n 3, 1), some (.iload_n 3, 1), some (.aload_n 0, 1), some (.getfield 22, 3), none, none, some (.invokevirtual 56, 3), none, none, some (.if_icmp .ge 27, 3)],
  [none, none, some (.iload_n 2, 1), some (.aload_n 0, 1), some (.getfield 22, 3), none, none, some (.iload_n 3, 1), some (.invokevirtual 191, 3), none, none, some (.checkcast 149, 3), none, none, some (.aload_n 1, 1), some (.invokestatic 424, 3)],
  [none, none, some (.isub, 1), some (.istore_n 2, 1), some (.iinc 3 1, 3), none, none, some (.goto (-32), 3), none, none, some (.iload_n 2, 1), some (.ireturn, 1)]]
def cd_92 : List (List CI) := [[some (.iconst 0, 1), some (.istore_n 2, 1), some (.iconst 0, 1), some (.istore_n 3, 1), some (.iload_n 3, 1), some (.aload_n 0, 1), some (.getfield 250, 3), none, none, some (.invokevirtual 56, 3), none, none, some (.if_icmp .ge 41, 3), none, none, some (.aload_n 0, 1)],
  [some (.getfield 250, 3), none, none, some (.iload_n 3, 1), some (.invokevirtual 191, 3), none, none, some (.checkcast 262, 3), none, none, some (.astore 4, 2), none, some (.aload 4, 2), none, some (.getfield 410, 3), none],
  [none, some (.aload_n 1, 1), some (.if_acmp .ne 13, 3), none, none, some (.iload_n 2, 1), some (.aload 4, 2), none, some (.getfield 414, 3), none, none, some (.iconst 3, 1), some (.iadd, 1), some (.iadd, 1), some (.istore_n 2, 1), some (.iinc 3 1, 3)],
  [none, none, some (.goto (-46), 3), none, none, some (.iload_n 2, 1), some (.ireturn, 1)]]
def cd_93 : List (List CI) := [[some (.iload_n 1, 1), some (.ifCond .lt 21, 3), none, none, some (.iload_n 1, 1), some (.aload_n 0, 1), some (.getfield 31, 3), none, none, some (.arraylength, 1), some (.if_icmp .ge 12, 3), none, none, some (.aload_n 0, 1), some (.getfield 31, 3), none],
  [none, some (.iload_n 1, 1), some (.iaload, 1), some (.goto 4, 3), none, none, some (.iconst 0, 1), some (.ireturn, 1)]]
def cd_94 : List (List CI) := [[some (.aload_n 0, 1), some (.getfield 278, 3), none, none, some (.getfield 282, 3), none, none, some (.bipush 6, 2), none, some (.invokestatic 60, 3), none, none, some (.aload_n 0, 1), some (.new 283, 3), none, none],
  [some (.dup, 1), some (.iload_n 1, 1), some (.iload_n 2, 1), some (.aload_n 0, 1), some (.getfield 278, 3), none, none, some (.invokespecial 287, 3), none, none, some (.putfield 278, 3), none, none, some (.aload_n 0, 1), some (.getfield 278, 3), none],
  [none, some (.getfield 282, 3), none, none, some (.ireturn, 1)]]
def cd_95 : List (List CI) := [[some (.aload_n 0, 1), some (.ifnull 12, 3), none, none, some (.aload_n 0, 1), some (.getfield 282, 3), none, none, some (.bipush 6, 2), none, some (.if_icmp .le 5, 3), none, none, some (.iconst 0, 1), some (.ireturn, 1), some (.aload_n 0, 1)],
  [some (.getfield 428, 3), none, none, some (.istore_n 2, 1), some (.aload_n 0, 1), some (.getfield 431, 3), none, none, some (.tableswitch 96 1 4 #[32, 43, 56, 78], 32), none, none, none, none, none, none, none],
  [none, none, none, none, none, none, none, none, none, none, none, none, none, none, none, none],
  [none, none, none, none, none, none, none, none, some (.aload_n 0, 1), some (.getfield 434, 3), none, none, some (.iload_n 1, 1), some (.invokestatic 294, 3), none, none],
  [some (.iload_n 2, 1), some (.iadd, 1), some (.ireturn, 1), some (.aload_n 0, 1), some (.getfield 434, 3), none, none, some (.iload_n 1, 1), some (.invokestatic 294, 3), none, none, some (.iload_n 2, 1), some (.invokestatic 437, 3), none, none, some (.ireturn, 1)],
  [some (.aload_n 0, 1), some (.getfield 434, 3), none, none, some (.iload_n 1, 1), some (.iload_n 2, 1), some (.if_icmp .le 11, 3), none, none, some (.iload_n 1, 1), some (.iload_n 1, 1), some (.iload_n 2, 1), some (.isub, 1), some (.iadd, 1), some (.goto 4, 3), none],
  [none, some (.iload_n 1, 1), some (.invokestatic 294, 3), none, none, some (.ireturn, 1), some (.aload_n 0, 1), some (.getfield 434, 3), none, none, some (.iload_n 1, 1), some (.invokestatic 294, 3), none, none, some (.istore_n 3, 1), some (.iload_n 3, 1)],
  [some (.iload_n 3, 1), some (.iload_n 2, 1), some (.imul, 1), some (.bipush 100, 2), none, some (.idiv, 1), some (.isub, 1), some (.ireturn, 1), some (.iload_n 2, 1), some (.iload_n 1, 1), some (.imul, 1), some (.ireturn, 1)]]
def cd_96 : List (List CI) := [[some (.aload_n 0, 1), some (.getfield 240, 3), none, none, some (.getfield 375, 3), none, none, some (.getfield 278, 3), none, none, some (.aload_n 0, 1), some (.getfield 337, 3), none, none, some (.invokestatic 294, 3), none],
  [none, some (.ireturn, 1)]]
def cd_97 : List (List CI) := [[some (.iconst 0, 1), some (.istore_n 2, 1), some (.iconst 0, 1), some (.istore_n 3, 1), some (.iload_n 3, 1), some (.aload_n 1, 1), some (.getfield 250, 3), none, none, some (.invokevirtual 56, 3), none, none, some (.if_icmp .ge 49, 3), none, none, some (.aload_n 1, 1)],
  [some (.getfield 250, 3), none, none, some (.iload_n 3, 1), some (.invokevirtual 191, 3), none, none, some (.checkcast 262, 3), none, none, some (.astore 4, 2), none, some (.iload_n 2, 1), some (.aload 4, 2), none, some (.getfield 414, 3)],
  [none, none, some (.aload_n 0, 1), some (.aload 4, 2), none, some (.getfield 410, 3), none, none, some (.getfield 420, 3), none, none, some (.invokevirtual 274, 3), none, none, some (.imul, 1), some (.bipush 99, 2)],
  [none, some (.iadd, 1), some (.bipush 100, 2), none, some (.idiv, 1), some (.iadd, 1), some (.istore_n 2, 1), some (.iinc 3 1, 3), none, none, some (.goto (-54), 3), none, none, some (.iload_n 2, 1), some (.ireturn, 1)]]
def cd_98 : List (List CI) := [[some (.aload_n 0, 1), some (.iload_n 1, 1), some (.putfield 333, 3), none, none, some (.aload_n 0, 1), some (.getfield 371, 3), none, none, some (.dup, 1), some (.getfield 312, 3), none, none, some (.iload_n 1, 1), some (.iadd, 1), some (.putfield 312, 3)],
  [none, none, some (.return_, 1)]]
def cd_99 : List (List CI) := [[some (.iconst 0, 1), some (.istore_n 3, 1), some (.iconst 0, 1), some (.istore 4, 2), none, some (.iload 4, 2), none, some (.aload_n 0, 1), some (.getfield 22, 3), none, none, some (.invokevirtual 56, 3), none, none, some (.if_icmp .ge 98, 3), none],
  [none, some (.aload_n 0, 1), some (.getfield 22, 3), none, none, some (.iload 4, 2), none, some (.invokevirtual 191, 3), none, none, some (.checkcast 149, 3), none, none, some (.astore 5, 2), none, some (.aload 5, 2)],
  [none, some (.getfield 185, 3), none, none, some (.bipush 100, 2), none, some (.if_icmp .ne 25, 3), none, none, some (.aload 5, 2), none, some (.getfield 371, 3), none, none, some (.aload_n 1, 1), some (.if_acmp .ne 16, 3)],
  [none, none, some (.aload 5, 2), none, some (.getfield 240, 3), none, none, some (.aload_n 2, 1), some (.if_acmp .ne 7, 3), none, none, some (.iconst 1, 1), some (.goto 4, 3), none, none, some (.iconst 0, 1)],
  [some (.istore 6, 2), none, some (.iload 6, 2), none, some (.ifCond .eq 38, 3), none, none, some (.aload 5, 2), none, some (.getfield 195, 3), none, none, some (.aload_n 0, 1), some (.getfield 35, 3), none, none],
  [some (.if_icmp .ge 26, 3), none, none, some (.aload 5, 2), none, some (.getfield 195, 3), none, none, some (.aload_n 0, 1), some (.getfield 35, 3), none, none, some (.bipush 7, 2), none, some (.isub, 1), some (.if_icmp .lt 11, 3)],
  [none, none, some (.iload_n 3, 1), some (.aload 5, 2), none, some (.getfield 337, 3), none, none, some (.iadd, 1), some (.istore_n 3, 1), some (.iinc 4 1, 3), none, none, some (.goto (-104), 3), none, none],
  [some (.iload_n 3, 1), some (.ireturn, 1)]]
def cd_100 : List (List CI) := [[some (.aload_n 1, 1), some (.arraylength, 1), some (.newarray .int, 2), none, some (.astore_n 3, 1), some (.iload_n 2, 1), some (.ifCond .gt 5, 3), none, none, some (.aload_n 3, 1), some (.areturn, 1), some (.aload_n 1, 1), some (.arraylength, 1), some (.newarray .int, 2), none, some (.astore 4, 2)],
  [none, some (.iload_n 0, 1), some (.istore 5, 2), none, some (.iconst 0, 1), some (.istore 6, 2), none, some (.iload 6, 2), none, some (.aload_n 1, 1), some (.arraylength, 1), some (.if_icmp .ge 49, 3), none, none, some (.iload_n 0, 1), some (.i2l, 1)],
  [some (.aload_n 1, 1), some (.iload 6, 2), none, some (.iaload, 1), some (.i2l, 1), some (.lmul, 1), some (.lstore 7, 2), none, some (.aload_n 3, 1), some (.iload 6, 2), none, some (.lload 7, 2), none, some (.iload_n 2, 1), some (.i2l, 1), some (.ldiv, 1)],
  [some (.l2i, 1), some (.iastore, 1), some (.aload 4, 2), none, some (.iload 6, 2), none, some (.lload 7, 2), none, some (.iload_n 2, 1), some (.i2l, 1), some (.lrem, 1), some (.l2i, 1), some (.iastore, 1), some (.iload 5, 2), none, some (.aload_n 3, 1)],
  [some (.iload 6, 2), none, some (.iaload, 1), some (.isub, 1), some (.istore 5, 2), none, some (.iinc 6 1, 3), none, none, some (.goto (-50), 3), none, none, some (.iconst 0, 1), some (.istore 6, 2), none, some (.iload 6, 2)],
  [none, some (.iload 5, 2), none, some (.if_icmp .ge 42, 3), none, none, some (.aload 4, 2), none, some (.invokestatic 442, 3), none, none, some (.istore 7, 2), none, some (.iload 7, 2), none, some (.ifCond .lt 24, 3)],
  [none, none, some (.iload 7, 2), none, some (.aload_n 3, 1), some (.arraylength, 1), some (.if_icmp .ge 17, 3), none, none, some (.aload_n 3, 1), some (.iload 7, 2), none, some (.dup2, 1), some (.iaload, 1), some (.iconst 1, 1), some (.iadd, 1)],
  [some (.iastore, 1), some (.aload 4, 2), none, some (.iload 7, 2), none, some (.iconst (-1), 1), some (.iastore, 1), some (.iinc 6 1, 3), none, none, some (.goto (-43), 3), none, none, some (.aload_n 3, 1), some (.areturn, 1)]]
def cd_101 : List (List CI) := [[some (.iconst (-1), 1), some (.istore_n 1, 1), some (.iconst 0, 1), some (.istore_n 2, 1), some (.iload_n 2, 1), some (.aload_n 0, 1), some (.arraylength, 1), some (.if_icmp .ge 31, 3), none, none, some (.aload_n 0, 1), some (.iload_n 2, 1), some (.iaload, 1), some (.ifCond .lt 19, 3), none, none],
  [some (.iload_n 1, 1), some (.iconst (-1), 1), some (.if_icmp .eq 12, 3), none, none, some (.aload_n 0, 1), some (.iload_n 2, 1), some (.iaload, 1), some (.aload_n 0, 1), some (.iload_n 1, 1), some (.iaload, 1), some (.if_icmp .le 5, 3), none, none, some (.iload_n 2, 1), some (.istore_n 1, 1)],
  [some (.iinc 2 1, 3), none, none, some (.goto (-31), 3), none, none, some (.iload_n 1, 1), some (.ireturn, 1)]]
def cd_102 : List (List CI) := [[some (.aload_n 0, 1), some (.iload_n 1, 1), some (.invokevirtual 102, 3), none, none, some (.astore_n 2, 1), some (.aload_n 2, 1), some (.getfield 324, 3), none, none, some (.ineg, 1), some (.istore_n 3, 1), some (.iconst 0, 1), some (.istore 4, 2), none, some (.iload 4, 2)],
  [none, some (.aload_n 0, 1), some (.getfield 22, 3), none, none, some (.invokevirtual 56, 3), none, none, some (.if_icmp .ge 40, 3), none, none, some (.aload_n 0, 1), some (.getfield 22, 3), none, none, some (.iload 4, 2)],
  [none, some (.invokevirtual 191, 3), none, none, some (.checkcast 149, 3), none, none, some (.astore 5, 2), none, some (.aload 5, 2), none, some (.getfield 371, 3), none, none, some (.aload_n 2, 1), some (.if_acmp .ne 11, 3)],
  [none, none, some (.iload_n 3, 1), some (.aload 5, 2), none, some (.getfield 333, 3), none, none, some (.iadd, 1), some (.istore_n 3, 1), some (.iinc 4 1, 3), none, none, some (.goto (-46), 3), none, none],
  [some (.iconst 0, 1), some (.istore 4, 2), none, some (.iload 4, 2), none, some (.aload_n 0, 1), some (.getfield 28, 3), none, none, some (.invokevirtual 56, 3), none, none, some (.if_icmp .ge 28, 3), none, none, some (.iload_n 3, 1)],
  [some (.aload_n 0, 1), some (.getfield 28, 3), none, none, some (.iload 4, 2), none, some (.invokevirtual 191, 3), none, none, some (.checkcast 303, 3), none, none, some (.iload_n 1, 1), some (.invokevirtual 315, 3), none, none],
  [some (.iadd, 1), some (.istore_n 3, 1), some (.iinc 4 1, 3), none, none, some (.goto (-34), 3), none, none, some (.iload_n 3, 1), some (.ireturn, 1)]]
def cd_103 : List (List CI) := [[some (.iconst 0, 1), some (.istore_n 1, 1), some (.iload_n 1, 1), some (.aload_n 0, 1), some (.getfield 22, 3), none, none, some (.invokevirtual 56, 3), none, none, some (.if_icmp .ge 68, 3), none, none, some (.aload_n 0, 1), some (.getfield 22, 3), none],
  [none, some (.iload_n 1, 1), some (.invokevirtual 191, 3), none, none, some (.checkcast 149, 3), none, none, some (.astore_n 2, 1), some (.aload_n 2, 1), some (.getfield 185, 3), none, none, some (.bipush 119, 2), none, some (.if_icmp .ne 13, 3)],
  [none, none, some (.aload_n 0, 1), some (.aload_n 2, 1), some (.invokevirtual 404, 3), none, none, some (.ifCond .eq 5, 3), none, none, some (.iconst 0, 1), some (.ireturn, 1), some (.aload_n 2, 1), some (.getfield 185, 3), none, none],
  [some (.bipush 98, 2), none, some (.if_icmp .ne 22, 3), none, none, some (.aload_n 0, 1), some (.aload_n 2, 1), some (.invokevirtual 379, 3), none, none, some (.ifCond .eq 12, 3), none, none, some (.aload_n 0, 1), some (.iload_n 1, 1), some (.aload_n 2, 1)],
  [some (.invokevirtual 446, 3), none, none, some (.ifCond .eq 5, 3), none, none, some (.iconst 0, 1), some (.ireturn, 1), some (.iinc 1 1, 3), none, none, some (.goto (-73), 3), none, none, some (.iconst 1, 1), some (.ireturn, 1)]]
def cd_104 : List (List CI) := [[some (.iload_n 1, 1), some (.iconst 1, 1), some (.iadd, 1), some (.istore_n 3, 1), some (.iload_n 3, 1), some (.aload_n 0, 1), some (.getfield 22, 3), none, none, some (.invokevirtual 56, 3), none, none, some (.if_icmp .ge 90, 3), none, none, some (.aload_n 0, 1)],
  [some (.getfield 22, 3), none, none, some (.iload_n 3, 1), some (.invokevirtual 191, 3), none, none, some (.checkcast 149, 3), none, none, some (.astore 4, 2), none, some (.aload 4, 2), none, some (.getfield 371, 3), none],
  [none, some (.aload_n 2, 1), some (.getfield 371, 3), none, none, some (.if_acmp .eq 15, 3), none, none, some (.aload 4, 2), none, some (.getfield 240, 3), none, none, some (.aload_n 2, 1), some (.getfield 240, 3), none],
  [none, some (.if_acmp .ne 7, 3), none, none, some (.iconst 1, 1), some (.goto 4, 3), none, none, some (.iconst 0, 1), some (.istore 5, 2), none, some (.iload 5, 2), none, some (.ifCond .eq 35, 3), none, none],
  [some (.aload 4, 2), none, some (.getfield 185, 3), none, none, some (.bipush 98, 2), none, some (.if_icmp .ne 25, 3), none, none, some (.aload 4, 2), none, some (.aload_n 2, 1), some (.getfield 195, 3), none, none],
  [some (.aload_n 2, 1), some (.getfield 387, 3), none, none, some (.aload_n 2, 1), some (.getfield 394, 3), none, none, some (.invokevirtual 390, 3), none, none, some (.ifCond .eq 5, 3), none, none, some (.iconst 1, 1), some (.ireturn, 1)],
  [some (.iinc 3 1, 3), none, none, some (.goto (-95), 3), none, none, some (.iconst 0, 1), some (.ireturn, 1)]]
def cd_105 : List (List CI) := [[some (.iconst 0, 1), some (.istore_n 1, 1), some (.iload_n 1, 1), some (.aload_n 0, 1), some (.getfield 25, 3), none, none, some (.invokevirtual 56, 3), none, none, some (.if_icmp .ge 35, 3), none, none, some (.aload_n 0, 1), some (.getfield 25, 3), none],
  [none, some (.iload_n 1, 1), some (.invokevirtual 191, 3), none, none, some (.checkcast 244, 3), none, none, some (.astore_n 2, 1), some (.aload_n 2, 1), some (.getfield 267, 3), none, none, some (.aload_n 0, 1), some (.aload_n 2, 1), some (.invokevirtual 270, 3)],
  [none, none, some (.if_icmp .eq 5, 3), none, none, some (.iconst 0, 1), some (.ireturn, 1), some (.iinc 1 1, 3), none, none, some (.goto (-40), 3), none, none, some (.iconst 1, 1), some (.ireturn, 1)]]
def cd_106 : List (List CI) := [[some (.iconst 0, 1), some (.istore_n 1, 1), some (.iload_n 1, 1), some (.aload_n 0, 1), some (.getfield 19, 3), none, none, some (.invokevirtual 56, 3), none, none, some (.if_icmp .ge 40, 3), none, none, some (.aload_n 0, 1), some (.getfield 19, 3), none],
  [none, some (.iload_n 1, 1), some (.invokevirtual 191, 3), none, none, some (.checkcast 69, 3), none, none, some (.astore_n 2, 1), some (.aload_n 2, 1), some (.getfield 312, 3), none, none, some (.aload_n 2, 1), some (.getfield 324, 3), none],
  [none, some (.isub, 1), some (.aload_n 0, 1), some (.iload_n 1, 1), some (.invokevirtual 330, 3), none, none, some (.if_icmp .eq 5, 3), none, none, some (.iconst 0, 1), some (.ireturn, 1), some (.iinc 1 1, 3), none, none, some (.goto (-45), 3)],
  [none, none, some (.iconst 1, 1), some (.ireturn, 1)]]
def cd_107 : List (List CI) := [[some (.iconst 0, 1), some (.istore_n 1, 1), some (.iload_n 1, 1), some (.aload_n 0, 1), some (.getfield 16, 3), none, none, some (.invokevirtual 56, 3), none, none, some (.if_icmp .ge 58, 3), none, none, some (.aload_n 0, 1), some (.getfield 16, 3), none],
  [none, some (.iload_n 1, 1), some (.invokevirtual 191, 3), none, none, some (.checkcast 64, 3), none, none, some (.astore_n 2, 1), some (.aload_n 0, 1), some (.getfield 35, 3), none, none, some (.istore_n 3, 1), some (.iload_n 3, 1), some (.aload_n 0, 1)],
  [some (.getfield 35, 3), none, none, some (.bipush 6, 2), none, some (.iadd, 1), some (.if_icmp .gt 24, 3), none, none, some (.aload_n 2, 1), some (.iload_n 3, 1), some (.invokestatic 209, 3), none, none, some (.aload_n 2, 1), some (.iload_n 3, 1)],
  [some (.invokestatic 213, 3), none, none, some (.if_icmp .eq 5, 3), none, none, some (.iconst 0, 1), some (.ireturn, 1), some (.iinc 3 1, 3), none, none, some (.goto (-29), 3), none, none, some (.iinc 1 1, 3), none],
  [none, some (.goto (-63), 3), none, none, some (.iconst 1, 1), some (.ireturn, 1)]]
def cd_108 : List (List CI) := [[some (.aload_n 0, 1), some (.invokespecial 1, 3), none, none, some (.aload_n 0, 1), some (.bipush 6, 2), none, some (.newarray .int, 2), none, some (.putfield 9, 3), none, none, some (.aload_n 0, 1), some (.bipush 6, 2), none, some (.newarray .int, 2)],
  [none, some (.putfield 13, 3), none, none, some (.aload_n 0, 1), some (.bipush 10, 2), none, some (.iconst 4, 1), some (.multianewarray 16 2, 4), none, none, none, some (.putfield 18, 3), none, none, some (.aload_n 0, 1)],
  [some (.bipush 10, 2), none, some (.newarray .long, 2), none, some (.putfield 21, 3), none, none, some (.aload_n 0, 1), some (.iconst 4, 1), some (.iconst 4, 1), some (.multianewarray 25 2, 4), none, none, none, some (.putfield 27, 3), none],
  [none, some (.aload_n 0, 1), some (.sipush 150, 3), none, none, some (.newarray .int, 2), none, some (.putfield 30, 3), none, none, some (.aload_n 0, 1), some (.sipush 150, 3), none, none, some (.newarray .int, 2), none],
  [some (.putfield 33, 3), none, none, some (.aload_n 0, 1), some (.sipush 150, 3), none, none, some (.newarray .int, 2), none, some (.putfield 36, 3), none, none, some (.aload_n 0, 1), some (.sipush 150, 3), none, none],
  [some (.newarray .int, 2), none, some (.putfield 39, 3), none, none, some (.aload_n 0, 1), some (.sipush 150, 3), none, none, some (.newarray .int, 2), none, some (.putfield 42, 3), none, none, some (.aload_n 0, 1), some (.sipush 150, 3)],
  [none, none, some (.newarray .char, 2), none, some (.putfield 45, 3), none, none, some (.aload_n 0, 1), some (.sipush 150, 3), none, none, some (.newarray .char, 2), none, some (.putfield 49, 3), none, none],
  [some (.aload_n 0, 1), some (.sipush 150, 3), none, none, some (.newarray .int, 2), none, some (.putfield 52, 3), none, none, some (.aload_n 0, 1), some (.sipush 150, 3), none, none, some (.newarray .int, 2), none, some (.putfield 55, 3)],
  [none, none, some (.aload_n 0, 1), some (.sipush 150, 3), none, none, some (.iconst 5, 1), some (.multianewarray 16 2, 4), none, none, none, some (.putfield 58, 3), none, none, some (.aload_n 0, 1), some (.sipush 150, 3)],
  [none, none, some (.iconst 5, 1), some (.multianewarray 16 2, 4), none, none, none, some (.putfield 61, 3), none, none, some (.aload_n 0, 1), some (.bipush 30, 2), none, some (.newarray .int, 2), none, some (.putfield 64, 3)],
  [none, none, some (.aload_n 0, 1), some (.bipush 30, 2), none, some (.newarray .int, 2), none, some (.putfield 67, 3), none, none, some (.aload_n 0, 1), some (.iconst 3, 1), some (.newarray .int, 2), none, some (.putfield 70, 3), none],
  [none, some (.aload_n 0, 1), some (.iconst 4, 1), some (.bipush 6, 2), none, some (.multianewarray 73 2, 4), none, none, none, some (.putfield 75, 3), none, none, some (.aload_n 0, 1), some (.iconst 4, 1), some (.bipush 6, 2), none],
  [some (.multianewarray 16 2, 4), none, none, none, some (.putfield 78, 3), none, none, some (.aload_n 0, 1), some (.iconst 4, 1), some (.newarray .int, 2), none, some (.putfield 81, 3), none, none, some (.aload_n 0, 1), some (.bipush 20, 2)],
  [none, some (.bipush 10, 2), none, some (.multianewarray 16 2, 4), none, none, none, some (.putfield 84, 3), none, none, some (.iconst 0, 1), some (.istore_n 1, 1), some (.iload_n 1, 1), some (.iconst 4, 1), some (.if_icmp .ge 26, 3), none],
  [none, some (.aload_n 0, 1), some (.getfield 75, 3), none, none, some (.iload_n 1, 1), some (.aaload, 1), some (.iconst 0, 1), some (.bipush 114, 2), none, some (.castore, 1), some (.aload_n 0, 1), some (.getfield 81, 3), none, none, some (.iload_n 1, 1)],
  [some (.iconst 1, 1), some (.iastore, 1), some (.iinc 1 1, 3), none, none, some (.goto (-25), 3), none, none, some (.return_, 1)]]
def cd_109 : List (List CI) := [[some (.aload_n 0, 1), some (.getfield 87, 3), none, none, some (.ireturn, 1)]]
def cd_110 : List (List CI) := [[some (.aload_n 0, 1), some (.iload_n 1, 1), some (.putfield 87, 3), none, none, some (.iconst 0, 1), some (.ireturn, 1)]]
def cd_111 : List (List CI) := [[some (.iload_n 0, 1), some (.iload_n 1, 1), some (.if_icmp .lt 12, 3), none, none, some (.iload_n 0, 1), some (.iload_n 2, 1), some (.if_icmp .gt 7, 3), none, none, some (.iconst 1, 1), some (.goto 4, 3), none, none, some (.iconst 0, 1), some (.ireturn, 1)]]
def cd_112 : List (List CI) := [[some (.iload_n 0, 1), some (.iconst 0, 1), some (.iconst 3, 1), some (.invokestatic 91, 3), none, none, some (.ireturn, 1)]]
def cd_113 : List (List CI) := [[some (.iload_n 1, 1), some (.iconst 0, 1), some (.aload_n 0, 1), some (.getfield 95, 3), none, none, some (.iconst 1, 1), some (.isub, 1), some (.invokestatic 91, 3), none, none, some (.ireturn, 1)]]
def cd_114 : List (List CI) := [[some (.iload_n 1, 1), some (.iconst 0, 1), some (.aload_n 0, 1), some (.getfield 98, 3), none, none, some (.iconst 1, 1), some (.isub, 1), some (.invokestatic 91, 3), none, none, some (.ireturn, 1)]]
def cd_115 : List (List CI) := [[some (.iload_n 1, 1), some (.iconst 0, 1), some (.aload_n 0, 1), some (.getfield 101, 3), none, none, some (.iconst 1, 1), some (.isub, 1), some (.invokestatic 91, 3), none, none, some (.ireturn, 1)]]
def cd_116 : List (List CI) := [[some (.aload_n 0, 1), some (.iload_n 1, 1), some (.invokestatic 104, 3), none, none, some (.ifCond .eq 13, 3), none, none, some (.iload_n 2, 1), some (.iconst 0, 1), some (.bipush 30, 2), none, some (.invokestatic 91, 3), none, none, some (.ifCond .ne 7, 3)],
  [none, none, some (.iconst 1, 1), some (.goto 17, 3), none, none, some (.aload_n 0, 1), some (.getfield 98, 3), none, none, some (.bipush 6, 2), none, some (.if_icmp .ne 7, 3), none, none, some (.iconst 2, 1)],
  [some (.goto 4, 3), none, none, some (.iconst 0, 1), some (.putfield 87, 3), none, none, some (.aload_n 0, 1), some (.getfield 87, 3), none, none, some (.ifCond .le 5, 3), none, none, some (.iconst 0, 1), some (.ireturn, 1)],
  [some (.aload_n 0, 1), some (.getfield 9, 3), none, none, some (.aload_n 0, 1), some (.getfield 98, 3), none, none, some (.iload_n 1, 1), some (.iastore, 1), some (.aload_n 0, 1), some (.getfield 13, 3), none, none, some (.aload_n 0, 1), some (.getfield 98, 3)],
  [none, none, some (.iload_n 2, 1), some (.iastore, 1), some (.aload_n 0, 1), some (.dup, 1), some (.getfield 98, 3), none, none, some (.iconst 1, 1), some (.iadd, 1), some (.putfield 98, 3), none, none, some (.aload_n 0, 1), some (.getfield 98, 3)],
  [none, none, some (.iconst 1, 1), some (.isub, 1), some (.ireturn, 1)]]
def cd_117 : List (List CI) := [[some (.aload_n 0, 1), some (.getfield 95, 3), none, none, some (.bipush 10, 2), none, some (.if_icmp .ne 9, 3), none, none, some (.aload_n 0, 1), some (.iconst 1, 1), some (.invokevirtual 108, 3), none, none, some (.ireturn, 1), some (.aload_n 0, 1)],
  [some (.iconst 0, 1), some (.putfield 87, 3), none, none, some (.iconst 0, 1), some (.istore_n 1, 1), some (.iload_n 1, 1), some (.iconst 4, 1), some (.if_icmp .ge 21, 3), none, none, some (.aload_n 0, 1), some (.getfield 18, 3), none, none, some (.aload_n 0, 1)],
  [some (.getfield 95, 3), none, none, some (.aaload, 1), some (.iload_n 1, 1), some (.iconst (-1), 1), some (.iastore, 1), some (.iinc 1 1, 3), none, none, some (.goto (-20), 3), none, none, some (.aload_n 0, 1), some (.dup, 1), some (.getfield 95, 3)],
  [none, none, some (.iconst 1, 1), some (.iadd, 1), some (.putfield 95, 3), none, none, some (.aload_n 0, 1), some (.getfield 95, 3), none, none, some (.iconst 1, 1), some (.isub, 1), some (.ireturn, 1)]]
def cd_118 : List (List CI) := [[some (.aload_n 0, 1), some (.iconst 0, 1), some (.putfield 87, 3), none, none, some (.aload_n 0, 1), some (.getfield 112, 3), none, none, some (.ireturn, 1)]]
def cd_119 : List (List CI) := [[some (.iload_n 1, 1), some (.iload_n 2, 1), some (.if_icmp .ne 7, 3), none, none, some (.iconst 1, 1), some (.goto 4, 3), none, none, some (.iconst 0, 1), some (.istore_n 3, 1), some (.iconst 0, 1), some (.istore 4, 2), none, some (.iload 4, 2), none],
  [some (.iconst 4, 1), some (.if_icmp .ge 41, 3), none, none, some (.iload_n 3, 1), some (.ifCond .ne 37, 3), none, none, some (.aload_n 0, 1), some (.getfield 27, 3), none, none, some (.iload_n 1, 1), some (.aaload, 1), some (.iload 4, 2), none],
  [some (.baload, 1), some (.ifCond .eq 17, 3), none, none, some (.aload_n 0, 1), some (.iload 4, 2), none, some (.iload_n 2, 1), some (.invokevirtual 115, 3), none, none, some (.ifCond .eq 7, 3), none, none, some (.iconst 1, 1), some (.goto 4, 3)],
  [none, none, some (.iconst 0, 1), some (.istore_n 3, 1), some (.iinc 4 1, 3), none, none, some (.goto (-41), 3), none, none, some (.iload_n 3, 1), some (.ireturn, 1)]]
def cd_120 : List (List CI) := [[some (.aload_n 0, 1), some (.getfield 18, 3), none, none, some (.iload_n 1, 1), some (.aaload, 1), some (.iload_n 2, 1), some (.iaload, 1), some (.istore 4, 2), none, some (.iload 4, 2), none, some (.iconst (-1), 1), some (.if_icmp .eq 21, 3), none, none],
  [some (.iload_n 3, 1), some (.iload 4, 2), none, some (.iload 4, 2), none, some (.bipush 29, 2), none, some (.iadd, 1), some (.invokestatic 91, 3), none, none, some (.ifCond .eq 7, 3), none, none, some (.iconst 1, 1), some (.goto 4, 3)],
  [none, none, some (.iconst 0, 1), some (.istore 5, 2), none, some (.iconst 0, 1), some (.istore 6, 2), none, some (.iload 6, 2), none, some (.iconst 4, 1), some (.if_icmp .ge 44, 3), none, none, some (.iload 5, 2), none],
  [some (.ifCond .eq 39, 3), none, none, some (.aload_n 0, 1), some (.getfield 27, 3), none, none, some (.iload_n 2, 1), some (.aaload, 1), some (.iload 6, 2), none, some (.baload, 1), some (.ifCond .eq 14, 3), none, none, some (.aload_n 0, 1)],
  [some (.iload_n 1, 1), some (.iload 6, 2), none, some (.iload_n 3, 1), some (.invokevirtual 119, 3), none, none, some (.ifCond .eq 7, 3), none, none, some (.iconst 1, 1), some (.goto 4, 3), none, none, some (.iconst 0, 1), some (.istore 5, 2)],
  [none, some (.iinc 6 1, 3), none, none, some (.goto (-44), 3), none, none, some (.iload 5, 2), none, some (.ireturn, 1)]]
def cd_121 : List (List CI) := [[some (.aload_n 0, 1), some (.iload_n 1, 1), some (.aload_n 0, 1), some (.getfield 9, 3), none, none, some (.iload_n 2, 1), some (.iaload, 1), some (.iload_n 3, 1), some (.invokevirtual 119, 3), none, none, some (.ireturn, 1)]]
def cd_122 : List (List CI) := [[some (.aload_n 0, 1), some (.iload_n 1, 1), some (.invokestatic 104, 3), none, none, some (.ifCond .eq 15, 3), none, none, some (.iload_n 2, 1), some (.invokestatic 104, 3), none, none, some (.ifCond .eq 8, 3), none, none, some (.iload_n 1, 1)],
  [some (.iload_n 2, 1), some (.if_icmp .ne 7, 3), none, none, some (.iconst 1, 1), some (.goto 17, 3), none, none, some (.aload_n 0, 1), some (.iload_n 2, 1), some (.iload_n 1, 1), some (.invokevirtual 115, 3), none, none, some (.ifCond .eq 7, 3), none],
  [none, some (.iconst 2, 1), some (.goto 4, 3), none, none, some (.iconst 0, 1), some (.putfield 87, 3), none, none, some (.aload_n 0, 1), some (.getfield 87, 3), none, none, some (.ifCond .le 5, 3), none, none],
  [some (.iconst 0, 1), some (.ireturn, 1), some (.aload_n 0, 1), some (.getfield 27, 3), none, none, some (.iload_n 1, 1), some (.aaload, 1), some (.iload_n 2, 1), some (.baload, 1), some (.ifCond .ne 7, 3), none, none, some (.iconst 1, 1), some (.goto 4, 3), none],
  [none, some (.iconst 0, 1), some (.istore_n 3, 1), some (.aload_n 0, 1), some (.getfield 27, 3), none, none, some (.iload_n 1, 1), some (.aaload, 1), some (.iload_n 2, 1), some (.iconst 1, 1), some (.bastore, 1), some (.iconst 0, 1), some (.istore 4, 2), none, some (.iload 4, 2)],
  [none, some (.aload_n 0, 1), some (.getfield 101, 3), none, none, some (.if_icmp .ge 92, 3), none, none, some (.aload_n 0, 1), some (.getfield 49, 3), none, none, some (.iload 4, 2), none, some (.caload, 1), some (.bipush 119, 2)],
  [none, some (.if_icmp .eq 15, 3), none, none, some (.aload_n 0, 1), some (.getfield 49, 3), none, none, some (.iload 4, 2), none, some (.caload, 1), some (.bipush 98, 2), none, some (.if_icmp .ne 35, 3), none, none],
  [some (.aload_n 0, 1), some (.aload_n 0, 1), some (.getfield 30, 3), none, none, some (.iload 4, 2), none, some (.iaload, 1), some (.aload_n 0, 1), some (.getfield 33, 3), none, none, some (.iload 4, 2), none, some (.iaload, 1), some (.aload_n 0, 1)],
  [some (.getfield 36, 3), none, none, some (.iload 4, 2), none, some (.iaload, 1), some (.invokevirtual 122, 3), none, none, some (.ifCond .ne 7, 3), none, none, some (.iconst 1, 1), some (.goto 4, 3), none, none],
  [some (.iconst 0, 1), some (.istore 5, 2), none, some (.aload_n 0, 1), some (.getfield 49, 3), none, none, some (.iload 4, 2), none, some (.iload 5, 2), none, some (.ifCond .eq 8, 3), none, none, some (.bipush 99, 2), none],
  [some (.goto 10, 3), none, none, some (.aload_n 0, 1), some (.getfield 49, 3), none, none, some (.iload 4, 2), none, some (.caload, 1), some (.castore, 1), some (.iinc 4 1, 3), none, none, some (.goto (-95), 3), none],
  [none, some (.aload_n 0, 1), some (.invokevirtual 125, 3), none, none, some (.iload_n 3, 1), some (.ireturn, 1)]]
def cd_123 : List (List CI) := [[some (.aload_n 0, 1), some (.aload_n 0, 1), some (.iload_n 1, 1), some (.invokevirtual 128, 3), none, none, some (.ifCond .ne 7, 3), none, none, some (.iconst 1, 1), some (.goto 15, 3), none, none, some (.iload_n 2, 1), some (.invokestatic 104, 3), none],
  [none, some (.ifCond .ne 7, 3), none, none, some (.iconst 2, 1), some (.goto 4, 3), none, none, some (.iconst 0, 1), some (.putfield 87, 3), none, none, some (.iconst 0, 1), some (.istore_n 3, 1), some (.iload_n 3, 1), some (.iconst 4, 1)],
  [some (.if_icmp .ge 49, 3), none, none, some (.aload_n 0, 1), some (.getfield 87, 3), none, none, some (.ifCond .ne 42, 3), none, none, some (.aload_n 0, 1), some (.aload_n 0, 1), some (.getfield 27, 3), none, none, some (.iload_n 2, 1)],
  [some (.aaload, 1), some (.iload_n 3, 1), some (.baload, 1), some (.ifCond .eq 20, 3), none, none, some (.aload_n 0, 1), some (.iload_n 1, 1), some (.iload_n 3, 1), some (.aload_n 0, 1), some (.getfield 112, 3), none, none, some (.invokevirtual 119, 3), none, none],
  [some (.ifCond .ne 7, 3), none, none, some (.iconst 3, 1), some (.goto 4, 3), none, none, some (.iconst 0, 1), some (.putfield 87, 3), none, none, some (.iinc 3 1, 3), none, none, some (.goto (-48), 3), none],
  [none, some (.aload_n 0, 1), some (.getfield 87, 3), none, none, some (.ifCond .le 5, 3), none, none, some (.iconst 0, 1), some (.ireturn, 1), some (.aload_n 0, 1), some (.getfield 18, 3), none, none, some (.iload_n 1, 1), some (.aaload, 1)],
  [some (.iload_n 2, 1), some (.iaload, 1), some (.istore_n 3, 1), some (.aload_n 0, 1), some (.getfield 18, 3), none, none, some (.iload_n 1, 1), some (.aaload, 1), some (.iload_n 2, 1), some (.aload_n 0, 1), some (.getfield 112, 3), none, none, some (.iastore, 1), some (.aload_n 0, 1)],
  [some (.invokevirtual 125, 3), none, none, some (.iload_n 3, 1), some (.iconst (-1), 1), some (.if_icmp .ne 7, 3), none, none, some (.iconst (-1), 1), some (.goto 9, 3), none, none, some (.aload_n 0, 1), some (.getfield 112, 3), none, none],
  [some (.iload_n 3, 1), some (.isub, 1), some (.ireturn, 1)]]
def cd_124 : List (List CI) := [[some (.aload_n 0, 1), some (.aload_n 0, 1), some (.iload_n 1, 1), some (.invokevirtual 128, 3), none, none, some (.ifCond .ne 7, 3), none, none, some (.iconst 1, 1), some (.goto 29, 3), none, none, some (.iload_n 2, 1), some (.invokestatic 104, 3), none],
  [none, some (.ifCond .eq 17, 3), none, none, some (.iload_n 3, 1), some (.aload_n 0, 1), some (.getfield 112, 3), none, none, some (.sipush 999, 3), none, none, some (.invokestatic 91, 3), none, none, some (.ifCond .ne 7, 3)],
  [none, none, some (.iconst 2, 1), some (.goto 4, 3), none, none, some (.iconst 0, 1), some (.putfield 87, 3), none, none, some (.aload_n 0, 1), some (.getfield 87, 3), none, none, some (.ifCond .ne 17, 3), none],
  [none, some (.aload_n 0, 1), some (.iload_n 1, 1), some (.iload_n 2, 1), some (.iload_n 3, 1), some (.invokevirtual 119, 3), none, none, some (.ifCond .eq 7, 3), none, none, some (.iconst 1, 1), some (.goto 4, 3), none, none, some (.iconst 0, 1)],
  [some (.ireturn, 1)]]
def cd_125 : List (List CI) := [[some (.aload_n 0, 1), some (.getfield 39, 3), none, none, some (.iload_n 1, 1), some (.iaload, 1), some (.aload_n 0, 1), some (.getfield 42, 3), none, none, some (.iload_n 1, 1), some (.iaload, 1), some (.iadd, 1), some (.ireturn, 1)]]
def cd_126 : List (List CI) := [[some (.aload_n 0, 1), some (.getfield 49, 3), none, none, some (.iload_n 1, 1), some (.caload, 1), some (.bipush 98, 2), none, some (.if_icmp .ne 39, 3), none, none, some (.aload_n 0, 1), some (.getfield 36, 3), none, none, some (.iload_n 1, 1)],
  [some (.iaload, 1), some (.iload_n 2, 1), some (.if_icmp .ne 29, 3), none, none, some (.aload_n 0, 1), some (.getfield 39, 3), none, none, some (.iload_n 1, 1), some (.iaload, 1), some (.iload_n 3, 1), some (.iload 4, 2), none, some (.iadd, 1), some (.if_icmp .ge 16, 3)],
  [none, none, some (.iload_n 3, 1), some (.aload_n 0, 1), some (.iload_n 1, 1), some (.invokevirtual 131, 3), none, none, some (.if_icmp .ge 7, 3), none, none, some (.iconst 1, 1), some (.goto 4, 3), none, none, some (.iconst 0, 1)],
  [some (.ireturn, 1)]]
def cd_127 : List (List CI) := [[some (.iload_n 2, 1), some (.iload_n 3, 1), some (.if_icmp .ne 7, 3), none, none, some (.iconst 0, 1), some (.goto 9, 3), none, none, some (.aload_n 0, 1), some (.getfield 13, 3), none, none, some (.iload_n 1, 1), some (.iaload, 1), some (.ireturn, 1)]]
def cd_128 : List (List CI) := [[some (.iconst (-1), 1), some (.istore 6, 2), none, some (.iconst (-1), 1), some (.istore 7, 2), none, some (.iconst 0, 1), some (.istore 8, 2), none, some (.iload 8, 2), none, some (.aload_n 0, 1), some (.getfield 101, 3), none, none, some (.if_icmp .ge 136, 3)],
  [none, none, some (.aload_n 0, 1), some (.getfield 49, 3), none, none, some (.iload 8, 2), none, some (.caload, 1), some (.bipush 98, 2), none, some (.if_icmp .ne 118, 3), none, none, some (.aload_n 0, 1), some (.getfield 33, 3)],
  [none, none, some (.iload 8, 2), none, some (.iaload, 1), some (.iload_n 1, 1), some (.if_icmp .ne 107, 3), none, none, some (.aload_n 0, 1), some (.getfield 36, 3), none, none, some (.iload 8, 2), none, some (.iaload, 1)],
  [some (.iload_n 2, 1), some (.if_icmp .ne 96, 3), none, none, some (.aload_n 0, 1), some (.iload 8, 2), none, some (.iload_n 2, 1), some (.iload_n 3, 1), some (.iload 4, 2), none, some (.invokevirtual 134, 3), none, none, some (.ifCond .eq 5, 3), none],
  [none, some (.iconst 0, 1), some (.ireturn, 1), some (.aload_n 0, 1), some (.getfield 39, 3), none, none, some (.iload 8, 2), none, some (.iaload, 1), some (.iload_n 3, 1), some (.if_icmp .ge 38, 3), none, none, some (.iload 6, 2), none],
  [some (.iconst (-1), 1), some (.if_icmp .eq 20, 3), none, none, some (.aload_n 0, 1), some (.getfield 39, 3), none, none, some (.iload 8, 2), none, some (.iaload, 1), some (.aload_n 0, 1), some (.getfield 39, 3), none, none, some (.iload 6, 2)],
  [none, some (.iaload, 1), some (.if_icmp .le 8, 3), none, none, some (.iload 8, 2), none, some (.goto 5, 3), none, none, some (.iload 6, 2), none, some (.istore 6, 2), none, some (.goto 35, 3), none],
  [none, some (.iload 7, 2), none, some (.iconst (-1), 1), some (.if_icmp .eq 20, 3), none, none, some (.aload_n 0, 1), some (.getfield 39, 3), none, none, some (.iload 8, 2), none, some (.iaload, 1), some (.aload_n 0, 1), some (.getfield 39, 3)],
  [none, none, some (.iload 7, 2), none, some (.iaload, 1), some (.if_icmp .ge 8, 3), none, none, some (.iload 8, 2), none, some (.goto 5, 3), none, none, some (.iload 7, 2), none, some (.istore 7, 2)],
  [none, some (.iinc 8 1, 3), none, none, some (.goto (-139), 3), none, none, some (.iload 6, 2), none, some (.iconst (-1), 1), some (.if_icmp .eq 28, 3), none, none, some (.iload_n 3, 1), some (.aload_n 0, 1), some (.iload 6, 2)],
  [none, some (.invokevirtual 131, 3), none, none, some (.isub, 1), some (.aload_n 0, 1), some (.iload_n 1, 1), some (.aload_n 0, 1), some (.getfield 45, 3), none, none, some (.iload 6, 2), none, some (.caload, 1), some (.iload 5, 2), none],
  [some (.invokevirtual 138, 3), none, none, some (.if_icmp .lt 42, 3), none, none, some (.iload 7, 2), none, some (.iconst (-1), 1), some (.if_icmp .eq 32, 3), none, none, some (.aload_n 0, 1), some (.getfield 39, 3), none, none],
  [some (.iload 7, 2), none, some (.iaload, 1), some (.iload_n 3, 1), some (.isub, 1), some (.iload 4, 2), none, some (.isub, 1), some (.aload_n 0, 1), some (.iload_n 1, 1), some (.aload_n 0, 1), some (.getfield 45, 3), none, none, some (.iload 7, 2), none],
  [some (.caload, 1), some (.iload 5, 2), none, some (.invokevirtual 138, 3), none, none, some (.if_icmp .lt 7, 3), none, none, some (.iconst 1, 1), some (.goto 4, 3), none, none, some (.iconst 0, 1), some (.ireturn, 1)]]
def cd_129 : List (List CI) := [[some (.iconst 0, 1), some (.istore 5, 2), none, some (.iconst 0, 1), some (.istore 6, 2), none, some (.iload 6, 2), none, some (.aload_n 0, 1), some (.getfield 101, 3), none, none, some (.if_icmp .ge 45, 3), none, none, some (.iload 5, 2)],
  [none, some (.ifCond .ne 27, 3), none, none, some (.aload_n 0, 1), some (.getfield 30, 3), none, none, some (.iload 6, 2), none, some (.iaload, 1), some (.iload_n 1, 1), some (.if_icmp .ne 20, 3), none, none, some (.aload_n 0, 1)],
  [some (.iload 6, 2), none, some (.iload_n 2, 1), some (.iload_n 3, 1), some (.iload 4, 2), none, some (.invokevirtual 134, 3), none, none, some (.ifCond .eq 7, 3), none, none, some (.iconst 1, 1), some (.goto 4, 3), none, none],
  [some (.iconst 0, 1), some (.istore 5, 2), none, some (.iinc 6 1, 3), none, none, some (.goto (-48), 3), none, none, some (.iload 5, 2), none, some (.ireturn, 1)]]
def cd_130 : List (List CI) := [[some (.aload_n 0, 1), some (.iload_n 1, 1), some (.iload_n 2, 1), some (.iload_n 3, 1), some (.invokevirtual 122, 3), none, none, some (.ifCond .ne 8, 3), none, none, some (.bipush 105, 2), none, some (.goto 43, 3), none, none, some (.aload_n 0, 1)],
  [some (.iload_n 1, 1), some (.iload_n 3, 1), some (.iload 4, 2), none, some (.iload 5, 2), none, some (.invokevirtual 142, 3), none, none, some (.ifCond .eq 8, 3), none, none, some (.bipush 109, 2), none, some (.goto 25, 3), none],
  [none, some (.aload_n 0, 1), some (.iload_n 2, 1), some (.iload_n 3, 1), some (.iload 4, 2), none, some (.iload 5, 2), none, some (.iload 6, 2), none, some (.invokevirtual 145, 3), none, none, some (.ifCond .ne 8, 3), none, none],
  [some (.bipush 116, 2), none, some (.goto 5, 3), none, none, some (.bipush 111, 2), none, some (.ireturn, 1)]]
def cd_131 : List (List CI) := [[some (.iconst 0, 1), some (.istore_n 1, 1), some (.iload_n 1, 1), some (.aload_n 0, 1), some (.getfield 101, 3), none, none, some (.if_icmp .ge 78, 3), none, none, some (.aload_n 0, 1), some (.getfield 49, 3), none, none, some (.iload_n 1, 1), some (.caload, 1)],
  [some (.bipush 119, 2), none, some (.if_icmp .ne 61, 3), none, none, some (.aload_n 0, 1), some (.aload_n 0, 1), some (.getfield 30, 3), none, none, some (.iload_n 1, 1), some (.iaload, 1), some (.aload_n 0, 1), some (.getfield 33, 3), none, none],
  [some (.iload_n 1, 1), some (.iaload, 1), some (.aload_n 0, 1), some (.getfield 36, 3), none, none, some (.iload_n 1, 1), some (.iaload, 1), some (.aload_n 0, 1), some (.getfield 39, 3), none, none, some (.iload_n 1, 1), some (.iaload, 1), some (.aload_n 0, 1), some (.getfield 42, 3)],
  [none, none, some (.iload_n 1, 1), some (.iaload, 1), some (.aload_n 0, 1), some (.getfield 45, 3), none, none, some (.iload_n 1, 1), some (.caload, 1), some (.invokevirtual 149, 3), none, none, some (.bipush 111, 2), none, some (.if_icmp .ne 16, 3)],
  [none, none, some (.aload_n 0, 1), some (.getfield 49, 3), none, none, some (.iload_n 1, 1), some (.bipush 98, 2), none, some (.castore, 1), some (.iconst 0, 1), some (.istore_n 1, 1), some (.goto (-74), 3), none, none, some (.iinc 1 1, 3)],
  [none, none, some (.goto (-80), 3), none, none, some (.return_, 1)]]
def cd_132 : List (List CI) := [[some (.iload_n 0, 1), some (.bipush 97, 2), none, some (.if_icmp .eq 15, 3), none, none, some (.iload_n 0, 1), some (.bipush 98, 2), none, some (.if_icmp .eq 9, 3), none, none, some (.iload_n 0, 1), some (.bipush 99, 2), none, some (.if_icmp .ne 7, 3)],
  [none, none, some (.iconst 1, 1), some (.goto 4, 3), none, none, some (.iconst 0, 1), some (.ireturn, 1)]]
def cd_133 : List (List CI) := [[some (.iload_n 3, 1), some (.aload_n 0, 1), some (.getfield 112, 3), none, none, some (.aload_n 0, 1), some (.getfield 112, 3), none, none, some (.bipush 6, 2), none, some (.iadd, 1), some (.invokestatic 91, 3), none, none, some (.ifCond .eq 43, 3)],
  [none, none, some (.iload 4, 2), none, some (.ifCond .lt 38, 3), none, none, some (.iload 5, 2), none, some (.iconst 1, 1), some (.sipush 240, 3), none, none, some (.invokestatic 91, 3), none, none],
  [some (.ifCond .eq 26, 3), none, none, some (.iload 4, 2), none, some (.sipush 480, 3), none, none, some (.iload 5, 2), none, some (.isub, 1), some (.if_icmp .gt 15, 3), none, none, some (.iload 6, 2), none],
  [some (.invokestatic 153, 3), none, none, some (.ifCond .eq 7, 3), none, none, some (.iconst 1, 1), some (.goto 4, 3), none, none, some (.iconst 0, 1), some (.istore 7, 2), none, some (.aload_n 0, 1), some (.iload_n 1, 1), some (.invokevirtual 128, 3)],
  [none, none, some (.ifCond .eq 11, 3), none, none, some (.aload_n 0, 1), some (.iload_n 2, 1), some (.invokevirtual 157, 3), none, none, some (.ifCond .ne 7, 3), none, none, some (.iconst 1, 1), some (.goto 13, 3), none],
  [none, some (.iload 7, 2), none, some (.ifCond .eq 7, 3), none, none, some (.iconst 0, 1), some (.goto 4, 3), none, none, some (.iconst 2, 1), some (.ireturn, 1)]]
def cd_134 : List (List CI) := [[some (.aload_n 0, 1), some (.getfield 30, 3), none, none, some (.aload_n 0, 1), some (.getfield 101, 3), none, none, some (.iload_n 1, 1), some (.iastore, 1), some (.aload_n 0, 1), some (.getfield 33, 3), none, none, some (.aload_n 0, 1), some (.getfield 101, 3)],
  [none, none, some (.iload_n 2, 1), some (.iastore, 1), some (.aload_n 0, 1), some (.getfield 36, 3), none, none, some (.aload_n 0, 1), some (.getfield 101, 3), none, none, some (.iload_n 3, 1), some (.iastore, 1), some (.aload_n 0, 1), some (.getfield 39, 3)],
  [none, none, some (.aload_n 0, 1), some (.getfield 101, 3), none, none, some (.iload 4, 2), none, some (.iastore, 1), some (.aload_n 0, 1), some (.getfield 42, 3), none, none, some (.aload_n 0, 1), some (.getfield 101, 3), none],
  [none, some (.iload 5, 2), none, some (.iastore, 1), some (.aload_n 0, 1), some (.getfield 45, 3), none, none, some (.aload_n 0, 1), some (.getfield 101, 3), none, none, some (.iload 6, 2), none, some (.castore, 1), some (.aload_n 0, 1)],
  [some (.getfield 49, 3), none, none, some (.aload_n 0, 1), some (.getfield 101, 3), none, none, some (.iload 7, 2), none, some (.castore, 1), some (.aload_n 0, 1), some (.dup, 1), some (.getfield 101, 3), none, none, some (.iconst 1, 1)],
  [some (.iadd, 1), some (.putfield 101, 3), none, none, some (.aload_n 0, 1), some (.getfield 101, 3), none, none, some (.iconst 1, 1), some (.isub, 1), some (.ireturn, 1)]]
def cd_135 : List (List CI) := [[some (.aload_n 0, 1), some (.aload_n 0, 1), some (.iload_n 1, 1), some (.iload_n 2, 1), some (.iload_n 3, 1), some (.iload 4, 2), none, some (.iload 5, 2), none, some (.iload 6, 2), none, some (.invokevirtual 160, 3), none, none, some (.putfield 87, 3), none],
  [none, some (.aload_n 0, 1), some (.getfield 87, 3), none, none, some (.ifCond .le 5, 3), none, none, some (.iconst 0, 1), some (.ireturn, 1), some (.aload_n 0, 1), some (.iload_n 1, 1), some (.iload_n 2, 1), some (.iload_n 3, 1), some (.iload 4, 2), none],
  [some (.iload 5, 2), none, some (.iload 6, 2), none, some (.invokevirtual 149, 3), none, none, some (.istore 7, 2), none, some (.aload_n 0, 1), some (.iload 7, 2), none, some (.bipush 105, 2), none, some (.if_icmp .ne 7, 3), none],
  [none, some (.iconst 3, 1), some (.goto 41, 3), none, none, some (.iload 7, 2), none, some (.bipush 109, 2), none, some (.if_icmp .ne 7, 3), none, none, some (.iconst 4, 1), some (.goto 30, 3), none, none],
  [some (.iload 7, 2), none, some (.bipush 116, 2), none, some (.if_icmp .ne 7, 3), none, none, some (.iconst 5, 1), some (.goto 19, 3), none, none, some (.aload_n 0, 1), some (.getfield 101, 3), none, none, some (.sipush 150, 3)],
  [none, none, some (.if_icmp .ne 8, 3), none, none, some (.bipush 6, 2), none, some (.goto 4, 3), none, none, some (.iconst 0, 1), some (.putfield 87, 3), none, none, some (.aload_n 0, 1), some (.getfield 87, 3)],
  [none, none, some (.ifCond .le 7, 3), none, none, some (.iconst 0, 1), some (.goto 18, 3), none, none, some (.aload_n 0, 1), some (.iload_n 1, 1), some (.iload_n 2, 1), some (.iload_n 3, 1), some (.iload 4, 2), none, some (.iload 5, 2)],
  [none, some (.iload 6, 2), none, some (.bipush 98, 2), none, some (.invokevirtual 164, 3), none, none, some (.ireturn, 1)]]
def cd_136 : List (List CI) := [[some (.aload_n 0, 1), some (.aload_n 0, 1), some (.iload_n 1, 1), some (.iload_n 2, 1), some (.iload_n 3, 1), some (.iload 4, 2), none, some (.iload 5, 2), none, some (.iload 6, 2), none, some (.invokevirtual 160, 3), none, none, some (.putfield 87, 3), none],
  [none, some (.aload_n 0, 1), some (.getfield 87, 3), none, none, some (.ifCond .le 5, 3), none, none, some (.iconst 0, 1), some (.ireturn, 1), some (.aload_n 0, 1), some (.iload_n 1, 1), some (.iload_n 2, 1), some (.iload_n 3, 1), some (.iload 4, 2), none],
  [some (.iload 5, 2), none, some (.iload 6, 2), none, some (.invokevirtual 149, 3), none, none, some (.istore 7, 2), none, some (.aload_n 0, 1), some (.iload 7, 2), none, some (.bipush 105, 2), none, some (.if_icmp .ne 7, 3), none],
  [none, some (.iconst 3, 1), some (.goto 25, 3), none, none, some (.iload 7, 2), none, some (.bipush 111, 2), none, some (.if_icmp .eq 13, 3), none, none, some (.aload_n 0, 1), some (.getfield 101, 3), none, none],
  [some (.sipush 150, 3), none, none, some (.if_icmp .ne 7, 3), none, none, some (.iconst 4, 1), some (.goto 4, 3), none, none, some (.iconst 0, 1), some (.putfield 87, 3), none, none, some (.aload_n 0, 1), some (.getfield 87, 3)],
  [none, none, some (.ifCond .le 7, 3), none, none, some (.iconst 0, 1), some (.goto 18, 3), none, none, some (.aload_n 0, 1), some (.iload_n 1, 1), some (.iload_n 2, 1), some (.iload_n 3, 1), some (.iload 4, 2), none, some (.iload 5, 2)],
  [none, some (.iload 6, 2), none, some (.bipush 119, 2), none, some (.invokevirtual 164, 3), none, none, some (.ireturn, 1)]]
def cd_137 : List (List CI) := [[some (.aload_n 0, 1), some (.aload_n 0, 1), some (.iload_n 1, 1), some (.iload_n 2, 1), some (.iload_n 3, 1), some (.iload 4, 2), none, some (.iload 5, 2), none, some (.iload 6, 2), none, some (.invokevirtual 160, 3), none, none, some (.putfield 87, 3), none],
  [none, some (.aload_n 0, 1), some (.getfield 87, 3), none, none, some (.ifCond .le 7, 3), none, none, some (.iconst 0, 1), some (.goto 16, 3), none, none, some (.aload_n 0, 1), some (.iload_n 1, 1), some (.iload_n 2, 1), some (.iload_n 3, 1)],
  [some (.iload 4, 2), none, some (.iload 5, 2), none, some (.iload 6, 2), none, some (.invokevirtual 149, 3), none, none, some (.ireturn, 1)]]
def cd_138 : List (List CI) := [[some (.aload_n 0, 1), some (.aload_n 0, 1), some (.iload_n 1, 1), some (.invokevirtual 168, 3), none, none, some (.ifCond .ne 7, 3), none, none, some (.iconst 1, 1), some (.goto 30, 3), none, none, some (.aload_n 0, 1), some (.getfield 49, 3), none],
  [none, some (.iload_n 1, 1), some (.caload, 1), some (.bipush 119, 2), none, some (.if_icmp .eq 18, 3), none, none, some (.aload_n 0, 1), some (.getfield 49, 3), none, none, some (.iload_n 1, 1), some (.caload, 1), some (.bipush 98, 2), none],
  [some (.if_icmp .eq 7, 3), none, none, some (.iconst 2, 1), some (.goto 4, 3), none, none, some (.iconst 0, 1), some (.putfield 87, 3), none, none, some (.aload_n 0, 1), some (.getfield 87, 3), none, none, some (.ifCond .le 5, 3)],
  [none, none, some (.iconst 0, 1), some (.ireturn, 1), some (.aload_n 0, 1), some (.getfield 49, 3), none, none, some (.iload_n 1, 1), some (.caload, 1), some (.bipush 119, 2), none, some (.if_icmp .ne 8, 3), none, none, some (.bipush 119, 2)],
  [none, some (.goto 23, 3), none, none, some (.aload_n 0, 1), some (.getfield 36, 3), none, none, some (.iload_n 1, 1), some (.iaload, 1), some (.aload_n 0, 1), some (.getfield 112, 3), none, none, some (.if_icmp .ne 8, 3), none],
  [none, some (.bipush 104, 2), none, some (.goto 5, 3), none, none, some (.bipush 102, 2), none, some (.istore_n 2, 1), some (.aload_n 0, 1), some (.getfield 52, 3), none, none, some (.iload_n 1, 1), some (.iload_n 2, 1), some (.bipush 104, 2)],
  [none, some (.if_icmp .ne 29, 3), none, none, some (.aload_n 0, 1), some (.aload_n 0, 1), some (.getfield 9, 3), none, none, some (.aload_n 0, 1), some (.getfield 33, 3), none, none, some (.iload_n 1, 1), some (.iaload, 1), some (.iaload, 1)],
  [some (.aload_n 0, 1), some (.getfield 42, 3), none, none, some (.iload_n 1, 1), some (.iaload, 1), some (.invokevirtual 171, 3), none, none, some (.iconst 2, 1), some (.idiv, 1), some (.goto 4, 3), none, none, some (.iconst 0, 1), some (.iastore, 1)],
  [some (.aload_n 0, 1), some (.getfield 49, 3), none, none, some (.iload_n 1, 1), some (.bipush 99, 2), none, some (.castore, 1), some (.aload_n 0, 1), some (.invokevirtual 125, 3), none, none, some (.iload_n 2, 1), some (.ireturn, 1)]]
def cd_139 : List (List CI) := [[some (.aload_n 0, 1), some (.aload_n 0, 1), some (.iload_n 1, 1), some (.invokevirtual 168, 3), none, none, some (.ifCond .eq 7, 3), none, none, some (.iconst 0, 1), some (.goto 4, 3), none, none, some (.iconst 1, 1), some (.putfield 87, 3), none],
  [none, some (.aload_n 0, 1), some (.getfield 87, 3), none, none, some (.ifCond .le 7, 3), none, none, some (.iconst 0, 1), some (.goto 9, 3), none, none, some (.aload_n 0, 1), some (.getfield 49, 3), none, none],
  [some (.iload_n 1, 1), some (.caload, 1), some (.ireturn, 1)]]
def cd_140 : List (List CI) := [[some (.aload_n 0, 1), some (.iconst 0, 1), some (.putfield 87, 3), none, none, some (.aload_n 0, 1), some (.getfield 101, 3), none, none, some (.ireturn, 1)]]
def cd_141 : List (List CI) := [[some (.aload_n 0, 1), some (.aload_n 0, 1), some (.getfield 112, 3), none, none, some (.sipush 900, 3), none, none, some (.if_icmp .ne 7, 3), none, none, some (.iconst 1, 1), some (.goto 4, 3), none, none, some (.iconst 0, 1)],
  [some (.putfield 87, 3), none, none, some (.aload_n 0, 1), some (.getfield 87, 3), none, none, some (.ifCond .le 5, 3), none, none, some (.iconst 0, 1), some (.ireturn, 1), some (.iconst 0, 1), some (.istore_n 1, 1), some (.iconst 0, 1), some (.istore_n 2, 1)],
  [some (.iload_n 2, 1), some (.aload_n 0, 1), some (.getfield 101, 3), none, none, some (.if_icmp .ge 166, 3), none, none, some (.aload_n 0, 1), some (.getfield 36, 3), none, none, some (.iload_n 2, 1), some (.iaload, 1), some (.aload_n 0, 1), some (.getfield 112, 3)],
  [none, none, some (.if_icmp .ne 115, 3), none, none, some (.aload_n 0, 1), some (.getfield 49, 3), none, none, some (.iload_n 2, 1), some (.caload, 1), some (.bipush 98, 2), none, some (.if_icmp .ne 104, 3), none, none],
  [some (.aload_n 0, 1), some (.getfield 49, 3), none, none, some (.iload_n 2, 1), some (.bipush 100, 2), none, some (.castore, 1), some (.aload_n 0, 1), some (.getfield 52, 3), none, none, some (.iload_n 2, 1), some (.aload_n 0, 1), some (.aload_n 0, 1), some (.getfield 9, 3)],
  [none, none, some (.aload_n 0, 1), some (.getfield 33, 3), none, none, some (.iload_n 2, 1), some (.iaload, 1), some (.iaload, 1), some (.aload_n 0, 1), some (.getfield 42, 3), none, none, some (.iload_n 2, 1), some (.iaload, 1), some (.invokevirtual 171, 3)],
  [none, none, some (.iastore, 1), some (.iconst 0, 1), some (.istore_n 3, 1), some (.iload_n 3, 1), some (.aload_n 0, 1), some (.getfield 55, 3), none, none, some (.iload_n 2, 1), some (.iaload, 1), some (.if_icmp .ge 51, 3), none, none, some (.aload_n 0, 1)],
  [some (.getfield 52, 3), none, none, some (.iload_n 2, 1), some (.dup2, 1), some (.iaload, 1), some (.aload_n 0, 1), some (.getfield 61, 3), none, none, some (.iload_n 2, 1), some (.aaload, 1), some (.iload_n 3, 1), some (.iaload, 1), some (.aload_n 0, 1), some (.getfield 70, 3)],
  [none, none, some (.aload_n 0, 1), some (.getfield 64, 3), none, none, some (.aload_n 0, 1), some (.getfield 58, 3), none, none, some (.iload_n 2, 1), some (.aaload, 1), some (.iload_n 3, 1), some (.iaload, 1), some (.iaload, 1), some (.iaload, 1)],
  [some (.imul, 1), some (.bipush 99, 2), none, some (.iadd, 1), some (.bipush 100, 2), none, some (.idiv, 1), some (.iadd, 1), some (.iastore, 1), some (.iinc 3 1, 3), none, none, some (.goto (-55), 3), none, none, some (.iinc 1 1, 3)],
  [none, none, some (.goto 35, 3), none, none, some (.aload_n 0, 1), some (.getfield 36, 3), none, none, some (.iload_n 2, 1), some (.iaload, 1), some (.aload_n 0, 1), some (.getfield 112, 3), none, none, some (.if_icmp .ne 22, 3)],
  [none, none, some (.aload_n 0, 1), some (.getfield 49, 3), none, none, some (.iload_n 2, 1), some (.caload, 1), some (.bipush 119, 2), none, some (.if_icmp .ne 11, 3), none, none, some (.aload_n 0, 1), some (.getfield 49, 3), none],
  [none, some (.iload_n 2, 1), some (.bipush 120, 2), none, some (.castore, 1), some (.iinc 2 1, 3), none, none, some (.goto (-168), 3), none, none, some (.aload_n 0, 1), some (.dup, 1), some (.getfield 112, 3), none, none],
  [some (.iconst 1, 1), some (.iadd, 1), some (.putfield 112, 3), none, none, some (.aload_n 0, 1), some (.invokevirtual 125, 3), none, none, some (.iload_n 1, 1), some (.ireturn, 1)]]
def cd_142 : List (List CI) := [[some (.aload_n 0, 1), some (.getfield 49, 3), none, none, some (.iload_n 1, 1), some (.caload, 1), some (.bipush 98, 2), none, some (.if_icmp .eq 14, 3), none, none, some (.aload_n 0, 1), some (.getfield 49, 3), none, none, some (.iload_n 1, 1)],
  [some (.caload, 1), some (.bipush 100, 2), none, some (.if_icmp .ne 27, 3), none, none, some (.aload_n 0, 1), some (.getfield 33, 3), none, none, some (.iload_n 1, 1), some (.iaload, 1), some (.iload_n 2, 1), some (.if_icmp .ne 17, 3), none, none],
  [some (.aload_n 0, 1), some (.getfield 36, 3), none, none, some (.iload_n 1, 1), some (.iaload, 1), some (.iload_n 3, 1), some (.if_icmp .ne 7, 3), none, none, some (.iconst 1, 1), some (.goto 4, 3), none, none, some (.iconst 0, 1), some (.ireturn, 1)]]
def cd_143 : List (List CI) := [[some (.iconst (-1), 1), some (.istore 4, 2), none, some (.iconst (-1), 1), some (.istore 5, 2), none, some (.iconst 0, 1), some (.istore 6, 2), none, some (.iload 6, 2), none, some (.aload_n 0, 1), some (.getfield 101, 3), none, none, some (.if_icmp .ge 123, 3)],
  [none, none, some (.aload_n 0, 1), some (.iload 6, 2), none, some (.iload_n 1, 1), some (.iload_n 2, 1), some (.invokevirtual 175, 3), none, none, some (.ifCond .eq 106, 3), none, none, some (.iload_n 3, 1), some (.aload_n 0, 1), some (.getfield 39, 3)],
  [none, none, some (.iload 6, 2), none, some (.iaload, 1), some (.aload_n 0, 1), some (.iload 6, 2), none, some (.invokevirtual 131, 3), none, none, some (.iconst 1, 1), some (.isub, 1), some (.invokestatic 91, 3), none, none],
  [some (.ifCond .eq 6, 3), none, none, some (.bipush 98, 2), none, some (.ireturn, 1), some (.aload_n 0, 1), some (.getfield 39, 3), none, none, some (.iload 6, 2), none, some (.iaload, 1), some (.iload_n 3, 1), some (.if_icmp .le 38, 3), none],
  [none, some (.iload 4, 2), none, some (.iconst (-1), 1), some (.if_icmp .eq 20, 3), none, none, some (.aload_n 0, 1), some (.getfield 39, 3), none, none, some (.iload 6, 2), none, some (.iaload, 1), some (.aload_n 0, 1), some (.getfield 39, 3)],
  [none, none, some (.iload 4, 2), none, some (.iaload, 1), some (.if_icmp .ge 8, 3), none, none, some (.iload 6, 2), none, some (.goto 5, 3), none, none, some (.iload 4, 2), none, some (.istore 4, 2)],
  [none, some (.goto 35, 3), none, none, some (.iload 5, 2), none, some (.iconst (-1), 1), some (.if_icmp .eq 20, 3), none, none, some (.aload_n 0, 1), some (.getfield 39, 3), none, none, some (.iload 6, 2), none],
  [some (.iaload, 1), some (.aload_n 0, 1), some (.getfield 39, 3), none, none, some (.iload 5, 2), none, some (.iaload, 1), some (.if_icmp .le 8, 3), none, none, some (.iload 6, 2), none, some (.goto 5, 3), none, none],
  [some (.iload 5, 2), none, some (.istore 5, 2), none, some (.iinc 6 1, 3), none, none, some (.goto (-126), 3), none, none, some (.iload 4, 2), none, some (.iconst (-1), 1), some (.if_icmp .eq 44, 3), none, none],
  [some (.iload 5, 2), none, some (.iconst (-1), 1), some (.if_icmp .eq 38, 3), none, none, some (.aload_n 0, 1), some (.getfield 39, 3), none, none, some (.iload 4, 2), none, some (.iaload, 1), some (.iload_n 3, 1), some (.isub, 1), some (.aload_n 0, 1)],
  [some (.iload_n 1, 1), some (.aload_n 0, 1), some (.getfield 45, 3), none, none, some (.iload 5, 2), none, some (.caload, 1), some (.aload_n 0, 1), some (.getfield 45, 3), none, none, some (.iload 4, 2), none, some (.caload, 1), some (.invokevirtual 138, 3)],
  [none, none, some (.if_icmp .gt 7, 3), none, none, some (.iconst 1, 1), some (.goto 4, 3), none, none, some (.iconst 0, 1), some (.istore 6, 2), none, some (.iload 6, 2), none, some (.ifCond .eq 8, 3), none],
  [none, some (.bipush 115, 2), none, some (.goto 5, 3), none, none, some (.bipush 102, 2), none, some (.ireturn, 1)]]
def cd_144 : List (List CI) := [[some (.aload_n 0, 1), some (.aload_n 0, 1), some (.iload_n 1, 1), some (.invokevirtual 157, 3), none, none, some (.ifCond .ne 7, 3), none, none, some (.iconst 1, 1), some (.goto 23, 3), none, none, some (.iload_n 2, 1), some (.iload_n 3, 1), some (.aload_n 0, 1)],
  [some (.getfield 112, 3), none, none, some (.bipush 6, 2), none, some (.iadd, 1), some (.invokestatic 91, 3), none, none, some (.ifCond .ne 7, 3), none, none, some (.iconst 2, 1), some (.goto 4, 3), none, none],
  [some (.iconst 0, 1), some (.putfield 87, 3), none, none, some (.aload_n 0, 1), some (.getfield 87, 3), none, none, some (.ifCond .ne 7, 3), none, none, some (.iconst 1, 1), some (.goto 4, 3), none, none, some (.iconst 0, 1)],
  [some (.ireturn, 1)]]
def cd_145 : List (List CI) := [[some (.aload_n 0, 1), some (.iload_n 1, 1), some (.iload_n 2, 1), some (.iconst 0, 1), some (.invokevirtual 178, 3), none, none, some (.ifCond .ne 5, 3), none, none, some (.iconst 0, 1), some (.ireturn, 1), some (.aload_n 0, 1), some (.iload_n 3, 1), some (.iconst 0, 1), some (.sipush 479, 3)],
  [none, none, some (.invokestatic 91, 3), none, none, some (.ifCond .eq 7, 3), none, none, some (.iconst 0, 1), some (.goto 4, 3), none, none, some (.iconst 2, 1), some (.putfield 87, 3), none, none],
  [some (.aload_n 0, 1), some (.getfield 87, 3), none, none, some (.ifCond .le 7, 3), none, none, some (.iconst 0, 1), some (.goto 10, 3), none, none, some (.aload_n 0, 1), some (.iload_n 1, 1), some (.iload_n 2, 1), some (.iload_n 3, 1), some (.invokevirtual 181, 3)],
  [none, none, some (.ireturn, 1)]]
def cd_146 : List (List CI) := [[some (.iconst 0, 1), some (.istore 4, 2), none, some (.iconst 0, 1), some (.istore 5, 2), none, some (.iload 5, 2), none, some (.sipush 480, 3), none, none, some (.if_icmp .ge 31, 3), none, none, some (.iload 4, 2), none],
  [some (.aload_n 0, 1), some (.iload_n 1, 1), some (.iload_n 2, 1), some (.iload 5, 2), none, some (.invokevirtual 181, 3), none, none, some (.iload_n 3, 1), some (.if_icmp .ne 7, 3), none, none, some (.iconst 1, 1), some (.goto 4, 3), none, none],
  [some (.iconst 0, 1), some (.iadd, 1), some (.istore 4, 2), none, some (.iinc 5 1, 3), none, none, some (.goto (-33), 3), none, none, some (.iload 4, 2), none, some (.ireturn, 1)]]
def cd_147 : List (List CI) := [[some (.iconst 0, 1), some (.istore_n 3, 1), some (.iconst 0, 1), some (.istore 4, 2), none, some (.iload 4, 2), none, some (.aload_n 0, 1), some (.getfield 101, 3), none, none, some (.if_icmp .ge 34, 3), none, none, some (.iload_n 3, 1), some (.aload_n 0, 1)],
  [some (.iload 4, 2), none, some (.iload_n 1, 1), some (.iload_n 2, 1), some (.invokevirtual 175, 3), none, none, some (.ifCond .eq 13, 3), none, none, some (.aload_n 0, 1), some (.getfield 42, 3), none, none, some (.iload 4, 2), none],
  [some (.iaload, 1), some (.goto 4, 3), none, none, some (.iconst 0, 1), some (.iadd, 1), some (.istore_n 3, 1), some (.iinc 4 1, 3), none, none, some (.goto (-37), 3), none, none, some (.iload_n 3, 1), some (.ireturn, 1)]]
def cd_148 : List (List CI) := [[some (.aload_n 0, 1), some (.iload_n 1, 1), some (.iload_n 2, 1), some (.iconst 0, 1), some (.invokevirtual 178, 3), none, none, some (.ifCond .eq 12, 3), none, none, some (.aload_n 0, 1), some (.iload_n 1, 1), some (.iload_n 2, 1), some (.invokevirtual 185, 3), none, none],
  [some (.goto 4, 3), none, none, some (.iconst 0, 1), some (.ireturn, 1)]]
def cd_149 : List (List CI) := [[some (.aload_n 0, 1), some (.iload_n 1, 1), some (.iload_n 2, 1), some (.invokevirtual 188, 3), none, none, some (.ireturn, 1)]]
def cd_150 : List (List CI) := [[some (.aload_n 0, 1), some (.iload_n 1, 1), some (.iload_n 2, 1), some (.iconst 0, 1), some (.invokevirtual 178, 3), none, none, some (.ifCond .eq 14, 3), none, none, some (.aload_n 0, 1), some (.iload_n 1, 1), some (.iload_n 2, 1), some (.bipush 115, 2), none, some (.invokevirtual 191, 3)],
  [none, none, some (.goto 4, 3), none, none, some (.iconst 0, 1), some (.ireturn, 1)]]
def cd_151 : List (List CI) := [[some (.aload_n 0, 1), some (.iload_n 1, 1), some (.iload_n 2, 1), some (.aload_n 0, 1), some (.getfield 112, 3), none, none, some (.invokevirtual 178, 3), none, none, some (.ifCond .ne 5, 3), none, none, some (.iconst 0, 1), some (.ireturn, 1), some (.iload_n 3, 1)],
  [some (.iconst 1, 1), some (.sipush 240, 3), none, none, some (.invokestatic 91, 3), none, none, some (.ifCond .eq 11, 3), none, none, some (.iload 4, 2), none, some (.invokestatic 153, 3), none, none, some (.ifCond .ne 9, 3)],
  [none, none, some (.aload_n 0, 1), some (.iconst 2, 1), some (.invokevirtual 108, 3), none, none, some (.ireturn, 1), some (.iconst 0, 1), some (.istore 5, 2), none, some (.iload 5, 2), none, some (.iload_n 3, 1), some (.iadd, 1), some (.sipush 480, 3)],
  [none, none, some (.if_icmp .gt 26, 3), none, none, some (.aload_n 0, 1), some (.iload_n 1, 1), some (.iload_n 2, 1), some (.iload 5, 2), none, some (.iload_n 3, 1), some (.iload 4, 2), none, some (.invokevirtual 145, 3), none, none],
  [some (.ifCond .eq 6, 3), none, none, some (.iload 5, 2), none, some (.ireturn, 1), some (.iinc 5 1, 3), none, none, some (.goto (-30), 3), none, none, some (.aload_n 0, 1), some (.iconst 3, 1), some (.invokevirtual 108, 3), none],
  [none, some (.ireturn, 1)]]
def cd_152 : List (List CI) := [[some (.aload_n 0, 1), some (.iload_n 1, 1), some (.iload_n 2, 1), some (.iload_n 3, 1), some (.iload 4, 2), none, some (.invokevirtual 195, 3), none, none, some (.ireturn, 1)]]
def cd_153 : List (List CI) := [[some (.iconst 0, 1), some (.istore_n 3, 1), some (.aload_n 0, 1), some (.iload_n 1, 1), some (.iload_n 2, 1), some (.aload_n 0, 1), some (.getfield 112, 3), none, none, some (.invokevirtual 178, 3), none, none, some (.ifCond .eq 63, 3), none, none, some (.iconst 0, 1)],
  [some (.istore 4, 2), none, some (.iload 4, 2), none, some (.aload_n 0, 1), some (.getfield 101, 3), none, none, some (.if_icmp .ge 51, 3), none, none, some (.iload_n 3, 1), some (.aload_n 0, 1), some (.getfield 49, 3), none, none],
  [some (.iload 4, 2), none, some (.caload, 1), some (.bipush 119, 2), none, some (.if_icmp .ne 29, 3), none, none, some (.aload_n 0, 1), some (.getfield 33, 3), none, none, some (.iload 4, 2), none, some (.iaload, 1), some (.iload_n 1, 1)],
  [some (.if_icmp .ne 18, 3), none, none, some (.aload_n 0, 1), some (.getfield 36, 3), none, none, some (.iload 4, 2), none, some (.iaload, 1), some (.iload_n 2, 1), some (.if_icmp .ne 7, 3), none, none, some (.iconst 1, 1), some (.goto 4, 3)],
  [none, none, some (.iconst 0, 1), some (.iadd, 1), some (.istore_n 3, 1), some (.iinc 4 1, 3), none, none, some (.goto (-54), 3), none, none, some (.iload_n 3, 1), some (.ireturn, 1)]]
def cd_154 : List (List CI) := [[some (.aload_n 0, 1), some (.iload_n 1, 1), some (.iconst 0, 1), some (.iconst 2, 1), some (.invokestatic 91, 3), none, none, some (.ifCond .eq 14, 3), none, none, some (.iload_n 2, 1), some (.iconst 1, 1), some (.sipush 5000, 3), none, none, some (.invokestatic 91, 3)],
  [none, none, some (.ifCond .ne 7, 3), none, none, some (.iconst 1, 1), some (.goto 17, 3), none, none, some (.aload_n 0, 1), some (.getfield 199, 3), none, none, some (.bipush 30, 2), none, some (.if_icmp .ne 7, 3)],
  [none, none, some (.iconst 2, 1), some (.goto 4, 3), none, none, some (.iconst 0, 1), some (.putfield 87, 3), none, none, some (.aload_n 0, 1), some (.getfield 87, 3), none, none, some (.ifCond .le 5, 3), none],
  [none, some (.iconst 0, 1), some (.ireturn, 1), some (.aload_n 0, 1), some (.getfield 64, 3), none, none, some (.aload_n 0, 1), some (.getfield 199, 3), none, none, some (.iload_n 1, 1), some (.iastore, 1), some (.aload_n 0, 1), some (.getfield 67, 3), none],
  [none, some (.aload_n 0, 1), some (.getfield 199, 3), none, none, some (.iload_n 2, 1), some (.iastore, 1), some (.aload_n 0, 1), some (.dup, 1), some (.getfield 199, 3), none, none, some (.iconst 1, 1), some (.iadd, 1), some (.putfield 199, 3), none],
  [none, some (.aload_n 0, 1), some (.getfield 199, 3), none, none, some (.iconst 1, 1), some (.isub, 1), some (.ireturn, 1)]]
def cd_155 : List (List CI) := [[some (.aload_n 0, 1), some (.getfield 67, 3), none, none, some (.iload_n 1, 1), some (.iaload, 1), some (.istore_n 2, 1), some (.iconst 0, 1), some (.istore_n 3, 1), some (.iload_n 3, 1), some (.aload_n 0, 1), some (.getfield 101, 3), none, none, some (.if_icmp .ge 82, 3), none],
  [none, some (.iconst 0, 1), some (.istore 4, 2), none, some (.iload 4, 2), none, some (.aload_n 0, 1), some (.getfield 55, 3), none, none, some (.iload_n 3, 1), some (.iaload, 1), some (.if_icmp .ge 62, 3), none, none, some (.aload_n 0, 1)],
  [some (.getfield 49, 3), none, none, some (.iload_n 3, 1), some (.caload, 1), some (.bipush 98, 2), none, some (.if_icmp .eq 14, 3), none, none, some (.aload_n 0, 1), some (.getfield 49, 3), none, none, some (.iload_n 3, 1), some (.caload, 1)],
  [some (.bipush 100, 2), none, some (.if_icmp .ne 40, 3), none, none, some (.iload_n 2, 1), some (.aload_n 0, 1), some (.getfield 58, 3), none, none, some (.iload_n 3, 1), some (.aaload, 1), some (.iload 4, 2), none, some (.iaload, 1), some (.iload_n 1, 1)],
  [some (.if_icmp .ne 17, 3), none, none, some (.aload_n 0, 1), some (.getfield 61, 3), none, none, some (.iload_n 3, 1), some (.aaload, 1), some (.iload 4, 2), none, some (.iaload, 1), some (.iconst 3, 1), some (.iadd, 1), some (.goto 4, 3), none],
  [none, some (.iconst 0, 1), some (.isub, 1), some (.istore_n 2, 1), some (.iinc 4 1, 3), none, none, some (.goto (-67), 3), none, none, some (.iinc 3 1, 3), none, none, some (.goto (-84), 3), none, none],
  [some (.iload_n 2, 1), some (.ireturn, 1)]]
def cd_156 : List (List CI) := [[some (.aload_n 0, 1), some (.aload_n 0, 1), some (.iload_n 1, 1), some (.invokevirtual 168, 3), none, none, some (.ifCond .ne 7, 3), none, none, some (.iconst 1, 1), some (.goto 53, 3), none, none, some (.iload_n 2, 1), some (.iconst 0, 1), some (.iconst 2, 1)],
  [some (.invokestatic 91, 3), none, none, some (.ifCond .eq 14, 3), none, none, some (.iload_n 3, 1), some (.iconst 1, 1), some (.sipush 5000, 3), none, none, some (.invokestatic 91, 3), none, none, some (.ifCond .ne 7, 3), none],
  [none, some (.iconst 2, 1), some (.goto 29, 3), none, none, some (.aload_n 0, 1), some (.getfield 49, 3), none, none, some (.iload_n 1, 1), some (.caload, 1), some (.bipush 98, 2), none, some (.if_icmp .ne 13, 3), none, none],
  [some (.aload_n 0, 1), some (.getfield 55, 3), none, none, some (.iload_n 1, 1), some (.iaload, 1), some (.iconst 5, 1), some (.if_icmp .ne 7, 3), none, none, some (.iconst 3, 1), some (.goto 4, 3), none, none, some (.iconst 0, 1), some (.putfield 87, 3)],
  [none, none, some (.aload_n 0, 1), some (.getfield 87, 3), none, none, some (.ifCond .le 5, 3), none, none, some (.iconst 0, 1), some (.ireturn, 1), some (.iconst (-1), 1), some (.istore 4, 2), none, some (.iconst 0, 1), some (.istore 5, 2)],
  [none, some (.iload 5, 2), none, some (.aload_n 0, 1), some (.getfield 199, 3), none, none, some (.if_icmp .ge 74, 3), none, none, some (.aload_n 0, 1), some (.getfield 64, 3), none, none, some (.iload 5, 2), none],
  [some (.iaload, 1), some (.iload_n 2, 1), some (.if_icmp .ne 19, 3), none, none, some (.aload_n 0, 1), some (.iload 5, 2), none, some (.invokevirtual 202, 3), none, none, some (.iload_n 3, 1), some (.iconst 3, 1), some (.iadd, 1), some (.if_icmp .lt 7, 3), none],
  [none, some (.iconst 1, 1), some (.goto 4, 3), none, none, some (.iconst 0, 1), some (.istore 6, 2), none, some (.iload 6, 2), none, some (.ifCond .eq 29, 3), none, none, some (.iload 4, 2), none, some (.iconst (-1), 1)],
  [some (.if_icmp .eq 18, 3), none, none, some (.aload_n 0, 1), some (.iload 5, 2), none, some (.invokevirtual 202, 3), none, none, some (.aload_n 0, 1), some (.iload 4, 2), none, some (.invokevirtual 202, 3), none, none, some (.if_icmp .ge 8, 3)],
  [none, none, some (.iload 5, 2), none, some (.goto 5, 3), none, none, some (.iload 4, 2), none, some (.istore 4, 2), none, some (.iinc 5 1, 3), none, none, some (.goto (-77), 3), none],
  [none, some (.iload 4, 2), none, some (.iconst (-1), 1), some (.if_icmp .ne 9, 3), none, none, some (.aload_n 0, 1), some (.iconst 4, 1), some (.invokevirtual 108, 3), none, none, some (.ireturn, 1), some (.aload_n 0, 1), some (.getfield 58, 3), none],
  [none, some (.iload_n 1, 1), some (.aaload, 1), some (.aload_n 0, 1), some (.getfield 55, 3), none, none, some (.iload_n 1, 1), some (.iaload, 1), some (.iload 4, 2), none, some (.iastore, 1), some (.aload_n 0, 1), some (.getfield 61, 3), none, none],
  [some (.iload_n 1, 1), some (.aaload, 1), some (.aload_n 0, 1), some (.getfield 55, 3), none, none, some (.iload_n 1, 1), some (.iaload, 1), some (.iload_n 3, 1), some (.iastore, 1), some (.aload_n 0, 1), some (.getfield 55, 3), none, none, some (.iload_n 1, 1), some (.dup2, 1)],
  [some (.iaload, 1), some (.iconst 1, 1), some (.iadd, 1), some (.iastore, 1), some (.iload 4, 2), none, some (.ireturn, 1)]]
def cd_157 : List (List CI) := [[some (.aload_n 0, 1), some (.iload_n 1, 1), some (.iconst 0, 1), some (.aload_n 0, 1), some (.getfield 199, 3), none, none, some (.iconst 1, 1), some (.isub, 1), some (.invokestatic 91, 3), none, none, some (.ifCond .eq 7, 3), none, none, some (.iconst 0, 1)],
  [some (.goto 4, 3), none, none, some (.iconst 1, 1), some (.putfield 87, 3), none, none, some (.aload_n 0, 1), some (.getfield 87, 3), none, none, some (.ifCond .le 7, 3), none, none, some (.iconst 0, 1), some (.goto 8, 3)],
  [none, none, some (.aload_n 0, 1), some (.iload_n 1, 1), some (.invokevirtual 202, 3), none, none, some (.ireturn, 1)]]
def cd_158 : List (List CI) := [[some (.aload_n 0, 1), some (.iload_n 1, 1), some (.invokevirtual 205, 3), none, none, some (.ireturn, 1)]]
def cd_159 : List (List CI) := [[some (.aload_n 0, 1), some (.iload_n 1, 1), some (.iconst 0, 1), some (.iconst 2, 1), some (.invokestatic 91, 3), none, none, some (.ifCond .eq 17, 3), none, none, some (.iload_n 2, 1), some (.iconst 0, 1), some (.bipush 99, 2), none, some (.invokestatic 91, 3), none],
  [none, some (.ifCond .eq 7, 3), none, none, some (.iconst 0, 1), some (.goto 4, 3), none, none, some (.iconst 1, 1), some (.putfield 87, 3), none, none, some (.aload_n 0, 1), some (.getfield 87, 3), none, none],
  [some (.ifCond .le 5, 3), none, none, some (.iconst 0, 1), some (.ireturn, 1), some (.aload_n 0, 1), some (.getfield 70, 3), none, none, some (.iload_n 1, 1), some (.iaload, 1), some (.istore_n 3, 1), some (.aload_n 0, 1), some (.getfield 70, 3), none, none],
  [some (.iload_n 1, 1), some (.iload_n 2, 1), some (.iastore, 1), some (.iload_n 3, 1), some (.ireturn, 1)]]
def cd_160 : List (List CI) := [[some (.iload_n 2, 1), some (.istore_n 3, 1), some (.bipush 6, 2), none, some (.newarray .int, 2), none, some (.astore 4, 2), none, some (.aload_n 0, 1), some (.getfield 81, 3), none, none, some (.iload_n 1, 1), some (.iaload, 1), some (.iconst 1, 1), some (.isub, 1)],
  [some (.istore 5, 2), none, some (.iload 5, 2), none, some (.ifCond .lt 51, 3), none, none, some (.iload_n 3, 1), some (.aload_n 0, 1), some (.getfield 75, 3), none, none, some (.iload_n 1, 1), some (.aaload, 1), some (.iload 5, 2), none],
  [some (.caload, 1), some (.bipush 100, 2), none, some (.if_icmp .ne 21, 3), none, none, some (.iconst 0, 1), some (.iload_n 3, 1), some (.aload_n 0, 1), some (.getfield 78, 3), none, none, some (.iload_n 1, 1), some (.aaload, 1), some (.iload 5, 2), none],
  [some (.iaload, 1), some (.isub, 1), some (.invokestatic 208, 3), none, none, some (.goto 4, 3), none, none, some (.iconst 0, 1), some (.iadd, 1), some (.istore_n 3, 1), some (.aload 4, 2), none, some (.iload 5, 2), none, some (.iload_n 3, 1)],
  [some (.iastore, 1), some (.iinc 5 (-1), 3), none, none, some (.goto (-50), 3), none, none, some (.aload_n 0, 1), some (.getfield 78, 3), none, none, some (.iload_n 1, 1), some (.aaload, 1), some (.iconst 0, 1), some (.iaload, 1), some (.aload 4, 2)],
  [none, some (.iconst 0, 1), some (.iaload, 1), some (.imul, 1), some (.istore 5, 2), none, some (.iconst 1, 1), some (.istore 6, 2), none, some (.iload 6, 2), none, some (.aload_n 0, 1), some (.getfield 81, 3), none, none, some (.iload_n 1, 1)],
  [some (.iaload, 1), some (.if_icmp .ge 88, 3), none, none, some (.aload_n 0, 1), some (.getfield 75, 3), none, none, some (.iload_n 1, 1), some (.aaload, 1), some (.iload 6, 2), none, some (.caload, 1), some (.istore 7, 2), none, some (.aload_n 0, 1)],
  [some (.getfield 78, 3), none, none, some (.iload_n 1, 1), some (.aaload, 1), some (.iload 6, 2), none, some (.iaload, 1), some (.istore 8, 2), none, some (.iload 7, 2), none, some (.bipush 102, 2), none, some (.if_icmp .ne 11, 3), none],
  [none, some (.iload 5, 2), none, some (.iload 8, 2), none, some (.iadd, 1), some (.goto 43, 3), none, none, some (.iload 7, 2), none, some (.bipush 99, 2), none, some (.if_icmp .ne 13, 3), none, none],
  [some (.iload 5, 2), none, some (.iload 8, 2), none, some (.invokestatic 213, 3), none, none, some (.goto 26, 3), none, none, some (.iload 7, 2), none, some (.bipush 112, 2), none, some (.if_icmp .ne 17, 3), none],
  [none, some (.iload 5, 2), none, some (.iload 5, 2), none, some (.iload 8, 2), none, some (.imul, 1), some (.bipush 100, 2), none, some (.idiv, 1), some (.isub, 1), some (.goto 5, 3), none, none, some (.iload 5, 2)],
  [none, some (.istore 5, 2), none, some (.iinc 6 1, 3), none, none, some (.goto (-93), 3), none, none, some (.iload 5, 2), none, some (.ireturn, 1)]]
def cd_161 : List (List CI) := [[some (.aload_n 0, 1), some (.iload_n 1, 1), some (.invokestatic 104, 3), none, none, some (.ifCond .eq 17, 3), none, none, some (.iload_n 2, 1), some (.iconst 0, 1), some (.bipush 99, 2), none, some (.invokestatic 91, 3), none, none, some (.ifCond .eq 7, 3)],
  [none, none, some (.iconst 0, 1), some (.goto 4, 3), none, none, some (.iconst 1, 1), some (.putfield 87, 3), none, none, some (.aload_n 0, 1), some (.getfield 87, 3), none, none, some (.ifCond .le 5, 3), none],
  [none, some (.iconst 0, 1), some (.ireturn, 1), some (.aload_n 0, 1), some (.getfield 81, 3), none, none, some (.iload_n 1, 1), some (.iaload, 1), some (.istore_n 3, 1), some (.aload_n 0, 1), some (.getfield 78, 3), none, none, some (.iload_n 1, 1), some (.aaload, 1)],
  [some (.iconst 0, 1), some (.iload_n 2, 1), some (.iastore, 1), some (.aload_n 0, 1), some (.getfield 81, 3), none, none, some (.iload_n 1, 1), some (.iconst 1, 1), some (.iastore, 1), some (.iload_n 3, 1), some (.ireturn, 1)]]
def cd_162 : List (List CI) := [[some (.aload_n 0, 1), some (.iload_n 1, 1), some (.invokestatic 104, 3), none, none, some (.ifCond .eq 13, 3), none, none, some (.iload_n 3, 1), some (.iconst 0, 1), some (.iload 4, 2), none, some (.invokestatic 91, 3), none, none, some (.ifCond .ne 7, 3)],
  [none, none, some (.iconst 1, 1), some (.goto 19, 3), none, none, some (.aload_n 0, 1), some (.getfield 81, 3), none, none, some (.iload_n 1, 1), some (.iaload, 1), some (.bipush 6, 2), none, some (.if_icmp .ne 7, 3), none],
  [none, some (.iconst 2, 1), some (.goto 4, 3), none, none, some (.iconst 0, 1), some (.putfield 87, 3), none, none, some (.aload_n 0, 1), some (.getfield 87, 3), none, none, some (.ifCond .le 5, 3), none, none],
  [some (.iconst 0, 1), some (.ireturn, 1), some (.aload_n 0, 1), some (.getfield 75, 3), none, none, some (.iload_n 1, 1), some (.aaload, 1), some (.aload_n 0, 1), some (.getfield 81, 3), none, none, some (.iload_n 1, 1), some (.iaload, 1), some (.iload_n 2, 1), some (.castore, 1)],
  [some (.aload_n 0, 1), some (.getfield 78, 3), none, none, some (.iload_n 1, 1), some (.aaload, 1), some (.aload_n 0, 1), some (.getfield 81, 3), none, none, some (.iload_n 1, 1), some (.iaload, 1), some (.iload_n 3, 1), some (.iastore, 1), some (.aload_n 0, 1), some (.getfield 81, 3)],
  [none, none, some (.iload_n 1, 1), some (.dup2, 1), some (.iaload, 1), some (.iconst 1, 1), some (.iadd, 1), some (.iastore, 1), some (.aload_n 0, 1), some (.getfield 81, 3), none, none, some (.iload_n 1, 1), some (.iaload, 1), some (.ireturn, 1)]]
def cd_163 : List (List CI) := [[some (.aload_n 0, 1), some (.iload_n 1, 1), some (.bipush 102, 2), none, some (.iload_n 2, 1), some (.sipush 999, 3), none, none, some (.invokevirtual 216, 3), none, none, some (.ireturn, 1)]]
def cd_164 : List (List CI) := [[some (.aload_n 0, 1), some (.iload_n 1, 1), some (.bipush 99, 2), none, some (.iload_n 2, 1), some (.sipush 9999, 3), none, none, some (.invokevirtual 216, 3), none, none, some (.ireturn, 1)]]
def cd_165 : List (List CI) := [[some (.aload_n 0, 1), some (.iload_n 1, 1), some (.bipush 100, 2), none, some (.iload_n 2, 1), some (.sipush 240, 3), none, none, some (.invokevirtual 216, 3), none, none, some (.ireturn, 1)]]
def cd_166 : List (List CI) := [[some (.aload_n 0, 1), some (.iload_n 1, 1), some (.bipush 112, 2), none, some (.iload_n 2, 1), some (.bipush 100, 2), none, some (.invokevirtual 216, 3), none, none, some (.ireturn, 1)]]
def cd_167 : List (List CI) := [[some (.aload_n 0, 1), some (.iload_n 1, 1), some (.invokestatic 104, 3), none, none, some (.ifCond .eq 18, 3), none, none, some (.iload_n 2, 1), some (.iconst 0, 1), some (.sipush 480, 3), none, none, some (.invokestatic 91, 3), none, none],
  [some (.ifCond .eq 7, 3), none, none, some (.iconst 0, 1), some (.goto 4, 3), none, none, some (.iconst 1, 1), some (.putfield 87, 3), none, none, some (.aload_n 0, 1), some (.getfield 87, 3), none, none, some (.ifCond .le 7, 3)],
  [none, none, some (.iconst 0, 1), some (.goto 9, 3), none, none, some (.aload_n 0, 1), some (.iload_n 1, 1), some (.iload_n 2, 1), some (.invokevirtual 171, 3), none, none, some (.ireturn, 1)]]
def cd_168 : List (List CI) := [[some (.aload_n 0, 1), some (.aload_n 0, 1), some (.iload_n 1, 1), some (.invokevirtual 157, 3), none, none, some (.ifCond .ne 7, 3), none, none, some (.iconst 1, 1), some (.goto 31, 3), none, none, some (.iload_n 2, 1), some (.iconst 1, 1), some (.ldc 220, 2)],
  [none, some (.invokestatic 91, 3), none, none, some (.ifCond .ne 7, 3), none, none, some (.iconst 2, 1), some (.goto 17, 3), none, none, some (.aload_n 0, 1), some (.getfield 221, 3), none, none, some (.bipush 20, 2)],
  [none, some (.if_icmp .ne 7, 3), none, none, some (.iconst 3, 1), some (.goto 4, 3), none, none, some (.iconst 0, 1), some (.putfield 87, 3), none, none, some (.aload_n 0, 1), some (.getfield 87, 3), none, none],
  [some (.ifCond .le 5, 3), none, none, some (.iconst 0, 1), some (.ireturn, 1), some (.bipush 10, 2), none, some (.newarray .int, 2), none, some (.astore_n 3, 1), some (.iconst 0, 1), some (.istore 4, 2), none, some (.iconst 0, 1), some (.istore 5, 2), none],
  [some (.iload 5, 2), none, some (.aload_n 0, 1), some (.getfield 101, 3), none, none, some (.if_icmp .ge 89, 3), none, none, some (.aload_n 0, 1), some (.getfield 49, 3), none, none, some (.iload 5, 2), none, some (.caload, 1)],
  [some (.bipush 100, 2), none, some (.if_icmp .ne 71, 3), none, none, some (.aload_n 0, 1), some (.getfield 33, 3), none, none, some (.iload 5, 2), none, some (.iaload, 1), some (.iload_n 1, 1), some (.if_icmp .ne 60, 3), none, none],
  [some (.aload_n 0, 1), some (.getfield 36, 3), none, none, some (.iload 5, 2), none, some (.iaload, 1), some (.aload_n 0, 1), some (.getfield 112, 3), none, none, some (.bipush 7, 2), none, some (.isub, 1), some (.aload_n 0, 1), some (.getfield 112, 3)],
  [none, none, some (.iconst 1, 1), some (.isub, 1), some (.invokestatic 91, 3), none, none, some (.ifCond .eq 34, 3), none, none, some (.aload_n 3, 1), some (.aload_n 0, 1), some (.getfield 30, 3), none, none, some (.iload 5, 2)],
  [none, some (.iaload, 1), some (.dup2, 1), some (.iaload, 1), some (.aload_n 0, 1), some (.getfield 42, 3), none, none, some (.iload 5, 2), none, some (.iaload, 1), some (.iadd, 1), some (.iastore, 1), some (.iload 4, 2), none, some (.aload_n 0, 1)],
  [some (.getfield 42, 3), none, none, some (.iload 5, 2), none, some (.iaload, 1), some (.iadd, 1), some (.istore 4, 2), none, some (.iinc 5 1, 3), none, none, some (.goto (-92), 3), none, none, some (.aload_n 0, 1)],
  [some (.getfield 221, 3), none, none, some (.istore 5, 2), none, some (.aload_n 0, 1), some (.dup, 1), some (.getfield 221, 3), none, none, some (.iconst 1, 1), some (.iadd, 1), some (.putfield 221, 3), none, none, some (.iload 4, 2)],
  [none, some (.ifCond .ne 5, 3), none, none, some (.iconst 0, 1), some (.ireturn, 1), some (.bipush 10, 2), none, some (.newarray .long, 2), none, some (.astore 6, 2), none, some (.iload_n 2, 1), some (.istore 7, 2), none, some (.iconst 0, 1)],
  [some (.istore 8, 2), none, some (.iload 8, 2), none, some (.aload_n 0, 1), some (.getfield 95, 3), none, none, some (.if_icmp .ge 64, 3), none, none, some (.aload_n 0, 1), some (.getfield 84, 3), none, none, some (.iload 5, 2)],
  [none, some (.aaload, 1), some (.iload 8, 2), none, some (.iload_n 2, 1), some (.i2l, 1), some (.aload_n 3, 1), some (.iload 8, 2), none, some (.iaload, 1), some (.i2l, 1), some (.lmul, 1), some (.iload 4, 2), none, some (.i2l, 1), some (.ldiv, 1)],
  [some (.l2i, 1), some (.iastore, 1), some (.aload 6, 2), none, some (.iload 8, 2), none, some (.iload_n 2, 1), some (.i2l, 1), some (.aload_n 3, 1), some (.iload 8, 2), none, some (.iaload, 1), some (.i2l, 1), some (.lmul, 1), some (.iload 4, 2), none],
  [some (.i2l, 1), some (.lrem, 1), some (.lastore, 1), some (.iload 7, 2), none, some (.aload_n 0, 1), some (.getfield 84, 3), none, none, some (.iload 5, 2), none, some (.aaload, 1), some (.iload 8, 2), none, some (.iaload, 1), some (.isub, 1)],
  [some (.istore 7, 2), none, some (.iinc 8 1, 3), none, none, some (.goto (-67), 3), none, none, some (.iload 7, 2), none, some (.ifCond .le 75, 3), none, none, some (.iconst 0, 1), some (.istore 8, 2), none],
  [some (.iconst 1, 1), some (.istore 9, 2), none, some (.iload 9, 2), none, some (.aload_n 0, 1), some (.getfield 95, 3), none, none, some (.if_icmp .ge 32, 3), none, none, some (.aload 6, 2), none, some (.iload 9, 2), none],
  [some (.laload, 1), some (.aload 6, 2), none, some (.iload 8, 2), none, some (.laload, 1), some (.lcmp, 1), some (.ifCond .le 8, 3), none, none, some (.iload 9, 2), none, some (.goto 5, 3), none, none, some (.iload 8, 2)],
  [none, some (.istore 8, 2), none, some (.iinc 9 1, 3), none, none, some (.goto (-35), 3), none, none, some (.aload_n 0, 1), some (.getfield 84, 3), none, none, some (.iload 5, 2), none, some (.aaload, 1)],
  [some (.iload 8, 2), none, some (.dup2, 1), some (.iaload, 1), some (.iconst 1, 1), some (.iadd, 1), some (.iastore, 1), some (.aload 6, 2), none, some (.iload 8, 2), none, some (.ldc2_w 224, 3), none, none, some (.lastore, 1), some (.iinc 7 (-1), 3)],
  [none, none, some (.goto (-74), 3), none, none, some (.iload 4, 2), none, some (.ireturn, 1)]]
def cd_169 : List (List CI) := [[some (.aload_n 0, 1), some (.iload_n 1, 1), some (.iconst 0, 1), some (.aload_n 0, 1), some (.getfield 221, 3), none, none, some (.iconst 1, 1), some (.isub, 1), some (.invokestatic 91, 3), none, none, some (.ifCond .ne 7, 3), none, none, some (.iconst 1, 1)],
  [some (.goto 16, 3), none, none, some (.aload_n 0, 1), some (.iload_n 2, 1), some (.invokevirtual 128, 3), none, none, some (.ifCond .ne 7, 3), none, none, some (.iconst 2, 1), some (.goto 4, 3), none, none, some (.iconst 0, 1)],
  [some (.putfield 87, 3), none, none, some (.aload_n 0, 1), some (.getfield 87, 3), none, none, some (.ifCond .le 7, 3), none, none, some (.iconst 0, 1), some (.goto 11, 3), none, none, some (.aload_n 0, 1), some (.getfield 84, 3)],
  [none, none, some (.iload_n 1, 1), some (.aaload, 1), some (.iload_n 2, 1), some (.iaload, 1), some (.ireturn, 1)]]
def cd_170 : List (List CI) := [[some (.aload_n 0, 1), some (.getfield 21, 3), none, none, some (.iload_n 1, 1), some (.laload, 1), some (.lneg, 1), some (.lstore_n 2, 1), some (.iconst 0, 1), some (.istore 4, 2), none, some (.iload 4, 2), none, some (.aload_n 0, 1), some (.getfield 101, 3), none],
  [none, some (.if_icmp .ge 35, 3), none, none, some (.lload_n 2, 1), some (.aload_n 0, 1), some (.getfield 30, 3), none, none, some (.iload 4, 2), none, some (.iaload, 1), some (.iload_n 1, 1), some (.if_icmp .ne 14, 3), none, none],
  [some (.aload_n 0, 1), some (.getfield 52, 3), none, none, some (.iload 4, 2), none, some (.iaload, 1), some (.i2l, 1), some (.goto 4, 3), none, none, some (.lconst 0, 1), some (.ladd, 1), some (.lstore_n 2, 1), some (.iinc 4 1, 3), none],
  [none, some (.goto (-38), 3), none, none, some (.iconst 0, 1), some (.istore 4, 2), none, some (.iload 4, 2), none, some (.aload_n 0, 1), some (.getfield 221, 3), none, none, some (.if_icmp .ge 22, 3), none, none],
  [some (.lload_n 2, 1), some (.aload_n 0, 1), some (.getfield 84, 3), none, none, some (.iload 4, 2), none, some (.aaload, 1), some (.iload_n 1, 1), some (.iaload, 1), some (.i2l, 1), some (.ladd, 1), some (.lstore_n 2, 1), some (.iinc 4 1, 3), none, none],
  [some (.goto (-25), 3), none, none, some (.lload_n 2, 1), some (.lreturn, 1)]]
def cd_171 : List (List CI) := [[some (.aload_n 0, 1), some (.aload_n 0, 1), some (.iload_n 1, 1), some (.invokevirtual 128, 3), none, none, some (.ifCond .ne 7, 3), none, none, some (.iconst 1, 1), some (.goto 38, 3), none, none, some (.iload_n 2, 1), some (.iconst 1, 1), some (.ldc 226, 2)],
  [none, some (.invokestatic 91, 3), none, none, some (.ifCond .ne 7, 3), none, none, some (.iconst 2, 1), some (.goto 24, 3), none, none, some (.aload_n 0, 1), some (.getfield 21, 3), none, none, some (.iload_n 1, 1)],
  [some (.laload, 1), some (.iload_n 2, 1), some (.i2l, 1), some (.ladd, 1), some (.ldc2_w 227, 3), none, none, some (.lcmp, 1), some (.ifCond .le 7, 3), none, none, some (.iconst 3, 1), some (.goto 4, 3), none, none, some (.iconst 0, 1)],
  [some (.putfield 87, 3), none, none, some (.aload_n 0, 1), some (.getfield 87, 3), none, none, some (.ifCond .le 5, 3), none, none, some (.iconst 0, 1), some (.ireturn, 1), some (.aload_n 0, 1), some (.getfield 21, 3), none, none],
  [some (.iload_n 1, 1), some (.dup2, 1), some (.laload, 1), some (.iload_n 2, 1), some (.i2l, 1), some (.ladd, 1), some (.lastore, 1), some (.aload_n 0, 1), some (.iload_n 1, 1), some (.invokevirtual 229, 3), none, none, some (.l2i, 1), some (.ireturn, 1)]]
def cd_172 : List (List CI) := [[some (.aload_n 0, 1), some (.aload_n 0, 1), some (.iload_n 1, 1), some (.invokevirtual 128, 3), none, none, some (.ifCond .eq 7, 3), none, none, some (.iconst 0, 1), some (.goto 4, 3), none, none, some (.iconst 1, 1), some (.putfield 87, 3), none],
  [none, some (.aload_n 0, 1), some (.getfield 87, 3), none, none, some (.ifCond .le 7, 3), none, none, some (.iconst 0, 1), some (.goto 9, 3), none, none, some (.aload_n 0, 1), some (.iload_n 1, 1), some (.invokevirtual 229, 3), none],
  [none, some (.l2i, 1), some (.ireturn, 1)]]
def cd_173 : List (List CI) := [[some (.aload_n 0, 1), some (.iload_n 1, 1), some (.invokevirtual 233, 3), none, none, some (.ireturn, 1)]]
def cd_174 : List (List CI) := [[some (.aload_n 0, 1), some (.aload_n 0, 1), some (.iload_n 1, 1), some (.invokevirtual 168, 3), none, none, some (.ifCond .eq 7, 3), none, none, some (.iconst 0, 1), some (.goto 4, 3), none, none, some (.iconst 1, 1), some (.putfield 87, 3), none],
  [none, some (.aload_n 0, 1), some (.getfield 87, 3), none, none, some (.ifCond .le 7, 3), none, none, some (.iconst 0, 1), some (.goto 9, 3), none, none, some (.aload_n 0, 1), some (.getfield 52, 3), none, none],
  [some (.iload_n 1, 1), some (.iaload, 1), some (.ireturn, 1)]]
def cd_175 : List (List CI) := [[some (.aload_n 0, 1), some (.iconst 0, 1), some (.putfield 87, 3), none, none, some (.lconst 0, 1), some (.lstore_n 1, 1), some (.iconst 0, 1), some (.istore_n 3, 1), some (.iload_n 3, 1), some (.aload_n 0, 1), some (.getfield 95, 3), none, none, some (.if_icmp .ge 18, 3), none],
  [none, some (.lload_n 1, 1), some (.aload_n 0, 1), some (.getfield 21, 3), none, none, some (.iload_n 3, 1), some (.laload, 1), some (.ladd, 1), some (.lstore_n 1, 1), some (.iinc 3 1, 3), none, none, some (.goto (-20), 3), none, none],
  [some (.lload_n 1, 1), some (.lreturn, 1)]]
def cd_176 : List (List CI) := [[some (.aload_n 0, 1), some (.iload_n 1, 1), some (.iload_n 2, 1), some (.iconst 0, 1), some (.invokevirtual 178, 3), none, none, some (.ifCond .eq 16, 3), none, none, some (.aload_n 0, 1), some (.iload_n 1, 1), some (.iload_n 2, 1), some (.invokevirtual 185, 3), none, none],
  [some (.i2f, 1), some (.ldc 236, 2), none, some (.fdiv, 1), some (.goto 4, 3), none, none, some (.fconst 0, 1), some (.freturn, 1)]]
def cd_177 : List (List CI) := [[some (.iconst 0, 1), some (.istore_n 1, 1), some (.iconst 0, 1), some (.istore_n 2, 1), some (.iconst 0, 1), some (.istore_n 3, 1), some (.iload_n 3, 1), some (.aload_n 0, 1), some (.getfield 101, 3), none, none, some (.if_icmp .ge 52, 3), none, none, some (.iload_n 1, 1), some (.aload_n 0, 1)],
  [some (.getfield 49, 3), none, none, some (.iload_n 3, 1), some (.caload, 1), some (.bipush 100, 2), none, some (.if_icmp .ne 12, 3), none, none, some (.aload_n 0, 1), some (.getfield 42, 3), none, none, some (.iload_n 3, 1), some (.iaload, 1)],
  [some (.goto 4, 3), none, none, some (.iconst 0, 1), some (.iadd, 1), some (.istore_n 1, 1), some (.iload_n 2, 1), some (.aload_n 0, 1), some (.getfield 49, 3), none, none, some (.iload_n 3, 1), some (.caload, 1), some (.bipush 100, 2), none, some (.if_icmp .ne 7, 3)],
  [none, none, some (.iconst 1, 1), some (.goto 4, 3), none, none, some (.iconst 0, 1), some (.iadd, 1), some (.istore_n 2, 1), some (.iinc 3 1, 3), none, none, some (.goto (-54), 3), none, none, some (.aload_n 0, 1)],
  [some (.iload_n 2, 1), some (.ifCond .ne 7, 3), none, none, some (.iconst 1, 1), some (.goto 4, 3), none, none, some (.iconst 0, 1), some (.putfield 87, 3), none, none, some (.aload_n 0, 1), some (.getfield 87, 3), none, none],
  [some (.ifCond .le 7, 3), none, none, some (.dconst 0, 1), some (.goto 8, 3), none, none, some (.iload_n 1, 1), some (.i2d, 1), some (.iload_n 2, 1), some (.i2d, 1), some (.ddiv, 1), some (.dreturn, 1)]]
def cd_178 : List (List CI) := [[some (.aload_n 0, 1), some (.iconst 0, 1), some (.putfield 87, 3), none, none, some (.iconst 1, 1), some (.ireturn, 1)]]
def cd_179 : List (List CI) := [[some (.aload_n 3, 1), some (.iconst 0, 1), some (.aload_n 0, 1), some (.iload_n 1, 1), some (.iload_n 2, 1), some (.invokevirtual 7, 3), none, none, some (.i2l, 1), some (.lastore, 1), some (.goto 11, 3), none, none, some (.astore 4, 2), none, some (.iconst 1, 1)],
  [some (.ireturn, 1), some (.astore 4, 2), none, some (.iconst 2, 1), some (.ireturn, 1), some (.iconst 0, 1), some (.ireturn, 1)]]
def cd_180 : List (List CI) := [[some (.aload_n 1, 1), some (.iconst 0, 1), some (.aload_n 0, 1), some (.invokevirtual 17, 3), none, none, some (.i2l, 1), some (.lastore, 1), some (.goto 6, 3), none, none, some (.astore_n 2, 1), some (.iconst 1, 1), some (.ireturn, 1), some (.iconst 0, 1), some (.ireturn, 1)]]
def cd_181 : List (List CI) := [[some (.aload_n 3, 1), some (.iconst 0, 1), some (.aload_n 0, 1), some (.iload_n 1, 1), some (.iload_n 2, 1), some (.invokevirtual 21, 3), none, none, some (.ifCond .eq 7, 3), none, none, some (.lconst 1, 1), some (.goto 4, 3), none, none, some (.lconst 0, 1)],
  [some (.lastore, 1), some (.goto 11, 3), none, none, some (.astore 4, 2), none, some (.iconst 1, 1), some (.ireturn, 1), some (.astore 4, 2), none, some (.iconst 2, 1), some (.ireturn, 1), some (.iconst 0, 1), some (.ireturn, 1)]]
def cd_182 : List (List CI) := [[some (.aload_n 3, 1), some (.iconst 0, 1), some (.aload_n 0, 1), some (.iload_n 1, 1), some (.iload_n 2, 1), some (.invokevirtual 25, 3), none, none, some (.i2l, 1), some (.lastore, 1), some (.goto 15, 3), none, none, some (.astore 4, 2), none, some (.iconst 1, 1)],
  [some (.ireturn, 1), some (.astore 4, 2), none, some (.iconst 2, 1), some (.ireturn, 1), some (.astore 4, 2), none, some (.iconst 3, 1), some (.ireturn, 1), some (.iconst 0, 1), some (.ireturn, 1)]]
def cd_183 : List (List CI) := [[some (.aload 4, 2), none, some (.iconst 0, 1), some (.aload_n 0, 1), some (.iload_n 1, 1), some (.iload_n 2, 1), some (.iload_n 3, 1), some (.invokevirtual 32, 3), none, none, some (.ifCond .eq 7, 3), none, none, some (.lconst 1, 1), some (.goto 4, 3), none],
  [none, some (.lconst 0, 1), some (.lastore, 1), some (.goto 11, 3), none, none, some (.astore 5, 2), none, some (.iconst 1, 1), some (.ireturn, 1), some (.astore 5, 2), none, some (.iconst 2, 1), some (.ireturn, 1), some (.iconst 0, 1), some (.ireturn, 1)]]
def cd_184 : List (List CI) := [[some (.aload 7, 2), none, some (.iconst 0, 1), some (.aload_n 0, 1), some (.iload_n 1, 1), some (.iload_n 2, 1), some (.iload_n 3, 1), some (.iload 4, 2), none, some (.iload 5, 2), none, some (.iload 6, 2), none, some (.invokevirtual 36, 3), none, none],
  [some (.i2l, 1), some (.lastore, 1), some (.goto 28, 3), none, none, some (.astore 8, 2), none, some (.iconst 1, 1), some (.ireturn, 1), some (.astore 8, 2), none, some (.iconst 2, 1), some (.ireturn, 1), some (.astore 8, 2), none, some (.iconst 3, 1)],
  [some (.ireturn, 1), some (.astore 8, 2), none, some (.iconst 4, 1), some (.ireturn, 1), some (.astore 8, 2), none, some (.iconst 5, 1), some (.ireturn, 1), some (.astore 8, 2), none, some (.bipush 6, 2), none, some (.ireturn, 1), some (.iconst 0, 1), some (.ireturn, 1)]]
def cd_185 : List (List CI) := [[some (.aload 7, 2), none, some (.iconst 0, 1), some (.aload_n 0, 1), some (.iload_n 1, 1), some (.iload_n 2, 1), some (.iload_n 3, 1), some (.iload 4, 2), none, some (.iload 5, 2), none, some (.iload 6, 2), none, some (.invokevirtual 44, 3), none, none],
  [some (.i2l, 1), some (.lastore, 1), some (.goto 19, 3), none, none, some (.astore 8, 2), none, some (.iconst 1, 1), some (.ireturn, 1), some (.astore 8, 2), none, some (.iconst 2, 1), some (.ireturn, 1), some (.astore 8, 2), none, some (.iconst 3, 1)],
  [some (.ireturn, 1), some (.astore 8, 2), none, some (.iconst 4, 1), some (.ireturn, 1), some (.iconst 0, 1), some (.ireturn, 1)]]
def cd_186 : List (List CI) := [[some (.aload 7, 2), none, some (.iconst 0, 1), some (.aload_n 0, 1), some (.iload_n 1, 1), some (.iload_n 2, 1), some (.iload_n 3, 1), some (.iload 4, 2), none, some (.iload 5, 2), none, some (.iload 6, 2), none, some (.invokevirtual 47, 3), none, none],
  [some (.i2l, 1), some (.lastore, 1), some (.goto 11, 3), none, none, some (.astore 8, 2), none, some (.iconst 1, 1), some (.ireturn, 1), some (.astore 8, 2), none, some (.iconst 2, 1), some (.ireturn, 1), some (.iconst 0, 1), some (.ireturn, 1)]]
def cd_187 : List (List CI) := [[some (.aload_n 2, 1), some (.iconst 0, 1), some (.aload_n 0, 1), some (.iload_n 1, 1), some (.invokevirtual 51, 3), none, none, some (.i2l, 1), some (.lastore, 1), some (.goto 9, 3), none, none, some (.astore_n 3, 1), some (.iconst 1, 1), some (.ireturn, 1), some (.astore_n 3, 1)],
  [some (.iconst 2, 1), some (.ireturn, 1), some (.iconst 0, 1), some (.ireturn, 1)]]
def cd_188 : List (List CI) := [[some (.aload_n 2, 1), some (.iconst 0, 1), some (.aload_n 0, 1), some (.iload_n 1, 1), some (.invokevirtual 55, 3), none, none, some (.i2l, 1), some (.lastore, 1), some (.goto 6, 3), none, none, some (.astore_n 3, 1), some (.iconst 1, 1), some (.ireturn, 1), some (.iconst 0, 1)],
  [some (.ireturn, 1)]]
def cd_189 : List (List CI) := [[some (.aload_n 1, 1), some (.iconst 0, 1), some (.aload_n 0, 1), some (.invokevirtual 58, 3), none, none, some (.i2l, 1), some (.lastore, 1), some (.goto 6, 3), none, none, some (.astore_n 2, 1), some (.iconst 1, 1), some (.ireturn, 1), some (.iconst 0, 1), some (.ireturn, 1)]]
def cd_190 : List (List CI) := [[some (.aload 4, 2), none, some (.iconst 0, 1), some (.aload_n 0, 1), some (.iload_n 1, 1), some (.iload_n 2, 1), some (.iload_n 3, 1), some (.invokevirtual 61, 3), none, none, some (.i2l, 1), some (.lastore, 1), some (.goto 11, 3), none, none, some (.astore 5, 2)],
  [none, some (.iconst 1, 1), some (.ireturn, 1), some (.astore 5, 2), none, some (.iconst 2, 1), some (.ireturn, 1), some (.iconst 0, 1), some (.ireturn, 1)]]
def cd_191 : List (List CI) := [[some (.aload_n 3, 1), some (.iconst 0, 1), some (.aload_n 0, 1), some (.iload_n 1, 1), some (.iload_n 2, 1), some (.invokevirtual 65, 3), none, none, some (.i2l, 1), some (.lastore, 1), some (.goto 11, 3), none, none, some (.astore 4, 2), none, some (.iconst 1, 1)],
  [some (.ireturn, 1), some (.astore 4, 2), none, some (.iconst 2, 1), some (.ireturn, 1), some (.iconst 0, 1), some (.ireturn, 1)]]
def cd_192 : List (List CI) := [[some (.aload_n 3, 1), some (.iconst 0, 1), some (.aload_n 0, 1), some (.iload_n 1, 1), some (.iload_n 2, 1), some (.invokevirtual 68, 3), none, none, some (.i2l, 1), some (.lastore, 1), some (.goto 11, 3), none, none, some (.astore 4, 2), none, some (.iconst 1, 1)],
  [some (.ireturn, 1), some (.astore 4, 2), none, some (.iconst 2, 1), some (.ireturn, 1), some (.iconst 0, 1), some (.ireturn, 1)]]
def cd_193 : List (List CI) := [[some (.aload_n 3, 1), some (.iconst 0, 1), some (.aload_n 0, 1), some (.iload_n 1, 1), some (.iload_n 2, 1), some (.invokevirtual 71, 3), none, none, some (.i2l, 1), some (.lastore, 1), some (.goto 11, 3), none, none, some (.astore 4, 2), none, some (.iconst 1, 1)],
  [some (.ireturn, 1), some (.astore 4, 2), none, some (.iconst 2, 1), some (.ireturn, 1), some (.iconst 0, 1), some (.ireturn, 1)]]
def cd_194 : List (List CI) := [[some (.aload 5, 2), none, some (.iconst 0, 1), some (.aload_n 0, 1), some (.iload_n 1, 1), some (.iload_n 2, 1), some (.iload_n 3, 1), some (.iload 4, 2), none, some (.invokevirtual 74, 3), none, none, some (.i2l, 1), some (.lastore, 1), some (.goto 15, 3), none],
  [none, some (.astore 6, 2), none, some (.iconst 1, 1), some (.ireturn, 1), some (.astore 6, 2), none, some (.iconst 2, 1), some (.ireturn, 1), some (.astore 6, 2), none, some (.iconst 3, 1), some (.ireturn, 1), some (.iconst 0, 1), some (.ireturn, 1)]]
def cd_195 : List (List CI) := [[some (.aload 5, 2), none, some (.iconst 0, 1), some (.aload_n 0, 1), some (.iload_n 1, 1), some (.iload_n 2, 1), some (.iload_n 3, 1), some (.iload 4, 2), none, some (.invokevirtual 78, 3), none, none, some (.i2l, 1), some (.lastore, 1), some (.goto 15, 3), none],
  [none, some (.astore 6, 2), none, some (.iconst 1, 1), some (.ireturn, 1), some (.astore 6, 2), none, some (.iconst 2, 1), some (.ireturn, 1), some (.astore 6, 2), none, some (.iconst 3, 1), some (.ireturn, 1), some (.iconst 0, 1), some (.ireturn, 1)]]
def cd_196 : List (List CI) := [[some (.aload_n 3, 1), some (.iconst 0, 1), some (.aload_n 0, 1), some (.iload_n 1, 1), some (.iload_n 2, 1), some (.invokevirtual 81, 3), none, none, some (.i2l, 1), some (.lastore, 1), some (.goto 11, 3), none, none, some (.astore 4, 2), none, some (.iconst 1, 1)],
  [some (.ireturn, 1), some (.astore 4, 2), none, some (.iconst 2, 1), some (.ireturn, 1), some (.iconst 0, 1), some (.ireturn, 1)]]
def cd_197 : List (List CI) := [[some (.aload_n 3, 1), some (.iconst 0, 1), some (.aload_n 0, 1), some (.iload_n 1, 1), some (.iload_n 2, 1), some (.invokevirtual 84, 3), none, none, some (.i2l, 1), some (.lastore, 1), some (.goto 11, 3), none, none, some (.astore 4, 2), none, some (.iconst 1, 1)],
  [some (.ireturn, 1), some (.astore 4, 2), none, some (.iconst 2, 1), some (.ireturn, 1), some (.iconst 0, 1), some (.ireturn, 1)]]
def cd_198 : List (List CI) := [[some (.aload 4, 2), none, some (.iconst 0, 1), some (.aload_n 0, 1), some (.iload_n 1, 1), some (.iload_n 2, 1), some (.iload_n 3, 1), some (.invokevirtual 87, 3), none, none, some (.i2l, 1), some (.lastore, 1), some (.goto 19, 3), none, none, some (.astore 5, 2)],
  [none, some (.iconst 1, 1), some (.ireturn, 1), some (.astore 5, 2), none, some (.iconst 2, 1), some (.ireturn, 1), some (.astore 5, 2), none, some (.iconst 3, 1), some (.ireturn, 1), some (.astore 5, 2), none, some (.iconst 4, 1), some (.ireturn, 1), some (.iconst 0, 1)],
  [some (.ireturn, 1)]]
def cd_199 : List (List CI) := [[some (.aload_n 2, 1), some (.iconst 0, 1), some (.aload_n 0, 1), some (.iload_n 1, 1), some (.invokevirtual 91, 3), none, none, some (.i2l, 1), some (.lastore, 1), some (.goto 6, 3), none, none, some (.astore_n 3, 1), some (.iconst 1, 1), some (.ireturn, 1), some (.iconst 0, 1)],
  [some (.ireturn, 1)]]
def cd_200 : List (List CI) := [[some (.aload_n 2, 1), some (.iconst 0, 1), some (.aload_n 0, 1), some (.iload_n 1, 1), some (.invokevirtual 95, 3), none, none, some (.i2l, 1), some (.lastore, 1), some (.goto 6, 3), none, none, some (.astore_n 3, 1), some (.iconst 1, 1), some (.ireturn, 1), some (.iconst 0, 1)],
  [some (.ireturn, 1)]]
def cd_201 : List (List CI) := [[some (.aload_n 3, 1), some (.iconst 0, 1), some (.aload_n 0, 1), some (.iload_n 1, 1), some (.iload_n 2, 1), some (.invokevirtual 98, 3), none, none, some (.i2l, 1), some (.lastore, 1), some (.goto 7, 3), none, none, some (.astore 4, 2), none, some (.iconst 1, 1)],
  [some (.ireturn, 1), some (.iconst 0, 1), some (.ireturn, 1)]]
def cd_202 : List (List CI) := [[some (.aload_n 3, 1), some (.iconst 0, 1), some (.aload_n 0, 1), some (.iload_n 1, 1), some (.iload_n 2, 1), some (.invokevirtual 101, 3), none, none, some (.i2l, 1), some (.lastore, 1), some (.goto 7, 3), none, none, some (.astore 4, 2), none, some (.iconst 1, 1)],
  [some (.ireturn, 1), some (.iconst 0, 1), some (.ireturn, 1)]]
def cd_203 : List (List CI) := [[some (.aload_n 3, 1), some (.iconst 0, 1), some (.aload_n 0, 1), some (.iload_n 1, 1), some (.iload_n 2, 1), some (.invokevirtual 104, 3), none, none, some (.i2l, 1), some (.lastore, 1), some (.goto 11, 3), none, none, some (.astore 4, 2), none, some (.iconst 1, 1)],
  [some (.ireturn, 1), some (.astore 4, 2), none, some (.iconst 2, 1), some (.ireturn, 1), some (.iconst 0, 1), some (.ireturn, 1)]]
def cd_204 : List (List CI) := [[some (.aload_n 3, 1), some (.iconst 0, 1), some (.aload_n 0, 1), some (.iload_n 1, 1), some (.iload_n 2, 1), some (.invokevirtual 107, 3), none, none, some (.i2l, 1), some (.lastore, 1), some (.goto 11, 3), none, none, some (.astore 4, 2), none, some (.iconst 1, 1)],
  [some (.ireturn, 1), some (.astore 4, 2), none, some (.iconst 2, 1), some (.ireturn, 1), some (.iconst 0, 1), some (.ireturn, 1)]]
def cd_205 : List (List CI) := [[some (.aload_n 3, 1), some (.iconst 0, 1), some (.aload_n 0, 1), some (.iload_n 1, 1), some (.iload_n 2, 1), some (.invokevirtual 110, 3), none, none, some (.i2l, 1), some (.lastore, 1), some (.goto 11, 3), none, none, some (.astore 4, 2), none, some (.iconst 1, 1)],
  [some (.ireturn, 1), some (.astore 4, 2), none, some (.iconst 2, 1), some (.ireturn, 1), some (.iconst 0, 1), some (.ireturn, 1)]]
def cd_206 : List (List CI) := [[some (.aload_n 3, 1), some (.iconst 0, 1), some (.aload_n 0, 1), some (.iload_n 1, 1), some (.iload_n 2, 1), some (.invokevirtual 113, 3), none, none, some (.i2l, 1), some (.lastore, 1), some (.goto 11, 3), none, none, some (.astore 4, 2), none, some (.iconst 1, 1)],
  [some (.ireturn, 1), some (.astore 4, 2), none, some (.iconst 2, 1), some (.ireturn, 1), some (.iconst 0, 1), some (.ireturn, 1)]]
def cd_207 : List (List CI) := [[some (.aload_n 3, 1), some (.iconst 0, 1), some (.aload_n 0, 1), some (.iload_n 1, 1), some (.iload_n 2, 1), some (.invokevirtual 116, 3), none, none, some (.i2l, 1), some (.lastore, 1), some (.goto 7, 3), none, none, some (.astore 4, 2), none, some (.iconst 1, 1)],
  [some (.ireturn, 1), some (.iconst 0, 1), some (.ireturn, 1)]]
def cd_208 : List (List CI) := [[some (.aload_n 3, 1), some (.iconst 0, 1), some (.aload_n 0, 1), some (.iload_n 1, 1), some (.iload_n 2, 1), some (.invokevirtual 119, 3), none, none, some (.i2l, 1), some (.lastore, 1), some (.goto 15, 3), none, none, some (.astore 4, 2), none, some (.iconst 1, 1)],
  [some (.ireturn, 1), some (.astore 4, 2), none, some (.iconst 2, 1), some (.ireturn, 1), some (.astore 4, 2), none, some (.iconst 3, 1), some (.ireturn, 1), some (.iconst 0, 1), some (.ireturn, 1)]]
def cd_209 : List (List CI) := [[some (.aload_n 3, 1), some (.iconst 0, 1), some (.aload_n 0, 1), some (.iload_n 1, 1), some (.iload_n 2, 1), some (.invokevirtual 122, 3), none, none, some (.i2l, 1), some (.lastore, 1), some (.goto 11, 3), none, none, some (.astore 4, 2), none, some (.iconst 1, 1)],
  [some (.ireturn, 1), some (.astore 4, 2), none, some (.iconst 2, 1), some (.ireturn, 1), some (.iconst 0, 1), some (.ireturn, 1)]]
def cd_210 : List (List CI) := [[some (.aload_n 3, 1), some (.iconst 0, 1), some (.aload_n 0, 1), some (.iload_n 1, 1), some (.iload_n 2, 1), some (.invokevirtual 125, 3), none, none, some (.i2l, 1), some (.lastore, 1), some (.goto 15, 3), none, none, some (.astore 4, 2), none, some (.iconst 1, 1)],
  [some (.ireturn, 1), some (.astore 4, 2), none, some (.iconst 2, 1), some (.ireturn, 1), some (.astore 4, 2), none, some (.iconst 3, 1), some (.ireturn, 1), some (.iconst 0, 1), some (.ireturn, 1)]]
def cd_211 : List (List CI) := [[some (.aload_n 2, 1), some (.iconst 0, 1), some (.aload_n 0, 1), some (.iload_n 1, 1), some (.invokevirtual 128, 3), none, none, some (.i2l, 1), some (.lastore, 1), some (.goto 6, 3), none, none, some (.astore_n 3, 1), some (.iconst 1, 1), some (.ireturn, 1), some (.iconst 0, 1)],
  [some (.ireturn, 1)]]
def cd_212 : List (List CI) := [[some (.aload_n 2, 1), some (.iconst 0, 1), some (.aload_n 0, 1), some (.iload_n 1, 1), some (.invokevirtual 131, 3), none, none, some (.i2l, 1), some (.lastore, 1), some (.goto 6, 3), none, none, some (.astore_n 3, 1), some (.iconst 1, 1), some (.ireturn, 1), some (.iconst 0, 1)],
  [some (.ireturn, 1)]]
def cd_213 : List (List CI) := [[some (.aload_n 2, 1), some (.iconst 0, 1), some (.aload_n 0, 1), some (.iload_n 1, 1), some (.invokevirtual 134, 3), none, none, some (.i2l, 1), some (.lastore, 1), some (.goto 6, 3), none, none, some (.astore_n 3, 1), some (.iconst 1, 1), some (.ireturn, 1), some (.iconst 0, 1)],
  [some (.ireturn, 1)]]
def cd_214 : List (List CI) := [[some (.aload_n 3, 1), some (.iconst 0, 1), some (.aload_n 0, 1), some (.iload_n 1, 1), some (.iload_n 2, 1), some (.invokevirtual 137, 3), none, none, some (.f2d, 1), some (.dastore, 1), some (.goto 11, 3), none, none, some (.astore 4, 2), none, some (.iconst 1, 1)],
  [some (.ireturn, 1), some (.astore 4, 2), none, some (.iconst 2, 1), some (.ireturn, 1), some (.iconst 0, 1), some (.ireturn, 1)]]
def cd_215 : List (List CI) := [[some (.aload_n 1, 1), some (.iconst 0, 1), some (.aload_n 0, 1), some (.invokevirtual 141, 3), none, none, some (.dastore, 1), some (.goto 6, 3), none, none, some (.astore_n 2, 1), some (.iconst 1, 1), some (.ireturn, 1), some (.iconst 0, 1), some (.ireturn, 1)]]
def cd_216 : List (List CI) := []
def cds_0 : List (List (List CI)) := [cd_0, cd_1, cd_2, cd_3, cd_4, cd_5, cd_6, cd_7, cd_8, cd_9, cd_10, cd_11, cd_12, cd_13, cd_14, cd_15]
def cds_1 : List (List (List CI)) := [cd_16, cd_17, cd_18, cd_19, cd_20, cd_21, cd_22, cd_23, cd_24, cd_25, cd_26, cd_27, cd_28, cd_29, cd_30, cd_31]
def cds_2 : List (List (List CI)) := [cd_32, cd_33, cd_34, cd_35, cd_36, cd_37, cd_38, cd_39, cd_40, cd_41, cd_42, cd_43, cd_44, cd_45, cd_46, cd_47]
def cds_3 : List (List (List CI)) := [cd_48, cd_49, cd_50, cd_51, cd_52, cd_53, cd_54, cd_55, cd_56, cd_57, cd_58, cd_59, cd_60, cd_61, cd_62, cd_63]
def cds_4 : List (List (List CI)) := [cd_64, cd_65, cd_66, cd_67, cd_68, cd_69, cd_70, cd_71, cd_72, cd_73, cd_74, cd_75, cd_76, cd_77, cd_78, cd_79]
def cds_5 : List (List (List CI)) := [cd_80, cd_81, cd_82, cd_83, cd_84, cd_85, cd_86, cd_87, cd_88, cd_89, cd_90, cd_91, cd_92, cd_93, cd_94, cd_95]
def cds_6 : List (List (List CI)) := [cd_96, cd_97, cd_98, cd_99, cd_100, cd_101, cd_102, cd_103, cd_104, cd_105, cd_106, cd_107, cd_108, cd_109, cd_110, cd_111]
def cds_7 : List (List (List CI)) := [cd_112, cd_113, cd_114, cd_115, cd_116, cd_117, cd_118, cd_119, cd_120, cd_121, cd_122, cd_123, cd_124, cd_125, cd_126, cd_127]
def cds_8 : List (List (List CI)) := [cd_128, cd_129, cd_130, cd_131, cd_132, cd_133, cd_134, cd_135, cd_136, cd_137, cd_138, cd_139, cd_140, cd_141, cd_142, cd_143]
def cds_9 : List (List (List CI)) := [cd_144, cd_145, cd_146, cd_147, cd_148, cd_149, cd_150, cd_151, cd_152, cd_153, cd_154, cd_155, cd_156, cd_157, cd_158, cd_159]
def cds_10 : List (List (List CI)) := [cd_160, cd_161, cd_162, cd_163, cd_164, cd_165, cd_166, cd_167, cd_168, cd_169, cd_170, cd_171, cd_172, cd_173, cd_174, cd_175]
def cds_11 : List (List (List CI)) := [cd_176, cd_177, cd_178, cd_179, cd_180, cd_181, cd_182, cd_183, cd_184, cd_185, cd_186, cd_187, cd_188, cd_189, cd_190, cd_191]
def cds_12 : List (List (List CI)) := [cd_192, cd_193, cd_194, cd_195, cd_196, cd_197, cd_198, cd_199, cd_200, cd_201, cd_202, cd_203, cd_204, cd_205, cd_206, cd_207]
def cds_13 : List (List (List CI)) := [cd_208, cd_209, cd_210, cd_211, cd_212, cd_213, cd_214, cd_215, cd_216]
def cds : List (List (List (List CI))) := [cds_0, cds_1, cds_2, cds_3, cds_4, cds_5, cds_6, cds_7, cds_8, cds_9, cds_10, cds_11, cds_12, cds_13]
def codeAt (y pc : Nat) : CI := ((((cds.getD (y / 16) []).getD (y % 16) []).getD (pc / 16) []).getD (pc % 16) none)
def okQ (y i : Nat) (r : List CI) : Bool := r.zipIdx.all (fun q => match q.1 with | none => true | some z => decide (dec y (16 * i + q.2) = some z) && decide (th y (16 * i + q.2) = none))
def okB (y b : Nat) (c : List (List CI)) : Bool := (c.zipIdx b).all (fun r => okQ y r.2 r.1)
def okR (y : Nat) (c : List (List CI)) : Bool := okB y 0 c
set_option maxRecDepth 100000 in
set_option maxHeartbeats 4000000 in
theorem cok_0 : (cds_0.zipIdx.all (fun c => okR (0 + c.2) c.1)) = true := by decide +kernel
set_option maxRecDepth 100000 in
set_option maxHeartbeats 4000000 in
theorem cok_1 : (cds_1.zipIdx.all (fun c => okR (16 + c.2) c.1)) = true := by decide +kernel
set_option maxRecDepth 100000 in
set_option maxHeartbeats 4000000 in
theorem cok_2 : (cds_2.zipIdx.all (fun c => okR (32 + c.2) c.1)) = true := by decide +kernel
set_option maxRecDepth 100000 in
set_option maxHeartbeats 4000000 in
theorem cok_3 : (cds_3.zipIdx.all (fun c => okR (48 + c.2) c.1)) = true := by decide +kernel
set_option maxRecDepth 100000 in
set_option maxHeartbeats 4000000 in
theorem cok_4 : (cds_4.zipIdx.all (fun c => okR (64 + c.2) c.1)) = true := by decide +kernel
set_option maxRecDepth 100000 in
set_option maxHeartbeats 4000000 in
theorem cok_5 : (cds_5.zipIdx.all (fun c => okR (80 + c.2) c.1)) = true := by decide +kernel
set_option maxRecDepth 100000 in
set_option maxHeartbeats 4000000 in
theorem cok_6 : (cds_6.zipIdx.all (fun c => okR (96 + c.2) c.1)) = true := by decide +kernel
set_option maxRecDepth 100000 in
set_option maxHeartbeats 4000000 in
theorem cok_7 : (cds_7.zipIdx.all (fun c => okR (112 + c.2) c.1)) = true := by decide +kernel
set_option maxRecDepth 100000 in
set_option maxHeartbeats 4000000 in
theorem cok_8 : (cds_8.zipIdx.all (fun c => okR (128 + c.2) c.1)) = true := by decide +kernel
set_option maxRecDepth 100000 in
set_option maxHeartbeats 4000000 in
theorem cok_9 : (cds_9.zipIdx.all (fun c => okR (144 + c.2) c.1)) = true := by decide +kernel
set_option maxRecDepth 100000 in
set_option maxHeartbeats 4000000 in
theorem cok_10 : (cds_10.zipIdx.all (fun c => okR (160 + c.2) c.1)) = true := by decide +kernel
set_option maxRecDepth 100000 in
set_option maxHeartbeats 4000000 in
theorem cok_11 : (cds_11.zipIdx.all (fun c => okR (176 + c.2) c.1)) = true := by decide +kernel
set_option maxRecDepth 100000 in
set_option maxHeartbeats 4000000 in
theorem cok_12 : (cds_12.zipIdx.all (fun c => okR (192 + c.2) c.1)) = true := by decide +kernel
set_option maxRecDepth 100000 in
set_option maxHeartbeats 4000000 in
theorem cok_13 : (cds_13.zipIdx.all (fun c => okR (208 + c.2) c.1)) = true := by decide +kernel
theorem zi_all {α : Type} {l : List α} {f : α × Nat → Bool} (h : l.zipIdx.all f = true) {i : Nat} {a : α} (hi : l[i]? = some a) : f (a, i) = true := by
  refine List.all_eq_true.mp h _ ?_
  rw [List.mem_zipIdx_iff_getElem?]
  exact hi
theorem getD_some {α : Type} {l : List α} {d : α} {i : Nat} {x : α} (h : l.getD i d = x) (hx : x ≠ d) : l[i]? = some x := by
  rw [List.getD_eq_getElem?_getD] at h
  cases hl : l[i]? with
  | none => rw [hl] at h; exact absurd h.symm hx
  | some z => rw [hl] at h; exact congrArg some h
theorem cok_all : ∀ (k : Nat) (c : List (List (List CI))), cds[k]? = some c → (c.zipIdx.all (fun c => okR (16 * k + c.2) c.1)) = true := by
  intro k c h
  match k, h with
  | 0, h => cases h; exact cok_0
  | 1, h => cases h; exact cok_1
  | 2, h => cases h; exact cok_2
  | 3, h => cases h; exact cok_3
  | 4, h => cases h; exact cok_4
  | 5, h => cases h; exact cok_5
  | 6, h => cases h; exact cok_6
  | 7, h => cases h; exact cok_7
  | 8, h => cases h; exact cok_8
  | 9, h => cases h; exact cok_9
  | 10, h => cases h; exact cok_10
  | 11, h => cases h; exact cok_11
  | 12, h => cases h; exact cok_12
  | 13, h => cases h; exact cok_13
  | k + 14, h => exact absurd h (by simp [cds])
theorem codeAt_ok {y pc : Nat} {q : Instr × Nat} (h : codeAt y pc = some q) : dec y pc = some q ∧ th y pc = none := by
  unfold codeAt at h
  have h4 := getD_some h (by simp)
  have n3 : (((cds.getD (y / 16) []).getD (y % 16) []).getD (pc / 16) []) ≠ [] := fun z => by rw [z] at h4; simp at h4
  have h3 := getD_some rfl n3
  have n2 : ((cds.getD (y / 16) []).getD (y % 16) []) ≠ [] := fun z => by rw [z] at h3; simp at h3
  have h2 := getD_some rfl n2
  have n1 : (cds.getD (y / 16) []) ≠ [] := fun z => by rw [z] at h2; simp at h2
  have h1 := getD_some rfl n1
  have k1 := zi_all (cok_all _ _ h1) h2
  have k2 := zi_all (show okR _ _ = true from k1) h3
  have k3 := zi_all (show okQ _ _ _ = true from k2) h4
  simp only [Bool.and_eq_true, decide_eq_true_eq, Nat.div_add_mod] at k3
  exact k3
end
section
/-! steps of a run, by kinds of instructions -/
section SX
variable {d y pc : Nat} {L : Lo} {st : List MV} {h : Hp} {x : Re × Hp} {i : Instr} {len : Nat}
theorem Ev.p {pc' : Nat} {L' : Lo} {st' : List MV} (hc : codeAt y pc = some (i, len)) (hs : pin i len pc L st = some (pc', L', st')) (k : Ev d (y, pc', L', st') h x) : Ev d (y, pc, L, st) h x := by
  obtain ⟨h1, h2⟩ := codeAt_ok hc
  exact Ev.go (z := ((y, pc', L', st'), h)) (by unfold stp; simp only [h1, h2, hs]) k
theorem Ev.r {z : Nat × Lo × List MV} (hc : codeAt y pc = some (i, len)) (hp : pin i len pc L st = none) (hs : hrd (mcl y) i len pc L st h = some z) (k : Ev d (y, z.1, z.2.1, z.2.2) h x) : Ev d (y, pc, L, st) h x := by
  obtain ⟨h1, h2⟩ := codeAt_ok hc
  exact Ev.go (z := ((y, z), h)) (by unfold stp; simp only [h1, h2, hp, hs]) k
theorem Ev.w {z : Nat × Lo × List MV × Hp} (hc : codeAt y pc = some (i, len)) (hp : pin i len pc L st = none) (hr : hrd (mcl y) i len pc L st h = none) (hs : hwr y i len pc L st h = some z) (k : Ev d (y, z.1, z.2.1, z.2.2.1) z.2.2.2 x) : Ev d (y, pc, L, st) h x := by
  obtain ⟨h1, h2⟩ := codeAt_ok hc
  exact Ev.go (z := ((y, z.1, z.2.1, z.2.2.1), z.2.2.2)) (by unfold stp; simp only [h1, h2, hp, hr, hs]) k
theorem Ev.re {v : Option MV} (hc : codeAt y pc = some (i, len)) (hp : pin i len pc L st = none) (hr : hrd (mcl y) i len pc L st h = none) (hw : hwr y i len pc L st h = none) (hs : rst i len st ((mrow y).bind (fun r => r.2.2.2.1)) = some v) : Ev d (y, pc, L, st) h (.inl v, h) := by
  obtain ⟨h1, h2⟩ := codeAt_ok hc
  exact Ev.ret (by unfold stp; simp only [h1, h2, hp, hr, hw, hs])
theorem Ev.br {b : Bool} {t : Nat} {L1 L2 : Lo} {s1 s2 : List MV} {t2 : Nat} (hc : codeAt y pc = some (i, len)) (hs : pin i len pc L st = if b = true then some (t, L1, s1) else some (t2, L2, s2)) (k1 : b = true → Ev d (y, t, L1, s1) h x) (k2 : b = false → Ev d (y, t2, L2, s2) h x) : Ev d (y, pc, L, st) h x := by
  cases b with
  | true => exact Ev.p hc (hs.trans (if_pos rfl)) (k1 rfl)
  | false => exact Ev.p hc (hs.trans (if_neg (by simp))) (k2 rfl)
def cmpB (c : ClassFile.Cond) (a b : Int32) : Bool := match c with | .eq => decide (a = b) | .ne => decide (¬ a = b) | .lt => decide (a < b) | .ge => decide (b ≤ a) | .gt => decide (b < a) | .le => decide (a ≤ b)
def cmp0 (c : ClassFile.Cond) (a : Int32) : Bool := match c with | .eq => decide (a = 0) | .ne => decide (¬ a = 0) | .lt => decide (a < 0) | .ge => decide (0 ≤ a) | .gt => decide (0 < a) | .le => decide (a ≤ 0)
theorem Ev.icmp {c : ClassFile.Cond} {off : Int} {a b : Int32} {t : Nat} (hc : codeAt y pc = some (.if_icmp c off, 3)) (ht : tgt pc off = some t) (k1 : cmpB c a b = true → Ev d (y, t, L, st) h x) (k2 : cmpB c a b = false → Ev d (y, pc + 3, L, st) h x) : Ev d (y, pc, L, vI b :: vI a :: st) h x :=
  Ev.br (b := cmpB c a b) hc (by simp only [pin, pcm, ht, if_true]; cases c <;> rfl) k1 k2
theorem Ev.ifi {c : ClassFile.Cond} {off : Int} {a : Int32} {t : Nat} (hc : codeAt y pc = some (.ifCond c off, 3)) (ht : tgt pc off = some t) (k1 : cmp0 c a = true → Ev d (y, t, L, st) h x) (k2 : cmp0 c a = false → Ev d (y, pc + 3, L, st) h x) : Ev d (y, pc, L, vI a :: st) h x :=
  Ev.br (b := cmp0 c a) hc (by simp only [pin, pif, ht, if_true]; cases c <;> rfl) k1 k2
def exe : Nat → Nat → Nat → Lo → List MV → Option (Nat × Lo × List MV)
  | 0, _, pc, L, st => some (pc, L, st)
  | n + 1, y, pc, L, st => match codeAt y pc with
    | some (i, len) => match pin i len pc L st with
      | some (pc', L', st') => exe n y pc' L' st'
      | none => none
    | none => none
/-- n steps without heap or tables -/
theorem Ev.ps : ∀ (n : Nat) {pc : Nat} {L : Lo} {st : List MV} {pc' : Nat} {L' : Lo} {st' : List MV}, exe n y pc L st = some (pc', L', st') → Ev d (y, pc', L', st') h x → Ev d (y, pc, L, st) h x
  | 0, pc, L, st, _, _, _, hs, k => by cases hs; exact k
  | n + 1, pc, L, st, _, _, _, hs, k => by
    unfold exe at hs
    split at hs
    · rename_i i len hq
      split at hs
      · rename_i p1 p2 p3 hw
        exact Ev.p hq hw (Ev.ps n hs k)
      · cases hs
    · cases hs
theorem Ev.getf {idx s n ci fk : Nat} {ob : Ob} {v : MV} (hc : codeAt y pc = some (.getfield idx, 3)) (hf : fl (mcl y) idx = some (ci, fk)) (hk : sk s = (0, ci)) (hg : hget h s n = some ob) (hv : ob[fk]? = some v) (k : Ev d (y, pc + 3, L, v :: st) h x) : Ev d (y, pc, L, vR s n :: st) h x :=
  Ev.r hc rfl (z := (pc + 3, L, v :: st)) (by simp only [hrd, hf, hg, hk, and_self, if_true, hv, Option.map_some]) k
theorem Ev.putf {idx s n ci fk : Nat} {ob : Ob} {v : MV} (hc : codeAt y pc = some (.putfield idx, 3)) (hf : fl (mcl y) idx = some (ci, fk)) (hk : sk s = (0, ci)) (hg : hget h s n = some ob) (hz : fk < ob.length) (hp : pfit ((vtys.getD ci (fun _ => .int)) fk) v = true) (hfin : (fT ci fk).2.2.2 = false ∨ ((mfct[y]?).map (fun f => f.2.1) = some 1 ∧ mcl y = ci)) (k : Ev d (y, pc + 3, L, st) (hput h s n (ob.set fk v)) x) : Ev d (y, pc, L, v :: vR s n :: st) h x :=
  Ev.w hc rfl rfl (z := (pc + 3, L, st, hput h s n (ob.set fk v))) (by simp only [hwr, hf, hg]; rw [if_pos ⟨trivial, hk, hz, hp, hfin⟩]) k
/-- a call of a method: what it comes to -/
def Cal (d y : Nat) (as : List MV) (h : Hp) (r : Re) (h' : Hp) : Prop := ∃ fr, ent y as = some fr ∧ Ev d fr h (r, h')
theorem Cal.mk {as : List MV} {r : Re} {h' : Hp} {n : Nat} (hm : (mrow y).map (fun r => r.2.2.1) = some n) (hl : as.length ≤ n) (ha : as.all (fun v => mcat v == 1) = true) (k : Ev d (y, 0, as.map some ++ List.replicate (n - as.length) none, []) h (r, h')) : Cal d y as h r h' := by
  cases hr : mrow y with
  | none => rw [hr] at hm; cases hm
  | some row =>
    rw [hr] at hm
    have hn : row.2.2.1 = n := Option.some.inj hm
    subst hn
    refine ⟨_, ?_, k⟩
    unfold ent
    rw [hr]
    exact if_pos ⟨hl, ha⟩
theorem Cal.dd {d' : Nat} {as : List MV} {r : Re} {h' : Hp} (c : Cal d y as h r h') (hd : d ≤ d') : Cal d' y as h r h' := by
  obtain ⟨fr, h1, h2⟩ := c
  exact ⟨fr, h1, h2.d hd⟩
end SX
end
section
/-! steps that call, steps on lists and arrays -/
set_option maxRecDepth 100000 in
theorem mljl_all : mltab.all (fun q => (jl q.1 q.2.1).isNone) = true := by decide +kernel
theorem mljl {o idx y2 : Nat} (h : ml o idx = some y2) : jl o idx = none := by
  unfold ml at h
  obtain ⟨q, h1, rfl⟩ := omap_inv h
  have h2 := List.find?_some h1
  have h3 := List.all_eq_true.mp mljl_all q (List.mem_of_find?_eq_some h1)
  simp only [Bool.and_eq_true, beq_iff_eq] at h2
  rw [h2.1, h2.2] at h3
  cases hj : jl o idx with
  | none => rfl
  | some z => rw [hj] at h3; cases h3
def Instr.inv : Nat → Nat → Instr
  | 0, idx => .invokestatic idx
  | 1, idx => .invokespecial idx
  | _, idx => .invokevirtual idx
section SC
variable {d y pc : Nat} {L : Lo} {st : List MV} {h : Hp} {x : Re × Hp} {i : Instr} {len : Nat}
theorem call_stp {i : Instr} {idx y2 : Nat} (hi : i = .invokestatic idx ∨ i = .invokespecial idx ∨ i = .invokevirtual idx) (hc : codeAt y pc = some (i, 3)) (hm : ml (mcl y) idx = some y2) : stp (y, pc, L, st) h = (cst y i 3 pc L st h).map (fun z => .inr (.inr z)) := by
  obtain ⟨h1, h2⟩ := codeAt_ok hc
  have hj := mljl hm
  have hr : hrd (mcl y) i 3 pc L st h = none := by
    rcases hi with rfl | rfl | rfl
    · simp only [hrd, hj]
      split
      · split <;> rfl
      · rfl
    · simp only [hrd, hj]
      split
      · simp
      · rfl
    · simp only [hrd, hj]
      split
      · split
        · simp
        · rfl
      · split
        · simp
        · rfl
      · rfl
  have hw : hwr y i 3 pc L st h = none := by
    rcases hi with rfl | rfl | rfl
    · rfl
    · rfl
    · simp only [hwr, hj]
  unfold stp
  rcases hi with rfl | rfl | rfl <;> simp only [h1, h2, hr, hw] <;> rfl
theorem cst_S {idx y2 n : Nat} {as rest : List MV} (hm : ml (mcl y) idx = some y2) {f : Nat × Nat × Nat × Nat × Nat × Nat} (hf : mfct[y2]? = some f) (h0 : f.2.1 = 0) (hn : f.2.2.2.2.2 = n) (hl : as.length = n) (hcat : (rest.map mcat).sum ≤ 8) : cst y (.invokestatic idx) 3 pc L (as.reverse ++ rest) h = (ent y2 as).map (fun fr => (fr, (y, pc, L, rest))) := by
  subst hn
  unfold cst
  simp only [hm, hf]
  have e1 : f.2.2.2.2.2 = as.reverse.length := by rw [List.length_reverse]; exact hl.symm
  rw [if_pos ⟨trivial, h0, by rw [e1, List.length_append]; omega⟩, if_pos trivial, e1, List.drop_left' rfl, List.take_left' rfl, if_pos hcat, List.reverse_reverse]
theorem cst_V {i : Instr} {k idx y2 n s m : Nat} {as rest : List MV} (hi : (k = 1 ∧ i = .invokespecial idx) ∨ (k = 2 ∧ i = .invokevirtual idx)) (hm : ml (mcl y) idx = some y2) {f : Nat × Nat × Nat × Nat × Nat × Nat} (hf : mfct[y2]? = some f) (h0 : f.2.1 = k) (hn : f.2.2.2.2.2 = n) (hl : as.length = n) (hcat : (rest.map mcat).sum ≤ 8) (hk : sk s = (0, mcl y2)) (ho : (hget h s m).isSome = true) : cst y i 3 pc L (as.reverse ++ vR s m :: rest) h = (ent y2 (vR s m :: as)).map (fun fr => (fr, (y, pc, L, rest))) := by
  subst hn
  have e1 : f.2.2.2.2.2 = as.reverse.length := by rw [List.length_reverse]; exact hl.symm
  rcases hi with ⟨rfl, rfl⟩ | ⟨rfl, rfl⟩
  · unfold cst
    simp only [hm, hf]
    rw [if_pos ⟨trivial, h0, by rw [e1, List.length_append]; omega⟩, if_neg (by decide), e1, List.drop_left' rfl, List.take_left' rfl, List.reverse_reverse]
    exact if_pos ⟨hcat, hk, ho⟩
  · unfold cst
    simp only [hm, hf]
    rw [if_pos ⟨trivial, h0, by rw [e1, List.length_append]; omega⟩, if_neg (by decide), e1, List.drop_left' rfl, List.take_left' rfl, List.reverse_reverse]
    exact if_pos ⟨hcat, hk, ho⟩
theorem Ev.sta {idx y2 n : Nat} {as rest : List MV} {v : Option MV} {h1 : Hp} (hc : codeAt y pc = some (.invokestatic idx, 3)) (hm : ml (mcl y) idx = some y2) (hf : (mfct[y2]?).map (fun f => (f.2.1, f.2.2.2.2.2)) = some (0, n)) (hst : st = as.reverse ++ rest) (hl : as.length = n) (hcat : (rest.map mcat).sum ≤ 8) (hC : Cal d y2 as h (.inl v) h1) (k : Ev (d + 1) (y, pc + 3, L, v.toList ++ rest) h1 x) : Ev (d + 1) (y, pc, L, st) h x := by
  subst hst
  obtain ⟨fr, e1, e2⟩ := hC
  obtain ⟨f, hf, hz⟩ := Option.map_eq_some_iff.mp hf
  obtain ⟨z1, z2⟩ := Prod.mk.inj hz
  exact Ev.call (z := (fr, (y, pc, L, rest))) (w := ((y, pc + 3, L, v.toList ++ rest), h1)) (by rw [call_stp (Or.inl rfl) hc hm, cst_S hm hf z1 z2 hl hcat, e1]; rfl) e2 rfl k
theorem Ev.vir {idx y2 n s m : Nat} {as rest : List MV} {v : Option MV} {h1 : Hp} (hc : codeAt y pc = some (.invokevirtual idx, 3)) (hm : ml (mcl y) idx = some y2) (hf : (mfct[y2]?).map (fun f => (f.2.1, f.2.2.2.2.2)) = some (2, n)) (hst : st = as.reverse ++ vR s m :: rest) (hl : as.length = n) (hcat : (rest.map mcat).sum ≤ 8) (hk : sk s = (0, mcl y2)) (ho : (hget h s m).isSome = true) (hC : Cal d y2 (vR s m :: as) h (.inl v) h1) (k : Ev (d + 1) (y, pc + 3, L, v.toList ++ rest) h1 x) : Ev (d + 1) (y, pc, L, st) h x := by
  subst hst
  obtain ⟨fr, e1, e2⟩ := hC
  obtain ⟨f, hf, hz⟩ := Option.map_eq_some_iff.mp hf
  obtain ⟨z1, z2⟩ := Prod.mk.inj hz
  exact Ev.call (z := (fr, (y, pc, L, rest))) (w := ((y, pc + 3, L, v.toList ++ rest), h1)) (by rw [call_stp (Or.inr (Or.inr rfl)) hc hm, cst_V (k := 2) (Or.inr ⟨rfl, rfl⟩) hm hf z1 z2 hl hcat hk ho, e1]; rfl) e2 rfl k
theorem Ev.spe {idx y2 n s m : Nat} {as rest : List MV} {v : Option MV} {h1 : Hp} (hc : codeAt y pc = some (.invokespecial idx, 3)) (hm : ml (mcl y) idx = some y2) (hf : (mfct[y2]?).map (fun f => (f.2.1, f.2.2.2.2.2)) = some (1, n)) (hst : st = as.reverse ++ vR s m :: rest) (hl : as.length = n) (hcat : (rest.map mcat).sum ≤ 8) (hk : sk s = (0, mcl y2)) (ho : (hget h s m).isSome = true) (hC : Cal d y2 (vR s m :: as) h (.inl v) h1) (k : Ev (d + 1) (y, pc + 3, L, v.toList ++ rest) h1 x) : Ev (d + 1) (y, pc, L, st) h x := by
  subst hst
  obtain ⟨fr, e1, e2⟩ := hC
  obtain ⟨f, hf, hz⟩ := Option.map_eq_some_iff.mp hf
  obtain ⟨z1, z2⟩ := Prod.mk.inj hz
  exact Ev.call (z := (fr, (y, pc, L, rest))) (w := ((y, pc + 3, L, v.toList ++ rest), h1)) (by rw [call_stp (Or.inr (Or.inl rfl)) hc hm, cst_V (k := 1) (Or.inl ⟨rfl, rfl⟩) hm hf z1 z2 hl hcat hk ho, e1]; rfl) e2 rfl k
/-! an exception out of a call -/
theorem Ev.staX {idx y2 n E : Nat} {as rest : List MV} {h1 : Hp} (hc : codeAt y pc = some (.invokestatic idx, 3)) (hm : ml (mcl y) idx = some y2) (hf : (mfct[y2]?).map (fun f => (f.2.1, f.2.2.2.2.2)) = some (0, n)) (hst : st = as.reverse ++ rest) (hl : as.length = n) (hcat : (rest.map mcat).sum ≤ 8) (hC : Cal d y2 as h (.inr E) h1) (hh : hnd y pc E = some none) : Ev (d + 1) (y, pc, L, st) h (.inr E, h1) := by
  subst hst
  obtain ⟨fr, e1, e2⟩ := hC
  obtain ⟨f, hf, hz⟩ := Option.map_eq_some_iff.mp hf
  obtain ⟨z1, z2⟩ := Prod.mk.inj hz
  exact Ev.thru (z := (fr, (y, pc, L, rest))) (by rw [call_stp (Or.inl rfl) hc hm, cst_S hm hf z1 z2 hl hcat, e1]; rfl) e2 (by simp only [aft, hh])
theorem Ev.virX {idx y2 n s m E : Nat} {as rest : List MV} {h1 : Hp} (hc : codeAt y pc = some (.invokevirtual idx, 3)) (hm : ml (mcl y) idx = some y2) (hf : (mfct[y2]?).map (fun f => (f.2.1, f.2.2.2.2.2)) = some (2, n)) (hst : st = as.reverse ++ vR s m :: rest) (hl : as.length = n) (hcat : (rest.map mcat).sum ≤ 8) (hk : sk s = (0, mcl y2)) (ho : (hget h s m).isSome = true) (hC : Cal d y2 (vR s m :: as) h (.inr E) h1) (hh : hnd y pc E = some none) : Ev (d + 1) (y, pc, L, st) h (.inr E, h1) := by
  subst hst
  obtain ⟨fr, e1, e2⟩ := hC
  obtain ⟨f, hf, hz⟩ := Option.map_eq_some_iff.mp hf
  obtain ⟨z1, z2⟩ := Prod.mk.inj hz
  exact Ev.thru (z := (fr, (y, pc, L, rest))) (by rw [call_stp (Or.inr (Or.inr rfl)) hc hm, cst_V (k := 2) (Or.inr ⟨rfl, rfl⟩) hm hf z1 z2 hl hcat hk ho, e1]; rfl) e2 (by simp only [aft, hh])
theorem Ev.virH {idx y2 n s m E t : Nat} {as rest : List MV} {h1 : Hp} (hc : codeAt y pc = some (.invokevirtual idx, 3)) (hm : ml (mcl y) idx = some y2) (hf : (mfct[y2]?).map (fun f => (f.2.1, f.2.2.2.2.2)) = some (2, n)) (hst : st = as.reverse ++ vR s m :: rest) (hl : as.length = n) (hcat : (rest.map mcat).sum ≤ 8) (hk : sk s = (0, mcl y2)) (ho : (hget h s m).isSome = true) (hC : Cal d y2 (vR s m :: as) h (.inr E) h1) (hh : hnd y pc E = some (some t)) (k : Ev (d + 1) (y, t, L, [vR sX (h1.1 sX).length]) (hnew h1 sX [[]] 0 0) x) : Ev (d + 1) (y, pc, L, st) h x := by
  subst hst
  obtain ⟨fr, e1, e2⟩ := hC
  obtain ⟨f, hf, hz⟩ := Option.map_eq_some_iff.mp hf
  obtain ⟨z1, z2⟩ := Prod.mk.inj hz
  exact Ev.call (z := (fr, (y, pc, L, rest))) (w := ((y, t, L, [vR sX (h1.1 sX).length]), hnew h1 sX [[]] 0 0)) (by rw [call_stp (Or.inr (Or.inr rfl)) hc hm, cst_V (k := 2) (Or.inr ⟨rfl, rfl⟩) hm hf z1 z2 hl hcat hk ho, e1]; rfl) e2 (by simp only [aft, hh]) k
/-! a throw of the class -/
theorem Ev.thr {E len : Nat} {i : Instr} (hc : dec y pc = some (i, len)) (ht : th y pc = some E) : Ev d (y, pc, L, []) h (.inr E, hcst h 1 6) := Ev.ret (by unfold stp; simp only [hc, ht]; rfl)
/-! lists and arrays -/
theorem Ev.lgt {idx s n : Nat} {j : Int32} {ob : Ob} {v : MV} (hc : codeAt y pc = some (.invokevirtual idx, 3)) (hj : jl (mcl y) idx = some 2) (hk : sk s = (2, 0)) (hcat : (st.map mcat).sum ≤ 8) (hg : hget h s n = some ob) (h0 : ¬ j < 0) (hv : ob[j.toNatClampNeg]? = some v) (k : Ev d (y, pc + 3, L, v :: st) h x) : Ev d (y, pc, L, vI j :: vR s n :: st) h x :=
  Ev.r hc rfl (z := (pc + 3, L, v :: st)) (by simp only [hrd, hg]; rw [if_pos ⟨trivial, hcat, hj, hk, h0⟩, hv]; rfl) k
theorem Ev.lsz {idx s n : Nat} {ob : Ob} (hc : codeAt y pc = some (.invokevirtual idx, 3)) (hj : jl (mcl y) idx = some 3) (hk : sk s = (2, 0)) (hcat : (st.map mcat).sum ≤ 8) (hg : hget h s n = some ob) (k : Ev d (y, pc + 3, L, vI (Int32.ofNat ob.length) :: st) h x) : Ev d (y, pc, L, vR s n :: st) h x :=
  Ev.r hc rfl (z := (pc + 3, L, vI (Int32.ofNat ob.length) :: st)) (by simp only [hrd, hg]; rw [if_pos ⟨trivial, hcat, hj, hk⟩]) k
theorem Ev.cst {idx s n ci : Nat} (hc : codeAt y pc = some (.checkcast idx, 3)) (hl : cl (mcl y) idx = some ci) (hk : sk s = (0, ci)) (ho : (hget h s n).isSome = true) (k : Ev d (y, pc + 3, L, vR s n :: st) h x) : Ev d (y, pc, L, vR s n :: st) h x :=
  Ev.r hc rfl (z := (pc + 3, L, vR s n :: st)) (by simp only [hrd, hl, hk, ho]; exact if_pos ⟨trivial, rfl, trivial⟩) k
end SC
end
section
/-! specs of small methods -/
theorem s_isBefore {d n : Nat} {h : Hp} {ob : Ob} {a b D S : Int32} (hg : hget h 3 n = some ob) (h1 : ob[2]? = some (vI a)) (h2 : ob[3]? = some (vI b)) : Cal d 14 [vR 3 n, vI D, vI S] h (.inl (some (vI (if a < D ∨ (a = D ∧ b < S) then 1 else 0)))) h := by
  refine Cal.mk (n := 3) rfl (Nat.le_of_ble_eq_true rfl) rfl ?_
  refine Ev.p rfl rfl ?_
  refine Ev.getf (by rfl) (by rfl) (by rfl) hg h1 ?_
  refine Ev.p rfl rfl ?_
  refine Ev.icmp (by rfl) (by rfl) (fun c => ?_) (fun c => ?_)
  · have c := of_decide_eq_true c
    rw [if_pos (Or.inl c)]
    refine Ev.ps 2 rfl ?_
    exact Ev.re rfl rfl rfl rfl rfl
  · have c := of_decide_eq_false c
    refine Ev.p rfl rfl ?_
    refine Ev.getf (by rfl) (by rfl) (by rfl) hg h1 ?_
    refine Ev.p rfl rfl ?_
    refine Ev.icmp (by rfl) (by rfl) (fun c2 => ?_) (fun c2 => ?_)
    · have c2 := of_decide_eq_true c2
      rw [if_neg (fun z => z.elim c (fun w => c2 w.1))]
      refine Ev.p rfl rfl ?_
      exact Ev.re rfl rfl rfl rfl rfl
    · have c2 := of_decide_eq_false c2
      refine Ev.p rfl rfl ?_
      refine Ev.getf (by rfl) (by rfl) (by rfl) hg h2 ?_
      refine Ev.p rfl rfl ?_
      refine Ev.icmp (by rfl) (by rfl) (fun c3 => ?_) (fun c3 => ?_)
      · have c3 := of_decide_eq_true c3
        rw [if_neg (fun z => z.elim c (fun w => absurd w.2 (Int32.not_lt.mpr c3)))]
        refine Ev.p rfl rfl ?_
        exact Ev.re rfl rfl rfl rfl rfl
      · have c3 := of_decide_eq_false c3
        rw [if_pos (Or.inr ⟨Decidable.not_not.mp c2, Int32.not_le.mp c3⟩)]
        refine Ev.p rfl rfl ?_
        refine Ev.p rfl rfl ?_
        exact Ev.re rfl rfl rfl rfl rfl
/-- how many of the list stand before a time -/
def placeL (da sa : Nat → Int32) (D S : Int32) : List Nat → Nat
  | [] => 0
  | e :: es => if da e < D ∨ (da e = D ∧ sa e < S) then placeL da sa D S es + 1 else 0
theorem s_placeOf {d m q : Nat} {h : Hp} {om ol : Ob} {es : List Nat} {da sa : Nat → Int32} {D S : Int32} (hm : hget h 6 m = some om) (hh : om[2]? = some (vR 16 q)) (hq : hget h 16 q = some (es.map (vR 3))) (hlen : es.length < 2 ^ 31)
    (he : ∀ e ∈ es, ∃ ob, hget h 3 e = some ob ∧ ob[2]? = some (vI (da e)) ∧ ob[3]? = some (vI (sa e))) : Cal (d + 1) 13 [vR 6 m, vI D, vI S] h (.inl (some (vI (nI (placeL da sa D S es))))) h := by
  refine Cal.mk (n := 4) rfl (Nat.le_of_ble_eq_true rfl) rfl ?_
  refine Ev.ps 2 rfl ?_
  have loop : ∀ (k j : Nat), j + k = es.length → Ev (d + 1) (13, 2, [some (vR 6 m), some (vI D), some (vI S), some (vI (nI j))], []) h (.inl (some (vI (nI (j + placeL da sa D S (es.drop j))))), h) := by
    intro k
    induction k with
    | zero =>
      intro j hj
      refine Ev.ps 2 rfl ?_
      refine Ev.getf (by rfl) (by rfl) (by rfl) hm hh ?_
      refine Ev.lsz (by rfl) (by rfl) (by rfl) (Nat.le_of_ble_eq_true rfl) hq ?_
      refine Ev.icmp (by rfl) (by rfl) (fun c => ?_) (fun c => ?_)
      · rw [List.drop_of_length_le (by omega)]
        refine Ev.ps 1 rfl ?_
        exact Ev.re rfl rfl rfl rfl rfl
      · have c := of_decide_eq_false c
        exact absurd (nI_le (by rw [List.length_map]; omega) (by rw [List.length_map] at *; omega)) c
    | succ k ih =>
      intro j hj
      refine Ev.ps 2 rfl ?_
      refine Ev.getf (by rfl) (by rfl) (by rfl) hm hh ?_
      refine Ev.lsz (by rfl) (by rfl) (by rfl) (Nat.le_of_ble_eq_true rfl) hq ?_
      refine Ev.icmp (by rfl) (by rfl) (fun c => ?_) (fun c => ?_)
      · have c := of_decide_eq_true c
        exact absurd c (nI_ge (by rw [List.length_map]; omega) (by rw [List.length_map]; omega))
      · have hjl : j < es.length := by omega
        obtain ⟨ob, o1, o2, o3⟩ := he es[j] (List.getElem_mem hjl)
        refine Ev.ps 1 rfl ?_
        refine Ev.getf (by rfl) (by rfl) (by rfl) hm hh ?_
        refine Ev.ps 1 rfl ?_
        refine Ev.lgt (v := vR 3 es[j]) (by rfl) (by rfl) (by rfl) (Nat.le_of_ble_eq_true rfl) hq (nI_pos (by omega)) (by rw [nI_clamp (by omega), List.getElem?_map, List.getElem?_eq_getElem hjl]; rfl) ?_
        refine Ev.cst (by rfl) (by rfl) (by rfl) (by rw [o1]; rfl) ?_
        refine Ev.ps 2 rfl ?_
        refine Ev.sta (as := [vR 3 es[j], vI D, vI S]) (rest := []) (by rfl) (by rfl) (by rfl) (by rfl) rfl (Nat.le_of_ble_eq_true rfl) (s_isBefore o1 o2 o3) ?_
        have e1 : es.drop j = es[j] :: es.drop (j + 1) := List.drop_eq_getElem_cons hjl
        rw [e1]
        unfold placeL
        by_cases hb : da es[j] < D ∨ (da es[j] = D ∧ sa es[j] < S)
        · rw [if_pos hb, if_pos hb]
          refine Ev.ifi (by rfl) (by rfl) (fun c => absurd c (by decide)) (fun _ => ?_)
          refine Ev.ps 2 rfl ?_
          have h9 := ih (j + 1) (by omega)
          rw [show j + (placeL da sa D S (es.drop (j + 1)) + 1) = j + 1 + placeL da sa D S (es.drop (j + 1)) by omega]
          rw [← nI_1] at h9
          exact h9
        · rw [if_neg hb, if_neg hb]
          refine Ev.ifi (by rfl) (by rfl) (fun _ => ?_) (fun c => absurd c (by decide))
          refine Ev.ps 1 rfl ?_
          exact Ev.re rfl rfl rfl rfl rfl
  have h9 := loop es.length 0 (by omega)
  rw [Nat.zero_add, List.drop_zero] at h9
  exact h9
end
section
/-! specs of the class's small methods -/
section SS
variable {d y pc : Nat} {L : Lo} {st : List MV} {h : Hp} {x : Re × Hp}
theorem Ev.thw {E : Nat} (ht : th y pc = some E) : Ev d (y, pc, L, []) h (.inr E, hcst h 1 6) := by
  have ht0 := ht
  obtain ⟨q, hq, rfl, rfl, rfl⟩ := th_mem ht
  have h1 := List.all_eq_true.mp th_ok q hq
  obtain ⟨y, pc, E, ik, is, ic, wide, text, pl⟩ := q
  simp only [okT, Bool.and_eq_true, decide_eq_true_eq] at h1
  exact Ev.thr h1.1.1.1.2 ht0
theorem Ev.ial {s n : Nat} {j : Int32} {ob : Ob} {v : MV} (hc : codeAt y pc = some (.iaload, 1)) (hk : sk s = (1, 0) ∨ sk s = (4, 0)) (hg : hget h s n = some ob) (h0 : ¬ j < 0) (hv : ob[j.toNatClampNeg]? = some v) (k : Ev d (y, pc + 1, L, v :: st) h x) : Ev d (y, pc, L, vI j :: vR s n :: st) h x :=
  Ev.r hc rfl (z := (pc + 1, L, v :: st)) (by
    simp only [hrd, parr, hg]
    rw [if_pos ⟨trivial, by rcases hk with e | e <;> rw [e] <;> rfl, h0⟩, hv]
    rfl) k
theorem Ev.aln {s n : Nat} {ob : Ob} (hc : codeAt y pc = some (.arraylength, 1)) (hk : (sk s).1 = 1 ∨ sk s = (4, 0)) (hg : hget h s n = some ob) (k : Ev d (y, pc + 1, L, vI (Int32.ofNat ob.length) :: st) h x) : Ev d (y, pc, L, vR s n :: st) h x :=
  Ev.r hc rfl (z := (pc + 1, L, vI (Int32.ofNat ob.length) :: st)) (by simp only [hrd, hg]; rw [if_pos ⟨trivial, hk⟩]) k
end SS
def b2 (p : Prop) [Decidable p] : MV := vI (if p then 1 else 0)
theorem s_isOpen {d n : Nat} {h : Hp} {ob : Ob} {a : Int32} (hg : hget h 3 n = some ob) (h1 : ob[8]? = some (vI a)) : Cal d 5 [vR 3 n] h (.inl (some (b2 (a = 119 ∨ a = 98)))) h := by
  refine Cal.mk (n := 1) rfl (Nat.le_of_ble_eq_true rfl) rfl ?_
  refine Ev.ps 1 rfl ?_
  refine Ev.getf (by rfl) (by rfl) (by rfl) hg h1 ?_
  refine Ev.ps 1 rfl ?_
  refine Ev.icmp (by rfl) (by rfl) (fun c => ?_) (fun c => ?_)
  · have c : a = 119 := of_decide_eq_true c
    unfold b2
    rw [if_pos (Or.inl c)]
    refine Ev.ps 2 rfl ?_
    exact Ev.re rfl rfl rfl rfl rfl
  · have c : ¬ a = 119 := of_decide_eq_false c
    refine Ev.ps 1 rfl ?_
    refine Ev.getf (by rfl) (by rfl) (by rfl) hg h1 ?_
    refine Ev.ps 1 rfl ?_
    unfold b2
    refine Ev.icmp (by rfl) (by rfl) (fun c2 => ?_) (fun c2 => ?_)
    · have c2 : ¬ a = 98 := of_decide_eq_true c2
      rw [if_neg (fun z => z.elim c c2)]
      refine Ev.ps 1 rfl ?_
      exact Ev.re rfl rfl rfl rfl rfl
    · have c2 : a = 98 := Decidable.not_not.mp (of_decide_eq_false c2)
      rw [if_pos (Or.inr c2)]
      refine Ev.ps 2 rfl ?_
      exact Ev.re rfl rfl rfl rfl rfl
theorem s_overlaps {d n : Nat} {h : Hp} {ob : Ob} {da sa en D S E : Int32} (hg : hget h 3 n = some ob) (h1 : ob[2]? = some (vI da)) (h2 : ob[3]? = some (vI sa)) (h3 : ob[5]? = some (vI en)) : Cal d 6 [vR 3 n, vI D, vI S, vI E] h (.inl (some (b2 (da = D ∧ sa < E ∧ S < en)))) h := by
  refine Cal.mk (n := 4) rfl (Nat.le_of_ble_eq_true rfl) rfl ?_
  unfold b2
  refine Ev.ps 1 rfl ?_
  refine Ev.getf (by rfl) (by rfl) (by rfl) hg h1 ?_
  refine Ev.ps 1 rfl ?_
  refine Ev.icmp (by rfl) (by rfl) (fun c => ?_) (fun c => ?_)
  · have c := of_decide_eq_true c
    rw [if_neg (fun z => c z.1)]
    refine Ev.ps 1 rfl ?_
    exact Ev.re rfl rfl rfl rfl rfl
  · have c := Decidable.not_not.mp (of_decide_eq_false c)
    refine Ev.ps 1 rfl ?_
    refine Ev.getf (by rfl) (by rfl) (by rfl) hg h2 ?_
    refine Ev.ps 1 rfl ?_
    refine Ev.icmp (by rfl) (by rfl) (fun c2 => ?_) (fun c2 => ?_)
    · have c2 := of_decide_eq_true c2
      rw [if_neg (fun z => absurd z.2.1 (Int32.not_lt.mpr c2))]
      refine Ev.ps 1 rfl ?_
      exact Ev.re rfl rfl rfl rfl rfl
    · have c2 := Int32.not_le.mp (of_decide_eq_false c2)
      refine Ev.ps 2 rfl ?_
      refine Ev.getf (by rfl) (by rfl) (by rfl) hg h3 ?_
      refine Ev.icmp (by rfl) (by rfl) (fun c3 => ?_) (fun c3 => ?_)
      · have c3 := of_decide_eq_true c3
        rw [if_neg (fun z => absurd z.2.2 (Int32.not_lt.mpr c3))]
        refine Ev.ps 1 rfl ?_
        exact Ev.re rfl rfl rfl rfl rfl
      · have c3 := Int32.not_le.mp (of_decide_eq_false c3)
        rw [if_pos ⟨c, c2, c3⟩]
        refine Ev.ps 2 rfl ?_
        exact Ev.re rfl rfl rfl rfl rfl
theorem s_setupBetween {d n : Nat} {h : Hp} {ob : Ob} {s a b : Int32} (hg : hget h 6 n = some ob) (h1 : ob[1]? = some (vI s)) : Cal d 12 [vR 6 n, vI a, vI b] h (.inl (some (vI (if a = b then 0 else s)))) h := by
  refine Cal.mk (n := 3) rfl (Nat.le_of_ble_eq_true rfl) rfl ?_
  refine Ev.ps 2 rfl ?_
  refine Ev.icmp (by rfl) (by rfl) (fun c => ?_) (fun c => ?_)
  · have c := of_decide_eq_true c
    rw [if_neg c]
    refine Ev.ps 1 rfl ?_
    refine Ev.getf (by rfl) (by rfl) (by rfl) hg h1 ?_
    exact Ev.re rfl rfl rfl rfl rfl
  · have c := Decidable.not_not.mp (of_decide_eq_false c)
    rw [if_pos c]
    refine Ev.ps 2 rfl ?_
    exact Ev.re rfl rfl rfl rfl rfl
theorem s_needs {d n n2 : Nat} {h : Hp} {ob ob2 : Ob} {a b : Int32} (hg : hget h 4 n = some ob) (h1 : ob[2]? = some (vI a)) (hg2 : hget h 4 n2 = some ob2) (h2 : ob2[0]? = some (vI b)) : Cal d 8 [vR 4 n, vR 4 n2] h (.inl (some (b2 (¬ a &&& b = 0)))) h := by
  refine Cal.mk (n := 2) rfl (Nat.le_of_ble_eq_true rfl) rfl ?_
  unfold b2
  refine Ev.ps 1 rfl ?_
  refine Ev.getf (by rfl) (by rfl) (by rfl) hg h1 ?_
  refine Ev.ps 1 rfl ?_
  refine Ev.getf (by rfl) (by rfl) (by rfl) hg2 h2 ?_
  refine Ev.ps 1 rfl ?_
  refine Ev.ifi (by rfl) (by rfl) (fun c => ?_) (fun c => ?_)
  · have c := of_decide_eq_true c
    rw [if_neg (fun z => z c)]
    refine Ev.ps 1 rfl ?_
    exact Ev.re rfl rfl rfl rfl rfl
  · have c := of_decide_eq_false c
    rw [if_pos c]
    refine Ev.ps 2 rfl ?_
    exact Ev.re rfl rfl rfl rfl rfl
theorem s_range {d : Nat} {h : Hp} {v lo hi : Int32} (h1 : ¬ v < lo) (h2 : v ≤ hi) : Cal d 62 [vI v, vI lo, vI hi] h (.inl none) h := by
  refine Cal.mk (n := 3) rfl (Nat.le_of_ble_eq_true rfl) rfl ?_
  refine Ev.ps 2 rfl ?_
  refine Ev.icmp (by rfl) (by rfl) (fun c => by exact absurd (of_decide_eq_true c) h1) (fun _ => ?_)
  refine Ev.ps 2 rfl ?_
  refine Ev.icmp (by rfl) (by rfl) (fun _ => ?_) (fun c => by exact absurd h2 (of_decide_eq_false c))
  exact Ev.re rfl rfl rfl rfl rfl
theorem s_rangeX {d : Nat} {h : Hp} {v lo hi : Int32} (h1 : v < lo ∨ hi < v) : Cal d 62 [vI v, vI lo, vI hi] h (.inr 1) (hcst h 1 6) := by
  refine Cal.mk (n := 3) rfl (Nat.le_of_ble_eq_true rfl) rfl ?_
  refine Ev.ps 2 rfl ?_
  refine Ev.icmp (by rfl) (by rfl) (fun c => ?_) (fun c => ?_)
  · exact Ev.thw (by rfl)
  · have c := of_decide_eq_false c
    refine Ev.ps 2 rfl ?_
    refine Ev.icmp (by rfl) (by rfl) (fun c2 => by exact absurd (of_decide_eq_true c2) (Int32.not_le.mpr (h1.resolve_left c))) (fun _ => ?_)
    exact Ev.thw (by rfl)
theorem s_room {d : Nat} {h : Hp} {v hi : Int32} (h2 : v < hi) : Cal d 63 [vI v, vI hi] h (.inl none) h := by
  refine Cal.mk (n := 2) rfl (Nat.le_of_ble_eq_true rfl) rfl ?_
  refine Ev.ps 2 rfl ?_
  refine Ev.icmp (by rfl) (by rfl) (fun _ => ?_) (fun c => by exact absurd h2 (of_decide_eq_false c))
  exact Ev.re rfl rfl rfl rfl rfl
theorem s_roomX {d : Nat} {h : Hp} {v hi : Int32} (h2 : ¬ v < hi) : Cal d 63 [vI v, vI hi] h (.inr 5) (hcst h 1 6) := by
  refine Cal.mk (n := 2) rfl (Nat.le_of_ble_eq_true rfl) rfl ?_
  refine Ev.ps 2 rfl ?_
  refine Ev.icmp (by rfl) (by rfl) (fun c => by exact absurd (of_decide_eq_true c) h2) (fun _ => ?_)
  exact Ev.thw (by rfl)
end
section
/-! the class's lookups by number (written by gen45.py) -/
theorem s_machineAt {d n k : Nat} {h : Hp} {od : Ob} (hd : hget h 8 0 = some od) (hf : od[1]? = some (vR 11 0)) (hl : hget h 11 0 = some ((List.range n).map (vR 6))) (hn : n < 2 ^ 31) (hk : k < n) (ho : (hget h 6 k).isSome = true) : Cal d 68 [vR 8 0, vI (nI k)] h (.inl (some (vR 6 k))) h := by
  refine Cal.mk (n := 2) rfl (Nat.le_of_ble_eq_true rfl) rfl ?_
  refine Ev.ps 1 rfl ?_
  refine Ev.ifi (by rfl) (by rfl) (fun c => by exact absurd (of_decide_eq_true c) (nI_pos (by omega))) (fun _ => ?_)
  refine Ev.ps 2 rfl ?_
  refine Ev.getf (by rfl) (by rfl) (by rfl) hd hf ?_
  refine Ev.lsz (by rfl) (by rfl) (by rfl) (Nat.le_of_ble_eq_true rfl) hl ?_
  refine Ev.icmp (by rfl) (by rfl) (fun _ => ?_) (fun c => by exact absurd (nI_lt (by rw [List.length_map, List.length_range]; exact hk) (by rw [List.length_map, List.length_range]; exact hn)) (of_decide_eq_false c))
  refine Ev.ps 1 rfl ?_
  refine Ev.getf (by rfl) (by rfl) (by rfl) hd hf ?_
  refine Ev.ps 1 rfl ?_
  refine Ev.lgt (v := vR 6 k) (by rfl) (by rfl) (by rfl) (Nat.le_of_ble_eq_true rfl) hl (nI_pos (by omega)) (by rw [nI_clamp (by omega), List.getElem?_map, List.getElem?_range hk]; rfl) ?_
  refine Ev.cst (by rfl) (by rfl) (by rfl) ho ?_
  exact Ev.re rfl rfl rfl rfl rfl
theorem s_machineAtX {d n : Nat} {j : Int32} {h : Hp} {od : Ob} (hd : hget h 8 0 = some od) (hf : od[1]? = some (vR 11 0)) (hl : hget h 11 0 = some ((List.range n).map (vR 6))) (hj : j < 0 ∨ nI n ≤ j) : Cal d 68 [vR 8 0, vI j] h (.inr 0) (hcst h 1 6) := by
  refine Cal.mk (n := 2) rfl (Nat.le_of_ble_eq_true rfl) rfl ?_
  refine Ev.ps 1 rfl ?_
  refine Ev.ifi (by rfl) (by rfl) (fun c => ?_) (fun c => ?_)
  · exact Ev.thw (by rfl)
  · have c := of_decide_eq_false c
    refine Ev.ps 2 rfl ?_
    refine Ev.getf (by rfl) (by rfl) (by rfl) hd hf ?_
    refine Ev.lsz (by rfl) (by rfl) (by rfl) (Nat.le_of_ble_eq_true rfl) hl ?_
    refine Ev.icmp (by rfl) (by rfl) (fun c2 => ?_) (fun _ => ?_)
    · exfalso
      have c2 := of_decide_eq_true c2
      rw [List.length_map, List.length_range] at c2
      exact absurd c2 (Int32.not_lt.mpr (hj.resolve_left c))
    · exact Ev.thw (by rfl)

theorem s_kindAt {d n k : Nat} {h : Hp} {od : Ob} (hd : hget h 8 0 = some od) (hf : od[0]? = some (vR 10 0)) (hl : hget h 10 0 = some ((List.range n).map (vR 4))) (hn : n < 2 ^ 31) (hk : k < n) (ho : (hget h 4 k).isSome = true) : Cal d 69 [vR 8 0, vI (nI k)] h (.inl (some (vR 4 k))) h := by
  refine Cal.mk (n := 2) rfl (Nat.le_of_ble_eq_true rfl) rfl ?_
  refine Ev.ps 1 rfl ?_
  refine Ev.ifi (by rfl) (by rfl) (fun c => by exact absurd (of_decide_eq_true c) (nI_pos (by omega))) (fun _ => ?_)
  refine Ev.ps 2 rfl ?_
  refine Ev.getf (by rfl) (by rfl) (by rfl) hd hf ?_
  refine Ev.lsz (by rfl) (by rfl) (by rfl) (Nat.le_of_ble_eq_true rfl) hl ?_
  refine Ev.icmp (by rfl) (by rfl) (fun _ => ?_) (fun c => by exact absurd (nI_lt (by rw [List.length_map, List.length_range]; exact hk) (by rw [List.length_map, List.length_range]; exact hn)) (of_decide_eq_false c))
  refine Ev.ps 1 rfl ?_
  refine Ev.getf (by rfl) (by rfl) (by rfl) hd hf ?_
  refine Ev.ps 1 rfl ?_
  refine Ev.lgt (v := vR 4 k) (by rfl) (by rfl) (by rfl) (Nat.le_of_ble_eq_true rfl) hl (nI_pos (by omega)) (by rw [nI_clamp (by omega), List.getElem?_map, List.getElem?_range hk]; rfl) ?_
  refine Ev.cst (by rfl) (by rfl) (by rfl) ho ?_
  exact Ev.re rfl rfl rfl rfl rfl
theorem s_kindAtX {d n : Nat} {j : Int32} {h : Hp} {od : Ob} (hd : hget h 8 0 = some od) (hf : od[0]? = some (vR 10 0)) (hl : hget h 10 0 = some ((List.range n).map (vR 4))) (hj : j < 0 ∨ nI n ≤ j) : Cal d 69 [vR 8 0, vI j] h (.inr 1) (hcst h 1 6) := by
  refine Cal.mk (n := 2) rfl (Nat.le_of_ble_eq_true rfl) rfl ?_
  refine Ev.ps 1 rfl ?_
  refine Ev.ifi (by rfl) (by rfl) (fun c => ?_) (fun c => ?_)
  · exact Ev.thw (by rfl)
  · have c := of_decide_eq_false c
    refine Ev.ps 2 rfl ?_
    refine Ev.getf (by rfl) (by rfl) (by rfl) hd hf ?_
    refine Ev.lsz (by rfl) (by rfl) (by rfl) (Nat.le_of_ble_eq_true rfl) hl ?_
    refine Ev.icmp (by rfl) (by rfl) (fun c2 => ?_) (fun _ => ?_)
    · exfalso
      have c2 := of_decide_eq_true c2
      rw [List.length_map, List.length_range] at c2
      exact absurd c2 (Int32.not_lt.mpr (hj.resolve_left c))
    · exact Ev.thw (by rfl)

theorem s_entryAt {d n k : Nat} {h : Hp} {od : Ob} (hd : hget h 8 0 = some od) (hf : od[3]? = some (vR 13 0)) (hl : hget h 13 0 = some ((List.range n).map (vR 3))) (hn : n < 2 ^ 31) (hk : k < n) (ho : (hget h 3 k).isSome = true) : Cal d 70 [vR 8 0, vI (nI k)] h (.inl (some (vR 3 k))) h := by
  refine Cal.mk (n := 2) rfl (Nat.le_of_ble_eq_true rfl) rfl ?_
  refine Ev.ps 1 rfl ?_
  refine Ev.ifi (by rfl) (by rfl) (fun c => by exact absurd (of_decide_eq_true c) (nI_pos (by omega))) (fun _ => ?_)
  refine Ev.ps 2 rfl ?_
  refine Ev.getf (by rfl) (by rfl) (by rfl) hd hf ?_
  refine Ev.lsz (by rfl) (by rfl) (by rfl) (Nat.le_of_ble_eq_true rfl) hl ?_
  refine Ev.icmp (by rfl) (by rfl) (fun _ => ?_) (fun c => by exact absurd (nI_lt (by rw [List.length_map, List.length_range]; exact hk) (by rw [List.length_map, List.length_range]; exact hn)) (of_decide_eq_false c))
  refine Ev.ps 1 rfl ?_
  refine Ev.getf (by rfl) (by rfl) (by rfl) hd hf ?_
  refine Ev.ps 1 rfl ?_
  refine Ev.lgt (v := vR 3 k) (by rfl) (by rfl) (by rfl) (Nat.le_of_ble_eq_true rfl) hl (nI_pos (by omega)) (by rw [nI_clamp (by omega), List.getElem?_map, List.getElem?_range hk]; rfl) ?_
  refine Ev.cst (by rfl) (by rfl) (by rfl) ho ?_
  exact Ev.re rfl rfl rfl rfl rfl
theorem s_entryAtX {d n : Nat} {j : Int32} {h : Hp} {od : Ob} (hd : hget h 8 0 = some od) (hf : od[3]? = some (vR 13 0)) (hl : hget h 13 0 = some ((List.range n).map (vR 3))) (hj : j < 0 ∨ nI n ≤ j) : Cal d 70 [vR 8 0, vI j] h (.inr 4) (hcst h 1 6) := by
  refine Cal.mk (n := 2) rfl (Nat.le_of_ble_eq_true rfl) rfl ?_
  refine Ev.ps 1 rfl ?_
  refine Ev.ifi (by rfl) (by rfl) (fun c => ?_) (fun c => ?_)
  · exact Ev.thw (by rfl)
  · have c := of_decide_eq_false c
    refine Ev.ps 2 rfl ?_
    refine Ev.getf (by rfl) (by rfl) (by rfl) hd hf ?_
    refine Ev.lsz (by rfl) (by rfl) (by rfl) (Nat.le_of_ble_eq_true rfl) hl ?_
    refine Ev.icmp (by rfl) (by rfl) (fun c2 => ?_) (fun _ => ?_)
    · exfalso
      have c2 := of_decide_eq_true c2
      rw [List.length_map, List.length_range] at c2
      exact absurd c2 (Int32.not_lt.mpr (hj.resolve_left c))
    · exact Ev.thw (by rfl)

theorem s_barAt {d n k : Nat} {h : Hp} {od : Ob} (hd : hget h 8 0 = some od) (hf : od[4]? = some (vR 14 0)) (hl : hget h 14 0 = some ((List.range n).map (vR 0))) (hn : n < 2 ^ 31) (hk : k < n) (ho : (hget h 0 k).isSome = true) : Cal d 71 [vR 8 0, vI (nI k)] h (.inl (some (vR 0 k))) h := by
  refine Cal.mk (n := 2) rfl (Nat.le_of_ble_eq_true rfl) rfl ?_
  refine Ev.ps 1 rfl ?_
  refine Ev.ifi (by rfl) (by rfl) (fun c => by exact absurd (of_decide_eq_true c) (nI_pos (by omega))) (fun _ => ?_)
  refine Ev.ps 2 rfl ?_
  refine Ev.getf (by rfl) (by rfl) (by rfl) hd hf ?_
  refine Ev.lsz (by rfl) (by rfl) (by rfl) (Nat.le_of_ble_eq_true rfl) hl ?_
  refine Ev.icmp (by rfl) (by rfl) (fun _ => ?_) (fun c => by exact absurd (nI_lt (by rw [List.length_map, List.length_range]; exact hk) (by rw [List.length_map, List.length_range]; exact hn)) (of_decide_eq_false c))
  refine Ev.ps 1 rfl ?_
  refine Ev.getf (by rfl) (by rfl) (by rfl) hd hf ?_
  refine Ev.ps 1 rfl ?_
  refine Ev.lgt (v := vR 0 k) (by rfl) (by rfl) (by rfl) (Nat.le_of_ble_eq_true rfl) hl (nI_pos (by omega)) (by rw [nI_clamp (by omega), List.getElem?_map, List.getElem?_range hk]; rfl) ?_
  refine Ev.cst (by rfl) (by rfl) (by rfl) ho ?_
  exact Ev.re rfl rfl rfl rfl rfl
theorem s_barAtX {d n : Nat} {j : Int32} {h : Hp} {od : Ob} (hd : hget h 8 0 = some od) (hf : od[4]? = some (vR 14 0)) (hl : hget h 14 0 = some ((List.range n).map (vR 0))) (hj : j < 0 ∨ nI n ≤ j) : Cal d 71 [vR 8 0, vI j] h (.inr 4) (hcst h 1 6) := by
  refine Cal.mk (n := 2) rfl (Nat.le_of_ble_eq_true rfl) rfl ?_
  refine Ev.ps 1 rfl ?_
  refine Ev.ifi (by rfl) (by rfl) (fun c => ?_) (fun c => ?_)
  · exact Ev.thw (by rfl)
  · have c := of_decide_eq_false c
    refine Ev.ps 2 rfl ?_
    refine Ev.getf (by rfl) (by rfl) (by rfl) hd hf ?_
    refine Ev.lsz (by rfl) (by rfl) (by rfl) (Nat.le_of_ble_eq_true rfl) hl ?_
    refine Ev.icmp (by rfl) (by rfl) (fun c2 => ?_) (fun _ => ?_)
    · exfalso
      have c2 := of_decide_eq_true c2
      rw [List.length_map, List.length_range] at c2
      exact absurd c2 (Int32.not_lt.mpr (hj.resolve_left c))
    · exact Ev.thw (by rfl)

theorem s_requireMember {d n k : Nat} {h : Hp} {od : Ob} (hd : hget h 8 0 = some od) (hf : od[2]? = some (vR 12 0)) (hl : hget h 12 0 = some ((List.range n).map (vR 7))) (hn : n < 2 ^ 31) (hk : k < n) : Cal d 66 [vR 8 0, vI (nI k)] h (.inl none) h := by
  refine Cal.mk (n := 2) rfl (Nat.le_of_ble_eq_true rfl) rfl ?_
  refine Ev.ps 1 rfl ?_
  refine Ev.ifi (by rfl) (by rfl) (fun c => by exact absurd (of_decide_eq_true c) (nI_pos (by omega))) (fun _ => ?_)
  refine Ev.ps 2 rfl ?_
  refine Ev.getf (by rfl) (by rfl) (by rfl) hd hf ?_
  refine Ev.lsz (by rfl) (by rfl) (by rfl) (Nat.le_of_ble_eq_true rfl) hl ?_
  refine Ev.icmp (by rfl) (by rfl) (fun _ => ?_) (fun c => by exact absurd (nI_lt (by rw [List.length_map, List.length_range]; exact hk) (by rw [List.length_map, List.length_range]; exact hn)) (of_decide_eq_false c))
  exact Ev.re rfl rfl rfl rfl rfl
theorem s_requireMemberX {d n : Nat} {j : Int32} {h : Hp} {od : Ob} (hd : hget h 8 0 = some od) (hf : od[2]? = some (vR 12 0)) (hl : hget h 12 0 = some ((List.range n).map (vR 7))) (hj : j < 0 ∨ nI n ≤ j) : Cal d 66 [vR 8 0, vI j] h (.inr 0) (hcst h 1 6) := by
  refine Cal.mk (n := 2) rfl (Nat.le_of_ble_eq_true rfl) rfl ?_
  refine Ev.ps 1 rfl ?_
  refine Ev.ifi (by rfl) (by rfl) (fun c => ?_) (fun c => ?_)
  · exact Ev.thw (by rfl)
  · have c := of_decide_eq_false c
    refine Ev.ps 2 rfl ?_
    refine Ev.getf (by rfl) (by rfl) (by rfl) hd hf ?_
    refine Ev.lsz (by rfl) (by rfl) (by rfl) (Nat.le_of_ble_eq_true rfl) hl ?_
    refine Ev.icmp (by rfl) (by rfl) (fun c2 => ?_) (fun _ => ?_)
    · exfalso
      have c2 := of_decide_eq_true c2
      rw [List.length_map, List.length_range] at c2
      exact absurd c2 (Int32.not_lt.mpr (hj.resolve_left c))
    · exact Ev.thw (by rfl)
theorem s_memberAt {d n k : Nat} {h : Hp} {od : Ob} (hd : hget h 8 0 = some od) (hf : od[2]? = some (vR 12 0)) (hl : hget h 12 0 = some ((List.range n).map (vR 7))) (hn : n < 2 ^ 31) (hk : k < n) (ho : (hget h 7 k).isSome = true) : Cal (d + 1) 67 [vR 8 0, vI (nI k)] h (.inl (some (vR 7 k))) h := by
  refine Cal.mk (n := 2) rfl (Nat.le_of_ble_eq_true rfl) rfl ?_
  refine Ev.ps 2 rfl ?_
  refine Ev.vir (as := [vI (nI k)]) (rest := []) (by rfl) (by rfl) (by rfl) (by rfl) rfl (Nat.le_of_ble_eq_true rfl) (by rfl) (by rw [hd]; rfl) (s_requireMember hd hf hl hn hk) ?_
  refine Ev.ps 1 rfl ?_
  refine Ev.getf (by rfl) (by rfl) (by rfl) hd hf ?_
  refine Ev.ps 1 rfl ?_
  refine Ev.lgt (v := vR 7 k) (by rfl) (by rfl) (by rfl) (Nat.le_of_ble_eq_true rfl) hl (nI_pos (by omega)) (by rw [nI_clamp (by omega), List.getElem?_map, List.getElem?_range hk]; rfl) ?_
  refine Ev.cst (by rfl) (by rfl) (by rfl) ho ?_
  exact Ev.re rfl rfl rfl rfl rfl
theorem s_memberAtX {d n : Nat} {j : Int32} {h : Hp} {od : Ob} (hd : hget h 8 0 = some od) (hf : od[2]? = some (vR 12 0)) (hl : hget h 12 0 = some ((List.range n).map (vR 7))) (hj : j < 0 ∨ nI n ≤ j) : Cal (d + 1) 67 [vR 8 0, vI j] h (.inr 0) (hcst h 1 6) := by
  refine Cal.mk (n := 2) rfl (Nat.le_of_ble_eq_true rfl) rfl ?_
  refine Ev.ps 2 rfl ?_
  exact Ev.virX (as := [vI j]) (rest := []) (by rfl) (by rfl) (by rfl) (by rfl) rfl (Nat.le_of_ble_eq_true rfl) (by rfl) (by rw [hd]; rfl) (s_requireMemberX hd hf hl hj) (by rfl)
end
section
/-! entries; loops over all of them -/
section AC
variable {d y pc : Nat} {L : Lo} {st : List MV} {h : Hp} {x : Re × Hp}
theorem Ev.acne {off : Int} {t s1 m1 s2 m2 : Nat} (hc : codeAt y pc = some (.if_acmp .ne off, 3)) (ht : tgt pc off = some t) (h1 : (sk s1).1 < 3) (h2 : (sk s2).1 < 3) (k1 : ¬ (s1, m1) = (s2, m2) → Ev d (y, t, L, st) h x) (k2 : (s1, m1) = (s2, m2) → Ev d (y, pc + 3, L, st) h x) : Ev d (y, pc, L, vR s2 m2 :: vR s1 m1 :: st) h x := by
  by_cases e : (s1, m1) = (s2, m2)
  · refine Ev.p hc ?_ (k2 e)
    simp only [pin, pac, Option.all_some, decide_eq_true_eq, h1, h2, and_self, if_true, ht]
    rw [if_neg (by rw [e]; simp)]
  · refine Ev.p hc ?_ (k1 e)
    simp only [pin, pac, Option.all_some, decide_eq_true_eq, h1, h2, and_self, if_true, ht]
    rw [if_pos (by simp only [Option.some.injEq, decide_eq_false_iff_not]; exact fun z => e z.symm)]
end AC
/-- an entry: member, machine, day, start, minutes, end, work, state, due -/
abbrev En : Type := Nat × Nat × Int32 × Int32 × Int32 × Int32 × Int32 × Int32 × Int32
def eMem (e : En) : Nat := e.1
def eMac (e : En) : Nat := e.2.1
def eDay (e : En) : Int32 := e.2.2.1
def eSta (e : En) : Int32 := e.2.2.2.1
def eLen (e : En) : Int32 := e.2.2.2.2.1
def eEnd (e : En) : Int32 := e.2.2.2.2.2.1
def eWrk (e : En) : Int32 := e.2.2.2.2.2.2.1
def eSt (e : En) : Int32 := e.2.2.2.2.2.2.2.1
def eDue (e : En) : Int32 := e.2.2.2.2.2.2.2.2
def encE (i : Nat) (e : En) : Ob := [vR 7 (eMem e), vR 6 (eMac e), vI (eDay e), vI (eSta e), vI (eLen e), vI (eEnd e), vI (eWrk e), vR 17 i, vI (eSt e), vI (eDue e)]
/-- the desk's entries in the heap -/
def EntsAt (es : List En) (h : Hp) : Prop := (∃ od, hget h 8 0 = some od ∧ od[3]? = some (vR 13 0)) ∧ hget h 13 0 = some ((List.range es.length).map (vR 3)) ∧ es.length < 2 ^ 31 ∧ ∀ (i : Nat) (e : En), es[i]? = some e → hget h 3 i = some (encE i e)
def busyE (m : Nat) (D S E : Int32) (e : En) : Bool := decide (eSt e = 98) && decide (eMem e = m) && decide (eDay e = D ∧ eSta e < E ∧ S < eEnd e)
def bI (b : Bool) : Int32 := if b then 1 else 0
theorem s_isBusy {d m : Nat} {h : Hp} {es : List En} {D S E : Int32} (hE : EntsAt es h) : Cal (d + 1) 79 [vR 8 0, vR 7 m, vI D, vI S, vI E] h (.inl (some (vI (bI (es.any (busyE m D S E)))))) h := by
  obtain ⟨⟨od, hd, hf⟩, hl, hlen, hes⟩ := hE
  refine Cal.mk (n := 7) rfl (Nat.le_of_ble_eq_true rfl) rfl ?_
  refine Ev.ps 2 rfl ?_
  have loop : ∀ (k j : Nat) (o : Option MV), j + k = es.length → Ev (d + 1) (79, 3, [some (vR 8 0), some (vR 7 m), some (vI D), some (vI S), some (vI E), some (vI (nI j)), o], []) h (.inl (some (vI (bI ((es.drop j).any (busyE m D S E))))), h) := by
    intro k
    induction k with
    | zero =>
      intro j o hj
      refine Ev.ps 2 rfl ?_
      refine Ev.getf (by rfl) (by rfl) (by rfl) hd hf ?_
      refine Ev.lsz (by rfl) (by rfl) (by rfl) (Nat.le_of_ble_eq_true rfl) hl ?_
      refine Ev.icmp (by rfl) (by rfl) (fun c => ?_) (fun c => ?_)
      · rw [List.drop_of_length_le (by omega)]
        refine Ev.ps 1 rfl ?_
        exact Ev.re rfl rfl rfl rfl rfl
      · have c := of_decide_eq_false c
        rw [List.length_map, List.length_range] at c
        exact absurd (nI_le (by omega) (by omega)) c
    | succ k ih =>
      intro j o hj
      have hjl : j < es.length := by omega
      have e1 : es.drop j = es[j] :: es.drop (j + 1) := List.drop_eq_getElem_cons hjl
      rw [e1, List.any_cons]
      have ho := hes j es[j] (List.getElem?_eq_getElem hjl)
      generalize es[j] = en at ho ⊢
      have next : ∀ (o : Option MV), Ev (d + 1) (79, 62, [some (vR 8 0), some (vR 7 m), some (vI D), some (vI S), some (vI E), some (vI (nI j)), o], []) h (.inl (some (vI (bI ((es.drop (j + 1)).any (busyE m D S E))))), h) := by
        intro o
        refine Ev.ps 2 rfl ?_
        have h9 := ih (j + 1) o (by omega)
        rw [← nI_1] at h9
        exact h9
      refine Ev.ps 2 rfl ?_
      refine Ev.getf (by rfl) (by rfl) (by rfl) hd hf ?_
      refine Ev.lsz (by rfl) (by rfl) (by rfl) (Nat.le_of_ble_eq_true rfl) hl ?_
      refine Ev.icmp (by rfl) (by rfl) (fun c => ?_) (fun _ => ?_)
      · have c := of_decide_eq_true c
        rw [List.length_map, List.length_range] at c
        exact absurd c (nI_ge (by omega) (by omega))
      · refine Ev.ps 1 rfl ?_
        refine Ev.getf (by rfl) (by rfl) (by rfl) hd hf ?_
        refine Ev.ps 1 rfl ?_
        refine Ev.lgt (v := vR 3 j) (by rfl) (by rfl) (by rfl) (Nat.le_of_ble_eq_true rfl) hl (nI_pos (by omega)) (by rw [nI_clamp (by omega), List.getElem?_map, List.getElem?_range hjl]; rfl) ?_
        refine Ev.cst (by rfl) (by rfl) (by rfl) (by rw [ho]; rfl) ?_
        refine Ev.ps 2 rfl ?_
        refine Ev.getf (v := vI (eSt en)) (by rfl) (by rfl) (by rfl) ho rfl ?_
        refine Ev.ps 1 rfl ?_
        refine Ev.icmp (by rfl) (by rfl) (fun c => ?_) (fun c => ?_)
        · have c : ¬ eSt en = 98 := of_decide_eq_true c
          rw [show busyE m D S E en = false by unfold busyE; rw [decide_eq_false c]; rfl, Bool.false_or]
          exact next _
        · have c : eSt en = 98 := Decidable.not_not.mp (of_decide_eq_false c)
          refine Ev.ps 1 rfl ?_
          refine Ev.getf (v := vR 7 (eMem en)) (by rfl) (by rfl) (by rfl) ho rfl ?_
          refine Ev.ps 1 rfl ?_
          refine Ev.acne (by rfl) (by rfl) (by decide) (by decide) (fun c2 => ?_) (fun c2 => ?_)
          · have c2 : ¬ eMem en = m := fun z => c2 (by rw [z])
            rw [show busyE m D S E en = false by unfold busyE; rw [decide_eq_false c2, Bool.and_false]; rfl, Bool.false_or]
            exact next _
          · have c2 : eMem en = m := (Prod.mk.inj c2).2
            refine Ev.ps 4 rfl ?_
            refine Ev.vir (as := [vI D, vI S, vI E]) (rest := []) (by rfl) (by rfl) (by rfl) (by rfl) rfl (Nat.le_of_ble_eq_true rfl) (by rfl) (by rw [ho]; rfl) (s_overlaps (da := eDay en) (sa := eSta en) (en := eEnd en) ho rfl rfl rfl) ?_
            unfold b2
            by_cases c3 : eDay en = D ∧ eSta en < E ∧ S < eEnd en
            · rw [if_pos c3]
              refine Ev.ifi (by rfl) (by rfl) (fun z => by exact absurd z (by decide)) (fun _ => ?_)
              rw [show busyE m D S E en = true by unfold busyE; rw [decide_eq_true c, decide_eq_true c2, decide_eq_true c3]; rfl, Bool.true_or]
              refine Ev.ps 1 rfl ?_
              exact Ev.re rfl rfl rfl rfl rfl
            · rw [if_neg c3]
              refine Ev.ifi (by rfl) (by rfl) (fun _ => ?_) (fun z => by exact absurd z (by decide))
              rw [show busyE m D S E en = false by unfold busyE; rw [decide_eq_false c3, Bool.and_false], Bool.false_or]
              exact next _
  have h9 := loop es.length 0 none (by omega)
  rw [List.drop_zero] at h9
  exact h9
end
section
/-! isFree: a machine's held entries from a place on -/
def refO : Option Nat → MV
  | none => vN
  | some e => vR 3 e
def okBf (v : Nat → En) (s S W : Int32) : Option Nat → Bool
  | none => true
  | some e => decide ((if eWrk (v e) = W then 0 else s) ≤ S - eEnd (v e))
def okAf (v : Nat → En) (s F W : Int32) : Option Nat → Bool
  | none => true
  | some e => decide ((if W = eWrk (v e) then 0 else s) ≤ eSta (v e) - F)
def freeL (v : Nat → En) (s D S F W : Int32) : Option Nat → List Nat → Bool
  | b, [] => okBf v s S W b
  | b, e :: es => if eDay (v e) = D then (if eDay (v e) = D ∧ eSta (v e) < F ∧ S < eEnd (v e) then false else if eSta (v e) < F then freeL v s D S F W (some e) es else okBf v s S W b && okAf v s F W (some e)) else okBf v s S W b
/-- a machine and what it holds -/
def HeldAt (v : Nat → En) (mm q : Nat) (s : Int32) (es : List Nat) (h : Hp) : Prop := (∃ om, hget h 6 mm = some om ∧ om[1]? = some (vI s) ∧ om[2]? = some (vR 16 q)) ∧ hget h 16 q = some (es.map (vR 3)) ∧ es.length < 2 ^ 31 ∧ ∀ e ∈ es, hget h 3 e = some (encE e (v e))
theorem free_end {d mm : Nat} {h : Hp} {v : Nat → En} {s P D S M W F : Int32} {om : Ob} {l9 l10 : Option MV} (hm : hget h 6 mm = some om) (h1 : om[1]? = some (vI s)) (o1 o2 : Option Nat) (ho1 : ∀ e, o1 = some e → hget h 3 e = some (encE e (v e))) (ho2 : ∀ e, o2 = some e → hget h 3 e = some (encE e (v e))) :
    Ev (d + 1) (80, 101, [some (vR 6 mm), some (vI P), some (vI D), some (vI S), some (vI M), some (vI W), some (vI F), some (refO o1), some (refO o2), l9, l10], []) h (.inl (some (vI (bI (okBf v s S W o1 && okAf v s F W o2)))), h) := by
  have tail2 : Ev (d + 1) (80, 127, [some (vR 6 mm), some (vI P), some (vI D), some (vI S), some (vI M), some (vI W), some (vI F), some (refO o1), some (refO o2), l9, l10], []) h (.inl (some (vI (bI (okAf v s F W o2)))), h) := by
    cases o2 with
    | none =>
      refine Ev.ps 4 rfl ?_
      exact Ev.re rfl rfl rfl rfl rfl
    | some e =>
      have he := ho2 e rfl
      refine Ev.ps 3 rfl ?_
      refine Ev.getf (v := vI (eSta (v e))) (by rfl) (by rfl) (by rfl) he rfl ?_
      refine Ev.ps 5 rfl ?_
      refine Ev.getf (v := vI (eWrk (v e))) (by rfl) (by rfl) (by rfl) he rfl ?_
      refine Ev.vir (as := [vI W, vI (eWrk (v e))]) (rest := [vI (eSta (v e) - F)]) (by rfl) (by rfl) (by rfl) (by rfl) rfl (Nat.le_of_ble_eq_true rfl) (by rfl) (by rw [hm]; rfl) (s_setupBetween hm h1) ?_
      refine Ev.icmp (by rfl) (by rfl) (fun c => ?_) (fun c => ?_)
      · have c := of_decide_eq_true c
        rw [show okAf v s F W (some e) = false from decide_eq_false (Int32.not_le.mpr c)]
        refine Ev.ps 1 rfl ?_
        exact Ev.re rfl rfl rfl rfl rfl
      · have c := of_decide_eq_false c
        rw [show okAf v s F W (some e) = true from decide_eq_true (Int32.not_lt.mp c)]
        refine Ev.ps 2 rfl ?_
        exact Ev.re rfl rfl rfl rfl rfl
  cases o1 with
  | none =>
    refine Ev.ps 2 rfl ?_
    exact tail2
  | some e =>
    have he := ho1 e rfl
    refine Ev.ps 4 rfl ?_
    refine Ev.getf (v := vI (eEnd (v e))) (by rfl) (by rfl) (by rfl) he rfl ?_
    refine Ev.ps 3 rfl ?_
    refine Ev.getf (v := vI (eWrk (v e))) (by rfl) (by rfl) (by rfl) he rfl ?_
    refine Ev.ps 1 rfl ?_
    refine Ev.vir (as := [vI (eWrk (v e)), vI W]) (rest := [vI (S - eEnd (v e))]) (by rfl) (by rfl) (by rfl) (by rfl) rfl (Nat.le_of_ble_eq_true rfl) (by rfl) (by rw [hm]; rfl) (s_setupBetween hm h1) ?_
    refine Ev.icmp (by rfl) (by rfl) (fun c => ?_) (fun c => ?_)
    · have c := of_decide_eq_true c
      rw [show okBf v s S W (some e) = false from decide_eq_false (Int32.not_le.mpr c), Bool.false_and]
      refine Ev.ps 1 rfl ?_
      exact Ev.re rfl rfl rfl rfl rfl
    · have c := of_decide_eq_false c
      rw [show okBf v s S W (some e) = true from decide_eq_true (Int32.not_lt.mp c), Bool.true_and]
      exact tail2
theorem s_isFree {d mm q p0 : Nat} {h : Hp} {v : Nat → En} {es : List Nat} {s D S M W : Int32} (hH : HeldAt v mm q s es h) (hp : p0 ≤ es.length) : Cal (d + 1) 80 [vR 6 mm, vI (nI p0), vI D, vI S, vI M, vI W] h (.inl (some (vI (bI (freeL v s D S (S + M) W none (es.drop p0)))))) h := by
  obtain ⟨⟨om, hm, h1, hf⟩, hl, hlen, hes⟩ := hH
  refine Cal.mk (n := 11) rfl (Nat.le_of_ble_eq_true rfl) rfl ?_
  refine Ev.ps 10 rfl ?_
  have loop : ∀ (k j : Nat) (o1 : Option Nat) (o : Option MV), j + k = es.length → (∀ e, o1 = some e → hget h 3 e = some (encE e (v e))) → Ev (d + 1) (80, 15, [some (vR 6 mm), some (vI (nI p0)), some (vI D), some (vI S), some (vI M), some (vI W), some (vI (S + M)), some (refO o1), some vN, some (vI (nI j)), o], []) h (.inl (some (vI (bI (freeL v s D S (S + M) W o1 (es.drop j))))), h) := by
    intro k
    induction k with
    | zero =>
      intro j o1 o hj ho1
      refine Ev.ps 2 rfl ?_
      refine Ev.getf (by rfl) (by rfl) (by rfl) hm hf ?_
      refine Ev.lsz (by rfl) (by rfl) (by rfl) (Nat.le_of_ble_eq_true rfl) hl ?_
      refine Ev.icmp (by rfl) (by rfl) (fun c => ?_) (fun c => ?_)
      · rw [List.drop_of_length_le (by omega)]
        have h9 := free_end (d := d) (P := nI p0) (D := D) (M := M) (F := S + M) (W := W) (S := S) (l9 := some (vI (nI j))) (l10 := o) hm h1 o1 none ho1 (fun e z => nomatch z)
        rw [show okAf v s (S + M) W none = true from rfl, Bool.and_true] at h9
        exact h9
      · have c := of_decide_eq_false c
        rw [List.length_map] at c
        exact absurd (nI_le (by omega) (by omega)) c
    | succ k ih =>
      intro j o1 o hj ho1
      have hjl : j < es.length := by omega
      have e1 : es.drop j = es[j] :: es.drop (j + 1) := List.drop_eq_getElem_cons hjl
      have hge : (es.map (vR 3))[(nI j).toNatClampNeg]? = some (vR 3 es[j]) := by rw [nI_clamp (by omega), List.getElem?_map, List.getElem?_eq_getElem hjl]; rfl
      have ho := hes es[j] (List.getElem_mem hjl)
      rw [e1]
      unfold freeL
      generalize es[j] = en at ho hge ⊢
      refine Ev.ps 2 rfl ?_
      refine Ev.getf (by rfl) (by rfl) (by rfl) hm hf ?_
      refine Ev.lsz (by rfl) (by rfl) (by rfl) (Nat.le_of_ble_eq_true rfl) hl ?_
      refine Ev.icmp (by rfl) (by rfl) (fun c => ?_) (fun _ => ?_)
      · have c := of_decide_eq_true c
        rw [List.length_map] at c
        exact absurd c (nI_ge (by omega) (by omega))
      · refine Ev.ps 1 rfl ?_
        refine Ev.getf (by rfl) (by rfl) (by rfl) hm hf ?_
        refine Ev.ps 1 rfl ?_
        refine Ev.lgt (v := vR 3 en) (by rfl) (by rfl) (by rfl) (Nat.le_of_ble_eq_true rfl) hl (nI_pos (by omega)) hge ?_
        refine Ev.cst (by rfl) (by rfl) (by rfl) (by rw [ho]; rfl) ?_
        refine Ev.getf (v := vI (eDay (v en))) (by rfl) (by rfl) (by rfl) ho rfl ?_
        refine Ev.ps 1 rfl ?_
        refine Ev.icmp (by rfl) (by rfl) (fun c => ?_) (fun c => ?_)
        · have c := of_decide_eq_true c
          rw [if_neg c]
          have h9 := free_end (d := d) (P := nI p0) (D := D) (M := M) (F := S + M) (W := W) (S := S) (l9 := some (vI (nI j))) (l10 := o) hm h1 o1 none ho1 (fun e z => nomatch z)
          rw [show okAf v s (S + M) W none = true from rfl, Bool.and_true] at h9
          exact h9
        · have c := Decidable.not_not.mp (of_decide_eq_false c)
          rw [if_pos c]
          refine Ev.ps 1 rfl ?_
          refine Ev.getf (by rfl) (by rfl) (by rfl) hm hf ?_
          refine Ev.ps 1 rfl ?_
          refine Ev.lgt (v := vR 3 en) (by rfl) (by rfl) (by rfl) (Nat.le_of_ble_eq_true rfl) hl (nI_pos (by omega)) hge ?_
          refine Ev.cst (by rfl) (by rfl) (by rfl) (by rw [ho]; rfl) ?_
          refine Ev.ps 5 rfl ?_
          refine Ev.vir (as := [vI D, vI S, vI (S + M)]) (rest := []) (by rfl) (by rfl) (by rfl) (by rfl) rfl (Nat.le_of_ble_eq_true rfl) (by rfl) (by rw [ho]; rfl) (s_overlaps (da := eDay (v en)) (sa := eSta (v en)) (en := eEnd (v en)) ho rfl rfl rfl) ?_
          unfold b2
          by_cases c3 : eDay (v en) = D ∧ eSta (v en) < S + M ∧ S < eEnd (v en)
          · rw [if_pos c3, if_pos c3]
            refine Ev.ifi (by rfl) (by rfl) (fun z => by exact absurd z (by decide)) (fun _ => ?_)
            refine Ev.ps 1 rfl ?_
            exact Ev.re rfl rfl rfl rfl rfl
          · rw [if_neg c3, if_neg c3]
            refine Ev.ifi (by rfl) (by rfl) (fun _ => ?_) (fun z => by exact absurd z (by decide))
            refine Ev.ps 1 rfl ?_
            refine Ev.getf (v := vI (eSta (v en))) (by rfl) (by rfl) (by rfl) ho rfl ?_
            refine Ev.ps 1 rfl ?_
            refine Ev.icmp (by rfl) (by rfl) (fun c4 => ?_) (fun c4 => ?_)
            · have c4 := of_decide_eq_true c4
              rw [if_pos c4]
              refine Ev.ps 4 rfl ?_
              have h9 := ih (j + 1) (some en) (some (vR 3 en)) (by omega) (fun e z => by cases z; exact ho)
              rw [← nI_1] at h9
              exact h9
            · have c4 := of_decide_eq_false c4
              rw [if_neg c4]
              cases o1 with
              | none =>
                refine Ev.ps 3 rfl ?_
                exact free_end (d := d) (P := nI p0) (D := D) (M := M) (F := S + M) (W := W) (S := S) (l9 := some (vI (nI j))) (l10 := some (vR 3 en)) hm h1 none (some en) ho1 (fun e z => by cases z; exact ho)
              | some e0 =>
                refine Ev.ps 3 rfl ?_
                exact free_end (d := d) (P := nI p0) (D := D) (M := M) (F := S + M) (W := W) (S := S) (l9 := some (vI (nI j))) (l10 := some (vR 3 en)) hm h1 (some e0) (some en) ho1 (fun e z => by cases z; exact ho)
  exact loop (es.length - p0) p0 none none (by omega) (fun e z => nomatch z)
end
section
/-! letterOfMinute -/
def setupOf (v : Nat → En) (s M : Int32) (e : Nat) : Option Nat → Int32
  | none => 102
  | some b => if eSta (v e) - M ≤ (if eWrk (v b) = eWrk (v e) then 0 else s) then 115 else 102
def letterL (v : Nat → En) (s D M : Int32) : Option Nat → List Nat → Int32
  | _, [] => 102
  | b, e :: es => if eDay (v e) = D then (if M < eSta (v e) then setupOf v s M e b else if M < eEnd (v e) then 98 else letterL v s D M (some e) es) else 102
theorem s_letterOfMinute {d mm q p0 : Nat} {h : Hp} {v : Nat → En} {es : List Nat} {s D M : Int32} (hH : HeldAt v mm q s es h) (hp : p0 ≤ es.length) : Cal (d + 1) 86 [vR 6 mm, vI (nI p0), vI D, vI M] h (.inl (some (vI (letterL v s D M none (es.drop p0))))) h := by
  obtain ⟨⟨om, hm, h1, hf⟩, hl, hlen, hes⟩ := hH
  refine Cal.mk (n := 8) rfl (Nat.le_of_ble_eq_true rfl) rfl ?_
  refine Ev.ps 4 rfl ?_
  have loop : ∀ (k j : Nat) (o1 : Option Nat) (o : Option MV), j + k = es.length → (∀ e, o1 = some e → hget h 3 e = some (encE e (v e))) → Ev (d + 1) (86, 6, [some (vR 6 mm), some (vI (nI p0)), some (vI D), some (vI M), some (refO o1), some (vI (nI j)), o, none], []) h (.inl (some (vI (letterL v s D M o1 (es.drop j)))), h) := by
    intro k
    induction k with
    | zero =>
      intro j o1 o hj ho1
      refine Ev.ps 2 rfl ?_
      refine Ev.getf (by rfl) (by rfl) (by rfl) hm hf ?_
      refine Ev.lsz (by rfl) (by rfl) (by rfl) (Nat.le_of_ble_eq_true rfl) hl ?_
      refine Ev.icmp (by rfl) (by rfl) (fun c => ?_) (fun c => ?_)
      · rw [List.drop_of_length_le (by omega)]
        refine Ev.ps 1 rfl ?_
        exact Ev.re rfl rfl rfl rfl rfl
      · have c := of_decide_eq_false c
        rw [List.length_map] at c
        exact absurd (nI_le (by omega) (by omega)) c
    | succ k ih =>
      intro j o1 o hj ho1
      have hjl : j < es.length := by omega
      have e1 : es.drop j = es[j] :: es.drop (j + 1) := List.drop_eq_getElem_cons hjl
      have hge : (es.map (vR 3))[(nI j).toNatClampNeg]? = some (vR 3 es[j]) := by rw [nI_clamp (by omega), List.getElem?_map, List.getElem?_eq_getElem hjl]; rfl
      have ho := hes es[j] (List.getElem_mem hjl)
      rw [e1]
      unfold letterL
      generalize es[j] = en at ho hge ⊢
      refine Ev.ps 2 rfl ?_
      refine Ev.getf (by rfl) (by rfl) (by rfl) hm hf ?_
      refine Ev.lsz (by rfl) (by rfl) (by rfl) (Nat.le_of_ble_eq_true rfl) hl ?_
      refine Ev.icmp (by rfl) (by rfl) (fun c => ?_) (fun _ => ?_)
      · have c := of_decide_eq_true c
        rw [List.length_map] at c
        exact absurd c (nI_ge (by omega) (by omega))
      · refine Ev.ps 1 rfl ?_
        refine Ev.getf (by rfl) (by rfl) (by rfl) hm hf ?_
        refine Ev.ps 1 rfl ?_
        refine Ev.lgt (v := vR 3 en) (by rfl) (by rfl) (by rfl) (Nat.le_of_ble_eq_true rfl) hl (nI_pos (by omega)) hge ?_
        refine Ev.cst (by rfl) (by rfl) (by rfl) (by rw [ho]; rfl) ?_
        refine Ev.getf (v := vI (eDay (v en))) (by rfl) (by rfl) (by rfl) ho rfl ?_
        refine Ev.ps 1 rfl ?_
        refine Ev.icmp (by rfl) (by rfl) (fun c => ?_) (fun c => ?_)
        · have c := of_decide_eq_true c
          rw [if_neg c]
          refine Ev.ps 1 rfl ?_
          exact Ev.re rfl rfl rfl rfl rfl
        · have c := Decidable.not_not.mp (of_decide_eq_false c)
          rw [if_pos c]
          refine Ev.ps 1 rfl ?_
          refine Ev.getf (by rfl) (by rfl) (by rfl) hm hf ?_
          refine Ev.ps 1 rfl ?_
          refine Ev.lgt (v := vR 3 en) (by rfl) (by rfl) (by rfl) (Nat.le_of_ble_eq_true rfl) hl (nI_pos (by omega)) hge ?_
          refine Ev.cst (by rfl) (by rfl) (by rfl) (by rw [ho]; rfl) ?_
          refine Ev.ps 3 rfl ?_
          refine Ev.getf (v := vI (eSta (v en))) (by rfl) (by rfl) (by rfl) ho rfl ?_
          refine Ev.icmp (by rfl) (by rfl) (fun c2 => ?_) (fun c2 => ?_)
          · have c2 := of_decide_eq_true c2
            rw [if_neg (Int32.not_lt.mpr c2)]
            refine Ev.ps 2 rfl ?_
            refine Ev.getf (v := vI (eEnd (v en))) (by rfl) (by rfl) (by rfl) ho rfl ?_
            refine Ev.icmp (by rfl) (by rfl) (fun c3 => ?_) (fun c3 => ?_)
            · have c3 := of_decide_eq_true c3
              rw [if_neg (Int32.not_lt.mpr c3)]
              refine Ev.ps 4 rfl ?_
              have h9 := ih (j + 1) (some en) (some (vR 3 en)) (by omega) (fun e z => by cases z; exact ho)
              rw [← nI_1] at h9
              exact h9
            · have c3 := of_decide_eq_false c3
              rw [if_pos (Int32.not_le.mp c3)]
              refine Ev.ps 1 rfl ?_
              exact Ev.re rfl rfl rfl rfl rfl
          · have c2 := of_decide_eq_false c2
            rw [if_pos (Int32.not_le.mp c2)]
            cases o1 with
            | none =>
              refine Ev.ps 7 rfl ?_
              exact Ev.re rfl rfl rfl rfl rfl
            | some b =>
              have hb := ho1 b rfl
              refine Ev.ps 3 rfl ?_
              refine Ev.getf (v := vI (eSta (v en))) (by rfl) (by rfl) (by rfl) ho rfl ?_
              refine Ev.ps 4 rfl ?_
              refine Ev.getf (v := vI (eWrk (v b))) (by rfl) (by rfl) (by rfl) hb rfl ?_
              refine Ev.ps 1 rfl ?_
              refine Ev.getf (v := vI (eWrk (v en))) (by rfl) (by rfl) (by rfl) ho rfl ?_
              refine Ev.vir (as := [vI (eWrk (v b)), vI (eWrk (v en))]) (rest := [vI (eSta (v en) - M)]) (by rfl) (by rfl) (by rfl) (by rfl) rfl (Nat.le_of_ble_eq_true rfl) (by rfl) (by rw [hm]; rfl) (s_setupBetween hm h1) ?_
              refine Ev.icmp (by rfl) (by rfl) (fun c3 => ?_) (fun c3 => ?_)
              · have c3 := of_decide_eq_true c3
                rw [show setupOf v s M en (some b) = 102 from if_neg (Int32.not_le.mpr c3)]
                refine Ev.ps 5 rfl ?_
                exact Ev.re rfl rfl rfl rfl rfl
              · have c3 := of_decide_eq_false c3
                rw [show setupOf v s M en (some b) = 115 from if_pos (Int32.not_lt.mp c3)]
                refine Ev.ps 7 rfl ?_
                exact Ev.re rfl rfl rfl rfl rfl
  exact loop (es.length - p0) p0 none none (by omega) (fun e z => nomatch z)
end
section
/-! addLengths -/
theorem placeL_le {da sa : Nat → Int32} {D S : Int32} : ∀ es : List Nat, placeL da sa D S es ≤ es.length
  | [] => Nat.le_refl _
  | e :: es => by
    unfold placeL
    split
    · have := placeL_le (da := da) (sa := sa) (D := D) (S := S) es
      simp only [List.length_cons]
      omega
    · exact Nat.zero_le _
theorem s_placeH {d mm q : Nat} {h : Hp} {v : Nat → En} {es : List Nat} {s D S : Int32} (hH : HeldAt v mm q s es h) : Cal (d + 1) 13 [vR 6 mm, vI D, vI S] h (.inl (some (vI (nI (placeL (fun e => eDay (v e)) (fun e => eSta (v e)) D S es))))) h := by
  obtain ⟨⟨om, hm, h1, hf⟩, hl, hlen, hes⟩ := hH
  exact s_placeOf (ol := es.map (vR 3)) hm hf hl hlen fun e he => ⟨_, hes e he, rfl, rfl⟩
def sumL (v : Nat → En) (D : Int32) : List Nat → Int32 → Int32
  | [], a => a
  | e :: es, a => if eDay (v e) = D then sumL v D es (a + eLen (v e)) else a
theorem s_addLengths {d mm q : Nat} {h : Hp} {v : Nat → En} {es : List Nat} {s D : Int32} (hH : HeldAt v mm q s es h) : Cal (d + 2) 87 [vR 6 mm, vI D] h (.inl (some (vI (sumL v D (es.drop (placeL (fun e => eDay (v e)) (fun e => eSta (v e)) D 0 es)) 0)))) h := by
  have hP := s_placeH (d := d) (D := D) (S := 0) hH
  obtain ⟨⟨om, hm, h1, hf⟩, hl, hlen, hes⟩ := hH
  have hp := placeL_le (da := fun e => eDay (v e)) (sa := fun e => eSta (v e)) (D := D) (S := 0) es
  generalize placeL (fun e => eDay (v e)) (fun e => eSta (v e)) D 0 es = p0 at hP hp ⊢
  refine Cal.mk (n := 4) rfl (Nat.le_of_ble_eq_true rfl) rfl ?_
  refine Ev.ps 5 rfl ?_
  refine Ev.vir (as := [vI D, vI 0]) (rest := []) (by rfl) (by rfl) (by rfl) (by rfl) rfl (Nat.le_of_ble_eq_true rfl) (by rfl) (by rw [hm]; rfl) hP ?_
  refine Ev.ps 1 rfl ?_
  have loop : ∀ (k j : Nat) (a : Int32), j + k = es.length → Ev (d + 2) (87, 9, [some (vR 6 mm), some (vI D), some (vI a), some (vI (nI j))], []) h (.inl (some (vI (sumL v D (es.drop j) a))), h) := by
    intro k
    induction k with
    | zero =>
      intro j a hj
      refine Ev.ps 2 rfl ?_
      refine Ev.getf (by rfl) (by rfl) (by rfl) hm hf ?_
      refine Ev.lsz (by rfl) (by rfl) (by rfl) (Nat.le_of_ble_eq_true rfl) hl ?_
      refine Ev.icmp (by rfl) (by rfl) (fun c => ?_) (fun c => ?_)
      · rw [List.drop_of_length_le (by omega)]
        refine Ev.ps 1 rfl ?_
        exact Ev.re rfl rfl rfl rfl rfl
      · have c := of_decide_eq_false c
        rw [List.length_map] at c
        exact absurd (nI_le (by omega) (by omega)) c
    | succ k ih =>
      intro j a hj
      have hjl : j < es.length := by omega
      have e1 : es.drop j = es[j] :: es.drop (j + 1) := List.drop_eq_getElem_cons hjl
      have hge : (es.map (vR 3))[(nI j).toNatClampNeg]? = some (vR 3 es[j]) := by rw [nI_clamp (by omega), List.getElem?_map, List.getElem?_eq_getElem hjl]; rfl
      have ho := hes es[j] (List.getElem_mem hjl)
      rw [e1]
      unfold sumL
      generalize es[j] = en at ho hge ⊢
      refine Ev.ps 2 rfl ?_
      refine Ev.getf (by rfl) (by rfl) (by rfl) hm hf ?_
      refine Ev.lsz (by rfl) (by rfl) (by rfl) (Nat.le_of_ble_eq_true rfl) hl ?_
      refine Ev.icmp (by rfl) (by rfl) (fun c => ?_) (fun _ => ?_)
      · have c := of_decide_eq_true c
        rw [List.length_map] at c
        exact absurd c (nI_ge (by omega) (by omega))
      · refine Ev.ps 1 rfl ?_
        refine Ev.getf (by rfl) (by rfl) (by rfl) hm hf ?_
        refine Ev.ps 1 rfl ?_
        refine Ev.lgt (v := vR 3 en) (by rfl) (by rfl) (by rfl) (Nat.le_of_ble_eq_true rfl) hl (nI_pos (by omega)) hge ?_
        refine Ev.cst (by rfl) (by rfl) (by rfl) (by rw [ho]; rfl) ?_
        refine Ev.getf (v := vI (eDay (v en))) (by rfl) (by rfl) (by rfl) ho rfl ?_
        refine Ev.ps 1 rfl ?_
        refine Ev.icmp (by rfl) (by rfl) (fun c => ?_) (fun c => ?_)
        · have c := of_decide_eq_true c
          rw [if_neg c]
          refine Ev.ps 1 rfl ?_
          exact Ev.re rfl rfl rfl rfl rfl
        · have c := Decidable.not_not.mp (of_decide_eq_false c)
          rw [if_pos c]
          refine Ev.ps 2 rfl ?_
          refine Ev.getf (by rfl) (by rfl) (by rfl) hm hf ?_
          refine Ev.ps 1 rfl ?_
          refine Ev.lgt (v := vR 3 en) (by rfl) (by rfl) (by rfl) (Nat.le_of_ble_eq_true rfl) hl (nI_pos (by omega)) hge ?_
          refine Ev.cst (by rfl) (by rfl) (by rfl) (by rw [ho]; rfl) ?_
          refine Ev.getf (v := vI (eLen (v en))) (by rfl) (by rfl) (by rfl) ho rfl ?_
          refine Ev.ps 4 rfl ?_
          have h9 := ih (j + 1) (a + eLen (v en)) (by omega)
          rw [← nI_1] at h9
          exact h9
  exact loop (es.length - p0) p0 0 (by omega)
end
section
/-! countMinutes -/
def cntM (f : Int32 → Int32) : Nat → Nat → Int32 → Int32
  | 0, _, a => a
  | k + 1, j, a => cntM f k (j + 1) (if f (nI j) = 98 then a + 1 else a)
theorem s_countMinutes {d mm q : Nat} {h : Hp} {v : Nat → En} {es : List Nat} {s D : Int32} (hH : HeldAt v mm q s es h) : Cal (d + 2) 88 [vR 6 mm, vI D] h (.inl (some (vI (cntM (fun M => letterL v s D M none (es.drop (placeL (fun e => eDay (v e)) (fun e => eSta (v e)) D 0 es))) 480 0 0)))) h := by
  have hP := s_placeH (d := d) (D := D) (S := 0) hH
  have hH0 := hH
  obtain ⟨⟨om, hm, h1, hf⟩, hl, hlen, hes⟩ := hH
  have hp := placeL_le (da := fun e => eDay (v e)) (sa := fun e => eSta (v e)) (D := D) (S := 0) es
  generalize placeL (fun e => eDay (v e)) (fun e => eSta (v e)) D 0 es = p0 at hP hp ⊢
  refine Cal.mk (n := 5) rfl (Nat.le_of_ble_eq_true rfl) rfl ?_
  refine Ev.ps 3 rfl ?_
  refine Ev.vir (as := [vI D, vI 0]) (rest := []) (by rfl) (by rfl) (by rfl) (by rfl) rfl (Nat.le_of_ble_eq_true rfl) (by rfl) (by rw [hm]; rfl) hP ?_
  refine Ev.ps 5 rfl ?_
  have loop : ∀ (k j : Nat) (a : Int32), j + k = 480 → Ev (d + 2) (88, 12, [some (vR 6 mm), some (vI D), some (vI (nI p0)), some (vI a), some (vI (nI j))], []) h (.inl (some (vI (cntM (fun M => letterL v s D M none (es.drop p0)) k j a))), h) := by
    intro k
    induction k with
    | zero =>
      intro j a hj
      refine Ev.ps 2 rfl ?_
      refine Ev.icmp (by rfl) (by rfl) (fun c => ?_) (fun c => ?_)
      · refine Ev.ps 1 rfl ?_
        exact Ev.re rfl rfl rfl rfl rfl
      · have c : ¬ nI 480 ≤ nI j := of_decide_eq_false c
        exact absurd (nI_le (by omega) (by omega)) c
    | succ k ih =>
      intro j a hj
      unfold cntM
      refine Ev.ps 2 rfl ?_
      refine Ev.icmp (by rfl) (by rfl) (fun c => ?_) (fun _ => ?_)
      · have c : nI 480 ≤ nI j := of_decide_eq_true c
        exact absurd c (nI_ge (by omega) (by omega))
      · refine Ev.ps 4 rfl ?_
        refine Ev.sta (as := [vR 6 mm, vI (nI p0), vI D, vI (nI j)]) (rest := []) (by rfl) (by rfl) (by rfl) (by rfl) rfl (Nat.le_of_ble_eq_true rfl) (s_letterOfMinute (d := d) (M := nI j) hH0 hp) ?_
        refine Ev.ps 1 rfl ?_
        have fin : ∀ a : Int32, Ev (d + 2) (88, 36, [some (vR 6 mm), some (vI D), some (vI (nI p0)), some (vI a), some (vI (nI j))], []) h (.inl (some (vI (cntM (fun M => letterL v s D M none (es.drop p0)) k (j + 1) a))), h) := by
          intro a
          refine Ev.ps 2 rfl ?_
          have h9 := ih (j + 1) a (by omega)
          rw [← nI_1] at h9
          exact h9
        refine Ev.icmp (by rfl) (by rfl) (fun c => ?_) (fun c => ?_)
        · have c : ¬ letterL v s D (nI j) none (es.drop p0) = 98 := of_decide_eq_true c
          rw [if_neg c]
          exact fin a
        · have c : letterL v s D (nI j) none (es.drop p0) = 98 := Decidable.not_not.mp (of_decide_eq_false c)
          rw [if_pos c]
          refine Ev.ps 1 rfl ?_
          exact fin (a + 1)
  exact loop 480 0 0 rfl
end
section
/-! firstStartInGaps -/
def lastL (M st : Int32) : Int32 := if st + M ≤ 480 then st else -1
def firstL (v : Nat → En) (s D M W : Int32) : Int32 → List Nat → Int32
  | st, [] => lastL M st
  | st, e :: es => if eDay (v e) = D then (if st + M + (if W = eWrk (v e) then 0 else s) ≤ eSta (v e) then st else firstL v s D M W (eEnd (v e) + (if W = eWrk (v e) then 0 else s)) es) else lastL M st
theorem s_firstStartInGaps {d mm q : Nat} {h : Hp} {v : Nat → En} {es : List Nat} {s D M W : Int32} (hH : HeldAt v mm q s es h) : Cal (d + 2) 89 [vR 6 mm, vI D, vI M, vI W] h (.inl (some (vI (firstL v s D M W 0 (es.drop (placeL (fun e => eDay (v e)) (fun e => eSta (v e)) D 0 es)))))) h := by
  have hP := s_placeH (d := d) (D := D) (S := 0) hH
  obtain ⟨⟨om, hm, h1, hf⟩, hl, hlen, hes⟩ := hH
  have hp := placeL_le (da := fun e => eDay (v e)) (sa := fun e => eSta (v e)) (D := D) (S := 0) es
  generalize placeL (fun e => eDay (v e)) (fun e => eSta (v e)) D 0 es = p0 at hP hp ⊢
  refine Cal.mk (n := 8) rfl (Nat.le_of_ble_eq_true rfl) rfl ?_
  refine Ev.ps 5 rfl ?_
  refine Ev.vir (as := [vI D, vI 0]) (rest := []) (by rfl) (by rfl) (by rfl) (by rfl) rfl (Nat.le_of_ble_eq_true rfl) (by rfl) (by rw [hm]; rfl) hP ?_
  refine Ev.ps 1 rfl ?_
  have tail : ∀ (st : Int32) (l5 o6 o7 : Option MV), Ev (d + 2) (89, 102, [some (vR 6 mm), some (vI D), some (vI M), some (vI W), some (vI st), l5, o6, o7], []) h (.inl (some (vI (lastL M st))), h) := by
    intro st l5 o6 o7
    refine Ev.ps 4 rfl ?_
    refine Ev.icmp (by rfl) (by rfl) (fun c => ?_) (fun c => ?_)
    · have c : 480 < st + M := of_decide_eq_true c
      rw [show lastL M st = -1 from if_neg (Int32.not_le.mpr c)]
      refine Ev.ps 1 rfl ?_
      exact Ev.re rfl rfl rfl rfl rfl
    · have c : ¬ 480 < st + M := of_decide_eq_false c
      rw [show lastL M st = st from if_pos (Int32.not_lt.mp c)]
      refine Ev.ps 2 rfl ?_
      exact Ev.re rfl rfl rfl rfl rfl
  have loop : ∀ (k j : Nat) (st : Int32) (o6 o7 : Option MV), j + k = es.length → Ev (d + 2) (89, 11, [some (vR 6 mm), some (vI D), some (vI M), some (vI W), some (vI st), some (vI (nI j)), o6, o7], []) h (.inl (some (vI (firstL v s D M W st (es.drop j)))), h) := by
    intro k
    induction k with
    | zero =>
      intro j st o6 o7 hj
      refine Ev.ps 2 rfl ?_
      refine Ev.getf (by rfl) (by rfl) (by rfl) hm hf ?_
      refine Ev.lsz (by rfl) (by rfl) (by rfl) (Nat.le_of_ble_eq_true rfl) hl ?_
      refine Ev.icmp (by rfl) (by rfl) (fun c => ?_) (fun c => ?_)
      · rw [List.drop_of_length_le (by omega)]
        exact tail st _ _ _
      · have c := of_decide_eq_false c
        rw [List.length_map] at c
        exact absurd (nI_le (by omega) (by omega)) c
    | succ k ih =>
      intro j st o6 o7 hj
      have hjl : j < es.length := by omega
      have e1 : es.drop j = es[j] :: es.drop (j + 1) := List.drop_eq_getElem_cons hjl
      have hge : (es.map (vR 3))[(nI j).toNatClampNeg]? = some (vR 3 es[j]) := by rw [nI_clamp (by omega), List.getElem?_map, List.getElem?_eq_getElem hjl]; rfl
      have ho := hes es[j] (List.getElem_mem hjl)
      rw [e1]
      unfold firstL
      generalize es[j] = en at ho hge ⊢
      refine Ev.ps 2 rfl ?_
      refine Ev.getf (by rfl) (by rfl) (by rfl) hm hf ?_
      refine Ev.lsz (by rfl) (by rfl) (by rfl) (Nat.le_of_ble_eq_true rfl) hl ?_
      refine Ev.icmp (by rfl) (by rfl) (fun c => ?_) (fun _ => ?_)
      · have c := of_decide_eq_true c
        rw [List.length_map] at c
        exact absurd c (nI_ge (by omega) (by omega))
      · refine Ev.ps 1 rfl ?_
        refine Ev.getf (by rfl) (by rfl) (by rfl) hm hf ?_
        refine Ev.ps 1 rfl ?_
        refine Ev.lgt (v := vR 3 en) (by rfl) (by rfl) (by rfl) (Nat.le_of_ble_eq_true rfl) hl (nI_pos (by omega)) hge ?_
        refine Ev.cst (by rfl) (by rfl) (by rfl) (by rw [ho]; rfl) ?_
        refine Ev.getf (v := vI (eDay (v en))) (by rfl) (by rfl) (by rfl) ho rfl ?_
        refine Ev.ps 1 rfl ?_
        refine Ev.icmp (by rfl) (by rfl) (fun c => ?_) (fun c => ?_)
        · have c := of_decide_eq_true c
          rw [if_neg c]
          exact tail st _ _ _
        · have c := Decidable.not_not.mp (of_decide_eq_false c)
          rw [if_pos c]
          refine Ev.ps 1 rfl ?_
          refine Ev.getf (by rfl) (by rfl) (by rfl) hm hf ?_
          refine Ev.ps 1 rfl ?_
          refine Ev.lgt (v := vR 3 en) (by rfl) (by rfl) (by rfl) (Nat.le_of_ble_eq_true rfl) hl (nI_pos (by omega)) hge ?_
          refine Ev.cst (by rfl) (by rfl) (by rfl) (by rw [ho]; rfl) ?_
          refine Ev.ps 4 rfl ?_
          refine Ev.getf (v := vI (eWrk (v en))) (by rfl) (by rfl) (by rfl) ho rfl ?_
          refine Ev.vir (as := [vI W, vI (eWrk (v en))]) (rest := []) (by rfl) (by rfl) (by rfl) (by rfl) rfl (Nat.le_of_ble_eq_true rfl) (by rfl) (by rw [hm]; rfl) (s_setupBetween hm h1) ?_
          generalize (if W = eWrk (v en) then 0 else s) = su
          refine Ev.ps 7 rfl ?_
          refine Ev.getf (v := vI (eSta (v en))) (by rfl) (by rfl) (by rfl) ho rfl ?_
          refine Ev.icmp (by rfl) (by rfl) (fun c2 => ?_) (fun c2 => ?_)
          · have c2 := of_decide_eq_true c2
            rw [if_neg (Int32.not_le.mpr c2)]
            refine Ev.ps 1 rfl ?_
            refine Ev.getf (v := vI (eEnd (v en))) (by rfl) (by rfl) (by rfl) ho rfl ?_
            refine Ev.ps 5 rfl ?_
            have h9 := ih (j + 1) (eEnd (v en) + su) (some (vR 3 en)) (some (vI su)) (by omega)
            rw [← nI_1] at h9
            exact h9
          · have c2 := of_decide_eq_false c2
            rw [if_pos (Int32.not_lt.mp c2)]
            refine Ev.ps 1 rfl ?_
            exact Ev.re rfl rfl rfl rfl rfl
  exact loop (es.length - p0) p0 0 none none (by omega)
end
section
/-! hasLiveNeeds, out of hasLive one deeper -/
def KindsAt (nb bt : Nat → Int32) (h : Hp) : Prop := (∃ od, hget h 8 0 = some od ∧ od[0]? = some (vR 10 0)) ∧ hget h 10 0 = some ((List.range 4).map (vR 4)) ∧ ∀ k, k < 4 → ∃ ob, hget h 4 k = some ob ∧ ob[0]? = some (vI (bt k)) ∧ ob[2]? = some (vI (nb k))
def allN (f : Nat → Bool) : Nat → Nat → Bool
  | 0, _ => true
  | k + 1, j => f j && allN f k (j + 1)
theorem s_hasLiveNeeds {d m kd : Nat} {h : Hp} {nb bt : Nat → Int32} {D c : Int32} {live : Nat → Bool} (hK : KindsAt nb bt h) (hm : (hget h 7 m).isSome = true) (hkd : kd < 4)
    (hL : ∀ k, k < 4 → ¬ nb kd &&& bt k = 0 → Cal (d + 1) 73 [vR 8 0, vR 7 m, vR 4 k, vI D, vI (c + 1)] h (.inl (some (vI (bI (live k))))) h) :
    Cal (d + 2) 74 [vR 8 0, vR 7 m, vR 4 kd, vI D, vI c] h (.inl (some (vI (bI (allN (fun k => decide (nb kd &&& bt k = 0) || live k) 4 0))))) h := by
  obtain ⟨⟨od, hd, hf⟩, hl, hk⟩ := hK
  obtain ⟨okd, k1, k2, k3⟩ := hk kd hkd
  refine Cal.mk (n := 7) rfl (Nat.le_of_ble_eq_true rfl) rfl ?_
  refine Ev.ps 2 rfl ?_
  have loop : ∀ (k j : Nat) (o : Option MV), j + k = 4 → Ev (d + 2) (74, 3, [some (vR 8 0), some (vR 7 m), some (vR 4 kd), some (vI D), some (vI c), some (vI (nI j)), o], []) h (.inl (some (vI (bI (allN (fun k => decide (nb kd &&& bt k = 0) || live k) k j)))), h) := by
    intro k
    induction k with
    | zero =>
      intro j o hj
      refine Ev.ps 2 rfl ?_
      refine Ev.getf (by rfl) (by rfl) (by rfl) hd hf ?_
      refine Ev.lsz (by rfl) (by rfl) (by rfl) (Nat.le_of_ble_eq_true rfl) hl ?_
      refine Ev.icmp (by rfl) (by rfl) (fun c => ?_) (fun c => ?_)
      · refine Ev.ps 1 rfl ?_
        exact Ev.re rfl rfl rfl rfl rfl
      · have c := of_decide_eq_false c
        rw [List.length_map, List.length_range] at c
        exact absurd (nI_le (by omega) (by omega)) c
    | succ k ih =>
      intro j o hj
      have hj4 : j < 4 := by omega
      obtain ⟨ob, o1, o2, o3⟩ := hk j hj4
      unfold allN
      have next : Ev (d + 2) (74, 55, [some (vR 8 0), some (vR 7 m), some (vR 4 kd), some (vI D), some (vI c), some (vI (nI j)), some (vR 4 j)], []) h (.inl (some (vI (bI (allN (fun k => decide (nb kd &&& bt k = 0) || live k) k (j + 1))))), h) := by
        refine Ev.ps 2 rfl ?_
        have h9 := ih (j + 1) (some (vR 4 j)) (by omega)
        rw [← nI_1] at h9
        exact h9
      refine Ev.ps 2 rfl ?_
      refine Ev.getf (by rfl) (by rfl) (by rfl) hd hf ?_
      refine Ev.lsz (by rfl) (by rfl) (by rfl) (Nat.le_of_ble_eq_true rfl) hl ?_
      refine Ev.icmp (by rfl) (by rfl) (fun c => ?_) (fun _ => ?_)
      · have c := of_decide_eq_true c
        rw [List.length_map, List.length_range] at c
        exact absurd c (nI_ge (by omega) (by omega))
      · refine Ev.ps 1 rfl ?_
        refine Ev.getf (by rfl) (by rfl) (by rfl) hd hf ?_
        refine Ev.ps 1 rfl ?_
        refine Ev.lgt (v := vR 4 j) (by rfl) (by rfl) (by rfl) (Nat.le_of_ble_eq_true rfl) hl (nI_pos (by omega)) (by rw [nI_clamp (by omega), List.getElem?_map, List.getElem?_range hj4]; rfl) ?_
        refine Ev.cst (by rfl) (by rfl) (by rfl) (by rw [o1]; rfl) ?_
        refine Ev.ps 3 rfl ?_
        refine Ev.vir (as := [vR 4 j]) (rest := []) (by rfl) (by rfl) (by rfl) (by rfl) rfl (Nat.le_of_ble_eq_true rfl) (by rfl) (by rw [k1]; rfl) (s_needs k1 k3 o1 o2) ?_
        unfold b2
        by_cases hn : nb kd &&& bt j = 0
        · rw [if_neg (fun z => z hn)]
          refine Ev.ifi (by rfl) (by rfl) (fun _ => ?_) (fun z => by exact absurd z (by decide))
          rw [decide_eq_true hn, Bool.true_or, Bool.true_and]
          exact next
        · rw [if_pos hn]
          refine Ev.ifi (by rfl) (by rfl) (fun z => by exact absurd z (by decide)) (fun _ => ?_)
          rw [decide_eq_false hn, Bool.false_or]
          refine Ev.ps 7 rfl ?_
          refine Ev.vir (as := [vR 7 m, vR 4 j, vI D, vI (c + 1)]) (rest := []) (by rfl) (by rfl) (by rfl) (by rfl) rfl (Nat.le_of_ble_eq_true rfl) (by rfl) (by rw [hd]; rfl) (hL j hj4 hn) ?_
          cases live j with
          | true =>
            refine Ev.ifi (by rfl) (by rfl) (fun _ => ?_) (fun z => by exact absurd z (by decide))
            rw [Bool.true_and]
            exact next
          | false =>
            refine Ev.ifi (by rfl) (by rfl) (fun z => by exact absurd z (by decide)) (fun _ => ?_)
            refine Ev.ps 1 rfl ?_
            exact Ev.re rfl rfl rfl rfl rfl
  exact loop 4 0 none rfl
end
section
/-! lastTaken -/
theorem s_lastTaken {d m q kd : Nat} {h : Hp} {om ok ol : Ob} {x : Int32} (hm : hget h 7 m = some om) (h1 : om[0]? = some (vR 20 q)) (hq : hget h 20 q = some ol) (h4 : ol.length = 4) (hk : hget h 4 kd = some ok) (h2 : ok[1]? = some (vI (nI kd))) (hkd : kd < 4) (hx : ol[kd]? = some (vI x)) : Cal d 18 [vR 7 m, vR 4 kd] h (.inl (some (vI x))) h := by
  refine Cal.mk (n := 3) rfl (Nat.le_of_ble_eq_true rfl) rfl ?_
  refine Ev.ps 1 rfl ?_
  refine Ev.getf (by rfl) (by rfl) (by rfl) hk h2 ?_
  refine Ev.ps 2 rfl ?_
  refine Ev.ifi (by rfl) (by rfl) (fun c => by exact absurd (of_decide_eq_true c) (nI_pos (by omega))) (fun _ => ?_)
  refine Ev.ps 2 rfl ?_
  refine Ev.getf (by rfl) (by rfl) (by rfl) hm h1 ?_
  refine Ev.aln (by rfl) (Or.inl rfl) hq ?_
  rw [h4]
  refine Ev.icmp (by rfl) (by rfl) (fun c => by exact absurd (of_decide_eq_true c) (nI_ge (b := 4) hkd (by decide))) (fun _ => ?_)
  refine Ev.ps 1 rfl ?_
  refine Ev.getf (by rfl) (by rfl) (by rfl) hm h1 ?_
  refine Ev.ps 1 rfl ?_
  refine Ev.ial (v := vI x) (by rfl) (Or.inl rfl) hq (nI_pos (by omega)) (by rw [nI_clamp (by omega)]; exact hx) ?_
  refine Ev.ps 1 rfl ?_
  exact Ev.re rfl rfl rfl rfl rfl
end
section
/-! hasLive -/
def freshL (x D : Int32) : Bool := decide (¬ x = -1) && decide (x ≤ D) && decide (D - x ≤ 29)
/-- r: how deep it may still go -/
def liveF (nb bt ls : Nat → Int32) (D : Int32) : Nat → Nat → Bool
  | 0, _ => false
  | r + 1, kd => freshL (ls kd) D && allN (fun k => decide (nb kd &&& bt k = 0) || liveF nb bt ls D r k) 4 0
/-- a member and the days of its inductions -/
def LastAt (ls : Nat → Int32) (m : Nat) (h : Hp) : Prop := ∃ om q ol, hget h 7 m = some om ∧ om[0]? = some (vR 20 q) ∧ hget h 20 q = some ol ∧ ol.length = 4 ∧ ∀ k, k < 4 → ol[k]? = some (vI (ls k))
theorem s_hasLive {d m : Nat} {h : Hp} {nb bt ls : Nat → Int32} {D : Int32} (hK : KindsAt nb bt h) (hN : ∀ k, k < 4 → ∃ ok, hget h 4 k = some ok ∧ ok[1]? = some (vI (nI k))) (hM : LastAt ls m h) :
    ∀ (r kd : Nat), r ≤ 4 → kd < 4 → Cal (d + 1 + 2 * r) 73 [vR 8 0, vR 7 m, vR 4 kd, vI D, vI (nI (4 - r))] h (.inl (some (vI (bI (liveF nb bt ls D r kd))))) h := by
  obtain ⟨om, q, ol, m1, m2, m3, m4, m5⟩ := hM
  obtain ⟨⟨od, hd, hf⟩, -, -⟩ := id hK
  intro r
  induction r with
  | zero =>
    intro kd hr hkd
    refine Cal.mk (n := 7) rfl (Nat.le_of_ble_eq_true rfl) rfl ?_
    refine Ev.ps 2 rfl ?_
    refine Ev.icmp (by rfl) (by rfl) (fun c => by exact absurd c (by decide)) (fun _ => ?_)
    refine Ev.ps 1 rfl ?_
    exact Ev.re rfl rfl rfl rfl rfl
  | succ r ih =>
    intro kd hr hkd
    obtain ⟨ok, o1, o2⟩ := hN kd hkd
    have hc : nI (4 - (r + 1)) + 1 = nI (4 - r) := by rw [nI_1]; congr 1; omega
    have hlt : nI (4 - (r + 1)) < nI 4 := nI_lt (by omega) (by decide)
    generalize nI (4 - (r + 1)) = c0 at hc hlt ⊢
    refine Cal.mk (n := 7) rfl (Nat.le_of_ble_eq_true rfl) rfl ?_
    refine Ev.ps 2 rfl ?_
    refine Ev.icmp (by rfl) (by rfl) (fun _ => ?_) (fun c => by exact absurd hlt (of_decide_eq_false c))
    refine Ev.ps 2 rfl ?_
    have hT : Cal (d + 1 + 2 * r + 1) 18 [vR 7 m, vR 4 kd] h (.inl (some (vI (ls kd)))) h := s_lastTaken m1 m2 m3 m4 o1 o2 hkd (m5 kd hkd)
    refine Ev.vir (d := d + 1 + 2 * r + 1) (as := [vR 4 kd]) (rest := []) (by rfl) (by rfl) (by rfl) (by rfl) rfl (Nat.le_of_ble_eq_true rfl) (by rfl) (by rw [m1]; rfl) hT ?_
    unfold liveF
    generalize ls kd = x
    have no : Ev (d + 1 + 2 * r + 1 + 1) (73, 40, [some (vR 8 0), some (vR 7 m), some (vR 4 kd), some (vI D), some (vI c0), some (vI x), none], []) h (.inl (some (vI (bI false))), h) := by
      refine Ev.ps 3 rfl ?_
      refine Ev.ifi (by rfl) (by rfl) (fun _ => ?_) (fun z => by exact absurd z (by decide))
      refine Ev.ps 1 rfl ?_
      exact Ev.re rfl rfl rfl rfl rfl
    refine Ev.ps 3 rfl ?_
    unfold freshL
    refine Ev.icmp (by rfl) (by rfl) (fun c => ?_) (fun c => ?_)
    · have c : x = -1 := of_decide_eq_true c
      rw [decide_eq_false (fun z => z c), Bool.false_and, Bool.false_and, Bool.false_and]
      exact no
    · have c : ¬ x = -1 := of_decide_eq_false c
      rw [decide_eq_true c, Bool.true_and]
      refine Ev.ps 2 rfl ?_
      refine Ev.icmp (by rfl) (by rfl) (fun c2 => ?_) (fun c2 => ?_)
      · have c2 := of_decide_eq_true c2
        rw [decide_eq_false (Int32.not_le.mpr c2), Bool.false_and, Bool.false_and]
        exact no
      · have c2 := of_decide_eq_false c2
        rw [decide_eq_true (Int32.not_lt.mp c2), Bool.true_and]
        refine Ev.ps 4 rfl ?_
        refine Ev.icmp (by rfl) (by rfl) (fun c3 => ?_) (fun c3 => ?_)
        · have c3 : 29 < D - x := of_decide_eq_true c3
          rw [decide_eq_false (Int32.not_le.mpr c3), Bool.false_and]
          exact no
        · have c3 : ¬ 29 < D - x := of_decide_eq_false c3
          rw [decide_eq_true (Int32.not_lt.mp c3), Bool.true_and]
          refine Ev.ps 4 rfl ?_
          refine Ev.ifi (by rfl) (by rfl) (fun z => by exact absurd z (by decide)) (fun _ => ?_)
          refine Ev.ps 5 rfl ?_
          have hNd : Cal (d + 1 + 2 * r + 1) 74 [vR 8 0, vR 7 m, vR 4 kd, vI D, vI c0] h (.inl (some (vI (bI (allN (fun k => decide (nb kd &&& bt k = 0) || liveF nb bt ls D r k) 4 0))))) h := by
            rw [show d + 1 + 2 * r + 1 = (d + 2 * r) + 2 by omega]
            exact s_hasLiveNeeds hK (by rw [m1]; rfl) hkd fun k hk4 _ => by
              have h9 := ih k (by omega) hk4
              rw [hc, show d + 2 * r + 1 = d + 1 + 2 * r by omega]
              exact h9
          refine Ev.vir (d := d + 1 + 2 * r + 1) (as := [vR 7 m, vR 4 kd, vI D, vI c0]) (rest := []) (by rfl) (by rfl) (by rfl) (by rfl) rfl (Nat.le_of_ble_eq_true rfl) (by rfl) (by rw [hd]; rfl) hNd ?_
          cases allN (fun k => decide (nb kd &&& bt k = 0) || liveF nb bt ls D r k) 4 0 with
          | true =>
            refine Ev.ifi (by rfl) (by rfl) (fun z => by exact absurd z (by decide)) (fun _ => ?_)
            refine Ev.ps 2 rfl ?_
            exact Ev.re rfl rfl rfl rfl rfl
          | false =>
            refine Ev.ifi (by rfl) (by rfl) (fun _ => ?_) (fun z => by exact absurd z (by decide))
            refine Ev.ps 1 rfl ?_
            exact Ev.re rfl rfl rfl rfl rfl
end
section
/-! judge -/
def verdict (live busy free : Bool) : Int32 := if live then (if busy then 109 else if free then 111 else 116) else 105
theorem s_judge {d m mc kd : Nat} {h : Hp} {om : Ob} {D S M W pl : Int32} {live busy free : Bool} (hd : (hget h 8 0).isSome = true) (hm : hget h 6 mc = some om) (h0 : om[0]? = some (vR 4 kd))
    (hL : Cal d 73 [vR 8 0, vR 7 m, vR 4 kd, vI D, vI 0] h (.inl (some (vI (bI live)))) h) (hB : Cal d 79 [vR 8 0, vR 7 m, vI D, vI S, vI (S + M)] h (.inl (some (vI (bI busy)))) h) (hP : Cal d 13 [vR 6 mc, vI D, vI 0] h (.inl (some (vI pl))) h) (hF : Cal d 80 [vR 6 mc, vI pl, vI D, vI S, vI M, vI W] h (.inl (some (vI (bI free)))) h) :
    Cal (d + 1) 77 [vR 8 0, vR 7 m, vR 6 mc, vI D, vI S, vI M, vI W] h (.inl (some (vI (verdict live busy free)))) h := by
  refine Cal.mk (n := 8) rfl (Nat.le_of_ble_eq_true rfl) rfl ?_
  refine Ev.ps 3 rfl ?_
  refine Ev.getf (by rfl) (by rfl) (by rfl) hm h0 ?_
  refine Ev.ps 2 rfl ?_
  refine Ev.vir (as := [vR 7 m, vR 4 kd, vI D, vI 0]) (rest := []) (by rfl) (by rfl) (by rfl) (by rfl) rfl (Nat.le_of_ble_eq_true rfl) (by rfl) hd hL ?_
  cases live with
  | false =>
    refine Ev.ifi (by rfl) (by rfl) (fun z => by exact absurd z (by decide)) (fun _ => ?_)
    refine Ev.ps 1 rfl ?_
    exact Ev.re rfl rfl rfl rfl rfl
  | true =>
    refine Ev.ifi (by rfl) (by rfl) (fun _ => ?_) (fun z => by exact absurd z (by decide))
    refine Ev.ps 7 rfl ?_
    refine Ev.vir (as := [vR 7 m, vI D, vI S, vI (S + M)]) (rest := []) (by rfl) (by rfl) (by rfl) (by rfl) rfl (Nat.le_of_ble_eq_true rfl) (by rfl) hd hB ?_
    cases busy with
    | true =>
      refine Ev.ifi (by rfl) (by rfl) (fun z => by exact absurd z (by decide)) (fun _ => ?_)
      refine Ev.ps 1 rfl ?_
      exact Ev.re rfl rfl rfl rfl rfl
    | false =>
      refine Ev.ifi (by rfl) (by rfl) (fun _ => ?_) (fun z => by exact absurd z (by decide))
      refine Ev.ps 3 rfl ?_
      refine Ev.vir (as := [vI D, vI 0]) (rest := []) (by rfl) (by rfl) (by rfl) (by rfl) rfl (Nat.le_of_ble_eq_true rfl) (by rfl) (by rw [hm]; rfl) hP ?_
      refine Ev.ps 7 rfl ?_
      refine Ev.sta (as := [vR 6 mc, vI pl, vI D, vI S, vI M, vI W]) (rest := []) (by rfl) (by rfl) (by rfl) (by rfl) rfl (Nat.le_of_ble_eq_true rfl) hF ?_
      cases free with
      | true =>
        refine Ev.ifi (by rfl) (by rfl) (fun z => by exact absurd z (by decide)) (fun _ => ?_)
        refine Ev.ps 2 rfl ?_
        exact Ev.re rfl rfl rfl rfl rfl
      | false =>
        refine Ev.ifi (by rfl) (by rfl) (fun _ => ?_) (fun z => by exact absurd z (by decide))
        refine Ev.ps 1 rfl ?_
        exact Ev.re rfl rfl rfl rfl rfl
end
section
theorem the_run (L : Nat) (hL : L ≤ 3584) (xs : Nat → Int32) : ∃ n h', run 60 n fr0 (h0 L xs) = some (.inl (some (vI 1)), h') ∧ h'.2.1 ≤ 603072 ∧ h'.2.2 ≤ 7215210 := sorry
theorem whole_start {p : Program} {e : Env} {s : State} {m : MethodId} {below : List Frame} {meth : Method} {c : Code} (l : Launch) (hflags : l.flags = flags0) {b L : Nat} {xs : Nat → Int32} (hL : L ≤ 3584) (C0 : lw_At p s m meth c b L xs) (hcT : c.exceptionTable.toList = []) (hnm : meth.name = "law") : W p l e room_1 s m #[Value.ref b] below meth c s.heap [] 0 0 (lw_Z below #[Value.ref b] s) (entryFrame m ([Value.ref b] : List Value).toArray 9) :=
  whole_run l hflags (lst_ok l) hL C0 hcT hnm (the_run L hL xs)
set_option maxHeartbeats 4000000 in
theorem lw_walk (l : Launch) (hflags : l.flags = flags0) (b : Addr) (xs : List Int32) : MetFree l x (headSpec (Jvm.Cond.code x code maxLocals ret :: tables_1) room_1) (lw_P b xs) (fun _ _ _ _ _ => True) lw_Q := by
  refine MetFree.of_bodyS (code := code) (maxLocals := maxLocals) (ret := ret) (by decide) ?_ ?_
  · intro args s m h hn
    obtain ⟨meth, c, h1, h2, h3, h4, h5, h6, -, -⟩ := Cond.code_spec hn (atoms_spec (ws := Jvm.Cond.code x code maxLocals ret :: tables_1) h _ List.mem_cons_self)
    exact ⟨meth, c, h1, h2, h3, h4, h5, h6⟩
  · intro p e s m args below meth c s₁ B hml0 hP _
    obtain ⟨rfl, hx, hbd, hgv⟩ := hP
    obtain ⟨scr, harrAt, hlist, hof, hsmall⟩ := hx
    obtain ⟨hcb, hkn, -, -⟩ := State.arrayAt?_spec harrAt
    have hown : s.vm.findClass R_law = some m.cls := findClass_of_methodNamed B.named
    have hts0 : ∀ c ∈ (Jvm.Cond.code x code maxLocals ret :: tables_1), c.before #[Value.ref b] s = true := atoms_spec (ws := Jvm.Cond.code x code maxLocals ret :: tables_1) B.pre
    have hts : ∀ w ∈ lw_tbl, w.before #[Value.ref b] s = true := k2_hts_sels lw_privs (fun w hw => hts0 w (List.mem_cons_of_mem _ hw)) lw_privs_ok
    have hml : c.maxLocals = 9 := B.maxLocals_eq (hts0 _ List.mem_cons_self)
    have X₀ : Stand p l e room_1 s m #[Value.ref b] below meth c s₁ [] 0 0 := Stand.of_body B
    have hh0 : s₁.heap = s.heap := by rw [B.state]; rfl
    have hsz : scr.slots.size = xs.length := by rw [← Array.length_toList, hlist, List.length_map]
    have hval : ∀ j : Nat, j < xs.length → scr.slots[j]? = some (.int (xs.getD j 0)) := fun j hj => by
      rw [← Array.getElem?_toList, hlist]
      simp [hj]
    have hbl : b < s.heap.size := (Array.getElem?_eq_some_iff.mp hcb).1
    have hX : va_X b xs.length (fun j => xs.getD j 0) s s.heap := ⟨scr, hcb, hof, hkn, hsz, hval⟩
    have K : W p l e room_1 s m #[Value.ref b] below meth c s₁.heap [] 0 0 (lw_Z below #[Value.ref b] s) (entryFrame m ([Value.ref b] : List Value).toArray 9) := by
      rw [hh0]
      have hcT : c.exceptionTable.toList = [] := by
        obtain ⟨meth9, c9, h1, h2, -, -, -, -, h7, -⟩ := Cond.code_spec B.named (hts0 _ List.mem_cons_self)
        cases Option.some.inj (h1.symm.trans B.method)
        cases Option.some.inj (h2.symm.trans (Stand.of_body B).code)
        rw [Array.isEmpty_iff.mp h7]
      exact whole_start l hflags hbd ⟨B.exec, B.bytes, B.returns, hml, hown, hts, hX, hbl, B.notSynchronized, hgv⟩ hcT (name_of_methodNamed B.named B.method).1
    obtain ⟨t, a1, o, b1, b2, b3⟩ := K s₁ rfl X₀
    exact ⟨t, o, a1, b1, b2, b3⟩
theorem lw_pre_spec {args : Array Value} {s : State} (h : (Jvm.Cond.and given_1 narrow_1).before args s = true) (hr : rest_1_c.before args s = true) : ∃ (b : Addr) (xs : List Int32), lw_P b xs args s := by
  have hs := flat_of_before _ h
  have hq := flat_of_before _ hr
  have hc : (Cond.count 1).before args s = true := hs _ (by decide +kernel)
  have harr : (Cond.arrayOf (.arg 0) .int).before args s = true := hs _ (by decide +kernel)
  have hle : (Cond.le (.length (.arg 0)) (.int 3584)).before args s = true := hs _ (by decide +kernel)
  have hlen : (Cond.isInt (.length (.arg 0))).before args s = true := hq _ (by decide +kernel)
  have hall : (Cond.all (.arg 0) (.isInt (.elem (.arg 0) (.index 0)))).before args s = true := hq _ (by decide +kernel)
  obtain ⟨b, xs, hb, hx⟩ := State.ints_of_pre rfl harr hlen hall
  have hsm : xs.length < 2 ^ 31 := hx.choose_spec.2.2.2
  have hev : (Term.length (.arg 0)).eval args s none [] s = some (.int xs.length.toInt32) := hx.length_eval hb
  have hv := Cond.le_ints hev (show (Term.int 3584).eval args s none [] s = some (.int 3584) from rfl)
  have hd : xs.length.toInt32 ≤ 3584 := by
    simpa [Cond.before, Cond.holds, hv] using hle
  have hN : xs.length ≤ 3584 := (Int32.ofNat_le_ofNat hsm (by decide)).mp (show Int32.ofNat xs.length ≤ Int32.ofNat 3584 from hd)
  exact ⟨b, xs, Cond.one_arg hc (show args[0]? = some (.ref b) from hb), hx, hN, h⟩
theorem lw_comes (l : Launch) (hflags : l.flags = flags0) : Comes l x (Jvm.Cond.code x code maxLocals ret :: tables_1) room_1 (fun tb e args s => Calls_1 tb e args s ∧ rest_1 tb e args s ∧ Pre_1 tb e args s)
    (fun _ _ args s o t => lw_Q args s o t) := by
  intro p e ha hc hk s m args below hf hfit hheap happ hpre
  obtain ⟨b, xs, hP⟩ := lw_pre_spec hpre.2.2 hpre.2.1
  obtain ⟨k, o, h1, h2, h3, hQ⟩ := lw_walk l hflags b xs p e ha hc hk s m args below hf ((Spec.applies_iff_loose hf).mp happ).1 hP trivial
  exact ⟨k, o, h1, h2, h3, hQ⟩
theorem lw_frame {s t : State} {o : Outcome} {args : Array Value} (h : State.butDraws s t lw_cs (fun t1 => Framed s o t1 [] 603072 7215210)) :
    State.butDraws s t [Jvm.Choice.named "NaN.bits"] (fun t1 => Framed s o t1 (fieldLocs frame_1_writes args s ++ arrayLocs frame_1_arrays args s ++ staticLocs frame_1_statics s) 603072 7215210) := h
theorem lw_limb (L : Cond) (hL : ∀ (args : Array Value) (s t : State), L.after args s (.returned (some (.int 1))) t = true) :
    ArmFor flags0 classFile x code maxLocals ret World_1 tables_1 room_1 Calls_1 rest_1 Pre_1
      (fun tb e a s o t => postC L tb e a s o t ∧ State.butDraws s t [Jvm.Choice.named "NaN.bits"] (fun t1 => Framed s o t1 (fieldLocs frame_1_writes a s ++ arrayLocs frame_1_arrays a s ++ staticLocs frame_1_statics s) 603072 7215210)) := by
  intro l hflags _ _ p e ha hc hk s m args below hf hfit hheap happ hpre
  obtain ⟨k, o, h1, h2, h3, rfl, hF⟩ := lw_comes l hflags p e ha hc hk s m args below hf hfit hheap happ hpre
  exact ⟨k, _, h1, h2, h3, hL args s _, lw_frame hF⟩
theorem i_vc : Claimed_1_1 ∧ Claimed_1_2 := ⟨lw_limb limb_1_1 (fun args s t => by simp [limb_1_1, Cond.after, Cond.holds, Cond.value]), lw_limb limb_1_2 (fun args s t => Cond.after_iff.mpr (by
  first | (rw [show limb_1_2 = Cond.eq .result (.int 1) from rfl, Cond.eq_ints (x := 1) (y := 1) rfl rfl]; simp; done) | (simp [limb_1_2, Cond.value, Term.eval]; done)))⟩
end

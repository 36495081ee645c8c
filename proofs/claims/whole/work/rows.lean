section
-- ===== PART A: goes FIRST, ahead of the names: the tables' words, and 'selects' of the private methods out of them =====
/-- a private method of a class that the tables say can be made, by its rows of tables_1 -/
def lw_okq (q : MethodName × Nat) : Prop := (q.1.cls ≠ "java/lang/invoke/MethodHandle" ∧ q.1.cls ≠ "java/lang/invoke/VarHandle") ∧ Cond.instantiable q.1.cls q.2 ∈ tables_1 ∧ Cond.privateMethod q.1 ∈ tables_1 ∧ Cond.instanceMethod q.1 ∈ tables_1
theorem lw_p0 : lw_okq (⟨"MemberChoice$Members", "hasGoodHead", "(I)Z"⟩, 10) := ⟨⟨by decide +kernel, by decide +kernel⟩, List.mem_of_getElem? (i := 60) (by decide +kernel), List.mem_of_getElem? (i := 238) (by decide +kernel), List.mem_of_getElem? (i := 239) (by decide +kernel)⟩
theorem lw_p1 : lw_okq (⟨"MemberChoice$Members", "hasGoodMarks", "(I)Z"⟩, 10) := ⟨⟨by decide +kernel, by decide +kernel⟩, List.mem_of_getElem? (i := 60) (by decide +kernel), List.mem_of_getElem? (i := 243) (by decide +kernel), List.mem_of_getElem? (i := 244) (by decide +kernel)⟩
theorem lw_p2 : lw_okq (⟨"MemberChoice$Types", "isElement", "(I)Z"⟩, 4) := ⟨⟨by decide +kernel, by decide +kernel⟩, List.mem_of_getElem? (i := 20) (by decide +kernel), List.mem_of_getElem? (i := 268) (by decide +kernel), List.mem_of_getElem? (i := 269) (by decide +kernel)⟩
theorem lw_p3 : lw_okq (⟨"MemberChoice$Members", "hasGoodParameters", "(I)Z"⟩, 10) := ⟨⟨by decide +kernel, by decide +kernel⟩, List.mem_of_getElem? (i := 60) (by decide +kernel), List.mem_of_getElem? (i := 276) (by decide +kernel), List.mem_of_getElem? (i := 277) (by decide +kernel)⟩
theorem lw_p4 : lw_okq (⟨"MemberChoice$Members", "isToldTwice", "(I)Z"⟩, 10) := ⟨⟨by decide +kernel, by decide +kernel⟩, List.mem_of_getElem? (i := 60) (by decide +kernel), List.mem_of_getElem? (i := 290) (by decide +kernel), List.mem_of_getElem? (i := 291) (by decide +kernel)⟩
theorem lw_p5 : lw_okq (⟨"MemberChoice$Members", "findFunction", "(I)I"⟩, 10) := ⟨⟨by decide +kernel, by decide +kernel⟩, List.mem_of_getElem? (i := 60) (by decide +kernel), List.mem_of_getElem? (i := 331) (by decide +kernel), List.mem_of_getElem? (i := 332) (by decide +kernel)⟩
theorem lw_p6 : lw_okq (⟨"MemberChoice$Members", "isSeen", "(III)Z"⟩, 10) := ⟨⟨by decide +kernel, by decide +kernel⟩, List.mem_of_getElem? (i := 60) (by decide +kernel), List.mem_of_getElem? (i := 335) (by decide +kernel), List.mem_of_getElem? (i := 336) (by decide +kernel)⟩
theorem lw_p7 : lw_okq (⟨"MemberChoice$Members", "isOverridden", "(II)Z"⟩, 10) := ⟨⟨by decide +kernel, by decide +kernel⟩, List.mem_of_getElem? (i := 60) (by decide +kernel), List.mem_of_getElem? (i := 340) (by decide +kernel), List.mem_of_getElem? (i := 341) (by decide +kernel)⟩
theorem lw_p8 : lw_okq (⟨"MemberChoice$Members", "overrides", "(II)Z"⟩, 10) := ⟨⟨by decide +kernel, by decide +kernel⟩, List.mem_of_getElem? (i := 60) (by decide +kernel), List.mem_of_getElem? (i := 344) (by decide +kernel), List.mem_of_getElem? (i := 345) (by decide +kernel)⟩
theorem lw_p9 : lw_okq (⟨"MemberChoice", "canBeAsked", "(III)Z"⟩, 5) := ⟨⟨by decide +kernel, by decide +kernel⟩, List.mem_of_getElem? (i := 12) (by decide +kernel), List.mem_of_getElem? (i := 356) (by decide +kernel), List.mem_of_getElem? (i := 357) (by decide +kernel)⟩
theorem lw_p10 : lw_okq (⟨"MemberChoice$Choice", "forget", "()V"⟩, 10) := ⟨⟨by decide +kernel, by decide +kernel⟩, List.mem_of_getElem? (i := 125) (by decide +kernel), List.mem_of_getElem? (i := 402) (by decide +kernel), List.mem_of_getElem? (i := 403) (by decide +kernel)⟩
theorem lw_p11 : lw_okq (⟨"MemberChoice$Choice", "keepMeant", "()V"⟩, 10) := ⟨⟨by decide +kernel, by decide +kernel⟩, List.mem_of_getElem? (i := 125) (by decide +kernel), List.mem_of_getElem? (i := 408) (by decide +kernel), List.mem_of_getElem? (i := 409) (by decide +kernel)⟩
theorem lw_p12 : lw_okq (⟨"MemberChoice$Choice", "couldBeMeant", "(I)Z"⟩, 10) := ⟨⟨by decide +kernel, by decide +kernel⟩, List.mem_of_getElem? (i := 125) (by decide +kernel), List.mem_of_getElem? (i := 412) (by decide +kernel), List.mem_of_getElem? (i := 413) (by decide +kernel)⟩
theorem lw_p13 : lw_okq (⟨"MemberChoice$Choice", "hasShape", "(II)Z"⟩, 10) := ⟨⟨by decide +kernel, by decide +kernel⟩, List.mem_of_getElem? (i := 125) (by decide +kernel), List.mem_of_getElem? (i := 437) (by decide +kernel), List.mem_of_getElem? (i := 438) (by decide +kernel)⟩
theorem lw_p14 : lw_okq (⟨"MemberChoice$Choice", "findApplying", "(I)V"⟩, 10) := ⟨⟨by decide +kernel, by decide +kernel⟩, List.mem_of_getElem? (i := 125) (by decide +kernel), List.mem_of_getElem? (i := 454) (by decide +kernel), List.mem_of_getElem? (i := 455) (by decide +kernel)⟩
theorem lw_p15 : lw_okq (⟨"MemberChoice$Choice", "applies", "(II)Z"⟩, 10) := ⟨⟨by decide +kernel, by decide +kernel⟩, List.mem_of_getElem? (i := 125) (by decide +kernel), List.mem_of_getElem? (i := 458) (by decide +kernel), List.mem_of_getElem? (i := 459) (by decide +kernel)⟩
def lw_privs_1 : List (MethodName × Nat) := [(⟨"MemberChoice$Members", "hasGoodHead", "(I)Z"⟩, 10), (⟨"MemberChoice$Members", "hasGoodMarks", "(I)Z"⟩, 10), (⟨"MemberChoice$Types", "isElement", "(I)Z"⟩, 4), (⟨"MemberChoice$Members", "hasGoodParameters", "(I)Z"⟩, 10), (⟨"MemberChoice$Members", "isToldTwice", "(I)Z"⟩, 10), (⟨"MemberChoice$Members", "findFunction", "(I)I"⟩, 10), (⟨"MemberChoice$Members", "isSeen", "(III)Z"⟩, 10), (⟨"MemberChoice$Members", "isOverridden", "(II)Z"⟩, 10), (⟨"MemberChoice$Members", "overrides", "(II)Z"⟩, 10), (⟨"MemberChoice", "canBeAsked", "(III)Z"⟩, 5), (⟨"MemberChoice$Choice", "forget", "()V"⟩, 10), (⟨"MemberChoice$Choice", "keepMeant", "()V"⟩, 10), (⟨"MemberChoice$Choice", "couldBeMeant", "(I)Z"⟩, 10), (⟨"MemberChoice$Choice", "hasShape", "(II)Z"⟩, 10), (⟨"MemberChoice$Choice", "findApplying", "(I)V"⟩, 10), (⟨"MemberChoice$Choice", "applies", "(II)Z"⟩, 10)]
theorem lw_r1 : ∀ q ∈ lw_privs_1, lw_okq q := List.forall_mem_cons.mpr ⟨lw_p0, List.forall_mem_cons.mpr ⟨lw_p1, List.forall_mem_cons.mpr ⟨lw_p2, List.forall_mem_cons.mpr ⟨lw_p3, List.forall_mem_cons.mpr ⟨lw_p4, List.forall_mem_cons.mpr ⟨lw_p5, List.forall_mem_cons.mpr ⟨lw_p6, List.forall_mem_cons.mpr ⟨lw_p7, List.forall_mem_cons.mpr ⟨lw_p8, List.forall_mem_cons.mpr ⟨lw_p9, List.forall_mem_cons.mpr ⟨lw_p10, List.forall_mem_cons.mpr ⟨lw_p11, List.forall_mem_cons.mpr ⟨lw_p12, List.forall_mem_cons.mpr ⟨lw_p13, List.forall_mem_cons.mpr ⟨lw_p14, List.forall_mem_cons.mpr ⟨lw_p15, fun _ h => absurd h List.not_mem_nil⟩⟩⟩⟩⟩⟩⟩⟩⟩⟩⟩⟩⟩⟩⟩⟩
theorem lw_p16 : lw_okq (⟨"MemberChoice$Choice", "takes", "(IIZ)Z"⟩, 10) := ⟨⟨by decide +kernel, by decide +kernel⟩, List.mem_of_getElem? (i := 125) (by decide +kernel), List.mem_of_getElem? (i := 462) (by decide +kernel), List.mem_of_getElem? (i := 463) (by decide +kernel)⟩
theorem lw_p17 : lw_okq (⟨"MemberChoice$Choice", "takesTold", "(IIZ)Z"⟩, 10) := ⟨⟨by decide +kernel, by decide +kernel⟩, List.mem_of_getElem? (i := 125) (by decide +kernel), List.mem_of_getElem? (i := 475) (by decide +kernel), List.mem_of_getElem? (i := 476) (by decide +kernel)⟩
theorem lw_p18 : lw_okq (⟨"MemberChoice$Choice", "compareAll", "()V"⟩, 10) := ⟨⟨by decide +kernel, by decide +kernel⟩, List.mem_of_getElem? (i := 125) (by decide +kernel), List.mem_of_getElem? (i := 488) (by decide +kernel), List.mem_of_getElem? (i := 489) (by decide +kernel)⟩
theorem lw_p19 : lw_okq (⟨"MemberChoice$Choice", "isAsSpecialAs", "(II)Z"⟩, 10) := ⟨⟨by decide +kernel, by decide +kernel⟩, List.mem_of_getElem? (i := 125) (by decide +kernel), List.mem_of_getElem? (i := 492) (by decide +kernel), List.mem_of_getElem? (i := 493) (by decide +kernel)⟩
theorem lw_p20 : lw_okq (⟨"MemberChoice$Choice", "isFinerFunction", "(III)Z"⟩, 10) := ⟨⟨by decide +kernel, by decide +kernel⟩, List.mem_of_getElem? (i := 125) (by decide +kernel), List.mem_of_getElem? (i := 497) (by decide +kernel), List.mem_of_getElem? (i := 498) (by decide +kernel)⟩
theorem lw_p21 : lw_okq (⟨"MemberChoice$Choice", "isFinerResult", "(III)Z"⟩, 10) := ⟨⟨by decide +kernel, by decide +kernel⟩, List.mem_of_getElem? (i := 125) (by decide +kernel), List.mem_of_getElem? (i := 502) (by decide +kernel), List.mem_of_getElem? (i := 503) (by decide +kernel)⟩
theorem lw_p22 : lw_okq (⟨"MemberChoice$Choice", "pick", "()I"⟩, 10) := ⟨⟨by decide +kernel, by decide +kernel⟩, List.mem_of_getElem? (i := 125) (by decide +kernel), List.mem_of_getElem? (i := 516) (by decide +kernel), List.mem_of_getElem? (i := 517) (by decide +kernel)⟩
theorem lw_p23 : lw_okq (⟨"MemberChoice$Choice", "didApply", "(I)Z"⟩, 10) := ⟨⟨by decide +kernel, by decide +kernel⟩, List.mem_of_getElem? (i := 125) (by decide +kernel), List.mem_of_getElem? (i := 546) (by decide +kernel), List.mem_of_getElem? (i := 547) (by decide +kernel)⟩
theorem lw_p24 : lw_okq (⟨"MemberChoiceModel", "isTold", "(I)Z"⟩, 23) := ⟨⟨by decide +kernel, by decide +kernel⟩, List.mem_of_getElem? (i := 560) (by decide +kernel), List.mem_of_getElem? (i := 640) (by decide +kernel), List.mem_of_getElem? (i := 641) (by decide +kernel)⟩
theorem lw_p25 : lw_okq (⟨"MemberChoiceModel", "closeTypes", "()V"⟩, 23) := ⟨⟨by decide +kernel, by decide +kernel⟩, List.mem_of_getElem? (i := 560) (by decide +kernel), List.mem_of_getElem? (i := 644) (by decide +kernel), List.mem_of_getElem? (i := 645) (by decide +kernel)⟩
theorem lw_p26 : lw_okq (⟨"MemberChoiceModel", "forgetFunctions", "()V"⟩, 23) := ⟨⟨by decide +kernel, by decide +kernel⟩, List.mem_of_getElem? (i := 560) (by decide +kernel), List.mem_of_getElem? (i := 648) (by decide +kernel), List.mem_of_getElem? (i := 649) (by decide +kernel)⟩
theorem lw_p27 : lw_okq (⟨"MemberChoiceModel", "isType", "(I)Z"⟩, 23) := ⟨⟨by decide +kernel, by decide +kernel⟩, List.mem_of_getElem? (i := 560) (by decide +kernel), List.mem_of_getElem? (i := 664) (by decide +kernel), List.mem_of_getElem? (i := 665) (by decide +kernel)⟩
theorem lw_p28 : lw_okq (⟨"MemberChoiceModel", "isPlain", "(I)Z"⟩, 23) := ⟨⟨by decide +kernel, by decide +kernel⟩, List.mem_of_getElem? (i := 560) (by decide +kernel), List.mem_of_getElem? (i := 668) (by decide +kernel), List.mem_of_getElem? (i := 669) (by decide +kernel)⟩
theorem lw_p29 : lw_okq (⟨"MemberChoiceModel", "isIt", "(II)Z"⟩, 23) := ⟨⟨by decide +kernel, by decide +kernel⟩, List.mem_of_getElem? (i := 560) (by decide +kernel), List.mem_of_getElem? (i := 672) (by decide +kernel), List.mem_of_getElem? (i := 673) (by decide +kernel)⟩
theorem lw_p30 : lw_okq (⟨"MemberChoiceModel", "plainIs", "(II)Z"⟩, 23) := ⟨⟨by decide +kernel, by decide +kernel⟩, List.mem_of_getElem? (i := 560) (by decide +kernel), List.mem_of_getElem? (i := 679) (by decide +kernel), List.mem_of_getElem? (i := 680) (by decide +kernel)⟩
theorem lw_p31 : lw_okq (⟨"MemberChoiceModel", "fitsIt", "(II)Z"⟩, 23) := ⟨⟨by decide +kernel, by decide +kernel⟩, List.mem_of_getElem? (i := 560) (by decide +kernel), List.mem_of_getElem? (i := 687) (by decide +kernel), List.mem_of_getElem? (i := 688) (by decide +kernel)⟩
def lw_privs_2 : List (MethodName × Nat) := [(⟨"MemberChoice$Choice", "takes", "(IIZ)Z"⟩, 10), (⟨"MemberChoice$Choice", "takesTold", "(IIZ)Z"⟩, 10), (⟨"MemberChoice$Choice", "compareAll", "()V"⟩, 10), (⟨"MemberChoice$Choice", "isAsSpecialAs", "(II)Z"⟩, 10), (⟨"MemberChoice$Choice", "isFinerFunction", "(III)Z"⟩, 10), (⟨"MemberChoice$Choice", "isFinerResult", "(III)Z"⟩, 10), (⟨"MemberChoice$Choice", "pick", "()I"⟩, 10), (⟨"MemberChoice$Choice", "didApply", "(I)Z"⟩, 10), (⟨"MemberChoiceModel", "isTold", "(I)Z"⟩, 23), (⟨"MemberChoiceModel", "closeTypes", "()V"⟩, 23), (⟨"MemberChoiceModel", "forgetFunctions", "()V"⟩, 23), (⟨"MemberChoiceModel", "isType", "(I)Z"⟩, 23), (⟨"MemberChoiceModel", "isPlain", "(I)Z"⟩, 23), (⟨"MemberChoiceModel", "isIt", "(II)Z"⟩, 23), (⟨"MemberChoiceModel", "plainIs", "(II)Z"⟩, 23), (⟨"MemberChoiceModel", "fitsIt", "(II)Z"⟩, 23)]
theorem lw_r2 : ∀ q ∈ lw_privs_2, lw_okq q := List.forall_mem_cons.mpr ⟨lw_p16, List.forall_mem_cons.mpr ⟨lw_p17, List.forall_mem_cons.mpr ⟨lw_p18, List.forall_mem_cons.mpr ⟨lw_p19, List.forall_mem_cons.mpr ⟨lw_p20, List.forall_mem_cons.mpr ⟨lw_p21, List.forall_mem_cons.mpr ⟨lw_p22, List.forall_mem_cons.mpr ⟨lw_p23, List.forall_mem_cons.mpr ⟨lw_p24, List.forall_mem_cons.mpr ⟨lw_p25, List.forall_mem_cons.mpr ⟨lw_p26, List.forall_mem_cons.mpr ⟨lw_p27, List.forall_mem_cons.mpr ⟨lw_p28, List.forall_mem_cons.mpr ⟨lw_p29, List.forall_mem_cons.mpr ⟨lw_p30, List.forall_mem_cons.mpr ⟨lw_p31, fun _ h => absurd h List.not_mem_nil⟩⟩⟩⟩⟩⟩⟩⟩⟩⟩⟩⟩⟩⟩⟩⟩
theorem lw_p32 : lw_okq (⟨"MemberChoiceModel", "isValue", "(I)Z"⟩, 23) := ⟨⟨by decide +kernel, by decide +kernel⟩, List.mem_of_getElem? (i := 560) (by decide +kernel), List.mem_of_getElem? (i := 701) (by decide +kernel), List.mem_of_getElem? (i := 702) (by decide +kernel)⟩
theorem lw_p33 : lw_okq (⟨"MemberChoiceModel", "functionOf", "(I)I"⟩, 23) := ⟨⟨by decide +kernel, by decide +kernel⟩, List.mem_of_getElem? (i := 560) (by decide +kernel), List.mem_of_getElem? (i := 712) (by decide +kernel), List.mem_of_getElem? (i := 713) (by decide +kernel)⟩
theorem lw_p34 : lw_okq (⟨"MemberChoiceModel", "findFunction", "(I)I"⟩, 23) := ⟨⟨by decide +kernel, by decide +kernel⟩, List.mem_of_getElem? (i := 560) (by decide +kernel), List.mem_of_getElem? (i := 716) (by decide +kernel), List.mem_of_getElem? (i := 717) (by decide +kernel)⟩
theorem lw_p35 : lw_okq (⟨"MemberChoiceModel", "has", "(II)Z"⟩, 23) := ⟨⟨by decide +kernel, by decide +kernel⟩, List.mem_of_getElem? (i := 560) (by decide +kernel), List.mem_of_getElem? (i := 720) (by decide +kernel), List.mem_of_getElem? (i := 721) (by decide +kernel)⟩
theorem lw_p36 : lw_okq (⟨"MemberChoiceModel", "isSeen", "(III)Z"⟩, 23) := ⟨⟨by decide +kernel, by decide +kernel⟩, List.mem_of_getElem? (i := 560) (by decide +kernel), List.mem_of_getElem? (i := 724) (by decide +kernel), List.mem_of_getElem? (i := 725) (by decide +kernel)⟩
theorem lw_p37 : lw_okq (⟨"MemberChoiceModel", "sameParams", "(II)Z"⟩, 23) := ⟨⟨by decide +kernel, by decide +kernel⟩, List.mem_of_getElem? (i := 560) (by decide +kernel), List.mem_of_getElem? (i := 728) (by decide +kernel), List.mem_of_getElem? (i := 729) (by decide +kernel)⟩
theorem lw_p38 : lw_okq (⟨"MemberChoiceModel", "isAsked", "(III)Z"⟩, 23) := ⟨⟨by decide +kernel, by decide +kernel⟩, List.mem_of_getElem? (i := 560) (by decide +kernel), List.mem_of_getElem? (i := 736) (by decide +kernel), List.mem_of_getElem? (i := 737) (by decide +kernel)⟩
theorem lw_p39 : lw_okq (⟨"MemberChoiceModel", "isMeant", "(I)Z"⟩, 23) := ⟨⟨by decide +kernel, by decide +kernel⟩, List.mem_of_getElem? (i := 560) (by decide +kernel), List.mem_of_getElem? (i := 760) (by decide +kernel), List.mem_of_getElem? (i := 761) (by decide +kernel)⟩
theorem lw_p40 : lw_okq (⟨"MemberChoiceModel", "hasShape", "(II)Z"⟩, 23) := ⟨⟨by decide +kernel, by decide +kernel⟩, List.mem_of_getElem? (i := 560) (by decide +kernel), List.mem_of_getElem? (i := 764) (by decide +kernel), List.mem_of_getElem? (i := 765) (by decide +kernel)⟩
theorem lw_p41 : lw_okq (⟨"MemberChoiceModel", "typeAt", "(IIZ)I"⟩, 23) := ⟨⟨by decide +kernel, by decide +kernel⟩, List.mem_of_getElem? (i := 560) (by decide +kernel), List.mem_of_getElem? (i := 768) (by decide +kernel), List.mem_of_getElem? (i := 769) (by decide +kernel)⟩
theorem lw_p42 : lw_okq (⟨"MemberChoiceModel", "doesApply", "(II)Z"⟩, 23) := ⟨⟨by decide +kernel, by decide +kernel⟩, List.mem_of_getElem? (i := 560) (by decide +kernel), List.mem_of_getElem? (i := 772) (by decide +kernel), List.mem_of_getElem? (i := 773) (by decide +kernel)⟩
theorem lw_p43 : lw_okq (⟨"MemberChoiceModel", "takes", "(III)Z"⟩, 23) := ⟨⟨by decide +kernel, by decide +kernel⟩, List.mem_of_getElem? (i := 560) (by decide +kernel), List.mem_of_getElem? (i := 776) (by decide +kernel), List.mem_of_getElem? (i := 777) (by decide +kernel)⟩
theorem lw_p44 : lw_okq (⟨"MemberChoiceModel", "passes", "(III)Z"⟩, 23) := ⟨⟨by decide +kernel, by decide +kernel⟩, List.mem_of_getElem? (i := 560) (by decide +kernel), List.mem_of_getElem? (i := 780) (by decide +kernel), List.mem_of_getElem? (i := 781) (by decide +kernel)⟩
theorem lw_p45 : lw_okq (⟨"MemberChoiceModel", "isSpecial", "(II)Z"⟩, 23) := ⟨⟨by decide +kernel, by decide +kernel⟩, List.mem_of_getElem? (i := 560) (by decide +kernel), List.mem_of_getElem? (i := 784) (by decide +kernel), List.mem_of_getElem? (i := 785) (by decide +kernel)⟩
theorem lw_p46 : lw_okq (⟨"MemberChoiceModel", "isFiner", "(III)Z"⟩, 23) := ⟨⟨by decide +kernel, by decide +kernel⟩, List.mem_of_getElem? (i := 560) (by decide +kernel), List.mem_of_getElem? (i := 788) (by decide +kernel), List.mem_of_getElem? (i := 789) (by decide +kernel)⟩
theorem lw_p47 : lw_okq (⟨"MemberChoiceModel", "mostSpecial", "()I"⟩, 23) := ⟨⟨by decide +kernel, by decide +kernel⟩, List.mem_of_getElem? (i := 560) (by decide +kernel), List.mem_of_getElem? (i := 792) (by decide +kernel), List.mem_of_getElem? (i := 793) (by decide +kernel)⟩
def lw_privs_3 : List (MethodName × Nat) := [(⟨"MemberChoiceModel", "isValue", "(I)Z"⟩, 23), (⟨"MemberChoiceModel", "functionOf", "(I)I"⟩, 23), (⟨"MemberChoiceModel", "findFunction", "(I)I"⟩, 23), (⟨"MemberChoiceModel", "has", "(II)Z"⟩, 23), (⟨"MemberChoiceModel", "isSeen", "(III)Z"⟩, 23), (⟨"MemberChoiceModel", "sameParams", "(II)Z"⟩, 23), (⟨"MemberChoiceModel", "isAsked", "(III)Z"⟩, 23), (⟨"MemberChoiceModel", "isMeant", "(I)Z"⟩, 23), (⟨"MemberChoiceModel", "hasShape", "(II)Z"⟩, 23), (⟨"MemberChoiceModel", "typeAt", "(IIZ)I"⟩, 23), (⟨"MemberChoiceModel", "doesApply", "(II)Z"⟩, 23), (⟨"MemberChoiceModel", "takes", "(III)Z"⟩, 23), (⟨"MemberChoiceModel", "passes", "(III)Z"⟩, 23), (⟨"MemberChoiceModel", "isSpecial", "(II)Z"⟩, 23), (⟨"MemberChoiceModel", "isFiner", "(III)Z"⟩, 23), (⟨"MemberChoiceModel", "mostSpecial", "()I"⟩, 23)]
theorem lw_r3 : ∀ q ∈ lw_privs_3, lw_okq q := List.forall_mem_cons.mpr ⟨lw_p32, List.forall_mem_cons.mpr ⟨lw_p33, List.forall_mem_cons.mpr ⟨lw_p34, List.forall_mem_cons.mpr ⟨lw_p35, List.forall_mem_cons.mpr ⟨lw_p36, List.forall_mem_cons.mpr ⟨lw_p37, List.forall_mem_cons.mpr ⟨lw_p38, List.forall_mem_cons.mpr ⟨lw_p39, List.forall_mem_cons.mpr ⟨lw_p40, List.forall_mem_cons.mpr ⟨lw_p41, List.forall_mem_cons.mpr ⟨lw_p42, List.forall_mem_cons.mpr ⟨lw_p43, List.forall_mem_cons.mpr ⟨lw_p44, List.forall_mem_cons.mpr ⟨lw_p45, List.forall_mem_cons.mpr ⟨lw_p46, List.forall_mem_cons.mpr ⟨lw_p47, fun _ h => absurd h List.not_mem_nil⟩⟩⟩⟩⟩⟩⟩⟩⟩⟩⟩⟩⟩⟩⟩⟩
def lw_privs : List (MethodName × Nat) := lw_privs_1 ++ (lw_privs_2 ++ (lw_privs_3))
def lw_tbl : List Cond := k2_sels lw_privs ++ tables_1
theorem lw_privs_ok : ∀ q ∈ lw_privs, lw_okq q := by
  show ∀ q ∈ lw_privs_1 ++ (lw_privs_2 ++ (lw_privs_3)), lw_okq q
  exact List.forall_mem_append.mpr ⟨lw_r1, List.forall_mem_append.mpr ⟨lw_r2, lw_r3⟩⟩
end
section
def wAll : List Cond := lw_tbl.filter goodWord
theorem wa {w : Cond} (h : w ∈ lw_tbl) (hg : goodWord w = true) : w ∈ wAll := List.mem_filter.mpr ⟨h, hg⟩
def RC0 : String := "MemberChoice"
def TC0 : u_T := fun k => match k with
  | 0 => ("MemberChoice", "types", "LMemberChoice$Types;", true)
  | 1 => ("MemberChoice", "members", "LMemberChoice$Members;", true)
  | 2 => ("MemberChoice", "arguments", "LMemberChoice$Arguments;", true)
  | 3 => ("MemberChoice", "latest", "LMemberChoice$Choice;", true)
  | _ => ("MemberChoice", "seenRow", "[I", true)
def tyC0 : Nat → FieldType := fun k => match k with
  | 0 => .object "MemberChoice$Types"
  | 1 => .object "MemberChoice$Members"
  | 2 => .object "MemberChoice$Arguments"
  | 3 => .object "MemberChoice$Choice"
  | _ => .array .int
theorem tyC0_ok : ∀ k, k < 5 → parseFieldDescriptor (TC0 k).2.2.1 = some (tyC0 k) := by decide +kernel
theorem nnC0 : ∀ a, a < 5 → ∀ b, b < 5 → a ≠ b → (TC0 a).2.1 ≠ (TC0 b).2.1 := by decide +kernel
theorem inC0_0 : ∀ w ∈ u_ws RC0 TC0 5, w ∈ lw_tbl := by decide +kernel
theorem inC0_1 : (u_ws RC0 TC0 5).all goodWord = true := by decide +kernel
theorem inC0 : ∀ w ∈ u_ws RC0 TC0 5, w ∈ wAll := fun w h => wa (inC0_0 w h) (List.all_eq_true.mp inC0_1 w h)
def RC1 : String := "MemberChoice$Types"
def TC1 : u_T := fun k => match k with
  | 0 => ("MemberChoice$Types", "above", "[J", true)
  | 1 => ("MemberChoice$Types", "toldFaces", "[I", true)
  | 2 => ("MemberChoice$Types", "interfaces", "[Z", true)
  | _ => ("MemberChoice$Types", "told", "I", false)
def tyC1 : Nat → FieldType := fun k => match k with
  | 0 => .array .long
  | 1 => .array .int
  | 2 => .array .boolean
  | _ => .int
theorem tyC1_ok : ∀ k, k < 4 → parseFieldDescriptor (TC1 k).2.2.1 = some (tyC1 k) := by decide +kernel
theorem nnC1 : ∀ a, a < 4 → ∀ b, b < 4 → a ≠ b → (TC1 a).2.1 ≠ (TC1 b).2.1 := by decide +kernel
theorem inC1_0 : ∀ w ∈ u_ws RC1 TC1 4, w ∈ lw_tbl := by decide +kernel
theorem inC1_1 : (u_ws RC1 TC1 4).all goodWord = true := by decide +kernel
theorem inC1 : ∀ w ∈ u_ws RC1 TC1 4, w ∈ wAll := fun w h => wa (inC1_0 w h) (List.all_eq_true.mp inC1_1 w h)
def RC2 : String := "MemberChoice$Members"
def TC2 : u_T := fun k => match k with
  | 0 => ("MemberChoice$Members", "types", "LMemberChoice$Types;", true)
  | 1 => ("MemberChoice$Members", "owners", "[I", true)
  | 2 => ("MemberChoice$Members", "names", "[I", true)
  | 3 => ("MemberChoice$Members", "marks", "[I", true)
  | 4 => ("MemberChoice$Members", "results", "[I", true)
  | 5 => ("MemberChoice$Members", "widths", "[I", true)
  | 6 => ("MemberChoice$Members", "parameters", "[I", true)
  | 7 => ("MemberChoice$Members", "functions", "[I", true)
  | 8 => ("MemberChoice$Members", "functionsSettled", "Z", false)
  | _ => ("MemberChoice$Members", "size", "I", false)
def tyC2 : Nat → FieldType := fun k => match k with
  | 0 => .object "MemberChoice$Types"
  | 1 => .array .int
  | 2 => .array .int
  | 3 => .array .int
  | 4 => .array .int
  | 5 => .array .int
  | 6 => .array .int
  | 7 => .array .int
  | 8 => .boolean
  | _ => .int
theorem tyC2_ok : ∀ k, k < 10 → parseFieldDescriptor (TC2 k).2.2.1 = some (tyC2 k) := by decide +kernel
theorem nnC2 : ∀ a, a < 10 → ∀ b, b < 10 → a ≠ b → (TC2 a).2.1 ≠ (TC2 b).2.1 := by decide +kernel
theorem inC2_0 : ∀ w ∈ u_ws RC2 TC2 10, w ∈ lw_tbl := by decide +kernel
theorem inC2_1 : (u_ws RC2 TC2 10).all goodWord = true := by decide +kernel
theorem inC2 : ∀ w ∈ u_ws RC2 TC2 10, w ∈ wAll := fun w h => wa (inC2_0 w h) (List.all_eq_true.mp inC2_1 w h)
def RC3 : String := "MemberChoice$Arguments"
def TC3 : u_T := fun k => match k with
  | 0 => ("MemberChoice$Arguments", "lambdas", "[Z", true)
  | 1 => ("MemberChoice$Arguments", "toldOnes", "[Z", true)
  | 2 => ("MemberChoice$Arguments", "values", "[I", true)
  | 3 => ("MemberChoice$Arguments", "widths", "[I", true)
  | 4 => ("MemberChoice$Arguments", "parameters", "[I", true)
  | _ => ("MemberChoice$Arguments", "size", "I", false)
def tyC3 : Nat → FieldType := fun k => match k with
  | 0 => .array .boolean
  | 1 => .array .boolean
  | 2 => .array .int
  | 3 => .array .int
  | 4 => .array .int
  | _ => .int
theorem tyC3_ok : ∀ k, k < 6 → parseFieldDescriptor (TC3 k).2.2.1 = some (tyC3 k) := by decide +kernel
theorem nnC3 : ∀ a, a < 6 → ∀ b, b < 6 → a ≠ b → (TC3 a).2.1 ≠ (TC3 b).2.1 := by decide +kernel
theorem inC3_0 : ∀ w ∈ u_ws RC3 TC3 6, w ∈ lw_tbl := by decide +kernel
theorem inC3_1 : (u_ws RC3 TC3 6).all goodWord = true := by decide +kernel
theorem inC3 : ∀ w ∈ u_ws RC3 TC3 6, w ∈ wAll := fun w h => wa (inC3_0 w h) (List.all_eq_true.mp inC3_1 w h)
def RC4 : String := "MemberChoice$Choice"
def TC4 : u_T := fun k => match k with
  | 0 => ("MemberChoice$Choice", "types", "LMemberChoice$Types;", true)
  | 1 => ("MemberChoice$Choice", "members", "LMemberChoice$Members;", true)
  | 2 => ("MemberChoice$Choice", "arguments", "LMemberChoice$Arguments;", true)
  | 3 => ("MemberChoice$Choice", "candidates", "[I", true)
  | 4 => ("MemberChoice$Choice", "applying", "[I", true)
  | 5 => ("MemberChoice$Choice", "asSpecial", "[J", true)
  | 6 => ("MemberChoice$Choice", "candidateCount", "I", false)
  | 7 => ("MemberChoice$Choice", "applyingCount", "I", false)
  | 8 => ("MemberChoice$Choice", "applyingBits", "J", false)
  | _ => ("MemberChoice$Choice", "reached", "I", false)
def tyC4 : Nat → FieldType := fun k => match k with
  | 0 => .object "MemberChoice$Types"
  | 1 => .object "MemberChoice$Members"
  | 2 => .object "MemberChoice$Arguments"
  | 3 => .array .int
  | 4 => .array .int
  | 5 => .array .long
  | 6 => .int
  | 7 => .int
  | 8 => .long
  | _ => .int
theorem tyC4_ok : ∀ k, k < 10 → parseFieldDescriptor (TC4 k).2.2.1 = some (tyC4 k) := by decide +kernel
theorem nnC4 : ∀ a, a < 10 → ∀ b, b < 10 → a ≠ b → (TC4 a).2.1 ≠ (TC4 b).2.1 := by decide +kernel
theorem inC4_0 : ∀ w ∈ u_ws RC4 TC4 10, w ∈ lw_tbl := by decide +kernel
theorem inC4_1 : (u_ws RC4 TC4 10).all goodWord = true := by decide +kernel
theorem inC4 : ∀ w ∈ u_ws RC4 TC4 10, w ∈ wAll := fun w h => wa (inC4_0 w h) (List.all_eq_true.mp inC4_1 w h)
def RCM : String := "MemberChoiceModel"
def TCM : u_T := fun k => match k with
  | 0 => ("MemberChoiceModel", "types", "I", false)
  | 1 => ("MemberChoiceModel", "isFace", "[Z", true)
  | 2 => ("MemberChoiceModel", "parents", "[I", true)
  | 3 => ("MemberChoiceModel", "aboveCounts", "[I", true)
  | 4 => ("MemberChoiceModel", "above", "[I", true)
  | 5 => ("MemberChoiceModel", "isOne", "[Z", true)
  | 6 => ("MemberChoiceModel", "members", "I", false)
  | 7 => ("MemberChoiceModel", "owners", "[I", true)
  | 8 => ("MemberChoiceModel", "names", "[I", true)
  | 9 => ("MemberChoiceModel", "marks", "[I", true)
  | 10 => ("MemberChoiceModel", "results", "[I", true)
  | 11 => ("MemberChoiceModel", "counts", "[I", true)
  | 12 => ("MemberChoiceModel", "params", "[I", true)
  | 13 => ("MemberChoiceModel", "arguments", "I", false)
  | 14 => ("MemberChoiceModel", "argTypes", "[I", true)
  | 15 => ("MemberChoiceModel", "lambdas", "[I", true)
  | 16 => ("MemberChoiceModel", "lambdaCounts", "[I", true)
  | 17 => ("MemberChoiceModel", "lambdaParams", "[I", true)
  | 18 => ("MemberChoiceModel", "lambdaResults", "[I", true)
  | 19 => ("MemberChoiceModel", "phase", "I", false)
  | 20 => ("MemberChoiceModel", "applies", "[Z", true)
  | 21 => ("MemberChoiceModel", "specials", "[Z", true)
  | _ => ("MemberChoiceModel", "functions", "[I", true)
def tyCM : Nat → FieldType := fun k => match k with
  | 0 => .int
  | 1 => .array .boolean
  | 2 => .array .int
  | 3 => .array .int
  | 4 => .array .int
  | 5 => .array .boolean
  | 6 => .int
  | 7 => .array .int
  | 8 => .array .int
  | 9 => .array .int
  | 10 => .array .int
  | 11 => .array .int
  | 12 => .array .int
  | 13 => .int
  | 14 => .array .int
  | 15 => .array .int
  | 16 => .array .int
  | 17 => .array .int
  | 18 => .array .int
  | 19 => .int
  | 20 => .array .boolean
  | 21 => .array .boolean
  | _ => .array .int
theorem tyCM_ok : ∀ k, k < 23 → parseFieldDescriptor (TCM k).2.2.1 = some (tyCM k) := by decide +kernel
theorem nnCM : ∀ a, a < 23 → ∀ b, b < 23 → a ≠ b → (TCM a).2.1 ≠ (TCM b).2.1 := by decide +kernel
theorem inCM_0 : ∀ w ∈ u_ws RCM TCM 23, w ∈ lw_tbl := by decide +kernel
theorem inCM_1 : (u_ws RCM TCM 23).all goodWord = true := by decide +kernel
theorem inCM : ∀ w ∈ u_ws RCM TCM 23, w ∈ wAll := fun w h => wa (inCM_0 w h) (List.all_eq_true.mp inCM_1 w h)
def RJI : String := "java/lang/Integer"
def RCL : String := "MemberChoiceLaw"
def RJA : String := "java/util/Arrays"
abbrev vwC : List vw_C := [(RC0, TC0, 5), (RC1, TC1, 4), (RC2, TC2, 10), (RC3, TC3, 6), (RC4, TC4, 10), (RCM, TCM, 23)]
abbrev cC1_add : ByteArray := prog_5_method_13_code
def yC1_add : MethodName := ⟨RC1, "add", "(IZ)I"⟩
def wsC1_add : List Cond := .code yC1_add cC1_add 4 (some .int) :: wAll
abbrev cC1_isTold : ByteArray := prog_5_method_3_code
def yC1_isTold : MethodName := ⟨RC1, "isTold", "(I)Z"⟩
def wsC1_isTold : List Cond := .code yC1_isTold cC1_isTold 2 (some .boolean) :: wAll
abbrev cC1_isInterface : ByteArray := prog_5_method_4_code
def yC1_isInterface : MethodName := ⟨RC1, "isInterface", "(I)Z"⟩
def wsC1_isInterface : List Cond := .code yC1_isInterface cC1_isInterface 2 (some .boolean) :: wAll
abbrev cC0_cls : ByteArray := prog_1_method_2_code
def yC0_cls : MethodName := ⟨RC0, "cls", "(I)I"⟩
def wsC0_cls : List Cond := .code yC0_cls cC0_cls 3 (some .int) :: wAll
abbrev cC0_face : ByteArray := prog_1_method_3_code
def yC0_face : MethodName := ⟨RC0, "face", "()I"⟩
def wsC0_face : List Cond := .code yC0_face cC0_face 1 (some .int) :: wAll
abbrev cJI_bitCount : ByteArray := prog_9_method_49_code
def yJI_bitCount : MethodName := ⟨RJI, "bitCount", "(I)I"⟩
def wsJI_bitCount : List Cond := .code yJI_bitCount cJI_bitCount 1 (some .int) :: wAll
abbrev cC1_isA : ByteArray := prog_5_method_15_code
def yC1_isA : MethodName := ⟨RC1, "isA", "(II)Z"⟩
def wsC1_isA : List Cond := .code yC1_isA cC1_isA 6 (some .boolean) :: wAll
abbrev cC1_putBelow : ByteArray := prog_5_method_14_code
def yC1_putBelow : MethodName := ⟨RC1, "putBelow", "(II)I"⟩
def wsC1_putBelow : List Cond := .code yC1_putBelow cC1_putBelow 7 (some .int) :: wAll
abbrev cC2_forgetFunctions : ByteArray := prog_4_method_25_code
def yC2_forgetFunctions : MethodName := ⟨RC2, "forgetFunctions", "()V"⟩
def wsC2_forgetFunctions : List Cond := .code yC2_forgetFunctions cC2_forgetFunctions 1 none :: wAll
abbrev cC0_below : ByteArray := prog_1_method_4_code
def yC0_below : MethodName := ⟨RC0, "below", "(II)I"⟩
def wsC0_below : List Cond := .code yC0_below cC0_below 4 (some .int) :: wAll
abbrev cC2_draftHead : ByteArray := prog_4_method_3_code
def yC2_draftHead : MethodName := ⟨RC2, "draftHead", "(IIII)V"⟩
def wsC2_draftHead : List Cond := .code yC2_draftHead cC2_draftHead 5 none :: wAll
abbrev cC2_draftParameters : ByteArray := prog_4_method_4_code
def yC2_draftParameters : MethodName := ⟨RC2, "draftParameters", "(IIIII)V"⟩
def wsC2_draftParameters : List Cond := .code yC2_draftParameters cC2_draftParameters 7 none :: wAll
abbrev cC2_isAbstract : ByteArray := prog_4_method_12_code
def yC2_isAbstract : MethodName := ⟨RC2, "isAbstract", "(I)Z"⟩
def wsC2_isAbstract : List Cond := .code yC2_isAbstract cC2_isAbstract 2 (some .boolean) :: wAll
abbrev cC2_isStatic : ByteArray := prog_4_method_10_code
def yC2_isStatic : MethodName := ⟨RC2, "isStatic", "(I)Z"⟩
def wsC2_isStatic : List Cond := .code yC2_isStatic cC2_isStatic 2 (some .boolean) :: wAll
abbrev cC2_isPrivate : ByteArray := prog_4_method_11_code
def yC2_isPrivate : MethodName := ⟨RC2, "isPrivate", "(I)Z"⟩
def wsC2_isPrivate : List Cond := .code yC2_isPrivate cC2_isPrivate 2 (some .boolean) :: wAll
abbrev cC2_hasGoodMarks : ByteArray := prog_4_method_7_code
def yC2_hasGoodMarks : MethodName := ⟨RC2, "hasGoodMarks", "(I)Z"⟩
def wsC2_hasGoodMarks : List Cond := .code yC2_hasGoodMarks cC2_hasGoodMarks 3 (some .boolean) :: wAll
abbrev cC1_isElement : ByteArray := prog_5_method_12_code
def yC1_isElement : MethodName := ⟨RC1, "isElement", "(I)Z"⟩
def wsC1_isElement : List Cond := .code yC1_isElement cC1_isElement 2 (some .boolean) :: wAll
abbrev cC1_isArray : ByteArray := prog_5_method_5_code
def yC1_isArray : MethodName := ⟨RC1, "isArray", "(I)Z"⟩
def wsC1_isArray : List Cond := .code yC1_isArray cC1_isArray 2 (some .boolean) :: wAll
abbrev cC1_canBeDeclared : ByteArray := prog_5_method_7_code
def yC1_canBeDeclared : MethodName := ⟨RC1, "canBeDeclared", "(I)Z"⟩
def wsC1_canBeDeclared : List Cond := .code yC1_canBeDeclared cC1_canBeDeclared 2 (some .boolean) :: wAll
abbrev cC1_canBeResult : ByteArray := prog_5_method_8_code
def yC1_canBeResult : MethodName := ⟨RC1, "canBeResult", "(I)Z"⟩
def wsC1_canBeResult : List Cond := .code yC1_canBeResult cC1_canBeResult 2 (some .boolean) :: wAll
abbrev cC2_hasGoodHead : ByteArray := prog_4_method_6_code
def yC2_hasGoodHead : MethodName := ⟨RC2, "hasGoodHead", "(I)Z"⟩
def wsC2_hasGoodHead : List Cond := .code yC2_hasGoodHead cC2_hasGoodHead 3 (some .boolean) :: wAll
abbrev cC2_isVaried : ByteArray := prog_4_method_13_code
def yC2_isVaried : MethodName := ⟨RC2, "isVaried", "(I)Z"⟩
def wsC2_isVaried : List Cond := .code yC2_isVaried cC2_isVaried 2 (some .boolean) :: wAll
abbrev cC2_parameterAt : ByteArray := prog_4_method_17_code
def yC2_parameterAt : MethodName := ⟨RC2, "parameterAt", "(II)I"⟩
def wsC2_parameterAt : List Cond := .code yC2_parameterAt cC2_parameterAt 3 (some .int) :: wAll
abbrev cC2_hasGoodParameters : ByteArray := prog_4_method_8_code
def yC2_hasGoodParameters : MethodName := ⟨RC2, "hasGoodParameters", "(I)Z"⟩
def wsC2_hasGoodParameters : List Cond := .code yC2_hasGoodParameters cC2_hasGoodParameters 3 (some .boolean) :: wAll
abbrev cC2_sameParameters : ByteArray := prog_4_method_20_code
def yC2_sameParameters : MethodName := ⟨RC2, "sameParameters", "(II)Z"⟩
def wsC2_sameParameters : List Cond := .code yC2_sameParameters cC2_sameParameters 4 (some .boolean) :: wAll
abbrev cC2_isToldTwice : ByteArray := prog_4_method_9_code
def yC2_isToldTwice : MethodName := ⟨RC2, "isToldTwice", "(I)Z"⟩
def wsC2_isToldTwice : List Cond := .code yC2_isToldTwice cC2_isToldTwice 3 (some .boolean) :: wAll
abbrev cC2_keepDraft : ByteArray := prog_4_method_5_code
def yC2_keepDraft : MethodName := ⟨RC2, "keepDraft", "()I"⟩
def wsC2_keepDraft : List Cond := .code yC2_keepDraft cC2_keepDraft 1 (some .int) :: wAll
abbrev cC0_member : ByteArray := prog_1_method_5_code
def yC0_member : MethodName := ⟨RC0, "member", "(IIIIIIIII)I"⟩
def wsC0_member : List Cond := .code yC0_member cC0_member 10 (some .int) :: wAll
abbrev cC1_isType : ByteArray := prog_5_method_6_code
def yC1_isType : MethodName := ⟨RC1, "isType", "(I)Z"⟩
def wsC1_isType : List Cond := .code yC1_isType cC1_isType 2 (some .boolean) :: wAll
abbrev cC1_isPrimitive : ByteArray := prog_5_method_9_code
def yC1_isPrimitive : MethodName := ⟨RC1, "isPrimitive", "(I)Z"⟩
def wsC1_isPrimitive : List Cond := .code yC1_isPrimitive cC1_isPrimitive 2 (some .boolean) :: wAll
abbrev cC1_accepts : ByteArray := prog_5_method_16_code
def yC1_accepts : MethodName := ⟨RC1, "accepts", "(IIZ)Z"⟩
def wsC1_accepts : List Cond := .code yC1_accepts cC1_accepts 5 (some .boolean) :: wAll
abbrev cC0_is : ByteArray := prog_1_method_6_code
def yC0_is : MethodName := ⟨RC0, "is", "(II)I"⟩
def wsC0_is : List Cond := .code yC0_is cC0_is 3 (some .int) :: wAll
abbrev cC0_fits : ByteArray := prog_1_method_7_code
def yC0_fits : MethodName := ⟨RC0, "fits", "(II)I"⟩
def wsC0_fits : List Cond := .code yC0_fits cC0_fits 3 (some .int) :: wAll
abbrev cC1_size : ByteArray := prog_5_method_2_code
def yC1_size : MethodName := ⟨RC1, "size", "()I"⟩
def wsC1_size : List Cond := .code yC1_size cC1_size 1 (some .int) :: wAll
abbrev cC2_overrides : ByteArray := prog_4_method_24_code
def yC2_overrides : MethodName := ⟨RC2, "overrides", "(II)Z"⟩
def wsC2_overrides : List Cond := .code yC2_overrides cC2_overrides 4 (some .boolean) :: wAll
abbrev cC2_isOverridden : ByteArray := prog_4_method_23_code
def yC2_isOverridden : MethodName := ⟨RC2, "isOverridden", "(II)Z"⟩
def wsC2_isOverridden : List Cond := .code yC2_isOverridden cC2_isOverridden 4 (some .boolean) :: wAll
abbrev cC2_isSeen : ByteArray := prog_4_method_22_code
def yC2_isSeen : MethodName := ⟨RC2, "isSeen", "(III)Z"⟩
def wsC2_isSeen : List Cond := .code yC2_isSeen cC2_isSeen 4 (some .boolean) :: wAll
abbrev cC2_findFunction : ByteArray := prog_4_method_27_code
def yC2_findFunction : MethodName := ⟨RC2, "findFunction", "(I)I"⟩
def wsC2_findFunction : List Cond := .code yC2_findFunction cC2_findFunction 4 (some .int) :: wAll
abbrev cC2_settleFunctions : ByteArray := prog_4_method_26_code
def yC2_settleFunctions : MethodName := ⟨RC2, "settleFunctions", "()V"⟩
def wsC2_settleFunctions : List Cond := .code yC2_settleFunctions cC2_settleFunctions 3 none :: wAll
abbrev cC2_functionOf : ByteArray := prog_4_method_28_code
def yC2_functionOf : MethodName := ⟨RC2, "functionOf", "(I)I"⟩
def wsC2_functionOf : List Cond := .code yC2_functionOf cC2_functionOf 2 (some .int) :: wAll
abbrev cC0_function : ByteArray := prog_1_method_8_code
def yC0_function : MethodName := ⟨RC0, "function", "(I)I"⟩
def wsC0_function : List Cond := .code yC0_function cC0_function 2 (some .int) :: wAll
abbrev cC0_canBeAsked : ByteArray := prog_1_method_19_code
def yC0_canBeAsked : MethodName := ⟨RC0, "canBeAsked", "(III)Z"⟩
def wsC0_canBeAsked : List Cond := .code yC0_canBeAsked cC0_canBeAsked 4 (some .boolean) :: wAll
abbrev cC2_listSeen : ByteArray := prog_4_method_21_code
def yC2_listSeen : MethodName := ⟨RC2, "listSeen", "(III[I)I"⟩
def wsC2_listSeen : List Cond := .code yC2_listSeen cC2_listSeen 7 (some .int) :: wAll
abbrev cC0_seen : ByteArray := prog_1_method_9_code
def yC0_seen : MethodName := ⟨RC0, "seen", "(III)I"⟩
def wsC0_seen : List Cond := .code yC0_seen cC0_seen 4 (some .int) :: wAll
abbrev cC0_seenAt : ByteArray := prog_1_method_10_code
def yC0_seenAt : MethodName := ⟨RC0, "seenAt", "(IIII)I"⟩
def wsC0_seenAt : List Cond := .code yC0_seenAt cC0_seenAt 6 (some .int) :: wAll
abbrev cC3_addType : ByteArray := prog_2_method_3_code
def yC3_addType : MethodName := ⟨RC3, "addType", "(I)I"⟩
def wsC3_addType : List Cond := .code yC3_addType cC3_addType 2 (some .int) :: wAll
abbrev cC0_argument : ByteArray := prog_1_method_11_code
def yC0_argument : MethodName := ⟨RC0, "argument", "(I)I"⟩
def wsC0_argument : List Cond := .code yC0_argument cC0_argument 2 (some .int) :: wAll
abbrev cC3_addLambda : ByteArray := prog_2_method_4_code
def yC3_addLambda : MethodName := ⟨RC3, "addLambda", "(IZIII)I"⟩
def wsC3_addLambda : List Cond := .code yC3_addLambda cC3_addLambda 6 (some .int) :: wAll
abbrev cC0_lambda : ByteArray := prog_1_method_12_code
def yC0_lambda : MethodName := ⟨RC0, "lambda", "(IIIII)I"⟩
def wsC0_lambda : List Cond := .code yC0_lambda cC0_lambda 8 (some .int) :: wAll
abbrev cC3_clear : ByteArray := prog_2_method_5_code
def yC3_clear : MethodName := ⟨RC3, "clear", "()I"⟩
def wsC3_clear : List Cond := .code yC3_clear cC3_clear 2 (some .int) :: wAll
abbrev cC0_wipe : ByteArray := prog_1_method_13_code
def yC0_wipe : MethodName := ⟨RC0, "wipe", "()I"⟩
def wsC0_wipe : List Cond := .code yC0_wipe cC0_wipe 1 (some .int) :: wAll
abbrev cC4_forget : ByteArray := prog_3_method_7_code
def yC4_forget : MethodName := ⟨RC4, "forget", "()V"⟩
def wsC4_forget : List Cond := .code yC4_forget cC4_forget 1 none :: wAll
abbrev cC2_widthOf : ByteArray := prog_4_method_16_code
def yC2_widthOf : MethodName := ⟨RC2, "widthOf", "(I)I"⟩
def wsC2_widthOf : List Cond := .code yC2_widthOf cC2_widthOf 2 (some .int) :: wAll
abbrev cC3_size : ByteArray := prog_2_method_2_code
def yC3_size : MethodName := ⟨RC3, "size", "()I"⟩
def wsC3_size : List Cond := .code yC3_size cC3_size 1 (some .int) :: wAll
abbrev cC3_isLambda : ByteArray := prog_2_method_6_code
def yC3_isLambda : MethodName := ⟨RC3, "isLambda", "(I)Z"⟩
def wsC3_isLambda : List Cond := .code yC3_isLambda cC3_isLambda 2 (some .boolean) :: wAll
abbrev cC1_elementOf : ByteArray := prog_5_method_11_code
def yC1_elementOf : MethodName := ⟨RC1, "elementOf", "(I)I"⟩
def wsC1_elementOf : List Cond := .code yC1_elementOf cC1_elementOf 2 (some .int) :: wAll
abbrev cC2_facing : ByteArray := prog_4_method_18_code
def yC2_facing : MethodName := ⟨RC2, "facing", "(IIZ)I"⟩
def wsC2_facing : List Cond := .code yC2_facing cC2_facing 5 (some .int) :: wAll
abbrev cC3_widthOf : ByteArray := prog_2_method_10_code
def yC3_widthOf : MethodName := ⟨RC3, "widthOf", "(I)I"⟩
def wsC3_widthOf : List Cond := .code yC3_widthOf cC3_widthOf 2 (some .int) :: wAll
abbrev cC2_hasResult : ByteArray := prog_4_method_14_code
def yC2_hasResult : MethodName := ⟨RC2, "hasResult", "(I)Z"⟩
def wsC2_hasResult : List Cond := .code yC2_hasResult cC2_hasResult 2 (some .boolean) :: wAll
abbrev cC3_hasResult : ByteArray := prog_2_method_9_code
def yC3_hasResult : MethodName := ⟨RC3, "hasResult", "(I)Z"⟩
def wsC3_hasResult : List Cond := .code yC3_hasResult cC3_hasResult 2 (some .boolean) :: wAll
abbrev cC4_hasShape : ByteArray := prog_3_method_13_code
def yC4_hasShape : MethodName := ⟨RC4, "hasShape", "(II)Z"⟩
def wsC4_hasShape : List Cond := .code yC4_hasShape cC4_hasShape 4 (some .boolean) :: wAll
abbrev cC4_couldBeMeant : ByteArray := prog_3_method_12_code
def yC4_couldBeMeant : MethodName := ⟨RC4, "couldBeMeant", "(I)Z"⟩
def wsC4_couldBeMeant : List Cond := .code yC4_couldBeMeant cC4_couldBeMeant 5 (some .boolean) :: wAll
abbrev cC4_keepMeant : ByteArray := prog_3_method_8_code
def yC4_keepMeant : MethodName := ⟨RC4, "keepMeant", "()V"⟩
def wsC4_keepMeant : List Cond := .code yC4_keepMeant cC4_keepMeant 3 none :: wAll
abbrev cC2_spreadType : ByteArray := prog_4_method_19_code
def yC2_spreadType : MethodName := ⟨RC2, "spreadType", "(I)I"⟩
def wsC2_spreadType : List Cond := .code yC2_spreadType cC2_spreadType 2 (some .int) :: wAll
abbrev cC3_isToldLambda : ByteArray := prog_2_method_7_code
def yC3_isToldLambda : MethodName := ⟨RC3, "isToldLambda", "(I)Z"⟩
def wsC3_isToldLambda : List Cond := .code yC3_isToldLambda cC3_isToldLambda 2 (some .boolean) :: wAll
abbrev cC3_valueOf : ByteArray := prog_2_method_8_code
def yC3_valueOf : MethodName := ⟨RC3, "valueOf", "(I)I"⟩
def wsC3_valueOf : List Cond := .code yC3_valueOf cC3_valueOf 2 (some .int) :: wAll
abbrev cC2_resultOf : ByteArray := prog_4_method_15_code
def yC2_resultOf : MethodName := ⟨RC2, "resultOf", "(I)I"⟩
def wsC2_resultOf : List Cond := .code yC2_resultOf cC2_resultOf 2 (some .int) :: wAll
abbrev cC1_isReference : ByteArray := prog_5_method_10_code
def yC1_isReference : MethodName := ⟨RC1, "isReference", "(I)Z"⟩
def wsC1_isReference : List Cond := .code yC1_isReference cC1_isReference 2 (some .boolean) :: wAll
abbrev cC4_isFinerResult : ByteArray := prog_3_method_19_code
def yC4_isFinerResult : MethodName := ⟨RC4, "isFinerResult", "(III)Z"⟩
def wsC4_isFinerResult : List Cond := .code yC4_isFinerResult cC4_isFinerResult 6 (some .boolean) :: wAll
abbrev cC4_isFinerFunction : ByteArray := prog_3_method_18_code
def yC4_isFinerFunction : MethodName := ⟨RC4, "isFinerFunction", "(III)Z"⟩
def wsC4_isFinerFunction : List Cond := .code yC4_isFinerFunction cC4_isFinerFunction 6 (some .boolean) :: wAll
abbrev cC4_isAsSpecialAs : ByteArray := prog_3_method_17_code
def yC4_isAsSpecialAs : MethodName := ⟨RC4, "isAsSpecialAs", "(II)Z"⟩
def wsC4_isAsSpecialAs : List Cond := .code yC4_isAsSpecialAs cC4_isAsSpecialAs 7 (some .boolean) :: wAll
abbrev cC4_compareAll : ByteArray := prog_3_method_10_code
def yC4_compareAll : MethodName := ⟨RC4, "compareAll", "()V"⟩
def wsC4_compareAll : List Cond := .code yC4_compareAll cC4_compareAll 4 none :: wAll
abbrev cC4_pick : ByteArray := prog_3_method_11_code
def yC4_pick : MethodName := ⟨RC4, "pick", "()I"⟩
def wsC4_pick : List Cond := .code yC4_pick cC4_pick 6 (some .int) :: wAll
abbrev cC3_parameterAt : ByteArray := prog_2_method_11_code
def yC3_parameterAt : MethodName := ⟨RC3, "parameterAt", "(II)I"⟩
def wsC3_parameterAt : List Cond := .code yC3_parameterAt cC3_parameterAt 3 (some .int) :: wAll
abbrev cC4_takesTold : ByteArray := prog_3_method_16_code
def yC4_takesTold : MethodName := ⟨RC4, "takesTold", "(IIZ)Z"⟩
def wsC4_takesTold : List Cond := .code yC4_takesTold cC4_takesTold 5 (some .boolean) :: wAll
abbrev cC4_takes : ByteArray := prog_3_method_15_code
def yC4_takes : MethodName := ⟨RC4, "takes", "(IIZ)Z"⟩
def wsC4_takes : List Cond := .code yC4_takes cC4_takes 4 (some .boolean) :: wAll
abbrev cC4_applies : ByteArray := prog_3_method_14_code
def yC4_applies : MethodName := ⟨RC4, "applies", "(II)Z"⟩
def wsC4_applies : List Cond := .code yC4_applies cC4_applies 5 (some .boolean) :: wAll
abbrev cC4_findApplying : ByteArray := prog_3_method_9_code
def yC4_findApplying : MethodName := ⟨RC4, "findApplying", "(I)V"⟩
def wsC4_findApplying : List Cond := .code yC4_findApplying cC4_findApplying 4 none :: wAll
abbrev cC4_decide : ByteArray := prog_3_method_6_code
def yC4_decide : MethodName := ⟨RC4, "decide", "(III)I"⟩
def wsC4_decide : List Cond := .code yC4_decide cC4_decide 5 (some .int) :: wAll
abbrev cC0_choose : ByteArray := prog_1_method_14_code
def yC0_choose : MethodName := ⟨RC0, "choose", "(IIII)I"⟩
def wsC0_choose : List Cond := .code yC0_choose cC0_choose 6 (some .int) :: wAll
abbrev cC4_phaseReached : ByteArray := prog_3_method_2_code
def yC4_phaseReached : MethodName := ⟨RC4, "phaseReached", "()I"⟩
def wsC4_phaseReached : List Cond := .code yC4_phaseReached cC4_phaseReached 1 (some .int) :: wAll
abbrev cC0_phase : ByteArray := prog_1_method_15_code
def yC0_phase : MethodName := ⟨RC0, "phase", "()I"⟩
def wsC0_phase : List Cond := .code yC0_phase cC0_phase 1 (some .int) :: wAll
abbrev cC4_applyingAt : ByteArray := prog_3_method_3_code
def yC4_applyingAt : MethodName := ⟨RC4, "applyingAt", "(I)I"⟩
def wsC4_applyingAt : List Cond := .code yC4_applyingAt cC4_applyingAt 2 (some .int) :: wAll
abbrev cC0_applied : ByteArray := prog_1_method_16_code
def yC0_applied : MethodName := ⟨RC0, "applied", "(I)I"⟩
def wsC0_applied : List Cond := .code yC0_applied cC0_applied 2 (some .int) :: wAll
abbrev cC4_didApply : ByteArray := prog_3_method_5_code
def yC4_didApply : MethodName := ⟨RC4, "didApply", "(I)Z"⟩
def wsC4_didApply : List Cond := .code yC4_didApply cC4_didApply 2 (some .boolean) :: wAll
abbrev cC4_compared : ByteArray := prog_3_method_4_code
def yC4_compared : MethodName := ⟨RC4, "compared", "(II)I"⟩
def wsC4_compared : List Cond := .code yC4_compared cC4_compared 3 (some .int) :: wAll
abbrev cC0_special : ByteArray := prog_1_method_17_code
def yC0_special : MethodName := ⟨RC0, "special", "(II)I"⟩
def wsC0_special : List Cond := .code yC0_special cC0_special 3 (some .int) :: wAll
abbrev cC2_size : ByteArray := prog_4_method_2_code
def yC2_size : MethodName := ⟨RC2, "size", "()I"⟩
def wsC2_size : List Cond := .code yC2_size cC2_size 1 (some .int) :: wAll
abbrev cC0_count : ByteArray := prog_1_method_18_code
def yC0_count : MethodName := ⟨RC0, "count", "(I)I"⟩
def wsC0_count : List Cond := .code yC0_count cC0_count 2 (some .int) :: wAll
abbrev cCM_forgetFunctions : ByteArray := prog_7_method_22_code
def yCM_forgetFunctions : MethodName := ⟨RCM, "forgetFunctions", "()V"⟩
def wsCM_forgetFunctions : List Cond := .code yCM_forgetFunctions cCM_forgetFunctions 2 none :: wAll
abbrev cCM_closeTypes : ByteArray := prog_7_method_7_code
def yCM_closeTypes : MethodName := ⟨RCM, "closeTypes", "()V"⟩
def wsCM_closeTypes : List Cond := .code yCM_closeTypes cCM_closeTypes 5 none :: wAll
abbrev cCM_isTold : ByteArray := prog_7_method_2_code
def yCM_isTold : MethodName := ⟨RCM, "isTold", "(I)Z"⟩
def wsCM_isTold : List Cond := .code yCM_isTold cCM_isTold 2 (some .boolean) :: wAll
abbrev cCM_cls : ByteArray := prog_7_method_11_code
def yCM_cls : MethodName := ⟨RCM, "cls", "(I)I"⟩
def wsCM_cls : List Cond := .code yCM_cls cCM_cls 2 (some .int) :: wAll
abbrev cCM_face : ByteArray := prog_7_method_12_code
def yCM_face : MethodName := ⟨RCM, "face", "()I"⟩
def wsCM_face : List Cond := .code yCM_face cCM_face 1 (some .int) :: wAll
abbrev cCM_below : ByteArray := prog_7_method_13_code
def yCM_below : MethodName := ⟨RCM, "below", "(II)I"⟩
def wsCM_below : List Cond := .code yCM_below cCM_below 6 (some .int) :: wAll
abbrev cCM_isPlain : ByteArray := prog_7_method_3_code
def yCM_isPlain : MethodName := ⟨RCM, "isPlain", "(I)Z"⟩
def wsCM_isPlain : List Cond := .code yCM_isPlain cCM_isPlain 2 (some .boolean) :: wAll
abbrev cCM_isType : ByteArray := prog_7_method_4_code
def yCM_isType : MethodName := ⟨RCM, "isType", "(I)Z"⟩
def wsCM_isType : List Cond := .code yCM_isType cCM_isType 2 (some .boolean) :: wAll
abbrev cCM_isPrimitive : ByteArray := prog_7_method_5_code
def yCM_isPrimitive : MethodName := ⟨RCM, "isPrimitive", "(I)Z"⟩
def wsCM_isPrimitive : List Cond := .code yCM_isPrimitive cCM_isPrimitive 1 (some .boolean) :: wAll
abbrev cCM_plainIs : ByteArray := prog_7_method_8_code
def yCM_plainIs : MethodName := ⟨RCM, "plainIs", "(II)Z"⟩
def wsCM_plainIs : List Cond := .code yCM_plainIs cCM_plainIs 3 (some .boolean) :: wAll
abbrev cCM_isIt : ByteArray := prog_7_method_9_code
def yCM_isIt : MethodName := ⟨RCM, "isIt", "(II)Z"⟩
def wsCM_isIt : List Cond := .code yCM_isIt cCM_isIt 3 (some .boolean) :: wAll
abbrev cCM_is : ByteArray := prog_7_method_14_code
def yCM_is : MethodName := ⟨RCM, "is", "(II)I"⟩
def wsCM_is : List Cond := .code yCM_is cCM_is 3 (some .int) :: wAll
abbrev cCM_isBox : ByteArray := prog_7_method_6_code
def yCM_isBox : MethodName := ⟨RCM, "isBox", "(I)Z"⟩
def wsCM_isBox : List Cond := .code yCM_isBox cCM_isBox 1 (some .boolean) :: wAll
abbrev cCM_fitsIt : ByteArray := prog_7_method_10_code
def yCM_fitsIt : MethodName := ⟨RCM, "fitsIt", "(II)Z"⟩
def wsCM_fitsIt : List Cond := .code yCM_fitsIt cCM_fitsIt 3 (some .boolean) :: wAll
abbrev cCM_fits : ByteArray := prog_7_method_15_code
def yCM_fits : MethodName := ⟨RCM, "fits", "(II)I"⟩
def wsCM_fits : List Cond := .code yCM_fits cCM_fits 3 (some .int) :: wAll
abbrev cCM_parameter : ByteArray := prog_7_method_18_code
def yCM_parameter : MethodName := ⟨RCM, "parameter", "(IIIII)I"⟩
def wsCM_parameter : List Cond := .code yCM_parameter cCM_parameter 5 (some .int) :: wAll
abbrev cCM_isValue : ByteArray := prog_7_method_30_code
def yCM_isValue : MethodName := ⟨RCM, "isValue", "(I)Z"⟩
def wsCM_isValue : List Cond := .code yCM_isValue cCM_isValue 2 (some .boolean) :: wAll
abbrev cCM_isName : ByteArray := prog_7_method_16_code
def yCM_isName : MethodName := ⟨RCM, "isName", "(I)Z"⟩
def wsCM_isName : List Cond := .code yCM_isName cCM_isName 1 (some .boolean) :: wAll
abbrev cCM_member : ByteArray := prog_7_method_17_code
def yCM_member : MethodName := ⟨RCM, "member", "(IIIIIIIII)I"⟩
def wsCM_member : List Cond := .code yCM_member cCM_member 15 (some .int) :: wAll
abbrev cCM_has : ByteArray := prog_7_method_20_code
def yCM_has : MethodName := ⟨RCM, "has", "(II)Z"⟩
def wsCM_has : List Cond := .code yCM_has cCM_has 3 (some .boolean) :: wAll
abbrev cCM_sameParams : ByteArray := prog_7_method_19_code
def yCM_sameParams : MethodName := ⟨RCM, "sameParams", "(II)Z"⟩
def wsCM_sameParams : List Cond := .code yCM_sameParams cCM_sameParams 5 (some .boolean) :: wAll
abbrev cCM_isSeen : ByteArray := prog_7_method_21_code
def yCM_isSeen : MethodName := ⟨RCM, "isSeen", "(III)Z"⟩
def wsCM_isSeen : List Cond := .code yCM_isSeen cCM_isSeen 6 (some .boolean) :: wAll
abbrev cCM_findFunction : ByteArray := prog_7_method_24_code
def yCM_findFunction : MethodName := ⟨RCM, "findFunction", "(I)I"⟩
def wsCM_findFunction : List Cond := .code yCM_findFunction cCM_findFunction 4 (some .int) :: wAll
abbrev cCM_functionOf : ByteArray := prog_7_method_23_code
def yCM_functionOf : MethodName := ⟨RCM, "functionOf", "(I)I"⟩
def wsCM_functionOf : List Cond := .code yCM_functionOf cCM_functionOf 2 (some .int) :: wAll
abbrev cCM_function : ByteArray := prog_7_method_25_code
def yCM_function : MethodName := ⟨RCM, "function", "(I)I"⟩
def wsCM_function : List Cond := .code yCM_function cCM_function 2 (some .int) :: wAll
abbrev cCM_isAsked : ByteArray := prog_7_method_26_code
def yCM_isAsked : MethodName := ⟨RCM, "isAsked", "(III)Z"⟩
def wsCM_isAsked : List Cond := .code yCM_isAsked cCM_isAsked 4 (some .boolean) :: wAll
abbrev cCM_seen : ByteArray := prog_7_method_27_code
def yCM_seen : MethodName := ⟨RCM, "seen", "(III)I"⟩
def wsCM_seen : List Cond := .code yCM_seen cCM_seen 6 (some .int) :: wAll
abbrev cCM_seenAt : ByteArray := prog_7_method_28_code
def yCM_seenAt : MethodName := ⟨RCM, "seenAt", "(IIII)I"⟩
def wsCM_seenAt : List Cond := .code yCM_seenAt cCM_seenAt 7 (some .int) :: wAll
abbrev cCM_argument : ByteArray := prog_7_method_29_code
def yCM_argument : MethodName := ⟨RCM, "argument", "(I)I"⟩
def wsCM_argument : List Cond := .code yCM_argument cCM_argument 2 (some .int) :: wAll
abbrev cCM_lambda : ByteArray := prog_7_method_31_code
def yCM_lambda : MethodName := ⟨RCM, "lambda", "(IIIII)I"⟩
def wsCM_lambda : List Cond := .code yCM_lambda cCM_lambda 6 (some .int) :: wAll
abbrev cCM_wipe : ByteArray := prog_7_method_32_code
def yCM_wipe : MethodName := ⟨RCM, "wipe", "()I"⟩
def wsCM_wipe : List Cond := .code yCM_wipe cCM_wipe 2 (some .int) :: wAll
abbrev cCM_mostSpecial : ByteArray := prog_7_method_42_code
def yCM_mostSpecial : MethodName := ⟨RCM, "mostSpecial", "()I"⟩
def wsCM_mostSpecial : List Cond := .code yCM_mostSpecial cCM_mostSpecial 9 (some .int) :: wAll
abbrev cCM_typeAt : ByteArray := prog_7_method_33_code
def yCM_typeAt : MethodName := ⟨RCM, "typeAt", "(IIZ)I"⟩
def wsCM_typeAt : List Cond := .code yCM_typeAt cCM_typeAt 5 (some .int) :: wAll
abbrev cCM_isFiner : ByteArray := prog_7_method_40_code
def yCM_isFiner : MethodName := ⟨RCM, "isFiner", "(III)Z"⟩
def wsCM_isFiner : List Cond := .code yCM_isFiner cCM_isFiner 9 (some .boolean) :: wAll
abbrev cCM_isSpecial : ByteArray := prog_7_method_39_code
def yCM_isSpecial : MethodName := ⟨RCM, "isSpecial", "(II)Z"⟩
def wsCM_isSpecial : List Cond := .code yCM_isSpecial cCM_isSpecial 7 (some .boolean) :: wAll
abbrev cCM_hasShape : ByteArray := prog_7_method_34_code
def yCM_hasShape : MethodName := ⟨RCM, "hasShape", "(II)Z"⟩
def wsCM_hasShape : List Cond := .code yCM_hasShape cCM_hasShape 4 (some .boolean) :: wAll
abbrev cCM_passes : ByteArray := prog_7_method_36_code
def yCM_passes : MethodName := ⟨RCM, "passes", "(III)Z"⟩
def wsCM_passes : List Cond := .code yCM_passes cCM_passes 4 (some .boolean) :: wAll
abbrev cCM_takes : ByteArray := prog_7_method_38_code
def yCM_takes : MethodName := ⟨RCM, "takes", "(III)Z"⟩
def wsCM_takes : List Cond := .code yCM_takes cCM_takes 7 (some .boolean) :: wAll
abbrev cCM_doesApply : ByteArray := prog_7_method_37_code
def yCM_doesApply : MethodName := ⟨RCM, "doesApply", "(II)Z"⟩
def wsCM_doesApply : List Cond := .code yCM_doesApply cCM_doesApply 5 (some .boolean) :: wAll
abbrev cCM_isMeant : ByteArray := prog_7_method_35_code
def yCM_isMeant : MethodName := ⟨RCM, "isMeant", "(I)Z"⟩
def wsCM_isMeant : List Cond := .code yCM_isMeant cCM_isMeant 5 (some .boolean) :: wAll
abbrev cCM_choose : ByteArray := prog_7_method_41_code
def yCM_choose : MethodName := ⟨RCM, "choose", "(IIII)I"⟩
def wsCM_choose : List Cond := .code yCM_choose cCM_choose 10 (some .int) :: wAll
abbrev cCM_phase : ByteArray := prog_7_method_43_code
def yCM_phase : MethodName := ⟨RCM, "phase", "()I"⟩
def wsCM_phase : List Cond := .code yCM_phase cCM_phase 1 (some .int) :: wAll
abbrev cCM_applied : ByteArray := prog_7_method_44_code
def yCM_applied : MethodName := ⟨RCM, "applied", "(I)I"⟩
def wsCM_applied : List Cond := .code yCM_applied cCM_applied 4 (some .int) :: wAll
abbrev cCM_special : ByteArray := prog_7_method_45_code
def yCM_special : MethodName := ⟨RCM, "special", "(II)I"⟩
def wsCM_special : List Cond := .code yCM_special cCM_special 4 (some .int) :: wAll
abbrev cCM_count : ByteArray := prog_7_method_46_code
def yCM_count : MethodName := ⟨RCM, "count", "(I)I"⟩
def wsCM_count : List Cond := .code yCM_count cCM_count 2 (some .int) :: wAll
theorem hdC1_add : yC1_add.cls = RC1 ∧ yC1_add.cls ≠ "java/lang/invoke/MethodHandle" ∧ yC1_add.cls ≠ "java/lang/invoke/VarHandle" ∧ (parseMethodDescriptor yC1_add.desc).map (fun d => d.parameters.length) = some 2 := by decide +kernel
theorem hdC1_isTold : yC1_isTold.cls = RC1 ∧ yC1_isTold.cls ≠ "java/lang/invoke/MethodHandle" ∧ yC1_isTold.cls ≠ "java/lang/invoke/VarHandle" ∧ (parseMethodDescriptor yC1_isTold.desc).map (fun d => d.parameters.length) = some 1 := by decide +kernel
theorem hdC1_isInterface : yC1_isInterface.cls = RC1 ∧ yC1_isInterface.cls ≠ "java/lang/invoke/MethodHandle" ∧ yC1_isInterface.cls ≠ "java/lang/invoke/VarHandle" ∧ (parseMethodDescriptor yC1_isInterface.desc).map (fun d => d.parameters.length) = some 1 := by decide +kernel
theorem hdC0_cls : yC0_cls.cls = RC0 ∧ yC0_cls.cls ≠ "java/lang/invoke/MethodHandle" ∧ yC0_cls.cls ≠ "java/lang/invoke/VarHandle" ∧ (parseMethodDescriptor yC0_cls.desc).map (fun d => d.parameters.length) = some 1 := by decide +kernel
theorem hdC0_face : yC0_face.cls = RC0 ∧ yC0_face.cls ≠ "java/lang/invoke/MethodHandle" ∧ yC0_face.cls ≠ "java/lang/invoke/VarHandle" ∧ (parseMethodDescriptor yC0_face.desc).map (fun d => d.parameters.length) = some 0 := by decide +kernel
theorem hdJI_bitCount : yJI_bitCount.cls ≠ "java/lang/invoke/MethodHandle" ∧ yJI_bitCount.cls ≠ "java/lang/invoke/VarHandle" ∧ (parseMethodDescriptor yJI_bitCount.desc).map (fun d => d.parameters.length) = some 1 := by decide +kernel
theorem hdC1_isA : yC1_isA.cls = RC1 ∧ yC1_isA.cls ≠ "java/lang/invoke/MethodHandle" ∧ yC1_isA.cls ≠ "java/lang/invoke/VarHandle" ∧ (parseMethodDescriptor yC1_isA.desc).map (fun d => d.parameters.length) = some 2 := by decide +kernel
theorem hdC1_putBelow : yC1_putBelow.cls = RC1 ∧ yC1_putBelow.cls ≠ "java/lang/invoke/MethodHandle" ∧ yC1_putBelow.cls ≠ "java/lang/invoke/VarHandle" ∧ (parseMethodDescriptor yC1_putBelow.desc).map (fun d => d.parameters.length) = some 2 := by decide +kernel
theorem hdC2_forgetFunctions : yC2_forgetFunctions.cls = RC2 ∧ yC2_forgetFunctions.cls ≠ "java/lang/invoke/MethodHandle" ∧ yC2_forgetFunctions.cls ≠ "java/lang/invoke/VarHandle" ∧ (parseMethodDescriptor yC2_forgetFunctions.desc).map (fun d => d.parameters.length) = some 0 := by decide +kernel
theorem hdC0_below : yC0_below.cls = RC0 ∧ yC0_below.cls ≠ "java/lang/invoke/MethodHandle" ∧ yC0_below.cls ≠ "java/lang/invoke/VarHandle" ∧ (parseMethodDescriptor yC0_below.desc).map (fun d => d.parameters.length) = some 2 := by decide +kernel
theorem hdC2_draftHead : yC2_draftHead.cls = RC2 ∧ yC2_draftHead.cls ≠ "java/lang/invoke/MethodHandle" ∧ yC2_draftHead.cls ≠ "java/lang/invoke/VarHandle" ∧ (parseMethodDescriptor yC2_draftHead.desc).map (fun d => d.parameters.length) = some 4 := by decide +kernel
theorem hdC2_draftParameters : yC2_draftParameters.cls = RC2 ∧ yC2_draftParameters.cls ≠ "java/lang/invoke/MethodHandle" ∧ yC2_draftParameters.cls ≠ "java/lang/invoke/VarHandle" ∧ (parseMethodDescriptor yC2_draftParameters.desc).map (fun d => d.parameters.length) = some 5 := by decide +kernel
theorem hdC2_isAbstract : yC2_isAbstract.cls = RC2 ∧ yC2_isAbstract.cls ≠ "java/lang/invoke/MethodHandle" ∧ yC2_isAbstract.cls ≠ "java/lang/invoke/VarHandle" ∧ (parseMethodDescriptor yC2_isAbstract.desc).map (fun d => d.parameters.length) = some 1 := by decide +kernel
theorem hdC2_isStatic : yC2_isStatic.cls = RC2 ∧ yC2_isStatic.cls ≠ "java/lang/invoke/MethodHandle" ∧ yC2_isStatic.cls ≠ "java/lang/invoke/VarHandle" ∧ (parseMethodDescriptor yC2_isStatic.desc).map (fun d => d.parameters.length) = some 1 := by decide +kernel
theorem hdC2_isPrivate : yC2_isPrivate.cls = RC2 ∧ yC2_isPrivate.cls ≠ "java/lang/invoke/MethodHandle" ∧ yC2_isPrivate.cls ≠ "java/lang/invoke/VarHandle" ∧ (parseMethodDescriptor yC2_isPrivate.desc).map (fun d => d.parameters.length) = some 1 := by decide +kernel
theorem hdC2_hasGoodMarks : yC2_hasGoodMarks.cls = RC2 ∧ yC2_hasGoodMarks.cls ≠ "java/lang/invoke/MethodHandle" ∧ yC2_hasGoodMarks.cls ≠ "java/lang/invoke/VarHandle" ∧ (parseMethodDescriptor yC2_hasGoodMarks.desc).map (fun d => d.parameters.length) = some 1 := by decide +kernel
theorem hdC1_isElement : yC1_isElement.cls = RC1 ∧ yC1_isElement.cls ≠ "java/lang/invoke/MethodHandle" ∧ yC1_isElement.cls ≠ "java/lang/invoke/VarHandle" ∧ (parseMethodDescriptor yC1_isElement.desc).map (fun d => d.parameters.length) = some 1 := by decide +kernel
theorem hdC1_isArray : yC1_isArray.cls = RC1 ∧ yC1_isArray.cls ≠ "java/lang/invoke/MethodHandle" ∧ yC1_isArray.cls ≠ "java/lang/invoke/VarHandle" ∧ (parseMethodDescriptor yC1_isArray.desc).map (fun d => d.parameters.length) = some 1 := by decide +kernel
theorem hdC1_canBeDeclared : yC1_canBeDeclared.cls = RC1 ∧ yC1_canBeDeclared.cls ≠ "java/lang/invoke/MethodHandle" ∧ yC1_canBeDeclared.cls ≠ "java/lang/invoke/VarHandle" ∧ (parseMethodDescriptor yC1_canBeDeclared.desc).map (fun d => d.parameters.length) = some 1 := by decide +kernel
theorem hdC1_canBeResult : yC1_canBeResult.cls = RC1 ∧ yC1_canBeResult.cls ≠ "java/lang/invoke/MethodHandle" ∧ yC1_canBeResult.cls ≠ "java/lang/invoke/VarHandle" ∧ (parseMethodDescriptor yC1_canBeResult.desc).map (fun d => d.parameters.length) = some 1 := by decide +kernel
theorem hdC2_hasGoodHead : yC2_hasGoodHead.cls = RC2 ∧ yC2_hasGoodHead.cls ≠ "java/lang/invoke/MethodHandle" ∧ yC2_hasGoodHead.cls ≠ "java/lang/invoke/VarHandle" ∧ (parseMethodDescriptor yC2_hasGoodHead.desc).map (fun d => d.parameters.length) = some 1 := by decide +kernel
theorem hdC2_isVaried : yC2_isVaried.cls = RC2 ∧ yC2_isVaried.cls ≠ "java/lang/invoke/MethodHandle" ∧ yC2_isVaried.cls ≠ "java/lang/invoke/VarHandle" ∧ (parseMethodDescriptor yC2_isVaried.desc).map (fun d => d.parameters.length) = some 1 := by decide +kernel
theorem hdC2_parameterAt : yC2_parameterAt.cls = RC2 ∧ yC2_parameterAt.cls ≠ "java/lang/invoke/MethodHandle" ∧ yC2_parameterAt.cls ≠ "java/lang/invoke/VarHandle" ∧ (parseMethodDescriptor yC2_parameterAt.desc).map (fun d => d.parameters.length) = some 2 := by decide +kernel
theorem hdC2_hasGoodParameters : yC2_hasGoodParameters.cls = RC2 ∧ yC2_hasGoodParameters.cls ≠ "java/lang/invoke/MethodHandle" ∧ yC2_hasGoodParameters.cls ≠ "java/lang/invoke/VarHandle" ∧ (parseMethodDescriptor yC2_hasGoodParameters.desc).map (fun d => d.parameters.length) = some 1 := by decide +kernel
theorem hdC2_sameParameters : yC2_sameParameters.cls = RC2 ∧ yC2_sameParameters.cls ≠ "java/lang/invoke/MethodHandle" ∧ yC2_sameParameters.cls ≠ "java/lang/invoke/VarHandle" ∧ (parseMethodDescriptor yC2_sameParameters.desc).map (fun d => d.parameters.length) = some 2 := by decide +kernel
theorem hdC2_isToldTwice : yC2_isToldTwice.cls = RC2 ∧ yC2_isToldTwice.cls ≠ "java/lang/invoke/MethodHandle" ∧ yC2_isToldTwice.cls ≠ "java/lang/invoke/VarHandle" ∧ (parseMethodDescriptor yC2_isToldTwice.desc).map (fun d => d.parameters.length) = some 1 := by decide +kernel
theorem hdC2_keepDraft : yC2_keepDraft.cls = RC2 ∧ yC2_keepDraft.cls ≠ "java/lang/invoke/MethodHandle" ∧ yC2_keepDraft.cls ≠ "java/lang/invoke/VarHandle" ∧ (parseMethodDescriptor yC2_keepDraft.desc).map (fun d => d.parameters.length) = some 0 := by decide +kernel
theorem hdC0_member : yC0_member.cls = RC0 ∧ yC0_member.cls ≠ "java/lang/invoke/MethodHandle" ∧ yC0_member.cls ≠ "java/lang/invoke/VarHandle" ∧ (parseMethodDescriptor yC0_member.desc).map (fun d => d.parameters.length) = some 9 := by decide +kernel
theorem hdC1_isType : yC1_isType.cls = RC1 ∧ yC1_isType.cls ≠ "java/lang/invoke/MethodHandle" ∧ yC1_isType.cls ≠ "java/lang/invoke/VarHandle" ∧ (parseMethodDescriptor yC1_isType.desc).map (fun d => d.parameters.length) = some 1 := by decide +kernel
theorem hdC1_isPrimitive : yC1_isPrimitive.cls = RC1 ∧ yC1_isPrimitive.cls ≠ "java/lang/invoke/MethodHandle" ∧ yC1_isPrimitive.cls ≠ "java/lang/invoke/VarHandle" ∧ (parseMethodDescriptor yC1_isPrimitive.desc).map (fun d => d.parameters.length) = some 1 := by decide +kernel
theorem hdC1_accepts : yC1_accepts.cls = RC1 ∧ yC1_accepts.cls ≠ "java/lang/invoke/MethodHandle" ∧ yC1_accepts.cls ≠ "java/lang/invoke/VarHandle" ∧ (parseMethodDescriptor yC1_accepts.desc).map (fun d => d.parameters.length) = some 3 := by decide +kernel
theorem hdC0_is : yC0_is.cls = RC0 ∧ yC0_is.cls ≠ "java/lang/invoke/MethodHandle" ∧ yC0_is.cls ≠ "java/lang/invoke/VarHandle" ∧ (parseMethodDescriptor yC0_is.desc).map (fun d => d.parameters.length) = some 2 := by decide +kernel
theorem hdC0_fits : yC0_fits.cls = RC0 ∧ yC0_fits.cls ≠ "java/lang/invoke/MethodHandle" ∧ yC0_fits.cls ≠ "java/lang/invoke/VarHandle" ∧ (parseMethodDescriptor yC0_fits.desc).map (fun d => d.parameters.length) = some 2 := by decide +kernel
theorem hdC1_size : yC1_size.cls = RC1 ∧ yC1_size.cls ≠ "java/lang/invoke/MethodHandle" ∧ yC1_size.cls ≠ "java/lang/invoke/VarHandle" ∧ (parseMethodDescriptor yC1_size.desc).map (fun d => d.parameters.length) = some 0 := by decide +kernel
theorem hdC2_overrides : yC2_overrides.cls = RC2 ∧ yC2_overrides.cls ≠ "java/lang/invoke/MethodHandle" ∧ yC2_overrides.cls ≠ "java/lang/invoke/VarHandle" ∧ (parseMethodDescriptor yC2_overrides.desc).map (fun d => d.parameters.length) = some 2 := by decide +kernel
theorem hdC2_isOverridden : yC2_isOverridden.cls = RC2 ∧ yC2_isOverridden.cls ≠ "java/lang/invoke/MethodHandle" ∧ yC2_isOverridden.cls ≠ "java/lang/invoke/VarHandle" ∧ (parseMethodDescriptor yC2_isOverridden.desc).map (fun d => d.parameters.length) = some 2 := by decide +kernel
theorem hdC2_isSeen : yC2_isSeen.cls = RC2 ∧ yC2_isSeen.cls ≠ "java/lang/invoke/MethodHandle" ∧ yC2_isSeen.cls ≠ "java/lang/invoke/VarHandle" ∧ (parseMethodDescriptor yC2_isSeen.desc).map (fun d => d.parameters.length) = some 3 := by decide +kernel
theorem hdC2_findFunction : yC2_findFunction.cls = RC2 ∧ yC2_findFunction.cls ≠ "java/lang/invoke/MethodHandle" ∧ yC2_findFunction.cls ≠ "java/lang/invoke/VarHandle" ∧ (parseMethodDescriptor yC2_findFunction.desc).map (fun d => d.parameters.length) = some 1 := by decide +kernel
theorem hdC2_settleFunctions : yC2_settleFunctions.cls = RC2 ∧ yC2_settleFunctions.cls ≠ "java/lang/invoke/MethodHandle" ∧ yC2_settleFunctions.cls ≠ "java/lang/invoke/VarHandle" ∧ (parseMethodDescriptor yC2_settleFunctions.desc).map (fun d => d.parameters.length) = some 0 := by decide +kernel
theorem hdC2_functionOf : yC2_functionOf.cls = RC2 ∧ yC2_functionOf.cls ≠ "java/lang/invoke/MethodHandle" ∧ yC2_functionOf.cls ≠ "java/lang/invoke/VarHandle" ∧ (parseMethodDescriptor yC2_functionOf.desc).map (fun d => d.parameters.length) = some 1 := by decide +kernel
theorem hdC0_function : yC0_function.cls = RC0 ∧ yC0_function.cls ≠ "java/lang/invoke/MethodHandle" ∧ yC0_function.cls ≠ "java/lang/invoke/VarHandle" ∧ (parseMethodDescriptor yC0_function.desc).map (fun d => d.parameters.length) = some 1 := by decide +kernel
theorem hdC0_canBeAsked : yC0_canBeAsked.cls = RC0 ∧ yC0_canBeAsked.cls ≠ "java/lang/invoke/MethodHandle" ∧ yC0_canBeAsked.cls ≠ "java/lang/invoke/VarHandle" ∧ (parseMethodDescriptor yC0_canBeAsked.desc).map (fun d => d.parameters.length) = some 3 := by decide +kernel
theorem hdC2_listSeen : yC2_listSeen.cls = RC2 ∧ yC2_listSeen.cls ≠ "java/lang/invoke/MethodHandle" ∧ yC2_listSeen.cls ≠ "java/lang/invoke/VarHandle" ∧ (parseMethodDescriptor yC2_listSeen.desc).map (fun d => d.parameters.length) = some 4 := by decide +kernel
theorem hdC0_seen : yC0_seen.cls = RC0 ∧ yC0_seen.cls ≠ "java/lang/invoke/MethodHandle" ∧ yC0_seen.cls ≠ "java/lang/invoke/VarHandle" ∧ (parseMethodDescriptor yC0_seen.desc).map (fun d => d.parameters.length) = some 3 := by decide +kernel
theorem hdC0_seenAt : yC0_seenAt.cls = RC0 ∧ yC0_seenAt.cls ≠ "java/lang/invoke/MethodHandle" ∧ yC0_seenAt.cls ≠ "java/lang/invoke/VarHandle" ∧ (parseMethodDescriptor yC0_seenAt.desc).map (fun d => d.parameters.length) = some 4 := by decide +kernel
theorem hdC3_addType : yC3_addType.cls = RC3 ∧ yC3_addType.cls ≠ "java/lang/invoke/MethodHandle" ∧ yC3_addType.cls ≠ "java/lang/invoke/VarHandle" ∧ (parseMethodDescriptor yC3_addType.desc).map (fun d => d.parameters.length) = some 1 := by decide +kernel
theorem hdC0_argument : yC0_argument.cls = RC0 ∧ yC0_argument.cls ≠ "java/lang/invoke/MethodHandle" ∧ yC0_argument.cls ≠ "java/lang/invoke/VarHandle" ∧ (parseMethodDescriptor yC0_argument.desc).map (fun d => d.parameters.length) = some 1 := by decide +kernel
theorem hdC3_addLambda : yC3_addLambda.cls = RC3 ∧ yC3_addLambda.cls ≠ "java/lang/invoke/MethodHandle" ∧ yC3_addLambda.cls ≠ "java/lang/invoke/VarHandle" ∧ (parseMethodDescriptor yC3_addLambda.desc).map (fun d => d.parameters.length) = some 5 := by decide +kernel
theorem hdC0_lambda : yC0_lambda.cls = RC0 ∧ yC0_lambda.cls ≠ "java/lang/invoke/MethodHandle" ∧ yC0_lambda.cls ≠ "java/lang/invoke/VarHandle" ∧ (parseMethodDescriptor yC0_lambda.desc).map (fun d => d.parameters.length) = some 5 := by decide +kernel
theorem hdC3_clear : yC3_clear.cls = RC3 ∧ yC3_clear.cls ≠ "java/lang/invoke/MethodHandle" ∧ yC3_clear.cls ≠ "java/lang/invoke/VarHandle" ∧ (parseMethodDescriptor yC3_clear.desc).map (fun d => d.parameters.length) = some 0 := by decide +kernel
theorem hdC0_wipe : yC0_wipe.cls = RC0 ∧ yC0_wipe.cls ≠ "java/lang/invoke/MethodHandle" ∧ yC0_wipe.cls ≠ "java/lang/invoke/VarHandle" ∧ (parseMethodDescriptor yC0_wipe.desc).map (fun d => d.parameters.length) = some 0 := by decide +kernel
theorem hdC4_forget : yC4_forget.cls = RC4 ∧ yC4_forget.cls ≠ "java/lang/invoke/MethodHandle" ∧ yC4_forget.cls ≠ "java/lang/invoke/VarHandle" ∧ (parseMethodDescriptor yC4_forget.desc).map (fun d => d.parameters.length) = some 0 := by decide +kernel
theorem hdC2_widthOf : yC2_widthOf.cls = RC2 ∧ yC2_widthOf.cls ≠ "java/lang/invoke/MethodHandle" ∧ yC2_widthOf.cls ≠ "java/lang/invoke/VarHandle" ∧ (parseMethodDescriptor yC2_widthOf.desc).map (fun d => d.parameters.length) = some 1 := by decide +kernel
theorem hdC3_size : yC3_size.cls = RC3 ∧ yC3_size.cls ≠ "java/lang/invoke/MethodHandle" ∧ yC3_size.cls ≠ "java/lang/invoke/VarHandle" ∧ (parseMethodDescriptor yC3_size.desc).map (fun d => d.parameters.length) = some 0 := by decide +kernel
theorem hdC3_isLambda : yC3_isLambda.cls = RC3 ∧ yC3_isLambda.cls ≠ "java/lang/invoke/MethodHandle" ∧ yC3_isLambda.cls ≠ "java/lang/invoke/VarHandle" ∧ (parseMethodDescriptor yC3_isLambda.desc).map (fun d => d.parameters.length) = some 1 := by decide +kernel
theorem hdC1_elementOf : yC1_elementOf.cls = RC1 ∧ yC1_elementOf.cls ≠ "java/lang/invoke/MethodHandle" ∧ yC1_elementOf.cls ≠ "java/lang/invoke/VarHandle" ∧ (parseMethodDescriptor yC1_elementOf.desc).map (fun d => d.parameters.length) = some 1 := by decide +kernel
theorem hdC2_facing : yC2_facing.cls = RC2 ∧ yC2_facing.cls ≠ "java/lang/invoke/MethodHandle" ∧ yC2_facing.cls ≠ "java/lang/invoke/VarHandle" ∧ (parseMethodDescriptor yC2_facing.desc).map (fun d => d.parameters.length) = some 3 := by decide +kernel
theorem hdC3_widthOf : yC3_widthOf.cls = RC3 ∧ yC3_widthOf.cls ≠ "java/lang/invoke/MethodHandle" ∧ yC3_widthOf.cls ≠ "java/lang/invoke/VarHandle" ∧ (parseMethodDescriptor yC3_widthOf.desc).map (fun d => d.parameters.length) = some 1 := by decide +kernel
theorem hdC2_hasResult : yC2_hasResult.cls = RC2 ∧ yC2_hasResult.cls ≠ "java/lang/invoke/MethodHandle" ∧ yC2_hasResult.cls ≠ "java/lang/invoke/VarHandle" ∧ (parseMethodDescriptor yC2_hasResult.desc).map (fun d => d.parameters.length) = some 1 := by decide +kernel
theorem hdC3_hasResult : yC3_hasResult.cls = RC3 ∧ yC3_hasResult.cls ≠ "java/lang/invoke/MethodHandle" ∧ yC3_hasResult.cls ≠ "java/lang/invoke/VarHandle" ∧ (parseMethodDescriptor yC3_hasResult.desc).map (fun d => d.parameters.length) = some 1 := by decide +kernel
theorem hdC4_hasShape : yC4_hasShape.cls = RC4 ∧ yC4_hasShape.cls ≠ "java/lang/invoke/MethodHandle" ∧ yC4_hasShape.cls ≠ "java/lang/invoke/VarHandle" ∧ (parseMethodDescriptor yC4_hasShape.desc).map (fun d => d.parameters.length) = some 2 := by decide +kernel
theorem hdC4_couldBeMeant : yC4_couldBeMeant.cls = RC4 ∧ yC4_couldBeMeant.cls ≠ "java/lang/invoke/MethodHandle" ∧ yC4_couldBeMeant.cls ≠ "java/lang/invoke/VarHandle" ∧ (parseMethodDescriptor yC4_couldBeMeant.desc).map (fun d => d.parameters.length) = some 1 := by decide +kernel
theorem hdC4_keepMeant : yC4_keepMeant.cls = RC4 ∧ yC4_keepMeant.cls ≠ "java/lang/invoke/MethodHandle" ∧ yC4_keepMeant.cls ≠ "java/lang/invoke/VarHandle" ∧ (parseMethodDescriptor yC4_keepMeant.desc).map (fun d => d.parameters.length) = some 0 := by decide +kernel
theorem hdC2_spreadType : yC2_spreadType.cls = RC2 ∧ yC2_spreadType.cls ≠ "java/lang/invoke/MethodHandle" ∧ yC2_spreadType.cls ≠ "java/lang/invoke/VarHandle" ∧ (parseMethodDescriptor yC2_spreadType.desc).map (fun d => d.parameters.length) = some 1 := by decide +kernel
theorem hdC3_isToldLambda : yC3_isToldLambda.cls = RC3 ∧ yC3_isToldLambda.cls ≠ "java/lang/invoke/MethodHandle" ∧ yC3_isToldLambda.cls ≠ "java/lang/invoke/VarHandle" ∧ (parseMethodDescriptor yC3_isToldLambda.desc).map (fun d => d.parameters.length) = some 1 := by decide +kernel
theorem hdC3_valueOf : yC3_valueOf.cls = RC3 ∧ yC3_valueOf.cls ≠ "java/lang/invoke/MethodHandle" ∧ yC3_valueOf.cls ≠ "java/lang/invoke/VarHandle" ∧ (parseMethodDescriptor yC3_valueOf.desc).map (fun d => d.parameters.length) = some 1 := by decide +kernel
theorem hdC2_resultOf : yC2_resultOf.cls = RC2 ∧ yC2_resultOf.cls ≠ "java/lang/invoke/MethodHandle" ∧ yC2_resultOf.cls ≠ "java/lang/invoke/VarHandle" ∧ (parseMethodDescriptor yC2_resultOf.desc).map (fun d => d.parameters.length) = some 1 := by decide +kernel
theorem hdC1_isReference : yC1_isReference.cls = RC1 ∧ yC1_isReference.cls ≠ "java/lang/invoke/MethodHandle" ∧ yC1_isReference.cls ≠ "java/lang/invoke/VarHandle" ∧ (parseMethodDescriptor yC1_isReference.desc).map (fun d => d.parameters.length) = some 1 := by decide +kernel
theorem hdC4_isFinerResult : yC4_isFinerResult.cls = RC4 ∧ yC4_isFinerResult.cls ≠ "java/lang/invoke/MethodHandle" ∧ yC4_isFinerResult.cls ≠ "java/lang/invoke/VarHandle" ∧ (parseMethodDescriptor yC4_isFinerResult.desc).map (fun d => d.parameters.length) = some 3 := by decide +kernel
theorem hdC4_isFinerFunction : yC4_isFinerFunction.cls = RC4 ∧ yC4_isFinerFunction.cls ≠ "java/lang/invoke/MethodHandle" ∧ yC4_isFinerFunction.cls ≠ "java/lang/invoke/VarHandle" ∧ (parseMethodDescriptor yC4_isFinerFunction.desc).map (fun d => d.parameters.length) = some 3 := by decide +kernel
theorem hdC4_isAsSpecialAs : yC4_isAsSpecialAs.cls = RC4 ∧ yC4_isAsSpecialAs.cls ≠ "java/lang/invoke/MethodHandle" ∧ yC4_isAsSpecialAs.cls ≠ "java/lang/invoke/VarHandle" ∧ (parseMethodDescriptor yC4_isAsSpecialAs.desc).map (fun d => d.parameters.length) = some 2 := by decide +kernel
theorem hdC4_compareAll : yC4_compareAll.cls = RC4 ∧ yC4_compareAll.cls ≠ "java/lang/invoke/MethodHandle" ∧ yC4_compareAll.cls ≠ "java/lang/invoke/VarHandle" ∧ (parseMethodDescriptor yC4_compareAll.desc).map (fun d => d.parameters.length) = some 0 := by decide +kernel
theorem hdC4_pick : yC4_pick.cls = RC4 ∧ yC4_pick.cls ≠ "java/lang/invoke/MethodHandle" ∧ yC4_pick.cls ≠ "java/lang/invoke/VarHandle" ∧ (parseMethodDescriptor yC4_pick.desc).map (fun d => d.parameters.length) = some 0 := by decide +kernel
theorem hdC3_parameterAt : yC3_parameterAt.cls = RC3 ∧ yC3_parameterAt.cls ≠ "java/lang/invoke/MethodHandle" ∧ yC3_parameterAt.cls ≠ "java/lang/invoke/VarHandle" ∧ (parseMethodDescriptor yC3_parameterAt.desc).map (fun d => d.parameters.length) = some 2 := by decide +kernel
theorem hdC4_takesTold : yC4_takesTold.cls = RC4 ∧ yC4_takesTold.cls ≠ "java/lang/invoke/MethodHandle" ∧ yC4_takesTold.cls ≠ "java/lang/invoke/VarHandle" ∧ (parseMethodDescriptor yC4_takesTold.desc).map (fun d => d.parameters.length) = some 3 := by decide +kernel
theorem hdC4_takes : yC4_takes.cls = RC4 ∧ yC4_takes.cls ≠ "java/lang/invoke/MethodHandle" ∧ yC4_takes.cls ≠ "java/lang/invoke/VarHandle" ∧ (parseMethodDescriptor yC4_takes.desc).map (fun d => d.parameters.length) = some 3 := by decide +kernel
theorem hdC4_applies : yC4_applies.cls = RC4 ∧ yC4_applies.cls ≠ "java/lang/invoke/MethodHandle" ∧ yC4_applies.cls ≠ "java/lang/invoke/VarHandle" ∧ (parseMethodDescriptor yC4_applies.desc).map (fun d => d.parameters.length) = some 2 := by decide +kernel
theorem hdC4_findApplying : yC4_findApplying.cls = RC4 ∧ yC4_findApplying.cls ≠ "java/lang/invoke/MethodHandle" ∧ yC4_findApplying.cls ≠ "java/lang/invoke/VarHandle" ∧ (parseMethodDescriptor yC4_findApplying.desc).map (fun d => d.parameters.length) = some 1 := by decide +kernel
theorem hdC4_decide : yC4_decide.cls = RC4 ∧ yC4_decide.cls ≠ "java/lang/invoke/MethodHandle" ∧ yC4_decide.cls ≠ "java/lang/invoke/VarHandle" ∧ (parseMethodDescriptor yC4_decide.desc).map (fun d => d.parameters.length) = some 3 := by decide +kernel
theorem hdC0_choose : yC0_choose.cls = RC0 ∧ yC0_choose.cls ≠ "java/lang/invoke/MethodHandle" ∧ yC0_choose.cls ≠ "java/lang/invoke/VarHandle" ∧ (parseMethodDescriptor yC0_choose.desc).map (fun d => d.parameters.length) = some 4 := by decide +kernel
theorem hdC4_phaseReached : yC4_phaseReached.cls = RC4 ∧ yC4_phaseReached.cls ≠ "java/lang/invoke/MethodHandle" ∧ yC4_phaseReached.cls ≠ "java/lang/invoke/VarHandle" ∧ (parseMethodDescriptor yC4_phaseReached.desc).map (fun d => d.parameters.length) = some 0 := by decide +kernel
theorem hdC0_phase : yC0_phase.cls = RC0 ∧ yC0_phase.cls ≠ "java/lang/invoke/MethodHandle" ∧ yC0_phase.cls ≠ "java/lang/invoke/VarHandle" ∧ (parseMethodDescriptor yC0_phase.desc).map (fun d => d.parameters.length) = some 0 := by decide +kernel
theorem hdC4_applyingAt : yC4_applyingAt.cls = RC4 ∧ yC4_applyingAt.cls ≠ "java/lang/invoke/MethodHandle" ∧ yC4_applyingAt.cls ≠ "java/lang/invoke/VarHandle" ∧ (parseMethodDescriptor yC4_applyingAt.desc).map (fun d => d.parameters.length) = some 1 := by decide +kernel
theorem hdC0_applied : yC0_applied.cls = RC0 ∧ yC0_applied.cls ≠ "java/lang/invoke/MethodHandle" ∧ yC0_applied.cls ≠ "java/lang/invoke/VarHandle" ∧ (parseMethodDescriptor yC0_applied.desc).map (fun d => d.parameters.length) = some 1 := by decide +kernel
theorem hdC4_didApply : yC4_didApply.cls = RC4 ∧ yC4_didApply.cls ≠ "java/lang/invoke/MethodHandle" ∧ yC4_didApply.cls ≠ "java/lang/invoke/VarHandle" ∧ (parseMethodDescriptor yC4_didApply.desc).map (fun d => d.parameters.length) = some 1 := by decide +kernel
theorem hdC4_compared : yC4_compared.cls = RC4 ∧ yC4_compared.cls ≠ "java/lang/invoke/MethodHandle" ∧ yC4_compared.cls ≠ "java/lang/invoke/VarHandle" ∧ (parseMethodDescriptor yC4_compared.desc).map (fun d => d.parameters.length) = some 2 := by decide +kernel
theorem hdC0_special : yC0_special.cls = RC0 ∧ yC0_special.cls ≠ "java/lang/invoke/MethodHandle" ∧ yC0_special.cls ≠ "java/lang/invoke/VarHandle" ∧ (parseMethodDescriptor yC0_special.desc).map (fun d => d.parameters.length) = some 2 := by decide +kernel
theorem hdC2_size : yC2_size.cls = RC2 ∧ yC2_size.cls ≠ "java/lang/invoke/MethodHandle" ∧ yC2_size.cls ≠ "java/lang/invoke/VarHandle" ∧ (parseMethodDescriptor yC2_size.desc).map (fun d => d.parameters.length) = some 0 := by decide +kernel
theorem hdC0_count : yC0_count.cls = RC0 ∧ yC0_count.cls ≠ "java/lang/invoke/MethodHandle" ∧ yC0_count.cls ≠ "java/lang/invoke/VarHandle" ∧ (parseMethodDescriptor yC0_count.desc).map (fun d => d.parameters.length) = some 1 := by decide +kernel
theorem hdCM_forgetFunctions : yCM_forgetFunctions.cls = RCM ∧ yCM_forgetFunctions.cls ≠ "java/lang/invoke/MethodHandle" ∧ yCM_forgetFunctions.cls ≠ "java/lang/invoke/VarHandle" ∧ (parseMethodDescriptor yCM_forgetFunctions.desc).map (fun d => d.parameters.length) = some 0 := by decide +kernel
theorem hdCM_closeTypes : yCM_closeTypes.cls = RCM ∧ yCM_closeTypes.cls ≠ "java/lang/invoke/MethodHandle" ∧ yCM_closeTypes.cls ≠ "java/lang/invoke/VarHandle" ∧ (parseMethodDescriptor yCM_closeTypes.desc).map (fun d => d.parameters.length) = some 0 := by decide +kernel
theorem hdCM_isTold : yCM_isTold.cls = RCM ∧ yCM_isTold.cls ≠ "java/lang/invoke/MethodHandle" ∧ yCM_isTold.cls ≠ "java/lang/invoke/VarHandle" ∧ (parseMethodDescriptor yCM_isTold.desc).map (fun d => d.parameters.length) = some 1 := by decide +kernel
theorem hdCM_cls : yCM_cls.cls = RCM ∧ yCM_cls.cls ≠ "java/lang/invoke/MethodHandle" ∧ yCM_cls.cls ≠ "java/lang/invoke/VarHandle" ∧ (parseMethodDescriptor yCM_cls.desc).map (fun d => d.parameters.length) = some 1 := by decide +kernel
theorem hdCM_face : yCM_face.cls = RCM ∧ yCM_face.cls ≠ "java/lang/invoke/MethodHandle" ∧ yCM_face.cls ≠ "java/lang/invoke/VarHandle" ∧ (parseMethodDescriptor yCM_face.desc).map (fun d => d.parameters.length) = some 0 := by decide +kernel
theorem hdCM_below : yCM_below.cls = RCM ∧ yCM_below.cls ≠ "java/lang/invoke/MethodHandle" ∧ yCM_below.cls ≠ "java/lang/invoke/VarHandle" ∧ (parseMethodDescriptor yCM_below.desc).map (fun d => d.parameters.length) = some 2 := by decide +kernel
theorem hdCM_isPlain : yCM_isPlain.cls = RCM ∧ yCM_isPlain.cls ≠ "java/lang/invoke/MethodHandle" ∧ yCM_isPlain.cls ≠ "java/lang/invoke/VarHandle" ∧ (parseMethodDescriptor yCM_isPlain.desc).map (fun d => d.parameters.length) = some 1 := by decide +kernel
theorem hdCM_isType : yCM_isType.cls = RCM ∧ yCM_isType.cls ≠ "java/lang/invoke/MethodHandle" ∧ yCM_isType.cls ≠ "java/lang/invoke/VarHandle" ∧ (parseMethodDescriptor yCM_isType.desc).map (fun d => d.parameters.length) = some 1 := by decide +kernel
theorem hdCM_isPrimitive : yCM_isPrimitive.cls ≠ "java/lang/invoke/MethodHandle" ∧ yCM_isPrimitive.cls ≠ "java/lang/invoke/VarHandle" ∧ (parseMethodDescriptor yCM_isPrimitive.desc).map (fun d => d.parameters.length) = some 1 := by decide +kernel
theorem hdCM_plainIs : yCM_plainIs.cls = RCM ∧ yCM_plainIs.cls ≠ "java/lang/invoke/MethodHandle" ∧ yCM_plainIs.cls ≠ "java/lang/invoke/VarHandle" ∧ (parseMethodDescriptor yCM_plainIs.desc).map (fun d => d.parameters.length) = some 2 := by decide +kernel
theorem hdCM_isIt : yCM_isIt.cls = RCM ∧ yCM_isIt.cls ≠ "java/lang/invoke/MethodHandle" ∧ yCM_isIt.cls ≠ "java/lang/invoke/VarHandle" ∧ (parseMethodDescriptor yCM_isIt.desc).map (fun d => d.parameters.length) = some 2 := by decide +kernel
theorem hdCM_is : yCM_is.cls = RCM ∧ yCM_is.cls ≠ "java/lang/invoke/MethodHandle" ∧ yCM_is.cls ≠ "java/lang/invoke/VarHandle" ∧ (parseMethodDescriptor yCM_is.desc).map (fun d => d.parameters.length) = some 2 := by decide +kernel
theorem hdCM_isBox : yCM_isBox.cls ≠ "java/lang/invoke/MethodHandle" ∧ yCM_isBox.cls ≠ "java/lang/invoke/VarHandle" ∧ (parseMethodDescriptor yCM_isBox.desc).map (fun d => d.parameters.length) = some 1 := by decide +kernel
theorem hdCM_fitsIt : yCM_fitsIt.cls = RCM ∧ yCM_fitsIt.cls ≠ "java/lang/invoke/MethodHandle" ∧ yCM_fitsIt.cls ≠ "java/lang/invoke/VarHandle" ∧ (parseMethodDescriptor yCM_fitsIt.desc).map (fun d => d.parameters.length) = some 2 := by decide +kernel
theorem hdCM_fits : yCM_fits.cls = RCM ∧ yCM_fits.cls ≠ "java/lang/invoke/MethodHandle" ∧ yCM_fits.cls ≠ "java/lang/invoke/VarHandle" ∧ (parseMethodDescriptor yCM_fits.desc).map (fun d => d.parameters.length) = some 2 := by decide +kernel
theorem hdCM_parameter : yCM_parameter.cls ≠ "java/lang/invoke/MethodHandle" ∧ yCM_parameter.cls ≠ "java/lang/invoke/VarHandle" ∧ (parseMethodDescriptor yCM_parameter.desc).map (fun d => d.parameters.length) = some 5 := by decide +kernel
theorem hdCM_isValue : yCM_isValue.cls = RCM ∧ yCM_isValue.cls ≠ "java/lang/invoke/MethodHandle" ∧ yCM_isValue.cls ≠ "java/lang/invoke/VarHandle" ∧ (parseMethodDescriptor yCM_isValue.desc).map (fun d => d.parameters.length) = some 1 := by decide +kernel
theorem hdCM_isName : yCM_isName.cls ≠ "java/lang/invoke/MethodHandle" ∧ yCM_isName.cls ≠ "java/lang/invoke/VarHandle" ∧ (parseMethodDescriptor yCM_isName.desc).map (fun d => d.parameters.length) = some 1 := by decide +kernel
theorem hdCM_member : yCM_member.cls = RCM ∧ yCM_member.cls ≠ "java/lang/invoke/MethodHandle" ∧ yCM_member.cls ≠ "java/lang/invoke/VarHandle" ∧ (parseMethodDescriptor yCM_member.desc).map (fun d => d.parameters.length) = some 9 := by decide +kernel
theorem hdCM_has : yCM_has.cls = RCM ∧ yCM_has.cls ≠ "java/lang/invoke/MethodHandle" ∧ yCM_has.cls ≠ "java/lang/invoke/VarHandle" ∧ (parseMethodDescriptor yCM_has.desc).map (fun d => d.parameters.length) = some 2 := by decide +kernel
theorem hdCM_sameParams : yCM_sameParams.cls = RCM ∧ yCM_sameParams.cls ≠ "java/lang/invoke/MethodHandle" ∧ yCM_sameParams.cls ≠ "java/lang/invoke/VarHandle" ∧ (parseMethodDescriptor yCM_sameParams.desc).map (fun d => d.parameters.length) = some 2 := by decide +kernel
theorem hdCM_isSeen : yCM_isSeen.cls = RCM ∧ yCM_isSeen.cls ≠ "java/lang/invoke/MethodHandle" ∧ yCM_isSeen.cls ≠ "java/lang/invoke/VarHandle" ∧ (parseMethodDescriptor yCM_isSeen.desc).map (fun d => d.parameters.length) = some 3 := by decide +kernel
theorem hdCM_findFunction : yCM_findFunction.cls = RCM ∧ yCM_findFunction.cls ≠ "java/lang/invoke/MethodHandle" ∧ yCM_findFunction.cls ≠ "java/lang/invoke/VarHandle" ∧ (parseMethodDescriptor yCM_findFunction.desc).map (fun d => d.parameters.length) = some 1 := by decide +kernel
theorem hdCM_functionOf : yCM_functionOf.cls = RCM ∧ yCM_functionOf.cls ≠ "java/lang/invoke/MethodHandle" ∧ yCM_functionOf.cls ≠ "java/lang/invoke/VarHandle" ∧ (parseMethodDescriptor yCM_functionOf.desc).map (fun d => d.parameters.length) = some 1 := by decide +kernel
theorem hdCM_function : yCM_function.cls = RCM ∧ yCM_function.cls ≠ "java/lang/invoke/MethodHandle" ∧ yCM_function.cls ≠ "java/lang/invoke/VarHandle" ∧ (parseMethodDescriptor yCM_function.desc).map (fun d => d.parameters.length) = some 1 := by decide +kernel
theorem hdCM_isAsked : yCM_isAsked.cls = RCM ∧ yCM_isAsked.cls ≠ "java/lang/invoke/MethodHandle" ∧ yCM_isAsked.cls ≠ "java/lang/invoke/VarHandle" ∧ (parseMethodDescriptor yCM_isAsked.desc).map (fun d => d.parameters.length) = some 3 := by decide +kernel
theorem hdCM_seen : yCM_seen.cls = RCM ∧ yCM_seen.cls ≠ "java/lang/invoke/MethodHandle" ∧ yCM_seen.cls ≠ "java/lang/invoke/VarHandle" ∧ (parseMethodDescriptor yCM_seen.desc).map (fun d => d.parameters.length) = some 3 := by decide +kernel
theorem hdCM_seenAt : yCM_seenAt.cls = RCM ∧ yCM_seenAt.cls ≠ "java/lang/invoke/MethodHandle" ∧ yCM_seenAt.cls ≠ "java/lang/invoke/VarHandle" ∧ (parseMethodDescriptor yCM_seenAt.desc).map (fun d => d.parameters.length) = some 4 := by decide +kernel
theorem hdCM_argument : yCM_argument.cls = RCM ∧ yCM_argument.cls ≠ "java/lang/invoke/MethodHandle" ∧ yCM_argument.cls ≠ "java/lang/invoke/VarHandle" ∧ (parseMethodDescriptor yCM_argument.desc).map (fun d => d.parameters.length) = some 1 := by decide +kernel
theorem hdCM_lambda : yCM_lambda.cls = RCM ∧ yCM_lambda.cls ≠ "java/lang/invoke/MethodHandle" ∧ yCM_lambda.cls ≠ "java/lang/invoke/VarHandle" ∧ (parseMethodDescriptor yCM_lambda.desc).map (fun d => d.parameters.length) = some 5 := by decide +kernel
theorem hdCM_wipe : yCM_wipe.cls = RCM ∧ yCM_wipe.cls ≠ "java/lang/invoke/MethodHandle" ∧ yCM_wipe.cls ≠ "java/lang/invoke/VarHandle" ∧ (parseMethodDescriptor yCM_wipe.desc).map (fun d => d.parameters.length) = some 0 := by decide +kernel
theorem hdCM_mostSpecial : yCM_mostSpecial.cls = RCM ∧ yCM_mostSpecial.cls ≠ "java/lang/invoke/MethodHandle" ∧ yCM_mostSpecial.cls ≠ "java/lang/invoke/VarHandle" ∧ (parseMethodDescriptor yCM_mostSpecial.desc).map (fun d => d.parameters.length) = some 0 := by decide +kernel
theorem hdCM_typeAt : yCM_typeAt.cls = RCM ∧ yCM_typeAt.cls ≠ "java/lang/invoke/MethodHandle" ∧ yCM_typeAt.cls ≠ "java/lang/invoke/VarHandle" ∧ (parseMethodDescriptor yCM_typeAt.desc).map (fun d => d.parameters.length) = some 3 := by decide +kernel
theorem hdCM_isFiner : yCM_isFiner.cls = RCM ∧ yCM_isFiner.cls ≠ "java/lang/invoke/MethodHandle" ∧ yCM_isFiner.cls ≠ "java/lang/invoke/VarHandle" ∧ (parseMethodDescriptor yCM_isFiner.desc).map (fun d => d.parameters.length) = some 3 := by decide +kernel
theorem hdCM_isSpecial : yCM_isSpecial.cls = RCM ∧ yCM_isSpecial.cls ≠ "java/lang/invoke/MethodHandle" ∧ yCM_isSpecial.cls ≠ "java/lang/invoke/VarHandle" ∧ (parseMethodDescriptor yCM_isSpecial.desc).map (fun d => d.parameters.length) = some 2 := by decide +kernel
theorem hdCM_hasShape : yCM_hasShape.cls = RCM ∧ yCM_hasShape.cls ≠ "java/lang/invoke/MethodHandle" ∧ yCM_hasShape.cls ≠ "java/lang/invoke/VarHandle" ∧ (parseMethodDescriptor yCM_hasShape.desc).map (fun d => d.parameters.length) = some 2 := by decide +kernel
theorem hdCM_passes : yCM_passes.cls = RCM ∧ yCM_passes.cls ≠ "java/lang/invoke/MethodHandle" ∧ yCM_passes.cls ≠ "java/lang/invoke/VarHandle" ∧ (parseMethodDescriptor yCM_passes.desc).map (fun d => d.parameters.length) = some 3 := by decide +kernel
theorem hdCM_takes : yCM_takes.cls = RCM ∧ yCM_takes.cls ≠ "java/lang/invoke/MethodHandle" ∧ yCM_takes.cls ≠ "java/lang/invoke/VarHandle" ∧ (parseMethodDescriptor yCM_takes.desc).map (fun d => d.parameters.length) = some 3 := by decide +kernel
theorem hdCM_doesApply : yCM_doesApply.cls = RCM ∧ yCM_doesApply.cls ≠ "java/lang/invoke/MethodHandle" ∧ yCM_doesApply.cls ≠ "java/lang/invoke/VarHandle" ∧ (parseMethodDescriptor yCM_doesApply.desc).map (fun d => d.parameters.length) = some 2 := by decide +kernel
theorem hdCM_isMeant : yCM_isMeant.cls = RCM ∧ yCM_isMeant.cls ≠ "java/lang/invoke/MethodHandle" ∧ yCM_isMeant.cls ≠ "java/lang/invoke/VarHandle" ∧ (parseMethodDescriptor yCM_isMeant.desc).map (fun d => d.parameters.length) = some 1 := by decide +kernel
theorem hdCM_choose : yCM_choose.cls = RCM ∧ yCM_choose.cls ≠ "java/lang/invoke/MethodHandle" ∧ yCM_choose.cls ≠ "java/lang/invoke/VarHandle" ∧ (parseMethodDescriptor yCM_choose.desc).map (fun d => d.parameters.length) = some 4 := by decide +kernel
theorem hdCM_phase : yCM_phase.cls = RCM ∧ yCM_phase.cls ≠ "java/lang/invoke/MethodHandle" ∧ yCM_phase.cls ≠ "java/lang/invoke/VarHandle" ∧ (parseMethodDescriptor yCM_phase.desc).map (fun d => d.parameters.length) = some 0 := by decide +kernel
theorem hdCM_applied : yCM_applied.cls = RCM ∧ yCM_applied.cls ≠ "java/lang/invoke/MethodHandle" ∧ yCM_applied.cls ≠ "java/lang/invoke/VarHandle" ∧ (parseMethodDescriptor yCM_applied.desc).map (fun d => d.parameters.length) = some 1 := by decide +kernel
theorem hdCM_special : yCM_special.cls = RCM ∧ yCM_special.cls ≠ "java/lang/invoke/MethodHandle" ∧ yCM_special.cls ≠ "java/lang/invoke/VarHandle" ∧ (parseMethodDescriptor yCM_special.desc).map (fun d => d.parameters.length) = some 2 := by decide +kernel
theorem hdCM_count : yCM_count.cls = RCM ∧ yCM_count.cls ≠ "java/lang/invoke/MethodHandle" ∧ yCM_count.cls ≠ "java/lang/invoke/VarHandle" ∧ (parseMethodDescriptor yCM_count.desc).map (fun d => d.parameters.length) = some 1 := by decide +kernel
abbrev cJA_fill : ByteArray := prog_12_method_103_code
def yJA_fill : MethodName := ⟨RJA, "fill", "([II)V"⟩
def wsJA_fill : List Cond := .code yJA_fill cJA_fill 4 none :: wAll
abbrev cJA_copyOf : ByteArray := prog_12_method_124_code
def yJA_copyOf : MethodName := ⟨RJA, "copyOf", "([JI)[J"⟩
def wsJA_copyOf : List Cond := .code yJA_copyOf cJA_copyOf 3 (some (.array .long)) :: wAll
abbrev cC3_init : ByteArray := prog_2_method_1_code
def yC3_init : MethodName := ⟨RC3, "<init>", "()V"⟩
def wsC3_init : List Cond := .code yC3_init cC3_init 1 none :: wAll
abbrev cC4_init : ByteArray := prog_3_method_1_code
def yC4_init : MethodName := ⟨RC4, "<init>", "(LMemberChoice$Types;LMemberChoice$Members;LMemberChoice$Arguments;)V"⟩
def wsC4_init : List Cond := .code yC4_init cC4_init 4 none :: wAll
abbrev cC2_init : ByteArray := prog_4_method_1_code
def yC2_init : MethodName := ⟨RC2, "<init>", "(LMemberChoice$Types;)V"⟩
def wsC2_init : List Cond := .code yC2_init cC2_init 2 none :: wAll
abbrev cC1_init : ByteArray := prog_5_method_1_code
def yC1_init : MethodName := ⟨RC1, "<init>", "()V"⟩
def wsC1_init : List Cond := .code yC1_init cC1_init 1 none :: wAll
abbrev cC0_init : ByteArray := prog_1_method_1_code
def yC0_init : MethodName := ⟨RC0, "<init>", "()V"⟩
def wsC0_init : List Cond := .code yC0_init cC0_init 1 none :: wAll
abbrev cCM_init : ByteArray := prog_7_method_1_code
def yCM_init : MethodName := ⟨RCM, "<init>", "()V"⟩
def wsCM_init : List Cond := .code yCM_init cCM_init 1 none :: wAll
theorem hdJA_fill : yJA_fill.cls ≠ "java/lang/invoke/MethodHandle" ∧ yJA_fill.cls ≠ "java/lang/invoke/VarHandle" ∧ (parseMethodDescriptor yJA_fill.desc).map (fun d => d.parameters.length) = some 2 := by decide +kernel
theorem hdJA_copyOf : yJA_copyOf.cls ≠ "java/lang/invoke/MethodHandle" ∧ yJA_copyOf.cls ≠ "java/lang/invoke/VarHandle" ∧ (parseMethodDescriptor yJA_copyOf.desc).map (fun d => d.parameters.length) = some 2 := by decide +kernel
theorem tb_1 : ∀ w ∈ tables_1_1, w ∈ lw_tbl := fun w h => List.mem_append_right _ (List.mem_append_left _ h)
theorem tb_2 : ∀ w ∈ tables_1_2, w ∈ lw_tbl := fun w h => List.mem_append_right _ (List.mem_append_right _ (List.mem_append_left _ h))
theorem tb_3 : ∀ w ∈ tables_1_3, w ∈ lw_tbl := fun w h => List.mem_append_right _ (List.mem_append_right _ (List.mem_append_right _ (List.mem_append_left _ h)))
theorem tb_4 : ∀ w ∈ tables_1_4, w ∈ lw_tbl := fun w h => List.mem_append_right _ (List.mem_append_right _ (List.mem_append_right _ (List.mem_append_right _ (h))))
theorem ps_1 : ∀ w ∈ k2_sels lw_privs_1, w ∈ lw_tbl := fun w h => List.mem_append_left _ (by
  obtain ⟨q, hq, rfl⟩ := List.mem_map.mp h
  exact List.mem_map.mpr ⟨q, (List.mem_append_left _ hq), rfl⟩)
theorem ps_2 : ∀ w ∈ k2_sels lw_privs_2, w ∈ lw_tbl := fun w h => List.mem_append_left _ (by
  obtain ⟨q, hq, rfl⟩ := List.mem_map.mp h
  exact List.mem_map.mpr ⟨q, (List.mem_append_right _ (List.mem_append_left _ hq)), rfl⟩)
theorem ps_3 : ∀ w ∈ k2_sels lw_privs_3, w ∈ lw_tbl := fun w h => List.mem_append_left _ (by
  obtain ⟨q, hq, rfl⟩ := List.mem_map.mp h
  exact List.mem_map.mpr ⟨q, (List.mem_append_right _ (List.mem_append_right _ (hq))), rfl⟩)
theorem mw_0 : .fieldLink RC0 10 "MemberChoice" "types" "LMemberChoice$Types;" ∈ wAll := wa (tb_1 _ (List.mem_of_getElem? (i := 161) rfl)) rfl
theorem mw_1 : .fieldLink RC1 32 "MemberChoice$Types" "told" "I" ∈ wAll := wa (tb_1 _ (List.mem_of_getElem? (i := 46) rfl)) rfl
theorem mw_2 : .fieldLink RC1 21 "MemberChoice$Types" "above" "[J" ∈ wAll := wa (tb_1 _ (List.mem_of_getElem? (i := 43) rfl)) rfl
theorem mw_3 : .fieldLink RC1 28 "MemberChoice$Types" "interfaces" "[Z" ∈ wAll := wa (tb_1 _ (List.mem_of_getElem? (i := 45) rfl)) rfl
theorem mw_4 : .methodLink RC0 52 yC1_add ∈ wAll := wa (tb_1 _ (List.mem_of_getElem? (i := 190) rfl)) rfl
theorem mw_5 : .instanceMethod yC1_add ∈ wAll := wa (tb_1 _ (List.mem_of_getElem? (i := 191) rfl)) rfl
theorem mw_6 : .selects RC1 yC1_add yC1_add ∈ wAll := wa (tb_1 _ (List.mem_of_getElem? (i := 192) rfl)) rfl
theorem mw_7 : .initialized RC1 ∈ wAll := wa (tb_1 _ (List.mem_of_getElem? (i := 2) rfl)) rfl
theorem mw_8 : .code yC1_add cC1_add 4 (some .int) ∈ wAll := wa (tb_1 _ (List.mem_of_getElem? (i := 193) rfl)) rfl
theorem mw_9 : .methodLink RC0 45 yC1_isTold ∈ wAll := wa (tb_1 _ (List.mem_of_getElem? (i := 181) rfl)) rfl
theorem mw_10 : .instanceMethod yC1_isTold ∈ wAll := wa (tb_1 _ (List.mem_of_getElem? (i := 182) rfl)) rfl
theorem mw_11 : .selects RC1 yC1_isTold yC1_isTold ∈ wAll := wa (tb_1 _ (List.mem_of_getElem? (i := 183) rfl)) rfl
theorem mw_12 : .code yC1_isTold cC1_isTold 2 (some .boolean) ∈ wAll := wa (tb_1 _ (List.mem_of_getElem? (i := 184) rfl)) rfl
theorem mw_13 : .methodLink RC1 36 yC1_isTold ∈ wAll := wa (tb_1 _ (List.mem_of_getElem? (i := 189) rfl)) rfl
theorem mw_14 : .methodLink RC0 49 yC1_isInterface ∈ wAll := wa (tb_1 _ (List.mem_of_getElem? (i := 185) rfl)) rfl
theorem mw_15 : .instanceMethod yC1_isInterface ∈ wAll := wa (tb_1 _ (List.mem_of_getElem? (i := 186) rfl)) rfl
theorem mw_16 : .selects RC1 yC1_isInterface yC1_isInterface ∈ wAll := wa (tb_1 _ (List.mem_of_getElem? (i := 187) rfl)) rfl
theorem mw_17 : .code yC1_isInterface cC1_isInterface 2 (some .boolean) ∈ wAll := wa (tb_1 _ (List.mem_of_getElem? (i := 188) rfl)) rfl
theorem mw_18 : .methodLink RC1 49 yC1_isInterface ∈ wAll := wa (tb_1 _ (List.mem_of_getElem? (i := 206) rfl)) rfl
theorem mw_19 : .fieldLink RC1 24 "MemberChoice$Types" "toldFaces" "[I" ∈ wAll := wa (tb_1 _ (List.mem_of_getElem? (i := 44) rfl)) rfl
theorem mw_20 : .constant RJI 265 1431655765 ∈ wAll := wa (tb_1 _ (List.mem_of_getElem? (i := 210) rfl)) rfl
theorem mw_21 : .constant RJI 266 858993459 ∈ wAll := wa (tb_1 _ (List.mem_of_getElem? (i := 211) rfl)) rfl
theorem mw_22 : .constant RJI 267 252645135 ∈ wAll := wa (tb_1 _ (List.mem_of_getElem? (i := 212) rfl)) rfl
theorem mw_23 : .methodLink RC1 52 yJI_bitCount ∈ wAll := wa (tb_1 _ (List.mem_of_getElem? (i := 207) rfl)) rfl
theorem mw_24 : .static yJI_bitCount ∈ wAll := wa (tb_1 _ (List.mem_of_getElem? (i := 208) rfl)) rfl
theorem mw_25 : .initialized RJI ∈ wAll := wa (tb_1 _ (List.mem_of_getElem? (i := 10) rfl)) rfl
theorem mw_26 : .code yJI_bitCount cJI_bitCount 1 (some .int) ∈ wAll := wa (tb_1 _ (List.mem_of_getElem? (i := 209) rfl)) rfl
theorem mw_27 : .methodLink RC1 58 yC1_isA ∈ wAll := wa (tb_1 _ (List.mem_of_getElem? (i := 213) rfl)) rfl
theorem mw_28 : .instanceMethod yC1_isA ∈ wAll := wa (tb_1 _ (List.mem_of_getElem? (i := 214) rfl)) rfl
theorem mw_29 : .selects RC1 yC1_isA yC1_isA ∈ wAll := wa (tb_1 _ (List.mem_of_getElem? (i := 215) rfl)) rfl
theorem mw_30 : .code yC1_isA cC1_isA 6 (some .boolean) ∈ wAll := wa (tb_1 _ (List.mem_of_getElem? (i := 216) rfl)) rfl
theorem mw_31 : .methodLink RC0 56 yC1_putBelow ∈ wAll := wa (tb_1 _ (List.mem_of_getElem? (i := 202) rfl)) rfl
theorem mw_32 : .instanceMethod yC1_putBelow ∈ wAll := wa (tb_1 _ (List.mem_of_getElem? (i := 203) rfl)) rfl
theorem mw_33 : .selects RC1 yC1_putBelow yC1_putBelow ∈ wAll := wa (tb_1 _ (List.mem_of_getElem? (i := 204) rfl)) rfl
theorem mw_34 : .code yC1_putBelow cC1_putBelow 7 (some .int) ∈ wAll := wa (tb_1 _ (List.mem_of_getElem? (i := 205) rfl)) rfl
theorem mw_35 : .fieldLink RC0 21 "MemberChoice" "members" "LMemberChoice$Members;" ∈ wAll := wa (tb_1 _ (List.mem_of_getElem? (i := 162) rfl)) rfl
theorem mw_36 : .fieldLink RC2 121 "MemberChoice$Members" "functionsSettled" "Z" ∈ wAll := wa (tb_1 _ (List.mem_of_getElem? (i := 76) rfl)) rfl
theorem mw_37 : .methodLink RC0 60 yC2_forgetFunctions ∈ wAll := wa (tb_1 _ (List.mem_of_getElem? (i := 217) rfl)) rfl
theorem mw_38 : .instanceMethod yC2_forgetFunctions ∈ wAll := wa (tb_1 _ (List.mem_of_getElem? (i := 218) rfl)) rfl
theorem mw_39 : .selects RC2 yC2_forgetFunctions yC2_forgetFunctions ∈ wAll := wa (tb_1 _ (List.mem_of_getElem? (i := 219) rfl)) rfl
theorem mw_40 : .initialized RC2 ∈ wAll := wa (tb_1 _ (List.mem_of_getElem? (i := 6) rfl)) rfl
theorem mw_41 : .code yC2_forgetFunctions cC2_forgetFunctions 1 none ∈ wAll := wa (tb_1 _ (List.mem_of_getElem? (i := 220) rfl)) rfl
theorem mw_42 : .fieldLink RC2 15 "MemberChoice$Members" "owners" "[I" ∈ wAll := wa (tb_1 _ (List.mem_of_getElem? (i := 69) rfl)) rfl
theorem mw_43 : .fieldLink RC2 45 "MemberChoice$Members" "size" "I" ∈ wAll := wa (tb_1 _ (List.mem_of_getElem? (i := 77) rfl)) rfl
theorem mw_44 : .fieldLink RC2 19 "MemberChoice$Members" "names" "[I" ∈ wAll := wa (tb_1 _ (List.mem_of_getElem? (i := 70) rfl)) rfl
theorem mw_45 : .fieldLink RC2 22 "MemberChoice$Members" "marks" "[I" ∈ wAll := wa (tb_1 _ (List.mem_of_getElem? (i := 71) rfl)) rfl
theorem mw_46 : .fieldLink RC2 25 "MemberChoice$Members" "results" "[I" ∈ wAll := wa (tb_1 _ (List.mem_of_getElem? (i := 72) rfl)) rfl
theorem mw_47 : .methodLink RC0 63 yC2_draftHead ∈ wAll := wa (tb_1 _ (List.mem_of_getElem? (i := 225) rfl)) rfl
theorem mw_48 : .instanceMethod yC2_draftHead ∈ wAll := wa (tb_1 _ (List.mem_of_getElem? (i := 226) rfl)) rfl
theorem mw_49 : .selects RC2 yC2_draftHead yC2_draftHead ∈ wAll := wa (tb_1 _ (List.mem_of_getElem? (i := 227) rfl)) rfl
theorem mw_50 : .code yC2_draftHead cC2_draftHead 5 none ∈ wAll := wa (tb_1 _ (List.mem_of_getElem? (i := 228) rfl)) rfl
theorem mw_51 : .fieldLink RC2 28 "MemberChoice$Members" "widths" "[I" ∈ wAll := wa (tb_1 _ (List.mem_of_getElem? (i := 73) rfl)) rfl
theorem mw_52 : .fieldLink RC2 31 "MemberChoice$Members" "parameters" "[I" ∈ wAll := wa (tb_1 _ (List.mem_of_getElem? (i := 74) rfl)) rfl
theorem mw_53 : .methodLink RC0 67 yC2_draftParameters ∈ wAll := wa (tb_1 _ (List.mem_of_getElem? (i := 229) rfl)) rfl
theorem mw_54 : .instanceMethod yC2_draftParameters ∈ wAll := wa (tb_1 _ (List.mem_of_getElem? (i := 230) rfl)) rfl
theorem mw_55 : .selects RC2 yC2_draftParameters yC2_draftParameters ∈ wAll := wa (tb_1 _ (List.mem_of_getElem? (i := 231) rfl)) rfl
theorem mw_56 : .code yC2_draftParameters cC2_draftParameters 7 none ∈ wAll := wa (tb_1 _ (List.mem_of_getElem? (i := 232) rfl)) rfl
theorem mw_57 : .fieldLink RC2 9 "MemberChoice$Members" "types" "LMemberChoice$Types;" ∈ wAll := wa (tb_1 _ (List.mem_of_getElem? (i := 68) rfl)) rfl
theorem mw_58 : .methodLink RC2 62 yC1_isTold ∈ wAll := wa (tb_2 _ (List.mem_of_getElem? (i := 1) rfl)) rfl
theorem mw_59 : .methodLink RC2 71 yC1_isInterface ∈ wAll := wa (tb_2 _ (List.mem_of_getElem? (i := 6) rfl)) rfl
theorem mw_60 : .methodLink RC2 77 yC2_isAbstract ∈ wAll := wa (tb_2 _ (List.mem_of_getElem? (i := 11) rfl)) rfl
theorem mw_61 : .instanceMethod yC2_isAbstract ∈ wAll := wa (tb_2 _ (List.mem_of_getElem? (i := 12) rfl)) rfl
theorem mw_62 : .selects RC2 yC2_isAbstract yC2_isAbstract ∈ wAll := wa (tb_2 _ (List.mem_of_getElem? (i := 13) rfl)) rfl
theorem mw_63 : .code yC2_isAbstract cC2_isAbstract 2 (some .boolean) ∈ wAll := wa (tb_2 _ (List.mem_of_getElem? (i := 14) rfl)) rfl
theorem mw_64 : .methodLink RC2 80 yC2_isStatic ∈ wAll := wa (tb_2 _ (List.mem_of_getElem? (i := 15) rfl)) rfl
theorem mw_65 : .instanceMethod yC2_isStatic ∈ wAll := wa (tb_2 _ (List.mem_of_getElem? (i := 16) rfl)) rfl
theorem mw_66 : .selects RC2 yC2_isStatic yC2_isStatic ∈ wAll := wa (tb_2 _ (List.mem_of_getElem? (i := 17) rfl)) rfl
theorem mw_67 : .code yC2_isStatic cC2_isStatic 2 (some .boolean) ∈ wAll := wa (tb_2 _ (List.mem_of_getElem? (i := 18) rfl)) rfl
theorem mw_68 : .methodLink RC2 74 yC2_isPrivate ∈ wAll := wa (tb_2 _ (List.mem_of_getElem? (i := 7) rfl)) rfl
theorem mw_69 : .instanceMethod yC2_isPrivate ∈ wAll := wa (tb_2 _ (List.mem_of_getElem? (i := 8) rfl)) rfl
theorem mw_70 : .selects RC2 yC2_isPrivate yC2_isPrivate ∈ wAll := wa (tb_2 _ (List.mem_of_getElem? (i := 9) rfl)) rfl
theorem mw_71 : .code yC2_isPrivate cC2_isPrivate 2 (some .boolean) ∈ wAll := wa (tb_2 _ (List.mem_of_getElem? (i := 10) rfl)) rfl
theorem mw_72 : .methodLink RC2 65 yC2_hasGoodMarks ∈ wAll := wa (tb_2 _ (List.mem_of_getElem? (i := 2) rfl)) rfl
theorem mw_73 : .instanceMethod yC2_hasGoodMarks ∈ wAll := wa (tb_2 _ (List.mem_of_getElem? (i := 4) rfl)) rfl
theorem mw_74 : .selects RC2 yC2_hasGoodMarks yC2_hasGoodMarks ∈ wAll := wa (ps_1 _ (List.mem_of_getElem? (i := 1) rfl)) rfl
theorem mw_75 : .code yC2_hasGoodMarks cC2_hasGoodMarks 3 (some .boolean) ∈ wAll := wa (tb_2 _ (List.mem_of_getElem? (i := 5) rfl)) rfl
theorem mw_76 : .methodLink RC1 40 yC1_isElement ∈ wAll := wa (tb_2 _ (List.mem_of_getElem? (i := 27) rfl)) rfl
theorem mw_77 : .instanceMethod yC1_isElement ∈ wAll := wa (tb_2 _ (List.mem_of_getElem? (i := 29) rfl)) rfl
theorem mw_78 : .selects RC1 yC1_isElement yC1_isElement ∈ wAll := wa (ps_1 _ (List.mem_of_getElem? (i := 2) rfl)) rfl
theorem mw_79 : .code yC1_isElement cC1_isElement 2 (some .boolean) ∈ wAll := wa (tb_2 _ (List.mem_of_getElem? (i := 30) rfl)) rfl
theorem mw_80 : .methodLink RC1 43 yC1_isArray ∈ wAll := wa (tb_2 _ (List.mem_of_getElem? (i := 31) rfl)) rfl
theorem mw_81 : .instanceMethod yC1_isArray ∈ wAll := wa (tb_2 _ (List.mem_of_getElem? (i := 32) rfl)) rfl
theorem mw_82 : .selects RC1 yC1_isArray yC1_isArray ∈ wAll := wa (tb_2 _ (List.mem_of_getElem? (i := 33) rfl)) rfl
theorem mw_83 : .code yC1_isArray cC1_isArray 2 (some .boolean) ∈ wAll := wa (tb_2 _ (List.mem_of_getElem? (i := 34) rfl)) rfl
theorem mw_84 : .methodLink RC1 46 yC1_canBeDeclared ∈ wAll := wa (tb_2 _ (List.mem_of_getElem? (i := 23) rfl)) rfl
theorem mw_85 : .instanceMethod yC1_canBeDeclared ∈ wAll := wa (tb_2 _ (List.mem_of_getElem? (i := 24) rfl)) rfl
theorem mw_86 : .selects RC1 yC1_canBeDeclared yC1_canBeDeclared ∈ wAll := wa (tb_2 _ (List.mem_of_getElem? (i := 25) rfl)) rfl
theorem mw_87 : .code yC1_canBeDeclared cC1_canBeDeclared 2 (some .boolean) ∈ wAll := wa (tb_2 _ (List.mem_of_getElem? (i := 26) rfl)) rfl
theorem mw_88 : .methodLink RC2 68 yC1_canBeResult ∈ wAll := wa (tb_2 _ (List.mem_of_getElem? (i := 19) rfl)) rfl
theorem mw_89 : .instanceMethod yC1_canBeResult ∈ wAll := wa (tb_2 _ (List.mem_of_getElem? (i := 20) rfl)) rfl
theorem mw_90 : .selects RC1 yC1_canBeResult yC1_canBeResult ∈ wAll := wa (tb_2 _ (List.mem_of_getElem? (i := 21) rfl)) rfl
theorem mw_91 : .code yC1_canBeResult cC1_canBeResult 2 (some .boolean) ∈ wAll := wa (tb_2 _ (List.mem_of_getElem? (i := 22) rfl)) rfl
theorem mw_92 : .methodLink RC2 49 yC2_hasGoodHead ∈ wAll := wa (tb_1 _ (List.mem_of_getElem? (i := 237) rfl)) rfl
theorem mw_93 : .instanceMethod yC2_hasGoodHead ∈ wAll := wa (tb_1 _ (List.mem_of_getElem? (i := 239) rfl)) rfl
theorem mw_94 : .selects RC2 yC2_hasGoodHead yC2_hasGoodHead ∈ wAll := wa (ps_1 _ (List.mem_of_getElem? (i := 0) rfl)) rfl
theorem mw_95 : .code yC2_hasGoodHead cC2_hasGoodHead 3 (some .boolean) ∈ wAll := wa (tb_2 _ (List.mem_of_getElem? (i := 0) rfl)) rfl
theorem mw_96 : .methodLink RC2 90 yC2_isVaried ∈ wAll := wa (tb_2 _ (List.mem_of_getElem? (i := 44) rfl)) rfl
theorem mw_97 : .instanceMethod yC2_isVaried ∈ wAll := wa (tb_2 _ (List.mem_of_getElem? (i := 45) rfl)) rfl
theorem mw_98 : .selects RC2 yC2_isVaried yC2_isVaried ∈ wAll := wa (tb_2 _ (List.mem_of_getElem? (i := 46) rfl)) rfl
theorem mw_99 : .code yC2_isVaried cC2_isVaried 2 (some .boolean) ∈ wAll := wa (tb_2 _ (List.mem_of_getElem? (i := 47) rfl)) rfl
theorem mw_100 : .methodLink RC2 83 yC2_parameterAt ∈ wAll := wa (tb_2 _ (List.mem_of_getElem? (i := 39) rfl)) rfl
theorem mw_101 : .instanceMethod yC2_parameterAt ∈ wAll := wa (tb_2 _ (List.mem_of_getElem? (i := 40) rfl)) rfl
theorem mw_102 : .selects RC2 yC2_parameterAt yC2_parameterAt ∈ wAll := wa (tb_2 _ (List.mem_of_getElem? (i := 41) rfl)) rfl
theorem mw_103 : .code yC2_parameterAt cC2_parameterAt 3 (some .int) ∈ wAll := wa (tb_2 _ (List.mem_of_getElem? (i := 42) rfl)) rfl
theorem mw_104 : .methodLink RC2 93 yC1_isArray ∈ wAll := wa (tb_2 _ (List.mem_of_getElem? (i := 48) rfl)) rfl
theorem mw_105 : .methodLink RC2 87 yC1_canBeDeclared ∈ wAll := wa (tb_2 _ (List.mem_of_getElem? (i := 43) rfl)) rfl
theorem mw_106 : .methodLink RC2 53 yC2_hasGoodParameters ∈ wAll := wa (tb_2 _ (List.mem_of_getElem? (i := 35) rfl)) rfl
theorem mw_107 : .instanceMethod yC2_hasGoodParameters ∈ wAll := wa (tb_2 _ (List.mem_of_getElem? (i := 37) rfl)) rfl
theorem mw_108 : .selects RC2 yC2_hasGoodParameters yC2_hasGoodParameters ∈ wAll := wa (ps_1 _ (List.mem_of_getElem? (i := 3) rfl)) rfl
theorem mw_109 : .code yC2_hasGoodParameters cC2_hasGoodParameters 3 (some .boolean) ∈ wAll := wa (tb_2 _ (List.mem_of_getElem? (i := 38) rfl)) rfl
theorem mw_110 : .methodLink RC2 96 yC2_sameParameters ∈ wAll := wa (tb_2 _ (List.mem_of_getElem? (i := 53) rfl)) rfl
theorem mw_111 : .instanceMethod yC2_sameParameters ∈ wAll := wa (tb_2 _ (List.mem_of_getElem? (i := 54) rfl)) rfl
theorem mw_112 : .selects RC2 yC2_sameParameters yC2_sameParameters ∈ wAll := wa (tb_2 _ (List.mem_of_getElem? (i := 55) rfl)) rfl
theorem mw_113 : .code yC2_sameParameters cC2_sameParameters 4 (some .boolean) ∈ wAll := wa (tb_2 _ (List.mem_of_getElem? (i := 56) rfl)) rfl
theorem mw_114 : .methodLink RC2 56 yC2_isToldTwice ∈ wAll := wa (tb_2 _ (List.mem_of_getElem? (i := 49) rfl)) rfl
theorem mw_115 : .instanceMethod yC2_isToldTwice ∈ wAll := wa (tb_2 _ (List.mem_of_getElem? (i := 51) rfl)) rfl
theorem mw_116 : .selects RC2 yC2_isToldTwice yC2_isToldTwice ∈ wAll := wa (ps_1 _ (List.mem_of_getElem? (i := 4) rfl)) rfl
theorem mw_117 : .code yC2_isToldTwice cC2_isToldTwice 3 (some .boolean) ∈ wAll := wa (tb_2 _ (List.mem_of_getElem? (i := 52) rfl)) rfl
theorem mw_118 : .methodLink RC2 59 yC2_forgetFunctions ∈ wAll := wa (tb_2 _ (List.mem_of_getElem? (i := 57) rfl)) rfl
theorem mw_119 : .methodLink RC0 71 yC2_keepDraft ∈ wAll := wa (tb_1 _ (List.mem_of_getElem? (i := 233) rfl)) rfl
theorem mw_120 : .instanceMethod yC2_keepDraft ∈ wAll := wa (tb_1 _ (List.mem_of_getElem? (i := 234) rfl)) rfl
theorem mw_121 : .selects RC2 yC2_keepDraft yC2_keepDraft ∈ wAll := wa (tb_1 _ (List.mem_of_getElem? (i := 235) rfl)) rfl
theorem mw_122 : .code yC2_keepDraft cC2_keepDraft 1 (some .int) ∈ wAll := wa (tb_1 _ (List.mem_of_getElem? (i := 236) rfl)) rfl
theorem mw_123 : .methodLink RC0 75 yC1_isType ∈ wAll := wa (tb_2 _ (List.mem_of_getElem? (i := 62) rfl)) rfl
theorem mw_124 : .instanceMethod yC1_isType ∈ wAll := wa (tb_2 _ (List.mem_of_getElem? (i := 63) rfl)) rfl
theorem mw_125 : .selects RC1 yC1_isType yC1_isType ∈ wAll := wa (tb_2 _ (List.mem_of_getElem? (i := 64) rfl)) rfl
theorem mw_126 : .code yC1_isType cC1_isType 2 (some .boolean) ∈ wAll := wa (tb_2 _ (List.mem_of_getElem? (i := 65) rfl)) rfl
theorem mw_127 : .methodLink RC1 62 yC1_isPrimitive ∈ wAll := wa (tb_2 _ (List.mem_of_getElem? (i := 70) rfl)) rfl
theorem mw_128 : .instanceMethod yC1_isPrimitive ∈ wAll := wa (tb_2 _ (List.mem_of_getElem? (i := 71) rfl)) rfl
theorem mw_129 : .selects RC1 yC1_isPrimitive yC1_isPrimitive ∈ wAll := wa (tb_2 _ (List.mem_of_getElem? (i := 72) rfl)) rfl
theorem mw_130 : .code yC1_isPrimitive cC1_isPrimitive 2 (some .boolean) ∈ wAll := wa (tb_2 _ (List.mem_of_getElem? (i := 73) rfl)) rfl
theorem mw_131 : .methodLink RC0 78 yC1_accepts ∈ wAll := wa (tb_2 _ (List.mem_of_getElem? (i := 66) rfl)) rfl
theorem mw_132 : .instanceMethod yC1_accepts ∈ wAll := wa (tb_2 _ (List.mem_of_getElem? (i := 67) rfl)) rfl
theorem mw_133 : .selects RC1 yC1_accepts yC1_accepts ∈ wAll := wa (tb_2 _ (List.mem_of_getElem? (i := 68) rfl)) rfl
theorem mw_134 : .code yC1_accepts cC1_accepts 5 (some .boolean) ∈ wAll := wa (tb_2 _ (List.mem_of_getElem? (i := 69) rfl)) rfl
theorem mw_135 : .methodLink RC2 125 yC1_size ∈ wAll := wa (tb_2 _ (List.mem_of_getElem? (i := 86) rfl)) rfl
theorem mw_136 : .instanceMethod yC1_size ∈ wAll := wa (tb_2 _ (List.mem_of_getElem? (i := 87) rfl)) rfl
theorem mw_137 : .selects RC1 yC1_size yC1_size ∈ wAll := wa (tb_2 _ (List.mem_of_getElem? (i := 88) rfl)) rfl
theorem mw_138 : .code yC1_size cC1_size 1 (some .int) ∈ wAll := wa (tb_2 _ (List.mem_of_getElem? (i := 89) rfl)) rfl
theorem mw_139 : .fieldLink RC2 36 "MemberChoice$Members" "functions" "[I" ∈ wAll := wa (tb_1 _ (List.mem_of_getElem? (i := 75) rfl)) rfl
theorem mw_140 : .methodLink RC2 112 yC1_isA ∈ wAll := wa (tb_2 _ (List.mem_of_getElem? (i := 98) rfl)) rfl
theorem mw_141 : .methodLink RC2 118 yC2_overrides ∈ wAll := wa (tb_2 _ (List.mem_of_getElem? (i := 103) rfl)) rfl
theorem mw_142 : .instanceMethod yC2_overrides ∈ wAll := wa (tb_2 _ (List.mem_of_getElem? (i := 105) rfl)) rfl
theorem mw_143 : .selects RC2 yC2_overrides yC2_overrides ∈ wAll := wa (ps_1 _ (List.mem_of_getElem? (i := 8) rfl)) rfl
theorem mw_144 : .code yC2_overrides cC2_overrides 4 (some .boolean) ∈ wAll := wa (tb_2 _ (List.mem_of_getElem? (i := 106) rfl)) rfl
theorem mw_145 : .methodLink RC2 115 yC2_isOverridden ∈ wAll := wa (tb_2 _ (List.mem_of_getElem? (i := 99) rfl)) rfl
theorem mw_146 : .instanceMethod yC2_isOverridden ∈ wAll := wa (tb_2 _ (List.mem_of_getElem? (i := 101) rfl)) rfl
theorem mw_147 : .selects RC2 yC2_isOverridden yC2_isOverridden ∈ wAll := wa (ps_1 _ (List.mem_of_getElem? (i := 7) rfl)) rfl
theorem mw_148 : .code yC2_isOverridden cC2_isOverridden 4 (some .boolean) ∈ wAll := wa (tb_2 _ (List.mem_of_getElem? (i := 102) rfl)) rfl
theorem mw_149 : .methodLink RC2 108 yC2_isSeen ∈ wAll := wa (tb_2 _ (List.mem_of_getElem? (i := 94) rfl)) rfl
theorem mw_150 : .instanceMethod yC2_isSeen ∈ wAll := wa (tb_2 _ (List.mem_of_getElem? (i := 96) rfl)) rfl
theorem mw_151 : .selects RC2 yC2_isSeen yC2_isSeen ∈ wAll := wa (ps_1 _ (List.mem_of_getElem? (i := 6) rfl)) rfl
theorem mw_152 : .code yC2_isSeen cC2_isSeen 4 (some .boolean) ∈ wAll := wa (tb_2 _ (List.mem_of_getElem? (i := 97) rfl)) rfl
theorem mw_153 : .methodLink RC2 128 yC2_findFunction ∈ wAll := wa (tb_2 _ (List.mem_of_getElem? (i := 90) rfl)) rfl
theorem mw_154 : .instanceMethod yC2_findFunction ∈ wAll := wa (tb_2 _ (List.mem_of_getElem? (i := 92) rfl)) rfl
theorem mw_155 : .selects RC2 yC2_findFunction yC2_findFunction ∈ wAll := wa (ps_1 _ (List.mem_of_getElem? (i := 5) rfl)) rfl
theorem mw_156 : .code yC2_findFunction cC2_findFunction 4 (some .int) ∈ wAll := wa (tb_2 _ (List.mem_of_getElem? (i := 93) rfl)) rfl
theorem mw_157 : .methodLink RC0 82 yC2_settleFunctions ∈ wAll := wa (tb_2 _ (List.mem_of_getElem? (i := 82) rfl)) rfl
theorem mw_158 : .instanceMethod yC2_settleFunctions ∈ wAll := wa (tb_2 _ (List.mem_of_getElem? (i := 83) rfl)) rfl
theorem mw_159 : .selects RC2 yC2_settleFunctions yC2_settleFunctions ∈ wAll := wa (tb_2 _ (List.mem_of_getElem? (i := 84) rfl)) rfl
theorem mw_160 : .code yC2_settleFunctions cC2_settleFunctions 3 none ∈ wAll := wa (tb_2 _ (List.mem_of_getElem? (i := 85) rfl)) rfl
theorem mw_161 : .methodLink RC0 85 yC2_functionOf ∈ wAll := wa (tb_2 _ (List.mem_of_getElem? (i := 107) rfl)) rfl
theorem mw_162 : .instanceMethod yC2_functionOf ∈ wAll := wa (tb_2 _ (List.mem_of_getElem? (i := 108) rfl)) rfl
theorem mw_163 : .selects RC2 yC2_functionOf yC2_functionOf ∈ wAll := wa (tb_2 _ (List.mem_of_getElem? (i := 109) rfl)) rfl
theorem mw_164 : .code yC2_functionOf cC2_functionOf 2 (some .int) ∈ wAll := wa (tb_2 _ (List.mem_of_getElem? (i := 110) rfl)) rfl
theorem mw_165 : .methodLink RC0 89 yC0_canBeAsked ∈ wAll := wa (tb_2 _ (List.mem_of_getElem? (i := 115) rfl)) rfl
theorem mw_166 : .instanceMethod yC0_canBeAsked ∈ wAll := wa (tb_2 _ (List.mem_of_getElem? (i := 117) rfl)) rfl
theorem mw_167 : .selects RC0 yC0_canBeAsked yC0_canBeAsked ∈ wAll := wa (ps_1 _ (List.mem_of_getElem? (i := 9) rfl)) rfl
theorem mw_168 : .initialized RC0 ∈ wAll := wa (tb_1 _ (List.mem_of_getElem? (i := 1) rfl)) rfl
theorem mw_169 : .code yC0_canBeAsked cC0_canBeAsked 4 (some .boolean) ∈ wAll := wa (tb_2 _ (List.mem_of_getElem? (i := 118) rfl)) rfl
theorem mw_170 : .fieldLink RC0 41 "MemberChoice" "seenRow" "[I" ∈ wAll := wa (tb_1 _ (List.mem_of_getElem? (i := 165) rfl)) rfl
theorem mw_171 : .methodLink RC0 93 yC2_listSeen ∈ wAll := wa (tb_2 _ (List.mem_of_getElem? (i := 119) rfl)) rfl
theorem mw_172 : .instanceMethod yC2_listSeen ∈ wAll := wa (tb_2 _ (List.mem_of_getElem? (i := 120) rfl)) rfl
theorem mw_173 : .selects RC2 yC2_listSeen yC2_listSeen ∈ wAll := wa (tb_2 _ (List.mem_of_getElem? (i := 121) rfl)) rfl
theorem mw_174 : .code yC2_listSeen cC2_listSeen 7 (some .int) ∈ wAll := wa (tb_2 _ (List.mem_of_getElem? (i := 122) rfl)) rfl
theorem mw_175 : .fieldLink RC0 28 "MemberChoice" "arguments" "LMemberChoice$Arguments;" ∈ wAll := wa (tb_1 _ (List.mem_of_getElem? (i := 163) rfl)) rfl
theorem mw_176 : .fieldLink RC3 28 "MemberChoice$Arguments" "size" "I" ∈ wAll := wa (tb_1 _ (List.mem_of_getElem? (i := 110) rfl)) rfl
theorem mw_177 : .fieldLink RC3 11 "MemberChoice$Arguments" "lambdas" "[Z" ∈ wAll := wa (tb_1 _ (List.mem_of_getElem? (i := 105) rfl)) rfl
theorem mw_178 : .fieldLink RC3 15 "MemberChoice$Arguments" "toldOnes" "[Z" ∈ wAll := wa (tb_1 _ (List.mem_of_getElem? (i := 106) rfl)) rfl
theorem mw_179 : .fieldLink RC3 18 "MemberChoice$Arguments" "values" "[I" ∈ wAll := wa (tb_1 _ (List.mem_of_getElem? (i := 107) rfl)) rfl
theorem mw_180 : .fieldLink RC3 22 "MemberChoice$Arguments" "widths" "[I" ∈ wAll := wa (tb_1 _ (List.mem_of_getElem? (i := 108) rfl)) rfl
theorem mw_181 : .methodLink RC0 97 yC3_addType ∈ wAll := wa (tb_2 _ (List.mem_of_getElem? (i := 131) rfl)) rfl
theorem mw_182 : .instanceMethod yC3_addType ∈ wAll := wa (tb_2 _ (List.mem_of_getElem? (i := 132) rfl)) rfl
theorem mw_183 : .selects RC3 yC3_addType yC3_addType ∈ wAll := wa (tb_2 _ (List.mem_of_getElem? (i := 133) rfl)) rfl
theorem mw_184 : .initialized RC3 ∈ wAll := wa (tb_1 _ (List.mem_of_getElem? (i := 7) rfl)) rfl
theorem mw_185 : .code yC3_addType cC3_addType 2 (some .int) ∈ wAll := wa (tb_2 _ (List.mem_of_getElem? (i := 134) rfl)) rfl
theorem mw_186 : .methodLink RC0 100 yC1_canBeResult ∈ wAll := wa (tb_2 _ (List.mem_of_getElem? (i := 139) rfl)) rfl
theorem mw_187 : .fieldLink RC3 25 "MemberChoice$Arguments" "parameters" "[I" ∈ wAll := wa (tb_1 _ (List.mem_of_getElem? (i := 109) rfl)) rfl
theorem mw_188 : .methodLink RC0 106 yC3_addLambda ∈ wAll := wa (tb_2 _ (List.mem_of_getElem? (i := 141) rfl)) rfl
theorem mw_189 : .instanceMethod yC3_addLambda ∈ wAll := wa (tb_2 _ (List.mem_of_getElem? (i := 142) rfl)) rfl
theorem mw_190 : .selects RC3 yC3_addLambda yC3_addLambda ∈ wAll := wa (tb_2 _ (List.mem_of_getElem? (i := 143) rfl)) rfl
theorem mw_191 : .code yC3_addLambda cC3_addLambda 6 (some .int) ∈ wAll := wa (tb_2 _ (List.mem_of_getElem? (i := 144) rfl)) rfl
theorem mw_192 : .methodLink RC0 103 yC1_canBeDeclared ∈ wAll := wa (tb_2 _ (List.mem_of_getElem? (i := 140) rfl)) rfl
theorem mw_193 : .methodLink RC0 110 yC3_clear ∈ wAll := wa (tb_2 _ (List.mem_of_getElem? (i := 149) rfl)) rfl
theorem mw_194 : .instanceMethod yC3_clear ∈ wAll := wa (tb_2 _ (List.mem_of_getElem? (i := 150) rfl)) rfl
theorem mw_195 : .selects RC3 yC3_clear yC3_clear ∈ wAll := wa (tb_2 _ (List.mem_of_getElem? (i := 151) rfl)) rfl
theorem mw_196 : .code yC3_clear cC3_clear 2 (some .int) ∈ wAll := wa (tb_2 _ (List.mem_of_getElem? (i := 152) rfl)) rfl
theorem mw_197 : .fieldLink RC0 37 "MemberChoice" "latest" "LMemberChoice$Choice;" ∈ wAll := wa (tb_1 _ (List.mem_of_getElem? (i := 164) rfl)) rfl
theorem mw_198 : .fieldLink RC4 36 "MemberChoice$Choice" "reached" "I" ∈ wAll := wa (tb_1 _ (List.mem_of_getElem? (i := 139) rfl)) rfl
theorem mw_199 : .fieldLink RC4 40 "MemberChoice$Choice" "applyingCount" "I" ∈ wAll := wa (tb_1 _ (List.mem_of_getElem? (i := 137) rfl)) rfl
theorem mw_200 : .fieldLink RC4 47 "MemberChoice$Choice" "applyingBits" "J" ∈ wAll := wa (tb_1 _ (List.mem_of_getElem? (i := 138) rfl)) rfl
theorem mw_201 : .methodLink RC4 51 yC4_forget ∈ wAll := wa (tb_2 _ (List.mem_of_getElem? (i := 161) rfl)) rfl
theorem mw_202 : .instanceMethod yC4_forget ∈ wAll := wa (tb_2 _ (List.mem_of_getElem? (i := 163) rfl)) rfl
theorem mw_203 : .selects RC4 yC4_forget yC4_forget ∈ wAll := wa (ps_1 _ (List.mem_of_getElem? (i := 10) rfl)) rfl
theorem mw_204 : .initialized RC4 ∈ wAll := wa (tb_1 _ (List.mem_of_getElem? (i := 8) rfl)) rfl
theorem mw_205 : .code yC4_forget cC4_forget 1 none ∈ wAll := wa (tb_2 _ (List.mem_of_getElem? (i := 164) rfl)) rfl
theorem mw_206 : .fieldLink RC4 15 "MemberChoice$Choice" "members" "LMemberChoice$Members;" ∈ wAll := wa (tb_1 _ (List.mem_of_getElem? (i := 131) rfl)) rfl
theorem mw_207 : .methodLink RC4 54 yC2_settleFunctions ∈ wAll := wa (tb_2 _ (List.mem_of_getElem? (i := 165) rfl)) rfl
theorem mw_208 : .fieldLink RC4 25 "MemberChoice$Choice" "candidates" "[I" ∈ wAll := wa (tb_1 _ (List.mem_of_getElem? (i := 133) rfl)) rfl
theorem mw_209 : .methodLink RC4 57 yC2_listSeen ∈ wAll := wa (tb_2 _ (List.mem_of_getElem? (i := 166) rfl)) rfl
theorem mw_210 : .fieldLink RC4 61 "MemberChoice$Choice" "candidateCount" "I" ∈ wAll := wa (tb_1 _ (List.mem_of_getElem? (i := 136) rfl)) rfl
theorem mw_211 : .methodLink RC4 94 yC2_isVaried ∈ wAll := wa (tb_2 _ (List.mem_of_getElem? (i := 175) rfl)) rfl
theorem mw_212 : .methodLink RC4 97 yC2_widthOf ∈ wAll := wa (tb_2 _ (List.mem_of_getElem? (i := 176) rfl)) rfl
theorem mw_213 : .instanceMethod yC2_widthOf ∈ wAll := wa (tb_2 _ (List.mem_of_getElem? (i := 177) rfl)) rfl
theorem mw_214 : .selects RC2 yC2_widthOf yC2_widthOf ∈ wAll := wa (tb_2 _ (List.mem_of_getElem? (i := 178) rfl)) rfl
theorem mw_215 : .code yC2_widthOf cC2_widthOf 2 (some .int) ∈ wAll := wa (tb_2 _ (List.mem_of_getElem? (i := 179) rfl)) rfl
theorem mw_216 : .fieldLink RC4 19 "MemberChoice$Choice" "arguments" "LMemberChoice$Arguments;" ∈ wAll := wa (tb_1 _ (List.mem_of_getElem? (i := 132) rfl)) rfl
theorem mw_217 : .methodLink RC4 101 yC3_size ∈ wAll := wa (tb_2 _ (List.mem_of_getElem? (i := 180) rfl)) rfl
theorem mw_218 : .instanceMethod yC3_size ∈ wAll := wa (tb_2 _ (List.mem_of_getElem? (i := 181) rfl)) rfl
theorem mw_219 : .selects RC3 yC3_size yC3_size ∈ wAll := wa (tb_2 _ (List.mem_of_getElem? (i := 182) rfl)) rfl
theorem mw_220 : .code yC3_size cC3_size 1 (some .int) ∈ wAll := wa (tb_2 _ (List.mem_of_getElem? (i := 183) rfl)) rfl
theorem mw_221 : .methodLink RC4 106 yC3_isLambda ∈ wAll := wa (tb_2 _ (List.mem_of_getElem? (i := 184) rfl)) rfl
theorem mw_222 : .instanceMethod yC3_isLambda ∈ wAll := wa (tb_2 _ (List.mem_of_getElem? (i := 185) rfl)) rfl
theorem mw_223 : .selects RC3 yC3_isLambda yC3_isLambda ∈ wAll := wa (tb_2 _ (List.mem_of_getElem? (i := 186) rfl)) rfl
theorem mw_224 : .code yC3_isLambda cC3_isLambda 2 (some .boolean) ∈ wAll := wa (tb_2 _ (List.mem_of_getElem? (i := 187) rfl)) rfl
theorem mw_225 : .methodLink RC2 100 yC1_elementOf ∈ wAll := wa (tb_2 _ (List.mem_of_getElem? (i := 192) rfl)) rfl
theorem mw_226 : .instanceMethod yC1_elementOf ∈ wAll := wa (tb_2 _ (List.mem_of_getElem? (i := 193) rfl)) rfl
theorem mw_227 : .selects RC1 yC1_elementOf yC1_elementOf ∈ wAll := wa (tb_2 _ (List.mem_of_getElem? (i := 194) rfl)) rfl
theorem mw_228 : .code yC1_elementOf cC1_elementOf 2 (some .int) ∈ wAll := wa (tb_2 _ (List.mem_of_getElem? (i := 195) rfl)) rfl
theorem mw_229 : .methodLink RC4 109 yC2_facing ∈ wAll := wa (tb_2 _ (List.mem_of_getElem? (i := 188) rfl)) rfl
theorem mw_230 : .instanceMethod yC2_facing ∈ wAll := wa (tb_2 _ (List.mem_of_getElem? (i := 189) rfl)) rfl
theorem mw_231 : .selects RC2 yC2_facing yC2_facing ∈ wAll := wa (tb_2 _ (List.mem_of_getElem? (i := 190) rfl)) rfl
theorem mw_232 : .code yC2_facing cC2_facing 5 (some .int) ∈ wAll := wa (tb_2 _ (List.mem_of_getElem? (i := 191) rfl)) rfl
theorem mw_233 : .methodLink RC4 116 yC2_functionOf ∈ wAll := wa (tb_2 _ (List.mem_of_getElem? (i := 200) rfl)) rfl
theorem mw_234 : .methodLink RC4 119 yC3_widthOf ∈ wAll := wa (tb_2 _ (List.mem_of_getElem? (i := 201) rfl)) rfl
theorem mw_235 : .instanceMethod yC3_widthOf ∈ wAll := wa (tb_2 _ (List.mem_of_getElem? (i := 202) rfl)) rfl
theorem mw_236 : .selects RC3 yC3_widthOf yC3_widthOf ∈ wAll := wa (tb_2 _ (List.mem_of_getElem? (i := 203) rfl)) rfl
theorem mw_237 : .code yC3_widthOf cC3_widthOf 2 (some .int) ∈ wAll := wa (tb_2 _ (List.mem_of_getElem? (i := 204) rfl)) rfl
theorem mw_238 : .methodLink RC4 120 yC2_hasResult ∈ wAll := wa (tb_2 _ (List.mem_of_getElem? (i := 205) rfl)) rfl
theorem mw_239 : .instanceMethod yC2_hasResult ∈ wAll := wa (tb_2 _ (List.mem_of_getElem? (i := 206) rfl)) rfl
theorem mw_240 : .selects RC2 yC2_hasResult yC2_hasResult ∈ wAll := wa (tb_2 _ (List.mem_of_getElem? (i := 207) rfl)) rfl
theorem mw_241 : .code yC2_hasResult cC2_hasResult 2 (some .boolean) ∈ wAll := wa (tb_2 _ (List.mem_of_getElem? (i := 208) rfl)) rfl
theorem mw_242 : .methodLink RC4 123 yC3_hasResult ∈ wAll := wa (tb_2 _ (List.mem_of_getElem? (i := 209) rfl)) rfl
theorem mw_243 : .instanceMethod yC3_hasResult ∈ wAll := wa (tb_2 _ (List.mem_of_getElem? (i := 210) rfl)) rfl
theorem mw_244 : .selects RC3 yC3_hasResult yC3_hasResult ∈ wAll := wa (tb_2 _ (List.mem_of_getElem? (i := 211) rfl)) rfl
theorem mw_245 : .code yC3_hasResult cC3_hasResult 2 (some .boolean) ∈ wAll := wa (tb_2 _ (List.mem_of_getElem? (i := 212) rfl)) rfl
theorem mw_246 : .methodLink RC4 113 yC4_hasShape ∈ wAll := wa (tb_2 _ (List.mem_of_getElem? (i := 196) rfl)) rfl
theorem mw_247 : .instanceMethod yC4_hasShape ∈ wAll := wa (tb_2 _ (List.mem_of_getElem? (i := 198) rfl)) rfl
theorem mw_248 : .selects RC4 yC4_hasShape yC4_hasShape ∈ wAll := wa (ps_1 _ (List.mem_of_getElem? (i := 13) rfl)) rfl
theorem mw_249 : .code yC4_hasShape cC4_hasShape 4 (some .boolean) ∈ wAll := wa (tb_2 _ (List.mem_of_getElem? (i := 199) rfl)) rfl
theorem mw_250 : .methodLink RC4 78 yC4_couldBeMeant ∈ wAll := wa (tb_2 _ (List.mem_of_getElem? (i := 171) rfl)) rfl
theorem mw_251 : .instanceMethod yC4_couldBeMeant ∈ wAll := wa (tb_2 _ (List.mem_of_getElem? (i := 173) rfl)) rfl
theorem mw_252 : .selects RC4 yC4_couldBeMeant yC4_couldBeMeant ∈ wAll := wa (ps_1 _ (List.mem_of_getElem? (i := 12) rfl)) rfl
theorem mw_253 : .code yC4_couldBeMeant cC4_couldBeMeant 5 (some .boolean) ∈ wAll := wa (tb_2 _ (List.mem_of_getElem? (i := 174) rfl)) rfl
theorem mw_254 : .methodLink RC4 64 yC4_keepMeant ∈ wAll := wa (tb_2 _ (List.mem_of_getElem? (i := 167) rfl)) rfl
theorem mw_255 : .instanceMethod yC4_keepMeant ∈ wAll := wa (tb_2 _ (List.mem_of_getElem? (i := 169) rfl)) rfl
theorem mw_256 : .selects RC4 yC4_keepMeant yC4_keepMeant ∈ wAll := wa (ps_1 _ (List.mem_of_getElem? (i := 11) rfl)) rfl
theorem mw_257 : .code yC4_keepMeant cC4_keepMeant 3 none ∈ wAll := wa (tb_2 _ (List.mem_of_getElem? (i := 170) rfl)) rfl
theorem mw_258 : .fieldLink RC4 29 "MemberChoice$Choice" "applying" "[I" ∈ wAll := wa (tb_1 _ (List.mem_of_getElem? (i := 134) rfl)) rfl
theorem mw_259 : .fieldLink RC4 32 "MemberChoice$Choice" "asSpecial" "[J" ∈ wAll := wa (tb_1 _ (List.mem_of_getElem? (i := 135) rfl)) rfl
theorem mw_260 : .fieldLink RC4 9 "MemberChoice$Choice" "types" "LMemberChoice$Types;" ∈ wAll := wa (tb_1 _ (List.mem_of_getElem? (i := 130) rfl)) rfl
theorem mw_261 : .methodLink RC2 104 yC2_facing ∈ wAll := wa (tb_3 _ (List.mem_of_getElem? (i := 34) rfl)) rfl
theorem mw_262 : .methodLink RC4 157 yC2_spreadType ∈ wAll := wa (tb_3 _ (List.mem_of_getElem? (i := 30) rfl)) rfl
theorem mw_263 : .instanceMethod yC2_spreadType ∈ wAll := wa (tb_3 _ (List.mem_of_getElem? (i := 31) rfl)) rfl
theorem mw_264 : .selects RC2 yC2_spreadType yC2_spreadType ∈ wAll := wa (tb_3 _ (List.mem_of_getElem? (i := 32) rfl)) rfl
theorem mw_265 : .code yC2_spreadType cC2_spreadType 2 (some .int) ∈ wAll := wa (tb_3 _ (List.mem_of_getElem? (i := 33) rfl)) rfl
theorem mw_266 : .methodLink RC4 150 yC1_isA ∈ wAll := wa (tb_3 _ (List.mem_of_getElem? (i := 15) rfl)) rfl
theorem mw_267 : .methodLink RC4 136 yC3_isToldLambda ∈ wAll := wa (tb_2 _ (List.mem_of_getElem? (i := 230) rfl)) rfl
theorem mw_268 : .instanceMethod yC3_isToldLambda ∈ wAll := wa (tb_2 _ (List.mem_of_getElem? (i := 231) rfl)) rfl
theorem mw_269 : .selects RC3 yC3_isToldLambda yC3_isToldLambda ∈ wAll := wa (tb_2 _ (List.mem_of_getElem? (i := 232) rfl)) rfl
theorem mw_270 : .code yC3_isToldLambda cC3_isToldLambda 2 (some .boolean) ∈ wAll := wa (tb_2 _ (List.mem_of_getElem? (i := 233) rfl)) rfl
theorem mw_271 : .methodLink RC4 88 yC2_sameParameters ∈ wAll := wa (tb_3 _ (List.mem_of_getElem? (i := 20) rfl)) rfl
theorem mw_272 : .methodLink RC4 128 yC3_valueOf ∈ wAll := wa (tb_2 _ (List.mem_of_getElem? (i := 225) rfl)) rfl
theorem mw_273 : .instanceMethod yC3_valueOf ∈ wAll := wa (tb_2 _ (List.mem_of_getElem? (i := 226) rfl)) rfl
theorem mw_274 : .selects RC3 yC3_valueOf yC3_valueOf ∈ wAll := wa (tb_2 _ (List.mem_of_getElem? (i := 227) rfl)) rfl
theorem mw_275 : .code yC3_valueOf cC3_valueOf 2 (some .int) ∈ wAll := wa (tb_2 _ (List.mem_of_getElem? (i := 228) rfl)) rfl
theorem mw_276 : .methodLink RC4 147 yC2_resultOf ∈ wAll := wa (tb_3 _ (List.mem_of_getElem? (i := 3) rfl)) rfl
theorem mw_277 : .instanceMethod yC2_resultOf ∈ wAll := wa (tb_3 _ (List.mem_of_getElem? (i := 4) rfl)) rfl
theorem mw_278 : .selects RC2 yC2_resultOf yC2_resultOf ∈ wAll := wa (tb_3 _ (List.mem_of_getElem? (i := 5) rfl)) rfl
theorem mw_279 : .code yC2_resultOf cC2_resultOf 2 (some .int) ∈ wAll := wa (tb_3 _ (List.mem_of_getElem? (i := 6) rfl)) rfl
theorem mw_280 : .methodLink RC4 163 yC1_isPrimitive ∈ wAll := wa (tb_3 _ (List.mem_of_getElem? (i := 25) rfl)) rfl
theorem mw_281 : .methodLink RC4 166 yC1_isReference ∈ wAll := wa (tb_3 _ (List.mem_of_getElem? (i := 26) rfl)) rfl
theorem mw_282 : .instanceMethod yC1_isReference ∈ wAll := wa (tb_3 _ (List.mem_of_getElem? (i := 27) rfl)) rfl
theorem mw_283 : .selects RC1 yC1_isReference yC1_isReference ∈ wAll := wa (tb_3 _ (List.mem_of_getElem? (i := 28) rfl)) rfl
theorem mw_284 : .code yC1_isReference cC1_isReference 2 (some .boolean) ∈ wAll := wa (tb_3 _ (List.mem_of_getElem? (i := 29) rfl)) rfl
theorem mw_285 : .methodLink RC4 160 yC4_isFinerResult ∈ wAll := wa (tb_3 _ (List.mem_of_getElem? (i := 21) rfl)) rfl
theorem mw_286 : .instanceMethod yC4_isFinerResult ∈ wAll := wa (tb_3 _ (List.mem_of_getElem? (i := 23) rfl)) rfl
theorem mw_287 : .selects RC4 yC4_isFinerResult yC4_isFinerResult ∈ wAll := wa (ps_2 _ (List.mem_of_getElem? (i := 5) rfl)) rfl
theorem mw_288 : .code yC4_isFinerResult cC4_isFinerResult 6 (some .boolean) ∈ wAll := wa (tb_3 _ (List.mem_of_getElem? (i := 24) rfl)) rfl
theorem mw_289 : .methodLink RC4 153 yC4_isFinerFunction ∈ wAll := wa (tb_3 _ (List.mem_of_getElem? (i := 16) rfl)) rfl
theorem mw_290 : .instanceMethod yC4_isFinerFunction ∈ wAll := wa (tb_3 _ (List.mem_of_getElem? (i := 18) rfl)) rfl
theorem mw_291 : .selects RC4 yC4_isFinerFunction yC4_isFinerFunction ∈ wAll := wa (ps_2 _ (List.mem_of_getElem? (i := 4) rfl)) rfl
theorem mw_292 : .code yC4_isFinerFunction cC4_isFinerFunction 6 (some .boolean) ∈ wAll := wa (tb_3 _ (List.mem_of_getElem? (i := 19) rfl)) rfl
theorem mw_293 : .methodLink RC4 85 yC4_isAsSpecialAs ∈ wAll := wa (tb_3 _ (List.mem_of_getElem? (i := 11) rfl)) rfl
theorem mw_294 : .instanceMethod yC4_isAsSpecialAs ∈ wAll := wa (tb_3 _ (List.mem_of_getElem? (i := 13) rfl)) rfl
theorem mw_295 : .selects RC4 yC4_isAsSpecialAs yC4_isAsSpecialAs ∈ wAll := wa (ps_2 _ (List.mem_of_getElem? (i := 3) rfl)) rfl
theorem mw_296 : .code yC4_isAsSpecialAs cC4_isAsSpecialAs 7 (some .boolean) ∈ wAll := wa (tb_3 _ (List.mem_of_getElem? (i := 14) rfl)) rfl
theorem mw_297 : .methodLink RC4 71 yC4_compareAll ∈ wAll := wa (tb_3 _ (List.mem_of_getElem? (i := 7) rfl)) rfl
theorem mw_298 : .instanceMethod yC4_compareAll ∈ wAll := wa (tb_3 _ (List.mem_of_getElem? (i := 9) rfl)) rfl
theorem mw_299 : .selects RC4 yC4_compareAll yC4_compareAll ∈ wAll := wa (ps_2 _ (List.mem_of_getElem? (i := 2) rfl)) rfl
theorem mw_300 : .code yC4_compareAll cC4_compareAll 4 none ∈ wAll := wa (tb_3 _ (List.mem_of_getElem? (i := 10) rfl)) rfl
theorem mw_301 : .methodLink RC4 91 yC2_isAbstract ∈ wAll := wa (tb_3 _ (List.mem_of_getElem? (i := 39) rfl)) rfl
theorem mw_302 : .methodLink RC4 74 yC4_pick ∈ wAll := wa (tb_3 _ (List.mem_of_getElem? (i := 35) rfl)) rfl
theorem mw_303 : .instanceMethod yC4_pick ∈ wAll := wa (tb_3 _ (List.mem_of_getElem? (i := 37) rfl)) rfl
theorem mw_304 : .selects RC4 yC4_pick yC4_pick ∈ wAll := wa (ps_2 _ (List.mem_of_getElem? (i := 6) rfl)) rfl
theorem mw_305 : .code yC4_pick cC4_pick 6 (some .int) ∈ wAll := wa (tb_3 _ (List.mem_of_getElem? (i := 38) rfl)) rfl
theorem mw_306 : .methodLink RC4 131 yC1_accepts ∈ wAll := wa (tb_2 _ (List.mem_of_getElem? (i := 229) rfl)) rfl
theorem mw_307 : .methodLink RC4 142 yC2_parameterAt ∈ wAll := wa (tb_2 _ (List.mem_of_getElem? (i := 238) rfl)) rfl
theorem mw_308 : .methodLink RC4 146 yC3_parameterAt ∈ wAll := wa (tb_2 _ (List.mem_of_getElem? (i := 239) rfl)) rfl
theorem mw_309 : .instanceMethod yC3_parameterAt ∈ wAll := wa (tb_3 _ (List.mem_of_getElem? (i := 0) rfl)) rfl
theorem mw_310 : .selects RC3 yC3_parameterAt yC3_parameterAt ∈ wAll := wa (tb_3 _ (List.mem_of_getElem? (i := 1) rfl)) rfl
theorem mw_311 : .code yC3_parameterAt cC3_parameterAt 3 (some .int) ∈ wAll := wa (tb_3 _ (List.mem_of_getElem? (i := 2) rfl)) rfl
theorem mw_312 : .methodLink RC4 139 yC4_takesTold ∈ wAll := wa (tb_2 _ (List.mem_of_getElem? (i := 234) rfl)) rfl
theorem mw_313 : .instanceMethod yC4_takesTold ∈ wAll := wa (tb_2 _ (List.mem_of_getElem? (i := 236) rfl)) rfl
theorem mw_314 : .selects RC4 yC4_takesTold yC4_takesTold ∈ wAll := wa (ps_2 _ (List.mem_of_getElem? (i := 1) rfl)) rfl
theorem mw_315 : .code yC4_takesTold cC4_takesTold 5 (some .boolean) ∈ wAll := wa (tb_2 _ (List.mem_of_getElem? (i := 237) rfl)) rfl
theorem mw_316 : .methodLink RC4 124 yC4_takes ∈ wAll := wa (tb_2 _ (List.mem_of_getElem? (i := 221) rfl)) rfl
theorem mw_317 : .instanceMethod yC4_takes ∈ wAll := wa (tb_2 _ (List.mem_of_getElem? (i := 223) rfl)) rfl
theorem mw_318 : .selects RC4 yC4_takes yC4_takes ∈ wAll := wa (ps_2 _ (List.mem_of_getElem? (i := 0) rfl)) rfl
theorem mw_319 : .code yC4_takes cC4_takes 4 (some .boolean) ∈ wAll := wa (tb_2 _ (List.mem_of_getElem? (i := 224) rfl)) rfl
theorem mw_320 : .methodLink RC4 81 yC4_applies ∈ wAll := wa (tb_2 _ (List.mem_of_getElem? (i := 217) rfl)) rfl
theorem mw_321 : .instanceMethod yC4_applies ∈ wAll := wa (tb_2 _ (List.mem_of_getElem? (i := 219) rfl)) rfl
theorem mw_322 : .selects RC4 yC4_applies yC4_applies ∈ wAll := wa (ps_1 _ (List.mem_of_getElem? (i := 15) rfl)) rfl
theorem mw_323 : .code yC4_applies cC4_applies 5 (some .boolean) ∈ wAll := wa (tb_2 _ (List.mem_of_getElem? (i := 220) rfl)) rfl
theorem mw_324 : .methodLink RC4 67 yC4_findApplying ∈ wAll := wa (tb_2 _ (List.mem_of_getElem? (i := 213) rfl)) rfl
theorem mw_325 : .instanceMethod yC4_findApplying ∈ wAll := wa (tb_2 _ (List.mem_of_getElem? (i := 215) rfl)) rfl
theorem mw_326 : .selects RC4 yC4_findApplying yC4_findApplying ∈ wAll := wa (ps_1 _ (List.mem_of_getElem? (i := 14) rfl)) rfl
theorem mw_327 : .code yC4_findApplying cC4_findApplying 4 none ∈ wAll := wa (tb_2 _ (List.mem_of_getElem? (i := 216) rfl)) rfl
theorem mw_328 : .methodLink RC0 113 yC4_decide ∈ wAll := wa (tb_2 _ (List.mem_of_getElem? (i := 157) rfl)) rfl
theorem mw_329 : .instanceMethod yC4_decide ∈ wAll := wa (tb_2 _ (List.mem_of_getElem? (i := 158) rfl)) rfl
theorem mw_330 : .selects RC4 yC4_decide yC4_decide ∈ wAll := wa (tb_2 _ (List.mem_of_getElem? (i := 159) rfl)) rfl
theorem mw_331 : .code yC4_decide cC4_decide 5 (some .int) ∈ wAll := wa (tb_2 _ (List.mem_of_getElem? (i := 160) rfl)) rfl
theorem mw_332 : .methodLink RC0 117 yC2_isStatic ∈ wAll := wa (tb_3 _ (List.mem_of_getElem? (i := 40) rfl)) rfl
theorem mw_333 : .methodLink RC0 120 yC4_phaseReached ∈ wAll := wa (tb_3 _ (List.mem_of_getElem? (i := 45) rfl)) rfl
theorem mw_334 : .instanceMethod yC4_phaseReached ∈ wAll := wa (tb_3 _ (List.mem_of_getElem? (i := 46) rfl)) rfl
theorem mw_335 : .selects RC4 yC4_phaseReached yC4_phaseReached ∈ wAll := wa (tb_3 _ (List.mem_of_getElem? (i := 47) rfl)) rfl
theorem mw_336 : .code yC4_phaseReached cC4_phaseReached 1 (some .int) ∈ wAll := wa (tb_3 _ (List.mem_of_getElem? (i := 48) rfl)) rfl
theorem mw_337 : .methodLink RC0 123 yC4_applyingAt ∈ wAll := wa (tb_3 _ (List.mem_of_getElem? (i := 53) rfl)) rfl
theorem mw_338 : .instanceMethod yC4_applyingAt ∈ wAll := wa (tb_3 _ (List.mem_of_getElem? (i := 54) rfl)) rfl
theorem mw_339 : .selects RC4 yC4_applyingAt yC4_applyingAt ∈ wAll := wa (tb_3 _ (List.mem_of_getElem? (i := 55) rfl)) rfl
theorem mw_340 : .code yC4_applyingAt cC4_applyingAt 2 (some .int) ∈ wAll := wa (tb_3 _ (List.mem_of_getElem? (i := 56) rfl)) rfl
theorem mw_341 : .methodLink RC4 43 yC4_didApply ∈ wAll := wa (tb_3 _ (List.mem_of_getElem? (i := 65) rfl)) rfl
theorem mw_342 : .instanceMethod yC4_didApply ∈ wAll := wa (tb_3 _ (List.mem_of_getElem? (i := 67) rfl)) rfl
theorem mw_343 : .selects RC4 yC4_didApply yC4_didApply ∈ wAll := wa (ps_2 _ (List.mem_of_getElem? (i := 7) rfl)) rfl
theorem mw_344 : .code yC4_didApply cC4_didApply 2 (some .boolean) ∈ wAll := wa (tb_3 _ (List.mem_of_getElem? (i := 68) rfl)) rfl
theorem mw_345 : .methodLink RC0 126 yC4_compared ∈ wAll := wa (tb_3 _ (List.mem_of_getElem? (i := 61) rfl)) rfl
theorem mw_346 : .instanceMethod yC4_compared ∈ wAll := wa (tb_3 _ (List.mem_of_getElem? (i := 62) rfl)) rfl
theorem mw_347 : .selects RC4 yC4_compared yC4_compared ∈ wAll := wa (tb_3 _ (List.mem_of_getElem? (i := 63) rfl)) rfl
theorem mw_348 : .code yC4_compared cC4_compared 3 (some .int) ∈ wAll := wa (tb_3 _ (List.mem_of_getElem? (i := 64) rfl)) rfl
theorem mw_349 : .methodLink RC0 129 yC1_size ∈ wAll := wa (tb_3 _ (List.mem_of_getElem? (i := 73) rfl)) rfl
theorem mw_350 : .methodLink RC0 132 yC2_size ∈ wAll := wa (tb_3 _ (List.mem_of_getElem? (i := 74) rfl)) rfl
theorem mw_351 : .instanceMethod yC2_size ∈ wAll := wa (tb_3 _ (List.mem_of_getElem? (i := 75) rfl)) rfl
theorem mw_352 : .selects RC2 yC2_size yC2_size ∈ wAll := wa (tb_3 _ (List.mem_of_getElem? (i := 76) rfl)) rfl
theorem mw_353 : .code yC2_size cC2_size 1 (some .int) ∈ wAll := wa (tb_3 _ (List.mem_of_getElem? (i := 77) rfl)) rfl
theorem mw_354 : .methodLink RC0 133 yC3_size ∈ wAll := wa (tb_3 _ (List.mem_of_getElem? (i := 78) rfl)) rfl
theorem mw_355 : .fieldLink RCM 68 "MemberChoiceModel" "types" "I" ∈ wAll := wa (tb_3 _ (List.mem_of_getElem? (i := 85) rfl)) rfl
theorem mw_356 : .fieldLink RCM 13 "MemberChoiceModel" "parents" "[I" ∈ wAll := wa (tb_3 _ (List.mem_of_getElem? (i := 87) rfl)) rfl
theorem mw_357 : .fieldLink RCM 7 "MemberChoiceModel" "isFace" "[Z" ∈ wAll := wa (tb_3 _ (List.mem_of_getElem? (i := 86) rfl)) rfl
theorem mw_358 : .fieldLink RCM 17 "MemberChoiceModel" "aboveCounts" "[I" ∈ wAll := wa (tb_3 _ (List.mem_of_getElem? (i := 88) rfl)) rfl
theorem mw_359 : .fieldLink RCM 65 "MemberChoiceModel" "functions" "[I" ∈ wAll := wa (tb_3 _ (List.mem_of_getElem? (i := 107) rfl)) rfl
theorem mw_360 : .methodLink RCM 79 yCM_forgetFunctions ∈ wAll := wa (tb_3 _ (List.mem_of_getElem? (i := 167) rfl)) rfl
theorem mw_361 : .instanceMethod yCM_forgetFunctions ∈ wAll := wa (tb_3 _ (List.mem_of_getElem? (i := 169) rfl)) rfl
theorem mw_362 : .selects RCM yCM_forgetFunctions yCM_forgetFunctions ∈ wAll := wa (ps_2 _ (List.mem_of_getElem? (i := 10) rfl)) rfl
theorem mw_363 : .initialized RCM ∈ wAll := wa (tb_1 _ (List.mem_of_getElem? (i := 9) rfl)) rfl
theorem mw_364 : .code yCM_forgetFunctions cCM_forgetFunctions 2 none ∈ wAll := wa (tb_3 _ (List.mem_of_getElem? (i := 170) rfl)) rfl
theorem mw_365 : .fieldLink RCM 23 "MemberChoiceModel" "isOne" "[Z" ∈ wAll := wa (tb_3 _ (List.mem_of_getElem? (i := 90) rfl)) rfl
theorem mw_366 : .fieldLink RCM 20 "MemberChoiceModel" "above" "[I" ∈ wAll := wa (tb_3 _ (List.mem_of_getElem? (i := 89) rfl)) rfl
theorem mw_367 : .methodLink RCM 95 yCM_closeTypes ∈ wAll := wa (tb_3 _ (List.mem_of_getElem? (i := 163) rfl)) rfl
theorem mw_368 : .instanceMethod yCM_closeTypes ∈ wAll := wa (tb_3 _ (List.mem_of_getElem? (i := 165) rfl)) rfl
theorem mw_369 : .selects RCM yCM_closeTypes yCM_closeTypes ∈ wAll := wa (ps_2 _ (List.mem_of_getElem? (i := 9) rfl)) rfl
theorem mw_370 : .code yCM_closeTypes cCM_closeTypes 5 none ∈ wAll := wa (tb_3 _ (List.mem_of_getElem? (i := 166) rfl)) rfl
theorem mw_371 : .methodLink RCM 72 yCM_isTold ∈ wAll := wa (tb_3 _ (List.mem_of_getElem? (i := 159) rfl)) rfl
theorem mw_372 : .instanceMethod yCM_isTold ∈ wAll := wa (tb_3 _ (List.mem_of_getElem? (i := 161) rfl)) rfl
theorem mw_373 : .selects RCM yCM_isTold yCM_isTold ∈ wAll := wa (ps_2 _ (List.mem_of_getElem? (i := 8) rfl)) rfl
theorem mw_374 : .code yCM_isTold cCM_isTold 2 (some .boolean) ∈ wAll := wa (tb_3 _ (List.mem_of_getElem? (i := 162) rfl)) rfl
theorem mw_375 : .methodLink RCM 76 yCM_isPlain ∈ wAll := wa (tb_3 _ (List.mem_of_getElem? (i := 187) rfl)) rfl
theorem mw_376 : .instanceMethod yCM_isPlain ∈ wAll := wa (tb_3 _ (List.mem_of_getElem? (i := 189) rfl)) rfl
theorem mw_377 : .selects RCM yCM_isPlain yCM_isPlain ∈ wAll := wa (ps_2 _ (List.mem_of_getElem? (i := 12) rfl)) rfl
theorem mw_378 : .code yCM_isPlain cCM_isPlain 2 (some .boolean) ∈ wAll := wa (tb_3 _ (List.mem_of_getElem? (i := 190) rfl)) rfl
theorem mw_379 : .methodLink RCM 98 yCM_isType ∈ wAll := wa (tb_3 _ (List.mem_of_getElem? (i := 183) rfl)) rfl
theorem mw_380 : .instanceMethod yCM_isType ∈ wAll := wa (tb_3 _ (List.mem_of_getElem? (i := 185) rfl)) rfl
theorem mw_381 : .selects RCM yCM_isType yCM_isType ∈ wAll := wa (ps_2 _ (List.mem_of_getElem? (i := 11) rfl)) rfl
theorem mw_382 : .code yCM_isType cCM_isType 2 (some .boolean) ∈ wAll := wa (tb_3 _ (List.mem_of_getElem? (i := 186) rfl)) rfl
theorem mw_383 : .methodLink RCM 82 yCM_isPrimitive ∈ wAll := wa (tb_3 _ (List.mem_of_getElem? (i := 195) rfl)) rfl
theorem mw_384 : .static yCM_isPrimitive ∈ wAll := wa (tb_3 _ (List.mem_of_getElem? (i := 196) rfl)) rfl
theorem mw_385 : .code yCM_isPrimitive cCM_isPrimitive 1 (some .boolean) ∈ wAll := wa (tb_3 _ (List.mem_of_getElem? (i := 197) rfl)) rfl
theorem mw_386 : .methodLink RCM 85 yCM_plainIs ∈ wAll := wa (tb_3 _ (List.mem_of_getElem? (i := 198) rfl)) rfl
theorem mw_387 : .instanceMethod yCM_plainIs ∈ wAll := wa (tb_3 _ (List.mem_of_getElem? (i := 200) rfl)) rfl
theorem mw_388 : .selects RCM yCM_plainIs yCM_plainIs ∈ wAll := wa (ps_2 _ (List.mem_of_getElem? (i := 14) rfl)) rfl
theorem mw_389 : .code yCM_plainIs cCM_plainIs 3 (some .boolean) ∈ wAll := wa (tb_3 _ (List.mem_of_getElem? (i := 201) rfl)) rfl
theorem mw_390 : .methodLink RCM 89 yCM_isIt ∈ wAll := wa (tb_3 _ (List.mem_of_getElem? (i := 191) rfl)) rfl
theorem mw_391 : .instanceMethod yCM_isIt ∈ wAll := wa (tb_3 _ (List.mem_of_getElem? (i := 193) rfl)) rfl
theorem mw_392 : .selects RCM yCM_isIt yCM_isIt ∈ wAll := wa (ps_2 _ (List.mem_of_getElem? (i := 13) rfl)) rfl
theorem mw_393 : .code yCM_isIt cCM_isIt 3 (some .boolean) ∈ wAll := wa (tb_3 _ (List.mem_of_getElem? (i := 194) rfl)) rfl
theorem mw_394 : .methodLink RCM 92 yCM_isBox ∈ wAll := wa (tb_3 _ (List.mem_of_getElem? (i := 210) rfl)) rfl
theorem mw_395 : .static yCM_isBox ∈ wAll := wa (tb_3 _ (List.mem_of_getElem? (i := 211) rfl)) rfl
theorem mw_396 : .code yCM_isBox cCM_isBox 1 (some .boolean) ∈ wAll := wa (tb_3 _ (List.mem_of_getElem? (i := 212) rfl)) rfl
theorem mw_397 : .methodLink RCM 101 yCM_fitsIt ∈ wAll := wa (tb_3 _ (List.mem_of_getElem? (i := 206) rfl)) rfl
theorem mw_398 : .instanceMethod yCM_fitsIt ∈ wAll := wa (tb_3 _ (List.mem_of_getElem? (i := 208) rfl)) rfl
theorem mw_399 : .selects RCM yCM_fitsIt yCM_fitsIt ∈ wAll := wa (ps_2 _ (List.mem_of_getElem? (i := 15) rfl)) rfl
theorem mw_400 : .code yCM_fitsIt cCM_fitsIt 3 (some .boolean) ∈ wAll := wa (tb_3 _ (List.mem_of_getElem? (i := 209) rfl)) rfl
theorem mw_401 : .fieldLink RCM 110 "MemberChoiceModel" "members" "I" ∈ wAll := wa (tb_3 _ (List.mem_of_getElem? (i := 91) rfl)) rfl
theorem mw_402 : .fieldLink RCM 26 "MemberChoiceModel" "owners" "[I" ∈ wAll := wa (tb_3 _ (List.mem_of_getElem? (i := 92) rfl)) rfl
theorem mw_403 : .fieldLink RCM 29 "MemberChoiceModel" "names" "[I" ∈ wAll := wa (tb_3 _ (List.mem_of_getElem? (i := 93) rfl)) rfl
theorem mw_404 : .fieldLink RCM 32 "MemberChoiceModel" "marks" "[I" ∈ wAll := wa (tb_3 _ (List.mem_of_getElem? (i := 94) rfl)) rfl
theorem mw_405 : .fieldLink RCM 35 "MemberChoiceModel" "results" "[I" ∈ wAll := wa (tb_3 _ (List.mem_of_getElem? (i := 95) rfl)) rfl
theorem mw_406 : .fieldLink RCM 38 "MemberChoiceModel" "counts" "[I" ∈ wAll := wa (tb_3 _ (List.mem_of_getElem? (i := 96) rfl)) rfl
theorem mw_407 : .fieldLink RCM 41 "MemberChoiceModel" "params" "[I" ∈ wAll := wa (tb_3 _ (List.mem_of_getElem? (i := 97) rfl)) rfl
theorem mw_408 : .methodLink RCM 113 yCM_parameter ∈ wAll := wa (tb_3 _ (List.mem_of_getElem? (i := 224) rfl)) rfl
theorem mw_409 : .static yCM_parameter ∈ wAll := wa (tb_3 _ (List.mem_of_getElem? (i := 225) rfl)) rfl
theorem mw_410 : .code yCM_parameter cCM_parameter 5 (some .int) ∈ wAll := wa (tb_3 _ (List.mem_of_getElem? (i := 226) rfl)) rfl
theorem mw_411 : .methodLink RCM 107 yCM_isValue ∈ wAll := wa (tb_3 _ (List.mem_of_getElem? (i := 220) rfl)) rfl
theorem mw_412 : .instanceMethod yCM_isValue ∈ wAll := wa (tb_3 _ (List.mem_of_getElem? (i := 222) rfl)) rfl
theorem mw_413 : .selects RCM yCM_isValue yCM_isValue ∈ wAll := wa (ps_3 _ (List.mem_of_getElem? (i := 0) rfl)) rfl
theorem mw_414 : .code yCM_isValue cCM_isValue 2 (some .boolean) ∈ wAll := wa (tb_3 _ (List.mem_of_getElem? (i := 223) rfl)) rfl
theorem mw_415 : .methodLink RCM 104 yCM_isName ∈ wAll := wa (tb_3 _ (List.mem_of_getElem? (i := 217) rfl)) rfl
theorem mw_416 : .static yCM_isName ∈ wAll := wa (tb_3 _ (List.mem_of_getElem? (i := 218) rfl)) rfl
theorem mw_417 : .code yCM_isName cCM_isName 1 (some .boolean) ∈ wAll := wa (tb_3 _ (List.mem_of_getElem? (i := 219) rfl)) rfl
theorem mw_418 : .methodLink RCM 117 yCM_has ∈ wAll := wa (tb_3 _ (List.mem_of_getElem? (i := 239) rfl)) rfl
theorem mw_419 : .instanceMethod yCM_has ∈ wAll := wa (tb_4 _ (List.mem_of_getElem? (i := 1) rfl)) rfl
theorem mw_420 : .selects RCM yCM_has yCM_has ∈ wAll := wa (ps_3 _ (List.mem_of_getElem? (i := 3) rfl)) rfl
theorem mw_421 : .code yCM_has cCM_has 3 (some .boolean) ∈ wAll := wa (tb_4 _ (List.mem_of_getElem? (i := 2) rfl)) rfl
theorem mw_422 : .methodLink RCM 120 yCM_sameParams ∈ wAll := wa (tb_4 _ (List.mem_of_getElem? (i := 7) rfl)) rfl
theorem mw_423 : .instanceMethod yCM_sameParams ∈ wAll := wa (tb_4 _ (List.mem_of_getElem? (i := 9) rfl)) rfl
theorem mw_424 : .selects RCM yCM_sameParams yCM_sameParams ∈ wAll := wa (ps_3 _ (List.mem_of_getElem? (i := 5) rfl)) rfl
theorem mw_425 : .code yCM_sameParams cCM_sameParams 5 (some .boolean) ∈ wAll := wa (tb_4 _ (List.mem_of_getElem? (i := 10) rfl)) rfl
theorem mw_426 : .methodLink RCM 127 yCM_isSeen ∈ wAll := wa (tb_4 _ (List.mem_of_getElem? (i := 3) rfl)) rfl
theorem mw_427 : .instanceMethod yCM_isSeen ∈ wAll := wa (tb_4 _ (List.mem_of_getElem? (i := 5) rfl)) rfl
theorem mw_428 : .selects RCM yCM_isSeen yCM_isSeen ∈ wAll := wa (ps_3 _ (List.mem_of_getElem? (i := 4) rfl)) rfl
theorem mw_429 : .code yCM_isSeen cCM_isSeen 6 (some .boolean) ∈ wAll := wa (tb_4 _ (List.mem_of_getElem? (i := 6) rfl)) rfl
theorem mw_430 : .methodLink RCM 123 yCM_findFunction ∈ wAll := wa (tb_3 _ (List.mem_of_getElem? (i := 235) rfl)) rfl
theorem mw_431 : .instanceMethod yCM_findFunction ∈ wAll := wa (tb_3 _ (List.mem_of_getElem? (i := 237) rfl)) rfl
theorem mw_432 : .selects RCM yCM_findFunction yCM_findFunction ∈ wAll := wa (ps_3 _ (List.mem_of_getElem? (i := 2) rfl)) rfl
theorem mw_433 : .code yCM_findFunction cCM_findFunction 4 (some .int) ∈ wAll := wa (tb_3 _ (List.mem_of_getElem? (i := 238) rfl)) rfl
theorem mw_434 : .methodLink RCM 131 yCM_functionOf ∈ wAll := wa (tb_3 _ (List.mem_of_getElem? (i := 231) rfl)) rfl
theorem mw_435 : .instanceMethod yCM_functionOf ∈ wAll := wa (tb_3 _ (List.mem_of_getElem? (i := 233) rfl)) rfl
theorem mw_436 : .selects RCM yCM_functionOf yCM_functionOf ∈ wAll := wa (ps_3 _ (List.mem_of_getElem? (i := 1) rfl)) rfl
theorem mw_437 : .code yCM_functionOf cCM_functionOf 2 (some .int) ∈ wAll := wa (tb_3 _ (List.mem_of_getElem? (i := 234) rfl)) rfl
theorem mw_438 : .methodLink RCM 134 yCM_isAsked ∈ wAll := wa (tb_4 _ (List.mem_of_getElem? (i := 15) rfl)) rfl
theorem mw_439 : .instanceMethod yCM_isAsked ∈ wAll := wa (tb_4 _ (List.mem_of_getElem? (i := 17) rfl)) rfl
theorem mw_440 : .selects RCM yCM_isAsked yCM_isAsked ∈ wAll := wa (ps_3 _ (List.mem_of_getElem? (i := 6) rfl)) rfl
theorem mw_441 : .code yCM_isAsked cCM_isAsked 4 (some .boolean) ∈ wAll := wa (tb_4 _ (List.mem_of_getElem? (i := 18) rfl)) rfl
theorem mw_442 : .fieldLink RCM 137 "MemberChoiceModel" "arguments" "I" ∈ wAll := wa (tb_3 _ (List.mem_of_getElem? (i := 98) rfl)) rfl
theorem mw_443 : .fieldLink RCM 44 "MemberChoiceModel" "argTypes" "[I" ∈ wAll := wa (tb_3 _ (List.mem_of_getElem? (i := 99) rfl)) rfl
theorem mw_444 : .fieldLink RCM 47 "MemberChoiceModel" "lambdas" "[I" ∈ wAll := wa (tb_3 _ (List.mem_of_getElem? (i := 100) rfl)) rfl
theorem mw_445 : .fieldLink RCM 50 "MemberChoiceModel" "lambdaCounts" "[I" ∈ wAll := wa (tb_3 _ (List.mem_of_getElem? (i := 101) rfl)) rfl
theorem mw_446 : .fieldLink RCM 53 "MemberChoiceModel" "lambdaParams" "[I" ∈ wAll := wa (tb_3 _ (List.mem_of_getElem? (i := 102) rfl)) rfl
theorem mw_447 : .fieldLink RCM 56 "MemberChoiceModel" "lambdaResults" "[I" ∈ wAll := wa (tb_3 _ (List.mem_of_getElem? (i := 103) rfl)) rfl
theorem mw_448 : .fieldLink RCM 153 "MemberChoiceModel" "phase" "I" ∈ wAll := wa (tb_3 _ (List.mem_of_getElem? (i := 104) rfl)) rfl
theorem mw_449 : .fieldLink RCM 59 "MemberChoiceModel" "applies" "[Z" ∈ wAll := wa (tb_3 _ (List.mem_of_getElem? (i := 105) rfl)) rfl
theorem mw_450 : .fieldLink RCM 62 "MemberChoiceModel" "specials" "[Z" ∈ wAll := wa (tb_3 _ (List.mem_of_getElem? (i := 106) rfl)) rfl
theorem mw_451 : .methodLink RCM 168 yCM_mostSpecial ∈ wAll := wa (tb_4 _ (List.mem_of_getElem? (i := 71) rfl)) rfl
theorem mw_452 : .instanceMethod yCM_mostSpecial ∈ wAll := wa (tb_4 _ (List.mem_of_getElem? (i := 73) rfl)) rfl
theorem mw_453 : .selects RCM yCM_mostSpecial yCM_mostSpecial ∈ wAll := wa (ps_3 _ (List.mem_of_getElem? (i := 15) rfl)) rfl
theorem mw_454 : .code yCM_mostSpecial cCM_mostSpecial 9 (some .int) ∈ wAll := wa (tb_4 _ (List.mem_of_getElem? (i := 74) rfl)) rfl
theorem mw_455 : .methodLink RCM 143 yCM_typeAt ∈ wAll := wa (tb_4 _ (List.mem_of_getElem? (i := 47) rfl)) rfl
theorem mw_456 : .instanceMethod yCM_typeAt ∈ wAll := wa (tb_4 _ (List.mem_of_getElem? (i := 49) rfl)) rfl
theorem mw_457 : .selects RCM yCM_typeAt yCM_typeAt ∈ wAll := wa (ps_3 _ (List.mem_of_getElem? (i := 9) rfl)) rfl
theorem mw_458 : .code yCM_typeAt cCM_typeAt 5 (some .int) ∈ wAll := wa (tb_4 _ (List.mem_of_getElem? (i := 50) rfl)) rfl
theorem mw_459 : .methodLink RCM 156 yCM_isFiner ∈ wAll := wa (tb_4 _ (List.mem_of_getElem? (i := 67) rfl)) rfl
theorem mw_460 : .instanceMethod yCM_isFiner ∈ wAll := wa (tb_4 _ (List.mem_of_getElem? (i := 69) rfl)) rfl
theorem mw_461 : .selects RCM yCM_isFiner yCM_isFiner ∈ wAll := wa (ps_3 _ (List.mem_of_getElem? (i := 14) rfl)) rfl
theorem mw_462 : .code yCM_isFiner cCM_isFiner 9 (some .boolean) ∈ wAll := wa (tb_4 _ (List.mem_of_getElem? (i := 70) rfl)) rfl
theorem mw_463 : .methodLink RCM 165 yCM_isSpecial ∈ wAll := wa (tb_4 _ (List.mem_of_getElem? (i := 63) rfl)) rfl
theorem mw_464 : .instanceMethod yCM_isSpecial ∈ wAll := wa (tb_4 _ (List.mem_of_getElem? (i := 65) rfl)) rfl
theorem mw_465 : .selects RCM yCM_isSpecial yCM_isSpecial ∈ wAll := wa (ps_3 _ (List.mem_of_getElem? (i := 13) rfl)) rfl
theorem mw_466 : .code yCM_isSpecial cCM_isSpecial 7 (some .boolean) ∈ wAll := wa (tb_4 _ (List.mem_of_getElem? (i := 66) rfl)) rfl
theorem mw_467 : .methodLink RCM 140 yCM_hasShape ∈ wAll := wa (tb_4 _ (List.mem_of_getElem? (i := 43) rfl)) rfl
theorem mw_468 : .instanceMethod yCM_hasShape ∈ wAll := wa (tb_4 _ (List.mem_of_getElem? (i := 45) rfl)) rfl
theorem mw_469 : .selects RCM yCM_hasShape yCM_hasShape ∈ wAll := wa (ps_3 _ (List.mem_of_getElem? (i := 8) rfl)) rfl
theorem mw_470 : .code yCM_hasShape cCM_hasShape 4 (some .boolean) ∈ wAll := wa (tb_4 _ (List.mem_of_getElem? (i := 46) rfl)) rfl
theorem mw_471 : .methodLink RCM 150 yCM_passes ∈ wAll := wa (tb_4 _ (List.mem_of_getElem? (i := 59) rfl)) rfl
theorem mw_472 : .instanceMethod yCM_passes ∈ wAll := wa (tb_4 _ (List.mem_of_getElem? (i := 61) rfl)) rfl
theorem mw_473 : .selects RCM yCM_passes yCM_passes ∈ wAll := wa (ps_3 _ (List.mem_of_getElem? (i := 12) rfl)) rfl
theorem mw_474 : .code yCM_passes cCM_passes 4 (some .boolean) ∈ wAll := wa (tb_4 _ (List.mem_of_getElem? (i := 62) rfl)) rfl
theorem mw_475 : .methodLink RCM 147 yCM_takes ∈ wAll := wa (tb_4 _ (List.mem_of_getElem? (i := 55) rfl)) rfl
theorem mw_476 : .instanceMethod yCM_takes ∈ wAll := wa (tb_4 _ (List.mem_of_getElem? (i := 57) rfl)) rfl
theorem mw_477 : .selects RCM yCM_takes yCM_takes ∈ wAll := wa (ps_3 _ (List.mem_of_getElem? (i := 11) rfl)) rfl
theorem mw_478 : .code yCM_takes cCM_takes 7 (some .boolean) ∈ wAll := wa (tb_4 _ (List.mem_of_getElem? (i := 58) rfl)) rfl
theorem mw_479 : .methodLink RCM 162 yCM_doesApply ∈ wAll := wa (tb_4 _ (List.mem_of_getElem? (i := 51) rfl)) rfl
theorem mw_480 : .instanceMethod yCM_doesApply ∈ wAll := wa (tb_4 _ (List.mem_of_getElem? (i := 53) rfl)) rfl
theorem mw_481 : .selects RCM yCM_doesApply yCM_doesApply ∈ wAll := wa (ps_3 _ (List.mem_of_getElem? (i := 10) rfl)) rfl
theorem mw_482 : .code yCM_doesApply cCM_doesApply 5 (some .boolean) ∈ wAll := wa (tb_4 _ (List.mem_of_getElem? (i := 54) rfl)) rfl
theorem mw_483 : .methodLink RCM 159 yCM_isMeant ∈ wAll := wa (tb_4 _ (List.mem_of_getElem? (i := 39) rfl)) rfl
theorem mw_484 : .instanceMethod yCM_isMeant ∈ wAll := wa (tb_4 _ (List.mem_of_getElem? (i := 41) rfl)) rfl
theorem mw_485 : .selects RCM yCM_isMeant yCM_isMeant ∈ wAll := wa (ps_3 _ (List.mem_of_getElem? (i := 7) rfl)) rfl
theorem mw_486 : .code yCM_isMeant cCM_isMeant 5 (some .boolean) ∈ wAll := wa (tb_4 _ (List.mem_of_getElem? (i := 42) rfl)) rfl
theorem mw_487 : .methodLink RCL 13 yC0_cls ∈ wAll := wa (tb_1 _ (List.mem_of_getElem? (i := 177) rfl)) rfl
theorem mw_488 : .instanceMethod yC0_cls ∈ wAll := wa (tb_1 _ (List.mem_of_getElem? (i := 178) rfl)) rfl
theorem mw_489 : .selects RC0 yC0_cls yC0_cls ∈ wAll := wa (tb_1 _ (List.mem_of_getElem? (i := 179) rfl)) rfl
theorem mw_490 : .code yC0_cls cC0_cls 3 (some .int) ∈ wAll := wa (tb_1 _ (List.mem_of_getElem? (i := 180) rfl)) rfl
theorem mw_491 : .methodLink RCL 17 yCM_cls ∈ wAll := wa (tb_3 _ (List.mem_of_getElem? (i := 155) rfl)) rfl
theorem mw_492 : .instanceMethod yCM_cls ∈ wAll := wa (tb_3 _ (List.mem_of_getElem? (i := 156) rfl)) rfl
theorem mw_493 : .selects RCM yCM_cls yCM_cls ∈ wAll := wa (tb_3 _ (List.mem_of_getElem? (i := 157) rfl)) rfl
theorem mw_494 : .code yCM_cls cCM_cls 2 (some .int) ∈ wAll := wa (tb_3 _ (List.mem_of_getElem? (i := 158) rfl)) rfl
theorem mw_495 : .methodLink RCL 18 yC0_face ∈ wAll := wa (tb_1 _ (List.mem_of_getElem? (i := 194) rfl)) rfl
theorem mw_496 : .instanceMethod yC0_face ∈ wAll := wa (tb_1 _ (List.mem_of_getElem? (i := 195) rfl)) rfl
theorem mw_497 : .selects RC0 yC0_face yC0_face ∈ wAll := wa (tb_1 _ (List.mem_of_getElem? (i := 196) rfl)) rfl
theorem mw_498 : .code yC0_face cC0_face 1 (some .int) ∈ wAll := wa (tb_1 _ (List.mem_of_getElem? (i := 197) rfl)) rfl
theorem mw_499 : .methodLink RCL 22 yCM_face ∈ wAll := wa (tb_3 _ (List.mem_of_getElem? (i := 171) rfl)) rfl
theorem mw_500 : .instanceMethod yCM_face ∈ wAll := wa (tb_3 _ (List.mem_of_getElem? (i := 172) rfl)) rfl
theorem mw_501 : .selects RCM yCM_face yCM_face ∈ wAll := wa (tb_3 _ (List.mem_of_getElem? (i := 173) rfl)) rfl
theorem mw_502 : .code yCM_face cCM_face 1 (some .int) ∈ wAll := wa (tb_3 _ (List.mem_of_getElem? (i := 174) rfl)) rfl
theorem mw_503 : .methodLink RCL 23 yC0_below ∈ wAll := wa (tb_1 _ (List.mem_of_getElem? (i := 198) rfl)) rfl
theorem mw_504 : .instanceMethod yC0_below ∈ wAll := wa (tb_1 _ (List.mem_of_getElem? (i := 199) rfl)) rfl
theorem mw_505 : .selects RC0 yC0_below yC0_below ∈ wAll := wa (tb_1 _ (List.mem_of_getElem? (i := 200) rfl)) rfl
theorem mw_506 : .code yC0_below cC0_below 4 (some .int) ∈ wAll := wa (tb_1 _ (List.mem_of_getElem? (i := 201) rfl)) rfl
theorem mw_507 : .methodLink RCL 27 yCM_below ∈ wAll := wa (tb_3 _ (List.mem_of_getElem? (i := 175) rfl)) rfl
theorem mw_508 : .instanceMethod yCM_below ∈ wAll := wa (tb_3 _ (List.mem_of_getElem? (i := 176) rfl)) rfl
theorem mw_509 : .selects RCM yCM_below yCM_below ∈ wAll := wa (tb_3 _ (List.mem_of_getElem? (i := 177) rfl)) rfl
theorem mw_510 : .code yCM_below cCM_below 6 (some .int) ∈ wAll := wa (tb_3 _ (List.mem_of_getElem? (i := 178) rfl)) rfl
theorem mw_511 : .methodLink RCL 28 yC0_member ∈ wAll := wa (tb_1 _ (List.mem_of_getElem? (i := 221) rfl)) rfl
theorem mw_512 : .instanceMethod yC0_member ∈ wAll := wa (tb_1 _ (List.mem_of_getElem? (i := 222) rfl)) rfl
theorem mw_513 : .selects RC0 yC0_member yC0_member ∈ wAll := wa (tb_1 _ (List.mem_of_getElem? (i := 223) rfl)) rfl
theorem mw_514 : .code yC0_member cC0_member 10 (some .int) ∈ wAll := wa (tb_1 _ (List.mem_of_getElem? (i := 224) rfl)) rfl
theorem mw_515 : .methodLink RCL 32 yCM_member ∈ wAll := wa (tb_3 _ (List.mem_of_getElem? (i := 213) rfl)) rfl
theorem mw_516 : .instanceMethod yCM_member ∈ wAll := wa (tb_3 _ (List.mem_of_getElem? (i := 214) rfl)) rfl
theorem mw_517 : .selects RCM yCM_member yCM_member ∈ wAll := wa (tb_3 _ (List.mem_of_getElem? (i := 215) rfl)) rfl
theorem mw_518 : .code yCM_member cCM_member 15 (some .int) ∈ wAll := wa (tb_3 _ (List.mem_of_getElem? (i := 216) rfl)) rfl
theorem mw_519 : .methodLink RCL 33 yC0_is ∈ wAll := wa (tb_2 _ (List.mem_of_getElem? (i := 58) rfl)) rfl
theorem mw_520 : .instanceMethod yC0_is ∈ wAll := wa (tb_2 _ (List.mem_of_getElem? (i := 59) rfl)) rfl
theorem mw_521 : .selects RC0 yC0_is yC0_is ∈ wAll := wa (tb_2 _ (List.mem_of_getElem? (i := 60) rfl)) rfl
theorem mw_522 : .code yC0_is cC0_is 3 (some .int) ∈ wAll := wa (tb_2 _ (List.mem_of_getElem? (i := 61) rfl)) rfl
theorem mw_523 : .methodLink RCL 36 yCM_is ∈ wAll := wa (tb_3 _ (List.mem_of_getElem? (i := 179) rfl)) rfl
theorem mw_524 : .instanceMethod yCM_is ∈ wAll := wa (tb_3 _ (List.mem_of_getElem? (i := 180) rfl)) rfl
theorem mw_525 : .selects RCM yCM_is yCM_is ∈ wAll := wa (tb_3 _ (List.mem_of_getElem? (i := 181) rfl)) rfl
theorem mw_526 : .code yCM_is cCM_is 3 (some .int) ∈ wAll := wa (tb_3 _ (List.mem_of_getElem? (i := 182) rfl)) rfl
theorem mw_527 : .methodLink RCL 37 yC0_fits ∈ wAll := wa (tb_2 _ (List.mem_of_getElem? (i := 74) rfl)) rfl
theorem mw_528 : .instanceMethod yC0_fits ∈ wAll := wa (tb_2 _ (List.mem_of_getElem? (i := 75) rfl)) rfl
theorem mw_529 : .selects RC0 yC0_fits yC0_fits ∈ wAll := wa (tb_2 _ (List.mem_of_getElem? (i := 76) rfl)) rfl
theorem mw_530 : .code yC0_fits cC0_fits 3 (some .int) ∈ wAll := wa (tb_2 _ (List.mem_of_getElem? (i := 77) rfl)) rfl
theorem mw_531 : .methodLink RCL 40 yCM_fits ∈ wAll := wa (tb_3 _ (List.mem_of_getElem? (i := 202) rfl)) rfl
theorem mw_532 : .instanceMethod yCM_fits ∈ wAll := wa (tb_3 _ (List.mem_of_getElem? (i := 203) rfl)) rfl
theorem mw_533 : .selects RCM yCM_fits yCM_fits ∈ wAll := wa (tb_3 _ (List.mem_of_getElem? (i := 204) rfl)) rfl
theorem mw_534 : .code yCM_fits cCM_fits 3 (some .int) ∈ wAll := wa (tb_3 _ (List.mem_of_getElem? (i := 205) rfl)) rfl
theorem mw_535 : .methodLink RCL 41 yC0_function ∈ wAll := wa (tb_2 _ (List.mem_of_getElem? (i := 78) rfl)) rfl
theorem mw_536 : .instanceMethod yC0_function ∈ wAll := wa (tb_2 _ (List.mem_of_getElem? (i := 79) rfl)) rfl
theorem mw_537 : .selects RC0 yC0_function yC0_function ∈ wAll := wa (tb_2 _ (List.mem_of_getElem? (i := 80) rfl)) rfl
theorem mw_538 : .code yC0_function cC0_function 2 (some .int) ∈ wAll := wa (tb_2 _ (List.mem_of_getElem? (i := 81) rfl)) rfl
theorem mw_539 : .methodLink RCL 44 yCM_function ∈ wAll := wa (tb_3 _ (List.mem_of_getElem? (i := 227) rfl)) rfl
theorem mw_540 : .instanceMethod yCM_function ∈ wAll := wa (tb_3 _ (List.mem_of_getElem? (i := 228) rfl)) rfl
theorem mw_541 : .selects RCM yCM_function yCM_function ∈ wAll := wa (tb_3 _ (List.mem_of_getElem? (i := 229) rfl)) rfl
theorem mw_542 : .code yCM_function cCM_function 2 (some .int) ∈ wAll := wa (tb_3 _ (List.mem_of_getElem? (i := 230) rfl)) rfl
theorem mw_543 : .methodLink RCL 45 yC0_seen ∈ wAll := wa (tb_2 _ (List.mem_of_getElem? (i := 111) rfl)) rfl
theorem mw_544 : .instanceMethod yC0_seen ∈ wAll := wa (tb_2 _ (List.mem_of_getElem? (i := 112) rfl)) rfl
theorem mw_545 : .selects RC0 yC0_seen yC0_seen ∈ wAll := wa (tb_2 _ (List.mem_of_getElem? (i := 113) rfl)) rfl
theorem mw_546 : .code yC0_seen cC0_seen 4 (some .int) ∈ wAll := wa (tb_2 _ (List.mem_of_getElem? (i := 114) rfl)) rfl
theorem mw_547 : .methodLink RCL 49 yCM_seen ∈ wAll := wa (tb_4 _ (List.mem_of_getElem? (i := 11) rfl)) rfl
theorem mw_548 : .instanceMethod yCM_seen ∈ wAll := wa (tb_4 _ (List.mem_of_getElem? (i := 12) rfl)) rfl
theorem mw_549 : .selects RCM yCM_seen yCM_seen ∈ wAll := wa (tb_4 _ (List.mem_of_getElem? (i := 13) rfl)) rfl
theorem mw_550 : .code yCM_seen cCM_seen 6 (some .int) ∈ wAll := wa (tb_4 _ (List.mem_of_getElem? (i := 14) rfl)) rfl
theorem mw_551 : .methodLink RCL 50 yC0_seenAt ∈ wAll := wa (tb_2 _ (List.mem_of_getElem? (i := 123) rfl)) rfl
theorem mw_552 : .instanceMethod yC0_seenAt ∈ wAll := wa (tb_2 _ (List.mem_of_getElem? (i := 124) rfl)) rfl
theorem mw_553 : .selects RC0 yC0_seenAt yC0_seenAt ∈ wAll := wa (tb_2 _ (List.mem_of_getElem? (i := 125) rfl)) rfl
theorem mw_554 : .code yC0_seenAt cC0_seenAt 6 (some .int) ∈ wAll := wa (tb_2 _ (List.mem_of_getElem? (i := 126) rfl)) rfl
theorem mw_555 : .methodLink RCL 54 yCM_seenAt ∈ wAll := wa (tb_4 _ (List.mem_of_getElem? (i := 19) rfl)) rfl
theorem mw_556 : .instanceMethod yCM_seenAt ∈ wAll := wa (tb_4 _ (List.mem_of_getElem? (i := 20) rfl)) rfl
theorem mw_557 : .selects RCM yCM_seenAt yCM_seenAt ∈ wAll := wa (tb_4 _ (List.mem_of_getElem? (i := 21) rfl)) rfl
theorem mw_558 : .code yCM_seenAt cCM_seenAt 7 (some .int) ∈ wAll := wa (tb_4 _ (List.mem_of_getElem? (i := 22) rfl)) rfl
theorem mw_559 : .methodLink RCL 55 yC0_argument ∈ wAll := wa (tb_2 _ (List.mem_of_getElem? (i := 127) rfl)) rfl
theorem mw_560 : .instanceMethod yC0_argument ∈ wAll := wa (tb_2 _ (List.mem_of_getElem? (i := 128) rfl)) rfl
theorem mw_561 : .selects RC0 yC0_argument yC0_argument ∈ wAll := wa (tb_2 _ (List.mem_of_getElem? (i := 129) rfl)) rfl
theorem mw_562 : .code yC0_argument cC0_argument 2 (some .int) ∈ wAll := wa (tb_2 _ (List.mem_of_getElem? (i := 130) rfl)) rfl
theorem mw_563 : .methodLink RCL 58 yCM_argument ∈ wAll := wa (tb_4 _ (List.mem_of_getElem? (i := 23) rfl)) rfl
theorem mw_564 : .instanceMethod yCM_argument ∈ wAll := wa (tb_4 _ (List.mem_of_getElem? (i := 24) rfl)) rfl
theorem mw_565 : .selects RCM yCM_argument yCM_argument ∈ wAll := wa (tb_4 _ (List.mem_of_getElem? (i := 25) rfl)) rfl
theorem mw_566 : .code yCM_argument cCM_argument 2 (some .int) ∈ wAll := wa (tb_4 _ (List.mem_of_getElem? (i := 26) rfl)) rfl
theorem mw_567 : .methodLink RCL 59 yC0_lambda ∈ wAll := wa (tb_2 _ (List.mem_of_getElem? (i := 135) rfl)) rfl
theorem mw_568 : .instanceMethod yC0_lambda ∈ wAll := wa (tb_2 _ (List.mem_of_getElem? (i := 136) rfl)) rfl
theorem mw_569 : .selects RC0 yC0_lambda yC0_lambda ∈ wAll := wa (tb_2 _ (List.mem_of_getElem? (i := 137) rfl)) rfl
theorem mw_570 : .code yC0_lambda cC0_lambda 8 (some .int) ∈ wAll := wa (tb_2 _ (List.mem_of_getElem? (i := 138) rfl)) rfl
theorem mw_571 : .methodLink RCL 63 yCM_lambda ∈ wAll := wa (tb_4 _ (List.mem_of_getElem? (i := 27) rfl)) rfl
theorem mw_572 : .instanceMethod yCM_lambda ∈ wAll := wa (tb_4 _ (List.mem_of_getElem? (i := 28) rfl)) rfl
theorem mw_573 : .selects RCM yCM_lambda yCM_lambda ∈ wAll := wa (tb_4 _ (List.mem_of_getElem? (i := 29) rfl)) rfl
theorem mw_574 : .code yCM_lambda cCM_lambda 6 (some .int) ∈ wAll := wa (tb_4 _ (List.mem_of_getElem? (i := 30) rfl)) rfl
theorem mw_575 : .methodLink RCL 64 yC0_wipe ∈ wAll := wa (tb_2 _ (List.mem_of_getElem? (i := 145) rfl)) rfl
theorem mw_576 : .instanceMethod yC0_wipe ∈ wAll := wa (tb_2 _ (List.mem_of_getElem? (i := 146) rfl)) rfl
theorem mw_577 : .selects RC0 yC0_wipe yC0_wipe ∈ wAll := wa (tb_2 _ (List.mem_of_getElem? (i := 147) rfl)) rfl
theorem mw_578 : .code yC0_wipe cC0_wipe 1 (some .int) ∈ wAll := wa (tb_2 _ (List.mem_of_getElem? (i := 148) rfl)) rfl
theorem mw_579 : .methodLink RCL 67 yCM_wipe ∈ wAll := wa (tb_4 _ (List.mem_of_getElem? (i := 31) rfl)) rfl
theorem mw_580 : .instanceMethod yCM_wipe ∈ wAll := wa (tb_4 _ (List.mem_of_getElem? (i := 32) rfl)) rfl
theorem mw_581 : .selects RCM yCM_wipe yCM_wipe ∈ wAll := wa (tb_4 _ (List.mem_of_getElem? (i := 33) rfl)) rfl
theorem mw_582 : .code yCM_wipe cCM_wipe 2 (some .int) ∈ wAll := wa (tb_4 _ (List.mem_of_getElem? (i := 34) rfl)) rfl
theorem mw_583 : .methodLink RCL 68 yC0_choose ∈ wAll := wa (tb_2 _ (List.mem_of_getElem? (i := 153) rfl)) rfl
theorem mw_584 : .instanceMethod yC0_choose ∈ wAll := wa (tb_2 _ (List.mem_of_getElem? (i := 154) rfl)) rfl
theorem mw_585 : .selects RC0 yC0_choose yC0_choose ∈ wAll := wa (tb_2 _ (List.mem_of_getElem? (i := 155) rfl)) rfl
theorem mw_586 : .code yC0_choose cC0_choose 6 (some .int) ∈ wAll := wa (tb_2 _ (List.mem_of_getElem? (i := 156) rfl)) rfl
theorem mw_587 : .methodLink RCL 71 yCM_choose ∈ wAll := wa (tb_4 _ (List.mem_of_getElem? (i := 35) rfl)) rfl
theorem mw_588 : .instanceMethod yCM_choose ∈ wAll := wa (tb_4 _ (List.mem_of_getElem? (i := 36) rfl)) rfl
theorem mw_589 : .selects RCM yCM_choose yCM_choose ∈ wAll := wa (tb_4 _ (List.mem_of_getElem? (i := 37) rfl)) rfl
theorem mw_590 : .code yCM_choose cCM_choose 10 (some .int) ∈ wAll := wa (tb_4 _ (List.mem_of_getElem? (i := 38) rfl)) rfl
theorem mw_591 : .methodLink RCL 72 yC0_phase ∈ wAll := wa (tb_3 _ (List.mem_of_getElem? (i := 41) rfl)) rfl
theorem mw_592 : .instanceMethod yC0_phase ∈ wAll := wa (tb_3 _ (List.mem_of_getElem? (i := 42) rfl)) rfl
theorem mw_593 : .selects RC0 yC0_phase yC0_phase ∈ wAll := wa (tb_3 _ (List.mem_of_getElem? (i := 43) rfl)) rfl
theorem mw_594 : .code yC0_phase cC0_phase 1 (some .int) ∈ wAll := wa (tb_3 _ (List.mem_of_getElem? (i := 44) rfl)) rfl
theorem mw_595 : .methodLink RCL 75 yCM_phase ∈ wAll := wa (tb_4 _ (List.mem_of_getElem? (i := 75) rfl)) rfl
theorem mw_596 : .instanceMethod yCM_phase ∈ wAll := wa (tb_4 _ (List.mem_of_getElem? (i := 76) rfl)) rfl
theorem mw_597 : .selects RCM yCM_phase yCM_phase ∈ wAll := wa (tb_4 _ (List.mem_of_getElem? (i := 77) rfl)) rfl
theorem mw_598 : .code yCM_phase cCM_phase 1 (some .int) ∈ wAll := wa (tb_4 _ (List.mem_of_getElem? (i := 78) rfl)) rfl
theorem mw_599 : .methodLink RCL 76 yC0_applied ∈ wAll := wa (tb_3 _ (List.mem_of_getElem? (i := 49) rfl)) rfl
theorem mw_600 : .instanceMethod yC0_applied ∈ wAll := wa (tb_3 _ (List.mem_of_getElem? (i := 50) rfl)) rfl
theorem mw_601 : .selects RC0 yC0_applied yC0_applied ∈ wAll := wa (tb_3 _ (List.mem_of_getElem? (i := 51) rfl)) rfl
theorem mw_602 : .code yC0_applied cC0_applied 2 (some .int) ∈ wAll := wa (tb_3 _ (List.mem_of_getElem? (i := 52) rfl)) rfl
theorem mw_603 : .methodLink RCL 79 yCM_applied ∈ wAll := wa (tb_4 _ (List.mem_of_getElem? (i := 79) rfl)) rfl
theorem mw_604 : .instanceMethod yCM_applied ∈ wAll := wa (tb_4 _ (List.mem_of_getElem? (i := 80) rfl)) rfl
theorem mw_605 : .selects RCM yCM_applied yCM_applied ∈ wAll := wa (tb_4 _ (List.mem_of_getElem? (i := 81) rfl)) rfl
theorem mw_606 : .code yCM_applied cCM_applied 4 (some .int) ∈ wAll := wa (tb_4 _ (List.mem_of_getElem? (i := 82) rfl)) rfl
theorem mw_607 : .methodLink RCL 80 yC0_special ∈ wAll := wa (tb_3 _ (List.mem_of_getElem? (i := 57) rfl)) rfl
theorem mw_608 : .instanceMethod yC0_special ∈ wAll := wa (tb_3 _ (List.mem_of_getElem? (i := 58) rfl)) rfl
theorem mw_609 : .selects RC0 yC0_special yC0_special ∈ wAll := wa (tb_3 _ (List.mem_of_getElem? (i := 59) rfl)) rfl
theorem mw_610 : .code yC0_special cC0_special 3 (some .int) ∈ wAll := wa (tb_3 _ (List.mem_of_getElem? (i := 60) rfl)) rfl
theorem mw_611 : .methodLink RCL 83 yCM_special ∈ wAll := wa (tb_4 _ (List.mem_of_getElem? (i := 83) rfl)) rfl
theorem mw_612 : .instanceMethod yCM_special ∈ wAll := wa (tb_4 _ (List.mem_of_getElem? (i := 84) rfl)) rfl
theorem mw_613 : .selects RCM yCM_special yCM_special ∈ wAll := wa (tb_4 _ (List.mem_of_getElem? (i := 85) rfl)) rfl
theorem mw_614 : .code yCM_special cCM_special 4 (some .int) ∈ wAll := wa (tb_4 _ (List.mem_of_getElem? (i := 86) rfl)) rfl
theorem mw_615 : .methodLink RCL 84 yC0_count ∈ wAll := wa (tb_3 _ (List.mem_of_getElem? (i := 69) rfl)) rfl
theorem mw_616 : .instanceMethod yC0_count ∈ wAll := wa (tb_3 _ (List.mem_of_getElem? (i := 70) rfl)) rfl
theorem mw_617 : .selects RC0 yC0_count yC0_count ∈ wAll := wa (tb_3 _ (List.mem_of_getElem? (i := 71) rfl)) rfl
theorem mw_618 : .code yC0_count cC0_count 2 (some .int) ∈ wAll := wa (tb_3 _ (List.mem_of_getElem? (i := 72) rfl)) rfl
theorem mw_619 : .methodLink RCL 87 yCM_count ∈ wAll := wa (tb_4 _ (List.mem_of_getElem? (i := 87) rfl)) rfl
theorem mw_620 : .instanceMethod yCM_count ∈ wAll := wa (tb_4 _ (List.mem_of_getElem? (i := 88) rfl)) rfl
theorem mw_621 : .selects RCM yCM_count yCM_count ∈ wAll := wa (tb_4 _ (List.mem_of_getElem? (i := 89) rfl)) rfl
theorem mw_622 : .code yCM_count cCM_count 2 (some .int) ∈ wAll := wa (tb_4 _ (List.mem_of_getElem? (i := 90) rfl)) rfl
theorem mw_623 : .code objectInit ⟨#[0xb1]⟩ 1 none ∈ wAll := wa (tb_1 _ (List.mem_of_getElem? (i := 18) rfl)) rfl
theorem mw_624 : .methodLink RJA 304 Lib.Math.min.name ∈ wAll := wa (tb_1 _ (List.mem_of_getElem? (i := 37) rfl)) rfl
theorem mw_625 : .static Lib.Math.min.name ∈ wAll := wa (tb_1 _ (List.mem_of_getElem? (i := 38) rfl)) rfl
theorem mw_626 : .initialized "java/lang/Math" ∈ wAll := wa (tb_1 _ (List.mem_of_getElem? (i := 4) rfl)) rfl
theorem mw_627 : .code Lib.Math.min.name Lib.Math.min.code 2 (some .int) ∈ wAll := wa (tb_1 _ (List.mem_of_getElem? (i := 39) rfl)) rfl
theorem mw_628 : .methodLink RJA 150 arraycopyName ∈ wAll := wa (tb_1 _ (List.mem_of_getElem? (i := 40) rfl)) rfl
theorem mw_629 : .native arraycopyName ∈ wAll := wa (tb_1 _ (List.mem_of_getElem? (i := 42) rfl)) rfl
theorem mw_630 : .static arraycopyName ∈ wAll := wa (tb_1 _ (List.mem_of_getElem? (i := 41) rfl)) rfl
theorem mw_631 : .initialized "java/lang/System" ∈ wAll := wa (tb_1 _ (List.mem_of_getElem? (i := 5) rfl)) rfl
theorem mw_632 : .arrayClass .long ∈ wAll := wa (tb_1 _ (List.mem_of_getElem? (i := 56) rfl)) rfl
theorem mw_633 : .methodLink RC3 3 objectInit ∈ wAll := wa (tb_1 _ (List.mem_of_getElem? (i := 104) rfl)) rfl
theorem mw_634 : .instanceMethod objectInit ∈ wAll := wa (tb_1 _ (List.mem_of_getElem? (i := 17) rfl)) rfl
theorem mw_635 : .arrayClass .boolean ∈ wAll := wa (tb_1 _ (List.mem_of_getElem? (i := 58) rfl)) rfl
theorem mw_636 : .arrayClass .int ∈ wAll := wa (tb_1 _ (List.mem_of_getElem? (i := 57) rfl)) rfl
theorem mw_637 : .methodLink RC4 3 objectInit ∈ wAll := wa (tb_1 _ (List.mem_of_getElem? (i := 129) rfl)) rfl
theorem mw_638 : .methodLink RC2 3 objectInit ∈ wAll := wa (tb_1 _ (List.mem_of_getElem? (i := 64) rfl)) rfl
theorem mw_639 : .methodLink RC2 39 yJA_fill ∈ wAll := wa (tb_1 _ (List.mem_of_getElem? (i := 65) rfl)) rfl
theorem mw_640 : .static yJA_fill ∈ wAll := wa (tb_1 _ (List.mem_of_getElem? (i := 66) rfl)) rfl
theorem mw_641 : .initialized RJA ∈ wAll := wa (tb_1 _ (List.mem_of_getElem? (i := 3) rfl)) rfl
theorem mw_642 : .code yJA_fill cJA_fill 4 none ∈ wAll := wa (tb_1 _ (List.mem_of_getElem? (i := 67) rfl)) rfl
theorem mw_643 : .methodLink RC1 5 objectInit ∈ wAll := wa (tb_1 _ (List.mem_of_getElem? (i := 24) rfl)) rfl
theorem mw_644 : .fieldLink RC1 11 "MemberChoice$Types" "FIXED_ABOVE" "[J" ∈ wAll := wa (tb_1 _ (List.mem_of_getElem? (i := 25) rfl)) rfl
theorem mw_645 : .methodLink RC1 15 yJA_copyOf ∈ wAll := wa (tb_1 _ (List.mem_of_getElem? (i := 27) rfl)) rfl
theorem mw_646 : .static yJA_copyOf ∈ wAll := wa (tb_1 _ (List.mem_of_getElem? (i := 28) rfl)) rfl
theorem mw_647 : .code yJA_copyOf cJA_copyOf 3 (some (.array .long)) ∈ wAll := wa (tb_1 _ (List.mem_of_getElem? (i := 29) rfl)) rfl
theorem mw_648 : .methodLink RC0 1 objectInit ∈ wAll := wa (tb_1 _ (List.mem_of_getElem? (i := 16) rfl)) rfl
theorem mw_649 : .classLink RC0 7 RC1 ∈ wAll := wa (tb_1 _ (List.mem_of_getElem? (i := 19) rfl)) rfl
theorem mw_650 : .instantiable RC1 4 ∈ wAll := wa (tb_1 _ (List.mem_of_getElem? (i := 20) rfl)) rfl
theorem mw_651 : .code yC1_init cC1_init 1 none ∈ wAll := wa (tb_1 _ (List.mem_of_getElem? (i := 23) rfl)) rfl
theorem mw_652 : .methodLink RC0 9 yC1_init ∈ wAll := wa (tb_1 _ (List.mem_of_getElem? (i := 21) rfl)) rfl
theorem mw_653 : .instanceMethod yC1_init ∈ wAll := wa (tb_1 _ (List.mem_of_getElem? (i := 22) rfl)) rfl
theorem mw_654 : .classLink RC0 16 RC2 ∈ wAll := wa (tb_1 _ (List.mem_of_getElem? (i := 59) rfl)) rfl
theorem mw_655 : .instantiable RC2 10 ∈ wAll := wa (tb_1 _ (List.mem_of_getElem? (i := 60) rfl)) rfl
theorem mw_656 : .code yC2_init cC2_init 2 none ∈ wAll := wa (tb_1 _ (List.mem_of_getElem? (i := 63) rfl)) rfl
theorem mw_657 : .methodLink RC0 18 yC2_init ∈ wAll := wa (tb_1 _ (List.mem_of_getElem? (i := 61) rfl)) rfl
theorem mw_658 : .instanceMethod yC2_init ∈ wAll := wa (tb_1 _ (List.mem_of_getElem? (i := 62) rfl)) rfl
theorem mw_659 : .classLink RC0 25 RC3 ∈ wAll := wa (tb_1 _ (List.mem_of_getElem? (i := 99) rfl)) rfl
theorem mw_660 : .instantiable RC3 6 ∈ wAll := wa (tb_1 _ (List.mem_of_getElem? (i := 100) rfl)) rfl
theorem mw_661 : .code yC3_init cC3_init 1 none ∈ wAll := wa (tb_1 _ (List.mem_of_getElem? (i := 103) rfl)) rfl
theorem mw_662 : .methodLink RC0 27 yC3_init ∈ wAll := wa (tb_1 _ (List.mem_of_getElem? (i := 101) rfl)) rfl
theorem mw_663 : .instanceMethod yC3_init ∈ wAll := wa (tb_1 _ (List.mem_of_getElem? (i := 102) rfl)) rfl
theorem mw_664 : .classLink RC0 32 RC4 ∈ wAll := wa (tb_1 _ (List.mem_of_getElem? (i := 124) rfl)) rfl
theorem mw_665 : .instantiable RC4 10 ∈ wAll := wa (tb_1 _ (List.mem_of_getElem? (i := 125) rfl)) rfl
theorem mw_666 : .code yC4_init cC4_init 4 none ∈ wAll := wa (tb_1 _ (List.mem_of_getElem? (i := 128) rfl)) rfl
theorem mw_667 : .methodLink RC0 34 yC4_init ∈ wAll := wa (tb_1 _ (List.mem_of_getElem? (i := 126) rfl)) rfl
theorem mw_668 : .instanceMethod yC4_init ∈ wAll := wa (tb_1 _ (List.mem_of_getElem? (i := 127) rfl)) rfl
theorem mw_669 : .methodLink RCM 1 objectInit ∈ wAll := wa (tb_3 _ (List.mem_of_getElem? (i := 84) rfl)) rfl
end
section
theorem dC1_add_0 : decode cC1_add 0 = .ok (.aload_n 0, 1) := by decide +kernel
theorem dC1_add_1 : decode cC1_add 1 = .ok (.getfield 32, 3) := by decide +kernel
theorem dC1_add_4 : decode cC1_add 4 = .ok (.bipush 24, 2) := by decide +kernel
theorem dC1_add_6 : decode cC1_add 6 = .ok (.if_icmp .ge 13, 3) := by decide +kernel
theorem dC1_add_9 : decode cC1_add 9 = .ok (.iload_n 1, 1) := by decide +kernel
theorem dC1_add_10 : decode cC1_add 10 = .ok (.ifCond .lt 9, 3) := by decide +kernel
theorem dC1_add_13 : decode cC1_add 13 = .ok (.iload_n 1, 1) := by decide +kernel
theorem dC1_add_14 : decode cC1_add 14 = .ok (.bipush 40, 2) := by decide +kernel
theorem dC1_add_16 : decode cC1_add 16 = .ok (.if_icmp .lt 6, 3) := by decide +kernel
theorem dC1_add_19 : decode cC1_add 19 = .ok (.bipush (-2), 2) := by decide +kernel
theorem dC1_add_21 : decode cC1_add 21 = .ok (.ireturn, 1) := by decide +kernel
theorem dC1_add_22 : decode cC1_add 22 = .ok (.bipush 16, 2) := by decide +kernel
theorem dC1_add_24 : decode cC1_add 24 = .ok (.aload_n 0, 1) := by decide +kernel
theorem dC1_add_25 : decode cC1_add 25 = .ok (.getfield 32, 3) := by decide +kernel
theorem dC1_add_28 : decode cC1_add 28 = .ok (.iadd, 1) := by decide +kernel
theorem dC1_add_29 : decode cC1_add 29 = .ok (.istore_n 3, 1) := by decide +kernel
theorem dC1_add_30 : decode cC1_add 30 = .ok (.aload_n 0, 1) := by decide +kernel
theorem dC1_add_31 : decode cC1_add 31 = .ok (.getfield 21, 3) := by decide +kernel
theorem dC1_add_34 : decode cC1_add 34 = .ok (.iload_n 3, 1) := by decide +kernel
theorem dC1_add_35 : decode cC1_add 35 = .ok (.aload_n 0, 1) := by decide +kernel
theorem dC1_add_36 : decode cC1_add 36 = .ok (.getfield 21, 3) := by decide +kernel
theorem dC1_add_39 : decode cC1_add 39 = .ok (.iload_n 1, 1) := by decide +kernel
theorem dC1_add_40 : decode cC1_add 40 = .ok (.laload, 1) := by decide +kernel
theorem dC1_add_41 : decode cC1_add 41 = .ok (.lconst 1, 1) := by decide +kernel
theorem dC1_add_42 : decode cC1_add 42 = .ok (.iload_n 3, 1) := by decide +kernel
theorem dC1_add_43 : decode cC1_add 43 = .ok (.lshl, 1) := by decide +kernel
theorem dC1_add_44 : decode cC1_add 44 = .ok (.lor, 1) := by decide +kernel
theorem dC1_add_45 : decode cC1_add 45 = .ok (.lastore, 1) := by decide +kernel
theorem dC1_add_46 : decode cC1_add 46 = .ok (.aload_n 0, 1) := by decide +kernel
theorem dC1_add_47 : decode cC1_add 47 = .ok (.getfield 28, 3) := by decide +kernel
theorem dC1_add_50 : decode cC1_add 50 = .ok (.aload_n 0, 1) := by decide +kernel
theorem dC1_add_51 : decode cC1_add 51 = .ok (.getfield 32, 3) := by decide +kernel
theorem dC1_add_54 : decode cC1_add 54 = .ok (.iload_n 2, 1) := by decide +kernel
theorem dC1_add_55 : decode cC1_add 55 = .ok (.bastore, 1) := by decide +kernel
theorem dC1_add_56 : decode cC1_add 56 = .ok (.aload_n 0, 1) := by decide +kernel
theorem dC1_add_57 : decode cC1_add 57 = .ok (.dup, 1) := by decide +kernel
theorem dC1_add_58 : decode cC1_add 58 = .ok (.getfield 32, 3) := by decide +kernel
theorem dC1_add_61 : decode cC1_add 61 = .ok (.iconst 1, 1) := by decide +kernel
theorem dC1_add_62 : decode cC1_add 62 = .ok (.iadd, 1) := by decide +kernel
theorem dC1_add_63 : decode cC1_add 63 = .ok (.putfield 32, 3) := by decide +kernel
theorem dC1_add_66 : decode cC1_add 66 = .ok (.iload_n 3, 1) := by decide +kernel
theorem dC1_add_67 : decode cC1_add 67 = .ok (.ireturn, 1) := by decide +kernel
theorem dC1_isTold_0 : decode cC1_isTold 0 = .ok (.iload_n 1, 1) := by decide +kernel
theorem dC1_isTold_1 : decode cC1_isTold 1 = .ok (.bipush 16, 2) := by decide +kernel
theorem dC1_isTold_3 : decode cC1_isTold 3 = .ok (.if_icmp .lt 18, 3) := by decide +kernel
theorem dC1_isTold_6 : decode cC1_isTold 6 = .ok (.iload_n 1, 1) := by decide +kernel
theorem dC1_isTold_7 : decode cC1_isTold 7 = .ok (.bipush 16, 2) := by decide +kernel
theorem dC1_isTold_9 : decode cC1_isTold 9 = .ok (.aload_n 0, 1) := by decide +kernel
theorem dC1_isTold_10 : decode cC1_isTold 10 = .ok (.getfield 32, 3) := by decide +kernel
theorem dC1_isTold_13 : decode cC1_isTold 13 = .ok (.iadd, 1) := by decide +kernel
theorem dC1_isTold_14 : decode cC1_isTold 14 = .ok (.if_icmp .ge 7, 3) := by decide +kernel
theorem dC1_isTold_17 : decode cC1_isTold 17 = .ok (.iconst 1, 1) := by decide +kernel
theorem dC1_isTold_18 : decode cC1_isTold 18 = .ok (.goto 4, 3) := by decide +kernel
theorem dC1_isTold_21 : decode cC1_isTold 21 = .ok (.iconst 0, 1) := by decide +kernel
theorem dC1_isTold_22 : decode cC1_isTold 22 = .ok (.ireturn, 1) := by decide +kernel
theorem dC1_isInterface_0 : decode cC1_isInterface 0 = .ok (.aload_n 0, 1) := by decide +kernel
theorem dC1_isInterface_1 : decode cC1_isInterface 1 = .ok (.iload_n 1, 1) := by decide +kernel
theorem dC1_isInterface_2 : decode cC1_isInterface 2 = .ok (.invokevirtual 36, 3) := by decide +kernel
theorem dC1_isInterface_5 : decode cC1_isInterface 5 = .ok (.ifCond .eq 19, 3) := by decide +kernel
theorem dC1_isInterface_8 : decode cC1_isInterface 8 = .ok (.aload_n 0, 1) := by decide +kernel
theorem dC1_isInterface_9 : decode cC1_isInterface 9 = .ok (.getfield 28, 3) := by decide +kernel
theorem dC1_isInterface_12 : decode cC1_isInterface 12 = .ok (.iload_n 1, 1) := by decide +kernel
theorem dC1_isInterface_13 : decode cC1_isInterface 13 = .ok (.bipush 16, 2) := by decide +kernel
theorem dC1_isInterface_15 : decode cC1_isInterface 15 = .ok (.isub, 1) := by decide +kernel
theorem dC1_isInterface_16 : decode cC1_isInterface 16 = .ok (.baload, 1) := by decide +kernel
theorem dC1_isInterface_17 : decode cC1_isInterface 17 = .ok (.ifCond .eq 7, 3) := by decide +kernel
theorem dC1_isInterface_20 : decode cC1_isInterface 20 = .ok (.iconst 1, 1) := by decide +kernel
theorem dC1_isInterface_21 : decode cC1_isInterface 21 = .ok (.goto 4, 3) := by decide +kernel
theorem dC1_isInterface_24 : decode cC1_isInterface 24 = .ok (.iconst 0, 1) := by decide +kernel
theorem dC1_isInterface_25 : decode cC1_isInterface 25 = .ok (.ireturn, 1) := by decide +kernel
theorem dC0_cls_0 : decode cC0_cls 0 = .ok (.iload_n 1, 1) := by decide +kernel
theorem dC0_cls_1 : decode cC0_cls 1 = .ok (.bipush 8, 2) := by decide +kernel
theorem dC0_cls_3 : decode cC0_cls 3 = .ok (.if_icmp .eq 25, 3) := by decide +kernel
theorem dC0_cls_6 : decode cC0_cls 6 = .ok (.aload_n 0, 1) := by decide +kernel
theorem dC0_cls_7 : decode cC0_cls 7 = .ok (.getfield 10, 3) := by decide +kernel
theorem dC0_cls_10 : decode cC0_cls 10 = .ok (.iload_n 1, 1) := by decide +kernel
theorem dC0_cls_11 : decode cC0_cls 11 = .ok (.invokevirtual 45, 3) := by decide +kernel
theorem dC0_cls_14 : decode cC0_cls 14 = .ok (.ifCond .eq 18, 3) := by decide +kernel
theorem dC0_cls_17 : decode cC0_cls 17 = .ok (.aload_n 0, 1) := by decide +kernel
theorem dC0_cls_18 : decode cC0_cls 18 = .ok (.getfield 10, 3) := by decide +kernel
theorem dC0_cls_21 : decode cC0_cls 21 = .ok (.iload_n 1, 1) := by decide +kernel
theorem dC0_cls_22 : decode cC0_cls 22 = .ok (.invokevirtual 49, 3) := by decide +kernel
theorem dC0_cls_25 : decode cC0_cls 25 = .ok (.ifCond .ne 7, 3) := by decide +kernel
theorem dC0_cls_28 : decode cC0_cls 28 = .ok (.iconst 1, 1) := by decide +kernel
theorem dC0_cls_29 : decode cC0_cls 29 = .ok (.goto 4, 3) := by decide +kernel
theorem dC0_cls_32 : decode cC0_cls 32 = .ok (.iconst 0, 1) := by decide +kernel
theorem dC0_cls_33 : decode cC0_cls 33 = .ok (.istore_n 2, 1) := by decide +kernel
theorem dC0_cls_34 : decode cC0_cls 34 = .ok (.iload_n 2, 1) := by decide +kernel
theorem dC0_cls_35 : decode cC0_cls 35 = .ok (.ifCond .eq 15, 3) := by decide +kernel
theorem dC0_cls_38 : decode cC0_cls 38 = .ok (.aload_n 0, 1) := by decide +kernel
theorem dC0_cls_39 : decode cC0_cls 39 = .ok (.getfield 10, 3) := by decide +kernel
theorem dC0_cls_42 : decode cC0_cls 42 = .ok (.iload_n 1, 1) := by decide +kernel
theorem dC0_cls_43 : decode cC0_cls 43 = .ok (.iconst 0, 1) := by decide +kernel
theorem dC0_cls_44 : decode cC0_cls 44 = .ok (.invokevirtual 52, 3) := by decide +kernel
theorem dC0_cls_47 : decode cC0_cls 47 = .ok (.goto 5, 3) := by decide +kernel
theorem dC0_cls_50 : decode cC0_cls 50 = .ok (.bipush (-2), 2) := by decide +kernel
theorem dC0_cls_52 : decode cC0_cls 52 = .ok (.ireturn, 1) := by decide +kernel
theorem dC0_face_0 : decode cC0_face 0 = .ok (.aload_n 0, 1) := by decide +kernel
theorem dC0_face_1 : decode cC0_face 1 = .ok (.getfield 10, 3) := by decide +kernel
theorem dC0_face_4 : decode cC0_face 4 = .ok (.bipush 8, 2) := by decide +kernel
theorem dC0_face_6 : decode cC0_face 6 = .ok (.iconst 1, 1) := by decide +kernel
theorem dC0_face_7 : decode cC0_face 7 = .ok (.invokevirtual 52, 3) := by decide +kernel
theorem dC0_face_10 : decode cC0_face 10 = .ok (.ireturn, 1) := by decide +kernel
theorem dJI_bitCount_0 : decode cJI_bitCount 0 = .ok (.iload_n 0, 1) := by decide +kernel
theorem dJI_bitCount_1 : decode cJI_bitCount 1 = .ok (.iload_n 0, 1) := by decide +kernel
theorem dJI_bitCount_2 : decode cJI_bitCount 2 = .ok (.iconst 1, 1) := by decide +kernel
theorem dJI_bitCount_3 : decode cJI_bitCount 3 = .ok (.iushr, 1) := by decide +kernel
theorem dJI_bitCount_4 : decode cJI_bitCount 4 = .ok (.ldc_w 265, 3) := by decide +kernel
theorem dJI_bitCount_7 : decode cJI_bitCount 7 = .ok (.iand, 1) := by decide +kernel
theorem dJI_bitCount_8 : decode cJI_bitCount 8 = .ok (.isub, 1) := by decide +kernel
theorem dJI_bitCount_9 : decode cJI_bitCount 9 = .ok (.istore_n 0, 1) := by decide +kernel
theorem dJI_bitCount_10 : decode cJI_bitCount 10 = .ok (.iload_n 0, 1) := by decide +kernel
theorem dJI_bitCount_11 : decode cJI_bitCount 11 = .ok (.ldc_w 266, 3) := by decide +kernel
theorem dJI_bitCount_14 : decode cJI_bitCount 14 = .ok (.iand, 1) := by decide +kernel
theorem dJI_bitCount_15 : decode cJI_bitCount 15 = .ok (.iload_n 0, 1) := by decide +kernel
theorem dJI_bitCount_16 : decode cJI_bitCount 16 = .ok (.iconst 2, 1) := by decide +kernel
theorem dJI_bitCount_17 : decode cJI_bitCount 17 = .ok (.iushr, 1) := by decide +kernel
theorem dJI_bitCount_18 : decode cJI_bitCount 18 = .ok (.ldc_w 266, 3) := by decide +kernel
theorem dJI_bitCount_21 : decode cJI_bitCount 21 = .ok (.iand, 1) := by decide +kernel
theorem dJI_bitCount_22 : decode cJI_bitCount 22 = .ok (.iadd, 1) := by decide +kernel
theorem dJI_bitCount_23 : decode cJI_bitCount 23 = .ok (.istore_n 0, 1) := by decide +kernel
theorem dJI_bitCount_24 : decode cJI_bitCount 24 = .ok (.iload_n 0, 1) := by decide +kernel
theorem dJI_bitCount_25 : decode cJI_bitCount 25 = .ok (.iload_n 0, 1) := by decide +kernel
theorem dJI_bitCount_26 : decode cJI_bitCount 26 = .ok (.iconst 4, 1) := by decide +kernel
theorem dJI_bitCount_27 : decode cJI_bitCount 27 = .ok (.iushr, 1) := by decide +kernel
theorem dJI_bitCount_28 : decode cJI_bitCount 28 = .ok (.iadd, 1) := by decide +kernel
theorem dJI_bitCount_29 : decode cJI_bitCount 29 = .ok (.ldc_w 267, 3) := by decide +kernel
theorem dJI_bitCount_32 : decode cJI_bitCount 32 = .ok (.iand, 1) := by decide +kernel
theorem dJI_bitCount_33 : decode cJI_bitCount 33 = .ok (.istore_n 0, 1) := by decide +kernel
theorem dJI_bitCount_34 : decode cJI_bitCount 34 = .ok (.iload_n 0, 1) := by decide +kernel
theorem dJI_bitCount_35 : decode cJI_bitCount 35 = .ok (.iload_n 0, 1) := by decide +kernel
theorem dJI_bitCount_36 : decode cJI_bitCount 36 = .ok (.bipush 8, 2) := by decide +kernel
theorem dJI_bitCount_38 : decode cJI_bitCount 38 = .ok (.iushr, 1) := by decide +kernel
theorem dJI_bitCount_39 : decode cJI_bitCount 39 = .ok (.iadd, 1) := by decide +kernel
theorem dJI_bitCount_40 : decode cJI_bitCount 40 = .ok (.istore_n 0, 1) := by decide +kernel
theorem dJI_bitCount_41 : decode cJI_bitCount 41 = .ok (.iload_n 0, 1) := by decide +kernel
theorem dJI_bitCount_42 : decode cJI_bitCount 42 = .ok (.iload_n 0, 1) := by decide +kernel
theorem dJI_bitCount_43 : decode cJI_bitCount 43 = .ok (.bipush 16, 2) := by decide +kernel
theorem dJI_bitCount_45 : decode cJI_bitCount 45 = .ok (.iushr, 1) := by decide +kernel
theorem dJI_bitCount_46 : decode cJI_bitCount 46 = .ok (.iadd, 1) := by decide +kernel
theorem dJI_bitCount_47 : decode cJI_bitCount 47 = .ok (.istore_n 0, 1) := by decide +kernel
theorem dJI_bitCount_48 : decode cJI_bitCount 48 = .ok (.iload_n 0, 1) := by decide +kernel
theorem dJI_bitCount_49 : decode cJI_bitCount 49 = .ok (.bipush 63, 2) := by decide +kernel
theorem dJI_bitCount_51 : decode cJI_bitCount 51 = .ok (.iand, 1) := by decide +kernel
theorem dJI_bitCount_52 : decode cJI_bitCount 52 = .ok (.ireturn, 1) := by decide +kernel
theorem dC1_isA_0 : decode cC1_isA 0 = .ok (.iload_n 1, 1) := by decide +kernel
theorem dC1_isA_1 : decode cC1_isA 1 = .ok (.iload_n 2, 1) := by decide +kernel
theorem dC1_isA_2 : decode cC1_isA 2 = .ok (.if_icmp .ne 5, 3) := by decide +kernel
theorem dC1_isA_5 : decode cC1_isA 5 = .ok (.iconst 1, 1) := by decide +kernel
theorem dC1_isA_6 : decode cC1_isA 6 = .ok (.ireturn, 1) := by decide +kernel
theorem dC1_isA_7 : decode cC1_isA 7 = .ok (.iload_n 1, 1) := by decide +kernel
theorem dC1_isA_8 : decode cC1_isA 8 = .ok (.bipush 64, 2) := by decide +kernel
theorem dC1_isA_10 : decode cC1_isA 10 = .ok (.if_icmp .lt 7, 3) := by decide +kernel
theorem dC1_isA_13 : decode cC1_isA 13 = .ok (.iconst 1, 1) := by decide +kernel
theorem dC1_isA_14 : decode cC1_isA 14 = .ok (.goto 4, 3) := by decide +kernel
theorem dC1_isA_17 : decode cC1_isA 17 = .ok (.iconst 0, 1) := by decide +kernel
theorem dC1_isA_18 : decode cC1_isA 18 = .ok (.istore_n 3, 1) := by decide +kernel
theorem dC1_isA_19 : decode cC1_isA 19 = .ok (.iload_n 3, 1) := by decide +kernel
theorem dC1_isA_20 : decode cC1_isA 20 = .ok (.iload_n 2, 1) := by decide +kernel
theorem dC1_isA_21 : decode cC1_isA 21 = .ok (.bipush 64, 2) := by decide +kernel
theorem dC1_isA_23 : decode cC1_isA 23 = .ok (.if_icmp .lt 7, 3) := by decide +kernel
theorem dC1_isA_26 : decode cC1_isA 26 = .ok (.iconst 1, 1) := by decide +kernel
theorem dC1_isA_27 : decode cC1_isA 27 = .ok (.goto 4, 3) := by decide +kernel
theorem dC1_isA_30 : decode cC1_isA 30 = .ok (.iconst 0, 1) := by decide +kernel
theorem dC1_isA_31 : decode cC1_isA 31 = .ok (.if_icmp .eq 33, 3) := by decide +kernel
theorem dC1_isA_34 : decode cC1_isA 34 = .ok (.iload_n 3, 1) := by decide +kernel
theorem dC1_isA_35 : decode cC1_isA 35 = .ok (.ifCond .eq 17, 3) := by decide +kernel
theorem dC1_isA_38 : decode cC1_isA 38 = .ok (.iload_n 2, 1) := by decide +kernel
theorem dC1_isA_39 : decode cC1_isA 39 = .ok (.bipush 8, 2) := by decide +kernel
theorem dC1_isA_41 : decode cC1_isA 41 = .ok (.if_icmp .ne 7, 3) := by decide +kernel
theorem dC1_isA_44 : decode cC1_isA 44 = .ok (.iconst 1, 1) := by decide +kernel
theorem dC1_isA_45 : decode cC1_isA 45 = .ok (.goto 18, 3) := by decide +kernel
theorem dC1_isA_48 : decode cC1_isA 48 = .ok (.iconst 0, 1) := by decide +kernel
theorem dC1_isA_49 : decode cC1_isA 49 = .ok (.goto 14, 3) := by decide +kernel
theorem dC1_isA_52 : decode cC1_isA 52 = .ok (.iload_n 1, 1) := by decide +kernel
theorem dC1_isA_53 : decode cC1_isA 53 = .ok (.bipush 10, 2) := by decide +kernel
theorem dC1_isA_55 : decode cC1_isA 55 = .ok (.if_icmp .ne 7, 3) := by decide +kernel
theorem dC1_isA_58 : decode cC1_isA 58 = .ok (.iconst 1, 1) := by decide +kernel
theorem dC1_isA_59 : decode cC1_isA 59 = .ok (.goto 4, 3) := by decide +kernel
theorem dC1_isA_62 : decode cC1_isA 62 = .ok (.iconst 0, 1) := by decide +kernel
theorem dC1_isA_63 : decode cC1_isA 63 = .ok (.ireturn, 1) := by decide +kernel
theorem dC1_isA_64 : decode cC1_isA 64 = .ok (.iload_n 3, 1) := by decide +kernel
theorem dC1_isA_65 : decode cC1_isA 65 = .ok (.ifCond .eq 10, 3) := by decide +kernel
theorem dC1_isA_68 : decode cC1_isA 68 = .ok (.iload_n 1, 1) := by decide +kernel
theorem dC1_isA_69 : decode cC1_isA 69 = .ok (.bipush 64, 2) := by decide +kernel
theorem dC1_isA_71 : decode cC1_isA 71 = .ok (.isub, 1) := by decide +kernel
theorem dC1_isA_72 : decode cC1_isA 72 = .ok (.goto 4, 3) := by decide +kernel
theorem dC1_isA_75 : decode cC1_isA 75 = .ok (.iload_n 1, 1) := by decide +kernel
theorem dC1_isA_76 : decode cC1_isA 76 = .ok (.istore 4, 2) := by decide +kernel
theorem dC1_isA_78 : decode cC1_isA 78 = .ok (.iload_n 3, 1) := by decide +kernel
theorem dC1_isA_79 : decode cC1_isA 79 = .ok (.ifCond .eq 10, 3) := by decide +kernel
theorem dC1_isA_82 : decode cC1_isA 82 = .ok (.iload_n 2, 1) := by decide +kernel
theorem dC1_isA_83 : decode cC1_isA 83 = .ok (.bipush 64, 2) := by decide +kernel
theorem dC1_isA_85 : decode cC1_isA 85 = .ok (.isub, 1) := by decide +kernel
theorem dC1_isA_86 : decode cC1_isA 86 = .ok (.goto 4, 3) := by decide +kernel
theorem dC1_isA_89 : decode cC1_isA 89 = .ok (.iload_n 2, 1) := by decide +kernel
theorem dC1_isA_90 : decode cC1_isA 90 = .ok (.istore 5, 2) := by decide +kernel
theorem dC1_isA_92 : decode cC1_isA 92 = .ok (.iload_n 3, 1) := by decide +kernel
theorem dC1_isA_93 : decode cC1_isA 93 = .ok (.ifCond .eq 11, 3) := by decide +kernel
theorem dC1_isA_96 : decode cC1_isA 96 = .ok (.iload 4, 2) := by decide +kernel
theorem dC1_isA_98 : decode cC1_isA 98 = .ok (.iconst 3, 1) := by decide +kernel
theorem dC1_isA_99 : decode cC1_isA 99 = .ok (.if_icmp .gt 5, 3) := by decide +kernel
theorem dC1_isA_102 : decode cC1_isA 102 = .ok (.iconst 0, 1) := by decide +kernel
theorem dC1_isA_103 : decode cC1_isA 103 = .ok (.ireturn, 1) := by decide +kernel
theorem dC1_isA_104 : decode cC1_isA 104 = .ok (.iload 4, 2) := by decide +kernel
theorem dC1_isA_106 : decode cC1_isA 106 = .ok (.ifCond .lt 43, 3) := by decide +kernel
theorem dC1_isA_109 : decode cC1_isA 109 = .ok (.iload 4, 2) := by decide +kernel
theorem dC1_isA_111 : decode cC1_isA 111 = .ok (.bipush 40, 2) := by decide +kernel
theorem dC1_isA_113 : decode cC1_isA 113 = .ok (.if_icmp .ge 36, 3) := by decide +kernel
theorem dC1_isA_116 : decode cC1_isA 116 = .ok (.iload 5, 2) := by decide +kernel
theorem dC1_isA_118 : decode cC1_isA 118 = .ok (.ifCond .lt 31, 3) := by decide +kernel
theorem dC1_isA_121 : decode cC1_isA 121 = .ok (.iload 5, 2) := by decide +kernel
theorem dC1_isA_123 : decode cC1_isA 123 = .ok (.bipush 40, 2) := by decide +kernel
theorem dC1_isA_125 : decode cC1_isA 125 = .ok (.if_icmp .ge 24, 3) := by decide +kernel
theorem dC1_isA_128 : decode cC1_isA 128 = .ok (.aload_n 0, 1) := by decide +kernel
theorem dC1_isA_129 : decode cC1_isA 129 = .ok (.getfield 21, 3) := by decide +kernel
theorem dC1_isA_132 : decode cC1_isA 132 = .ok (.iload 4, 2) := by decide +kernel
theorem dC1_isA_134 : decode cC1_isA 134 = .ok (.laload, 1) := by decide +kernel
theorem dC1_isA_135 : decode cC1_isA 135 = .ok (.iload 5, 2) := by decide +kernel
theorem dC1_isA_137 : decode cC1_isA 137 = .ok (.lushr, 1) := by decide +kernel
theorem dC1_isA_138 : decode cC1_isA 138 = .ok (.lconst 1, 1) := by decide +kernel
theorem dC1_isA_139 : decode cC1_isA 139 = .ok (.land, 1) := by decide +kernel
theorem dC1_isA_140 : decode cC1_isA 140 = .ok (.lconst 0, 1) := by decide +kernel
theorem dC1_isA_141 : decode cC1_isA 141 = .ok (.lcmp, 1) := by decide +kernel
theorem dC1_isA_142 : decode cC1_isA 142 = .ok (.ifCond .eq 7, 3) := by decide +kernel
theorem dC1_isA_145 : decode cC1_isA 145 = .ok (.iconst 1, 1) := by decide +kernel
theorem dC1_isA_146 : decode cC1_isA 146 = .ok (.goto 4, 3) := by decide +kernel
theorem dC1_isA_149 : decode cC1_isA 149 = .ok (.iconst 0, 1) := by decide +kernel
theorem dC1_isA_150 : decode cC1_isA 150 = .ok (.ireturn, 1) := by decide +kernel
theorem dC1_putBelow_0 : decode cC1_putBelow 0 = .ok (.aload_n 0, 1) := by decide +kernel
theorem dC1_putBelow_1 : decode cC1_putBelow 1 = .ok (.iload_n 1, 1) := by decide +kernel
theorem dC1_putBelow_2 : decode cC1_putBelow 2 = .ok (.invokevirtual 36, 3) := by decide +kernel
theorem dC1_putBelow_5 : decode cC1_putBelow 5 = .ok (.ifCond .eq 11, 3) := by decide +kernel
theorem dC1_putBelow_8 : decode cC1_putBelow 8 = .ok (.aload_n 0, 1) := by decide +kernel
theorem dC1_putBelow_9 : decode cC1_putBelow 9 = .ok (.iload_n 2, 1) := by decide +kernel
theorem dC1_putBelow_10 : decode cC1_putBelow 10 = .ok (.invokevirtual 49, 3) := by decide +kernel
theorem dC1_putBelow_13 : decode cC1_putBelow 13 = .ok (.ifCond .ne 6, 3) := by decide +kernel
theorem dC1_putBelow_16 : decode cC1_putBelow 16 = .ok (.bipush (-2), 2) := by decide +kernel
theorem dC1_putBelow_18 : decode cC1_putBelow 18 = .ok (.ireturn, 1) := by decide +kernel
theorem dC1_putBelow_19 : decode cC1_putBelow 19 = .ok (.iload_n 1, 1) := by decide +kernel
theorem dC1_putBelow_20 : decode cC1_putBelow 20 = .ok (.bipush 16, 2) := by decide +kernel
theorem dC1_putBelow_22 : decode cC1_putBelow 22 = .ok (.isub, 1) := by decide +kernel
theorem dC1_putBelow_23 : decode cC1_putBelow 23 = .ok (.istore_n 3, 1) := by decide +kernel
theorem dC1_putBelow_24 : decode cC1_putBelow 24 = .ok (.iconst 1, 1) := by decide +kernel
theorem dC1_putBelow_25 : decode cC1_putBelow 25 = .ok (.iload_n 2, 1) := by decide +kernel
theorem dC1_putBelow_26 : decode cC1_putBelow 26 = .ok (.bipush 16, 2) := by decide +kernel
theorem dC1_putBelow_28 : decode cC1_putBelow 28 = .ok (.isub, 1) := by decide +kernel
theorem dC1_putBelow_29 : decode cC1_putBelow 29 = .ok (.ishl, 1) := by decide +kernel
theorem dC1_putBelow_30 : decode cC1_putBelow 30 = .ok (.istore 4, 2) := by decide +kernel
theorem dC1_putBelow_32 : decode cC1_putBelow 32 = .ok (.aload_n 0, 1) := by decide +kernel
theorem dC1_putBelow_33 : decode cC1_putBelow 33 = .ok (.getfield 24, 3) := by decide +kernel
theorem dC1_putBelow_36 : decode cC1_putBelow 36 = .ok (.iload_n 3, 1) := by decide +kernel
theorem dC1_putBelow_37 : decode cC1_putBelow 37 = .ok (.iaload, 1) := by decide +kernel
theorem dC1_putBelow_38 : decode cC1_putBelow 38 = .ok (.invokestatic 52, 3) := by decide +kernel
theorem dC1_putBelow_41 : decode cC1_putBelow 41 = .ok (.iconst 4, 1) := by decide +kernel
theorem dC1_putBelow_42 : decode cC1_putBelow 42 = .ok (.if_icmp .lt 7, 3) := by decide +kernel
theorem dC1_putBelow_45 : decode cC1_putBelow 45 = .ok (.iconst 1, 1) := by decide +kernel
theorem dC1_putBelow_46 : decode cC1_putBelow 46 = .ok (.goto 4, 3) := by decide +kernel
theorem dC1_putBelow_49 : decode cC1_putBelow 49 = .ok (.iconst 0, 1) := by decide +kernel
theorem dC1_putBelow_50 : decode cC1_putBelow 50 = .ok (.istore 5, 2) := by decide +kernel
theorem dC1_putBelow_52 : decode cC1_putBelow 52 = .ok (.iload 5, 2) := by decide +kernel
theorem dC1_putBelow_54 : decode cC1_putBelow 54 = .ok (.ifCond .ne 24, 3) := by decide +kernel
theorem dC1_putBelow_57 : decode cC1_putBelow 57 = .ok (.aload_n 0, 1) := by decide +kernel
theorem dC1_putBelow_58 : decode cC1_putBelow 58 = .ok (.getfield 24, 3) := by decide +kernel
theorem dC1_putBelow_61 : decode cC1_putBelow 61 = .ok (.iload_n 3, 1) := by decide +kernel
theorem dC1_putBelow_62 : decode cC1_putBelow 62 = .ok (.iaload, 1) := by decide +kernel
theorem dC1_putBelow_63 : decode cC1_putBelow 63 = .ok (.iload 4, 2) := by decide +kernel
theorem dC1_putBelow_65 : decode cC1_putBelow 65 = .ok (.iand, 1) := by decide +kernel
theorem dC1_putBelow_66 : decode cC1_putBelow 66 = .ok (.ifCond .ne 12, 3) := by decide +kernel
theorem dC1_putBelow_69 : decode cC1_putBelow 69 = .ok (.aload_n 0, 1) := by decide +kernel
theorem dC1_putBelow_70 : decode cC1_putBelow 70 = .ok (.iload_n 2, 1) := by decide +kernel
theorem dC1_putBelow_71 : decode cC1_putBelow 71 = .ok (.iload_n 1, 1) := by decide +kernel
theorem dC1_putBelow_72 : decode cC1_putBelow 72 = .ok (.invokevirtual 58, 3) := by decide +kernel
theorem dC1_putBelow_75 : decode cC1_putBelow 75 = .ok (.ifCond .eq 6, 3) := by decide +kernel
theorem dC1_putBelow_78 : decode cC1_putBelow 78 = .ok (.bipush (-2), 2) := by decide +kernel
theorem dC1_putBelow_80 : decode cC1_putBelow 80 = .ok (.ireturn, 1) := by decide +kernel
theorem dC1_putBelow_81 : decode cC1_putBelow 81 = .ok (.aload_n 0, 1) := by decide +kernel
theorem dC1_putBelow_82 : decode cC1_putBelow 82 = .ok (.getfield 24, 3) := by decide +kernel
theorem dC1_putBelow_85 : decode cC1_putBelow 85 = .ok (.iload_n 3, 1) := by decide +kernel
theorem dC1_putBelow_86 : decode cC1_putBelow 86 = .ok (.dup2, 1) := by decide +kernel
theorem dC1_putBelow_87 : decode cC1_putBelow 87 = .ok (.iaload, 1) := by decide +kernel
theorem dC1_putBelow_88 : decode cC1_putBelow 88 = .ok (.iload 4, 2) := by decide +kernel
theorem dC1_putBelow_90 : decode cC1_putBelow 90 = .ok (.ior, 1) := by decide +kernel
theorem dC1_putBelow_91 : decode cC1_putBelow 91 = .ok (.iastore, 1) := by decide +kernel
theorem dC1_putBelow_92 : decode cC1_putBelow 92 = .ok (.bipush 16, 2) := by decide +kernel
theorem dC1_putBelow_94 : decode cC1_putBelow 94 = .ok (.istore 6, 2) := by decide +kernel
theorem dC1_putBelow_96 : decode cC1_putBelow 96 = .ok (.iload 6, 2) := by decide +kernel
theorem dC1_putBelow_98 : decode cC1_putBelow 98 = .ok (.bipush 16, 2) := by decide +kernel
theorem dC1_putBelow_100 : decode cC1_putBelow 100 = .ok (.aload_n 0, 1) := by decide +kernel
theorem dC1_putBelow_101 : decode cC1_putBelow 101 = .ok (.getfield 32, 3) := by decide +kernel
theorem dC1_putBelow_104 : decode cC1_putBelow 104 = .ok (.iadd, 1) := by decide +kernel
theorem dC1_putBelow_105 : decode cC1_putBelow 105 = .ok (.if_icmp .ge 35, 3) := by decide +kernel
theorem dC1_putBelow_108 : decode cC1_putBelow 108 = .ok (.aload_n 0, 1) := by decide +kernel
theorem dC1_putBelow_109 : decode cC1_putBelow 109 = .ok (.iload 6, 2) := by decide +kernel
theorem dC1_putBelow_111 : decode cC1_putBelow 111 = .ok (.iload_n 1, 1) := by decide +kernel
theorem dC1_putBelow_112 : decode cC1_putBelow 112 = .ok (.invokevirtual 58, 3) := by decide +kernel
theorem dC1_putBelow_115 : decode cC1_putBelow 115 = .ok (.ifCond .eq 19, 3) := by decide +kernel
theorem dC1_putBelow_118 : decode cC1_putBelow 118 = .ok (.aload_n 0, 1) := by decide +kernel
theorem dC1_putBelow_119 : decode cC1_putBelow 119 = .ok (.getfield 21, 3) := by decide +kernel
theorem dC1_putBelow_122 : decode cC1_putBelow 122 = .ok (.iload 6, 2) := by decide +kernel
theorem dC1_putBelow_124 : decode cC1_putBelow 124 = .ok (.dup2, 1) := by decide +kernel
theorem dC1_putBelow_125 : decode cC1_putBelow 125 = .ok (.laload, 1) := by decide +kernel
theorem dC1_putBelow_126 : decode cC1_putBelow 126 = .ok (.aload_n 0, 1) := by decide +kernel
theorem dC1_putBelow_127 : decode cC1_putBelow 127 = .ok (.getfield 21, 3) := by decide +kernel
theorem dC1_putBelow_130 : decode cC1_putBelow 130 = .ok (.iload_n 2, 1) := by decide +kernel
theorem dC1_putBelow_131 : decode cC1_putBelow 131 = .ok (.laload, 1) := by decide +kernel
theorem dC1_putBelow_132 : decode cC1_putBelow 132 = .ok (.lor, 1) := by decide +kernel
theorem dC1_putBelow_133 : decode cC1_putBelow 133 = .ok (.lastore, 1) := by decide +kernel
theorem dC1_putBelow_134 : decode cC1_putBelow 134 = .ok (.iinc 6 1, 3) := by decide +kernel
theorem dC1_putBelow_137 : decode cC1_putBelow 137 = .ok (.goto (-41), 3) := by decide +kernel
theorem dC1_putBelow_140 : decode cC1_putBelow 140 = .ok (.aload_n 0, 1) := by decide +kernel
theorem dC1_putBelow_141 : decode cC1_putBelow 141 = .ok (.getfield 24, 3) := by decide +kernel
theorem dC1_putBelow_144 : decode cC1_putBelow 144 = .ok (.iload_n 3, 1) := by decide +kernel
theorem dC1_putBelow_145 : decode cC1_putBelow 145 = .ok (.iaload, 1) := by decide +kernel
theorem dC1_putBelow_146 : decode cC1_putBelow 146 = .ok (.invokestatic 52, 3) := by decide +kernel
theorem dC1_putBelow_149 : decode cC1_putBelow 149 = .ok (.ireturn, 1) := by decide +kernel
theorem dC2_forgetFunctions_0 : decode cC2_forgetFunctions 0 = .ok (.aload_n 0, 1) := by decide +kernel
theorem dC2_forgetFunctions_1 : decode cC2_forgetFunctions 1 = .ok (.iconst 0, 1) := by decide +kernel
theorem dC2_forgetFunctions_2 : decode cC2_forgetFunctions 2 = .ok (.putfield 121, 3) := by decide +kernel
theorem dC2_forgetFunctions_5 : decode cC2_forgetFunctions 5 = .ok (.return_, 1) := by decide +kernel
theorem dC0_below_0 : decode cC0_below 0 = .ok (.aload_n 0, 1) := by decide +kernel
theorem dC0_below_1 : decode cC0_below 1 = .ok (.getfield 10, 3) := by decide +kernel
theorem dC0_below_4 : decode cC0_below 4 = .ok (.iload_n 1, 1) := by decide +kernel
theorem dC0_below_5 : decode cC0_below 5 = .ok (.iload_n 2, 1) := by decide +kernel
theorem dC0_below_6 : decode cC0_below 6 = .ok (.invokevirtual 56, 3) := by decide +kernel
theorem dC0_below_9 : decode cC0_below 9 = .ok (.istore_n 3, 1) := by decide +kernel
theorem dC0_below_10 : decode cC0_below 10 = .ok (.iload_n 3, 1) := by decide +kernel
theorem dC0_below_11 : decode cC0_below 11 = .ok (.bipush (-2), 2) := by decide +kernel
theorem dC0_below_13 : decode cC0_below 13 = .ok (.if_icmp .eq 10, 3) := by decide +kernel
theorem dC0_below_16 : decode cC0_below 16 = .ok (.aload_n 0, 1) := by decide +kernel
theorem dC0_below_17 : decode cC0_below 17 = .ok (.getfield 21, 3) := by decide +kernel
theorem dC0_below_20 : decode cC0_below 20 = .ok (.invokevirtual 60, 3) := by decide +kernel
theorem dC0_below_23 : decode cC0_below 23 = .ok (.iload_n 3, 1) := by decide +kernel
theorem dC0_below_24 : decode cC0_below 24 = .ok (.ireturn, 1) := by decide +kernel
theorem dC2_draftHead_0 : decode cC2_draftHead 0 = .ok (.aload_n 0, 1) := by decide +kernel
theorem dC2_draftHead_1 : decode cC2_draftHead 1 = .ok (.getfield 15, 3) := by decide +kernel
theorem dC2_draftHead_4 : decode cC2_draftHead 4 = .ok (.aload_n 0, 1) := by decide +kernel
theorem dC2_draftHead_5 : decode cC2_draftHead 5 = .ok (.getfield 45, 3) := by decide +kernel
theorem dC2_draftHead_8 : decode cC2_draftHead 8 = .ok (.iload_n 1, 1) := by decide +kernel
theorem dC2_draftHead_9 : decode cC2_draftHead 9 = .ok (.iastore, 1) := by decide +kernel
theorem dC2_draftHead_10 : decode cC2_draftHead 10 = .ok (.aload_n 0, 1) := by decide +kernel
theorem dC2_draftHead_11 : decode cC2_draftHead 11 = .ok (.getfield 19, 3) := by decide +kernel
theorem dC2_draftHead_14 : decode cC2_draftHead 14 = .ok (.aload_n 0, 1) := by decide +kernel
theorem dC2_draftHead_15 : decode cC2_draftHead 15 = .ok (.getfield 45, 3) := by decide +kernel
theorem dC2_draftHead_18 : decode cC2_draftHead 18 = .ok (.iload_n 2, 1) := by decide +kernel
theorem dC2_draftHead_19 : decode cC2_draftHead 19 = .ok (.iastore, 1) := by decide +kernel
theorem dC2_draftHead_20 : decode cC2_draftHead 20 = .ok (.aload_n 0, 1) := by decide +kernel
theorem dC2_draftHead_21 : decode cC2_draftHead 21 = .ok (.getfield 22, 3) := by decide +kernel
theorem dC2_draftHead_24 : decode cC2_draftHead 24 = .ok (.aload_n 0, 1) := by decide +kernel
theorem dC2_draftHead_25 : decode cC2_draftHead 25 = .ok (.getfield 45, 3) := by decide +kernel
theorem dC2_draftHead_28 : decode cC2_draftHead 28 = .ok (.iload_n 3, 1) := by decide +kernel
theorem dC2_draftHead_29 : decode cC2_draftHead 29 = .ok (.iastore, 1) := by decide +kernel
theorem dC2_draftHead_30 : decode cC2_draftHead 30 = .ok (.aload_n 0, 1) := by decide +kernel
theorem dC2_draftHead_31 : decode cC2_draftHead 31 = .ok (.getfield 25, 3) := by decide +kernel
theorem dC2_draftHead_34 : decode cC2_draftHead 34 = .ok (.aload_n 0, 1) := by decide +kernel
theorem dC2_draftHead_35 : decode cC2_draftHead 35 = .ok (.getfield 45, 3) := by decide +kernel
theorem dC2_draftHead_38 : decode cC2_draftHead 38 = .ok (.iload 4, 2) := by decide +kernel
theorem dC2_draftHead_40 : decode cC2_draftHead 40 = .ok (.iastore, 1) := by decide +kernel
theorem dC2_draftHead_41 : decode cC2_draftHead 41 = .ok (.return_, 1) := by decide +kernel
theorem dC2_draftParameters_0 : decode cC2_draftParameters 0 = .ok (.aload_n 0, 1) := by decide +kernel
theorem dC2_draftParameters_1 : decode cC2_draftParameters 1 = .ok (.getfield 45, 3) := by decide +kernel
theorem dC2_draftParameters_4 : decode cC2_draftParameters 4 = .ok (.iconst 4, 1) := by decide +kernel
theorem dC2_draftParameters_5 : decode cC2_draftParameters 5 = .ok (.imul, 1) := by decide +kernel
theorem dC2_draftParameters_6 : decode cC2_draftParameters 6 = .ok (.istore 6, 2) := by decide +kernel
theorem dC2_draftParameters_8 : decode cC2_draftParameters 8 = .ok (.aload_n 0, 1) := by decide +kernel
theorem dC2_draftParameters_9 : decode cC2_draftParameters 9 = .ok (.getfield 28, 3) := by decide +kernel
theorem dC2_draftParameters_12 : decode cC2_draftParameters 12 = .ok (.aload_n 0, 1) := by decide +kernel
theorem dC2_draftParameters_13 : decode cC2_draftParameters 13 = .ok (.getfield 45, 3) := by decide +kernel
theorem dC2_draftParameters_16 : decode cC2_draftParameters 16 = .ok (.iload_n 1, 1) := by decide +kernel
theorem dC2_draftParameters_17 : decode cC2_draftParameters 17 = .ok (.iastore, 1) := by decide +kernel
theorem dC2_draftParameters_18 : decode cC2_draftParameters 18 = .ok (.aload_n 0, 1) := by decide +kernel
theorem dC2_draftParameters_19 : decode cC2_draftParameters 19 = .ok (.getfield 31, 3) := by decide +kernel
theorem dC2_draftParameters_22 : decode cC2_draftParameters 22 = .ok (.iload 6, 2) := by decide +kernel
theorem dC2_draftParameters_24 : decode cC2_draftParameters 24 = .ok (.iload_n 2, 1) := by decide +kernel
theorem dC2_draftParameters_25 : decode cC2_draftParameters 25 = .ok (.iastore, 1) := by decide +kernel
theorem dC2_draftParameters_26 : decode cC2_draftParameters 26 = .ok (.aload_n 0, 1) := by decide +kernel
theorem dC2_draftParameters_27 : decode cC2_draftParameters 27 = .ok (.getfield 31, 3) := by decide +kernel
theorem dC2_draftParameters_30 : decode cC2_draftParameters 30 = .ok (.iload 6, 2) := by decide +kernel
theorem dC2_draftParameters_32 : decode cC2_draftParameters 32 = .ok (.iconst 1, 1) := by decide +kernel
theorem dC2_draftParameters_33 : decode cC2_draftParameters 33 = .ok (.iadd, 1) := by decide +kernel
theorem dC2_draftParameters_34 : decode cC2_draftParameters 34 = .ok (.iload_n 3, 1) := by decide +kernel
theorem dC2_draftParameters_35 : decode cC2_draftParameters 35 = .ok (.iastore, 1) := by decide +kernel
theorem dC2_draftParameters_36 : decode cC2_draftParameters 36 = .ok (.aload_n 0, 1) := by decide +kernel
theorem dC2_draftParameters_37 : decode cC2_draftParameters 37 = .ok (.getfield 31, 3) := by decide +kernel
theorem dC2_draftParameters_40 : decode cC2_draftParameters 40 = .ok (.iload 6, 2) := by decide +kernel
theorem dC2_draftParameters_42 : decode cC2_draftParameters 42 = .ok (.iconst 2, 1) := by decide +kernel
theorem dC2_draftParameters_43 : decode cC2_draftParameters 43 = .ok (.iadd, 1) := by decide +kernel
theorem dC2_draftParameters_44 : decode cC2_draftParameters 44 = .ok (.iload 4, 2) := by decide +kernel
theorem dC2_draftParameters_46 : decode cC2_draftParameters 46 = .ok (.iastore, 1) := by decide +kernel
theorem dC2_draftParameters_47 : decode cC2_draftParameters 47 = .ok (.aload_n 0, 1) := by decide +kernel
theorem dC2_draftParameters_48 : decode cC2_draftParameters 48 = .ok (.getfield 31, 3) := by decide +kernel
theorem dC2_draftParameters_51 : decode cC2_draftParameters 51 = .ok (.iload 6, 2) := by decide +kernel
theorem dC2_draftParameters_53 : decode cC2_draftParameters 53 = .ok (.iconst 3, 1) := by decide +kernel
theorem dC2_draftParameters_54 : decode cC2_draftParameters 54 = .ok (.iadd, 1) := by decide +kernel
theorem dC2_draftParameters_55 : decode cC2_draftParameters 55 = .ok (.iload 5, 2) := by decide +kernel
theorem dC2_draftParameters_57 : decode cC2_draftParameters 57 = .ok (.iastore, 1) := by decide +kernel
theorem dC2_draftParameters_58 : decode cC2_draftParameters 58 = .ok (.return_, 1) := by decide +kernel
theorem dC2_isAbstract_0 : decode cC2_isAbstract 0 = .ok (.aload_n 0, 1) := by decide +kernel
theorem dC2_isAbstract_1 : decode cC2_isAbstract 1 = .ok (.getfield 22, 3) := by decide +kernel
theorem dC2_isAbstract_4 : decode cC2_isAbstract 4 = .ok (.iload_n 1, 1) := by decide +kernel
theorem dC2_isAbstract_5 : decode cC2_isAbstract 5 = .ok (.iaload, 1) := by decide +kernel
theorem dC2_isAbstract_6 : decode cC2_isAbstract 6 = .ok (.iconst 4, 1) := by decide +kernel
theorem dC2_isAbstract_7 : decode cC2_isAbstract 7 = .ok (.iand, 1) := by decide +kernel
theorem dC2_isAbstract_8 : decode cC2_isAbstract 8 = .ok (.ifCond .eq 7, 3) := by decide +kernel
theorem dC2_isAbstract_11 : decode cC2_isAbstract 11 = .ok (.iconst 1, 1) := by decide +kernel
theorem dC2_isAbstract_12 : decode cC2_isAbstract 12 = .ok (.goto 4, 3) := by decide +kernel
theorem dC2_isAbstract_15 : decode cC2_isAbstract 15 = .ok (.iconst 0, 1) := by decide +kernel
theorem dC2_isAbstract_16 : decode cC2_isAbstract 16 = .ok (.ireturn, 1) := by decide +kernel
theorem dC2_isStatic_0 : decode cC2_isStatic 0 = .ok (.aload_n 0, 1) := by decide +kernel
theorem dC2_isStatic_1 : decode cC2_isStatic 1 = .ok (.getfield 22, 3) := by decide +kernel
theorem dC2_isStatic_4 : decode cC2_isStatic 4 = .ok (.iload_n 1, 1) := by decide +kernel
theorem dC2_isStatic_5 : decode cC2_isStatic 5 = .ok (.iaload, 1) := by decide +kernel
theorem dC2_isStatic_6 : decode cC2_isStatic 6 = .ok (.iconst 1, 1) := by decide +kernel
theorem dC2_isStatic_7 : decode cC2_isStatic 7 = .ok (.iand, 1) := by decide +kernel
theorem dC2_isStatic_8 : decode cC2_isStatic 8 = .ok (.ifCond .eq 7, 3) := by decide +kernel
theorem dC2_isStatic_11 : decode cC2_isStatic 11 = .ok (.iconst 1, 1) := by decide +kernel
theorem dC2_isStatic_12 : decode cC2_isStatic 12 = .ok (.goto 4, 3) := by decide +kernel
theorem dC2_isStatic_15 : decode cC2_isStatic 15 = .ok (.iconst 0, 1) := by decide +kernel
theorem dC2_isStatic_16 : decode cC2_isStatic 16 = .ok (.ireturn, 1) := by decide +kernel
theorem dC2_isPrivate_0 : decode cC2_isPrivate 0 = .ok (.aload_n 0, 1) := by decide +kernel
theorem dC2_isPrivate_1 : decode cC2_isPrivate 1 = .ok (.getfield 22, 3) := by decide +kernel
theorem dC2_isPrivate_4 : decode cC2_isPrivate 4 = .ok (.iload_n 1, 1) := by decide +kernel
theorem dC2_isPrivate_5 : decode cC2_isPrivate 5 = .ok (.iaload, 1) := by decide +kernel
theorem dC2_isPrivate_6 : decode cC2_isPrivate 6 = .ok (.iconst 2, 1) := by decide +kernel
theorem dC2_isPrivate_7 : decode cC2_isPrivate 7 = .ok (.iand, 1) := by decide +kernel
theorem dC2_isPrivate_8 : decode cC2_isPrivate 8 = .ok (.ifCond .eq 7, 3) := by decide +kernel
theorem dC2_isPrivate_11 : decode cC2_isPrivate 11 = .ok (.iconst 1, 1) := by decide +kernel
theorem dC2_isPrivate_12 : decode cC2_isPrivate 12 = .ok (.goto 4, 3) := by decide +kernel
theorem dC2_isPrivate_15 : decode cC2_isPrivate 15 = .ok (.iconst 0, 1) := by decide +kernel
theorem dC2_isPrivate_16 : decode cC2_isPrivate 16 = .ok (.ireturn, 1) := by decide +kernel
theorem dC2_hasGoodMarks_0 : decode cC2_hasGoodMarks 0 = .ok (.aload_n 0, 1) := by decide +kernel
theorem dC2_hasGoodMarks_1 : decode cC2_hasGoodMarks 1 = .ok (.getfield 22, 3) := by decide +kernel
theorem dC2_hasGoodMarks_4 : decode cC2_hasGoodMarks 4 = .ok (.iload_n 1, 1) := by decide +kernel
theorem dC2_hasGoodMarks_5 : decode cC2_hasGoodMarks 5 = .ok (.iaload, 1) := by decide +kernel
theorem dC2_hasGoodMarks_6 : decode cC2_hasGoodMarks 6 = .ok (.ifCond .lt 14, 3) := by decide +kernel
theorem dC2_hasGoodMarks_9 : decode cC2_hasGoodMarks 9 = .ok (.aload_n 0, 1) := by decide +kernel
theorem dC2_hasGoodMarks_10 : decode cC2_hasGoodMarks 10 = .ok (.getfield 22, 3) := by decide +kernel
theorem dC2_hasGoodMarks_13 : decode cC2_hasGoodMarks 13 = .ok (.iload_n 1, 1) := by decide +kernel
theorem dC2_hasGoodMarks_14 : decode cC2_hasGoodMarks 14 = .ok (.iaload, 1) := by decide +kernel
theorem dC2_hasGoodMarks_15 : decode cC2_hasGoodMarks 15 = .ok (.bipush 15, 2) := by decide +kernel
theorem dC2_hasGoodMarks_17 : decode cC2_hasGoodMarks 17 = .ok (.if_icmp .le 5, 3) := by decide +kernel
theorem dC2_hasGoodMarks_20 : decode cC2_hasGoodMarks 20 = .ok (.iconst 0, 1) := by decide +kernel
theorem dC2_hasGoodMarks_21 : decode cC2_hasGoodMarks 21 = .ok (.ireturn, 1) := by decide +kernel
theorem dC2_hasGoodMarks_22 : decode cC2_hasGoodMarks 22 = .ok (.aload_n 0, 1) := by decide +kernel
theorem dC2_hasGoodMarks_23 : decode cC2_hasGoodMarks 23 = .ok (.getfield 9, 3) := by decide +kernel
theorem dC2_hasGoodMarks_26 : decode cC2_hasGoodMarks 26 = .ok (.aload_n 0, 1) := by decide +kernel
theorem dC2_hasGoodMarks_27 : decode cC2_hasGoodMarks 27 = .ok (.getfield 15, 3) := by decide +kernel
theorem dC2_hasGoodMarks_30 : decode cC2_hasGoodMarks 30 = .ok (.iload_n 1, 1) := by decide +kernel
theorem dC2_hasGoodMarks_31 : decode cC2_hasGoodMarks 31 = .ok (.iaload, 1) := by decide +kernel
theorem dC2_hasGoodMarks_32 : decode cC2_hasGoodMarks 32 = .ok (.invokevirtual 71, 3) := by decide +kernel
theorem dC2_hasGoodMarks_35 : decode cC2_hasGoodMarks 35 = .ok (.ifCond .eq 15, 3) := by decide +kernel
theorem dC2_hasGoodMarks_38 : decode cC2_hasGoodMarks 38 = .ok (.aload_n 0, 1) := by decide +kernel
theorem dC2_hasGoodMarks_39 : decode cC2_hasGoodMarks 39 = .ok (.iload_n 1, 1) := by decide +kernel
theorem dC2_hasGoodMarks_40 : decode cC2_hasGoodMarks 40 = .ok (.invokevirtual 74, 3) := by decide +kernel
theorem dC2_hasGoodMarks_43 : decode cC2_hasGoodMarks 43 = .ok (.ifCond .eq 7, 3) := by decide +kernel
theorem dC2_hasGoodMarks_46 : decode cC2_hasGoodMarks 46 = .ok (.iconst 1, 1) := by decide +kernel
theorem dC2_hasGoodMarks_47 : decode cC2_hasGoodMarks 47 = .ok (.goto 4, 3) := by decide +kernel
theorem dC2_hasGoodMarks_50 : decode cC2_hasGoodMarks 50 = .ok (.iconst 0, 1) := by decide +kernel
theorem dC2_hasGoodMarks_51 : decode cC2_hasGoodMarks 51 = .ok (.istore_n 2, 1) := by decide +kernel
theorem dC2_hasGoodMarks_52 : decode cC2_hasGoodMarks 52 = .ok (.aload_n 0, 1) := by decide +kernel
theorem dC2_hasGoodMarks_53 : decode cC2_hasGoodMarks 53 = .ok (.iload_n 1, 1) := by decide +kernel
theorem dC2_hasGoodMarks_54 : decode cC2_hasGoodMarks 54 = .ok (.invokevirtual 77, 3) := by decide +kernel
theorem dC2_hasGoodMarks_57 : decode cC2_hasGoodMarks 57 = .ok (.ifCond .eq 15, 3) := by decide +kernel
theorem dC2_hasGoodMarks_60 : decode cC2_hasGoodMarks 60 = .ok (.aload_n 0, 1) := by decide +kernel
theorem dC2_hasGoodMarks_61 : decode cC2_hasGoodMarks 61 = .ok (.iload_n 1, 1) := by decide +kernel
theorem dC2_hasGoodMarks_62 : decode cC2_hasGoodMarks 62 = .ok (.invokevirtual 80, 3) := by decide +kernel
theorem dC2_hasGoodMarks_65 : decode cC2_hasGoodMarks 65 = .ok (.ifCond .ne 11, 3) := by decide +kernel
theorem dC2_hasGoodMarks_68 : decode cC2_hasGoodMarks 68 = .ok (.iload_n 2, 1) := by decide +kernel
theorem dC2_hasGoodMarks_69 : decode cC2_hasGoodMarks 69 = .ok (.ifCond .ne 7, 3) := by decide +kernel
theorem dC2_hasGoodMarks_72 : decode cC2_hasGoodMarks 72 = .ok (.iconst 1, 1) := by decide +kernel
theorem dC2_hasGoodMarks_73 : decode cC2_hasGoodMarks 73 = .ok (.goto 4, 3) := by decide +kernel
theorem dC2_hasGoodMarks_76 : decode cC2_hasGoodMarks 76 = .ok (.iconst 0, 1) := by decide +kernel
theorem dC2_hasGoodMarks_77 : decode cC2_hasGoodMarks 77 = .ok (.ireturn, 1) := by decide +kernel
theorem dC1_isElement_0 : decode cC1_isElement 0 = .ok (.iload_n 1, 1) := by decide +kernel
theorem dC1_isElement_1 : decode cC1_isElement 1 = .ok (.ifCond .lt 9, 3) := by decide +kernel
theorem dC1_isElement_4 : decode cC1_isElement 4 = .ok (.iload_n 1, 1) := by decide +kernel
theorem dC1_isElement_5 : decode cC1_isElement 5 = .ok (.bipush 9, 2) := by decide +kernel
theorem dC1_isElement_7 : decode cC1_isElement 7 = .ok (.if_icmp .le 11, 3) := by decide +kernel
theorem dC1_isElement_10 : decode cC1_isElement 10 = .ok (.aload_n 0, 1) := by decide +kernel
theorem dC1_isElement_11 : decode cC1_isElement 11 = .ok (.iload_n 1, 1) := by decide +kernel
theorem dC1_isElement_12 : decode cC1_isElement 12 = .ok (.invokevirtual 36, 3) := by decide +kernel
theorem dC1_isElement_15 : decode cC1_isElement 15 = .ok (.ifCond .eq 7, 3) := by decide +kernel
theorem dC1_isElement_18 : decode cC1_isElement 18 = .ok (.iconst 1, 1) := by decide +kernel
theorem dC1_isElement_19 : decode cC1_isElement 19 = .ok (.goto 4, 3) := by decide +kernel
theorem dC1_isElement_22 : decode cC1_isElement 22 = .ok (.iconst 0, 1) := by decide +kernel
theorem dC1_isElement_23 : decode cC1_isElement 23 = .ok (.ireturn, 1) := by decide +kernel
theorem dC1_isArray_0 : decode cC1_isArray 0 = .ok (.iload_n 1, 1) := by decide +kernel
theorem dC1_isArray_1 : decode cC1_isArray 1 = .ok (.bipush 64, 2) := by decide +kernel
theorem dC1_isArray_3 : decode cC1_isArray 3 = .ok (.if_icmp .lt 18, 3) := by decide +kernel
theorem dC1_isArray_6 : decode cC1_isArray 6 = .ok (.aload_n 0, 1) := by decide +kernel
theorem dC1_isArray_7 : decode cC1_isArray 7 = .ok (.iload_n 1, 1) := by decide +kernel
theorem dC1_isArray_8 : decode cC1_isArray 8 = .ok (.bipush 64, 2) := by decide +kernel
theorem dC1_isArray_10 : decode cC1_isArray 10 = .ok (.isub, 1) := by decide +kernel
theorem dC1_isArray_11 : decode cC1_isArray 11 = .ok (.invokevirtual 40, 3) := by decide +kernel
theorem dC1_isArray_14 : decode cC1_isArray 14 = .ok (.ifCond .eq 7, 3) := by decide +kernel
theorem dC1_isArray_17 : decode cC1_isArray 17 = .ok (.iconst 1, 1) := by decide +kernel
theorem dC1_isArray_18 : decode cC1_isArray 18 = .ok (.goto 4, 3) := by decide +kernel
theorem dC1_isArray_21 : decode cC1_isArray 21 = .ok (.iconst 0, 1) := by decide +kernel
theorem dC1_isArray_22 : decode cC1_isArray 22 = .ok (.ireturn, 1) := by decide +kernel
theorem dC1_canBeDeclared_0 : decode cC1_canBeDeclared 0 = .ok (.aload_n 0, 1) := by decide +kernel
theorem dC1_canBeDeclared_1 : decode cC1_canBeDeclared 1 = .ok (.iload_n 1, 1) := by decide +kernel
theorem dC1_canBeDeclared_2 : decode cC1_canBeDeclared 2 = .ok (.invokevirtual 40, 3) := by decide +kernel
theorem dC1_canBeDeclared_5 : decode cC1_canBeDeclared 5 = .ok (.ifCond .ne 11, 3) := by decide +kernel
theorem dC1_canBeDeclared_8 : decode cC1_canBeDeclared 8 = .ok (.aload_n 0, 1) := by decide +kernel
theorem dC1_canBeDeclared_9 : decode cC1_canBeDeclared 9 = .ok (.iload_n 1, 1) := by decide +kernel
theorem dC1_canBeDeclared_10 : decode cC1_canBeDeclared 10 = .ok (.invokevirtual 43, 3) := by decide +kernel
theorem dC1_canBeDeclared_13 : decode cC1_canBeDeclared 13 = .ok (.ifCond .eq 7, 3) := by decide +kernel
theorem dC1_canBeDeclared_16 : decode cC1_canBeDeclared 16 = .ok (.iconst 1, 1) := by decide +kernel
theorem dC1_canBeDeclared_17 : decode cC1_canBeDeclared 17 = .ok (.goto 4, 3) := by decide +kernel
theorem dC1_canBeDeclared_20 : decode cC1_canBeDeclared 20 = .ok (.iconst 0, 1) := by decide +kernel
theorem dC1_canBeDeclared_21 : decode cC1_canBeDeclared 21 = .ok (.ireturn, 1) := by decide +kernel
theorem dC1_canBeResult_0 : decode cC1_canBeResult 0 = .ok (.iload_n 1, 1) := by decide +kernel
theorem dC1_canBeResult_1 : decode cC1_canBeResult 1 = .ok (.iconst (-1), 1) := by decide +kernel
theorem dC1_canBeResult_2 : decode cC1_canBeResult 2 = .ok (.if_icmp .eq 11, 3) := by decide +kernel
theorem dC1_canBeResult_5 : decode cC1_canBeResult 5 = .ok (.aload_n 0, 1) := by decide +kernel
theorem dC1_canBeResult_6 : decode cC1_canBeResult 6 = .ok (.iload_n 1, 1) := by decide +kernel
theorem dC1_canBeResult_7 : decode cC1_canBeResult 7 = .ok (.invokevirtual 46, 3) := by decide +kernel
theorem dC1_canBeResult_10 : decode cC1_canBeResult 10 = .ok (.ifCond .eq 7, 3) := by decide +kernel
theorem dC1_canBeResult_13 : decode cC1_canBeResult 13 = .ok (.iconst 1, 1) := by decide +kernel
theorem dC1_canBeResult_14 : decode cC1_canBeResult 14 = .ok (.goto 4, 3) := by decide +kernel
theorem dC1_canBeResult_17 : decode cC1_canBeResult 17 = .ok (.iconst 0, 1) := by decide +kernel
theorem dC1_canBeResult_18 : decode cC1_canBeResult 18 = .ok (.ireturn, 1) := by decide +kernel
theorem dC2_hasGoodHead_0 : decode cC2_hasGoodHead 0 = .ok (.aload_n 0, 1) := by decide +kernel
theorem dC2_hasGoodHead_1 : decode cC2_hasGoodHead 1 = .ok (.getfield 9, 3) := by decide +kernel
theorem dC2_hasGoodHead_4 : decode cC2_hasGoodHead 4 = .ok (.aload_n 0, 1) := by decide +kernel
theorem dC2_hasGoodHead_5 : decode cC2_hasGoodHead 5 = .ok (.getfield 15, 3) := by decide +kernel
theorem dC2_hasGoodHead_8 : decode cC2_hasGoodHead 8 = .ok (.iload_n 1, 1) := by decide +kernel
theorem dC2_hasGoodHead_9 : decode cC2_hasGoodHead 9 = .ok (.iaload, 1) := by decide +kernel
theorem dC2_hasGoodHead_10 : decode cC2_hasGoodHead 10 = .ok (.invokevirtual 62, 3) := by decide +kernel
theorem dC2_hasGoodHead_13 : decode cC2_hasGoodHead 13 = .ok (.ifCond .eq 27, 3) := by decide +kernel
theorem dC2_hasGoodHead_16 : decode cC2_hasGoodHead 16 = .ok (.aload_n 0, 1) := by decide +kernel
theorem dC2_hasGoodHead_17 : decode cC2_hasGoodHead 17 = .ok (.getfield 19, 3) := by decide +kernel
theorem dC2_hasGoodHead_20 : decode cC2_hasGoodHead 20 = .ok (.iload_n 1, 1) := by decide +kernel
theorem dC2_hasGoodHead_21 : decode cC2_hasGoodHead 21 = .ok (.iaload, 1) := by decide +kernel
theorem dC2_hasGoodHead_22 : decode cC2_hasGoodHead 22 = .ok (.ifCond .lt 18, 3) := by decide +kernel
theorem dC2_hasGoodHead_25 : decode cC2_hasGoodHead 25 = .ok (.aload_n 0, 1) := by decide +kernel
theorem dC2_hasGoodHead_26 : decode cC2_hasGoodHead 26 = .ok (.getfield 19, 3) := by decide +kernel
theorem dC2_hasGoodHead_29 : decode cC2_hasGoodHead 29 = .ok (.iload_n 1, 1) := by decide +kernel
theorem dC2_hasGoodHead_30 : decode cC2_hasGoodHead 30 = .ok (.iaload, 1) := by decide +kernel
theorem dC2_hasGoodHead_31 : decode cC2_hasGoodHead 31 = .ok (.bipush 16, 2) := by decide +kernel
theorem dC2_hasGoodHead_33 : decode cC2_hasGoodHead 33 = .ok (.if_icmp .ge 7, 3) := by decide +kernel
theorem dC2_hasGoodHead_36 : decode cC2_hasGoodHead 36 = .ok (.iconst 1, 1) := by decide +kernel
theorem dC2_hasGoodHead_37 : decode cC2_hasGoodHead 37 = .ok (.goto 4, 3) := by decide +kernel
theorem dC2_hasGoodHead_40 : decode cC2_hasGoodHead 40 = .ok (.iconst 0, 1) := by decide +kernel
theorem dC2_hasGoodHead_41 : decode cC2_hasGoodHead 41 = .ok (.istore_n 2, 1) := by decide +kernel
theorem dC2_hasGoodHead_42 : decode cC2_hasGoodHead 42 = .ok (.iload_n 2, 1) := by decide +kernel
theorem dC2_hasGoodHead_43 : decode cC2_hasGoodHead 43 = .ok (.ifCond .eq 31, 3) := by decide +kernel
theorem dC2_hasGoodHead_46 : decode cC2_hasGoodHead 46 = .ok (.aload_n 0, 1) := by decide +kernel
theorem dC2_hasGoodHead_47 : decode cC2_hasGoodHead 47 = .ok (.iload_n 1, 1) := by decide +kernel
theorem dC2_hasGoodHead_48 : decode cC2_hasGoodHead 48 = .ok (.invokevirtual 65, 3) := by decide +kernel
theorem dC2_hasGoodHead_51 : decode cC2_hasGoodHead 51 = .ok (.ifCond .eq 23, 3) := by decide +kernel
theorem dC2_hasGoodHead_54 : decode cC2_hasGoodHead 54 = .ok (.aload_n 0, 1) := by decide +kernel
theorem dC2_hasGoodHead_55 : decode cC2_hasGoodHead 55 = .ok (.getfield 9, 3) := by decide +kernel
theorem dC2_hasGoodHead_58 : decode cC2_hasGoodHead 58 = .ok (.aload_n 0, 1) := by decide +kernel
theorem dC2_hasGoodHead_59 : decode cC2_hasGoodHead 59 = .ok (.getfield 25, 3) := by decide +kernel
theorem dC2_hasGoodHead_62 : decode cC2_hasGoodHead 62 = .ok (.iload_n 1, 1) := by decide +kernel
theorem dC2_hasGoodHead_63 : decode cC2_hasGoodHead 63 = .ok (.iaload, 1) := by decide +kernel
theorem dC2_hasGoodHead_64 : decode cC2_hasGoodHead 64 = .ok (.invokevirtual 68, 3) := by decide +kernel
theorem dC2_hasGoodHead_67 : decode cC2_hasGoodHead 67 = .ok (.ifCond .eq 7, 3) := by decide +kernel
theorem dC2_hasGoodHead_70 : decode cC2_hasGoodHead 70 = .ok (.iconst 1, 1) := by decide +kernel
theorem dC2_hasGoodHead_71 : decode cC2_hasGoodHead 71 = .ok (.goto 4, 3) := by decide +kernel
theorem dC2_hasGoodHead_74 : decode cC2_hasGoodHead 74 = .ok (.iconst 0, 1) := by decide +kernel
theorem dC2_hasGoodHead_75 : decode cC2_hasGoodHead 75 = .ok (.ireturn, 1) := by decide +kernel
theorem dC2_isVaried_0 : decode cC2_isVaried 0 = .ok (.aload_n 0, 1) := by decide +kernel
theorem dC2_isVaried_1 : decode cC2_isVaried 1 = .ok (.getfield 22, 3) := by decide +kernel
theorem dC2_isVaried_4 : decode cC2_isVaried 4 = .ok (.iload_n 1, 1) := by decide +kernel
theorem dC2_isVaried_5 : decode cC2_isVaried 5 = .ok (.iaload, 1) := by decide +kernel
theorem dC2_isVaried_6 : decode cC2_isVaried 6 = .ok (.bipush 8, 2) := by decide +kernel
theorem dC2_isVaried_8 : decode cC2_isVaried 8 = .ok (.iand, 1) := by decide +kernel
theorem dC2_isVaried_9 : decode cC2_isVaried 9 = .ok (.ifCond .eq 7, 3) := by decide +kernel
theorem dC2_isVaried_12 : decode cC2_isVaried 12 = .ok (.iconst 1, 1) := by decide +kernel
theorem dC2_isVaried_13 : decode cC2_isVaried 13 = .ok (.goto 4, 3) := by decide +kernel
theorem dC2_isVaried_16 : decode cC2_isVaried 16 = .ok (.iconst 0, 1) := by decide +kernel
theorem dC2_isVaried_17 : decode cC2_isVaried 17 = .ok (.ireturn, 1) := by decide +kernel
theorem dC2_parameterAt_0 : decode cC2_parameterAt 0 = .ok (.iload_n 2, 1) := by decide +kernel
theorem dC2_parameterAt_1 : decode cC2_parameterAt 1 = .ok (.ifCond .lt 26, 3) := by decide +kernel
theorem dC2_parameterAt_4 : decode cC2_parameterAt 4 = .ok (.iload_n 2, 1) := by decide +kernel
theorem dC2_parameterAt_5 : decode cC2_parameterAt 5 = .ok (.aload_n 0, 1) := by decide +kernel
theorem dC2_parameterAt_6 : decode cC2_parameterAt 6 = .ok (.getfield 28, 3) := by decide +kernel
theorem dC2_parameterAt_9 : decode cC2_parameterAt 9 = .ok (.iload_n 1, 1) := by decide +kernel
theorem dC2_parameterAt_10 : decode cC2_parameterAt 10 = .ok (.iaload, 1) := by decide +kernel
theorem dC2_parameterAt_11 : decode cC2_parameterAt 11 = .ok (.if_icmp .ge 16, 3) := by decide +kernel
theorem dC2_parameterAt_14 : decode cC2_parameterAt 14 = .ok (.aload_n 0, 1) := by decide +kernel
theorem dC2_parameterAt_15 : decode cC2_parameterAt 15 = .ok (.getfield 31, 3) := by decide +kernel
theorem dC2_parameterAt_18 : decode cC2_parameterAt 18 = .ok (.iload_n 1, 1) := by decide +kernel
theorem dC2_parameterAt_19 : decode cC2_parameterAt 19 = .ok (.iconst 4, 1) := by decide +kernel
theorem dC2_parameterAt_20 : decode cC2_parameterAt 20 = .ok (.imul, 1) := by decide +kernel
theorem dC2_parameterAt_21 : decode cC2_parameterAt 21 = .ok (.iload_n 2, 1) := by decide +kernel
theorem dC2_parameterAt_22 : decode cC2_parameterAt 22 = .ok (.iadd, 1) := by decide +kernel
theorem dC2_parameterAt_23 : decode cC2_parameterAt 23 = .ok (.iaload, 1) := by decide +kernel
theorem dC2_parameterAt_24 : decode cC2_parameterAt 24 = .ok (.goto 4, 3) := by decide +kernel
theorem dC2_parameterAt_27 : decode cC2_parameterAt 27 = .ok (.iconst (-1), 1) := by decide +kernel
theorem dC2_parameterAt_28 : decode cC2_parameterAt 28 = .ok (.ireturn, 1) := by decide +kernel
theorem dC2_hasGoodParameters_0 : decode cC2_hasGoodParameters 0 = .ok (.aload_n 0, 1) := by decide +kernel
theorem dC2_hasGoodParameters_1 : decode cC2_hasGoodParameters 1 = .ok (.getfield 28, 3) := by decide +kernel
theorem dC2_hasGoodParameters_4 : decode cC2_hasGoodParameters 4 = .ok (.iload_n 1, 1) := by decide +kernel
theorem dC2_hasGoodParameters_5 : decode cC2_hasGoodParameters 5 = .ok (.iaload, 1) := by decide +kernel
theorem dC2_hasGoodParameters_6 : decode cC2_hasGoodParameters 6 = .ok (.ifCond .lt 13, 3) := by decide +kernel
theorem dC2_hasGoodParameters_9 : decode cC2_hasGoodParameters 9 = .ok (.aload_n 0, 1) := by decide +kernel
theorem dC2_hasGoodParameters_10 : decode cC2_hasGoodParameters 10 = .ok (.getfield 28, 3) := by decide +kernel
theorem dC2_hasGoodParameters_13 : decode cC2_hasGoodParameters 13 = .ok (.iload_n 1, 1) := by decide +kernel
theorem dC2_hasGoodParameters_14 : decode cC2_hasGoodParameters 14 = .ok (.iaload, 1) := by decide +kernel
theorem dC2_hasGoodParameters_15 : decode cC2_hasGoodParameters 15 = .ok (.iconst 4, 1) := by decide +kernel
theorem dC2_hasGoodParameters_16 : decode cC2_hasGoodParameters 16 = .ok (.if_icmp .le 5, 3) := by decide +kernel
theorem dC2_hasGoodParameters_19 : decode cC2_hasGoodParameters 19 = .ok (.iconst 0, 1) := by decide +kernel
theorem dC2_hasGoodParameters_20 : decode cC2_hasGoodParameters 20 = .ok (.ireturn, 1) := by decide +kernel
theorem dC2_hasGoodParameters_21 : decode cC2_hasGoodParameters 21 = .ok (.iconst 0, 1) := by decide +kernel
theorem dC2_hasGoodParameters_22 : decode cC2_hasGoodParameters 22 = .ok (.istore_n 2, 1) := by decide +kernel
theorem dC2_hasGoodParameters_23 : decode cC2_hasGoodParameters 23 = .ok (.iload_n 2, 1) := by decide +kernel
theorem dC2_hasGoodParameters_24 : decode cC2_hasGoodParameters 24 = .ok (.aload_n 0, 1) := by decide +kernel
theorem dC2_hasGoodParameters_25 : decode cC2_hasGoodParameters 25 = .ok (.getfield 28, 3) := by decide +kernel
theorem dC2_hasGoodParameters_28 : decode cC2_hasGoodParameters 28 = .ok (.iload_n 1, 1) := by decide +kernel
theorem dC2_hasGoodParameters_29 : decode cC2_hasGoodParameters 29 = .ok (.iaload, 1) := by decide +kernel
theorem dC2_hasGoodParameters_30 : decode cC2_hasGoodParameters 30 = .ok (.if_icmp .ge 27, 3) := by decide +kernel
theorem dC2_hasGoodParameters_33 : decode cC2_hasGoodParameters 33 = .ok (.aload_n 0, 1) := by decide +kernel
theorem dC2_hasGoodParameters_34 : decode cC2_hasGoodParameters 34 = .ok (.getfield 9, 3) := by decide +kernel
theorem dC2_hasGoodParameters_37 : decode cC2_hasGoodParameters 37 = .ok (.aload_n 0, 1) := by decide +kernel
theorem dC2_hasGoodParameters_38 : decode cC2_hasGoodParameters 38 = .ok (.iload_n 1, 1) := by decide +kernel
theorem dC2_hasGoodParameters_39 : decode cC2_hasGoodParameters 39 = .ok (.iload_n 2, 1) := by decide +kernel
theorem dC2_hasGoodParameters_40 : decode cC2_hasGoodParameters 40 = .ok (.invokevirtual 83, 3) := by decide +kernel
theorem dC2_hasGoodParameters_43 : decode cC2_hasGoodParameters 43 = .ok (.invokevirtual 87, 3) := by decide +kernel
theorem dC2_hasGoodParameters_46 : decode cC2_hasGoodParameters 46 = .ok (.ifCond .ne 5, 3) := by decide +kernel
theorem dC2_hasGoodParameters_49 : decode cC2_hasGoodParameters 49 = .ok (.iconst 0, 1) := by decide +kernel
theorem dC2_hasGoodParameters_50 : decode cC2_hasGoodParameters 50 = .ok (.ireturn, 1) := by decide +kernel
theorem dC2_hasGoodParameters_51 : decode cC2_hasGoodParameters 51 = .ok (.iinc 2 1, 3) := by decide +kernel
theorem dC2_hasGoodParameters_54 : decode cC2_hasGoodParameters 54 = .ok (.goto (-31), 3) := by decide +kernel
theorem dC2_hasGoodParameters_57 : decode cC2_hasGoodParameters 57 = .ok (.aload_n 0, 1) := by decide +kernel
theorem dC2_hasGoodParameters_58 : decode cC2_hasGoodParameters 58 = .ok (.iload_n 1, 1) := by decide +kernel
theorem dC2_hasGoodParameters_59 : decode cC2_hasGoodParameters 59 = .ok (.invokevirtual 90, 3) := by decide +kernel
theorem dC2_hasGoodParameters_62 : decode cC2_hasGoodParameters 62 = .ok (.ifCond .eq 26, 3) := by decide +kernel
theorem dC2_hasGoodParameters_65 : decode cC2_hasGoodParameters 65 = .ok (.aload_n 0, 1) := by decide +kernel
theorem dC2_hasGoodParameters_66 : decode cC2_hasGoodParameters 66 = .ok (.getfield 9, 3) := by decide +kernel
theorem dC2_hasGoodParameters_69 : decode cC2_hasGoodParameters 69 = .ok (.aload_n 0, 1) := by decide +kernel
theorem dC2_hasGoodParameters_70 : decode cC2_hasGoodParameters 70 = .ok (.iload_n 1, 1) := by decide +kernel
theorem dC2_hasGoodParameters_71 : decode cC2_hasGoodParameters 71 = .ok (.aload_n 0, 1) := by decide +kernel
theorem dC2_hasGoodParameters_72 : decode cC2_hasGoodParameters 72 = .ok (.getfield 28, 3) := by decide +kernel
theorem dC2_hasGoodParameters_75 : decode cC2_hasGoodParameters 75 = .ok (.iload_n 1, 1) := by decide +kernel
theorem dC2_hasGoodParameters_76 : decode cC2_hasGoodParameters 76 = .ok (.iaload, 1) := by decide +kernel
theorem dC2_hasGoodParameters_77 : decode cC2_hasGoodParameters 77 = .ok (.iconst 1, 1) := by decide +kernel
theorem dC2_hasGoodParameters_78 : decode cC2_hasGoodParameters 78 = .ok (.isub, 1) := by decide +kernel
theorem dC2_hasGoodParameters_79 : decode cC2_hasGoodParameters 79 = .ok (.invokevirtual 83, 3) := by decide +kernel
theorem dC2_hasGoodParameters_82 : decode cC2_hasGoodParameters 82 = .ok (.invokevirtual 93, 3) := by decide +kernel
theorem dC2_hasGoodParameters_85 : decode cC2_hasGoodParameters 85 = .ok (.ifCond .eq 7, 3) := by decide +kernel
theorem dC2_hasGoodParameters_88 : decode cC2_hasGoodParameters 88 = .ok (.iconst 1, 1) := by decide +kernel
theorem dC2_hasGoodParameters_89 : decode cC2_hasGoodParameters 89 = .ok (.goto 4, 3) := by decide +kernel
theorem dC2_hasGoodParameters_92 : decode cC2_hasGoodParameters 92 = .ok (.iconst 0, 1) := by decide +kernel
theorem dC2_hasGoodParameters_93 : decode cC2_hasGoodParameters 93 = .ok (.ireturn, 1) := by decide +kernel
theorem dC2_sameParameters_0 : decode cC2_sameParameters 0 = .ok (.aload_n 0, 1) := by decide +kernel
theorem dC2_sameParameters_1 : decode cC2_sameParameters 1 = .ok (.getfield 28, 3) := by decide +kernel
theorem dC2_sameParameters_4 : decode cC2_sameParameters 4 = .ok (.iload_n 1, 1) := by decide +kernel
theorem dC2_sameParameters_5 : decode cC2_sameParameters 5 = .ok (.iaload, 1) := by decide +kernel
theorem dC2_sameParameters_6 : decode cC2_sameParameters 6 = .ok (.aload_n 0, 1) := by decide +kernel
theorem dC2_sameParameters_7 : decode cC2_sameParameters 7 = .ok (.getfield 28, 3) := by decide +kernel
theorem dC2_sameParameters_10 : decode cC2_sameParameters 10 = .ok (.iload_n 2, 1) := by decide +kernel
theorem dC2_sameParameters_11 : decode cC2_sameParameters 11 = .ok (.iaload, 1) := by decide +kernel
theorem dC2_sameParameters_12 : decode cC2_sameParameters 12 = .ok (.if_icmp .eq 5, 3) := by decide +kernel
theorem dC2_sameParameters_15 : decode cC2_sameParameters 15 = .ok (.iconst 0, 1) := by decide +kernel
theorem dC2_sameParameters_16 : decode cC2_sameParameters 16 = .ok (.ireturn, 1) := by decide +kernel
theorem dC2_sameParameters_17 : decode cC2_sameParameters 17 = .ok (.iconst 0, 1) := by decide +kernel
theorem dC2_sameParameters_18 : decode cC2_sameParameters 18 = .ok (.istore_n 3, 1) := by decide +kernel
theorem dC2_sameParameters_19 : decode cC2_sameParameters 19 = .ok (.iload_n 3, 1) := by decide +kernel
theorem dC2_sameParameters_20 : decode cC2_sameParameters 20 = .ok (.aload_n 0, 1) := by decide +kernel
theorem dC2_sameParameters_21 : decode cC2_sameParameters 21 = .ok (.getfield 28, 3) := by decide +kernel
theorem dC2_sameParameters_24 : decode cC2_sameParameters 24 = .ok (.iload_n 1, 1) := by decide +kernel
theorem dC2_sameParameters_25 : decode cC2_sameParameters 25 = .ok (.iaload, 1) := by decide +kernel
theorem dC2_sameParameters_26 : decode cC2_sameParameters 26 = .ok (.if_icmp .ge 34, 3) := by decide +kernel
theorem dC2_sameParameters_29 : decode cC2_sameParameters 29 = .ok (.aload_n 0, 1) := by decide +kernel
theorem dC2_sameParameters_30 : decode cC2_sameParameters 30 = .ok (.getfield 31, 3) := by decide +kernel
theorem dC2_sameParameters_33 : decode cC2_sameParameters 33 = .ok (.iload_n 1, 1) := by decide +kernel
theorem dC2_sameParameters_34 : decode cC2_sameParameters 34 = .ok (.iconst 4, 1) := by decide +kernel
theorem dC2_sameParameters_35 : decode cC2_sameParameters 35 = .ok (.imul, 1) := by decide +kernel
theorem dC2_sameParameters_36 : decode cC2_sameParameters 36 = .ok (.iload_n 3, 1) := by decide +kernel
theorem dC2_sameParameters_37 : decode cC2_sameParameters 37 = .ok (.iadd, 1) := by decide +kernel
theorem dC2_sameParameters_38 : decode cC2_sameParameters 38 = .ok (.iaload, 1) := by decide +kernel
theorem dC2_sameParameters_39 : decode cC2_sameParameters 39 = .ok (.aload_n 0, 1) := by decide +kernel
theorem dC2_sameParameters_40 : decode cC2_sameParameters 40 = .ok (.getfield 31, 3) := by decide +kernel
theorem dC2_sameParameters_43 : decode cC2_sameParameters 43 = .ok (.iload_n 2, 1) := by decide +kernel
theorem dC2_sameParameters_44 : decode cC2_sameParameters 44 = .ok (.iconst 4, 1) := by decide +kernel
theorem dC2_sameParameters_45 : decode cC2_sameParameters 45 = .ok (.imul, 1) := by decide +kernel
theorem dC2_sameParameters_46 : decode cC2_sameParameters 46 = .ok (.iload_n 3, 1) := by decide +kernel
theorem dC2_sameParameters_47 : decode cC2_sameParameters 47 = .ok (.iadd, 1) := by decide +kernel
theorem dC2_sameParameters_48 : decode cC2_sameParameters 48 = .ok (.iaload, 1) := by decide +kernel
theorem dC2_sameParameters_49 : decode cC2_sameParameters 49 = .ok (.if_icmp .eq 5, 3) := by decide +kernel
theorem dC2_sameParameters_52 : decode cC2_sameParameters 52 = .ok (.iconst 0, 1) := by decide +kernel
theorem dC2_sameParameters_53 : decode cC2_sameParameters 53 = .ok (.ireturn, 1) := by decide +kernel
theorem dC2_sameParameters_54 : decode cC2_sameParameters 54 = .ok (.iinc 3 1, 3) := by decide +kernel
theorem dC2_sameParameters_57 : decode cC2_sameParameters 57 = .ok (.goto (-38), 3) := by decide +kernel
theorem dC2_sameParameters_60 : decode cC2_sameParameters 60 = .ok (.iconst 1, 1) := by decide +kernel
theorem dC2_sameParameters_61 : decode cC2_sameParameters 61 = .ok (.ireturn, 1) := by decide +kernel
theorem dC2_isToldTwice_0 : decode cC2_isToldTwice 0 = .ok (.iconst 0, 1) := by decide +kernel
theorem dC2_isToldTwice_1 : decode cC2_isToldTwice 1 = .ok (.istore_n 2, 1) := by decide +kernel
theorem dC2_isToldTwice_2 : decode cC2_isToldTwice 2 = .ok (.iload_n 2, 1) := by decide +kernel
theorem dC2_isToldTwice_3 : decode cC2_isToldTwice 3 = .ok (.aload_n 0, 1) := by decide +kernel
theorem dC2_isToldTwice_4 : decode cC2_isToldTwice 4 = .ok (.getfield 45, 3) := by decide +kernel
theorem dC2_isToldTwice_7 : decode cC2_isToldTwice 7 = .ok (.if_icmp .ge 50, 3) := by decide +kernel
theorem dC2_isToldTwice_10 : decode cC2_isToldTwice 10 = .ok (.aload_n 0, 1) := by decide +kernel
theorem dC2_isToldTwice_11 : decode cC2_isToldTwice 11 = .ok (.getfield 15, 3) := by decide +kernel
theorem dC2_isToldTwice_14 : decode cC2_isToldTwice 14 = .ok (.iload_n 2, 1) := by decide +kernel
theorem dC2_isToldTwice_15 : decode cC2_isToldTwice 15 = .ok (.iaload, 1) := by decide +kernel
theorem dC2_isToldTwice_16 : decode cC2_isToldTwice 16 = .ok (.aload_n 0, 1) := by decide +kernel
theorem dC2_isToldTwice_17 : decode cC2_isToldTwice 17 = .ok (.getfield 15, 3) := by decide +kernel
theorem dC2_isToldTwice_20 : decode cC2_isToldTwice 20 = .ok (.iload_n 1, 1) := by decide +kernel
theorem dC2_isToldTwice_21 : decode cC2_isToldTwice 21 = .ok (.iaload, 1) := by decide +kernel
theorem dC2_isToldTwice_22 : decode cC2_isToldTwice 22 = .ok (.if_icmp .ne 29, 3) := by decide +kernel
theorem dC2_isToldTwice_25 : decode cC2_isToldTwice 25 = .ok (.aload_n 0, 1) := by decide +kernel
theorem dC2_isToldTwice_26 : decode cC2_isToldTwice 26 = .ok (.getfield 19, 3) := by decide +kernel
theorem dC2_isToldTwice_29 : decode cC2_isToldTwice 29 = .ok (.iload_n 2, 1) := by decide +kernel
theorem dC2_isToldTwice_30 : decode cC2_isToldTwice 30 = .ok (.iaload, 1) := by decide +kernel
theorem dC2_isToldTwice_31 : decode cC2_isToldTwice 31 = .ok (.aload_n 0, 1) := by decide +kernel
theorem dC2_isToldTwice_32 : decode cC2_isToldTwice 32 = .ok (.getfield 19, 3) := by decide +kernel
theorem dC2_isToldTwice_35 : decode cC2_isToldTwice 35 = .ok (.iload_n 1, 1) := by decide +kernel
theorem dC2_isToldTwice_36 : decode cC2_isToldTwice 36 = .ok (.iaload, 1) := by decide +kernel
theorem dC2_isToldTwice_37 : decode cC2_isToldTwice 37 = .ok (.if_icmp .ne 14, 3) := by decide +kernel
theorem dC2_isToldTwice_40 : decode cC2_isToldTwice 40 = .ok (.aload_n 0, 1) := by decide +kernel
theorem dC2_isToldTwice_41 : decode cC2_isToldTwice 41 = .ok (.iload_n 2, 1) := by decide +kernel
theorem dC2_isToldTwice_42 : decode cC2_isToldTwice 42 = .ok (.iload_n 1, 1) := by decide +kernel
theorem dC2_isToldTwice_43 : decode cC2_isToldTwice 43 = .ok (.invokevirtual 96, 3) := by decide +kernel
theorem dC2_isToldTwice_46 : decode cC2_isToldTwice 46 = .ok (.ifCond .eq 5, 3) := by decide +kernel
theorem dC2_isToldTwice_49 : decode cC2_isToldTwice 49 = .ok (.iconst 1, 1) := by decide +kernel
theorem dC2_isToldTwice_50 : decode cC2_isToldTwice 50 = .ok (.ireturn, 1) := by decide +kernel
theorem dC2_isToldTwice_51 : decode cC2_isToldTwice 51 = .ok (.iinc 2 1, 3) := by decide +kernel
theorem dC2_isToldTwice_54 : decode cC2_isToldTwice 54 = .ok (.goto (-52), 3) := by decide +kernel
theorem dC2_isToldTwice_57 : decode cC2_isToldTwice 57 = .ok (.iconst 0, 1) := by decide +kernel
theorem dC2_isToldTwice_58 : decode cC2_isToldTwice 58 = .ok (.ireturn, 1) := by decide +kernel
theorem dC2_keepDraft_0 : decode cC2_keepDraft 0 = .ok (.aload_n 0, 1) := by decide +kernel
theorem dC2_keepDraft_1 : decode cC2_keepDraft 1 = .ok (.getfield 45, 3) := by decide +kernel
theorem dC2_keepDraft_4 : decode cC2_keepDraft 4 = .ok (.bipush 60, 2) := by decide +kernel
theorem dC2_keepDraft_6 : decode cC2_keepDraft 6 = .ok (.if_icmp .ge 36, 3) := by decide +kernel
theorem dC2_keepDraft_9 : decode cC2_keepDraft 9 = .ok (.aload_n 0, 1) := by decide +kernel
theorem dC2_keepDraft_10 : decode cC2_keepDraft 10 = .ok (.aload_n 0, 1) := by decide +kernel
theorem dC2_keepDraft_11 : decode cC2_keepDraft 11 = .ok (.getfield 45, 3) := by decide +kernel
theorem dC2_keepDraft_14 : decode cC2_keepDraft 14 = .ok (.invokevirtual 49, 3) := by decide +kernel
theorem dC2_keepDraft_17 : decode cC2_keepDraft 17 = .ok (.ifCond .eq 25, 3) := by decide +kernel
theorem dC2_keepDraft_20 : decode cC2_keepDraft 20 = .ok (.aload_n 0, 1) := by decide +kernel
theorem dC2_keepDraft_21 : decode cC2_keepDraft 21 = .ok (.aload_n 0, 1) := by decide +kernel
theorem dC2_keepDraft_22 : decode cC2_keepDraft 22 = .ok (.getfield 45, 3) := by decide +kernel
theorem dC2_keepDraft_25 : decode cC2_keepDraft 25 = .ok (.invokevirtual 53, 3) := by decide +kernel
theorem dC2_keepDraft_28 : decode cC2_keepDraft 28 = .ok (.ifCond .eq 14, 3) := by decide +kernel
theorem dC2_keepDraft_31 : decode cC2_keepDraft 31 = .ok (.aload_n 0, 1) := by decide +kernel
theorem dC2_keepDraft_32 : decode cC2_keepDraft 32 = .ok (.aload_n 0, 1) := by decide +kernel
theorem dC2_keepDraft_33 : decode cC2_keepDraft 33 = .ok (.getfield 45, 3) := by decide +kernel
theorem dC2_keepDraft_36 : decode cC2_keepDraft 36 = .ok (.invokevirtual 56, 3) := by decide +kernel
theorem dC2_keepDraft_39 : decode cC2_keepDraft 39 = .ok (.ifCond .eq 6, 3) := by decide +kernel
theorem dC2_keepDraft_42 : decode cC2_keepDraft 42 = .ok (.bipush (-2), 2) := by decide +kernel
theorem dC2_keepDraft_44 : decode cC2_keepDraft 44 = .ok (.ireturn, 1) := by decide +kernel
theorem dC2_keepDraft_45 : decode cC2_keepDraft 45 = .ok (.aload_n 0, 1) := by decide +kernel
theorem dC2_keepDraft_46 : decode cC2_keepDraft 46 = .ok (.invokevirtual 59, 3) := by decide +kernel
theorem dC2_keepDraft_49 : decode cC2_keepDraft 49 = .ok (.aload_n 0, 1) := by decide +kernel
theorem dC2_keepDraft_50 : decode cC2_keepDraft 50 = .ok (.dup, 1) := by decide +kernel
theorem dC2_keepDraft_51 : decode cC2_keepDraft 51 = .ok (.getfield 45, 3) := by decide +kernel
theorem dC2_keepDraft_54 : decode cC2_keepDraft 54 = .ok (.iconst 1, 1) := by decide +kernel
theorem dC2_keepDraft_55 : decode cC2_keepDraft 55 = .ok (.iadd, 1) := by decide +kernel
theorem dC2_keepDraft_56 : decode cC2_keepDraft 56 = .ok (.putfield 45, 3) := by decide +kernel
theorem dC2_keepDraft_59 : decode cC2_keepDraft 59 = .ok (.aload_n 0, 1) := by decide +kernel
theorem dC2_keepDraft_60 : decode cC2_keepDraft 60 = .ok (.getfield 45, 3) := by decide +kernel
theorem dC2_keepDraft_63 : decode cC2_keepDraft 63 = .ok (.iconst 1, 1) := by decide +kernel
theorem dC2_keepDraft_64 : decode cC2_keepDraft 64 = .ok (.isub, 1) := by decide +kernel
theorem dC2_keepDraft_65 : decode cC2_keepDraft 65 = .ok (.ireturn, 1) := by decide +kernel
theorem dC0_member_0 : decode cC0_member 0 = .ok (.aload_n 0, 1) := by decide +kernel
theorem dC0_member_1 : decode cC0_member 1 = .ok (.getfield 21, 3) := by decide +kernel
theorem dC0_member_4 : decode cC0_member 4 = .ok (.iload_n 1, 1) := by decide +kernel
theorem dC0_member_5 : decode cC0_member 5 = .ok (.iload_n 2, 1) := by decide +kernel
theorem dC0_member_6 : decode cC0_member 6 = .ok (.iload_n 3, 1) := by decide +kernel
theorem dC0_member_7 : decode cC0_member 7 = .ok (.iload 4, 2) := by decide +kernel
theorem dC0_member_9 : decode cC0_member 9 = .ok (.invokevirtual 63, 3) := by decide +kernel
theorem dC0_member_12 : decode cC0_member 12 = .ok (.aload_n 0, 1) := by decide +kernel
theorem dC0_member_13 : decode cC0_member 13 = .ok (.getfield 21, 3) := by decide +kernel
theorem dC0_member_16 : decode cC0_member 16 = .ok (.iload 5, 2) := by decide +kernel
theorem dC0_member_18 : decode cC0_member 18 = .ok (.iload 6, 2) := by decide +kernel
theorem dC0_member_20 : decode cC0_member 20 = .ok (.iload 7, 2) := by decide +kernel
theorem dC0_member_22 : decode cC0_member 22 = .ok (.iload 8, 2) := by decide +kernel
theorem dC0_member_24 : decode cC0_member 24 = .ok (.iload 9, 2) := by decide +kernel
theorem dC0_member_26 : decode cC0_member 26 = .ok (.invokevirtual 67, 3) := by decide +kernel
theorem dC0_member_29 : decode cC0_member 29 = .ok (.aload_n 0, 1) := by decide +kernel
theorem dC0_member_30 : decode cC0_member 30 = .ok (.getfield 21, 3) := by decide +kernel
theorem dC0_member_33 : decode cC0_member 33 = .ok (.invokevirtual 71, 3) := by decide +kernel
theorem dC0_member_36 : decode cC0_member 36 = .ok (.ireturn, 1) := by decide +kernel
theorem dC1_isType_0 : decode cC1_isType 0 = .ok (.aload_n 0, 1) := by decide +kernel
theorem dC1_isType_1 : decode cC1_isType 1 = .ok (.iload_n 1, 1) := by decide +kernel
theorem dC1_isType_2 : decode cC1_isType 2 = .ok (.invokevirtual 40, 3) := by decide +kernel
theorem dC1_isType_5 : decode cC1_isType 5 = .ok (.ifCond .ne 17, 3) := by decide +kernel
theorem dC1_isType_8 : decode cC1_isType 8 = .ok (.iload_n 1, 1) := by decide +kernel
theorem dC1_isType_9 : decode cC1_isType 9 = .ok (.bipush 10, 2) := by decide +kernel
theorem dC1_isType_11 : decode cC1_isType 11 = .ok (.if_icmp .eq 11, 3) := by decide +kernel
theorem dC1_isType_14 : decode cC1_isType 14 = .ok (.aload_n 0, 1) := by decide +kernel
theorem dC1_isType_15 : decode cC1_isType 15 = .ok (.iload_n 1, 1) := by decide +kernel
theorem dC1_isType_16 : decode cC1_isType 16 = .ok (.invokevirtual 43, 3) := by decide +kernel
theorem dC1_isType_19 : decode cC1_isType 19 = .ok (.ifCond .eq 7, 3) := by decide +kernel
theorem dC1_isType_22 : decode cC1_isType 22 = .ok (.iconst 1, 1) := by decide +kernel
theorem dC1_isType_23 : decode cC1_isType 23 = .ok (.goto 4, 3) := by decide +kernel
theorem dC1_isType_26 : decode cC1_isType 26 = .ok (.iconst 0, 1) := by decide +kernel
theorem dC1_isType_27 : decode cC1_isType 27 = .ok (.ireturn, 1) := by decide +kernel
theorem dC1_isPrimitive_0 : decode cC1_isPrimitive 0 = .ok (.iload_n 1, 1) := by decide +kernel
theorem dC1_isPrimitive_1 : decode cC1_isPrimitive 1 = .ok (.ifCond .lt 12, 3) := by decide +kernel
theorem dC1_isPrimitive_4 : decode cC1_isPrimitive 4 = .ok (.iload_n 1, 1) := by decide +kernel
theorem dC1_isPrimitive_5 : decode cC1_isPrimitive 5 = .ok (.iconst 3, 1) := by decide +kernel
theorem dC1_isPrimitive_6 : decode cC1_isPrimitive 6 = .ok (.if_icmp .gt 7, 3) := by decide +kernel
theorem dC1_isPrimitive_9 : decode cC1_isPrimitive 9 = .ok (.iconst 1, 1) := by decide +kernel
theorem dC1_isPrimitive_10 : decode cC1_isPrimitive 10 = .ok (.goto 4, 3) := by decide +kernel
theorem dC1_isPrimitive_13 : decode cC1_isPrimitive 13 = .ok (.iconst 0, 1) := by decide +kernel
end
section
theorem dC1_isPrimitive_14 : decode cC1_isPrimitive 14 = .ok (.ireturn, 1) := by decide +kernel
theorem dC1_accepts_0 : decode cC1_accepts 0 = .ok (.iload_n 1, 1) := by decide +kernel
theorem dC1_accepts_1 : decode cC1_accepts 1 = .ok (.istore 4, 2) := by decide +kernel
theorem dC1_accepts_3 : decode cC1_accepts 3 = .ok (.aload_n 0, 1) := by decide +kernel
theorem dC1_accepts_4 : decode cC1_accepts 4 = .ok (.iload_n 1, 1) := by decide +kernel
theorem dC1_accepts_5 : decode cC1_accepts 5 = .ok (.invokevirtual 62, 3) := by decide +kernel
theorem dC1_accepts_8 : decode cC1_accepts 8 = .ok (.ifCond .eq 11, 3) := by decide +kernel
theorem dC1_accepts_11 : decode cC1_accepts 11 = .ok (.iload_n 1, 1) := by decide +kernel
theorem dC1_accepts_12 : decode cC1_accepts 12 = .ok (.iconst 4, 1) := by decide +kernel
theorem dC1_accepts_13 : decode cC1_accepts 13 = .ok (.iadd, 1) := by decide +kernel
theorem dC1_accepts_14 : decode cC1_accepts 14 = .ok (.istore 4, 2) := by decide +kernel
theorem dC1_accepts_16 : decode cC1_accepts 16 = .ok (.goto 19, 3) := by decide +kernel
theorem dC1_accepts_19 : decode cC1_accepts 19 = .ok (.iload_n 1, 1) := by decide +kernel
theorem dC1_accepts_20 : decode cC1_accepts 20 = .ok (.iconst 4, 1) := by decide +kernel
theorem dC1_accepts_21 : decode cC1_accepts 21 = .ok (.if_icmp .lt 14, 3) := by decide +kernel
theorem dC1_accepts_24 : decode cC1_accepts 24 = .ok (.iload_n 1, 1) := by decide +kernel
theorem dC1_accepts_25 : decode cC1_accepts 25 = .ok (.bipush 7, 2) := by decide +kernel
theorem dC1_accepts_27 : decode cC1_accepts 27 = .ok (.if_icmp .gt 8, 3) := by decide +kernel
theorem dC1_accepts_30 : decode cC1_accepts 30 = .ok (.iload_n 1, 1) := by decide +kernel
theorem dC1_accepts_31 : decode cC1_accepts 31 = .ok (.iconst 4, 1) := by decide +kernel
theorem dC1_accepts_32 : decode cC1_accepts 32 = .ok (.isub, 1) := by decide +kernel
theorem dC1_accepts_33 : decode cC1_accepts 33 = .ok (.istore 4, 2) := by decide +kernel
theorem dC1_accepts_35 : decode cC1_accepts 35 = .ok (.aload_n 0, 1) := by decide +kernel
theorem dC1_accepts_36 : decode cC1_accepts 36 = .ok (.iload_n 1, 1) := by decide +kernel
theorem dC1_accepts_37 : decode cC1_accepts 37 = .ok (.iload_n 2, 1) := by decide +kernel
theorem dC1_accepts_38 : decode cC1_accepts 38 = .ok (.invokevirtual 58, 3) := by decide +kernel
theorem dC1_accepts_41 : decode cC1_accepts 41 = .ok (.ifCond .ne 17, 3) := by decide +kernel
theorem dC1_accepts_44 : decode cC1_accepts 44 = .ok (.iload_n 3, 1) := by decide +kernel
theorem dC1_accepts_45 : decode cC1_accepts 45 = .ok (.ifCond .eq 17, 3) := by decide +kernel
theorem dC1_accepts_48 : decode cC1_accepts 48 = .ok (.aload_n 0, 1) := by decide +kernel
theorem dC1_accepts_49 : decode cC1_accepts 49 = .ok (.iload 4, 2) := by decide +kernel
theorem dC1_accepts_51 : decode cC1_accepts 51 = .ok (.iload_n 2, 1) := by decide +kernel
theorem dC1_accepts_52 : decode cC1_accepts 52 = .ok (.invokevirtual 58, 3) := by decide +kernel
theorem dC1_accepts_55 : decode cC1_accepts 55 = .ok (.ifCond .eq 7, 3) := by decide +kernel
theorem dC1_accepts_58 : decode cC1_accepts 58 = .ok (.iconst 1, 1) := by decide +kernel
theorem dC1_accepts_59 : decode cC1_accepts 59 = .ok (.goto 4, 3) := by decide +kernel
theorem dC1_accepts_62 : decode cC1_accepts 62 = .ok (.iconst 0, 1) := by decide +kernel
theorem dC1_accepts_63 : decode cC1_accepts 63 = .ok (.ireturn, 1) := by decide +kernel
theorem dC0_is_0 : decode cC0_is 0 = .ok (.aload_n 0, 1) := by decide +kernel
theorem dC0_is_1 : decode cC0_is 1 = .ok (.getfield 10, 3) := by decide +kernel
theorem dC0_is_4 : decode cC0_is 4 = .ok (.iload_n 1, 1) := by decide +kernel
theorem dC0_is_5 : decode cC0_is 5 = .ok (.invokevirtual 75, 3) := by decide +kernel
theorem dC0_is_8 : decode cC0_is 8 = .ok (.ifCond .eq 14, 3) := by decide +kernel
theorem dC0_is_11 : decode cC0_is 11 = .ok (.aload_n 0, 1) := by decide +kernel
theorem dC0_is_12 : decode cC0_is 12 = .ok (.getfield 10, 3) := by decide +kernel
theorem dC0_is_15 : decode cC0_is 15 = .ok (.iload_n 2, 1) := by decide +kernel
theorem dC0_is_16 : decode cC0_is 16 = .ok (.invokevirtual 75, 3) := by decide +kernel
theorem dC0_is_19 : decode cC0_is 19 = .ok (.ifCond .ne 6, 3) := by decide +kernel
theorem dC0_is_22 : decode cC0_is 22 = .ok (.bipush (-2), 2) := by decide +kernel
theorem dC0_is_24 : decode cC0_is 24 = .ok (.ireturn, 1) := by decide +kernel
theorem dC0_is_25 : decode cC0_is 25 = .ok (.aload_n 0, 1) := by decide +kernel
theorem dC0_is_26 : decode cC0_is 26 = .ok (.getfield 10, 3) := by decide +kernel
theorem dC0_is_29 : decode cC0_is 29 = .ok (.iload_n 1, 1) := by decide +kernel
theorem dC0_is_30 : decode cC0_is 30 = .ok (.iload_n 2, 1) := by decide +kernel
theorem dC0_is_31 : decode cC0_is 31 = .ok (.iconst 0, 1) := by decide +kernel
theorem dC0_is_32 : decode cC0_is 32 = .ok (.invokevirtual 78, 3) := by decide +kernel
theorem dC0_is_35 : decode cC0_is 35 = .ok (.ifCond .eq 7, 3) := by decide +kernel
theorem dC0_is_38 : decode cC0_is 38 = .ok (.iconst 1, 1) := by decide +kernel
theorem dC0_is_39 : decode cC0_is 39 = .ok (.goto 4, 3) := by decide +kernel
theorem dC0_is_42 : decode cC0_is 42 = .ok (.iconst 0, 1) := by decide +kernel
theorem dC0_is_43 : decode cC0_is 43 = .ok (.ireturn, 1) := by decide +kernel
theorem dC0_fits_0 : decode cC0_fits 0 = .ok (.aload_n 0, 1) := by decide +kernel
theorem dC0_fits_1 : decode cC0_fits 1 = .ok (.getfield 10, 3) := by decide +kernel
theorem dC0_fits_4 : decode cC0_fits 4 = .ok (.iload_n 1, 1) := by decide +kernel
theorem dC0_fits_5 : decode cC0_fits 5 = .ok (.invokevirtual 75, 3) := by decide +kernel
theorem dC0_fits_8 : decode cC0_fits 8 = .ok (.ifCond .eq 14, 3) := by decide +kernel
theorem dC0_fits_11 : decode cC0_fits 11 = .ok (.aload_n 0, 1) := by decide +kernel
theorem dC0_fits_12 : decode cC0_fits 12 = .ok (.getfield 10, 3) := by decide +kernel
theorem dC0_fits_15 : decode cC0_fits 15 = .ok (.iload_n 2, 1) := by decide +kernel
theorem dC0_fits_16 : decode cC0_fits 16 = .ok (.invokevirtual 75, 3) := by decide +kernel
theorem dC0_fits_19 : decode cC0_fits 19 = .ok (.ifCond .ne 6, 3) := by decide +kernel
theorem dC0_fits_22 : decode cC0_fits 22 = .ok (.bipush (-2), 2) := by decide +kernel
theorem dC0_fits_24 : decode cC0_fits 24 = .ok (.ireturn, 1) := by decide +kernel
theorem dC0_fits_25 : decode cC0_fits 25 = .ok (.aload_n 0, 1) := by decide +kernel
theorem dC0_fits_26 : decode cC0_fits 26 = .ok (.getfield 10, 3) := by decide +kernel
theorem dC0_fits_29 : decode cC0_fits 29 = .ok (.iload_n 1, 1) := by decide +kernel
theorem dC0_fits_30 : decode cC0_fits 30 = .ok (.iload_n 2, 1) := by decide +kernel
theorem dC0_fits_31 : decode cC0_fits 31 = .ok (.iconst 1, 1) := by decide +kernel
theorem dC0_fits_32 : decode cC0_fits 32 = .ok (.invokevirtual 78, 3) := by decide +kernel
theorem dC0_fits_35 : decode cC0_fits 35 = .ok (.ifCond .eq 7, 3) := by decide +kernel
theorem dC0_fits_38 : decode cC0_fits 38 = .ok (.iconst 1, 1) := by decide +kernel
theorem dC0_fits_39 : decode cC0_fits 39 = .ok (.goto 4, 3) := by decide +kernel
theorem dC0_fits_42 : decode cC0_fits 42 = .ok (.iconst 0, 1) := by decide +kernel
theorem dC0_fits_43 : decode cC0_fits 43 = .ok (.ireturn, 1) := by decide +kernel
theorem dC1_size_0 : decode cC1_size 0 = .ok (.aload_n 0, 1) := by decide +kernel
theorem dC1_size_1 : decode cC1_size 1 = .ok (.getfield 32, 3) := by decide +kernel
theorem dC1_size_4 : decode cC1_size 4 = .ok (.ireturn, 1) := by decide +kernel
theorem dC2_overrides_0 : decode cC2_overrides 0 = .ok (.aload_n 0, 1) := by decide +kernel
theorem dC2_overrides_1 : decode cC2_overrides 1 = .ok (.getfield 22, 3) := by decide +kernel
theorem dC2_overrides_4 : decode cC2_overrides 4 = .ok (.iload_n 1, 1) := by decide +kernel
theorem dC2_overrides_5 : decode cC2_overrides 5 = .ok (.iaload, 1) := by decide +kernel
theorem dC2_overrides_6 : decode cC2_overrides 6 = .ok (.aload_n 0, 1) := by decide +kernel
theorem dC2_overrides_7 : decode cC2_overrides 7 = .ok (.getfield 22, 3) := by decide +kernel
theorem dC2_overrides_10 : decode cC2_overrides 10 = .ok (.iload_n 2, 1) := by decide +kernel
theorem dC2_overrides_11 : decode cC2_overrides 11 = .ok (.iaload, 1) := by decide +kernel
theorem dC2_overrides_12 : decode cC2_overrides 12 = .ok (.ior, 1) := by decide +kernel
theorem dC2_overrides_13 : decode cC2_overrides 13 = .ok (.iconst 3, 1) := by decide +kernel
theorem dC2_overrides_14 : decode cC2_overrides 14 = .ok (.iand, 1) := by decide +kernel
theorem dC2_overrides_15 : decode cC2_overrides 15 = .ok (.ifCond .eq 7, 3) := by decide +kernel
theorem dC2_overrides_18 : decode cC2_overrides 18 = .ok (.iconst 1, 1) := by decide +kernel
theorem dC2_overrides_19 : decode cC2_overrides 19 = .ok (.goto 4, 3) := by decide +kernel
theorem dC2_overrides_22 : decode cC2_overrides 22 = .ok (.iconst 0, 1) := by decide +kernel
theorem dC2_overrides_23 : decode cC2_overrides 23 = .ok (.istore_n 3, 1) := by decide +kernel
theorem dC2_overrides_24 : decode cC2_overrides 24 = .ok (.iload_n 3, 1) := by decide +kernel
theorem dC2_overrides_25 : decode cC2_overrides 25 = .ok (.ifCond .ne 33, 3) := by decide +kernel
theorem dC2_overrides_28 : decode cC2_overrides 28 = .ok (.aload_n 0, 1) := by decide +kernel
theorem dC2_overrides_29 : decode cC2_overrides 29 = .ok (.getfield 19, 3) := by decide +kernel
theorem dC2_overrides_32 : decode cC2_overrides 32 = .ok (.iload_n 1, 1) := by decide +kernel
theorem dC2_overrides_33 : decode cC2_overrides 33 = .ok (.iaload, 1) := by decide +kernel
theorem dC2_overrides_34 : decode cC2_overrides 34 = .ok (.aload_n 0, 1) := by decide +kernel
theorem dC2_overrides_35 : decode cC2_overrides 35 = .ok (.getfield 19, 3) := by decide +kernel
theorem dC2_overrides_38 : decode cC2_overrides 38 = .ok (.iload_n 2, 1) := by decide +kernel
theorem dC2_overrides_39 : decode cC2_overrides 39 = .ok (.iaload, 1) := by decide +kernel
theorem dC2_overrides_40 : decode cC2_overrides 40 = .ok (.if_icmp .ne 18, 3) := by decide +kernel
theorem dC2_overrides_43 : decode cC2_overrides 43 = .ok (.aload_n 0, 1) := by decide +kernel
theorem dC2_overrides_44 : decode cC2_overrides 44 = .ok (.getfield 15, 3) := by decide +kernel
theorem dC2_overrides_47 : decode cC2_overrides 47 = .ok (.iload_n 1, 1) := by decide +kernel
theorem dC2_overrides_48 : decode cC2_overrides 48 = .ok (.iaload, 1) := by decide +kernel
theorem dC2_overrides_49 : decode cC2_overrides 49 = .ok (.aload_n 0, 1) := by decide +kernel
theorem dC2_overrides_50 : decode cC2_overrides 50 = .ok (.getfield 15, 3) := by decide +kernel
theorem dC2_overrides_53 : decode cC2_overrides 53 = .ok (.iload_n 2, 1) := by decide +kernel
theorem dC2_overrides_54 : decode cC2_overrides 54 = .ok (.iaload, 1) := by decide +kernel
theorem dC2_overrides_55 : decode cC2_overrides 55 = .ok (.if_icmp .ne 5, 3) := by decide +kernel
theorem dC2_overrides_58 : decode cC2_overrides 58 = .ok (.iconst 0, 1) := by decide +kernel
theorem dC2_overrides_59 : decode cC2_overrides 59 = .ok (.ireturn, 1) := by decide +kernel
theorem dC2_overrides_60 : decode cC2_overrides 60 = .ok (.aload_n 0, 1) := by decide +kernel
theorem dC2_overrides_61 : decode cC2_overrides 61 = .ok (.getfield 9, 3) := by decide +kernel
theorem dC2_overrides_64 : decode cC2_overrides 64 = .ok (.aload_n 0, 1) := by decide +kernel
theorem dC2_overrides_65 : decode cC2_overrides 65 = .ok (.getfield 15, 3) := by decide +kernel
theorem dC2_overrides_68 : decode cC2_overrides 68 = .ok (.iload_n 1, 1) := by decide +kernel
theorem dC2_overrides_69 : decode cC2_overrides 69 = .ok (.iaload, 1) := by decide +kernel
theorem dC2_overrides_70 : decode cC2_overrides 70 = .ok (.aload_n 0, 1) := by decide +kernel
theorem dC2_overrides_71 : decode cC2_overrides 71 = .ok (.getfield 15, 3) := by decide +kernel
theorem dC2_overrides_74 : decode cC2_overrides 74 = .ok (.iload_n 2, 1) := by decide +kernel
theorem dC2_overrides_75 : decode cC2_overrides 75 = .ok (.iaload, 1) := by decide +kernel
theorem dC2_overrides_76 : decode cC2_overrides 76 = .ok (.invokevirtual 112, 3) := by decide +kernel
theorem dC2_overrides_79 : decode cC2_overrides 79 = .ok (.ifCond .eq 16, 3) := by decide +kernel
theorem dC2_overrides_82 : decode cC2_overrides 82 = .ok (.aload_n 0, 1) := by decide +kernel
theorem dC2_overrides_83 : decode cC2_overrides 83 = .ok (.iload_n 1, 1) := by decide +kernel
theorem dC2_overrides_84 : decode cC2_overrides 84 = .ok (.iload_n 2, 1) := by decide +kernel
theorem dC2_overrides_85 : decode cC2_overrides 85 = .ok (.invokevirtual 96, 3) := by decide +kernel
theorem dC2_overrides_88 : decode cC2_overrides 88 = .ok (.ifCond .eq 7, 3) := by decide +kernel
theorem dC2_overrides_91 : decode cC2_overrides 91 = .ok (.iconst 1, 1) := by decide +kernel
theorem dC2_overrides_92 : decode cC2_overrides 92 = .ok (.goto 4, 3) := by decide +kernel
theorem dC2_overrides_95 : decode cC2_overrides 95 = .ok (.iconst 0, 1) := by decide +kernel
theorem dC2_overrides_96 : decode cC2_overrides 96 = .ok (.ireturn, 1) := by decide +kernel
theorem dC2_isOverridden_0 : decode cC2_isOverridden 0 = .ok (.iconst 0, 1) := by decide +kernel
theorem dC2_isOverridden_1 : decode cC2_isOverridden 1 = .ok (.istore_n 3, 1) := by decide +kernel
theorem dC2_isOverridden_2 : decode cC2_isOverridden 2 = .ok (.iload_n 3, 1) := by decide +kernel
theorem dC2_isOverridden_3 : decode cC2_isOverridden 3 = .ok (.aload_n 0, 1) := by decide +kernel
theorem dC2_isOverridden_4 : decode cC2_isOverridden 4 = .ok (.getfield 45, 3) := by decide +kernel
theorem dC2_isOverridden_7 : decode cC2_isOverridden 7 = .ok (.if_icmp .ge 37, 3) := by decide +kernel
theorem dC2_isOverridden_10 : decode cC2_isOverridden 10 = .ok (.aload_n 0, 1) := by decide +kernel
theorem dC2_isOverridden_11 : decode cC2_isOverridden 11 = .ok (.getfield 9, 3) := by decide +kernel
theorem dC2_isOverridden_14 : decode cC2_isOverridden 14 = .ok (.iload_n 2, 1) := by decide +kernel
theorem dC2_isOverridden_15 : decode cC2_isOverridden 15 = .ok (.aload_n 0, 1) := by decide +kernel
theorem dC2_isOverridden_16 : decode cC2_isOverridden 16 = .ok (.getfield 15, 3) := by decide +kernel
theorem dC2_isOverridden_19 : decode cC2_isOverridden 19 = .ok (.iload_n 3, 1) := by decide +kernel
theorem dC2_isOverridden_20 : decode cC2_isOverridden 20 = .ok (.iaload, 1) := by decide +kernel
theorem dC2_isOverridden_21 : decode cC2_isOverridden 21 = .ok (.invokevirtual 112, 3) := by decide +kernel
theorem dC2_isOverridden_24 : decode cC2_isOverridden 24 = .ok (.ifCond .eq 14, 3) := by decide +kernel
theorem dC2_isOverridden_27 : decode cC2_isOverridden 27 = .ok (.aload_n 0, 1) := by decide +kernel
theorem dC2_isOverridden_28 : decode cC2_isOverridden 28 = .ok (.iload_n 3, 1) := by decide +kernel
theorem dC2_isOverridden_29 : decode cC2_isOverridden 29 = .ok (.iload_n 1, 1) := by decide +kernel
theorem dC2_isOverridden_30 : decode cC2_isOverridden 30 = .ok (.invokevirtual 118, 3) := by decide +kernel
theorem dC2_isOverridden_33 : decode cC2_isOverridden 33 = .ok (.ifCond .eq 5, 3) := by decide +kernel
theorem dC2_isOverridden_36 : decode cC2_isOverridden 36 = .ok (.iconst 1, 1) := by decide +kernel
theorem dC2_isOverridden_37 : decode cC2_isOverridden 37 = .ok (.ireturn, 1) := by decide +kernel
theorem dC2_isOverridden_38 : decode cC2_isOverridden 38 = .ok (.iinc 3 1, 3) := by decide +kernel
theorem dC2_isOverridden_41 : decode cC2_isOverridden 41 = .ok (.goto (-39), 3) := by decide +kernel
theorem dC2_isOverridden_44 : decode cC2_isOverridden 44 = .ok (.iconst 0, 1) := by decide +kernel
theorem dC2_isOverridden_45 : decode cC2_isOverridden 45 = .ok (.ireturn, 1) := by decide +kernel
theorem dC2_isSeen_0 : decode cC2_isSeen 0 = .ok (.aload_n 0, 1) := by decide +kernel
theorem dC2_isSeen_1 : decode cC2_isSeen 1 = .ok (.getfield 9, 3) := by decide +kernel
theorem dC2_isSeen_4 : decode cC2_isSeen 4 = .ok (.iload_n 2, 1) := by decide +kernel
theorem dC2_isSeen_5 : decode cC2_isSeen 5 = .ok (.aload_n 0, 1) := by decide +kernel
theorem dC2_isSeen_6 : decode cC2_isSeen 6 = .ok (.getfield 15, 3) := by decide +kernel
theorem dC2_isSeen_9 : decode cC2_isSeen 9 = .ok (.iload_n 1, 1) := by decide +kernel
theorem dC2_isSeen_10 : decode cC2_isSeen 10 = .ok (.iaload, 1) := by decide +kernel
theorem dC2_isSeen_11 : decode cC2_isSeen 11 = .ok (.invokevirtual 112, 3) := by decide +kernel
theorem dC2_isSeen_14 : decode cC2_isSeen 14 = .ok (.ifCond .ne 5, 3) := by decide +kernel
theorem dC2_isSeen_17 : decode cC2_isSeen 17 = .ok (.iconst 0, 1) := by decide +kernel
theorem dC2_isSeen_18 : decode cC2_isSeen 18 = .ok (.ireturn, 1) := by decide +kernel
theorem dC2_isSeen_19 : decode cC2_isSeen 19 = .ok (.aload_n 0, 1) := by decide +kernel
theorem dC2_isSeen_20 : decode cC2_isSeen 20 = .ok (.iload_n 1, 1) := by decide +kernel
theorem dC2_isSeen_21 : decode cC2_isSeen 21 = .ok (.invokevirtual 74, 3) := by decide +kernel
theorem dC2_isSeen_24 : decode cC2_isSeen 24 = .ok (.ifCond .eq 21, 3) := by decide +kernel
theorem dC2_isSeen_27 : decode cC2_isSeen 27 = .ok (.aload_n 0, 1) := by decide +kernel
theorem dC2_isSeen_28 : decode cC2_isSeen 28 = .ok (.getfield 15, 3) := by decide +kernel
theorem dC2_isSeen_31 : decode cC2_isSeen 31 = .ok (.iload_n 1, 1) := by decide +kernel
theorem dC2_isSeen_32 : decode cC2_isSeen 32 = .ok (.iaload, 1) := by decide +kernel
theorem dC2_isSeen_33 : decode cC2_isSeen 33 = .ok (.iload_n 3, 1) := by decide +kernel
theorem dC2_isSeen_34 : decode cC2_isSeen 34 = .ok (.if_icmp .ne 7, 3) := by decide +kernel
theorem dC2_isSeen_37 : decode cC2_isSeen 37 = .ok (.iconst 1, 1) := by decide +kernel
theorem dC2_isSeen_38 : decode cC2_isSeen 38 = .ok (.goto 21, 3) := by decide +kernel
theorem dC2_isSeen_41 : decode cC2_isSeen 41 = .ok (.iconst 0, 1) := by decide +kernel
theorem dC2_isSeen_42 : decode cC2_isSeen 42 = .ok (.goto 17, 3) := by decide +kernel
theorem dC2_isSeen_45 : decode cC2_isSeen 45 = .ok (.aload_n 0, 1) := by decide +kernel
theorem dC2_isSeen_46 : decode cC2_isSeen 46 = .ok (.iload_n 1, 1) := by decide +kernel
theorem dC2_isSeen_47 : decode cC2_isSeen 47 = .ok (.iload_n 2, 1) := by decide +kernel
theorem dC2_isSeen_48 : decode cC2_isSeen 48 = .ok (.invokevirtual 115, 3) := by decide +kernel
theorem dC2_isSeen_51 : decode cC2_isSeen 51 = .ok (.ifCond .ne 7, 3) := by decide +kernel
theorem dC2_isSeen_54 : decode cC2_isSeen 54 = .ok (.iconst 1, 1) := by decide +kernel
theorem dC2_isSeen_55 : decode cC2_isSeen 55 = .ok (.goto 4, 3) := by decide +kernel
theorem dC2_isSeen_58 : decode cC2_isSeen 58 = .ok (.iconst 0, 1) := by decide +kernel
theorem dC2_isSeen_59 : decode cC2_isSeen 59 = .ok (.ireturn, 1) := by decide +kernel
theorem dC2_findFunction_0 : decode cC2_findFunction 0 = .ok (.iconst (-1), 1) := by decide +kernel
theorem dC2_findFunction_1 : decode cC2_findFunction 1 = .ok (.istore_n 2, 1) := by decide +kernel
theorem dC2_findFunction_2 : decode cC2_findFunction 2 = .ok (.iconst 0, 1) := by decide +kernel
theorem dC2_findFunction_3 : decode cC2_findFunction 3 = .ok (.istore_n 3, 1) := by decide +kernel
theorem dC2_findFunction_4 : decode cC2_findFunction 4 = .ok (.iload_n 3, 1) := by decide +kernel
theorem dC2_findFunction_5 : decode cC2_findFunction 5 = .ok (.aload_n 0, 1) := by decide +kernel
theorem dC2_findFunction_6 : decode cC2_findFunction 6 = .ok (.getfield 45, 3) := by decide +kernel
theorem dC2_findFunction_9 : decode cC2_findFunction 9 = .ok (.if_icmp .ge 66, 3) := by decide +kernel
theorem dC2_findFunction_12 : decode cC2_findFunction 12 = .ok (.aload_n 0, 1) := by decide +kernel
theorem dC2_findFunction_13 : decode cC2_findFunction 13 = .ok (.iload_n 3, 1) := by decide +kernel
theorem dC2_findFunction_14 : decode cC2_findFunction 14 = .ok (.invokevirtual 77, 3) := by decide +kernel
theorem dC2_findFunction_17 : decode cC2_findFunction 17 = .ok (.ifCond .eq 52, 3) := by decide +kernel
theorem dC2_findFunction_20 : decode cC2_findFunction 20 = .ok (.aload_n 0, 1) := by decide +kernel
theorem dC2_findFunction_21 : decode cC2_findFunction 21 = .ok (.iload_n 3, 1) := by decide +kernel
theorem dC2_findFunction_22 : decode cC2_findFunction 22 = .ok (.iload_n 1, 1) := by decide +kernel
theorem dC2_findFunction_23 : decode cC2_findFunction 23 = .ok (.iload_n 1, 1) := by decide +kernel
theorem dC2_findFunction_24 : decode cC2_findFunction 24 = .ok (.invokevirtual 108, 3) := by decide +kernel
theorem dC2_findFunction_27 : decode cC2_findFunction 27 = .ok (.ifCond .ne 6, 3) := by decide +kernel
theorem dC2_findFunction_30 : decode cC2_findFunction 30 = .ok (.goto 39, 3) := by decide +kernel
theorem dC2_findFunction_33 : decode cC2_findFunction 33 = .ok (.iload_n 2, 1) := by decide +kernel
theorem dC2_findFunction_34 : decode cC2_findFunction 34 = .ok (.iconst (-1), 1) := by decide +kernel
theorem dC2_findFunction_35 : decode cC2_findFunction 35 = .ok (.if_icmp .ne 8, 3) := by decide +kernel
theorem dC2_findFunction_38 : decode cC2_findFunction 38 = .ok (.iload_n 3, 1) := by decide +kernel
theorem dC2_findFunction_39 : decode cC2_findFunction 39 = .ok (.istore_n 2, 1) := by decide +kernel
theorem dC2_findFunction_40 : decode cC2_findFunction 40 = .ok (.goto 29, 3) := by decide +kernel
theorem dC2_findFunction_43 : decode cC2_findFunction 43 = .ok (.aload_n 0, 1) := by decide +kernel
theorem dC2_findFunction_44 : decode cC2_findFunction 44 = .ok (.getfield 19, 3) := by decide +kernel
theorem dC2_findFunction_47 : decode cC2_findFunction 47 = .ok (.iload_n 3, 1) := by decide +kernel
theorem dC2_findFunction_48 : decode cC2_findFunction 48 = .ok (.iaload, 1) := by decide +kernel
theorem dC2_findFunction_49 : decode cC2_findFunction 49 = .ok (.aload_n 0, 1) := by decide +kernel
theorem dC2_findFunction_50 : decode cC2_findFunction 50 = .ok (.getfield 19, 3) := by decide +kernel
theorem dC2_findFunction_53 : decode cC2_findFunction 53 = .ok (.iload_n 2, 1) := by decide +kernel
theorem dC2_findFunction_54 : decode cC2_findFunction 54 = .ok (.iaload, 1) := by decide +kernel
theorem dC2_findFunction_55 : decode cC2_findFunction 55 = .ok (.if_icmp .ne 12, 3) := by decide +kernel
theorem dC2_findFunction_58 : decode cC2_findFunction 58 = .ok (.aload_n 0, 1) := by decide +kernel
theorem dC2_findFunction_59 : decode cC2_findFunction 59 = .ok (.iload_n 3, 1) := by decide +kernel
theorem dC2_findFunction_60 : decode cC2_findFunction 60 = .ok (.iload_n 2, 1) := by decide +kernel
theorem dC2_findFunction_61 : decode cC2_findFunction 61 = .ok (.invokevirtual 96, 3) := by decide +kernel
theorem dC2_findFunction_64 : decode cC2_findFunction 64 = .ok (.ifCond .ne 5, 3) := by decide +kernel
theorem dC2_findFunction_67 : decode cC2_findFunction 67 = .ok (.iconst (-1), 1) := by decide +kernel
theorem dC2_findFunction_68 : decode cC2_findFunction 68 = .ok (.ireturn, 1) := by decide +kernel
theorem dC2_findFunction_69 : decode cC2_findFunction 69 = .ok (.iinc 3 1, 3) := by decide +kernel
theorem dC2_findFunction_72 : decode cC2_findFunction 72 = .ok (.goto (-68), 3) := by decide +kernel
theorem dC2_findFunction_75 : decode cC2_findFunction 75 = .ok (.iload_n 2, 1) := by decide +kernel
theorem dC2_findFunction_76 : decode cC2_findFunction 76 = .ok (.ireturn, 1) := by decide +kernel
theorem dC2_settleFunctions_0 : decode cC2_settleFunctions 0 = .ok (.aload_n 0, 1) := by decide +kernel
theorem dC2_settleFunctions_1 : decode cC2_settleFunctions 1 = .ok (.getfield 121, 3) := by decide +kernel
theorem dC2_settleFunctions_4 : decode cC2_settleFunctions 4 = .ok (.ifCond .eq 4, 3) := by decide +kernel
theorem dC2_settleFunctions_7 : decode cC2_settleFunctions 7 = .ok (.return_, 1) := by decide +kernel
theorem dC2_settleFunctions_8 : decode cC2_settleFunctions 8 = .ok (.iconst 0, 1) := by decide +kernel
theorem dC2_settleFunctions_9 : decode cC2_settleFunctions 9 = .ok (.istore_n 1, 1) := by decide +kernel
theorem dC2_settleFunctions_10 : decode cC2_settleFunctions 10 = .ok (.iload_n 1, 1) := by decide +kernel
theorem dC2_settleFunctions_11 : decode cC2_settleFunctions 11 = .ok (.aload_n 0, 1) := by decide +kernel
theorem dC2_settleFunctions_12 : decode cC2_settleFunctions 12 = .ok (.getfield 9, 3) := by decide +kernel
theorem dC2_settleFunctions_15 : decode cC2_settleFunctions 15 = .ok (.invokevirtual 125, 3) := by decide +kernel
theorem dC2_settleFunctions_18 : decode cC2_settleFunctions 18 = .ok (.if_icmp .ge 40, 3) := by decide +kernel
theorem dC2_settleFunctions_21 : decode cC2_settleFunctions 21 = .ok (.bipush 16, 2) := by decide +kernel
theorem dC2_settleFunctions_23 : decode cC2_settleFunctions 23 = .ok (.iload_n 1, 1) := by decide +kernel
theorem dC2_settleFunctions_24 : decode cC2_settleFunctions 24 = .ok (.iadd, 1) := by decide +kernel
theorem dC2_settleFunctions_25 : decode cC2_settleFunctions 25 = .ok (.istore_n 2, 1) := by decide +kernel
theorem dC2_settleFunctions_26 : decode cC2_settleFunctions 26 = .ok (.aload_n 0, 1) := by decide +kernel
theorem dC2_settleFunctions_27 : decode cC2_settleFunctions 27 = .ok (.getfield 36, 3) := by decide +kernel
theorem dC2_settleFunctions_30 : decode cC2_settleFunctions 30 = .ok (.iload_n 1, 1) := by decide +kernel
theorem dC2_settleFunctions_31 : decode cC2_settleFunctions 31 = .ok (.aload_n 0, 1) := by decide +kernel
theorem dC2_settleFunctions_32 : decode cC2_settleFunctions 32 = .ok (.getfield 9, 3) := by decide +kernel
theorem dC2_settleFunctions_35 : decode cC2_settleFunctions 35 = .ok (.iload_n 2, 1) := by decide +kernel
theorem dC2_settleFunctions_36 : decode cC2_settleFunctions 36 = .ok (.invokevirtual 71, 3) := by decide +kernel
theorem dC2_settleFunctions_39 : decode cC2_settleFunctions 39 = .ok (.ifCond .eq 11, 3) := by decide +kernel
theorem dC2_settleFunctions_42 : decode cC2_settleFunctions 42 = .ok (.aload_n 0, 1) := by decide +kernel
theorem dC2_settleFunctions_43 : decode cC2_settleFunctions 43 = .ok (.iload_n 2, 1) := by decide +kernel
theorem dC2_settleFunctions_44 : decode cC2_settleFunctions 44 = .ok (.invokevirtual 128, 3) := by decide +kernel
theorem dC2_settleFunctions_47 : decode cC2_settleFunctions 47 = .ok (.goto 4, 3) := by decide +kernel
theorem dC2_settleFunctions_50 : decode cC2_settleFunctions 50 = .ok (.iconst (-1), 1) := by decide +kernel
theorem dC2_settleFunctions_51 : decode cC2_settleFunctions 51 = .ok (.iastore, 1) := by decide +kernel
theorem dC2_settleFunctions_52 : decode cC2_settleFunctions 52 = .ok (.iinc 1 1, 3) := by decide +kernel
theorem dC2_settleFunctions_55 : decode cC2_settleFunctions 55 = .ok (.goto (-45), 3) := by decide +kernel
theorem dC2_settleFunctions_58 : decode cC2_settleFunctions 58 = .ok (.aload_n 0, 1) := by decide +kernel
theorem dC2_settleFunctions_59 : decode cC2_settleFunctions 59 = .ok (.iconst 1, 1) := by decide +kernel
theorem dC2_settleFunctions_60 : decode cC2_settleFunctions 60 = .ok (.putfield 121, 3) := by decide +kernel
theorem dC2_settleFunctions_63 : decode cC2_settleFunctions 63 = .ok (.return_, 1) := by decide +kernel
theorem dC2_functionOf_0 : decode cC2_functionOf 0 = .ok (.aload_n 0, 1) := by decide +kernel
theorem dC2_functionOf_1 : decode cC2_functionOf 1 = .ok (.getfield 9, 3) := by decide +kernel
theorem dC2_functionOf_4 : decode cC2_functionOf 4 = .ok (.iload_n 1, 1) := by decide +kernel
theorem dC2_functionOf_5 : decode cC2_functionOf 5 = .ok (.invokevirtual 62, 3) := by decide +kernel
theorem dC2_functionOf_8 : decode cC2_functionOf 8 = .ok (.ifCond .eq 15, 3) := by decide +kernel
theorem dC2_functionOf_11 : decode cC2_functionOf 11 = .ok (.aload_n 0, 1) := by decide +kernel
theorem dC2_functionOf_12 : decode cC2_functionOf 12 = .ok (.getfield 36, 3) := by decide +kernel
theorem dC2_functionOf_15 : decode cC2_functionOf 15 = .ok (.iload_n 1, 1) := by decide +kernel
theorem dC2_functionOf_16 : decode cC2_functionOf 16 = .ok (.bipush 16, 2) := by decide +kernel
theorem dC2_functionOf_18 : decode cC2_functionOf 18 = .ok (.isub, 1) := by decide +kernel
theorem dC2_functionOf_19 : decode cC2_functionOf 19 = .ok (.iaload, 1) := by decide +kernel
theorem dC2_functionOf_20 : decode cC2_functionOf 20 = .ok (.goto 4, 3) := by decide +kernel
theorem dC2_functionOf_23 : decode cC2_functionOf 23 = .ok (.iconst (-1), 1) := by decide +kernel
theorem dC2_functionOf_24 : decode cC2_functionOf 24 = .ok (.ireturn, 1) := by decide +kernel
theorem dC0_function_0 : decode cC0_function 0 = .ok (.aload_n 0, 1) := by decide +kernel
theorem dC0_function_1 : decode cC0_function 1 = .ok (.getfield 10, 3) := by decide +kernel
theorem dC0_function_4 : decode cC0_function 4 = .ok (.iload_n 1, 1) := by decide +kernel
theorem dC0_function_5 : decode cC0_function 5 = .ok (.invokevirtual 75, 3) := by decide +kernel
theorem dC0_function_8 : decode cC0_function 8 = .ok (.ifCond .ne 6, 3) := by decide +kernel
theorem dC0_function_11 : decode cC0_function 11 = .ok (.bipush (-2), 2) := by decide +kernel
theorem dC0_function_13 : decode cC0_function 13 = .ok (.ireturn, 1) := by decide +kernel
theorem dC0_function_14 : decode cC0_function 14 = .ok (.aload_n 0, 1) := by decide +kernel
theorem dC0_function_15 : decode cC0_function 15 = .ok (.getfield 21, 3) := by decide +kernel
theorem dC0_function_18 : decode cC0_function 18 = .ok (.invokevirtual 82, 3) := by decide +kernel
theorem dC0_function_21 : decode cC0_function 21 = .ok (.aload_n 0, 1) := by decide +kernel
theorem dC0_function_22 : decode cC0_function 22 = .ok (.getfield 21, 3) := by decide +kernel
theorem dC0_function_25 : decode cC0_function 25 = .ok (.iload_n 1, 1) := by decide +kernel
theorem dC0_function_26 : decode cC0_function 26 = .ok (.invokevirtual 85, 3) := by decide +kernel
theorem dC0_function_29 : decode cC0_function 29 = .ok (.ireturn, 1) := by decide +kernel
theorem dC0_canBeAsked_0 : decode cC0_canBeAsked 0 = .ok (.aload_n 0, 1) := by decide +kernel
theorem dC0_canBeAsked_1 : decode cC0_canBeAsked 1 = .ok (.getfield 10, 3) := by decide +kernel
theorem dC0_canBeAsked_4 : decode cC0_canBeAsked 4 = .ok (.iload_n 1, 1) := by decide +kernel
theorem dC0_canBeAsked_5 : decode cC0_canBeAsked 5 = .ok (.invokevirtual 45, 3) := by decide +kernel
theorem dC0_canBeAsked_8 : decode cC0_canBeAsked 8 = .ok (.ifCond .eq 33, 3) := by decide +kernel
theorem dC0_canBeAsked_11 : decode cC0_canBeAsked 11 = .ok (.iload_n 2, 1) := by decide +kernel
theorem dC0_canBeAsked_12 : decode cC0_canBeAsked 12 = .ok (.ifCond .lt 29, 3) := by decide +kernel
theorem dC0_canBeAsked_15 : decode cC0_canBeAsked 15 = .ok (.iload_n 2, 1) := by decide +kernel
theorem dC0_canBeAsked_16 : decode cC0_canBeAsked 16 = .ok (.bipush 16, 2) := by decide +kernel
theorem dC0_canBeAsked_18 : decode cC0_canBeAsked 18 = .ok (.if_icmp .ge 23, 3) := by decide +kernel
theorem dC0_canBeAsked_21 : decode cC0_canBeAsked 21 = .ok (.iload_n 3, 1) := by decide +kernel
theorem dC0_canBeAsked_22 : decode cC0_canBeAsked 22 = .ok (.iconst (-1), 1) := by decide +kernel
theorem dC0_canBeAsked_23 : decode cC0_canBeAsked 23 = .ok (.if_icmp .eq 14, 3) := by decide +kernel
theorem dC0_canBeAsked_26 : decode cC0_canBeAsked 26 = .ok (.aload_n 0, 1) := by decide +kernel
theorem dC0_canBeAsked_27 : decode cC0_canBeAsked 27 = .ok (.getfield 10, 3) := by decide +kernel
theorem dC0_canBeAsked_30 : decode cC0_canBeAsked 30 = .ok (.iload_n 3, 1) := by decide +kernel
theorem dC0_canBeAsked_31 : decode cC0_canBeAsked 31 = .ok (.invokevirtual 45, 3) := by decide +kernel
theorem dC0_canBeAsked_34 : decode cC0_canBeAsked 34 = .ok (.ifCond .eq 7, 3) := by decide +kernel
theorem dC0_canBeAsked_37 : decode cC0_canBeAsked 37 = .ok (.iconst 1, 1) := by decide +kernel
theorem dC0_canBeAsked_38 : decode cC0_canBeAsked 38 = .ok (.goto 4, 3) := by decide +kernel
theorem dC0_canBeAsked_41 : decode cC0_canBeAsked 41 = .ok (.iconst 0, 1) := by decide +kernel
theorem dC0_canBeAsked_42 : decode cC0_canBeAsked 42 = .ok (.ireturn, 1) := by decide +kernel
theorem dC2_listSeen_0 : decode cC2_listSeen 0 = .ok (.iconst 0, 1) := by decide +kernel
theorem dC2_listSeen_1 : decode cC2_listSeen 1 = .ok (.istore 5, 2) := by decide +kernel
theorem dC2_listSeen_3 : decode cC2_listSeen 3 = .ok (.iconst 0, 1) := by decide +kernel
theorem dC2_listSeen_4 : decode cC2_listSeen 4 = .ok (.istore 6, 2) := by decide +kernel
theorem dC2_listSeen_6 : decode cC2_listSeen 6 = .ok (.iload 6, 2) := by decide +kernel
theorem dC2_listSeen_8 : decode cC2_listSeen 8 = .ok (.aload_n 0, 1) := by decide +kernel
theorem dC2_listSeen_9 : decode cC2_listSeen 9 = .ok (.getfield 45, 3) := by decide +kernel
theorem dC2_listSeen_12 : decode cC2_listSeen 12 = .ok (.if_icmp .ge 49, 3) := by decide +kernel
theorem dC2_listSeen_15 : decode cC2_listSeen 15 = .ok (.iload 5, 2) := by decide +kernel
theorem dC2_listSeen_17 : decode cC2_listSeen 17 = .ok (.aload 4, 2) := by decide +kernel
theorem dC2_listSeen_19 : decode cC2_listSeen 19 = .ok (.arraylength, 1) := by decide +kernel
theorem dC2_listSeen_20 : decode cC2_listSeen 20 = .ok (.if_icmp .ge 41, 3) := by decide +kernel
theorem dC2_listSeen_23 : decode cC2_listSeen 23 = .ok (.aload_n 0, 1) := by decide +kernel
theorem dC2_listSeen_24 : decode cC2_listSeen 24 = .ok (.getfield 19, 3) := by decide +kernel
theorem dC2_listSeen_27 : decode cC2_listSeen 27 = .ok (.iload 6, 2) := by decide +kernel
theorem dC2_listSeen_29 : decode cC2_listSeen 29 = .ok (.iaload, 1) := by decide +kernel
theorem dC2_listSeen_30 : decode cC2_listSeen 30 = .ok (.iload_n 2, 1) := by decide +kernel
theorem dC2_listSeen_31 : decode cC2_listSeen 31 = .ok (.if_icmp .ne 24, 3) := by decide +kernel
theorem dC2_listSeen_34 : decode cC2_listSeen 34 = .ok (.aload_n 0, 1) := by decide +kernel
theorem dC2_listSeen_35 : decode cC2_listSeen 35 = .ok (.iload 6, 2) := by decide +kernel
theorem dC2_listSeen_37 : decode cC2_listSeen 37 = .ok (.iload_n 1, 1) := by decide +kernel
theorem dC2_listSeen_38 : decode cC2_listSeen 38 = .ok (.iload_n 3, 1) := by decide +kernel
theorem dC2_listSeen_39 : decode cC2_listSeen 39 = .ok (.invokevirtual 108, 3) := by decide +kernel
theorem dC2_listSeen_42 : decode cC2_listSeen 42 = .ok (.ifCond .eq 13, 3) := by decide +kernel
theorem dC2_listSeen_45 : decode cC2_listSeen 45 = .ok (.aload 4, 2) := by decide +kernel
theorem dC2_listSeen_47 : decode cC2_listSeen 47 = .ok (.iload 5, 2) := by decide +kernel
theorem dC2_listSeen_49 : decode cC2_listSeen 49 = .ok (.iload 6, 2) := by decide +kernel
theorem dC2_listSeen_51 : decode cC2_listSeen 51 = .ok (.iastore, 1) := by decide +kernel
theorem dC2_listSeen_52 : decode cC2_listSeen 52 = .ok (.iinc 5 1, 3) := by decide +kernel
theorem dC2_listSeen_55 : decode cC2_listSeen 55 = .ok (.iinc 6 1, 3) := by decide +kernel
theorem dC2_listSeen_58 : decode cC2_listSeen 58 = .ok (.goto (-52), 3) := by decide +kernel
theorem dC2_listSeen_61 : decode cC2_listSeen 61 = .ok (.iload 5, 2) := by decide +kernel
theorem dC2_listSeen_63 : decode cC2_listSeen 63 = .ok (.ireturn, 1) := by decide +kernel
theorem dC0_seen_0 : decode cC0_seen 0 = .ok (.aload_n 0, 1) := by decide +kernel
theorem dC0_seen_1 : decode cC0_seen 1 = .ok (.iload_n 1, 1) := by decide +kernel
theorem dC0_seen_2 : decode cC0_seen 2 = .ok (.iload_n 2, 1) := by decide +kernel
theorem dC0_seen_3 : decode cC0_seen 3 = .ok (.iload_n 3, 1) := by decide +kernel
theorem dC0_seen_4 : decode cC0_seen 4 = .ok (.invokevirtual 89, 3) := by decide +kernel
theorem dC0_seen_7 : decode cC0_seen 7 = .ok (.ifCond .eq 20, 3) := by decide +kernel
theorem dC0_seen_10 : decode cC0_seen 10 = .ok (.aload_n 0, 1) := by decide +kernel
theorem dC0_seen_11 : decode cC0_seen 11 = .ok (.getfield 21, 3) := by decide +kernel
theorem dC0_seen_14 : decode cC0_seen 14 = .ok (.iload_n 1, 1) := by decide +kernel
theorem dC0_seen_15 : decode cC0_seen 15 = .ok (.iload_n 2, 1) := by decide +kernel
theorem dC0_seen_16 : decode cC0_seen 16 = .ok (.iload_n 3, 1) := by decide +kernel
theorem dC0_seen_17 : decode cC0_seen 17 = .ok (.aload_n 0, 1) := by decide +kernel
theorem dC0_seen_18 : decode cC0_seen 18 = .ok (.getfield 41, 3) := by decide +kernel
theorem dC0_seen_21 : decode cC0_seen 21 = .ok (.invokevirtual 93, 3) := by decide +kernel
theorem dC0_seen_24 : decode cC0_seen 24 = .ok (.goto 5, 3) := by decide +kernel
theorem dC0_seen_27 : decode cC0_seen 27 = .ok (.bipush (-2), 2) := by decide +kernel
theorem dC0_seen_29 : decode cC0_seen 29 = .ok (.ireturn, 1) := by decide +kernel
theorem dC0_seenAt_0 : decode cC0_seenAt 0 = .ok (.aload_n 0, 1) := by decide +kernel
theorem dC0_seenAt_1 : decode cC0_seenAt 1 = .ok (.iload_n 1, 1) := by decide +kernel
theorem dC0_seenAt_2 : decode cC0_seenAt 2 = .ok (.iload_n 2, 1) := by decide +kernel
theorem dC0_seenAt_3 : decode cC0_seenAt 3 = .ok (.iload_n 3, 1) := by decide +kernel
theorem dC0_seenAt_4 : decode cC0_seenAt 4 = .ok (.invokevirtual 89, 3) := by decide +kernel
theorem dC0_seenAt_7 : decode cC0_seenAt 7 = .ok (.ifCond .ne 6, 3) := by decide +kernel
theorem dC0_seenAt_10 : decode cC0_seenAt 10 = .ok (.bipush (-2), 2) := by decide +kernel
theorem dC0_seenAt_12 : decode cC0_seenAt 12 = .ok (.ireturn, 1) := by decide +kernel
theorem dC0_seenAt_13 : decode cC0_seenAt 13 = .ok (.aload_n 0, 1) := by decide +kernel
theorem dC0_seenAt_14 : decode cC0_seenAt 14 = .ok (.getfield 21, 3) := by decide +kernel
theorem dC0_seenAt_17 : decode cC0_seenAt 17 = .ok (.iload_n 1, 1) := by decide +kernel
theorem dC0_seenAt_18 : decode cC0_seenAt 18 = .ok (.iload_n 2, 1) := by decide +kernel
theorem dC0_seenAt_19 : decode cC0_seenAt 19 = .ok (.iload_n 3, 1) := by decide +kernel
theorem dC0_seenAt_20 : decode cC0_seenAt 20 = .ok (.aload_n 0, 1) := by decide +kernel
theorem dC0_seenAt_21 : decode cC0_seenAt 21 = .ok (.getfield 41, 3) := by decide +kernel
theorem dC0_seenAt_24 : decode cC0_seenAt 24 = .ok (.invokevirtual 93, 3) := by decide +kernel
theorem dC0_seenAt_27 : decode cC0_seenAt 27 = .ok (.istore 5, 2) := by decide +kernel
theorem dC0_seenAt_29 : decode cC0_seenAt 29 = .ok (.iload 4, 2) := by decide +kernel
theorem dC0_seenAt_31 : decode cC0_seenAt 31 = .ok (.ifCond .lt 20, 3) := by decide +kernel
theorem dC0_seenAt_34 : decode cC0_seenAt 34 = .ok (.iload 4, 2) := by decide +kernel
theorem dC0_seenAt_36 : decode cC0_seenAt 36 = .ok (.iload 5, 2) := by decide +kernel
theorem dC0_seenAt_38 : decode cC0_seenAt 38 = .ok (.if_icmp .ge 13, 3) := by decide +kernel
theorem dC0_seenAt_41 : decode cC0_seenAt 41 = .ok (.aload_n 0, 1) := by decide +kernel
theorem dC0_seenAt_42 : decode cC0_seenAt 42 = .ok (.getfield 41, 3) := by decide +kernel
theorem dC0_seenAt_45 : decode cC0_seenAt 45 = .ok (.iload 4, 2) := by decide +kernel
theorem dC0_seenAt_47 : decode cC0_seenAt 47 = .ok (.iaload, 1) := by decide +kernel
theorem dC0_seenAt_48 : decode cC0_seenAt 48 = .ok (.goto 4, 3) := by decide +kernel
theorem dC0_seenAt_51 : decode cC0_seenAt 51 = .ok (.iconst (-1), 1) := by decide +kernel
theorem dC0_seenAt_52 : decode cC0_seenAt 52 = .ok (.ireturn, 1) := by decide +kernel
theorem dC3_addType_0 : decode cC3_addType 0 = .ok (.aload_n 0, 1) := by decide +kernel
theorem dC3_addType_1 : decode cC3_addType 1 = .ok (.getfield 28, 3) := by decide +kernel
theorem dC3_addType_4 : decode cC3_addType 4 = .ok (.iconst 5, 1) := by decide +kernel
theorem dC3_addType_5 : decode cC3_addType 5 = .ok (.if_icmp .lt 6, 3) := by decide +kernel
theorem dC3_addType_8 : decode cC3_addType 8 = .ok (.bipush (-2), 2) := by decide +kernel
theorem dC3_addType_10 : decode cC3_addType 10 = .ok (.ireturn, 1) := by decide +kernel
theorem dC3_addType_11 : decode cC3_addType 11 = .ok (.aload_n 0, 1) := by decide +kernel
theorem dC3_addType_12 : decode cC3_addType 12 = .ok (.getfield 11, 3) := by decide +kernel
theorem dC3_addType_15 : decode cC3_addType 15 = .ok (.aload_n 0, 1) := by decide +kernel
theorem dC3_addType_16 : decode cC3_addType 16 = .ok (.getfield 28, 3) := by decide +kernel
theorem dC3_addType_19 : decode cC3_addType 19 = .ok (.iconst 0, 1) := by decide +kernel
theorem dC3_addType_20 : decode cC3_addType 20 = .ok (.bastore, 1) := by decide +kernel
theorem dC3_addType_21 : decode cC3_addType 21 = .ok (.aload_n 0, 1) := by decide +kernel
theorem dC3_addType_22 : decode cC3_addType 22 = .ok (.getfield 15, 3) := by decide +kernel
theorem dC3_addType_25 : decode cC3_addType 25 = .ok (.aload_n 0, 1) := by decide +kernel
theorem dC3_addType_26 : decode cC3_addType 26 = .ok (.getfield 28, 3) := by decide +kernel
theorem dC3_addType_29 : decode cC3_addType 29 = .ok (.iconst 0, 1) := by decide +kernel
theorem dC3_addType_30 : decode cC3_addType 30 = .ok (.bastore, 1) := by decide +kernel
theorem dC3_addType_31 : decode cC3_addType 31 = .ok (.aload_n 0, 1) := by decide +kernel
theorem dC3_addType_32 : decode cC3_addType 32 = .ok (.getfield 18, 3) := by decide +kernel
theorem dC3_addType_35 : decode cC3_addType 35 = .ok (.aload_n 0, 1) := by decide +kernel
theorem dC3_addType_36 : decode cC3_addType 36 = .ok (.getfield 28, 3) := by decide +kernel
theorem dC3_addType_39 : decode cC3_addType 39 = .ok (.iload_n 1, 1) := by decide +kernel
theorem dC3_addType_40 : decode cC3_addType 40 = .ok (.iastore, 1) := by decide +kernel
theorem dC3_addType_41 : decode cC3_addType 41 = .ok (.aload_n 0, 1) := by decide +kernel
theorem dC3_addType_42 : decode cC3_addType 42 = .ok (.getfield 22, 3) := by decide +kernel
theorem dC3_addType_45 : decode cC3_addType 45 = .ok (.aload_n 0, 1) := by decide +kernel
theorem dC3_addType_46 : decode cC3_addType 46 = .ok (.getfield 28, 3) := by decide +kernel
theorem dC3_addType_49 : decode cC3_addType 49 = .ok (.iconst 0, 1) := by decide +kernel
theorem dC3_addType_50 : decode cC3_addType 50 = .ok (.iastore, 1) := by decide +kernel
theorem dC3_addType_51 : decode cC3_addType 51 = .ok (.aload_n 0, 1) := by decide +kernel
theorem dC3_addType_52 : decode cC3_addType 52 = .ok (.dup, 1) := by decide +kernel
theorem dC3_addType_53 : decode cC3_addType 53 = .ok (.getfield 28, 3) := by decide +kernel
theorem dC3_addType_56 : decode cC3_addType 56 = .ok (.iconst 1, 1) := by decide +kernel
theorem dC3_addType_57 : decode cC3_addType 57 = .ok (.iadd, 1) := by decide +kernel
theorem dC3_addType_58 : decode cC3_addType 58 = .ok (.putfield 28, 3) := by decide +kernel
theorem dC3_addType_61 : decode cC3_addType 61 = .ok (.aload_n 0, 1) := by decide +kernel
theorem dC3_addType_62 : decode cC3_addType 62 = .ok (.getfield 28, 3) := by decide +kernel
theorem dC3_addType_65 : decode cC3_addType 65 = .ok (.ireturn, 1) := by decide +kernel
theorem dC0_argument_0 : decode cC0_argument 0 = .ok (.aload_n 0, 1) := by decide +kernel
theorem dC0_argument_1 : decode cC0_argument 1 = .ok (.getfield 10, 3) := by decide +kernel
theorem dC0_argument_4 : decode cC0_argument 4 = .ok (.iload_n 1, 1) := by decide +kernel
theorem dC0_argument_5 : decode cC0_argument 5 = .ok (.invokevirtual 75, 3) := by decide +kernel
theorem dC0_argument_8 : decode cC0_argument 8 = .ok (.ifCond .eq 14, 3) := by decide +kernel
theorem dC0_argument_11 : decode cC0_argument 11 = .ok (.aload_n 0, 1) := by decide +kernel
theorem dC0_argument_12 : decode cC0_argument 12 = .ok (.getfield 28, 3) := by decide +kernel
theorem dC0_argument_15 : decode cC0_argument 15 = .ok (.iload_n 1, 1) := by decide +kernel
theorem dC0_argument_16 : decode cC0_argument 16 = .ok (.invokevirtual 97, 3) := by decide +kernel
theorem dC0_argument_19 : decode cC0_argument 19 = .ok (.goto 5, 3) := by decide +kernel
theorem dC0_argument_22 : decode cC0_argument 22 = .ok (.bipush (-2), 2) := by decide +kernel
theorem dC0_argument_24 : decode cC0_argument 24 = .ok (.ireturn, 1) := by decide +kernel
theorem dC3_addLambda_0 : decode cC3_addLambda 0 = .ok (.aload_n 0, 1) := by decide +kernel
theorem dC3_addLambda_1 : decode cC3_addLambda 1 = .ok (.getfield 28, 3) := by decide +kernel
theorem dC3_addLambda_4 : decode cC3_addLambda 4 = .ok (.iconst 5, 1) := by decide +kernel
theorem dC3_addLambda_5 : decode cC3_addLambda 5 = .ok (.if_icmp .lt 6, 3) := by decide +kernel
theorem dC3_addLambda_8 : decode cC3_addLambda 8 = .ok (.bipush (-2), 2) := by decide +kernel
theorem dC3_addLambda_10 : decode cC3_addLambda 10 = .ok (.ireturn, 1) := by decide +kernel
theorem dC3_addLambda_11 : decode cC3_addLambda 11 = .ok (.aload_n 0, 1) := by decide +kernel
theorem dC3_addLambda_12 : decode cC3_addLambda 12 = .ok (.getfield 11, 3) := by decide +kernel
theorem dC3_addLambda_15 : decode cC3_addLambda 15 = .ok (.aload_n 0, 1) := by decide +kernel
theorem dC3_addLambda_16 : decode cC3_addLambda 16 = .ok (.getfield 28, 3) := by decide +kernel
theorem dC3_addLambda_19 : decode cC3_addLambda 19 = .ok (.iconst 1, 1) := by decide +kernel
theorem dC3_addLambda_20 : decode cC3_addLambda 20 = .ok (.bastore, 1) := by decide +kernel
theorem dC3_addLambda_21 : decode cC3_addLambda 21 = .ok (.aload_n 0, 1) := by decide +kernel
theorem dC3_addLambda_22 : decode cC3_addLambda 22 = .ok (.getfield 15, 3) := by decide +kernel
theorem dC3_addLambda_25 : decode cC3_addLambda 25 = .ok (.aload_n 0, 1) := by decide +kernel
theorem dC3_addLambda_26 : decode cC3_addLambda 26 = .ok (.getfield 28, 3) := by decide +kernel
theorem dC3_addLambda_29 : decode cC3_addLambda 29 = .ok (.iload_n 2, 1) := by decide +kernel
theorem dC3_addLambda_30 : decode cC3_addLambda 30 = .ok (.bastore, 1) := by decide +kernel
theorem dC3_addLambda_31 : decode cC3_addLambda 31 = .ok (.aload_n 0, 1) := by decide +kernel
theorem dC3_addLambda_32 : decode cC3_addLambda 32 = .ok (.getfield 18, 3) := by decide +kernel
theorem dC3_addLambda_35 : decode cC3_addLambda 35 = .ok (.aload_n 0, 1) := by decide +kernel
theorem dC3_addLambda_36 : decode cC3_addLambda 36 = .ok (.getfield 28, 3) := by decide +kernel
theorem dC3_addLambda_39 : decode cC3_addLambda 39 = .ok (.iload 5, 2) := by decide +kernel
theorem dC3_addLambda_41 : decode cC3_addLambda 41 = .ok (.iastore, 1) := by decide +kernel
theorem dC3_addLambda_42 : decode cC3_addLambda 42 = .ok (.aload_n 0, 1) := by decide +kernel
theorem dC3_addLambda_43 : decode cC3_addLambda 43 = .ok (.getfield 22, 3) := by decide +kernel
theorem dC3_addLambda_46 : decode cC3_addLambda 46 = .ok (.aload_n 0, 1) := by decide +kernel
theorem dC3_addLambda_47 : decode cC3_addLambda 47 = .ok (.getfield 28, 3) := by decide +kernel
theorem dC3_addLambda_50 : decode cC3_addLambda 50 = .ok (.iload_n 1, 1) := by decide +kernel
theorem dC3_addLambda_51 : decode cC3_addLambda 51 = .ok (.iastore, 1) := by decide +kernel
theorem dC3_addLambda_52 : decode cC3_addLambda 52 = .ok (.aload_n 0, 1) := by decide +kernel
theorem dC3_addLambda_53 : decode cC3_addLambda 53 = .ok (.getfield 25, 3) := by decide +kernel
theorem dC3_addLambda_56 : decode cC3_addLambda 56 = .ok (.aload_n 0, 1) := by decide +kernel
theorem dC3_addLambda_57 : decode cC3_addLambda 57 = .ok (.getfield 28, 3) := by decide +kernel
theorem dC3_addLambda_60 : decode cC3_addLambda 60 = .ok (.iconst 2, 1) := by decide +kernel
theorem dC3_addLambda_61 : decode cC3_addLambda 61 = .ok (.imul, 1) := by decide +kernel
theorem dC3_addLambda_62 : decode cC3_addLambda 62 = .ok (.iload_n 3, 1) := by decide +kernel
theorem dC3_addLambda_63 : decode cC3_addLambda 63 = .ok (.iastore, 1) := by decide +kernel
theorem dC3_addLambda_64 : decode cC3_addLambda 64 = .ok (.aload_n 0, 1) := by decide +kernel
theorem dC3_addLambda_65 : decode cC3_addLambda 65 = .ok (.getfield 25, 3) := by decide +kernel
theorem dC3_addLambda_68 : decode cC3_addLambda 68 = .ok (.aload_n 0, 1) := by decide +kernel
theorem dC3_addLambda_69 : decode cC3_addLambda 69 = .ok (.getfield 28, 3) := by decide +kernel
theorem dC3_addLambda_72 : decode cC3_addLambda 72 = .ok (.iconst 2, 1) := by decide +kernel
theorem dC3_addLambda_73 : decode cC3_addLambda 73 = .ok (.imul, 1) := by decide +kernel
theorem dC3_addLambda_74 : decode cC3_addLambda 74 = .ok (.iconst 1, 1) := by decide +kernel
theorem dC3_addLambda_75 : decode cC3_addLambda 75 = .ok (.iadd, 1) := by decide +kernel
theorem dC3_addLambda_76 : decode cC3_addLambda 76 = .ok (.iload 4, 2) := by decide +kernel
theorem dC3_addLambda_78 : decode cC3_addLambda 78 = .ok (.iastore, 1) := by decide +kernel
theorem dC3_addLambda_79 : decode cC3_addLambda 79 = .ok (.aload_n 0, 1) := by decide +kernel
theorem dC3_addLambda_80 : decode cC3_addLambda 80 = .ok (.dup, 1) := by decide +kernel
theorem dC3_addLambda_81 : decode cC3_addLambda 81 = .ok (.getfield 28, 3) := by decide +kernel
theorem dC3_addLambda_84 : decode cC3_addLambda 84 = .ok (.iconst 1, 1) := by decide +kernel
theorem dC3_addLambda_85 : decode cC3_addLambda 85 = .ok (.iadd, 1) := by decide +kernel
theorem dC3_addLambda_86 : decode cC3_addLambda 86 = .ok (.putfield 28, 3) := by decide +kernel
theorem dC3_addLambda_89 : decode cC3_addLambda 89 = .ok (.aload_n 0, 1) := by decide +kernel
theorem dC3_addLambda_90 : decode cC3_addLambda 90 = .ok (.getfield 28, 3) := by decide +kernel
theorem dC3_addLambda_93 : decode cC3_addLambda 93 = .ok (.ireturn, 1) := by decide +kernel
theorem dC0_lambda_0 : decode cC0_lambda 0 = .ok (.iload_n 1, 1) := by decide +kernel
theorem dC0_lambda_1 : decode cC0_lambda 1 = .ok (.ifCond .lt 29, 3) := by decide +kernel
theorem dC0_lambda_4 : decode cC0_lambda 4 = .ok (.iload_n 1, 1) := by decide +kernel
theorem dC0_lambda_5 : decode cC0_lambda 5 = .ok (.iconst 2, 1) := by decide +kernel
theorem dC0_lambda_6 : decode cC0_lambda 6 = .ok (.if_icmp .gt 24, 3) := by decide +kernel
theorem dC0_lambda_9 : decode cC0_lambda 9 = .ok (.iload_n 2, 1) := by decide +kernel
theorem dC0_lambda_10 : decode cC0_lambda 10 = .ok (.ifCond .lt 20, 3) := by decide +kernel
theorem dC0_lambda_13 : decode cC0_lambda 13 = .ok (.iload_n 2, 1) := by decide +kernel
theorem dC0_lambda_14 : decode cC0_lambda 14 = .ok (.iconst 1, 1) := by decide +kernel
theorem dC0_lambda_15 : decode cC0_lambda 15 = .ok (.if_icmp .gt 15, 3) := by decide +kernel
theorem dC0_lambda_18 : decode cC0_lambda 18 = .ok (.aload_n 0, 1) := by decide +kernel
theorem dC0_lambda_19 : decode cC0_lambda 19 = .ok (.getfield 10, 3) := by decide +kernel
theorem dC0_lambda_22 : decode cC0_lambda 22 = .ok (.iload 5, 2) := by decide +kernel
theorem dC0_lambda_24 : decode cC0_lambda 24 = .ok (.invokevirtual 100, 3) := by decide +kernel
theorem dC0_lambda_27 : decode cC0_lambda 27 = .ok (.ifCond .ne 6, 3) := by decide +kernel
theorem dC0_lambda_30 : decode cC0_lambda 30 = .ok (.bipush (-2), 2) := by decide +kernel
theorem dC0_lambda_32 : decode cC0_lambda 32 = .ok (.ireturn, 1) := by decide +kernel
theorem dC0_lambda_33 : decode cC0_lambda 33 = .ok (.iload_n 1, 1) := by decide +kernel
theorem dC0_lambda_34 : decode cC0_lambda 34 = .ok (.ifCond .le 18, 3) := by decide +kernel
theorem dC0_lambda_37 : decode cC0_lambda 37 = .ok (.aload_n 0, 1) := by decide +kernel
theorem dC0_lambda_38 : decode cC0_lambda 38 = .ok (.getfield 10, 3) := by decide +kernel
theorem dC0_lambda_41 : decode cC0_lambda 41 = .ok (.iload_n 3, 1) := by decide +kernel
theorem dC0_lambda_42 : decode cC0_lambda 42 = .ok (.invokevirtual 103, 3) := by decide +kernel
theorem dC0_lambda_45 : decode cC0_lambda 45 = .ok (.ifCond .ne 7, 3) := by decide +kernel
theorem dC0_lambda_48 : decode cC0_lambda 48 = .ok (.iconst 1, 1) := by decide +kernel
theorem dC0_lambda_49 : decode cC0_lambda 49 = .ok (.goto 4, 3) := by decide +kernel
theorem dC0_lambda_52 : decode cC0_lambda 52 = .ok (.iconst 0, 1) := by decide +kernel
theorem dC0_lambda_53 : decode cC0_lambda 53 = .ok (.istore 6, 2) := by decide +kernel
theorem dC0_lambda_55 : decode cC0_lambda 55 = .ok (.iload_n 1, 1) := by decide +kernel
theorem dC0_lambda_56 : decode cC0_lambda 56 = .ok (.iconst 1, 1) := by decide +kernel
theorem dC0_lambda_57 : decode cC0_lambda 57 = .ok (.if_icmp .le 19, 3) := by decide +kernel
theorem dC0_lambda_60 : decode cC0_lambda 60 = .ok (.aload_n 0, 1) := by decide +kernel
theorem dC0_lambda_61 : decode cC0_lambda 61 = .ok (.getfield 10, 3) := by decide +kernel
theorem dC0_lambda_64 : decode cC0_lambda 64 = .ok (.iload 4, 2) := by decide +kernel
theorem dC0_lambda_66 : decode cC0_lambda 66 = .ok (.invokevirtual 103, 3) := by decide +kernel
theorem dC0_lambda_69 : decode cC0_lambda 69 = .ok (.ifCond .ne 7, 3) := by decide +kernel
theorem dC0_lambda_72 : decode cC0_lambda 72 = .ok (.iconst 1, 1) := by decide +kernel
theorem dC0_lambda_73 : decode cC0_lambda 73 = .ok (.goto 4, 3) := by decide +kernel
theorem dC0_lambda_76 : decode cC0_lambda 76 = .ok (.iconst 0, 1) := by decide +kernel
theorem dC0_lambda_77 : decode cC0_lambda 77 = .ok (.istore 7, 2) := by decide +kernel
theorem dC0_lambda_79 : decode cC0_lambda 79 = .ok (.iload_n 2, 1) := by decide +kernel
theorem dC0_lambda_80 : decode cC0_lambda 80 = .ok (.iconst 1, 1) := by decide +kernel
theorem dC0_lambda_81 : decode cC0_lambda 81 = .ok (.if_icmp .ne 16, 3) := by decide +kernel
theorem dC0_lambda_84 : decode cC0_lambda 84 = .ok (.iload 6, 2) := by decide +kernel
theorem dC0_lambda_86 : decode cC0_lambda 86 = .ok (.ifCond .ne 8, 3) := by decide +kernel
theorem dC0_lambda_89 : decode cC0_lambda 89 = .ok (.iload 7, 2) := by decide +kernel
theorem dC0_lambda_91 : decode cC0_lambda 91 = .ok (.ifCond .eq 6, 3) := by decide +kernel
theorem dC0_lambda_94 : decode cC0_lambda 94 = .ok (.bipush (-2), 2) := by decide +kernel
theorem dC0_lambda_96 : decode cC0_lambda 96 = .ok (.ireturn, 1) := by decide +kernel
theorem dC0_lambda_97 : decode cC0_lambda 97 = .ok (.aload_n 0, 1) := by decide +kernel
theorem dC0_lambda_98 : decode cC0_lambda 98 = .ok (.getfield 28, 3) := by decide +kernel
theorem dC0_lambda_101 : decode cC0_lambda 101 = .ok (.iload_n 1, 1) := by decide +kernel
theorem dC0_lambda_102 : decode cC0_lambda 102 = .ok (.iload_n 2, 1) := by decide +kernel
theorem dC0_lambda_103 : decode cC0_lambda 103 = .ok (.iconst 1, 1) := by decide +kernel
theorem dC0_lambda_104 : decode cC0_lambda 104 = .ok (.if_icmp .ne 7, 3) := by decide +kernel
theorem dC0_lambda_107 : decode cC0_lambda 107 = .ok (.iconst 1, 1) := by decide +kernel
theorem dC0_lambda_108 : decode cC0_lambda 108 = .ok (.goto 4, 3) := by decide +kernel
theorem dC0_lambda_111 : decode cC0_lambda 111 = .ok (.iconst 0, 1) := by decide +kernel
theorem dC0_lambda_112 : decode cC0_lambda 112 = .ok (.iload_n 3, 1) := by decide +kernel
theorem dC0_lambda_113 : decode cC0_lambda 113 = .ok (.iload 4, 2) := by decide +kernel
theorem dC0_lambda_115 : decode cC0_lambda 115 = .ok (.iload 5, 2) := by decide +kernel
theorem dC0_lambda_117 : decode cC0_lambda 117 = .ok (.invokevirtual 106, 3) := by decide +kernel
theorem dC0_lambda_120 : decode cC0_lambda 120 = .ok (.ireturn, 1) := by decide +kernel
theorem dC3_clear_0 : decode cC3_clear 0 = .ok (.aload_n 0, 1) := by decide +kernel
theorem dC3_clear_1 : decode cC3_clear 1 = .ok (.getfield 28, 3) := by decide +kernel
theorem dC3_clear_4 : decode cC3_clear 4 = .ok (.istore_n 1, 1) := by decide +kernel
theorem dC3_clear_5 : decode cC3_clear 5 = .ok (.aload_n 0, 1) := by decide +kernel
theorem dC3_clear_6 : decode cC3_clear 6 = .ok (.iconst 0, 1) := by decide +kernel
theorem dC3_clear_7 : decode cC3_clear 7 = .ok (.putfield 28, 3) := by decide +kernel
theorem dC3_clear_10 : decode cC3_clear 10 = .ok (.iload_n 1, 1) := by decide +kernel
theorem dC3_clear_11 : decode cC3_clear 11 = .ok (.ireturn, 1) := by decide +kernel
theorem dC0_wipe_0 : decode cC0_wipe 0 = .ok (.aload_n 0, 1) := by decide +kernel
theorem dC0_wipe_1 : decode cC0_wipe 1 = .ok (.getfield 28, 3) := by decide +kernel
theorem dC0_wipe_4 : decode cC0_wipe 4 = .ok (.invokevirtual 110, 3) := by decide +kernel
theorem dC0_wipe_7 : decode cC0_wipe 7 = .ok (.ireturn, 1) := by decide +kernel
theorem dC4_forget_0 : decode cC4_forget 0 = .ok (.aload_n 0, 1) := by decide +kernel
theorem dC4_forget_1 : decode cC4_forget 1 = .ok (.iconst 0, 1) := by decide +kernel
theorem dC4_forget_2 : decode cC4_forget 2 = .ok (.putfield 36, 3) := by decide +kernel
theorem dC4_forget_5 : decode cC4_forget 5 = .ok (.aload_n 0, 1) := by decide +kernel
theorem dC4_forget_6 : decode cC4_forget 6 = .ok (.iconst 0, 1) := by decide +kernel
theorem dC4_forget_7 : decode cC4_forget 7 = .ok (.putfield 40, 3) := by decide +kernel
theorem dC4_forget_10 : decode cC4_forget 10 = .ok (.aload_n 0, 1) := by decide +kernel
theorem dC4_forget_11 : decode cC4_forget 11 = .ok (.lconst 0, 1) := by decide +kernel
theorem dC4_forget_12 : decode cC4_forget 12 = .ok (.putfield 47, 3) := by decide +kernel
theorem dC4_forget_15 : decode cC4_forget 15 = .ok (.return_, 1) := by decide +kernel
theorem dC2_widthOf_0 : decode cC2_widthOf 0 = .ok (.aload_n 0, 1) := by decide +kernel
theorem dC2_widthOf_1 : decode cC2_widthOf 1 = .ok (.getfield 28, 3) := by decide +kernel
theorem dC2_widthOf_4 : decode cC2_widthOf 4 = .ok (.iload_n 1, 1) := by decide +kernel
theorem dC2_widthOf_5 : decode cC2_widthOf 5 = .ok (.iaload, 1) := by decide +kernel
theorem dC2_widthOf_6 : decode cC2_widthOf 6 = .ok (.ireturn, 1) := by decide +kernel
theorem dC3_size_0 : decode cC3_size 0 = .ok (.aload_n 0, 1) := by decide +kernel
theorem dC3_size_1 : decode cC3_size 1 = .ok (.getfield 28, 3) := by decide +kernel
theorem dC3_size_4 : decode cC3_size 4 = .ok (.ireturn, 1) := by decide +kernel
theorem dC3_isLambda_0 : decode cC3_isLambda 0 = .ok (.aload_n 0, 1) := by decide +kernel
theorem dC3_isLambda_1 : decode cC3_isLambda 1 = .ok (.getfield 11, 3) := by decide +kernel
theorem dC3_isLambda_4 : decode cC3_isLambda 4 = .ok (.iload_n 1, 1) := by decide +kernel
theorem dC3_isLambda_5 : decode cC3_isLambda 5 = .ok (.baload, 1) := by decide +kernel
theorem dC3_isLambda_6 : decode cC3_isLambda 6 = .ok (.ireturn, 1) := by decide +kernel
theorem dC1_elementOf_0 : decode cC1_elementOf 0 = .ok (.iload_n 1, 1) := by decide +kernel
theorem dC1_elementOf_1 : decode cC1_elementOf 1 = .ok (.bipush 64, 2) := by decide +kernel
theorem dC1_elementOf_3 : decode cC1_elementOf 3 = .ok (.if_icmp .lt 10, 3) := by decide +kernel
theorem dC1_elementOf_6 : decode cC1_elementOf 6 = .ok (.iload_n 1, 1) := by decide +kernel
theorem dC1_elementOf_7 : decode cC1_elementOf 7 = .ok (.bipush 64, 2) := by decide +kernel
theorem dC1_elementOf_9 : decode cC1_elementOf 9 = .ok (.isub, 1) := by decide +kernel
theorem dC1_elementOf_10 : decode cC1_elementOf 10 = .ok (.goto 4, 3) := by decide +kernel
theorem dC1_elementOf_13 : decode cC1_elementOf 13 = .ok (.iconst (-1), 1) := by decide +kernel
theorem dC1_elementOf_14 : decode cC1_elementOf 14 = .ok (.ireturn, 1) := by decide +kernel
theorem dC2_facing_0 : decode cC2_facing 0 = .ok (.aload_n 0, 1) := by decide +kernel
theorem dC2_facing_1 : decode cC2_facing 1 = .ok (.getfield 28, 3) := by decide +kernel
theorem dC2_facing_4 : decode cC2_facing 4 = .ok (.iload_n 1, 1) := by decide +kernel
theorem dC2_facing_5 : decode cC2_facing 5 = .ok (.iaload, 1) := by decide +kernel
theorem dC2_facing_6 : decode cC2_facing 6 = .ok (.iconst 1, 1) := by decide +kernel
theorem dC2_facing_7 : decode cC2_facing 7 = .ok (.isub, 1) := by decide +kernel
theorem dC2_facing_8 : decode cC2_facing 8 = .ok (.istore 4, 2) := by decide +kernel
theorem dC2_facing_10 : decode cC2_facing 10 = .ok (.iload_n 3, 1) := by decide +kernel
theorem dC2_facing_11 : decode cC2_facing 11 = .ok (.ifCond .eq 26, 3) := by decide +kernel
theorem dC2_facing_14 : decode cC2_facing 14 = .ok (.iload_n 2, 1) := by decide +kernel
theorem dC2_facing_15 : decode cC2_facing 15 = .ok (.iload 4, 2) := by decide +kernel
theorem dC2_facing_17 : decode cC2_facing 17 = .ok (.if_icmp .lt 20, 3) := by decide +kernel
theorem dC2_facing_20 : decode cC2_facing 20 = .ok (.aload_n 0, 1) := by decide +kernel
theorem dC2_facing_21 : decode cC2_facing 21 = .ok (.getfield 9, 3) := by decide +kernel
theorem dC2_facing_24 : decode cC2_facing 24 = .ok (.aload_n 0, 1) := by decide +kernel
theorem dC2_facing_25 : decode cC2_facing 25 = .ok (.iload_n 1, 1) := by decide +kernel
theorem dC2_facing_26 : decode cC2_facing 26 = .ok (.iload 4, 2) := by decide +kernel
theorem dC2_facing_28 : decode cC2_facing 28 = .ok (.invokevirtual 83, 3) := by decide +kernel
theorem dC2_facing_31 : decode cC2_facing 31 = .ok (.invokevirtual 100, 3) := by decide +kernel
theorem dC2_facing_34 : decode cC2_facing 34 = .ok (.goto 9, 3) := by decide +kernel
theorem dC2_facing_37 : decode cC2_facing 37 = .ok (.aload_n 0, 1) := by decide +kernel
theorem dC2_facing_38 : decode cC2_facing 38 = .ok (.iload_n 1, 1) := by decide +kernel
theorem dC2_facing_39 : decode cC2_facing 39 = .ok (.iload_n 2, 1) := by decide +kernel
theorem dC2_facing_40 : decode cC2_facing 40 = .ok (.invokevirtual 83, 3) := by decide +kernel
theorem dC2_facing_43 : decode cC2_facing 43 = .ok (.ireturn, 1) := by decide +kernel
theorem dC3_widthOf_0 : decode cC3_widthOf 0 = .ok (.aload_n 0, 1) := by decide +kernel
theorem dC3_widthOf_1 : decode cC3_widthOf 1 = .ok (.getfield 22, 3) := by decide +kernel
theorem dC3_widthOf_4 : decode cC3_widthOf 4 = .ok (.iload_n 1, 1) := by decide +kernel
theorem dC3_widthOf_5 : decode cC3_widthOf 5 = .ok (.iaload, 1) := by decide +kernel
theorem dC3_widthOf_6 : decode cC3_widthOf 6 = .ok (.ireturn, 1) := by decide +kernel
theorem dC2_hasResult_0 : decode cC2_hasResult 0 = .ok (.aload_n 0, 1) := by decide +kernel
theorem dC2_hasResult_1 : decode cC2_hasResult 1 = .ok (.getfield 25, 3) := by decide +kernel
theorem dC2_hasResult_4 : decode cC2_hasResult 4 = .ok (.iload_n 1, 1) := by decide +kernel
theorem dC2_hasResult_5 : decode cC2_hasResult 5 = .ok (.iaload, 1) := by decide +kernel
theorem dC2_hasResult_6 : decode cC2_hasResult 6 = .ok (.iconst (-1), 1) := by decide +kernel
theorem dC2_hasResult_7 : decode cC2_hasResult 7 = .ok (.if_icmp .eq 7, 3) := by decide +kernel
theorem dC2_hasResult_10 : decode cC2_hasResult 10 = .ok (.iconst 1, 1) := by decide +kernel
theorem dC2_hasResult_11 : decode cC2_hasResult 11 = .ok (.goto 4, 3) := by decide +kernel
theorem dC2_hasResult_14 : decode cC2_hasResult 14 = .ok (.iconst 0, 1) := by decide +kernel
theorem dC2_hasResult_15 : decode cC2_hasResult 15 = .ok (.ireturn, 1) := by decide +kernel
theorem dC3_hasResult_0 : decode cC3_hasResult 0 = .ok (.aload_n 0, 1) := by decide +kernel
theorem dC3_hasResult_1 : decode cC3_hasResult 1 = .ok (.getfield 18, 3) := by decide +kernel
theorem dC3_hasResult_4 : decode cC3_hasResult 4 = .ok (.iload_n 1, 1) := by decide +kernel
theorem dC3_hasResult_5 : decode cC3_hasResult 5 = .ok (.iaload, 1) := by decide +kernel
theorem dC3_hasResult_6 : decode cC3_hasResult 6 = .ok (.iconst (-1), 1) := by decide +kernel
theorem dC3_hasResult_7 : decode cC3_hasResult 7 = .ok (.if_icmp .eq 7, 3) := by decide +kernel
theorem dC3_hasResult_10 : decode cC3_hasResult 10 = .ok (.iconst 1, 1) := by decide +kernel
theorem dC3_hasResult_11 : decode cC3_hasResult 11 = .ok (.goto 4, 3) := by decide +kernel
theorem dC3_hasResult_14 : decode cC3_hasResult 14 = .ok (.iconst 0, 1) := by decide +kernel
theorem dC3_hasResult_15 : decode cC3_hasResult 15 = .ok (.ireturn, 1) := by decide +kernel
theorem dC4_hasShape_0 : decode cC4_hasShape 0 = .ok (.aload_n 0, 1) := by decide +kernel
theorem dC4_hasShape_1 : decode cC4_hasShape 1 = .ok (.getfield 15, 3) := by decide +kernel
theorem dC4_hasShape_4 : decode cC4_hasShape 4 = .ok (.iload_n 1, 1) := by decide +kernel
theorem dC4_hasShape_5 : decode cC4_hasShape 5 = .ok (.invokevirtual 116, 3) := by decide +kernel
theorem dC4_hasShape_8 : decode cC4_hasShape 8 = .ok (.istore_n 3, 1) := by decide +kernel
theorem dC4_hasShape_9 : decode cC4_hasShape 9 = .ok (.iload_n 3, 1) := by decide +kernel
theorem dC4_hasShape_10 : decode cC4_hasShape 10 = .ok (.iconst (-1), 1) := by decide +kernel
theorem dC4_hasShape_11 : decode cC4_hasShape 11 = .ok (.if_icmp .ne 5, 3) := by decide +kernel
theorem dC4_hasShape_14 : decode cC4_hasShape 14 = .ok (.iconst 0, 1) := by decide +kernel
theorem dC4_hasShape_15 : decode cC4_hasShape 15 = .ok (.ireturn, 1) := by decide +kernel
theorem dC4_hasShape_16 : decode cC4_hasShape 16 = .ok (.aload_n 0, 1) := by decide +kernel
theorem dC4_hasShape_17 : decode cC4_hasShape 17 = .ok (.getfield 15, 3) := by decide +kernel
theorem dC4_hasShape_20 : decode cC4_hasShape 20 = .ok (.iload_n 3, 1) := by decide +kernel
theorem dC4_hasShape_21 : decode cC4_hasShape 21 = .ok (.invokevirtual 97, 3) := by decide +kernel
theorem dC4_hasShape_24 : decode cC4_hasShape 24 = .ok (.aload_n 0, 1) := by decide +kernel
theorem dC4_hasShape_25 : decode cC4_hasShape 25 = .ok (.getfield 19, 3) := by decide +kernel
theorem dC4_hasShape_28 : decode cC4_hasShape 28 = .ok (.iload_n 2, 1) := by decide +kernel
theorem dC4_hasShape_29 : decode cC4_hasShape 29 = .ok (.invokevirtual 119, 3) := by decide +kernel
theorem dC4_hasShape_32 : decode cC4_hasShape 32 = .ok (.if_icmp .ne 26, 3) := by decide +kernel
theorem dC4_hasShape_35 : decode cC4_hasShape 35 = .ok (.aload_n 0, 1) := by decide +kernel
theorem dC4_hasShape_36 : decode cC4_hasShape 36 = .ok (.getfield 15, 3) := by decide +kernel
theorem dC4_hasShape_39 : decode cC4_hasShape 39 = .ok (.iload_n 3, 1) := by decide +kernel
theorem dC4_hasShape_40 : decode cC4_hasShape 40 = .ok (.invokevirtual 120, 3) := by decide +kernel
theorem dC4_hasShape_43 : decode cC4_hasShape 43 = .ok (.aload_n 0, 1) := by decide +kernel
theorem dC4_hasShape_44 : decode cC4_hasShape 44 = .ok (.getfield 19, 3) := by decide +kernel
theorem dC4_hasShape_47 : decode cC4_hasShape 47 = .ok (.iload_n 2, 1) := by decide +kernel
theorem dC4_hasShape_48 : decode cC4_hasShape 48 = .ok (.invokevirtual 123, 3) := by decide +kernel
theorem dC4_hasShape_51 : decode cC4_hasShape 51 = .ok (.if_icmp .ne 7, 3) := by decide +kernel
theorem dC4_hasShape_54 : decode cC4_hasShape 54 = .ok (.iconst 1, 1) := by decide +kernel
theorem dC4_hasShape_55 : decode cC4_hasShape 55 = .ok (.goto 4, 3) := by decide +kernel
theorem dC4_hasShape_58 : decode cC4_hasShape 58 = .ok (.iconst 0, 1) := by decide +kernel
theorem dC4_hasShape_59 : decode cC4_hasShape 59 = .ok (.ireturn, 1) := by decide +kernel
theorem dC4_couldBeMeant_0 : decode cC4_couldBeMeant 0 = .ok (.aload_n 0, 1) := by decide +kernel
theorem dC4_couldBeMeant_1 : decode cC4_couldBeMeant 1 = .ok (.getfield 15, 3) := by decide +kernel
theorem dC4_couldBeMeant_4 : decode cC4_couldBeMeant 4 = .ok (.iload_n 1, 1) := by decide +kernel
theorem dC4_couldBeMeant_5 : decode cC4_couldBeMeant 5 = .ok (.invokevirtual 94, 3) := by decide +kernel
theorem dC4_couldBeMeant_8 : decode cC4_couldBeMeant 8 = .ok (.istore_n 2, 1) := by decide +kernel
theorem dC4_couldBeMeant_9 : decode cC4_couldBeMeant 9 = .ok (.aload_n 0, 1) := by decide +kernel
theorem dC4_couldBeMeant_10 : decode cC4_couldBeMeant 10 = .ok (.getfield 15, 3) := by decide +kernel
theorem dC4_couldBeMeant_13 : decode cC4_couldBeMeant 13 = .ok (.iload_n 1, 1) := by decide +kernel
theorem dC4_couldBeMeant_14 : decode cC4_couldBeMeant 14 = .ok (.invokevirtual 97, 3) := by decide +kernel
theorem dC4_couldBeMeant_17 : decode cC4_couldBeMeant 17 = .ok (.istore_n 3, 1) := by decide +kernel
theorem dC4_couldBeMeant_18 : decode cC4_couldBeMeant 18 = .ok (.iload_n 3, 1) := by decide +kernel
theorem dC4_couldBeMeant_19 : decode cC4_couldBeMeant 19 = .ok (.aload_n 0, 1) := by decide +kernel
theorem dC4_couldBeMeant_20 : decode cC4_couldBeMeant 20 = .ok (.getfield 19, 3) := by decide +kernel
theorem dC4_couldBeMeant_23 : decode cC4_couldBeMeant 23 = .ok (.invokevirtual 101, 3) := by decide +kernel
theorem dC4_couldBeMeant_26 : decode cC4_couldBeMeant 26 = .ok (.if_icmp .eq 22, 3) := by decide +kernel
theorem dC4_couldBeMeant_29 : decode cC4_couldBeMeant 29 = .ok (.iload_n 2, 1) := by decide +kernel
theorem dC4_couldBeMeant_30 : decode cC4_couldBeMeant 30 = .ok (.ifCond .eq 16, 3) := by decide +kernel
theorem dC4_couldBeMeant_33 : decode cC4_couldBeMeant 33 = .ok (.iload_n 3, 1) := by decide +kernel
theorem dC4_couldBeMeant_34 : decode cC4_couldBeMeant 34 = .ok (.aload_n 0, 1) := by decide +kernel
theorem dC4_couldBeMeant_35 : decode cC4_couldBeMeant 35 = .ok (.getfield 19, 3) := by decide +kernel
theorem dC4_couldBeMeant_38 : decode cC4_couldBeMeant 38 = .ok (.invokevirtual 101, 3) := by decide +kernel
theorem dC4_couldBeMeant_41 : decode cC4_couldBeMeant 41 = .ok (.iconst 1, 1) := by decide +kernel
theorem dC4_couldBeMeant_42 : decode cC4_couldBeMeant 42 = .ok (.iadd, 1) := by decide +kernel
theorem dC4_couldBeMeant_43 : decode cC4_couldBeMeant 43 = .ok (.if_icmp .le 5, 3) := by decide +kernel
theorem dC4_couldBeMeant_46 : decode cC4_couldBeMeant 46 = .ok (.iconst 0, 1) := by decide +kernel
theorem dC4_couldBeMeant_47 : decode cC4_couldBeMeant 47 = .ok (.ireturn, 1) := by decide +kernel
theorem dC4_couldBeMeant_48 : decode cC4_couldBeMeant 48 = .ok (.iconst 0, 1) := by decide +kernel
theorem dC4_couldBeMeant_49 : decode cC4_couldBeMeant 49 = .ok (.istore 4, 2) := by decide +kernel
theorem dC4_couldBeMeant_51 : decode cC4_couldBeMeant 51 = .ok (.iload 4, 2) := by decide +kernel
theorem dC4_couldBeMeant_53 : decode cC4_couldBeMeant 53 = .ok (.aload_n 0, 1) := by decide +kernel
theorem dC4_couldBeMeant_54 : decode cC4_couldBeMeant 54 = .ok (.getfield 19, 3) := by decide +kernel
theorem dC4_couldBeMeant_57 : decode cC4_couldBeMeant 57 = .ok (.invokevirtual 101, 3) := by decide +kernel
theorem dC4_couldBeMeant_60 : decode cC4_couldBeMeant 60 = .ok (.if_icmp .ge 43, 3) := by decide +kernel
theorem dC4_couldBeMeant_63 : decode cC4_couldBeMeant 63 = .ok (.aload_n 0, 1) := by decide +kernel
theorem dC4_couldBeMeant_64 : decode cC4_couldBeMeant 64 = .ok (.getfield 19, 3) := by decide +kernel
theorem dC4_couldBeMeant_67 : decode cC4_couldBeMeant 67 = .ok (.iload 4, 2) := by decide +kernel
theorem dC4_couldBeMeant_69 : decode cC4_couldBeMeant 69 = .ok (.invokevirtual 106, 3) := by decide +kernel
theorem dC4_couldBeMeant_72 : decode cC4_couldBeMeant 72 = .ok (.ifCond .eq 25, 3) := by decide +kernel
theorem dC4_couldBeMeant_75 : decode cC4_couldBeMeant 75 = .ok (.aload_n 0, 1) := by decide +kernel
theorem dC4_couldBeMeant_76 : decode cC4_couldBeMeant 76 = .ok (.aload_n 0, 1) := by decide +kernel
theorem dC4_couldBeMeant_77 : decode cC4_couldBeMeant 77 = .ok (.getfield 15, 3) := by decide +kernel
theorem dC4_couldBeMeant_80 : decode cC4_couldBeMeant 80 = .ok (.iload_n 1, 1) := by decide +kernel
theorem dC4_couldBeMeant_81 : decode cC4_couldBeMeant 81 = .ok (.iload 4, 2) := by decide +kernel
theorem dC4_couldBeMeant_83 : decode cC4_couldBeMeant 83 = .ok (.iload_n 2, 1) := by decide +kernel
theorem dC4_couldBeMeant_84 : decode cC4_couldBeMeant 84 = .ok (.invokevirtual 109, 3) := by decide +kernel
theorem dC4_couldBeMeant_87 : decode cC4_couldBeMeant 87 = .ok (.iload 4, 2) := by decide +kernel
theorem dC4_couldBeMeant_89 : decode cC4_couldBeMeant 89 = .ok (.invokevirtual 113, 3) := by decide +kernel
theorem dC4_couldBeMeant_92 : decode cC4_couldBeMeant 92 = .ok (.ifCond .ne 5, 3) := by decide +kernel
theorem dC4_couldBeMeant_95 : decode cC4_couldBeMeant 95 = .ok (.iconst 0, 1) := by decide +kernel
theorem dC4_couldBeMeant_96 : decode cC4_couldBeMeant 96 = .ok (.ireturn, 1) := by decide +kernel
theorem dC4_couldBeMeant_97 : decode cC4_couldBeMeant 97 = .ok (.iinc 4 1, 3) := by decide +kernel
theorem dC4_couldBeMeant_100 : decode cC4_couldBeMeant 100 = .ok (.goto (-49), 3) := by decide +kernel
theorem dC4_couldBeMeant_103 : decode cC4_couldBeMeant 103 = .ok (.iconst 1, 1) := by decide +kernel
theorem dC4_couldBeMeant_104 : decode cC4_couldBeMeant 104 = .ok (.ireturn, 1) := by decide +kernel
theorem dC4_keepMeant_0 : decode cC4_keepMeant 0 = .ok (.iconst 0, 1) := by decide +kernel
theorem dC4_keepMeant_1 : decode cC4_keepMeant 1 = .ok (.istore_n 1, 1) := by decide +kernel
theorem dC4_keepMeant_2 : decode cC4_keepMeant 2 = .ok (.iconst 0, 1) := by decide +kernel
theorem dC4_keepMeant_3 : decode cC4_keepMeant 3 = .ok (.istore_n 2, 1) := by decide +kernel
theorem dC4_keepMeant_4 : decode cC4_keepMeant 4 = .ok (.iload_n 2, 1) := by decide +kernel
theorem dC4_keepMeant_5 : decode cC4_keepMeant 5 = .ok (.aload_n 0, 1) := by decide +kernel
theorem dC4_keepMeant_6 : decode cC4_keepMeant 6 = .ok (.getfield 61, 3) := by decide +kernel
theorem dC4_keepMeant_9 : decode cC4_keepMeant 9 = .ok (.if_icmp .ge 37, 3) := by decide +kernel
theorem dC4_keepMeant_12 : decode cC4_keepMeant 12 = .ok (.aload_n 0, 1) := by decide +kernel
theorem dC4_keepMeant_13 : decode cC4_keepMeant 13 = .ok (.aload_n 0, 1) := by decide +kernel
theorem dC4_keepMeant_14 : decode cC4_keepMeant 14 = .ok (.getfield 25, 3) := by decide +kernel
theorem dC4_keepMeant_17 : decode cC4_keepMeant 17 = .ok (.iload_n 2, 1) := by decide +kernel
theorem dC4_keepMeant_18 : decode cC4_keepMeant 18 = .ok (.iaload, 1) := by decide +kernel
theorem dC4_keepMeant_19 : decode cC4_keepMeant 19 = .ok (.invokevirtual 78, 3) := by decide +kernel
theorem dC4_keepMeant_22 : decode cC4_keepMeant 22 = .ok (.ifCond .eq 18, 3) := by decide +kernel
theorem dC4_keepMeant_25 : decode cC4_keepMeant 25 = .ok (.aload_n 0, 1) := by decide +kernel
theorem dC4_keepMeant_26 : decode cC4_keepMeant 26 = .ok (.getfield 25, 3) := by decide +kernel
theorem dC4_keepMeant_29 : decode cC4_keepMeant 29 = .ok (.iload_n 1, 1) := by decide +kernel
theorem dC4_keepMeant_30 : decode cC4_keepMeant 30 = .ok (.aload_n 0, 1) := by decide +kernel
theorem dC4_keepMeant_31 : decode cC4_keepMeant 31 = .ok (.getfield 25, 3) := by decide +kernel
theorem dC4_keepMeant_34 : decode cC4_keepMeant 34 = .ok (.iload_n 2, 1) := by decide +kernel
theorem dC4_keepMeant_35 : decode cC4_keepMeant 35 = .ok (.iaload, 1) := by decide +kernel
theorem dC4_keepMeant_36 : decode cC4_keepMeant 36 = .ok (.iastore, 1) := by decide +kernel
theorem dC4_keepMeant_37 : decode cC4_keepMeant 37 = .ok (.iinc 1 1, 3) := by decide +kernel
theorem dC4_keepMeant_40 : decode cC4_keepMeant 40 = .ok (.iinc 2 1, 3) := by decide +kernel
theorem dC4_keepMeant_43 : decode cC4_keepMeant 43 = .ok (.goto (-39), 3) := by decide +kernel
theorem dC4_keepMeant_46 : decode cC4_keepMeant 46 = .ok (.aload_n 0, 1) := by decide +kernel
theorem dC4_keepMeant_47 : decode cC4_keepMeant 47 = .ok (.iload_n 1, 1) := by decide +kernel
theorem dC4_keepMeant_48 : decode cC4_keepMeant 48 = .ok (.putfield 61, 3) := by decide +kernel
theorem dC4_keepMeant_51 : decode cC4_keepMeant 51 = .ok (.return_, 1) := by decide +kernel
theorem dC2_spreadType_0 : decode cC2_spreadType 0 = .ok (.aload_n 0, 1) := by decide +kernel
theorem dC2_spreadType_1 : decode cC2_spreadType 1 = .ok (.iload_n 1, 1) := by decide +kernel
theorem dC2_spreadType_2 : decode cC2_spreadType 2 = .ok (.aload_n 0, 1) := by decide +kernel
end
section
theorem dC2_spreadType_3 : decode cC2_spreadType 3 = .ok (.getfield 28, 3) := by decide +kernel
theorem dC2_spreadType_6 : decode cC2_spreadType 6 = .ok (.iload_n 1, 1) := by decide +kernel
theorem dC2_spreadType_7 : decode cC2_spreadType 7 = .ok (.iaload, 1) := by decide +kernel
theorem dC2_spreadType_8 : decode cC2_spreadType 8 = .ok (.iconst 1, 1) := by decide +kernel
theorem dC2_spreadType_9 : decode cC2_spreadType 9 = .ok (.isub, 1) := by decide +kernel
theorem dC2_spreadType_10 : decode cC2_spreadType 10 = .ok (.iconst 1, 1) := by decide +kernel
theorem dC2_spreadType_11 : decode cC2_spreadType 11 = .ok (.invokevirtual 104, 3) := by decide +kernel
theorem dC2_spreadType_14 : decode cC2_spreadType 14 = .ok (.ireturn, 1) := by decide +kernel
theorem dC3_isToldLambda_0 : decode cC3_isToldLambda 0 = .ok (.aload_n 0, 1) := by decide +kernel
theorem dC3_isToldLambda_1 : decode cC3_isToldLambda 1 = .ok (.getfield 11, 3) := by decide +kernel
theorem dC3_isToldLambda_4 : decode cC3_isToldLambda 4 = .ok (.iload_n 1, 1) := by decide +kernel
theorem dC3_isToldLambda_5 : decode cC3_isToldLambda 5 = .ok (.baload, 1) := by decide +kernel
theorem dC3_isToldLambda_6 : decode cC3_isToldLambda 6 = .ok (.ifCond .eq 16, 3) := by decide +kernel
theorem dC3_isToldLambda_9 : decode cC3_isToldLambda 9 = .ok (.aload_n 0, 1) := by decide +kernel
theorem dC3_isToldLambda_10 : decode cC3_isToldLambda 10 = .ok (.getfield 15, 3) := by decide +kernel
theorem dC3_isToldLambda_13 : decode cC3_isToldLambda 13 = .ok (.iload_n 1, 1) := by decide +kernel
theorem dC3_isToldLambda_14 : decode cC3_isToldLambda 14 = .ok (.baload, 1) := by decide +kernel
theorem dC3_isToldLambda_15 : decode cC3_isToldLambda 15 = .ok (.ifCond .eq 7, 3) := by decide +kernel
theorem dC3_isToldLambda_18 : decode cC3_isToldLambda 18 = .ok (.iconst 1, 1) := by decide +kernel
theorem dC3_isToldLambda_19 : decode cC3_isToldLambda 19 = .ok (.goto 4, 3) := by decide +kernel
theorem dC3_isToldLambda_22 : decode cC3_isToldLambda 22 = .ok (.iconst 0, 1) := by decide +kernel
theorem dC3_isToldLambda_23 : decode cC3_isToldLambda 23 = .ok (.ireturn, 1) := by decide +kernel
theorem dC3_valueOf_0 : decode cC3_valueOf 0 = .ok (.aload_n 0, 1) := by decide +kernel
theorem dC3_valueOf_1 : decode cC3_valueOf 1 = .ok (.getfield 18, 3) := by decide +kernel
theorem dC3_valueOf_4 : decode cC3_valueOf 4 = .ok (.iload_n 1, 1) := by decide +kernel
theorem dC3_valueOf_5 : decode cC3_valueOf 5 = .ok (.iaload, 1) := by decide +kernel
theorem dC3_valueOf_6 : decode cC3_valueOf 6 = .ok (.ireturn, 1) := by decide +kernel
theorem dC2_resultOf_0 : decode cC2_resultOf 0 = .ok (.aload_n 0, 1) := by decide +kernel
theorem dC2_resultOf_1 : decode cC2_resultOf 1 = .ok (.getfield 25, 3) := by decide +kernel
theorem dC2_resultOf_4 : decode cC2_resultOf 4 = .ok (.iload_n 1, 1) := by decide +kernel
theorem dC2_resultOf_5 : decode cC2_resultOf 5 = .ok (.iaload, 1) := by decide +kernel
theorem dC2_resultOf_6 : decode cC2_resultOf 6 = .ok (.ireturn, 1) := by decide +kernel
theorem dC1_isReference_0 : decode cC1_isReference 0 = .ok (.iload_n 1, 1) := by decide +kernel
theorem dC1_isReference_1 : decode cC1_isReference 1 = .ok (.iconst 3, 1) := by decide +kernel
theorem dC1_isReference_2 : decode cC1_isReference 2 = .ok (.if_icmp .le 7, 3) := by decide +kernel
theorem dC1_isReference_5 : decode cC1_isReference 5 = .ok (.iconst 1, 1) := by decide +kernel
theorem dC1_isReference_6 : decode cC1_isReference 6 = .ok (.goto 4, 3) := by decide +kernel
theorem dC1_isReference_9 : decode cC1_isReference 9 = .ok (.iconst 0, 1) := by decide +kernel
theorem dC1_isReference_10 : decode cC1_isReference 10 = .ok (.ireturn, 1) := by decide +kernel
theorem dC4_isFinerResult_0 : decode cC4_isFinerResult 0 = .ok (.aload_n 0, 1) := by decide +kernel
theorem dC4_isFinerResult_1 : decode cC4_isFinerResult 1 = .ok (.getfield 15, 3) := by decide +kernel
theorem dC4_isFinerResult_4 : decode cC4_isFinerResult 4 = .ok (.iload_n 1, 1) := by decide +kernel
theorem dC4_isFinerResult_5 : decode cC4_isFinerResult 5 = .ok (.invokevirtual 147, 3) := by decide +kernel
theorem dC4_isFinerResult_8 : decode cC4_isFinerResult 8 = .ok (.istore 4, 2) := by decide +kernel
theorem dC4_isFinerResult_10 : decode cC4_isFinerResult 10 = .ok (.aload_n 0, 1) := by decide +kernel
theorem dC4_isFinerResult_11 : decode cC4_isFinerResult 11 = .ok (.getfield 15, 3) := by decide +kernel
theorem dC4_isFinerResult_14 : decode cC4_isFinerResult 14 = .ok (.iload_n 2, 1) := by decide +kernel
theorem dC4_isFinerResult_15 : decode cC4_isFinerResult 15 = .ok (.invokevirtual 147, 3) := by decide +kernel
theorem dC4_isFinerResult_18 : decode cC4_isFinerResult 18 = .ok (.istore 5, 2) := by decide +kernel
theorem dC4_isFinerResult_20 : decode cC4_isFinerResult 20 = .ok (.aload_n 0, 1) := by decide +kernel
theorem dC4_isFinerResult_21 : decode cC4_isFinerResult 21 = .ok (.getfield 9, 3) := by decide +kernel
theorem dC4_isFinerResult_24 : decode cC4_isFinerResult 24 = .ok (.iload 4, 2) := by decide +kernel
theorem dC4_isFinerResult_26 : decode cC4_isFinerResult 26 = .ok (.invokevirtual 163, 3) := by decide +kernel
theorem dC4_isFinerResult_29 : decode cC4_isFinerResult 29 = .ok (.ifCond .eq 24, 3) := by decide +kernel
theorem dC4_isFinerResult_32 : decode cC4_isFinerResult 32 = .ok (.aload_n 0, 1) := by decide +kernel
theorem dC4_isFinerResult_33 : decode cC4_isFinerResult 33 = .ok (.getfield 9, 3) := by decide +kernel
theorem dC4_isFinerResult_36 : decode cC4_isFinerResult 36 = .ok (.iload 5, 2) := by decide +kernel
theorem dC4_isFinerResult_38 : decode cC4_isFinerResult 38 = .ok (.invokevirtual 166, 3) := by decide +kernel
theorem dC4_isFinerResult_41 : decode cC4_isFinerResult 41 = .ok (.ifCond .eq 12, 3) := by decide +kernel
theorem dC4_isFinerResult_44 : decode cC4_isFinerResult 44 = .ok (.aload_n 0, 1) := by decide +kernel
theorem dC4_isFinerResult_45 : decode cC4_isFinerResult 45 = .ok (.getfield 9, 3) := by decide +kernel
theorem dC4_isFinerResult_48 : decode cC4_isFinerResult 48 = .ok (.iload_n 3, 1) := by decide +kernel
theorem dC4_isFinerResult_49 : decode cC4_isFinerResult 49 = .ok (.invokevirtual 163, 3) := by decide +kernel
theorem dC4_isFinerResult_52 : decode cC4_isFinerResult 52 = .ok (.ireturn, 1) := by decide +kernel
theorem dC4_isFinerResult_53 : decode cC4_isFinerResult 53 = .ok (.aload_n 0, 1) := by decide +kernel
theorem dC4_isFinerResult_54 : decode cC4_isFinerResult 54 = .ok (.getfield 9, 3) := by decide +kernel
theorem dC4_isFinerResult_57 : decode cC4_isFinerResult 57 = .ok (.iload 4, 2) := by decide +kernel
theorem dC4_isFinerResult_59 : decode cC4_isFinerResult 59 = .ok (.invokevirtual 166, 3) := by decide +kernel
theorem dC4_isFinerResult_62 : decode cC4_isFinerResult 62 = .ok (.ifCond .eq 24, 3) := by decide +kernel
theorem dC4_isFinerResult_65 : decode cC4_isFinerResult 65 = .ok (.aload_n 0, 1) := by decide +kernel
theorem dC4_isFinerResult_66 : decode cC4_isFinerResult 66 = .ok (.getfield 9, 3) := by decide +kernel
theorem dC4_isFinerResult_69 : decode cC4_isFinerResult 69 = .ok (.iload 5, 2) := by decide +kernel
theorem dC4_isFinerResult_71 : decode cC4_isFinerResult 71 = .ok (.invokevirtual 163, 3) := by decide +kernel
theorem dC4_isFinerResult_74 : decode cC4_isFinerResult 74 = .ok (.ifCond .eq 12, 3) := by decide +kernel
theorem dC4_isFinerResult_77 : decode cC4_isFinerResult 77 = .ok (.aload_n 0, 1) := by decide +kernel
theorem dC4_isFinerResult_78 : decode cC4_isFinerResult 78 = .ok (.getfield 9, 3) := by decide +kernel
theorem dC4_isFinerResult_81 : decode cC4_isFinerResult 81 = .ok (.iload_n 3, 1) := by decide +kernel
theorem dC4_isFinerResult_82 : decode cC4_isFinerResult 82 = .ok (.invokevirtual 166, 3) := by decide +kernel
theorem dC4_isFinerResult_85 : decode cC4_isFinerResult 85 = .ok (.ireturn, 1) := by decide +kernel
theorem dC4_isFinerResult_86 : decode cC4_isFinerResult 86 = .ok (.aload_n 0, 1) := by decide +kernel
theorem dC4_isFinerResult_87 : decode cC4_isFinerResult 87 = .ok (.getfield 9, 3) := by decide +kernel
theorem dC4_isFinerResult_90 : decode cC4_isFinerResult 90 = .ok (.iload 4, 2) := by decide +kernel
theorem dC4_isFinerResult_92 : decode cC4_isFinerResult 92 = .ok (.iload 5, 2) := by decide +kernel
theorem dC4_isFinerResult_94 : decode cC4_isFinerResult 94 = .ok (.invokevirtual 150, 3) := by decide +kernel
theorem dC4_isFinerResult_97 : decode cC4_isFinerResult 97 = .ok (.ireturn, 1) := by decide +kernel
theorem dC4_isFinerFunction_0 : decode cC4_isFinerFunction 0 = .ok (.aload_n 0, 1) := by decide +kernel
theorem dC4_isFinerFunction_1 : decode cC4_isFinerFunction 1 = .ok (.getfield 15, 3) := by decide +kernel
theorem dC4_isFinerFunction_4 : decode cC4_isFinerFunction 4 = .ok (.iload_n 1, 1) := by decide +kernel
theorem dC4_isFinerFunction_5 : decode cC4_isFinerFunction 5 = .ok (.invokevirtual 116, 3) := by decide +kernel
theorem dC4_isFinerFunction_8 : decode cC4_isFinerFunction 8 = .ok (.istore 4, 2) := by decide +kernel
theorem dC4_isFinerFunction_10 : decode cC4_isFinerFunction 10 = .ok (.aload_n 0, 1) := by decide +kernel
theorem dC4_isFinerFunction_11 : decode cC4_isFinerFunction 11 = .ok (.getfield 15, 3) := by decide +kernel
theorem dC4_isFinerFunction_14 : decode cC4_isFinerFunction 14 = .ok (.iload_n 2, 1) := by decide +kernel
theorem dC4_isFinerFunction_15 : decode cC4_isFinerFunction 15 = .ok (.invokevirtual 116, 3) := by decide +kernel
theorem dC4_isFinerFunction_18 : decode cC4_isFinerFunction 18 = .ok (.istore 5, 2) := by decide +kernel
theorem dC4_isFinerFunction_20 : decode cC4_isFinerFunction 20 = .ok (.aload_n 0, 1) := by decide +kernel
theorem dC4_isFinerFunction_21 : decode cC4_isFinerFunction 21 = .ok (.getfield 19, 3) := by decide +kernel
theorem dC4_isFinerFunction_24 : decode cC4_isFinerFunction 24 = .ok (.iload_n 3, 1) := by decide +kernel
theorem dC4_isFinerFunction_25 : decode cC4_isFinerFunction 25 = .ok (.invokevirtual 136, 3) := by decide +kernel
theorem dC4_isFinerFunction_28 : decode cC4_isFinerFunction 28 = .ok (.ifCond .eq 15, 3) := by decide +kernel
theorem dC4_isFinerFunction_31 : decode cC4_isFinerFunction 31 = .ok (.iload 4, 2) := by decide +kernel
theorem dC4_isFinerFunction_33 : decode cC4_isFinerFunction 33 = .ok (.iconst (-1), 1) := by decide +kernel
theorem dC4_isFinerFunction_34 : decode cC4_isFinerFunction 34 = .ok (.if_icmp .eq 9, 3) := by decide +kernel
theorem dC4_isFinerFunction_37 : decode cC4_isFinerFunction 37 = .ok (.iload 5, 2) := by decide +kernel
theorem dC4_isFinerFunction_39 : decode cC4_isFinerFunction 39 = .ok (.iconst (-1), 1) := by decide +kernel
theorem dC4_isFinerFunction_40 : decode cC4_isFinerFunction 40 = .ok (.if_icmp .ne 5, 3) := by decide +kernel
theorem dC4_isFinerFunction_43 : decode cC4_isFinerFunction 43 = .ok (.iconst 0, 1) := by decide +kernel
theorem dC4_isFinerFunction_44 : decode cC4_isFinerFunction 44 = .ok (.ireturn, 1) := by decide +kernel
theorem dC4_isFinerFunction_45 : decode cC4_isFinerFunction 45 = .ok (.aload_n 0, 1) := by decide +kernel
theorem dC4_isFinerFunction_46 : decode cC4_isFinerFunction 46 = .ok (.getfield 9, 3) := by decide +kernel
theorem dC4_isFinerFunction_49 : decode cC4_isFinerFunction 49 = .ok (.iload_n 1, 1) := by decide +kernel
theorem dC4_isFinerFunction_50 : decode cC4_isFinerFunction 50 = .ok (.iload_n 2, 1) := by decide +kernel
theorem dC4_isFinerFunction_51 : decode cC4_isFinerFunction 51 = .ok (.invokevirtual 150, 3) := by decide +kernel
theorem dC4_isFinerFunction_54 : decode cC4_isFinerFunction 54 = .ok (.ifCond .ne 29, 3) := by decide +kernel
theorem dC4_isFinerFunction_57 : decode cC4_isFinerFunction 57 = .ok (.aload_n 0, 1) := by decide +kernel
theorem dC4_isFinerFunction_58 : decode cC4_isFinerFunction 58 = .ok (.getfield 9, 3) := by decide +kernel
theorem dC4_isFinerFunction_61 : decode cC4_isFinerFunction 61 = .ok (.iload_n 2, 1) := by decide +kernel
theorem dC4_isFinerFunction_62 : decode cC4_isFinerFunction 62 = .ok (.iload_n 1, 1) := by decide +kernel
theorem dC4_isFinerFunction_63 : decode cC4_isFinerFunction 63 = .ok (.invokevirtual 150, 3) := by decide +kernel
theorem dC4_isFinerFunction_66 : decode cC4_isFinerFunction 66 = .ok (.ifCond .ne 17, 3) := by decide +kernel
theorem dC4_isFinerFunction_69 : decode cC4_isFinerFunction 69 = .ok (.aload_n 0, 1) := by decide +kernel
theorem dC4_isFinerFunction_70 : decode cC4_isFinerFunction 70 = .ok (.getfield 15, 3) := by decide +kernel
theorem dC4_isFinerFunction_73 : decode cC4_isFinerFunction 73 = .ok (.iload 4, 2) := by decide +kernel
theorem dC4_isFinerFunction_75 : decode cC4_isFinerFunction 75 = .ok (.iload 5, 2) := by decide +kernel
theorem dC4_isFinerFunction_77 : decode cC4_isFinerFunction 77 = .ok (.invokevirtual 88, 3) := by decide +kernel
theorem dC4_isFinerFunction_80 : decode cC4_isFinerFunction 80 = .ok (.ifCond .ne 5, 3) := by decide +kernel
theorem dC4_isFinerFunction_83 : decode cC4_isFinerFunction 83 = .ok (.iconst 0, 1) := by decide +kernel
theorem dC4_isFinerFunction_84 : decode cC4_isFinerFunction 84 = .ok (.ireturn, 1) := by decide +kernel
theorem dC4_isFinerFunction_85 : decode cC4_isFinerFunction 85 = .ok (.aload_n 0, 1) := by decide +kernel
theorem dC4_isFinerFunction_86 : decode cC4_isFinerFunction 86 = .ok (.getfield 15, 3) := by decide +kernel
theorem dC4_isFinerFunction_89 : decode cC4_isFinerFunction 89 = .ok (.iload 5, 2) := by decide +kernel
theorem dC4_isFinerFunction_91 : decode cC4_isFinerFunction 91 = .ok (.invokevirtual 120, 3) := by decide +kernel
theorem dC4_isFinerFunction_94 : decode cC4_isFinerFunction 94 = .ok (.ifCond .eq 34, 3) := by decide +kernel
theorem dC4_isFinerFunction_97 : decode cC4_isFinerFunction 97 = .ok (.aload_n 0, 1) := by decide +kernel
theorem dC4_isFinerFunction_98 : decode cC4_isFinerFunction 98 = .ok (.getfield 15, 3) := by decide +kernel
theorem dC4_isFinerFunction_101 : decode cC4_isFinerFunction 101 = .ok (.iload 4, 2) := by decide +kernel
theorem dC4_isFinerFunction_103 : decode cC4_isFinerFunction 103 = .ok (.invokevirtual 120, 3) := by decide +kernel
theorem dC4_isFinerFunction_106 : decode cC4_isFinerFunction 106 = .ok (.ifCond .eq 26, 3) := by decide +kernel
theorem dC4_isFinerFunction_109 : decode cC4_isFinerFunction 109 = .ok (.aload_n 0, 1) := by decide +kernel
theorem dC4_isFinerFunction_110 : decode cC4_isFinerFunction 110 = .ok (.iload 4, 2) := by decide +kernel
theorem dC4_isFinerFunction_112 : decode cC4_isFinerFunction 112 = .ok (.iload 5, 2) := by decide +kernel
theorem dC4_isFinerFunction_114 : decode cC4_isFinerFunction 114 = .ok (.aload_n 0, 1) := by decide +kernel
theorem dC4_isFinerFunction_115 : decode cC4_isFinerFunction 115 = .ok (.getfield 19, 3) := by decide +kernel
theorem dC4_isFinerFunction_118 : decode cC4_isFinerFunction 118 = .ok (.iload_n 3, 1) := by decide +kernel
theorem dC4_isFinerFunction_119 : decode cC4_isFinerFunction 119 = .ok (.invokevirtual 128, 3) := by decide +kernel
theorem dC4_isFinerFunction_122 : decode cC4_isFinerFunction 122 = .ok (.invokevirtual 160, 3) := by decide +kernel
theorem dC4_isFinerFunction_125 : decode cC4_isFinerFunction 125 = .ok (.ifCond .eq 7, 3) := by decide +kernel
theorem dC4_isFinerFunction_128 : decode cC4_isFinerFunction 128 = .ok (.iconst 1, 1) := by decide +kernel
theorem dC4_isFinerFunction_129 : decode cC4_isFinerFunction 129 = .ok (.goto 4, 3) := by decide +kernel
theorem dC4_isFinerFunction_132 : decode cC4_isFinerFunction 132 = .ok (.iconst 0, 1) := by decide +kernel
theorem dC4_isFinerFunction_133 : decode cC4_isFinerFunction 133 = .ok (.ireturn, 1) := by decide +kernel
theorem dC4_isAsSpecialAs_0 : decode cC4_isAsSpecialAs 0 = .ok (.aload_n 0, 1) := by decide +kernel
theorem dC4_isAsSpecialAs_1 : decode cC4_isAsSpecialAs 1 = .ok (.getfield 36, 3) := by decide +kernel
theorem dC4_isAsSpecialAs_4 : decode cC4_isAsSpecialAs 4 = .ok (.iconst 3, 1) := by decide +kernel
theorem dC4_isAsSpecialAs_5 : decode cC4_isAsSpecialAs 5 = .ok (.if_icmp .ne 7, 3) := by decide +kernel
theorem dC4_isAsSpecialAs_8 : decode cC4_isAsSpecialAs 8 = .ok (.iconst 1, 1) := by decide +kernel
theorem dC4_isAsSpecialAs_9 : decode cC4_isAsSpecialAs 9 = .ok (.goto 4, 3) := by decide +kernel
theorem dC4_isAsSpecialAs_12 : decode cC4_isAsSpecialAs 12 = .ok (.iconst 0, 1) := by decide +kernel
theorem dC4_isAsSpecialAs_13 : decode cC4_isAsSpecialAs 13 = .ok (.istore_n 3, 1) := by decide +kernel
theorem dC4_isAsSpecialAs_14 : decode cC4_isAsSpecialAs 14 = .ok (.iconst 0, 1) := by decide +kernel
theorem dC4_isAsSpecialAs_15 : decode cC4_isAsSpecialAs 15 = .ok (.istore 4, 2) := by decide +kernel
theorem dC4_isAsSpecialAs_17 : decode cC4_isAsSpecialAs 17 = .ok (.iload 4, 2) := by decide +kernel
theorem dC4_isAsSpecialAs_19 : decode cC4_isAsSpecialAs 19 = .ok (.aload_n 0, 1) := by decide +kernel
theorem dC4_isAsSpecialAs_20 : decode cC4_isAsSpecialAs 20 = .ok (.getfield 19, 3) := by decide +kernel
theorem dC4_isAsSpecialAs_23 : decode cC4_isAsSpecialAs 23 = .ok (.invokevirtual 101, 3) := by decide +kernel
theorem dC4_isAsSpecialAs_26 : decode cC4_isAsSpecialAs 26 = .ok (.if_icmp .ge 64, 3) := by decide +kernel
theorem dC4_isAsSpecialAs_29 : decode cC4_isAsSpecialAs 29 = .ok (.aload_n 0, 1) := by decide +kernel
theorem dC4_isAsSpecialAs_30 : decode cC4_isAsSpecialAs 30 = .ok (.getfield 15, 3) := by decide +kernel
theorem dC4_isAsSpecialAs_33 : decode cC4_isAsSpecialAs 33 = .ok (.iload_n 1, 1) := by decide +kernel
theorem dC4_isAsSpecialAs_34 : decode cC4_isAsSpecialAs 34 = .ok (.iload 4, 2) := by decide +kernel
theorem dC4_isAsSpecialAs_36 : decode cC4_isAsSpecialAs 36 = .ok (.iload_n 3, 1) := by decide +kernel
theorem dC4_isAsSpecialAs_37 : decode cC4_isAsSpecialAs 37 = .ok (.invokevirtual 109, 3) := by decide +kernel
theorem dC4_isAsSpecialAs_40 : decode cC4_isAsSpecialAs 40 = .ok (.istore 5, 2) := by decide +kernel
theorem dC4_isAsSpecialAs_42 : decode cC4_isAsSpecialAs 42 = .ok (.aload_n 0, 1) := by decide +kernel
theorem dC4_isAsSpecialAs_43 : decode cC4_isAsSpecialAs 43 = .ok (.getfield 15, 3) := by decide +kernel
theorem dC4_isAsSpecialAs_46 : decode cC4_isAsSpecialAs 46 = .ok (.iload_n 2, 1) := by decide +kernel
theorem dC4_isAsSpecialAs_47 : decode cC4_isAsSpecialAs 47 = .ok (.iload 4, 2) := by decide +kernel
theorem dC4_isAsSpecialAs_49 : decode cC4_isAsSpecialAs 49 = .ok (.iload_n 3, 1) := by decide +kernel
theorem dC4_isAsSpecialAs_50 : decode cC4_isAsSpecialAs 50 = .ok (.invokevirtual 109, 3) := by decide +kernel
theorem dC4_isAsSpecialAs_53 : decode cC4_isAsSpecialAs 53 = .ok (.istore 6, 2) := by decide +kernel
theorem dC4_isAsSpecialAs_55 : decode cC4_isAsSpecialAs 55 = .ok (.aload_n 0, 1) := by decide +kernel
theorem dC4_isAsSpecialAs_56 : decode cC4_isAsSpecialAs 56 = .ok (.getfield 9, 3) := by decide +kernel
theorem dC4_isAsSpecialAs_59 : decode cC4_isAsSpecialAs 59 = .ok (.iload 5, 2) := by decide +kernel
theorem dC4_isAsSpecialAs_61 : decode cC4_isAsSpecialAs 61 = .ok (.iload 6, 2) := by decide +kernel
theorem dC4_isAsSpecialAs_63 : decode cC4_isAsSpecialAs 63 = .ok (.invokevirtual 150, 3) := by decide +kernel
theorem dC4_isAsSpecialAs_66 : decode cC4_isAsSpecialAs 66 = .ok (.ifCond .ne 18, 3) := by decide +kernel
theorem dC4_isAsSpecialAs_69 : decode cC4_isAsSpecialAs 69 = .ok (.aload_n 0, 1) := by decide +kernel
theorem dC4_isAsSpecialAs_70 : decode cC4_isAsSpecialAs 70 = .ok (.iload 5, 2) := by decide +kernel
theorem dC4_isAsSpecialAs_72 : decode cC4_isAsSpecialAs 72 = .ok (.iload 6, 2) := by decide +kernel
theorem dC4_isAsSpecialAs_74 : decode cC4_isAsSpecialAs 74 = .ok (.iload 4, 2) := by decide +kernel
theorem dC4_isAsSpecialAs_76 : decode cC4_isAsSpecialAs 76 = .ok (.invokevirtual 153, 3) := by decide +kernel
theorem dC4_isAsSpecialAs_79 : decode cC4_isAsSpecialAs 79 = .ok (.ifCond .ne 5, 3) := by decide +kernel
theorem dC4_isAsSpecialAs_82 : decode cC4_isAsSpecialAs 82 = .ok (.iconst 0, 1) := by decide +kernel
theorem dC4_isAsSpecialAs_83 : decode cC4_isAsSpecialAs 83 = .ok (.ireturn, 1) := by decide +kernel
theorem dC4_isAsSpecialAs_84 : decode cC4_isAsSpecialAs 84 = .ok (.iinc 4 1, 3) := by decide +kernel
theorem dC4_isAsSpecialAs_87 : decode cC4_isAsSpecialAs 87 = .ok (.goto (-70), 3) := by decide +kernel
theorem dC4_isAsSpecialAs_90 : decode cC4_isAsSpecialAs 90 = .ok (.iload_n 3, 1) := by decide +kernel
theorem dC4_isAsSpecialAs_91 : decode cC4_isAsSpecialAs 91 = .ok (.ifCond .eq 29, 3) := by decide +kernel
theorem dC4_isAsSpecialAs_94 : decode cC4_isAsSpecialAs 94 = .ok (.aload_n 0, 1) := by decide +kernel
theorem dC4_isAsSpecialAs_95 : decode cC4_isAsSpecialAs 95 = .ok (.getfield 9, 3) := by decide +kernel
theorem dC4_isAsSpecialAs_98 : decode cC4_isAsSpecialAs 98 = .ok (.aload_n 0, 1) := by decide +kernel
theorem dC4_isAsSpecialAs_99 : decode cC4_isAsSpecialAs 99 = .ok (.getfield 15, 3) := by decide +kernel
theorem dC4_isAsSpecialAs_102 : decode cC4_isAsSpecialAs 102 = .ok (.iload_n 1, 1) := by decide +kernel
theorem dC4_isAsSpecialAs_103 : decode cC4_isAsSpecialAs 103 = .ok (.invokevirtual 157, 3) := by decide +kernel
theorem dC4_isAsSpecialAs_106 : decode cC4_isAsSpecialAs 106 = .ok (.aload_n 0, 1) := by decide +kernel
theorem dC4_isAsSpecialAs_107 : decode cC4_isAsSpecialAs 107 = .ok (.getfield 15, 3) := by decide +kernel
theorem dC4_isAsSpecialAs_110 : decode cC4_isAsSpecialAs 110 = .ok (.iload_n 2, 1) := by decide +kernel
theorem dC4_isAsSpecialAs_111 : decode cC4_isAsSpecialAs 111 = .ok (.invokevirtual 157, 3) := by decide +kernel
theorem dC4_isAsSpecialAs_114 : decode cC4_isAsSpecialAs 114 = .ok (.invokevirtual 150, 3) := by decide +kernel
theorem dC4_isAsSpecialAs_117 : decode cC4_isAsSpecialAs 117 = .ok (.ifCond .eq 7, 3) := by decide +kernel
theorem dC4_isAsSpecialAs_120 : decode cC4_isAsSpecialAs 120 = .ok (.iconst 1, 1) := by decide +kernel
theorem dC4_isAsSpecialAs_121 : decode cC4_isAsSpecialAs 121 = .ok (.goto 4, 3) := by decide +kernel
theorem dC4_isAsSpecialAs_124 : decode cC4_isAsSpecialAs 124 = .ok (.iconst 0, 1) := by decide +kernel
theorem dC4_isAsSpecialAs_125 : decode cC4_isAsSpecialAs 125 = .ok (.ireturn, 1) := by decide +kernel
theorem dC4_compareAll_0 : decode cC4_compareAll 0 = .ok (.iconst 0, 1) := by decide +kernel
theorem dC4_compareAll_1 : decode cC4_compareAll 1 = .ok (.istore_n 1, 1) := by decide +kernel
theorem dC4_compareAll_2 : decode cC4_compareAll 2 = .ok (.iload_n 1, 1) := by decide +kernel
theorem dC4_compareAll_3 : decode cC4_compareAll 3 = .ok (.aload_n 0, 1) := by decide +kernel
theorem dC4_compareAll_4 : decode cC4_compareAll 4 = .ok (.getfield 40, 3) := by decide +kernel
theorem dC4_compareAll_7 : decode cC4_compareAll 7 = .ok (.if_icmp .ge 70, 3) := by decide +kernel
theorem dC4_compareAll_10 : decode cC4_compareAll 10 = .ok (.aload_n 0, 1) := by decide +kernel
theorem dC4_compareAll_11 : decode cC4_compareAll 11 = .ok (.getfield 29, 3) := by decide +kernel
theorem dC4_compareAll_14 : decode cC4_compareAll 14 = .ok (.iload_n 1, 1) := by decide +kernel
theorem dC4_compareAll_15 : decode cC4_compareAll 15 = .ok (.iaload, 1) := by decide +kernel
theorem dC4_compareAll_16 : decode cC4_compareAll 16 = .ok (.istore_n 2, 1) := by decide +kernel
theorem dC4_compareAll_17 : decode cC4_compareAll 17 = .ok (.aload_n 0, 1) := by decide +kernel
theorem dC4_compareAll_18 : decode cC4_compareAll 18 = .ok (.getfield 32, 3) := by decide +kernel
theorem dC4_compareAll_21 : decode cC4_compareAll 21 = .ok (.iload_n 2, 1) := by decide +kernel
theorem dC4_compareAll_22 : decode cC4_compareAll 22 = .ok (.lconst 0, 1) := by decide +kernel
theorem dC4_compareAll_23 : decode cC4_compareAll 23 = .ok (.lastore, 1) := by decide +kernel
theorem dC4_compareAll_24 : decode cC4_compareAll 24 = .ok (.iconst 0, 1) := by decide +kernel
theorem dC4_compareAll_25 : decode cC4_compareAll 25 = .ok (.istore_n 3, 1) := by decide +kernel
theorem dC4_compareAll_26 : decode cC4_compareAll 26 = .ok (.iload_n 3, 1) := by decide +kernel
theorem dC4_compareAll_27 : decode cC4_compareAll 27 = .ok (.aload_n 0, 1) := by decide +kernel
theorem dC4_compareAll_28 : decode cC4_compareAll 28 = .ok (.getfield 40, 3) := by decide +kernel
theorem dC4_compareAll_31 : decode cC4_compareAll 31 = .ok (.if_icmp .ge 40, 3) := by decide +kernel
theorem dC4_compareAll_34 : decode cC4_compareAll 34 = .ok (.aload_n 0, 1) := by decide +kernel
theorem dC4_compareAll_35 : decode cC4_compareAll 35 = .ok (.iload_n 2, 1) := by decide +kernel
theorem dC4_compareAll_36 : decode cC4_compareAll 36 = .ok (.aload_n 0, 1) := by decide +kernel
theorem dC4_compareAll_37 : decode cC4_compareAll 37 = .ok (.getfield 29, 3) := by decide +kernel
theorem dC4_compareAll_40 : decode cC4_compareAll 40 = .ok (.iload_n 3, 1) := by decide +kernel
theorem dC4_compareAll_41 : decode cC4_compareAll 41 = .ok (.iaload, 1) := by decide +kernel
theorem dC4_compareAll_42 : decode cC4_compareAll 42 = .ok (.invokevirtual 85, 3) := by decide +kernel
theorem dC4_compareAll_45 : decode cC4_compareAll 45 = .ok (.ifCond .eq 20, 3) := by decide +kernel
theorem dC4_compareAll_48 : decode cC4_compareAll 48 = .ok (.aload_n 0, 1) := by decide +kernel
theorem dC4_compareAll_49 : decode cC4_compareAll 49 = .ok (.getfield 32, 3) := by decide +kernel
theorem dC4_compareAll_52 : decode cC4_compareAll 52 = .ok (.iload_n 2, 1) := by decide +kernel
theorem dC4_compareAll_53 : decode cC4_compareAll 53 = .ok (.dup2, 1) := by decide +kernel
theorem dC4_compareAll_54 : decode cC4_compareAll 54 = .ok (.laload, 1) := by decide +kernel
theorem dC4_compareAll_55 : decode cC4_compareAll 55 = .ok (.lconst 1, 1) := by decide +kernel
theorem dC4_compareAll_56 : decode cC4_compareAll 56 = .ok (.aload_n 0, 1) := by decide +kernel
theorem dC4_compareAll_57 : decode cC4_compareAll 57 = .ok (.getfield 29, 3) := by decide +kernel
theorem dC4_compareAll_60 : decode cC4_compareAll 60 = .ok (.iload_n 3, 1) := by decide +kernel
theorem dC4_compareAll_61 : decode cC4_compareAll 61 = .ok (.iaload, 1) := by decide +kernel
theorem dC4_compareAll_62 : decode cC4_compareAll 62 = .ok (.lshl, 1) := by decide +kernel
theorem dC4_compareAll_63 : decode cC4_compareAll 63 = .ok (.lor, 1) := by decide +kernel
theorem dC4_compareAll_64 : decode cC4_compareAll 64 = .ok (.lastore, 1) := by decide +kernel
theorem dC4_compareAll_65 : decode cC4_compareAll 65 = .ok (.iinc 3 1, 3) := by decide +kernel
theorem dC4_compareAll_68 : decode cC4_compareAll 68 = .ok (.goto (-42), 3) := by decide +kernel
theorem dC4_compareAll_71 : decode cC4_compareAll 71 = .ok (.iinc 1 1, 3) := by decide +kernel
theorem dC4_compareAll_74 : decode cC4_compareAll 74 = .ok (.goto (-72), 3) := by decide +kernel
theorem dC4_compareAll_77 : decode cC4_compareAll 77 = .ok (.return_, 1) := by decide +kernel
theorem dC4_pick_0 : decode cC4_pick 0 = .ok (.iconst (-1), 1) := by decide +kernel
theorem dC4_pick_1 : decode cC4_pick 1 = .ok (.istore_n 1, 1) := by decide +kernel
theorem dC4_pick_2 : decode cC4_pick 2 = .ok (.iconst (-1), 1) := by decide +kernel
theorem dC4_pick_3 : decode cC4_pick 3 = .ok (.istore_n 2, 1) := by decide +kernel
theorem dC4_pick_4 : decode cC4_pick 4 = .ok (.iconst 0, 1) := by decide +kernel
theorem dC4_pick_5 : decode cC4_pick 5 = .ok (.istore_n 3, 1) := by decide +kernel
theorem dC4_pick_6 : decode cC4_pick 6 = .ok (.iconst 0, 1) := by decide +kernel
theorem dC4_pick_7 : decode cC4_pick 7 = .ok (.istore 4, 2) := by decide +kernel
theorem dC4_pick_9 : decode cC4_pick 9 = .ok (.iload 4, 2) := by decide +kernel
theorem dC4_pick_11 : decode cC4_pick 11 = .ok (.aload_n 0, 1) := by decide +kernel
theorem dC4_pick_12 : decode cC4_pick 12 = .ok (.getfield 40, 3) := by decide +kernel
theorem dC4_pick_15 : decode cC4_pick 15 = .ok (.if_icmp .ge 81, 3) := by decide +kernel
theorem dC4_pick_18 : decode cC4_pick 18 = .ok (.aload_n 0, 1) := by decide +kernel
theorem dC4_pick_19 : decode cC4_pick 19 = .ok (.getfield 29, 3) := by decide +kernel
theorem dC4_pick_22 : decode cC4_pick 22 = .ok (.iload 4, 2) := by decide +kernel
theorem dC4_pick_24 : decode cC4_pick 24 = .ok (.iaload, 1) := by decide +kernel
theorem dC4_pick_25 : decode cC4_pick 25 = .ok (.istore 5, 2) := by decide +kernel
theorem dC4_pick_27 : decode cC4_pick 27 = .ok (.aload_n 0, 1) := by decide +kernel
theorem dC4_pick_28 : decode cC4_pick 28 = .ok (.getfield 32, 3) := by decide +kernel
theorem dC4_pick_31 : decode cC4_pick 31 = .ok (.iload 5, 2) := by decide +kernel
theorem dC4_pick_33 : decode cC4_pick 33 = .ok (.laload, 1) := by decide +kernel
theorem dC4_pick_34 : decode cC4_pick 34 = .ok (.aload_n 0, 1) := by decide +kernel
theorem dC4_pick_35 : decode cC4_pick 35 = .ok (.getfield 47, 3) := by decide +kernel
theorem dC4_pick_38 : decode cC4_pick 38 = .ok (.lcmp, 1) := by decide +kernel
theorem dC4_pick_39 : decode cC4_pick 39 = .ok (.ifCond .eq 6, 3) := by decide +kernel
theorem dC4_pick_42 : decode cC4_pick 42 = .ok (.goto 48, 3) := by decide +kernel
theorem dC4_pick_45 : decode cC4_pick 45 = .ok (.iload_n 1, 1) := by decide +kernel
theorem dC4_pick_46 : decode cC4_pick 46 = .ok (.iconst (-1), 1) := by decide +kernel
theorem dC4_pick_47 : decode cC4_pick 47 = .ok (.if_icmp .ne 9, 3) := by decide +kernel
theorem dC4_pick_50 : decode cC4_pick 50 = .ok (.iload 5, 2) := by decide +kernel
theorem dC4_pick_52 : decode cC4_pick 52 = .ok (.istore_n 1, 1) := by decide +kernel
theorem dC4_pick_53 : decode cC4_pick 53 = .ok (.goto 19, 3) := by decide +kernel
theorem dC4_pick_56 : decode cC4_pick 56 = .ok (.aload_n 0, 1) := by decide +kernel
theorem dC4_pick_57 : decode cC4_pick 57 = .ok (.getfield 15, 3) := by decide +kernel
theorem dC4_pick_60 : decode cC4_pick 60 = .ok (.iload_n 1, 1) := by decide +kernel
theorem dC4_pick_61 : decode cC4_pick 61 = .ok (.iload 5, 2) := by decide +kernel
theorem dC4_pick_63 : decode cC4_pick 63 = .ok (.invokevirtual 88, 3) := by decide +kernel
theorem dC4_pick_66 : decode cC4_pick 66 = .ok (.ifCond .ne 6, 3) := by decide +kernel
theorem dC4_pick_69 : decode cC4_pick 69 = .ok (.bipush (-6), 2) := by decide +kernel
theorem dC4_pick_71 : decode cC4_pick 71 = .ok (.ireturn, 1) := by decide +kernel
theorem dC4_pick_72 : decode cC4_pick 72 = .ok (.aload_n 0, 1) := by decide +kernel
theorem dC4_pick_73 : decode cC4_pick 73 = .ok (.getfield 15, 3) := by decide +kernel
theorem dC4_pick_76 : decode cC4_pick 76 = .ok (.iload 5, 2) := by decide +kernel
theorem dC4_pick_78 : decode cC4_pick 78 = .ok (.invokevirtual 91, 3) := by decide +kernel
theorem dC4_pick_81 : decode cC4_pick 81 = .ok (.ifCond .ne 9, 3) := by decide +kernel
theorem dC4_pick_84 : decode cC4_pick 84 = .ok (.iload 5, 2) := by decide +kernel
theorem dC4_pick_86 : decode cC4_pick 86 = .ok (.istore_n 2, 1) := by decide +kernel
theorem dC4_pick_87 : decode cC4_pick 87 = .ok (.iinc 3 1, 3) := by decide +kernel
theorem dC4_pick_90 : decode cC4_pick 90 = .ok (.iinc 4 1, 3) := by decide +kernel
theorem dC4_pick_93 : decode cC4_pick 93 = .ok (.goto (-84), 3) := by decide +kernel
theorem dC4_pick_96 : decode cC4_pick 96 = .ok (.iload_n 1, 1) := by decide +kernel
theorem dC4_pick_97 : decode cC4_pick 97 = .ok (.iconst (-1), 1) := by decide +kernel
theorem dC4_pick_98 : decode cC4_pick 98 = .ok (.if_icmp .eq 8, 3) := by decide +kernel
theorem dC4_pick_101 : decode cC4_pick 101 = .ok (.iload_n 3, 1) := by decide +kernel
theorem dC4_pick_102 : decode cC4_pick 102 = .ok (.iconst 1, 1) := by decide +kernel
theorem dC4_pick_103 : decode cC4_pick 103 = .ok (.if_icmp .le 6, 3) := by decide +kernel
theorem dC4_pick_106 : decode cC4_pick 106 = .ok (.bipush (-6), 2) := by decide +kernel
theorem dC4_pick_108 : decode cC4_pick 108 = .ok (.ireturn, 1) := by decide +kernel
theorem dC4_pick_109 : decode cC4_pick 109 = .ok (.iload_n 3, 1) := by decide +kernel
theorem dC4_pick_110 : decode cC4_pick 110 = .ok (.iconst 1, 1) := by decide +kernel
theorem dC4_pick_111 : decode cC4_pick 111 = .ok (.if_icmp .ne 7, 3) := by decide +kernel
theorem dC4_pick_114 : decode cC4_pick 114 = .ok (.iload_n 2, 1) := by decide +kernel
theorem dC4_pick_115 : decode cC4_pick 115 = .ok (.goto 4, 3) := by decide +kernel
theorem dC4_pick_118 : decode cC4_pick 118 = .ok (.iload_n 1, 1) := by decide +kernel
theorem dC4_pick_119 : decode cC4_pick 119 = .ok (.ireturn, 1) := by decide +kernel
theorem dC3_parameterAt_0 : decode cC3_parameterAt 0 = .ok (.iload_n 2, 1) := by decide +kernel
theorem dC3_parameterAt_1 : decode cC3_parameterAt 1 = .ok (.ifCond .lt 26, 3) := by decide +kernel
theorem dC3_parameterAt_4 : decode cC3_parameterAt 4 = .ok (.iload_n 2, 1) := by decide +kernel
theorem dC3_parameterAt_5 : decode cC3_parameterAt 5 = .ok (.aload_n 0, 1) := by decide +kernel
theorem dC3_parameterAt_6 : decode cC3_parameterAt 6 = .ok (.getfield 22, 3) := by decide +kernel
theorem dC3_parameterAt_9 : decode cC3_parameterAt 9 = .ok (.iload_n 1, 1) := by decide +kernel
theorem dC3_parameterAt_10 : decode cC3_parameterAt 10 = .ok (.iaload, 1) := by decide +kernel
theorem dC3_parameterAt_11 : decode cC3_parameterAt 11 = .ok (.if_icmp .ge 16, 3) := by decide +kernel
theorem dC3_parameterAt_14 : decode cC3_parameterAt 14 = .ok (.aload_n 0, 1) := by decide +kernel
theorem dC3_parameterAt_15 : decode cC3_parameterAt 15 = .ok (.getfield 25, 3) := by decide +kernel
theorem dC3_parameterAt_18 : decode cC3_parameterAt 18 = .ok (.iload_n 1, 1) := by decide +kernel
theorem dC3_parameterAt_19 : decode cC3_parameterAt 19 = .ok (.iconst 2, 1) := by decide +kernel
theorem dC3_parameterAt_20 : decode cC3_parameterAt 20 = .ok (.imul, 1) := by decide +kernel
theorem dC3_parameterAt_21 : decode cC3_parameterAt 21 = .ok (.iload_n 2, 1) := by decide +kernel
theorem dC3_parameterAt_22 : decode cC3_parameterAt 22 = .ok (.iadd, 1) := by decide +kernel
theorem dC3_parameterAt_23 : decode cC3_parameterAt 23 = .ok (.iaload, 1) := by decide +kernel
theorem dC3_parameterAt_24 : decode cC3_parameterAt 24 = .ok (.goto 4, 3) := by decide +kernel
theorem dC3_parameterAt_27 : decode cC3_parameterAt 27 = .ok (.iconst (-1), 1) := by decide +kernel
theorem dC3_parameterAt_28 : decode cC3_parameterAt 28 = .ok (.ireturn, 1) := by decide +kernel
theorem dC4_takesTold_0 : decode cC4_takesTold 0 = .ok (.iconst 0, 1) := by decide +kernel
theorem dC4_takesTold_1 : decode cC4_takesTold 1 = .ok (.istore 4, 2) := by decide +kernel
theorem dC4_takesTold_3 : decode cC4_takesTold 3 = .ok (.iload 4, 2) := by decide +kernel
theorem dC4_takesTold_5 : decode cC4_takesTold 5 = .ok (.aload_n 0, 1) := by decide +kernel
theorem dC4_takesTold_6 : decode cC4_takesTold 6 = .ok (.getfield 19, 3) := by decide +kernel
theorem dC4_takesTold_9 : decode cC4_takesTold 9 = .ok (.iload_n 2, 1) := by decide +kernel
theorem dC4_takesTold_10 : decode cC4_takesTold 10 = .ok (.invokevirtual 119, 3) := by decide +kernel
theorem dC4_takesTold_13 : decode cC4_takesTold 13 = .ok (.if_icmp .ge 34, 3) := by decide +kernel
theorem dC4_takesTold_16 : decode cC4_takesTold 16 = .ok (.aload_n 0, 1) := by decide +kernel
theorem dC4_takesTold_17 : decode cC4_takesTold 17 = .ok (.getfield 15, 3) := by decide +kernel
theorem dC4_takesTold_20 : decode cC4_takesTold 20 = .ok (.iload_n 1, 1) := by decide +kernel
theorem dC4_takesTold_21 : decode cC4_takesTold 21 = .ok (.iload 4, 2) := by decide +kernel
theorem dC4_takesTold_23 : decode cC4_takesTold 23 = .ok (.invokevirtual 142, 3) := by decide +kernel
theorem dC4_takesTold_26 : decode cC4_takesTold 26 = .ok (.aload_n 0, 1) := by decide +kernel
theorem dC4_takesTold_27 : decode cC4_takesTold 27 = .ok (.getfield 19, 3) := by decide +kernel
theorem dC4_takesTold_30 : decode cC4_takesTold 30 = .ok (.iload_n 2, 1) := by decide +kernel
theorem dC4_takesTold_31 : decode cC4_takesTold 31 = .ok (.iload 4, 2) := by decide +kernel
theorem dC4_takesTold_33 : decode cC4_takesTold 33 = .ok (.invokevirtual 146, 3) := by decide +kernel
theorem dC4_takesTold_36 : decode cC4_takesTold 36 = .ok (.if_icmp .eq 5, 3) := by decide +kernel
theorem dC4_takesTold_39 : decode cC4_takesTold 39 = .ok (.iconst 0, 1) := by decide +kernel
theorem dC4_takesTold_40 : decode cC4_takesTold 40 = .ok (.ireturn, 1) := by decide +kernel
theorem dC4_takesTold_41 : decode cC4_takesTold 41 = .ok (.iinc 4 1, 3) := by decide +kernel
theorem dC4_takesTold_44 : decode cC4_takesTold 44 = .ok (.goto (-41), 3) := by decide +kernel
theorem dC4_takesTold_47 : decode cC4_takesTold 47 = .ok (.aload_n 0, 1) := by decide +kernel
theorem dC4_takesTold_48 : decode cC4_takesTold 48 = .ok (.getfield 19, 3) := by decide +kernel
theorem dC4_takesTold_51 : decode cC4_takesTold 51 = .ok (.iload_n 2, 1) := by decide +kernel
theorem dC4_takesTold_52 : decode cC4_takesTold 52 = .ok (.invokevirtual 123, 3) := by decide +kernel
theorem dC4_takesTold_55 : decode cC4_takesTold 55 = .ok (.ifCond .eq 30, 3) := by decide +kernel
theorem dC4_takesTold_58 : decode cC4_takesTold 58 = .ok (.aload_n 0, 1) := by decide +kernel
theorem dC4_takesTold_59 : decode cC4_takesTold 59 = .ok (.getfield 9, 3) := by decide +kernel
theorem dC4_takesTold_62 : decode cC4_takesTold 62 = .ok (.aload_n 0, 1) := by decide +kernel
theorem dC4_takesTold_63 : decode cC4_takesTold 63 = .ok (.getfield 19, 3) := by decide +kernel
theorem dC4_takesTold_66 : decode cC4_takesTold 66 = .ok (.iload_n 2, 1) := by decide +kernel
theorem dC4_takesTold_67 : decode cC4_takesTold 67 = .ok (.invokevirtual 128, 3) := by decide +kernel
theorem dC4_takesTold_70 : decode cC4_takesTold 70 = .ok (.aload_n 0, 1) := by decide +kernel
theorem dC4_takesTold_71 : decode cC4_takesTold 71 = .ok (.getfield 15, 3) := by decide +kernel
theorem dC4_takesTold_74 : decode cC4_takesTold 74 = .ok (.iload_n 1, 1) := by decide +kernel
theorem dC4_takesTold_75 : decode cC4_takesTold 75 = .ok (.invokevirtual 147, 3) := by decide +kernel
theorem dC4_takesTold_78 : decode cC4_takesTold 78 = .ok (.iload_n 3, 1) := by decide +kernel
theorem dC4_takesTold_79 : decode cC4_takesTold 79 = .ok (.invokevirtual 131, 3) := by decide +kernel
theorem dC4_takesTold_82 : decode cC4_takesTold 82 = .ok (.ifCond .eq 7, 3) := by decide +kernel
theorem dC4_takesTold_85 : decode cC4_takesTold 85 = .ok (.iconst 1, 1) := by decide +kernel
theorem dC4_takesTold_86 : decode cC4_takesTold 86 = .ok (.goto 4, 3) := by decide +kernel
theorem dC4_takesTold_89 : decode cC4_takesTold 89 = .ok (.iconst 0, 1) := by decide +kernel
theorem dC4_takesTold_90 : decode cC4_takesTold 90 = .ok (.ireturn, 1) := by decide +kernel
theorem dC4_takes_0 : decode cC4_takes 0 = .ok (.aload_n 0, 1) := by decide +kernel
theorem dC4_takes_1 : decode cC4_takes 1 = .ok (.getfield 19, 3) := by decide +kernel
theorem dC4_takes_4 : decode cC4_takes 4 = .ok (.iload_n 2, 1) := by decide +kernel
theorem dC4_takes_5 : decode cC4_takes 5 = .ok (.invokevirtual 106, 3) := by decide +kernel
theorem dC4_takes_8 : decode cC4_takes 8 = .ok (.ifCond .ne 21, 3) := by decide +kernel
theorem dC4_takes_11 : decode cC4_takes 11 = .ok (.aload_n 0, 1) := by decide +kernel
theorem dC4_takes_12 : decode cC4_takes 12 = .ok (.getfield 9, 3) := by decide +kernel
theorem dC4_takes_15 : decode cC4_takes 15 = .ok (.aload_n 0, 1) := by decide +kernel
theorem dC4_takes_16 : decode cC4_takes 16 = .ok (.getfield 19, 3) := by decide +kernel
theorem dC4_takes_19 : decode cC4_takes 19 = .ok (.iload_n 2, 1) := by decide +kernel
theorem dC4_takes_20 : decode cC4_takes 20 = .ok (.invokevirtual 128, 3) := by decide +kernel
theorem dC4_takes_23 : decode cC4_takes 23 = .ok (.iload_n 1, 1) := by decide +kernel
theorem dC4_takes_24 : decode cC4_takes 24 = .ok (.iload_n 3, 1) := by decide +kernel
theorem dC4_takes_25 : decode cC4_takes 25 = .ok (.invokevirtual 131, 3) := by decide +kernel
theorem dC4_takes_28 : decode cC4_takes 28 = .ok (.ireturn, 1) := by decide +kernel
theorem dC4_takes_29 : decode cC4_takes 29 = .ok (.aload_n 0, 1) := by decide +kernel
theorem dC4_takes_30 : decode cC4_takes 30 = .ok (.iload_n 1, 1) := by decide +kernel
theorem dC4_takes_31 : decode cC4_takes 31 = .ok (.iload_n 2, 1) := by decide +kernel
theorem dC4_takes_32 : decode cC4_takes 32 = .ok (.invokevirtual 113, 3) := by decide +kernel
theorem dC4_takes_35 : decode cC4_takes 35 = .ok (.ifCond .ne 5, 3) := by decide +kernel
theorem dC4_takes_38 : decode cC4_takes 38 = .ok (.iconst 0, 1) := by decide +kernel
theorem dC4_takes_39 : decode cC4_takes 39 = .ok (.ireturn, 1) := by decide +kernel
theorem dC4_takes_40 : decode cC4_takes 40 = .ok (.aload_n 0, 1) := by decide +kernel
theorem dC4_takes_41 : decode cC4_takes 41 = .ok (.getfield 19, 3) := by decide +kernel
theorem dC4_takes_44 : decode cC4_takes 44 = .ok (.iload_n 2, 1) := by decide +kernel
theorem dC4_takes_45 : decode cC4_takes 45 = .ok (.invokevirtual 136, 3) := by decide +kernel
theorem dC4_takes_48 : decode cC4_takes 48 = .ok (.ifCond .eq 20, 3) := by decide +kernel
theorem dC4_takes_51 : decode cC4_takes 51 = .ok (.aload_n 0, 1) := by decide +kernel
theorem dC4_takes_52 : decode cC4_takes 52 = .ok (.aload_n 0, 1) := by decide +kernel
theorem dC4_takes_53 : decode cC4_takes 53 = .ok (.getfield 15, 3) := by decide +kernel
theorem dC4_takes_56 : decode cC4_takes 56 = .ok (.iload_n 1, 1) := by decide +kernel
theorem dC4_takes_57 : decode cC4_takes 57 = .ok (.invokevirtual 116, 3) := by decide +kernel
theorem dC4_takes_60 : decode cC4_takes 60 = .ok (.iload_n 2, 1) := by decide +kernel
theorem dC4_takes_61 : decode cC4_takes 61 = .ok (.iload_n 3, 1) := by decide +kernel
theorem dC4_takes_62 : decode cC4_takes 62 = .ok (.invokevirtual 139, 3) := by decide +kernel
theorem dC4_takes_65 : decode cC4_takes 65 = .ok (.ifCond .eq 7, 3) := by decide +kernel
theorem dC4_takes_68 : decode cC4_takes 68 = .ok (.iconst 1, 1) := by decide +kernel
theorem dC4_takes_69 : decode cC4_takes 69 = .ok (.goto 4, 3) := by decide +kernel
theorem dC4_takes_72 : decode cC4_takes 72 = .ok (.iconst 0, 1) := by decide +kernel
theorem dC4_takes_73 : decode cC4_takes 73 = .ok (.ireturn, 1) := by decide +kernel
theorem dC4_applies_0 : decode cC4_applies 0 = .ok (.iload_n 2, 1) := by decide +kernel
theorem dC4_applies_1 : decode cC4_applies 1 = .ok (.iconst 3, 1) := by decide +kernel
theorem dC4_applies_2 : decode cC4_applies 2 = .ok (.if_icmp .ne 7, 3) := by decide +kernel
theorem dC4_applies_5 : decode cC4_applies 5 = .ok (.iconst 1, 1) := by decide +kernel
theorem dC4_applies_6 : decode cC4_applies 6 = .ok (.goto 4, 3) := by decide +kernel
theorem dC4_applies_9 : decode cC4_applies 9 = .ok (.iconst 0, 1) := by decide +kernel
theorem dC4_applies_10 : decode cC4_applies 10 = .ok (.istore_n 3, 1) := by decide +kernel
theorem dC4_applies_11 : decode cC4_applies 11 = .ok (.iload_n 3, 1) := by decide +kernel
theorem dC4_applies_12 : decode cC4_applies 12 = .ok (.ifCond .eq 17, 3) := by decide +kernel
theorem dC4_applies_15 : decode cC4_applies 15 = .ok (.aload_n 0, 1) := by decide +kernel
theorem dC4_applies_16 : decode cC4_applies 16 = .ok (.getfield 15, 3) := by decide +kernel
theorem dC4_applies_19 : decode cC4_applies 19 = .ok (.iload_n 1, 1) := by decide +kernel
theorem dC4_applies_20 : decode cC4_applies 20 = .ok (.invokevirtual 94, 3) := by decide +kernel
theorem dC4_applies_23 : decode cC4_applies 23 = .ok (.ifCond .ne 26, 3) := by decide +kernel
theorem dC4_applies_26 : decode cC4_applies 26 = .ok (.goto 21, 3) := by decide +kernel
theorem dC4_applies_29 : decode cC4_applies 29 = .ok (.aload_n 0, 1) := by decide +kernel
theorem dC4_applies_30 : decode cC4_applies 30 = .ok (.getfield 15, 3) := by decide +kernel
theorem dC4_applies_33 : decode cC4_applies 33 = .ok (.iload_n 1, 1) := by decide +kernel
theorem dC4_applies_34 : decode cC4_applies 34 = .ok (.invokevirtual 97, 3) := by decide +kernel
theorem dC4_applies_37 : decode cC4_applies 37 = .ok (.aload_n 0, 1) := by decide +kernel
theorem dC4_applies_38 : decode cC4_applies 38 = .ok (.getfield 19, 3) := by decide +kernel
theorem dC4_applies_41 : decode cC4_applies 41 = .ok (.invokevirtual 101, 3) := by decide +kernel
theorem dC4_applies_44 : decode cC4_applies 44 = .ok (.if_icmp .eq 5, 3) := by decide +kernel
theorem dC4_applies_47 : decode cC4_applies 47 = .ok (.iconst 0, 1) := by decide +kernel
theorem dC4_applies_48 : decode cC4_applies 48 = .ok (.ireturn, 1) := by decide +kernel
theorem dC4_applies_49 : decode cC4_applies 49 = .ok (.iconst 0, 1) := by decide +kernel
theorem dC4_applies_50 : decode cC4_applies 50 = .ok (.istore 4, 2) := by decide +kernel
theorem dC4_applies_52 : decode cC4_applies 52 = .ok (.iload 4, 2) := by decide +kernel
theorem dC4_applies_54 : decode cC4_applies 54 = .ok (.aload_n 0, 1) := by decide +kernel
theorem dC4_applies_55 : decode cC4_applies 55 = .ok (.getfield 19, 3) := by decide +kernel
theorem dC4_applies_58 : decode cC4_applies 58 = .ok (.invokevirtual 101, 3) := by decide +kernel
theorem dC4_applies_61 : decode cC4_applies 61 = .ok (.if_icmp .ge 41, 3) := by decide +kernel
theorem dC4_applies_64 : decode cC4_applies 64 = .ok (.aload_n 0, 1) := by decide +kernel
theorem dC4_applies_65 : decode cC4_applies 65 = .ok (.aload_n 0, 1) := by decide +kernel
theorem dC4_applies_66 : decode cC4_applies 66 = .ok (.getfield 15, 3) := by decide +kernel
theorem dC4_applies_69 : decode cC4_applies 69 = .ok (.iload_n 1, 1) := by decide +kernel
theorem dC4_applies_70 : decode cC4_applies 70 = .ok (.iload 4, 2) := by decide +kernel
theorem dC4_applies_72 : decode cC4_applies 72 = .ok (.iload_n 3, 1) := by decide +kernel
theorem dC4_applies_73 : decode cC4_applies 73 = .ok (.invokevirtual 109, 3) := by decide +kernel
theorem dC4_applies_76 : decode cC4_applies 76 = .ok (.iload 4, 2) := by decide +kernel
theorem dC4_applies_78 : decode cC4_applies 78 = .ok (.iload_n 2, 1) := by decide +kernel
theorem dC4_applies_79 : decode cC4_applies 79 = .ok (.iconst 1, 1) := by decide +kernel
theorem dC4_applies_80 : decode cC4_applies 80 = .ok (.if_icmp .le 7, 3) := by decide +kernel
theorem dC4_applies_83 : decode cC4_applies 83 = .ok (.iconst 1, 1) := by decide +kernel
theorem dC4_applies_84 : decode cC4_applies 84 = .ok (.goto 4, 3) := by decide +kernel
theorem dC4_applies_87 : decode cC4_applies 87 = .ok (.iconst 0, 1) := by decide +kernel
theorem dC4_applies_88 : decode cC4_applies 88 = .ok (.invokevirtual 124, 3) := by decide +kernel
theorem dC4_applies_91 : decode cC4_applies 91 = .ok (.ifCond .ne 5, 3) := by decide +kernel
theorem dC4_applies_94 : decode cC4_applies 94 = .ok (.iconst 0, 1) := by decide +kernel
theorem dC4_applies_95 : decode cC4_applies 95 = .ok (.ireturn, 1) := by decide +kernel
theorem dC4_applies_96 : decode cC4_applies 96 = .ok (.iinc 4 1, 3) := by decide +kernel
theorem dC4_applies_99 : decode cC4_applies 99 = .ok (.goto (-47), 3) := by decide +kernel
theorem dC4_applies_102 : decode cC4_applies 102 = .ok (.iconst 1, 1) := by decide +kernel
theorem dC4_applies_103 : decode cC4_applies 103 = .ok (.ireturn, 1) := by decide +kernel
theorem dC4_findApplying_0 : decode cC4_findApplying 0 = .ok (.iconst 0, 1) := by decide +kernel
theorem dC4_findApplying_1 : decode cC4_findApplying 1 = .ok (.istore_n 2, 1) := by decide +kernel
theorem dC4_findApplying_2 : decode cC4_findApplying 2 = .ok (.iload_n 2, 1) := by decide +kernel
theorem dC4_findApplying_3 : decode cC4_findApplying 3 = .ok (.aload_n 0, 1) := by decide +kernel
theorem dC4_findApplying_4 : decode cC4_findApplying 4 = .ok (.getfield 61, 3) := by decide +kernel
theorem dC4_findApplying_7 : decode cC4_findApplying 7 = .ok (.if_icmp .ge 62, 3) := by decide +kernel
theorem dC4_findApplying_10 : decode cC4_findApplying 10 = .ok (.aload_n 0, 1) := by decide +kernel
theorem dC4_findApplying_11 : decode cC4_findApplying 11 = .ok (.getfield 25, 3) := by decide +kernel
theorem dC4_findApplying_14 : decode cC4_findApplying 14 = .ok (.iload_n 2, 1) := by decide +kernel
theorem dC4_findApplying_15 : decode cC4_findApplying 15 = .ok (.iaload, 1) := by decide +kernel
theorem dC4_findApplying_16 : decode cC4_findApplying 16 = .ok (.istore_n 3, 1) := by decide +kernel
theorem dC4_findApplying_17 : decode cC4_findApplying 17 = .ok (.aload_n 0, 1) := by decide +kernel
theorem dC4_findApplying_18 : decode cC4_findApplying 18 = .ok (.iload_n 3, 1) := by decide +kernel
theorem dC4_findApplying_19 : decode cC4_findApplying 19 = .ok (.iload_n 1, 1) := by decide +kernel
theorem dC4_findApplying_20 : decode cC4_findApplying 20 = .ok (.invokevirtual 81, 3) := by decide +kernel
theorem dC4_findApplying_23 : decode cC4_findApplying 23 = .ok (.ifCond .eq 40, 3) := by decide +kernel
theorem dC4_findApplying_26 : decode cC4_findApplying 26 = .ok (.aload_n 0, 1) := by decide +kernel
theorem dC4_findApplying_27 : decode cC4_findApplying 27 = .ok (.iload_n 1, 1) := by decide +kernel
theorem dC4_findApplying_28 : decode cC4_findApplying 28 = .ok (.putfield 36, 3) := by decide +kernel
theorem dC4_findApplying_31 : decode cC4_findApplying 31 = .ok (.aload_n 0, 1) := by decide +kernel
theorem dC4_findApplying_32 : decode cC4_findApplying 32 = .ok (.getfield 29, 3) := by decide +kernel
theorem dC4_findApplying_35 : decode cC4_findApplying 35 = .ok (.aload_n 0, 1) := by decide +kernel
theorem dC4_findApplying_36 : decode cC4_findApplying 36 = .ok (.getfield 40, 3) := by decide +kernel
theorem dC4_findApplying_39 : decode cC4_findApplying 39 = .ok (.iload_n 3, 1) := by decide +kernel
theorem dC4_findApplying_40 : decode cC4_findApplying 40 = .ok (.iastore, 1) := by decide +kernel
theorem dC4_findApplying_41 : decode cC4_findApplying 41 = .ok (.aload_n 0, 1) := by decide +kernel
theorem dC4_findApplying_42 : decode cC4_findApplying 42 = .ok (.dup, 1) := by decide +kernel
theorem dC4_findApplying_43 : decode cC4_findApplying 43 = .ok (.getfield 47, 3) := by decide +kernel
theorem dC4_findApplying_46 : decode cC4_findApplying 46 = .ok (.lconst 1, 1) := by decide +kernel
theorem dC4_findApplying_47 : decode cC4_findApplying 47 = .ok (.iload_n 3, 1) := by decide +kernel
theorem dC4_findApplying_48 : decode cC4_findApplying 48 = .ok (.lshl, 1) := by decide +kernel
theorem dC4_findApplying_49 : decode cC4_findApplying 49 = .ok (.lor, 1) := by decide +kernel
theorem dC4_findApplying_50 : decode cC4_findApplying 50 = .ok (.putfield 47, 3) := by decide +kernel
theorem dC4_findApplying_53 : decode cC4_findApplying 53 = .ok (.aload_n 0, 1) := by decide +kernel
theorem dC4_findApplying_54 : decode cC4_findApplying 54 = .ok (.dup, 1) := by decide +kernel
theorem dC4_findApplying_55 : decode cC4_findApplying 55 = .ok (.getfield 40, 3) := by decide +kernel
theorem dC4_findApplying_58 : decode cC4_findApplying 58 = .ok (.iconst 1, 1) := by decide +kernel
theorem dC4_findApplying_59 : decode cC4_findApplying 59 = .ok (.iadd, 1) := by decide +kernel
theorem dC4_findApplying_60 : decode cC4_findApplying 60 = .ok (.putfield 40, 3) := by decide +kernel
theorem dC4_findApplying_63 : decode cC4_findApplying 63 = .ok (.iinc 2 1, 3) := by decide +kernel
theorem dC4_findApplying_66 : decode cC4_findApplying 66 = .ok (.goto (-64), 3) := by decide +kernel
theorem dC4_findApplying_69 : decode cC4_findApplying 69 = .ok (.return_, 1) := by decide +kernel
theorem dC4_decide_0 : decode cC4_decide 0 = .ok (.aload_n 0, 1) := by decide +kernel
theorem dC4_decide_1 : decode cC4_decide 1 = .ok (.invokevirtual 51, 3) := by decide +kernel
theorem dC4_decide_4 : decode cC4_decide 4 = .ok (.aload_n 0, 1) := by decide +kernel
theorem dC4_decide_5 : decode cC4_decide 5 = .ok (.getfield 15, 3) := by decide +kernel
theorem dC4_decide_8 : decode cC4_decide 8 = .ok (.invokevirtual 54, 3) := by decide +kernel
theorem dC4_decide_11 : decode cC4_decide 11 = .ok (.aload_n 0, 1) := by decide +kernel
theorem dC4_decide_12 : decode cC4_decide 12 = .ok (.aload_n 0, 1) := by decide +kernel
theorem dC4_decide_13 : decode cC4_decide 13 = .ok (.getfield 15, 3) := by decide +kernel
theorem dC4_decide_16 : decode cC4_decide 16 = .ok (.iload_n 1, 1) := by decide +kernel
theorem dC4_decide_17 : decode cC4_decide 17 = .ok (.iload_n 2, 1) := by decide +kernel
theorem dC4_decide_18 : decode cC4_decide 18 = .ok (.iload_n 3, 1) := by decide +kernel
theorem dC4_decide_19 : decode cC4_decide 19 = .ok (.aload_n 0, 1) := by decide +kernel
theorem dC4_decide_20 : decode cC4_decide 20 = .ok (.getfield 25, 3) := by decide +kernel
theorem dC4_decide_23 : decode cC4_decide 23 = .ok (.invokevirtual 57, 3) := by decide +kernel
theorem dC4_decide_26 : decode cC4_decide 26 = .ok (.putfield 61, 3) := by decide +kernel
theorem dC4_decide_29 : decode cC4_decide 29 = .ok (.aload_n 0, 1) := by decide +kernel
theorem dC4_decide_30 : decode cC4_decide 30 = .ok (.getfield 61, 3) := by decide +kernel
theorem dC4_decide_33 : decode cC4_decide 33 = .ok (.ifCond .ne 6, 3) := by decide +kernel
theorem dC4_decide_36 : decode cC4_decide 36 = .ok (.bipush (-3), 2) := by decide +kernel
theorem dC4_decide_38 : decode cC4_decide 38 = .ok (.ireturn, 1) := by decide +kernel
theorem dC4_decide_39 : decode cC4_decide 39 = .ok (.aload_n 0, 1) := by decide +kernel
theorem dC4_decide_40 : decode cC4_decide 40 = .ok (.invokevirtual 64, 3) := by decide +kernel
theorem dC4_decide_43 : decode cC4_decide 43 = .ok (.aload_n 0, 1) := by decide +kernel
theorem dC4_decide_44 : decode cC4_decide 44 = .ok (.getfield 61, 3) := by decide +kernel
theorem dC4_decide_47 : decode cC4_decide 47 = .ok (.ifCond .ne 6, 3) := by decide +kernel
theorem dC4_decide_50 : decode cC4_decide 50 = .ok (.bipush (-4), 2) := by decide +kernel
theorem dC4_decide_52 : decode cC4_decide 52 = .ok (.ireturn, 1) := by decide +kernel
theorem dC4_decide_53 : decode cC4_decide 53 = .ok (.iconst 1, 1) := by decide +kernel
theorem dC4_decide_54 : decode cC4_decide 54 = .ok (.istore 4, 2) := by decide +kernel
theorem dC4_decide_56 : decode cC4_decide 56 = .ok (.iload 4, 2) := by decide +kernel
theorem dC4_decide_58 : decode cC4_decide 58 = .ok (.iconst 3, 1) := by decide +kernel
theorem dC4_decide_59 : decode cC4_decide 59 = .ok (.if_icmp .gt 22, 3) := by decide +kernel
theorem dC4_decide_62 : decode cC4_decide 62 = .ok (.aload_n 0, 1) := by decide +kernel
theorem dC4_decide_63 : decode cC4_decide 63 = .ok (.getfield 40, 3) := by decide +kernel
theorem dC4_decide_66 : decode cC4_decide 66 = .ok (.ifCond .ne 15, 3) := by decide +kernel
theorem dC4_decide_69 : decode cC4_decide 69 = .ok (.aload_n 0, 1) := by decide +kernel
theorem dC4_decide_70 : decode cC4_decide 70 = .ok (.iload 4, 2) := by decide +kernel
theorem dC4_decide_72 : decode cC4_decide 72 = .ok (.invokevirtual 67, 3) := by decide +kernel
theorem dC4_decide_75 : decode cC4_decide 75 = .ok (.iinc 4 1, 3) := by decide +kernel
theorem dC4_decide_78 : decode cC4_decide 78 = .ok (.goto (-22), 3) := by decide +kernel
theorem dC4_decide_81 : decode cC4_decide 81 = .ok (.aload_n 0, 1) := by decide +kernel
theorem dC4_decide_82 : decode cC4_decide 82 = .ok (.getfield 40, 3) := by decide +kernel
theorem dC4_decide_85 : decode cC4_decide 85 = .ok (.ifCond .ne 6, 3) := by decide +kernel
theorem dC4_decide_88 : decode cC4_decide 88 = .ok (.bipush (-5), 2) := by decide +kernel
theorem dC4_decide_90 : decode cC4_decide 90 = .ok (.ireturn, 1) := by decide +kernel
theorem dC4_decide_91 : decode cC4_decide 91 = .ok (.aload_n 0, 1) := by decide +kernel
theorem dC4_decide_92 : decode cC4_decide 92 = .ok (.invokevirtual 71, 3) := by decide +kernel
theorem dC4_decide_95 : decode cC4_decide 95 = .ok (.aload_n 0, 1) := by decide +kernel
theorem dC4_decide_96 : decode cC4_decide 96 = .ok (.invokevirtual 74, 3) := by decide +kernel
theorem dC4_decide_99 : decode cC4_decide 99 = .ok (.ireturn, 1) := by decide +kernel
theorem dC0_choose_0 : decode cC0_choose 0 = .ok (.aload_n 0, 1) := by decide +kernel
theorem dC0_choose_1 : decode cC0_choose 1 = .ok (.iload_n 1, 1) := by decide +kernel
theorem dC0_choose_2 : decode cC0_choose 2 = .ok (.iload_n 2, 1) := by decide +kernel
theorem dC0_choose_3 : decode cC0_choose 3 = .ok (.iload_n 3, 1) := by decide +kernel
theorem dC0_choose_4 : decode cC0_choose 4 = .ok (.invokevirtual 89, 3) := by decide +kernel
theorem dC0_choose_7 : decode cC0_choose 7 = .ok (.ifCond .eq 14, 3) := by decide +kernel
theorem dC0_choose_10 : decode cC0_choose 10 = .ok (.iload 4, 2) := by decide +kernel
theorem dC0_choose_12 : decode cC0_choose 12 = .ok (.ifCond .lt 9, 3) := by decide +kernel
theorem dC0_choose_15 : decode cC0_choose 15 = .ok (.iload 4, 2) := by decide +kernel
theorem dC0_choose_17 : decode cC0_choose 17 = .ok (.iconst 1, 1) := by decide +kernel
theorem dC0_choose_18 : decode cC0_choose 18 = .ok (.if_icmp .le 6, 3) := by decide +kernel
theorem dC0_choose_21 : decode cC0_choose 21 = .ok (.bipush (-2), 2) := by decide +kernel
theorem dC0_choose_23 : decode cC0_choose 23 = .ok (.ireturn, 1) := by decide +kernel
theorem dC0_choose_24 : decode cC0_choose 24 = .ok (.aload_n 0, 1) := by decide +kernel
theorem dC0_choose_25 : decode cC0_choose 25 = .ok (.getfield 37, 3) := by decide +kernel
theorem dC0_choose_28 : decode cC0_choose 28 = .ok (.iload_n 1, 1) := by decide +kernel
theorem dC0_choose_29 : decode cC0_choose 29 = .ok (.iload_n 2, 1) := by decide +kernel
theorem dC0_choose_30 : decode cC0_choose 30 = .ok (.iload_n 3, 1) := by decide +kernel
theorem dC0_choose_31 : decode cC0_choose 31 = .ok (.invokevirtual 113, 3) := by decide +kernel
theorem dC0_choose_34 : decode cC0_choose 34 = .ok (.istore 5, 2) := by decide +kernel
theorem dC0_choose_36 : decode cC0_choose 36 = .ok (.iload 5, 2) := by decide +kernel
theorem dC0_choose_38 : decode cC0_choose 38 = .ok (.ifCond .lt 26, 3) := by decide +kernel
theorem dC0_choose_41 : decode cC0_choose 41 = .ok (.iload 4, 2) := by decide +kernel
theorem dC0_choose_43 : decode cC0_choose 43 = .ok (.iconst 1, 1) := by decide +kernel
theorem dC0_choose_44 : decode cC0_choose 44 = .ok (.if_icmp .ne 20, 3) := by decide +kernel
theorem dC0_choose_47 : decode cC0_choose 47 = .ok (.aload_n 0, 1) := by decide +kernel
theorem dC0_choose_48 : decode cC0_choose 48 = .ok (.getfield 21, 3) := by decide +kernel
theorem dC0_choose_51 : decode cC0_choose 51 = .ok (.iload 5, 2) := by decide +kernel
theorem dC0_choose_53 : decode cC0_choose 53 = .ok (.invokevirtual 117, 3) := by decide +kernel
theorem dC0_choose_56 : decode cC0_choose 56 = .ok (.ifCond .ne 8, 3) := by decide +kernel
theorem dC0_choose_59 : decode cC0_choose 59 = .ok (.bipush (-7), 2) := by decide +kernel
theorem dC0_choose_61 : decode cC0_choose 61 = .ok (.goto 5, 3) := by decide +kernel
theorem dC0_choose_64 : decode cC0_choose 64 = .ok (.iload 5, 2) := by decide +kernel
theorem dC0_choose_66 : decode cC0_choose 66 = .ok (.ireturn, 1) := by decide +kernel
theorem dC4_phaseReached_0 : decode cC4_phaseReached 0 = .ok (.aload_n 0, 1) := by decide +kernel
theorem dC4_phaseReached_1 : decode cC4_phaseReached 1 = .ok (.getfield 36, 3) := by decide +kernel
theorem dC4_phaseReached_4 : decode cC4_phaseReached 4 = .ok (.ireturn, 1) := by decide +kernel
theorem dC0_phase_0 : decode cC0_phase 0 = .ok (.aload_n 0, 1) := by decide +kernel
theorem dC0_phase_1 : decode cC0_phase 1 = .ok (.getfield 37, 3) := by decide +kernel
theorem dC0_phase_4 : decode cC0_phase 4 = .ok (.invokevirtual 120, 3) := by decide +kernel
theorem dC0_phase_7 : decode cC0_phase 7 = .ok (.ireturn, 1) := by decide +kernel
theorem dC4_applyingAt_0 : decode cC4_applyingAt 0 = .ok (.iload_n 1, 1) := by decide +kernel
theorem dC4_applyingAt_1 : decode cC4_applyingAt 1 = .ok (.ifCond .lt 20, 3) := by decide +kernel
theorem dC4_applyingAt_4 : decode cC4_applyingAt 4 = .ok (.iload_n 1, 1) := by decide +kernel
theorem dC4_applyingAt_5 : decode cC4_applyingAt 5 = .ok (.aload_n 0, 1) := by decide +kernel
theorem dC4_applyingAt_6 : decode cC4_applyingAt 6 = .ok (.getfield 40, 3) := by decide +kernel
theorem dC4_applyingAt_9 : decode cC4_applyingAt 9 = .ok (.if_icmp .ge 12, 3) := by decide +kernel
theorem dC4_applyingAt_12 : decode cC4_applyingAt 12 = .ok (.aload_n 0, 1) := by decide +kernel
theorem dC4_applyingAt_13 : decode cC4_applyingAt 13 = .ok (.getfield 29, 3) := by decide +kernel
theorem dC4_applyingAt_16 : decode cC4_applyingAt 16 = .ok (.iload_n 1, 1) := by decide +kernel
theorem dC4_applyingAt_17 : decode cC4_applyingAt 17 = .ok (.iaload, 1) := by decide +kernel
theorem dC4_applyingAt_18 : decode cC4_applyingAt 18 = .ok (.goto 4, 3) := by decide +kernel
theorem dC4_applyingAt_21 : decode cC4_applyingAt 21 = .ok (.iconst (-1), 1) := by decide +kernel
theorem dC4_applyingAt_22 : decode cC4_applyingAt 22 = .ok (.ireturn, 1) := by decide +kernel
theorem dC0_applied_0 : decode cC0_applied 0 = .ok (.aload_n 0, 1) := by decide +kernel
theorem dC0_applied_1 : decode cC0_applied 1 = .ok (.getfield 37, 3) := by decide +kernel
theorem dC0_applied_4 : decode cC0_applied 4 = .ok (.iload_n 1, 1) := by decide +kernel
theorem dC0_applied_5 : decode cC0_applied 5 = .ok (.invokevirtual 123, 3) := by decide +kernel
theorem dC0_applied_8 : decode cC0_applied 8 = .ok (.ireturn, 1) := by decide +kernel
theorem dC4_didApply_0 : decode cC4_didApply 0 = .ok (.iload_n 1, 1) := by decide +kernel
theorem dC4_didApply_1 : decode cC4_didApply 1 = .ok (.ifCond .lt 26, 3) := by decide +kernel
theorem dC4_didApply_4 : decode cC4_didApply 4 = .ok (.iload_n 1, 1) := by decide +kernel
theorem dC4_didApply_5 : decode cC4_didApply 5 = .ok (.bipush 60, 2) := by decide +kernel
theorem dC4_didApply_7 : decode cC4_didApply 7 = .ok (.if_icmp .ge 20, 3) := by decide +kernel
theorem dC4_didApply_10 : decode cC4_didApply 10 = .ok (.aload_n 0, 1) := by decide +kernel
theorem dC4_didApply_11 : decode cC4_didApply 11 = .ok (.getfield 47, 3) := by decide +kernel
theorem dC4_didApply_14 : decode cC4_didApply 14 = .ok (.iload_n 1, 1) := by decide +kernel
theorem dC4_didApply_15 : decode cC4_didApply 15 = .ok (.lushr, 1) := by decide +kernel
theorem dC4_didApply_16 : decode cC4_didApply 16 = .ok (.lconst 1, 1) := by decide +kernel
theorem dC4_didApply_17 : decode cC4_didApply 17 = .ok (.land, 1) := by decide +kernel
theorem dC4_didApply_18 : decode cC4_didApply 18 = .ok (.lconst 0, 1) := by decide +kernel
theorem dC4_didApply_19 : decode cC4_didApply 19 = .ok (.lcmp, 1) := by decide +kernel
theorem dC4_didApply_20 : decode cC4_didApply 20 = .ok (.ifCond .eq 7, 3) := by decide +kernel
theorem dC4_didApply_23 : decode cC4_didApply 23 = .ok (.iconst 1, 1) := by decide +kernel
theorem dC4_didApply_24 : decode cC4_didApply 24 = .ok (.goto 4, 3) := by decide +kernel
theorem dC4_didApply_27 : decode cC4_didApply 27 = .ok (.iconst 0, 1) := by decide +kernel
theorem dC4_didApply_28 : decode cC4_didApply 28 = .ok (.ireturn, 1) := by decide +kernel
theorem dC4_compared_0 : decode cC4_compared 0 = .ok (.aload_n 0, 1) := by decide +kernel
theorem dC4_compared_1 : decode cC4_compared 1 = .ok (.iload_n 1, 1) := by decide +kernel
theorem dC4_compared_2 : decode cC4_compared 2 = .ok (.invokevirtual 43, 3) := by decide +kernel
theorem dC4_compared_5 : decode cC4_compared 5 = .ok (.ifCond .eq 11, 3) := by decide +kernel
theorem dC4_compared_8 : decode cC4_compared 8 = .ok (.aload_n 0, 1) := by decide +kernel
theorem dC4_compared_9 : decode cC4_compared 9 = .ok (.iload_n 2, 1) := by decide +kernel
theorem dC4_compared_10 : decode cC4_compared 10 = .ok (.invokevirtual 43, 3) := by decide +kernel
theorem dC4_compared_13 : decode cC4_compared 13 = .ok (.ifCond .ne 5, 3) := by decide +kernel
theorem dC4_compared_16 : decode cC4_compared 16 = .ok (.iconst (-1), 1) := by decide +kernel
theorem dC4_compared_17 : decode cC4_compared 17 = .ok (.ireturn, 1) := by decide +kernel
theorem dC4_compared_18 : decode cC4_compared 18 = .ok (.aload_n 0, 1) := by decide +kernel
theorem dC4_compared_19 : decode cC4_compared 19 = .ok (.getfield 32, 3) := by decide +kernel
theorem dC4_compared_22 : decode cC4_compared 22 = .ok (.iload_n 1, 1) := by decide +kernel
theorem dC4_compared_23 : decode cC4_compared 23 = .ok (.laload, 1) := by decide +kernel
theorem dC4_compared_24 : decode cC4_compared 24 = .ok (.iload_n 2, 1) := by decide +kernel
theorem dC4_compared_25 : decode cC4_compared 25 = .ok (.lushr, 1) := by decide +kernel
theorem dC4_compared_26 : decode cC4_compared 26 = .ok (.lconst 1, 1) := by decide +kernel
theorem dC4_compared_27 : decode cC4_compared 27 = .ok (.land, 1) := by decide +kernel
theorem dC4_compared_28 : decode cC4_compared 28 = .ok (.lconst 0, 1) := by decide +kernel
theorem dC4_compared_29 : decode cC4_compared 29 = .ok (.lcmp, 1) := by decide +kernel
theorem dC4_compared_30 : decode cC4_compared 30 = .ok (.ifCond .eq 7, 3) := by decide +kernel
theorem dC4_compared_33 : decode cC4_compared 33 = .ok (.iconst 1, 1) := by decide +kernel
theorem dC4_compared_34 : decode cC4_compared 34 = .ok (.goto 4, 3) := by decide +kernel
theorem dC4_compared_37 : decode cC4_compared 37 = .ok (.iconst 0, 1) := by decide +kernel
theorem dC4_compared_38 : decode cC4_compared 38 = .ok (.ireturn, 1) := by decide +kernel
theorem dC0_special_0 : decode cC0_special 0 = .ok (.aload_n 0, 1) := by decide +kernel
theorem dC0_special_1 : decode cC0_special 1 = .ok (.getfield 37, 3) := by decide +kernel
theorem dC0_special_4 : decode cC0_special 4 = .ok (.iload_n 1, 1) := by decide +kernel
theorem dC0_special_5 : decode cC0_special 5 = .ok (.iload_n 2, 1) := by decide +kernel
theorem dC0_special_6 : decode cC0_special 6 = .ok (.invokevirtual 126, 3) := by decide +kernel
theorem dC0_special_9 : decode cC0_special 9 = .ok (.ireturn, 1) := by decide +kernel
theorem dC2_size_0 : decode cC2_size 0 = .ok (.aload_n 0, 1) := by decide +kernel
theorem dC2_size_1 : decode cC2_size 1 = .ok (.getfield 45, 3) := by decide +kernel
theorem dC2_size_4 : decode cC2_size 4 = .ok (.ireturn, 1) := by decide +kernel
theorem dC0_count_0 : decode cC0_count 0 = .ok (.iload_n 1, 1) := by decide +kernel
theorem dC0_count_1 : decode cC0_count 1 = .ok (.tableswitch 51 0 2 #[27, 35, 43], 27) := by decide +kernel
theorem dC0_count_28 : decode cC0_count 28 = .ok (.aload_n 0, 1) := by decide +kernel
theorem dC0_count_29 : decode cC0_count 29 = .ok (.getfield 10, 3) := by decide +kernel
theorem dC0_count_32 : decode cC0_count 32 = .ok (.invokevirtual 129, 3) := by decide +kernel
theorem dC0_count_35 : decode cC0_count 35 = .ok (.ireturn, 1) := by decide +kernel
theorem dC0_count_36 : decode cC0_count 36 = .ok (.aload_n 0, 1) := by decide +kernel
theorem dC0_count_37 : decode cC0_count 37 = .ok (.getfield 21, 3) := by decide +kernel
theorem dC0_count_40 : decode cC0_count 40 = .ok (.invokevirtual 132, 3) := by decide +kernel
theorem dC0_count_43 : decode cC0_count 43 = .ok (.ireturn, 1) := by decide +kernel
theorem dC0_count_44 : decode cC0_count 44 = .ok (.aload_n 0, 1) := by decide +kernel
theorem dC0_count_45 : decode cC0_count 45 = .ok (.getfield 28, 3) := by decide +kernel
theorem dC0_count_48 : decode cC0_count 48 = .ok (.invokevirtual 133, 3) := by decide +kernel
theorem dC0_count_51 : decode cC0_count 51 = .ok (.ireturn, 1) := by decide +kernel
theorem dC0_count_52 : decode cC0_count 52 = .ok (.bipush (-2), 2) := by decide +kernel
theorem dC0_count_54 : decode cC0_count 54 = .ok (.ireturn, 1) := by decide +kernel
theorem dCM_forgetFunctions_0 : decode cCM_forgetFunctions 0 = .ok (.iconst 0, 1) := by decide +kernel
theorem dCM_forgetFunctions_1 : decode cCM_forgetFunctions 1 = .ok (.istore_n 1, 1) := by decide +kernel
theorem dCM_forgetFunctions_2 : decode cCM_forgetFunctions 2 = .ok (.iload_n 1, 1) := by decide +kernel
theorem dCM_forgetFunctions_3 : decode cCM_forgetFunctions 3 = .ok (.bipush 24, 2) := by decide +kernel
theorem dCM_forgetFunctions_5 : decode cCM_forgetFunctions 5 = .ok (.if_icmp .ge 17, 3) := by decide +kernel
theorem dCM_forgetFunctions_8 : decode cCM_forgetFunctions 8 = .ok (.aload_n 0, 1) := by decide +kernel
theorem dCM_forgetFunctions_9 : decode cCM_forgetFunctions 9 = .ok (.getfield 65, 3) := by decide +kernel
theorem dCM_forgetFunctions_12 : decode cCM_forgetFunctions 12 = .ok (.iload_n 1, 1) := by decide +kernel
theorem dCM_forgetFunctions_13 : decode cCM_forgetFunctions 13 = .ok (.bipush (-2), 2) := by decide +kernel
theorem dCM_forgetFunctions_15 : decode cCM_forgetFunctions 15 = .ok (.iastore, 1) := by decide +kernel
theorem dCM_forgetFunctions_16 : decode cCM_forgetFunctions 16 = .ok (.iinc 1 1, 3) := by decide +kernel
theorem dCM_forgetFunctions_19 : decode cCM_forgetFunctions 19 = .ok (.goto (-17), 3) := by decide +kernel
theorem dCM_forgetFunctions_22 : decode cCM_forgetFunctions 22 = .ok (.return_, 1) := by decide +kernel
theorem dCM_closeTypes_0 : decode cCM_closeTypes 0 = .ok (.aload_n 0, 1) := by decide +kernel
theorem dCM_closeTypes_1 : decode cCM_closeTypes 1 = .ok (.invokevirtual 79, 3) := by decide +kernel
theorem dCM_closeTypes_4 : decode cCM_closeTypes 4 = .ok (.iconst 0, 1) := by decide +kernel
theorem dCM_closeTypes_5 : decode cCM_closeTypes 5 = .ok (.istore_n 1, 1) := by decide +kernel
theorem dCM_closeTypes_6 : decode cCM_closeTypes 6 = .ok (.iload_n 1, 1) := by decide +kernel
theorem dCM_closeTypes_7 : decode cCM_closeTypes 7 = .ok (.aload_n 0, 1) := by decide +kernel
theorem dCM_closeTypes_8 : decode cCM_closeTypes 8 = .ok (.getfield 68, 3) := by decide +kernel
theorem dCM_closeTypes_11 : decode cCM_closeTypes 11 = .ok (.if_icmp .ge 109, 3) := by decide +kernel
theorem dCM_closeTypes_14 : decode cCM_closeTypes 14 = .ok (.iconst 0, 1) := by decide +kernel
theorem dCM_closeTypes_15 : decode cCM_closeTypes 15 = .ok (.istore_n 2, 1) := by decide +kernel
theorem dCM_closeTypes_16 : decode cCM_closeTypes 16 = .ok (.iload_n 2, 1) := by decide +kernel
theorem dCM_closeTypes_17 : decode cCM_closeTypes 17 = .ok (.aload_n 0, 1) := by decide +kernel
theorem dCM_closeTypes_18 : decode cCM_closeTypes 18 = .ok (.getfield 68, 3) := by decide +kernel
theorem dCM_closeTypes_21 : decode cCM_closeTypes 21 = .ok (.if_icmp .ge 93, 3) := by decide +kernel
theorem dCM_closeTypes_24 : decode cCM_closeTypes 24 = .ok (.iload_n 1, 1) := by decide +kernel
theorem dCM_closeTypes_25 : decode cCM_closeTypes 25 = .ok (.iload_n 2, 1) := by decide +kernel
theorem dCM_closeTypes_26 : decode cCM_closeTypes 26 = .ok (.if_icmp .eq 16, 3) := by decide +kernel
theorem dCM_closeTypes_29 : decode cCM_closeTypes 29 = .ok (.aload_n 0, 1) := by decide +kernel
theorem dCM_closeTypes_30 : decode cCM_closeTypes 30 = .ok (.getfield 13, 3) := by decide +kernel
theorem dCM_closeTypes_33 : decode cCM_closeTypes 33 = .ok (.iload_n 1, 1) := by decide +kernel
theorem dCM_closeTypes_34 : decode cCM_closeTypes 34 = .ok (.iaload, 1) := by decide +kernel
theorem dCM_closeTypes_35 : decode cCM_closeTypes 35 = .ok (.bipush 16, 2) := by decide +kernel
theorem dCM_closeTypes_37 : decode cCM_closeTypes 37 = .ok (.iload_n 2, 1) := by decide +kernel
theorem dCM_closeTypes_38 : decode cCM_closeTypes 38 = .ok (.iadd, 1) := by decide +kernel
theorem dCM_closeTypes_39 : decode cCM_closeTypes 39 = .ok (.if_icmp .ne 7, 3) := by decide +kernel
theorem dCM_closeTypes_42 : decode cCM_closeTypes 42 = .ok (.iconst 1, 1) := by decide +kernel
theorem dCM_closeTypes_43 : decode cCM_closeTypes 43 = .ok (.goto 4, 3) := by decide +kernel
theorem dCM_closeTypes_46 : decode cCM_closeTypes 46 = .ok (.iconst 0, 1) := by decide +kernel
theorem dCM_closeTypes_47 : decode cCM_closeTypes 47 = .ok (.istore_n 3, 1) := by decide +kernel
theorem dCM_closeTypes_48 : decode cCM_closeTypes 48 = .ok (.iconst 0, 1) := by decide +kernel
theorem dCM_closeTypes_49 : decode cCM_closeTypes 49 = .ok (.istore 4, 2) := by decide +kernel
theorem dCM_closeTypes_51 : decode cCM_closeTypes 51 = .ok (.iload 4, 2) := by decide +kernel
theorem dCM_closeTypes_53 : decode cCM_closeTypes 53 = .ok (.aload_n 0, 1) := by decide +kernel
theorem dCM_closeTypes_54 : decode cCM_closeTypes 54 = .ok (.getfield 17, 3) := by decide +kernel
theorem dCM_closeTypes_57 : decode cCM_closeTypes 57 = .ok (.iload_n 1, 1) := by decide +kernel
theorem dCM_closeTypes_58 : decode cCM_closeTypes 58 = .ok (.iaload, 1) := by decide +kernel
theorem dCM_closeTypes_59 : decode cCM_closeTypes 59 = .ok (.if_icmp .ge 37, 3) := by decide +kernel
theorem dCM_closeTypes_62 : decode cCM_closeTypes 62 = .ok (.iload_n 3, 1) := by decide +kernel
theorem dCM_closeTypes_63 : decode cCM_closeTypes 63 = .ok (.ifCond .ne 21, 3) := by decide +kernel
theorem dCM_closeTypes_66 : decode cCM_closeTypes 66 = .ok (.aload_n 0, 1) := by decide +kernel
theorem dCM_closeTypes_67 : decode cCM_closeTypes 67 = .ok (.getfield 20, 3) := by decide +kernel
theorem dCM_closeTypes_70 : decode cCM_closeTypes 70 = .ok (.iconst 4, 1) := by decide +kernel
theorem dCM_closeTypes_71 : decode cCM_closeTypes 71 = .ok (.iload_n 1, 1) := by decide +kernel
theorem dCM_closeTypes_72 : decode cCM_closeTypes 72 = .ok (.imul, 1) := by decide +kernel
theorem dCM_closeTypes_73 : decode cCM_closeTypes 73 = .ok (.iload 4, 2) := by decide +kernel
theorem dCM_closeTypes_75 : decode cCM_closeTypes 75 = .ok (.iadd, 1) := by decide +kernel
theorem dCM_closeTypes_76 : decode cCM_closeTypes 76 = .ok (.iaload, 1) := by decide +kernel
theorem dCM_closeTypes_77 : decode cCM_closeTypes 77 = .ok (.bipush 16, 2) := by decide +kernel
theorem dCM_closeTypes_79 : decode cCM_closeTypes 79 = .ok (.iload_n 2, 1) := by decide +kernel
theorem dCM_closeTypes_80 : decode cCM_closeTypes 80 = .ok (.iadd, 1) := by decide +kernel
theorem dCM_closeTypes_81 : decode cCM_closeTypes 81 = .ok (.if_icmp .ne 7, 3) := by decide +kernel
theorem dCM_closeTypes_84 : decode cCM_closeTypes 84 = .ok (.iconst 1, 1) := by decide +kernel
theorem dCM_closeTypes_85 : decode cCM_closeTypes 85 = .ok (.goto 4, 3) := by decide +kernel
theorem dCM_closeTypes_88 : decode cCM_closeTypes 88 = .ok (.iconst 0, 1) := by decide +kernel
theorem dCM_closeTypes_89 : decode cCM_closeTypes 89 = .ok (.istore_n 3, 1) := by decide +kernel
theorem dCM_closeTypes_90 : decode cCM_closeTypes 90 = .ok (.iinc 4 1, 3) := by decide +kernel
theorem dCM_closeTypes_93 : decode cCM_closeTypes 93 = .ok (.goto (-42), 3) := by decide +kernel
theorem dCM_closeTypes_96 : decode cCM_closeTypes 96 = .ok (.aload_n 0, 1) := by decide +kernel
theorem dCM_closeTypes_97 : decode cCM_closeTypes 97 = .ok (.getfield 23, 3) := by decide +kernel
theorem dCM_closeTypes_100 : decode cCM_closeTypes 100 = .ok (.bipush 24, 2) := by decide +kernel
theorem dCM_closeTypes_102 : decode cCM_closeTypes 102 = .ok (.iload_n 1, 1) := by decide +kernel
theorem dCM_closeTypes_103 : decode cCM_closeTypes 103 = .ok (.imul, 1) := by decide +kernel
theorem dCM_closeTypes_104 : decode cCM_closeTypes 104 = .ok (.iload_n 2, 1) := by decide +kernel
theorem dCM_closeTypes_105 : decode cCM_closeTypes 105 = .ok (.iadd, 1) := by decide +kernel
theorem dCM_closeTypes_106 : decode cCM_closeTypes 106 = .ok (.iload_n 3, 1) := by decide +kernel
theorem dCM_closeTypes_107 : decode cCM_closeTypes 107 = .ok (.bastore, 1) := by decide +kernel
theorem dCM_closeTypes_108 : decode cCM_closeTypes 108 = .ok (.iinc 2 1, 3) := by decide +kernel
theorem dCM_closeTypes_111 : decode cCM_closeTypes 111 = .ok (.goto (-95), 3) := by decide +kernel
theorem dCM_closeTypes_114 : decode cCM_closeTypes 114 = .ok (.iinc 1 1, 3) := by decide +kernel
theorem dCM_closeTypes_117 : decode cCM_closeTypes 117 = .ok (.goto (-111), 3) := by decide +kernel
theorem dCM_closeTypes_120 : decode cCM_closeTypes 120 = .ok (.iconst 0, 1) := by decide +kernel
theorem dCM_closeTypes_121 : decode cCM_closeTypes 121 = .ok (.istore_n 1, 1) := by decide +kernel
theorem dCM_closeTypes_122 : decode cCM_closeTypes 122 = .ok (.iload_n 1, 1) := by decide +kernel
theorem dCM_closeTypes_123 : decode cCM_closeTypes 123 = .ok (.aload_n 0, 1) := by decide +kernel
theorem dCM_closeTypes_124 : decode cCM_closeTypes 124 = .ok (.getfield 68, 3) := by decide +kernel
theorem dCM_closeTypes_127 : decode cCM_closeTypes 127 = .ok (.if_icmp .ge 99, 3) := by decide +kernel
theorem dCM_closeTypes_130 : decode cCM_closeTypes 130 = .ok (.iconst 0, 1) := by decide +kernel
theorem dCM_closeTypes_131 : decode cCM_closeTypes 131 = .ok (.istore_n 2, 1) := by decide +kernel
theorem dCM_closeTypes_132 : decode cCM_closeTypes 132 = .ok (.iload_n 2, 1) := by decide +kernel
theorem dCM_closeTypes_133 : decode cCM_closeTypes 133 = .ok (.aload_n 0, 1) := by decide +kernel
theorem dCM_closeTypes_134 : decode cCM_closeTypes 134 = .ok (.getfield 68, 3) := by decide +kernel
theorem dCM_closeTypes_137 : decode cCM_closeTypes 137 = .ok (.if_icmp .ge 83, 3) := by decide +kernel
theorem dCM_closeTypes_140 : decode cCM_closeTypes 140 = .ok (.iconst 0, 1) := by decide +kernel
end
section
theorem dCM_closeTypes_141 : decode cCM_closeTypes 141 = .ok (.istore_n 3, 1) := by decide +kernel
theorem dCM_closeTypes_142 : decode cCM_closeTypes 142 = .ok (.iload_n 3, 1) := by decide +kernel
theorem dCM_closeTypes_143 : decode cCM_closeTypes 143 = .ok (.aload_n 0, 1) := by decide +kernel
theorem dCM_closeTypes_144 : decode cCM_closeTypes 144 = .ok (.getfield 68, 3) := by decide +kernel
theorem dCM_closeTypes_147 : decode cCM_closeTypes 147 = .ok (.if_icmp .ge 67, 3) := by decide +kernel
theorem dCM_closeTypes_150 : decode cCM_closeTypes 150 = .ok (.aload_n 0, 1) := by decide +kernel
theorem dCM_closeTypes_151 : decode cCM_closeTypes 151 = .ok (.getfield 23, 3) := by decide +kernel
theorem dCM_closeTypes_154 : decode cCM_closeTypes 154 = .ok (.bipush 24, 2) := by decide +kernel
theorem dCM_closeTypes_156 : decode cCM_closeTypes 156 = .ok (.iload_n 2, 1) := by decide +kernel
theorem dCM_closeTypes_157 : decode cCM_closeTypes 157 = .ok (.imul, 1) := by decide +kernel
theorem dCM_closeTypes_158 : decode cCM_closeTypes 158 = .ok (.iload_n 3, 1) := by decide +kernel
theorem dCM_closeTypes_159 : decode cCM_closeTypes 159 = .ok (.iadd, 1) := by decide +kernel
theorem dCM_closeTypes_160 : decode cCM_closeTypes 160 = .ok (.aload_n 0, 1) := by decide +kernel
theorem dCM_closeTypes_161 : decode cCM_closeTypes 161 = .ok (.getfield 23, 3) := by decide +kernel
theorem dCM_closeTypes_164 : decode cCM_closeTypes 164 = .ok (.bipush 24, 2) := by decide +kernel
theorem dCM_closeTypes_166 : decode cCM_closeTypes 166 = .ok (.iload_n 2, 1) := by decide +kernel
theorem dCM_closeTypes_167 : decode cCM_closeTypes 167 = .ok (.imul, 1) := by decide +kernel
theorem dCM_closeTypes_168 : decode cCM_closeTypes 168 = .ok (.iload_n 3, 1) := by decide +kernel
theorem dCM_closeTypes_169 : decode cCM_closeTypes 169 = .ok (.iadd, 1) := by decide +kernel
theorem dCM_closeTypes_170 : decode cCM_closeTypes 170 = .ok (.baload, 1) := by decide +kernel
theorem dCM_closeTypes_171 : decode cCM_closeTypes 171 = .ok (.ifCond .ne 31, 3) := by decide +kernel
theorem dCM_closeTypes_174 : decode cCM_closeTypes 174 = .ok (.aload_n 0, 1) := by decide +kernel
theorem dCM_closeTypes_175 : decode cCM_closeTypes 175 = .ok (.getfield 23, 3) := by decide +kernel
theorem dCM_closeTypes_178 : decode cCM_closeTypes 178 = .ok (.bipush 24, 2) := by decide +kernel
theorem dCM_closeTypes_180 : decode cCM_closeTypes 180 = .ok (.iload_n 2, 1) := by decide +kernel
theorem dCM_closeTypes_181 : decode cCM_closeTypes 181 = .ok (.imul, 1) := by decide +kernel
theorem dCM_closeTypes_182 : decode cCM_closeTypes 182 = .ok (.iload_n 1, 1) := by decide +kernel
theorem dCM_closeTypes_183 : decode cCM_closeTypes 183 = .ok (.iadd, 1) := by decide +kernel
theorem dCM_closeTypes_184 : decode cCM_closeTypes 184 = .ok (.baload, 1) := by decide +kernel
theorem dCM_closeTypes_185 : decode cCM_closeTypes 185 = .ok (.ifCond .eq 21, 3) := by decide +kernel
theorem dCM_closeTypes_188 : decode cCM_closeTypes 188 = .ok (.aload_n 0, 1) := by decide +kernel
theorem dCM_closeTypes_189 : decode cCM_closeTypes 189 = .ok (.getfield 23, 3) := by decide +kernel
theorem dCM_closeTypes_192 : decode cCM_closeTypes 192 = .ok (.bipush 24, 2) := by decide +kernel
theorem dCM_closeTypes_194 : decode cCM_closeTypes 194 = .ok (.iload_n 1, 1) := by decide +kernel
theorem dCM_closeTypes_195 : decode cCM_closeTypes 195 = .ok (.imul, 1) := by decide +kernel
theorem dCM_closeTypes_196 : decode cCM_closeTypes 196 = .ok (.iload_n 3, 1) := by decide +kernel
theorem dCM_closeTypes_197 : decode cCM_closeTypes 197 = .ok (.iadd, 1) := by decide +kernel
theorem dCM_closeTypes_198 : decode cCM_closeTypes 198 = .ok (.baload, 1) := by decide +kernel
theorem dCM_closeTypes_199 : decode cCM_closeTypes 199 = .ok (.ifCond .eq 7, 3) := by decide +kernel
theorem dCM_closeTypes_202 : decode cCM_closeTypes 202 = .ok (.iconst 1, 1) := by decide +kernel
theorem dCM_closeTypes_203 : decode cCM_closeTypes 203 = .ok (.goto 4, 3) := by decide +kernel
theorem dCM_closeTypes_206 : decode cCM_closeTypes 206 = .ok (.iconst 0, 1) := by decide +kernel
theorem dCM_closeTypes_207 : decode cCM_closeTypes 207 = .ok (.bastore, 1) := by decide +kernel
theorem dCM_closeTypes_208 : decode cCM_closeTypes 208 = .ok (.iinc 3 1, 3) := by decide +kernel
theorem dCM_closeTypes_211 : decode cCM_closeTypes 211 = .ok (.goto (-69), 3) := by decide +kernel
theorem dCM_closeTypes_214 : decode cCM_closeTypes 214 = .ok (.iinc 2 1, 3) := by decide +kernel
theorem dCM_closeTypes_217 : decode cCM_closeTypes 217 = .ok (.goto (-85), 3) := by decide +kernel
theorem dCM_closeTypes_220 : decode cCM_closeTypes 220 = .ok (.iinc 1 1, 3) := by decide +kernel
theorem dCM_closeTypes_223 : decode cCM_closeTypes 223 = .ok (.goto (-101), 3) := by decide +kernel
theorem dCM_closeTypes_226 : decode cCM_closeTypes 226 = .ok (.return_, 1) := by decide +kernel
theorem dCM_isTold_0 : decode cCM_isTold 0 = .ok (.iload_n 1, 1) := by decide +kernel
theorem dCM_isTold_1 : decode cCM_isTold 1 = .ok (.bipush 16, 2) := by decide +kernel
theorem dCM_isTold_3 : decode cCM_isTold 3 = .ok (.if_icmp .lt 18, 3) := by decide +kernel
theorem dCM_isTold_6 : decode cCM_isTold 6 = .ok (.iload_n 1, 1) := by decide +kernel
theorem dCM_isTold_7 : decode cCM_isTold 7 = .ok (.bipush 16, 2) := by decide +kernel
theorem dCM_isTold_9 : decode cCM_isTold 9 = .ok (.aload_n 0, 1) := by decide +kernel
theorem dCM_isTold_10 : decode cCM_isTold 10 = .ok (.getfield 68, 3) := by decide +kernel
theorem dCM_isTold_13 : decode cCM_isTold 13 = .ok (.iadd, 1) := by decide +kernel
theorem dCM_isTold_14 : decode cCM_isTold 14 = .ok (.if_icmp .ge 7, 3) := by decide +kernel
theorem dCM_isTold_17 : decode cCM_isTold 17 = .ok (.iconst 1, 1) := by decide +kernel
theorem dCM_isTold_18 : decode cCM_isTold 18 = .ok (.goto 4, 3) := by decide +kernel
theorem dCM_isTold_21 : decode cCM_isTold 21 = .ok (.iconst 0, 1) := by decide +kernel
theorem dCM_isTold_22 : decode cCM_isTold 22 = .ok (.ireturn, 1) := by decide +kernel
theorem dCM_cls_0 : decode cCM_cls 0 = .ok (.iload_n 1, 1) := by decide +kernel
theorem dCM_cls_1 : decode cCM_cls 1 = .ok (.bipush 8, 2) := by decide +kernel
theorem dCM_cls_3 : decode cCM_cls 3 = .ok (.if_icmp .eq 23, 3) := by decide +kernel
theorem dCM_cls_6 : decode cCM_cls 6 = .ok (.aload_n 0, 1) := by decide +kernel
theorem dCM_cls_7 : decode cCM_cls 7 = .ok (.iload_n 1, 1) := by decide +kernel
theorem dCM_cls_8 : decode cCM_cls 8 = .ok (.invokevirtual 72, 3) := by decide +kernel
theorem dCM_cls_11 : decode cCM_cls 11 = .ok (.ifCond .eq 24, 3) := by decide +kernel
theorem dCM_cls_14 : decode cCM_cls 14 = .ok (.aload_n 0, 1) := by decide +kernel
theorem dCM_cls_15 : decode cCM_cls 15 = .ok (.getfield 7, 3) := by decide +kernel
theorem dCM_cls_18 : decode cCM_cls 18 = .ok (.iload_n 1, 1) := by decide +kernel
theorem dCM_cls_19 : decode cCM_cls 19 = .ok (.bipush 16, 2) := by decide +kernel
theorem dCM_cls_21 : decode cCM_cls 21 = .ok (.isub, 1) := by decide +kernel
theorem dCM_cls_22 : decode cCM_cls 22 = .ok (.baload, 1) := by decide +kernel
theorem dCM_cls_23 : decode cCM_cls 23 = .ok (.ifCond .ne 12, 3) := by decide +kernel
theorem dCM_cls_26 : decode cCM_cls 26 = .ok (.aload_n 0, 1) := by decide +kernel
theorem dCM_cls_27 : decode cCM_cls 27 = .ok (.getfield 68, 3) := by decide +kernel
theorem dCM_cls_30 : decode cCM_cls 30 = .ok (.bipush 24, 2) := by decide +kernel
theorem dCM_cls_32 : decode cCM_cls 32 = .ok (.if_icmp .ne 6, 3) := by decide +kernel
theorem dCM_cls_35 : decode cCM_cls 35 = .ok (.bipush (-2), 2) := by decide +kernel
theorem dCM_cls_37 : decode cCM_cls 37 = .ok (.ireturn, 1) := by decide +kernel
theorem dCM_cls_38 : decode cCM_cls 38 = .ok (.aload_n 0, 1) := by decide +kernel
theorem dCM_cls_39 : decode cCM_cls 39 = .ok (.getfield 13, 3) := by decide +kernel
theorem dCM_cls_42 : decode cCM_cls 42 = .ok (.aload_n 0, 1) := by decide +kernel
theorem dCM_cls_43 : decode cCM_cls 43 = .ok (.getfield 68, 3) := by decide +kernel
theorem dCM_cls_46 : decode cCM_cls 46 = .ok (.iload_n 1, 1) := by decide +kernel
theorem dCM_cls_47 : decode cCM_cls 47 = .ok (.iastore, 1) := by decide +kernel
theorem dCM_cls_48 : decode cCM_cls 48 = .ok (.aload_n 0, 1) := by decide +kernel
theorem dCM_cls_49 : decode cCM_cls 49 = .ok (.getfield 7, 3) := by decide +kernel
theorem dCM_cls_52 : decode cCM_cls 52 = .ok (.aload_n 0, 1) := by decide +kernel
theorem dCM_cls_53 : decode cCM_cls 53 = .ok (.getfield 68, 3) := by decide +kernel
theorem dCM_cls_56 : decode cCM_cls 56 = .ok (.iconst 0, 1) := by decide +kernel
theorem dCM_cls_57 : decode cCM_cls 57 = .ok (.bastore, 1) := by decide +kernel
theorem dCM_cls_58 : decode cCM_cls 58 = .ok (.aload_n 0, 1) := by decide +kernel
theorem dCM_cls_59 : decode cCM_cls 59 = .ok (.getfield 17, 3) := by decide +kernel
theorem dCM_cls_62 : decode cCM_cls 62 = .ok (.aload_n 0, 1) := by decide +kernel
theorem dCM_cls_63 : decode cCM_cls 63 = .ok (.getfield 68, 3) := by decide +kernel
theorem dCM_cls_66 : decode cCM_cls 66 = .ok (.iconst 0, 1) := by decide +kernel
theorem dCM_cls_67 : decode cCM_cls 67 = .ok (.iastore, 1) := by decide +kernel
theorem dCM_cls_68 : decode cCM_cls 68 = .ok (.aload_n 0, 1) := by decide +kernel
theorem dCM_cls_69 : decode cCM_cls 69 = .ok (.dup, 1) := by decide +kernel
theorem dCM_cls_70 : decode cCM_cls 70 = .ok (.getfield 68, 3) := by decide +kernel
theorem dCM_cls_73 : decode cCM_cls 73 = .ok (.iconst 1, 1) := by decide +kernel
theorem dCM_cls_74 : decode cCM_cls 74 = .ok (.iadd, 1) := by decide +kernel
theorem dCM_cls_75 : decode cCM_cls 75 = .ok (.putfield 68, 3) := by decide +kernel
theorem dCM_cls_78 : decode cCM_cls 78 = .ok (.aload_n 0, 1) := by decide +kernel
theorem dCM_cls_79 : decode cCM_cls 79 = .ok (.invokevirtual 95, 3) := by decide +kernel
theorem dCM_cls_82 : decode cCM_cls 82 = .ok (.bipush 16, 2) := by decide +kernel
theorem dCM_cls_84 : decode cCM_cls 84 = .ok (.aload_n 0, 1) := by decide +kernel
theorem dCM_cls_85 : decode cCM_cls 85 = .ok (.getfield 68, 3) := by decide +kernel
theorem dCM_cls_88 : decode cCM_cls 88 = .ok (.iadd, 1) := by decide +kernel
theorem dCM_cls_89 : decode cCM_cls 89 = .ok (.iconst 1, 1) := by decide +kernel
theorem dCM_cls_90 : decode cCM_cls 90 = .ok (.isub, 1) := by decide +kernel
theorem dCM_cls_91 : decode cCM_cls 91 = .ok (.ireturn, 1) := by decide +kernel
theorem dCM_face_0 : decode cCM_face 0 = .ok (.aload_n 0, 1) := by decide +kernel
theorem dCM_face_1 : decode cCM_face 1 = .ok (.getfield 68, 3) := by decide +kernel
theorem dCM_face_4 : decode cCM_face 4 = .ok (.bipush 24, 2) := by decide +kernel
theorem dCM_face_6 : decode cCM_face 6 = .ok (.if_icmp .ne 6, 3) := by decide +kernel
theorem dCM_face_9 : decode cCM_face 9 = .ok (.bipush (-2), 2) := by decide +kernel
theorem dCM_face_11 : decode cCM_face 11 = .ok (.ireturn, 1) := by decide +kernel
theorem dCM_face_12 : decode cCM_face 12 = .ok (.aload_n 0, 1) := by decide +kernel
theorem dCM_face_13 : decode cCM_face 13 = .ok (.getfield 13, 3) := by decide +kernel
theorem dCM_face_16 : decode cCM_face 16 = .ok (.aload_n 0, 1) := by decide +kernel
theorem dCM_face_17 : decode cCM_face 17 = .ok (.getfield 68, 3) := by decide +kernel
theorem dCM_face_20 : decode cCM_face 20 = .ok (.iconst (-1), 1) := by decide +kernel
theorem dCM_face_21 : decode cCM_face 21 = .ok (.iastore, 1) := by decide +kernel
theorem dCM_face_22 : decode cCM_face 22 = .ok (.aload_n 0, 1) := by decide +kernel
theorem dCM_face_23 : decode cCM_face 23 = .ok (.getfield 7, 3) := by decide +kernel
theorem dCM_face_26 : decode cCM_face 26 = .ok (.aload_n 0, 1) := by decide +kernel
theorem dCM_face_27 : decode cCM_face 27 = .ok (.getfield 68, 3) := by decide +kernel
theorem dCM_face_30 : decode cCM_face 30 = .ok (.iconst 1, 1) := by decide +kernel
theorem dCM_face_31 : decode cCM_face 31 = .ok (.bastore, 1) := by decide +kernel
theorem dCM_face_32 : decode cCM_face 32 = .ok (.aload_n 0, 1) := by decide +kernel
theorem dCM_face_33 : decode cCM_face 33 = .ok (.getfield 17, 3) := by decide +kernel
theorem dCM_face_36 : decode cCM_face 36 = .ok (.aload_n 0, 1) := by decide +kernel
theorem dCM_face_37 : decode cCM_face 37 = .ok (.getfield 68, 3) := by decide +kernel
theorem dCM_face_40 : decode cCM_face 40 = .ok (.iconst 0, 1) := by decide +kernel
theorem dCM_face_41 : decode cCM_face 41 = .ok (.iastore, 1) := by decide +kernel
theorem dCM_face_42 : decode cCM_face 42 = .ok (.aload_n 0, 1) := by decide +kernel
theorem dCM_face_43 : decode cCM_face 43 = .ok (.dup, 1) := by decide +kernel
theorem dCM_face_44 : decode cCM_face 44 = .ok (.getfield 68, 3) := by decide +kernel
theorem dCM_face_47 : decode cCM_face 47 = .ok (.iconst 1, 1) := by decide +kernel
theorem dCM_face_48 : decode cCM_face 48 = .ok (.iadd, 1) := by decide +kernel
theorem dCM_face_49 : decode cCM_face 49 = .ok (.putfield 68, 3) := by decide +kernel
theorem dCM_face_52 : decode cCM_face 52 = .ok (.aload_n 0, 1) := by decide +kernel
theorem dCM_face_53 : decode cCM_face 53 = .ok (.invokevirtual 95, 3) := by decide +kernel
theorem dCM_face_56 : decode cCM_face 56 = .ok (.bipush 16, 2) := by decide +kernel
theorem dCM_face_58 : decode cCM_face 58 = .ok (.aload_n 0, 1) := by decide +kernel
theorem dCM_face_59 : decode cCM_face 59 = .ok (.getfield 68, 3) := by decide +kernel
theorem dCM_face_62 : decode cCM_face 62 = .ok (.iadd, 1) := by decide +kernel
theorem dCM_face_63 : decode cCM_face 63 = .ok (.iconst 1, 1) := by decide +kernel
theorem dCM_face_64 : decode cCM_face 64 = .ok (.isub, 1) := by decide +kernel
theorem dCM_face_65 : decode cCM_face 65 = .ok (.ireturn, 1) := by decide +kernel
theorem dCM_below_0 : decode cCM_below 0 = .ok (.aload_n 0, 1) := by decide +kernel
theorem dCM_below_1 : decode cCM_below 1 = .ok (.iload_n 1, 1) := by decide +kernel
theorem dCM_below_2 : decode cCM_below 2 = .ok (.invokevirtual 72, 3) := by decide +kernel
theorem dCM_below_5 : decode cCM_below 5 = .ok (.ifCond .eq 43, 3) := by decide +kernel
theorem dCM_below_8 : decode cCM_below 8 = .ok (.aload_n 0, 1) := by decide +kernel
theorem dCM_below_9 : decode cCM_below 9 = .ok (.iload_n 2, 1) := by decide +kernel
theorem dCM_below_10 : decode cCM_below 10 = .ok (.invokevirtual 72, 3) := by decide +kernel
theorem dCM_below_13 : decode cCM_below 13 = .ok (.ifCond .eq 35, 3) := by decide +kernel
theorem dCM_below_16 : decode cCM_below 16 = .ok (.aload_n 0, 1) := by decide +kernel
theorem dCM_below_17 : decode cCM_below 17 = .ok (.getfield 7, 3) := by decide +kernel
theorem dCM_below_20 : decode cCM_below 20 = .ok (.iload_n 2, 1) := by decide +kernel
theorem dCM_below_21 : decode cCM_below 21 = .ok (.bipush 16, 2) := by decide +kernel
theorem dCM_below_23 : decode cCM_below 23 = .ok (.isub, 1) := by decide +kernel
theorem dCM_below_24 : decode cCM_below 24 = .ok (.baload, 1) := by decide +kernel
theorem dCM_below_25 : decode cCM_below 25 = .ok (.ifCond .eq 23, 3) := by decide +kernel
theorem dCM_below_28 : decode cCM_below 28 = .ok (.aload_n 0, 1) := by decide +kernel
theorem dCM_below_29 : decode cCM_below 29 = .ok (.getfield 23, 3) := by decide +kernel
theorem dCM_below_32 : decode cCM_below 32 = .ok (.bipush 24, 2) := by decide +kernel
theorem dCM_below_34 : decode cCM_below 34 = .ok (.iload_n 2, 1) := by decide +kernel
theorem dCM_below_35 : decode cCM_below 35 = .ok (.bipush 16, 2) := by decide +kernel
theorem dCM_below_37 : decode cCM_below 37 = .ok (.isub, 1) := by decide +kernel
theorem dCM_below_38 : decode cCM_below 38 = .ok (.imul, 1) := by decide +kernel
theorem dCM_below_39 : decode cCM_below 39 = .ok (.iload_n 1, 1) := by decide +kernel
theorem dCM_below_40 : decode cCM_below 40 = .ok (.iadd, 1) := by decide +kernel
theorem dCM_below_41 : decode cCM_below 41 = .ok (.bipush 16, 2) := by decide +kernel
theorem dCM_below_43 : decode cCM_below 43 = .ok (.isub, 1) := by decide +kernel
theorem dCM_below_44 : decode cCM_below 44 = .ok (.baload, 1) := by decide +kernel
theorem dCM_below_45 : decode cCM_below 45 = .ok (.ifCond .eq 6, 3) := by decide +kernel
theorem dCM_below_48 : decode cCM_below 48 = .ok (.bipush (-2), 2) := by decide +kernel
theorem dCM_below_50 : decode cCM_below 50 = .ok (.ireturn, 1) := by decide +kernel
theorem dCM_below_51 : decode cCM_below 51 = .ok (.iload_n 1, 1) := by decide +kernel
theorem dCM_below_52 : decode cCM_below 52 = .ok (.bipush 16, 2) := by decide +kernel
theorem dCM_below_54 : decode cCM_below 54 = .ok (.isub, 1) := by decide +kernel
theorem dCM_below_55 : decode cCM_below 55 = .ok (.istore_n 3, 1) := by decide +kernel
theorem dCM_below_56 : decode cCM_below 56 = .ok (.iconst 0, 1) := by decide +kernel
theorem dCM_below_57 : decode cCM_below 57 = .ok (.istore 4, 2) := by decide +kernel
theorem dCM_below_59 : decode cCM_below 59 = .ok (.iconst 0, 1) := by decide +kernel
theorem dCM_below_60 : decode cCM_below 60 = .ok (.istore 5, 2) := by decide +kernel
theorem dCM_below_62 : decode cCM_below 62 = .ok (.iload 5, 2) := by decide +kernel
theorem dCM_below_64 : decode cCM_below 64 = .ok (.aload_n 0, 1) := by decide +kernel
theorem dCM_below_65 : decode cCM_below 65 = .ok (.getfield 17, 3) := by decide +kernel
theorem dCM_below_68 : decode cCM_below 68 = .ok (.iload_n 3, 1) := by decide +kernel
theorem dCM_below_69 : decode cCM_below 69 = .ok (.iaload, 1) := by decide +kernel
theorem dCM_below_70 : decode cCM_below 70 = .ok (.if_icmp .ge 36, 3) := by decide +kernel
theorem dCM_below_73 : decode cCM_below 73 = .ok (.iload 4, 2) := by decide +kernel
theorem dCM_below_75 : decode cCM_below 75 = .ok (.ifCond .ne 18, 3) := by decide +kernel
theorem dCM_below_78 : decode cCM_below 78 = .ok (.aload_n 0, 1) := by decide +kernel
theorem dCM_below_79 : decode cCM_below 79 = .ok (.getfield 20, 3) := by decide +kernel
theorem dCM_below_82 : decode cCM_below 82 = .ok (.iconst 4, 1) := by decide +kernel
theorem dCM_below_83 : decode cCM_below 83 = .ok (.iload_n 3, 1) := by decide +kernel
theorem dCM_below_84 : decode cCM_below 84 = .ok (.imul, 1) := by decide +kernel
theorem dCM_below_85 : decode cCM_below 85 = .ok (.iload 5, 2) := by decide +kernel
theorem dCM_below_87 : decode cCM_below 87 = .ok (.iadd, 1) := by decide +kernel
theorem dCM_below_88 : decode cCM_below 88 = .ok (.iaload, 1) := by decide +kernel
theorem dCM_below_89 : decode cCM_below 89 = .ok (.iload_n 2, 1) := by decide +kernel
theorem dCM_below_90 : decode cCM_below 90 = .ok (.if_icmp .ne 7, 3) := by decide +kernel
theorem dCM_below_93 : decode cCM_below 93 = .ok (.iconst 1, 1) := by decide +kernel
theorem dCM_below_94 : decode cCM_below 94 = .ok (.goto 4, 3) := by decide +kernel
theorem dCM_below_97 : decode cCM_below 97 = .ok (.iconst 0, 1) := by decide +kernel
theorem dCM_below_98 : decode cCM_below 98 = .ok (.istore 4, 2) := by decide +kernel
theorem dCM_below_100 : decode cCM_below 100 = .ok (.iinc 5 1, 3) := by decide +kernel
theorem dCM_below_103 : decode cCM_below 103 = .ok (.goto (-41), 3) := by decide +kernel
theorem dCM_below_106 : decode cCM_below 106 = .ok (.iload 4, 2) := by decide +kernel
theorem dCM_below_108 : decode cCM_below 108 = .ok (.ifCond .ne 13, 3) := by decide +kernel
theorem dCM_below_111 : decode cCM_below 111 = .ok (.aload_n 0, 1) := by decide +kernel
theorem dCM_below_112 : decode cCM_below 112 = .ok (.getfield 17, 3) := by decide +kernel
theorem dCM_below_115 : decode cCM_below 115 = .ok (.iload_n 3, 1) := by decide +kernel
theorem dCM_below_116 : decode cCM_below 116 = .ok (.iaload, 1) := by decide +kernel
theorem dCM_below_117 : decode cCM_below 117 = .ok (.iconst 4, 1) := by decide +kernel
theorem dCM_below_118 : decode cCM_below 118 = .ok (.if_icmp .ne 6, 3) := by decide +kernel
theorem dCM_below_121 : decode cCM_below 121 = .ok (.bipush (-2), 2) := by decide +kernel
theorem dCM_below_123 : decode cCM_below 123 = .ok (.ireturn, 1) := by decide +kernel
theorem dCM_below_124 : decode cCM_below 124 = .ok (.aload_n 0, 1) := by decide +kernel
theorem dCM_below_125 : decode cCM_below 125 = .ok (.getfield 20, 3) := by decide +kernel
theorem dCM_below_128 : decode cCM_below 128 = .ok (.iconst 4, 1) := by decide +kernel
theorem dCM_below_129 : decode cCM_below 129 = .ok (.iload_n 3, 1) := by decide +kernel
theorem dCM_below_130 : decode cCM_below 130 = .ok (.imul, 1) := by decide +kernel
theorem dCM_below_131 : decode cCM_below 131 = .ok (.aload_n 0, 1) := by decide +kernel
theorem dCM_below_132 : decode cCM_below 132 = .ok (.getfield 17, 3) := by decide +kernel
theorem dCM_below_135 : decode cCM_below 135 = .ok (.iload_n 3, 1) := by decide +kernel
theorem dCM_below_136 : decode cCM_below 136 = .ok (.iaload, 1) := by decide +kernel
theorem dCM_below_137 : decode cCM_below 137 = .ok (.iadd, 1) := by decide +kernel
theorem dCM_below_138 : decode cCM_below 138 = .ok (.iload_n 2, 1) := by decide +kernel
theorem dCM_below_139 : decode cCM_below 139 = .ok (.iastore, 1) := by decide +kernel
theorem dCM_below_140 : decode cCM_below 140 = .ok (.aload_n 0, 1) := by decide +kernel
theorem dCM_below_141 : decode cCM_below 141 = .ok (.getfield 17, 3) := by decide +kernel
theorem dCM_below_144 : decode cCM_below 144 = .ok (.iload_n 3, 1) := by decide +kernel
theorem dCM_below_145 : decode cCM_below 145 = .ok (.dup2, 1) := by decide +kernel
theorem dCM_below_146 : decode cCM_below 146 = .ok (.iaload, 1) := by decide +kernel
theorem dCM_below_147 : decode cCM_below 147 = .ok (.iconst 1, 1) := by decide +kernel
theorem dCM_below_148 : decode cCM_below 148 = .ok (.iadd, 1) := by decide +kernel
theorem dCM_below_149 : decode cCM_below 149 = .ok (.iastore, 1) := by decide +kernel
theorem dCM_below_150 : decode cCM_below 150 = .ok (.aload_n 0, 1) := by decide +kernel
theorem dCM_below_151 : decode cCM_below 151 = .ok (.invokevirtual 95, 3) := by decide +kernel
theorem dCM_below_154 : decode cCM_below 154 = .ok (.aload_n 0, 1) := by decide +kernel
theorem dCM_below_155 : decode cCM_below 155 = .ok (.getfield 17, 3) := by decide +kernel
theorem dCM_below_158 : decode cCM_below 158 = .ok (.iload_n 3, 1) := by decide +kernel
theorem dCM_below_159 : decode cCM_below 159 = .ok (.iaload, 1) := by decide +kernel
theorem dCM_below_160 : decode cCM_below 160 = .ok (.ireturn, 1) := by decide +kernel
theorem dCM_isPlain_0 : decode cCM_isPlain 0 = .ok (.iload_n 1, 1) := by decide +kernel
theorem dCM_isPlain_1 : decode cCM_isPlain 1 = .ok (.ifCond .lt 9, 3) := by decide +kernel
theorem dCM_isPlain_4 : decode cCM_isPlain 4 = .ok (.iload_n 1, 1) := by decide +kernel
theorem dCM_isPlain_5 : decode cCM_isPlain 5 = .ok (.bipush 10, 2) := by decide +kernel
theorem dCM_isPlain_7 : decode cCM_isPlain 7 = .ok (.if_icmp .lt 11, 3) := by decide +kernel
theorem dCM_isPlain_10 : decode cCM_isPlain 10 = .ok (.aload_n 0, 1) := by decide +kernel
theorem dCM_isPlain_11 : decode cCM_isPlain 11 = .ok (.iload_n 1, 1) := by decide +kernel
theorem dCM_isPlain_12 : decode cCM_isPlain 12 = .ok (.invokevirtual 72, 3) := by decide +kernel
theorem dCM_isPlain_15 : decode cCM_isPlain 15 = .ok (.ifCond .eq 7, 3) := by decide +kernel
theorem dCM_isPlain_18 : decode cCM_isPlain 18 = .ok (.iconst 1, 1) := by decide +kernel
theorem dCM_isPlain_19 : decode cCM_isPlain 19 = .ok (.goto 4, 3) := by decide +kernel
theorem dCM_isPlain_22 : decode cCM_isPlain 22 = .ok (.iconst 0, 1) := by decide +kernel
theorem dCM_isPlain_23 : decode cCM_isPlain 23 = .ok (.ireturn, 1) := by decide +kernel
theorem dCM_isType_0 : decode cCM_isType 0 = .ok (.aload_n 0, 1) := by decide +kernel
theorem dCM_isType_1 : decode cCM_isType 1 = .ok (.iload_n 1, 1) := by decide +kernel
theorem dCM_isType_2 : decode cCM_isType 2 = .ok (.invokevirtual 76, 3) := by decide +kernel
theorem dCM_isType_5 : decode cCM_isType 5 = .ok (.ifCond .ne 26, 3) := by decide +kernel
theorem dCM_isType_8 : decode cCM_isType 8 = .ok (.iload_n 1, 1) := by decide +kernel
theorem dCM_isType_9 : decode cCM_isType 9 = .ok (.bipush 10, 2) := by decide +kernel
theorem dCM_isType_11 : decode cCM_isType 11 = .ok (.if_icmp .eq 20, 3) := by decide +kernel
theorem dCM_isType_14 : decode cCM_isType 14 = .ok (.iload_n 1, 1) := by decide +kernel
theorem dCM_isType_15 : decode cCM_isType 15 = .ok (.bipush 64, 2) := by decide +kernel
theorem dCM_isType_17 : decode cCM_isType 17 = .ok (.if_icmp .lt 18, 3) := by decide +kernel
theorem dCM_isType_20 : decode cCM_isType 20 = .ok (.aload_n 0, 1) := by decide +kernel
theorem dCM_isType_21 : decode cCM_isType 21 = .ok (.iload_n 1, 1) := by decide +kernel
theorem dCM_isType_22 : decode cCM_isType 22 = .ok (.bipush 64, 2) := by decide +kernel
theorem dCM_isType_24 : decode cCM_isType 24 = .ok (.isub, 1) := by decide +kernel
theorem dCM_isType_25 : decode cCM_isType 25 = .ok (.invokevirtual 76, 3) := by decide +kernel
theorem dCM_isType_28 : decode cCM_isType 28 = .ok (.ifCond .eq 7, 3) := by decide +kernel
theorem dCM_isType_31 : decode cCM_isType 31 = .ok (.iconst 1, 1) := by decide +kernel
theorem dCM_isType_32 : decode cCM_isType 32 = .ok (.goto 4, 3) := by decide +kernel
theorem dCM_isType_35 : decode cCM_isType 35 = .ok (.iconst 0, 1) := by decide +kernel
theorem dCM_isType_36 : decode cCM_isType 36 = .ok (.ireturn, 1) := by decide +kernel
theorem dCM_isPrimitive_0 : decode cCM_isPrimitive 0 = .ok (.iload_n 0, 1) := by decide +kernel
theorem dCM_isPrimitive_1 : decode cCM_isPrimitive 1 = .ok (.ifCond .lt 12, 3) := by decide +kernel
theorem dCM_isPrimitive_4 : decode cCM_isPrimitive 4 = .ok (.iload_n 0, 1) := by decide +kernel
theorem dCM_isPrimitive_5 : decode cCM_isPrimitive 5 = .ok (.iconst 4, 1) := by decide +kernel
theorem dCM_isPrimitive_6 : decode cCM_isPrimitive 6 = .ok (.if_icmp .ge 7, 3) := by decide +kernel
theorem dCM_isPrimitive_9 : decode cCM_isPrimitive 9 = .ok (.iconst 1, 1) := by decide +kernel
theorem dCM_isPrimitive_10 : decode cCM_isPrimitive 10 = .ok (.goto 4, 3) := by decide +kernel
theorem dCM_isPrimitive_13 : decode cCM_isPrimitive 13 = .ok (.iconst 0, 1) := by decide +kernel
theorem dCM_isPrimitive_14 : decode cCM_isPrimitive 14 = .ok (.ireturn, 1) := by decide +kernel
theorem dCM_plainIs_0 : decode cCM_plainIs 0 = .ok (.iload_n 1, 1) := by decide +kernel
theorem dCM_plainIs_1 : decode cCM_plainIs 1 = .ok (.iload_n 2, 1) := by decide +kernel
theorem dCM_plainIs_2 : decode cCM_plainIs 2 = .ok (.if_icmp .ne 5, 3) := by decide +kernel
theorem dCM_plainIs_5 : decode cCM_plainIs 5 = .ok (.iconst 1, 1) := by decide +kernel
theorem dCM_plainIs_6 : decode cCM_plainIs 6 = .ok (.ireturn, 1) := by decide +kernel
theorem dCM_plainIs_7 : decode cCM_plainIs 7 = .ok (.iload_n 1, 1) := by decide +kernel
theorem dCM_plainIs_8 : decode cCM_plainIs 8 = .ok (.invokestatic 82, 3) := by decide +kernel
theorem dCM_plainIs_11 : decode cCM_plainIs 11 = .ok (.ifCond .eq 34, 3) := by decide +kernel
theorem dCM_plainIs_14 : decode cCM_plainIs 14 = .ok (.iload_n 1, 1) := by decide +kernel
theorem dCM_plainIs_15 : decode cCM_plainIs 15 = .ok (.iconst 1, 1) := by decide +kernel
theorem dCM_plainIs_16 : decode cCM_plainIs 16 = .ok (.if_icmp .ne 13, 3) := by decide +kernel
theorem dCM_plainIs_19 : decode cCM_plainIs 19 = .ok (.iload_n 2, 1) := by decide +kernel
theorem dCM_plainIs_20 : decode cCM_plainIs 20 = .ok (.iconst 2, 1) := by decide +kernel
theorem dCM_plainIs_21 : decode cCM_plainIs 21 = .ok (.if_icmp .eq 18, 3) := by decide +kernel
theorem dCM_plainIs_24 : decode cCM_plainIs 24 = .ok (.iload_n 2, 1) := by decide +kernel
theorem dCM_plainIs_25 : decode cCM_plainIs 25 = .ok (.iconst 3, 1) := by decide +kernel
theorem dCM_plainIs_26 : decode cCM_plainIs 26 = .ok (.if_icmp .eq 13, 3) := by decide +kernel
theorem dCM_plainIs_29 : decode cCM_plainIs 29 = .ok (.iload_n 1, 1) := by decide +kernel
theorem dCM_plainIs_30 : decode cCM_plainIs 30 = .ok (.iconst 2, 1) := by decide +kernel
theorem dCM_plainIs_31 : decode cCM_plainIs 31 = .ok (.if_icmp .ne 12, 3) := by decide +kernel
theorem dCM_plainIs_34 : decode cCM_plainIs 34 = .ok (.iload_n 2, 1) := by decide +kernel
theorem dCM_plainIs_35 : decode cCM_plainIs 35 = .ok (.iconst 3, 1) := by decide +kernel
theorem dCM_plainIs_36 : decode cCM_plainIs 36 = .ok (.if_icmp .ne 7, 3) := by decide +kernel
theorem dCM_plainIs_39 : decode cCM_plainIs 39 = .ok (.iconst 1, 1) := by decide +kernel
theorem dCM_plainIs_40 : decode cCM_plainIs 40 = .ok (.goto 4, 3) := by decide +kernel
theorem dCM_plainIs_43 : decode cCM_plainIs 43 = .ok (.iconst 0, 1) := by decide +kernel
theorem dCM_plainIs_44 : decode cCM_plainIs 44 = .ok (.ireturn, 1) := by decide +kernel
theorem dCM_plainIs_45 : decode cCM_plainIs 45 = .ok (.iload_n 2, 1) := by decide +kernel
theorem dCM_plainIs_46 : decode cCM_plainIs 46 = .ok (.invokestatic 82, 3) := by decide +kernel
theorem dCM_plainIs_49 : decode cCM_plainIs 49 = .ok (.ifCond .eq 5, 3) := by decide +kernel
theorem dCM_plainIs_52 : decode cCM_plainIs 52 = .ok (.iconst 0, 1) := by decide +kernel
theorem dCM_plainIs_53 : decode cCM_plainIs 53 = .ok (.ireturn, 1) := by decide +kernel
theorem dCM_plainIs_54 : decode cCM_plainIs 54 = .ok (.iload_n 2, 1) := by decide +kernel
theorem dCM_plainIs_55 : decode cCM_plainIs 55 = .ok (.bipush 8, 2) := by decide +kernel
theorem dCM_plainIs_57 : decode cCM_plainIs 57 = .ok (.if_icmp .eq 9, 3) := by decide +kernel
theorem dCM_plainIs_60 : decode cCM_plainIs 60 = .ok (.iload_n 1, 1) := by decide +kernel
theorem dCM_plainIs_61 : decode cCM_plainIs 61 = .ok (.bipush 10, 2) := by decide +kernel
theorem dCM_plainIs_63 : decode cCM_plainIs 63 = .ok (.if_icmp .ne 5, 3) := by decide +kernel
theorem dCM_plainIs_66 : decode cCM_plainIs 66 = .ok (.iconst 1, 1) := by decide +kernel
theorem dCM_plainIs_67 : decode cCM_plainIs 67 = .ok (.ireturn, 1) := by decide +kernel
theorem dCM_plainIs_68 : decode cCM_plainIs 68 = .ok (.iload_n 2, 1) := by decide +kernel
theorem dCM_plainIs_69 : decode cCM_plainIs 69 = .ok (.bipush 9, 2) := by decide +kernel
theorem dCM_plainIs_71 : decode cCM_plainIs 71 = .ok (.if_icmp .ne 26, 3) := by decide +kernel
theorem dCM_plainIs_74 : decode cCM_plainIs 74 = .ok (.iload_n 1, 1) := by decide +kernel
theorem dCM_plainIs_75 : decode cCM_plainIs 75 = .ok (.iconst 5, 1) := by decide +kernel
theorem dCM_plainIs_76 : decode cCM_plainIs 76 = .ok (.if_icmp .eq 15, 3) := by decide +kernel
theorem dCM_plainIs_79 : decode cCM_plainIs 79 = .ok (.iload_n 1, 1) := by decide +kernel
theorem dCM_plainIs_80 : decode cCM_plainIs 80 = .ok (.bipush 6, 2) := by decide +kernel
theorem dCM_plainIs_82 : decode cCM_plainIs 82 = .ok (.if_icmp .eq 9, 3) := by decide +kernel
theorem dCM_plainIs_85 : decode cCM_plainIs 85 = .ok (.iload_n 1, 1) := by decide +kernel
theorem dCM_plainIs_86 : decode cCM_plainIs 86 = .ok (.bipush 7, 2) := by decide +kernel
theorem dCM_plainIs_88 : decode cCM_plainIs 88 = .ok (.if_icmp .ne 7, 3) := by decide +kernel
theorem dCM_plainIs_91 : decode cCM_plainIs 91 = .ok (.iconst 1, 1) := by decide +kernel
theorem dCM_plainIs_92 : decode cCM_plainIs 92 = .ok (.goto 4, 3) := by decide +kernel
theorem dCM_plainIs_95 : decode cCM_plainIs 95 = .ok (.iconst 0, 1) := by decide +kernel
theorem dCM_plainIs_96 : decode cCM_plainIs 96 = .ok (.ireturn, 1) := by decide +kernel
theorem dCM_plainIs_97 : decode cCM_plainIs 97 = .ok (.aload_n 0, 1) := by decide +kernel
theorem dCM_plainIs_98 : decode cCM_plainIs 98 = .ok (.iload_n 1, 1) := by decide +kernel
theorem dCM_plainIs_99 : decode cCM_plainIs 99 = .ok (.invokevirtual 72, 3) := by decide +kernel
theorem dCM_plainIs_102 : decode cCM_plainIs 102 = .ok (.ifCond .eq 35, 3) := by decide +kernel
theorem dCM_plainIs_105 : decode cCM_plainIs 105 = .ok (.aload_n 0, 1) := by decide +kernel
theorem dCM_plainIs_106 : decode cCM_plainIs 106 = .ok (.iload_n 2, 1) := by decide +kernel
theorem dCM_plainIs_107 : decode cCM_plainIs 107 = .ok (.invokevirtual 72, 3) := by decide +kernel
theorem dCM_plainIs_110 : decode cCM_plainIs 110 = .ok (.ifCond .eq 27, 3) := by decide +kernel
theorem dCM_plainIs_113 : decode cCM_plainIs 113 = .ok (.aload_n 0, 1) := by decide +kernel
theorem dCM_plainIs_114 : decode cCM_plainIs 114 = .ok (.getfield 23, 3) := by decide +kernel
theorem dCM_plainIs_117 : decode cCM_plainIs 117 = .ok (.bipush 24, 2) := by decide +kernel
theorem dCM_plainIs_119 : decode cCM_plainIs 119 = .ok (.iload_n 1, 1) := by decide +kernel
theorem dCM_plainIs_120 : decode cCM_plainIs 120 = .ok (.bipush 16, 2) := by decide +kernel
theorem dCM_plainIs_122 : decode cCM_plainIs 122 = .ok (.isub, 1) := by decide +kernel
theorem dCM_plainIs_123 : decode cCM_plainIs 123 = .ok (.imul, 1) := by decide +kernel
theorem dCM_plainIs_124 : decode cCM_plainIs 124 = .ok (.iload_n 2, 1) := by decide +kernel
theorem dCM_plainIs_125 : decode cCM_plainIs 125 = .ok (.iadd, 1) := by decide +kernel
theorem dCM_plainIs_126 : decode cCM_plainIs 126 = .ok (.bipush 16, 2) := by decide +kernel
theorem dCM_plainIs_128 : decode cCM_plainIs 128 = .ok (.isub, 1) := by decide +kernel
theorem dCM_plainIs_129 : decode cCM_plainIs 129 = .ok (.baload, 1) := by decide +kernel
theorem dCM_plainIs_130 : decode cCM_plainIs 130 = .ok (.ifCond .eq 7, 3) := by decide +kernel
theorem dCM_plainIs_133 : decode cCM_plainIs 133 = .ok (.iconst 1, 1) := by decide +kernel
theorem dCM_plainIs_134 : decode cCM_plainIs 134 = .ok (.goto 4, 3) := by decide +kernel
theorem dCM_plainIs_137 : decode cCM_plainIs 137 = .ok (.iconst 0, 1) := by decide +kernel
theorem dCM_plainIs_138 : decode cCM_plainIs 138 = .ok (.ireturn, 1) := by decide +kernel
theorem dCM_isIt_0 : decode cCM_isIt 0 = .ok (.iload_n 1, 1) := by decide +kernel
theorem dCM_isIt_1 : decode cCM_isIt 1 = .ok (.iload_n 2, 1) := by decide +kernel
theorem dCM_isIt_2 : decode cCM_isIt 2 = .ok (.if_icmp .ne 5, 3) := by decide +kernel
theorem dCM_isIt_5 : decode cCM_isIt 5 = .ok (.iconst 1, 1) := by decide +kernel
theorem dCM_isIt_6 : decode cCM_isIt 6 = .ok (.ireturn, 1) := by decide +kernel
theorem dCM_isIt_7 : decode cCM_isIt 7 = .ok (.iload_n 1, 1) := by decide +kernel
theorem dCM_isIt_8 : decode cCM_isIt 8 = .ok (.bipush 64, 2) := by decide +kernel
theorem dCM_isIt_10 : decode cCM_isIt 10 = .ok (.if_icmp .lt 40, 3) := by decide +kernel
theorem dCM_isIt_13 : decode cCM_isIt 13 = .ok (.iload_n 2, 1) := by decide +kernel
theorem dCM_isIt_14 : decode cCM_isIt 14 = .ok (.bipush 64, 2) := by decide +kernel
theorem dCM_isIt_16 : decode cCM_isIt 16 = .ok (.if_icmp .lt 34, 3) := by decide +kernel
theorem dCM_isIt_19 : decode cCM_isIt 19 = .ok (.iload_n 1, 1) := by decide +kernel
theorem dCM_isIt_20 : decode cCM_isIt 20 = .ok (.bipush 64, 2) := by decide +kernel
theorem dCM_isIt_22 : decode cCM_isIt 22 = .ok (.isub, 1) := by decide +kernel
theorem dCM_isIt_23 : decode cCM_isIt 23 = .ok (.invokestatic 82, 3) := by decide +kernel
theorem dCM_isIt_26 : decode cCM_isIt 26 = .ok (.ifCond .ne 22, 3) := by decide +kernel
theorem dCM_isIt_29 : decode cCM_isIt 29 = .ok (.aload_n 0, 1) := by decide +kernel
theorem dCM_isIt_30 : decode cCM_isIt 30 = .ok (.iload_n 1, 1) := by decide +kernel
theorem dCM_isIt_31 : decode cCM_isIt 31 = .ok (.bipush 64, 2) := by decide +kernel
theorem dCM_isIt_33 : decode cCM_isIt 33 = .ok (.isub, 1) := by decide +kernel
theorem dCM_isIt_34 : decode cCM_isIt 34 = .ok (.iload_n 2, 1) := by decide +kernel
theorem dCM_isIt_35 : decode cCM_isIt 35 = .ok (.bipush 64, 2) := by decide +kernel
theorem dCM_isIt_37 : decode cCM_isIt 37 = .ok (.isub, 1) := by decide +kernel
theorem dCM_isIt_38 : decode cCM_isIt 38 = .ok (.invokevirtual 85, 3) := by decide +kernel
theorem dCM_isIt_41 : decode cCM_isIt 41 = .ok (.ifCond .eq 7, 3) := by decide +kernel
theorem dCM_isIt_44 : decode cCM_isIt 44 = .ok (.iconst 1, 1) := by decide +kernel
theorem dCM_isIt_45 : decode cCM_isIt 45 = .ok (.goto 4, 3) := by decide +kernel
theorem dCM_isIt_48 : decode cCM_isIt 48 = .ok (.iconst 0, 1) := by decide +kernel
theorem dCM_isIt_49 : decode cCM_isIt 49 = .ok (.ireturn, 1) := by decide +kernel
theorem dCM_isIt_50 : decode cCM_isIt 50 = .ok (.iload_n 1, 1) := by decide +kernel
theorem dCM_isIt_51 : decode cCM_isIt 51 = .ok (.bipush 64, 2) := by decide +kernel
theorem dCM_isIt_53 : decode cCM_isIt 53 = .ok (.if_icmp .lt 15, 3) := by decide +kernel
theorem dCM_isIt_56 : decode cCM_isIt 56 = .ok (.iload_n 2, 1) := by decide +kernel
theorem dCM_isIt_57 : decode cCM_isIt 57 = .ok (.bipush 8, 2) := by decide +kernel
theorem dCM_isIt_59 : decode cCM_isIt 59 = .ok (.if_icmp .ne 7, 3) := by decide +kernel
theorem dCM_isIt_62 : decode cCM_isIt 62 = .ok (.iconst 1, 1) := by decide +kernel
theorem dCM_isIt_63 : decode cCM_isIt 63 = .ok (.goto 4, 3) := by decide +kernel
theorem dCM_isIt_66 : decode cCM_isIt 66 = .ok (.iconst 0, 1) := by decide +kernel
theorem dCM_isIt_67 : decode cCM_isIt 67 = .ok (.ireturn, 1) := by decide +kernel
theorem dCM_isIt_68 : decode cCM_isIt 68 = .ok (.iload_n 2, 1) := by decide +kernel
theorem dCM_isIt_69 : decode cCM_isIt 69 = .ok (.bipush 64, 2) := by decide +kernel
theorem dCM_isIt_71 : decode cCM_isIt 71 = .ok (.if_icmp .lt 17, 3) := by decide +kernel
theorem dCM_isIt_74 : decode cCM_isIt 74 = .ok (.iload_n 1, 1) := by decide +kernel
theorem dCM_isIt_75 : decode cCM_isIt 75 = .ok (.bipush 10, 2) := by decide +kernel
theorem dCM_isIt_77 : decode cCM_isIt 77 = .ok (.if_icmp .ne 7, 3) := by decide +kernel
theorem dCM_isIt_80 : decode cCM_isIt 80 = .ok (.iconst 1, 1) := by decide +kernel
theorem dCM_isIt_81 : decode cCM_isIt 81 = .ok (.goto 13, 3) := by decide +kernel
theorem dCM_isIt_84 : decode cCM_isIt 84 = .ok (.iconst 0, 1) := by decide +kernel
theorem dCM_isIt_85 : decode cCM_isIt 85 = .ok (.goto 9, 3) := by decide +kernel
theorem dCM_isIt_88 : decode cCM_isIt 88 = .ok (.aload_n 0, 1) := by decide +kernel
theorem dCM_isIt_89 : decode cCM_isIt 89 = .ok (.iload_n 1, 1) := by decide +kernel
theorem dCM_isIt_90 : decode cCM_isIt 90 = .ok (.iload_n 2, 1) := by decide +kernel
theorem dCM_isIt_91 : decode cCM_isIt 91 = .ok (.invokevirtual 85, 3) := by decide +kernel
theorem dCM_isIt_94 : decode cCM_isIt 94 = .ok (.ireturn, 1) := by decide +kernel
theorem dCM_is_0 : decode cCM_is 0 = .ok (.aload_n 0, 1) := by decide +kernel
theorem dCM_is_1 : decode cCM_is 1 = .ok (.iload_n 1, 1) := by decide +kernel
theorem dCM_is_2 : decode cCM_is 2 = .ok (.invokevirtual 98, 3) := by decide +kernel
theorem dCM_is_5 : decode cCM_is 5 = .ok (.ifCond .eq 11, 3) := by decide +kernel
theorem dCM_is_8 : decode cCM_is 8 = .ok (.aload_n 0, 1) := by decide +kernel
theorem dCM_is_9 : decode cCM_is 9 = .ok (.iload_n 2, 1) := by decide +kernel
theorem dCM_is_10 : decode cCM_is 10 = .ok (.invokevirtual 98, 3) := by decide +kernel
theorem dCM_is_13 : decode cCM_is 13 = .ok (.ifCond .ne 8, 3) := by decide +kernel
theorem dCM_is_16 : decode cCM_is 16 = .ok (.bipush (-2), 2) := by decide +kernel
theorem dCM_is_18 : decode cCM_is 18 = .ok (.goto 17, 3) := by decide +kernel
theorem dCM_is_21 : decode cCM_is 21 = .ok (.aload_n 0, 1) := by decide +kernel
theorem dCM_is_22 : decode cCM_is 22 = .ok (.iload_n 1, 1) := by decide +kernel
theorem dCM_is_23 : decode cCM_is 23 = .ok (.iload_n 2, 1) := by decide +kernel
theorem dCM_is_24 : decode cCM_is 24 = .ok (.invokevirtual 89, 3) := by decide +kernel
theorem dCM_is_27 : decode cCM_is 27 = .ok (.ifCond .eq 7, 3) := by decide +kernel
theorem dCM_is_30 : decode cCM_is 30 = .ok (.iconst 1, 1) := by decide +kernel
theorem dCM_is_31 : decode cCM_is 31 = .ok (.goto 4, 3) := by decide +kernel
theorem dCM_is_34 : decode cCM_is 34 = .ok (.iconst 0, 1) := by decide +kernel
theorem dCM_is_35 : decode cCM_is 35 = .ok (.ireturn, 1) := by decide +kernel
theorem dCM_isBox_0 : decode cCM_isBox 0 = .ok (.iload_n 0, 1) := by decide +kernel
theorem dCM_isBox_1 : decode cCM_isBox 1 = .ok (.iconst 4, 1) := by decide +kernel
theorem dCM_isBox_2 : decode cCM_isBox 2 = .ok (.if_icmp .lt 13, 3) := by decide +kernel
theorem dCM_isBox_5 : decode cCM_isBox 5 = .ok (.iload_n 0, 1) := by decide +kernel
theorem dCM_isBox_6 : decode cCM_isBox 6 = .ok (.bipush 8, 2) := by decide +kernel
theorem dCM_isBox_8 : decode cCM_isBox 8 = .ok (.if_icmp .ge 7, 3) := by decide +kernel
theorem dCM_isBox_11 : decode cCM_isBox 11 = .ok (.iconst 1, 1) := by decide +kernel
theorem dCM_isBox_12 : decode cCM_isBox 12 = .ok (.goto 4, 3) := by decide +kernel
theorem dCM_isBox_15 : decode cCM_isBox 15 = .ok (.iconst 0, 1) := by decide +kernel
theorem dCM_isBox_16 : decode cCM_isBox 16 = .ok (.ireturn, 1) := by decide +kernel
theorem dCM_fitsIt_0 : decode cCM_fitsIt 0 = .ok (.aload_n 0, 1) := by decide +kernel
theorem dCM_fitsIt_1 : decode cCM_fitsIt 1 = .ok (.iload_n 1, 1) := by decide +kernel
theorem dCM_fitsIt_2 : decode cCM_fitsIt 2 = .ok (.iload_n 2, 1) := by decide +kernel
theorem dCM_fitsIt_3 : decode cCM_fitsIt 3 = .ok (.invokevirtual 89, 3) := by decide +kernel
theorem dCM_fitsIt_6 : decode cCM_fitsIt 6 = .ok (.ifCond .ne 39, 3) := by decide +kernel
theorem dCM_fitsIt_9 : decode cCM_fitsIt 9 = .ok (.iload_n 1, 1) := by decide +kernel
theorem dCM_fitsIt_10 : decode cCM_fitsIt 10 = .ok (.invokestatic 82, 3) := by decide +kernel
theorem dCM_fitsIt_13 : decode cCM_fitsIt 13 = .ok (.ifCond .eq 14, 3) := by decide +kernel
theorem dCM_fitsIt_16 : decode cCM_fitsIt 16 = .ok (.aload_n 0, 1) := by decide +kernel
theorem dCM_fitsIt_17 : decode cCM_fitsIt 17 = .ok (.iload_n 1, 1) := by decide +kernel
theorem dCM_fitsIt_18 : decode cCM_fitsIt 18 = .ok (.iconst 4, 1) := by decide +kernel
theorem dCM_fitsIt_19 : decode cCM_fitsIt 19 = .ok (.iadd, 1) := by decide +kernel
theorem dCM_fitsIt_20 : decode cCM_fitsIt 20 = .ok (.iload_n 2, 1) := by decide +kernel
theorem dCM_fitsIt_21 : decode cCM_fitsIt 21 = .ok (.invokevirtual 89, 3) := by decide +kernel
theorem dCM_fitsIt_24 : decode cCM_fitsIt 24 = .ok (.ifCond .ne 21, 3) := by decide +kernel
theorem dCM_fitsIt_27 : decode cCM_fitsIt 27 = .ok (.iload_n 1, 1) := by decide +kernel
theorem dCM_fitsIt_28 : decode cCM_fitsIt 28 = .ok (.invokestatic 92, 3) := by decide +kernel
theorem dCM_fitsIt_31 : decode cCM_fitsIt 31 = .ok (.ifCond .eq 18, 3) := by decide +kernel
theorem dCM_fitsIt_34 : decode cCM_fitsIt 34 = .ok (.aload_n 0, 1) := by decide +kernel
theorem dCM_fitsIt_35 : decode cCM_fitsIt 35 = .ok (.iload_n 1, 1) := by decide +kernel
theorem dCM_fitsIt_36 : decode cCM_fitsIt 36 = .ok (.iconst 4, 1) := by decide +kernel
theorem dCM_fitsIt_37 : decode cCM_fitsIt 37 = .ok (.isub, 1) := by decide +kernel
theorem dCM_fitsIt_38 : decode cCM_fitsIt 38 = .ok (.iload_n 2, 1) := by decide +kernel
theorem dCM_fitsIt_39 : decode cCM_fitsIt 39 = .ok (.invokevirtual 89, 3) := by decide +kernel
theorem dCM_fitsIt_42 : decode cCM_fitsIt 42 = .ok (.ifCond .eq 7, 3) := by decide +kernel
theorem dCM_fitsIt_45 : decode cCM_fitsIt 45 = .ok (.iconst 1, 1) := by decide +kernel
theorem dCM_fitsIt_46 : decode cCM_fitsIt 46 = .ok (.goto 4, 3) := by decide +kernel
theorem dCM_fitsIt_49 : decode cCM_fitsIt 49 = .ok (.iconst 0, 1) := by decide +kernel
theorem dCM_fitsIt_50 : decode cCM_fitsIt 50 = .ok (.ireturn, 1) := by decide +kernel
theorem dCM_fits_0 : decode cCM_fits 0 = .ok (.aload_n 0, 1) := by decide +kernel
theorem dCM_fits_1 : decode cCM_fits 1 = .ok (.iload_n 1, 1) := by decide +kernel
theorem dCM_fits_2 : decode cCM_fits 2 = .ok (.invokevirtual 98, 3) := by decide +kernel
theorem dCM_fits_5 : decode cCM_fits 5 = .ok (.ifCond .eq 11, 3) := by decide +kernel
theorem dCM_fits_8 : decode cCM_fits 8 = .ok (.aload_n 0, 1) := by decide +kernel
theorem dCM_fits_9 : decode cCM_fits 9 = .ok (.iload_n 2, 1) := by decide +kernel
theorem dCM_fits_10 : decode cCM_fits 10 = .ok (.invokevirtual 98, 3) := by decide +kernel
theorem dCM_fits_13 : decode cCM_fits 13 = .ok (.ifCond .ne 8, 3) := by decide +kernel
theorem dCM_fits_16 : decode cCM_fits 16 = .ok (.bipush (-2), 2) := by decide +kernel
theorem dCM_fits_18 : decode cCM_fits 18 = .ok (.goto 17, 3) := by decide +kernel
theorem dCM_fits_21 : decode cCM_fits 21 = .ok (.aload_n 0, 1) := by decide +kernel
theorem dCM_fits_22 : decode cCM_fits 22 = .ok (.iload_n 1, 1) := by decide +kernel
theorem dCM_fits_23 : decode cCM_fits 23 = .ok (.iload_n 2, 1) := by decide +kernel
theorem dCM_fits_24 : decode cCM_fits 24 = .ok (.invokevirtual 101, 3) := by decide +kernel
theorem dCM_fits_27 : decode cCM_fits 27 = .ok (.ifCond .eq 7, 3) := by decide +kernel
theorem dCM_fits_30 : decode cCM_fits 30 = .ok (.iconst 1, 1) := by decide +kernel
theorem dCM_fits_31 : decode cCM_fits 31 = .ok (.goto 4, 3) := by decide +kernel
theorem dCM_fits_34 : decode cCM_fits 34 = .ok (.iconst 0, 1) := by decide +kernel
theorem dCM_fits_35 : decode cCM_fits 35 = .ok (.ireturn, 1) := by decide +kernel
theorem dCM_parameter_0 : decode cCM_parameter 0 = .ok (.iload_n 0, 1) := by decide +kernel
theorem dCM_parameter_1 : decode cCM_parameter 1 = .ok (.ifCond .ne 7, 3) := by decide +kernel
theorem dCM_parameter_4 : decode cCM_parameter 4 = .ok (.iload_n 1, 1) := by decide +kernel
theorem dCM_parameter_5 : decode cCM_parameter 5 = .ok (.goto 23, 3) := by decide +kernel
theorem dCM_parameter_8 : decode cCM_parameter 8 = .ok (.iload_n 0, 1) := by decide +kernel
theorem dCM_parameter_9 : decode cCM_parameter 9 = .ok (.iconst 1, 1) := by decide +kernel
theorem dCM_parameter_10 : decode cCM_parameter 10 = .ok (.if_icmp .ne 7, 3) := by decide +kernel
theorem dCM_parameter_13 : decode cCM_parameter 13 = .ok (.iload_n 2, 1) := by decide +kernel
theorem dCM_parameter_14 : decode cCM_parameter 14 = .ok (.goto 14, 3) := by decide +kernel
theorem dCM_parameter_17 : decode cCM_parameter 17 = .ok (.iload_n 0, 1) := by decide +kernel
theorem dCM_parameter_18 : decode cCM_parameter 18 = .ok (.iconst 2, 1) := by decide +kernel
theorem dCM_parameter_19 : decode cCM_parameter 19 = .ok (.if_icmp .ne 7, 3) := by decide +kernel
theorem dCM_parameter_22 : decode cCM_parameter 22 = .ok (.iload_n 3, 1) := by decide +kernel
theorem dCM_parameter_23 : decode cCM_parameter 23 = .ok (.goto 5, 3) := by decide +kernel
theorem dCM_parameter_26 : decode cCM_parameter 26 = .ok (.iload 4, 2) := by decide +kernel
theorem dCM_parameter_28 : decode cCM_parameter 28 = .ok (.ireturn, 1) := by decide +kernel
theorem dCM_isValue_0 : decode cCM_isValue 0 = .ok (.aload_n 0, 1) := by decide +kernel
theorem dCM_isValue_1 : decode cCM_isValue 1 = .ok (.iload_n 1, 1) := by decide +kernel
theorem dCM_isValue_2 : decode cCM_isValue 2 = .ok (.invokevirtual 98, 3) := by decide +kernel
theorem dCM_isValue_5 : decode cCM_isValue 5 = .ok (.ifCond .eq 13, 3) := by decide +kernel
theorem dCM_isValue_8 : decode cCM_isValue 8 = .ok (.iload_n 1, 1) := by decide +kernel
theorem dCM_isValue_9 : decode cCM_isValue 9 = .ok (.bipush 10, 2) := by decide +kernel
theorem dCM_isValue_11 : decode cCM_isValue 11 = .ok (.if_icmp .eq 7, 3) := by decide +kernel
theorem dCM_isValue_14 : decode cCM_isValue 14 = .ok (.iconst 1, 1) := by decide +kernel
theorem dCM_isValue_15 : decode cCM_isValue 15 = .ok (.goto 4, 3) := by decide +kernel
theorem dCM_isValue_18 : decode cCM_isValue 18 = .ok (.iconst 0, 1) := by decide +kernel
theorem dCM_isValue_19 : decode cCM_isValue 19 = .ok (.ireturn, 1) := by decide +kernel
theorem dCM_isName_0 : decode cCM_isName 0 = .ok (.iload_n 0, 1) := by decide +kernel
theorem dCM_isName_1 : decode cCM_isName 1 = .ok (.ifCond .lt 13, 3) := by decide +kernel
theorem dCM_isName_4 : decode cCM_isName 4 = .ok (.iload_n 0, 1) := by decide +kernel
theorem dCM_isName_5 : decode cCM_isName 5 = .ok (.bipush 16, 2) := by decide +kernel
theorem dCM_isName_7 : decode cCM_isName 7 = .ok (.if_icmp .ge 7, 3) := by decide +kernel
theorem dCM_isName_10 : decode cCM_isName 10 = .ok (.iconst 1, 1) := by decide +kernel
theorem dCM_isName_11 : decode cCM_isName 11 = .ok (.goto 4, 3) := by decide +kernel
theorem dCM_isName_14 : decode cCM_isName 14 = .ok (.iconst 0, 1) := by decide +kernel
theorem dCM_isName_15 : decode cCM_isName 15 = .ok (.ireturn, 1) := by decide +kernel
theorem dCM_member_0 : decode cCM_member 0 = .ok (.aload_n 0, 1) := by decide +kernel
theorem dCM_member_1 : decode cCM_member 1 = .ok (.iload_n 1, 1) := by decide +kernel
theorem dCM_member_2 : decode cCM_member 2 = .ok (.invokevirtual 72, 3) := by decide +kernel
theorem dCM_member_5 : decode cCM_member 5 = .ok (.ifCond .eq 59, 3) := by decide +kernel
theorem dCM_member_8 : decode cCM_member 8 = .ok (.iload_n 2, 1) := by decide +kernel
theorem dCM_member_9 : decode cCM_member 9 = .ok (.invokestatic 104, 3) := by decide +kernel
theorem dCM_member_12 : decode cCM_member 12 = .ok (.ifCond .eq 52, 3) := by decide +kernel
theorem dCM_member_15 : decode cCM_member 15 = .ok (.iload_n 3, 1) := by decide +kernel
theorem dCM_member_16 : decode cCM_member 16 = .ok (.ifCond .lt 48, 3) := by decide +kernel
theorem dCM_member_19 : decode cCM_member 19 = .ok (.iload_n 3, 1) := by decide +kernel
theorem dCM_member_20 : decode cCM_member 20 = .ok (.bipush 15, 2) := by decide +kernel
theorem dCM_member_22 : decode cCM_member 22 = .ok (.if_icmp .gt 42, 3) := by decide +kernel
theorem dCM_member_25 : decode cCM_member 25 = .ok (.iload 4, 2) := by decide +kernel
theorem dCM_member_27 : decode cCM_member 27 = .ok (.iconst (-1), 1) := by decide +kernel
theorem dCM_member_28 : decode cCM_member 28 = .ok (.if_icmp .eq 12, 3) := by decide +kernel
theorem dCM_member_31 : decode cCM_member 31 = .ok (.aload_n 0, 1) := by decide +kernel
theorem dCM_member_32 : decode cCM_member 32 = .ok (.iload 4, 2) := by decide +kernel
theorem dCM_member_34 : decode cCM_member 34 = .ok (.invokevirtual 107, 3) := by decide +kernel
theorem dCM_member_37 : decode cCM_member 37 = .ok (.ifCond .eq 27, 3) := by decide +kernel
theorem dCM_member_40 : decode cCM_member 40 = .ok (.iload 5, 2) := by decide +kernel
theorem dCM_member_42 : decode cCM_member 42 = .ok (.ifCond .lt 22, 3) := by decide +kernel
theorem dCM_member_45 : decode cCM_member 45 = .ok (.iload 5, 2) := by decide +kernel
theorem dCM_member_47 : decode cCM_member 47 = .ok (.iconst 4, 1) := by decide +kernel
theorem dCM_member_48 : decode cCM_member 48 = .ok (.if_icmp .gt 16, 3) := by decide +kernel
theorem dCM_member_51 : decode cCM_member 51 = .ok (.aload_n 0, 1) := by decide +kernel
theorem dCM_member_52 : decode cCM_member 52 = .ok (.getfield 110, 3) := by decide +kernel
theorem dCM_member_55 : decode cCM_member 55 = .ok (.bipush 60, 2) := by decide +kernel
theorem dCM_member_57 : decode cCM_member 57 = .ok (.if_icmp .ge 7, 3) := by decide +kernel
theorem dCM_member_60 : decode cCM_member 60 = .ok (.iconst 1, 1) := by decide +kernel
theorem dCM_member_61 : decode cCM_member 61 = .ok (.goto 4, 3) := by decide +kernel
theorem dCM_member_64 : decode cCM_member 64 = .ok (.iconst 0, 1) := by decide +kernel
theorem dCM_member_65 : decode cCM_member 65 = .ok (.istore 10, 2) := by decide +kernel
theorem dCM_member_67 : decode cCM_member 67 = .ok (.iconst 0, 1) := by decide +kernel
theorem dCM_member_68 : decode cCM_member 68 = .ok (.istore 11, 2) := by decide +kernel
theorem dCM_member_70 : decode cCM_member 70 = .ok (.iload 11, 2) := by decide +kernel
theorem dCM_member_72 : decode cCM_member 72 = .ok (.iconst 4, 1) := by decide +kernel
theorem dCM_member_73 : decode cCM_member 73 = .ok (.if_icmp .ge 40, 3) := by decide +kernel
theorem dCM_member_76 : decode cCM_member 76 = .ok (.iload 10, 2) := by decide +kernel
theorem dCM_member_78 : decode cCM_member 78 = .ok (.ifCond .eq 35, 3) := by decide +kernel
theorem dCM_member_81 : decode cCM_member 81 = .ok (.iload 11, 2) := by decide +kernel
theorem dCM_member_83 : decode cCM_member 83 = .ok (.iload 5, 2) := by decide +kernel
theorem dCM_member_85 : decode cCM_member 85 = .ok (.if_icmp .ge 28, 3) := by decide +kernel
theorem dCM_member_88 : decode cCM_member 88 = .ok (.aload_n 0, 1) := by decide +kernel
theorem dCM_member_89 : decode cCM_member 89 = .ok (.iload 11, 2) := by decide +kernel
theorem dCM_member_91 : decode cCM_member 91 = .ok (.iload 6, 2) := by decide +kernel
theorem dCM_member_93 : decode cCM_member 93 = .ok (.iload 7, 2) := by decide +kernel
theorem dCM_member_95 : decode cCM_member 95 = .ok (.iload 8, 2) := by decide +kernel
theorem dCM_member_97 : decode cCM_member 97 = .ok (.iload 9, 2) := by decide +kernel
theorem dCM_member_99 : decode cCM_member 99 = .ok (.invokestatic 113, 3) := by decide +kernel
theorem dCM_member_102 : decode cCM_member 102 = .ok (.invokevirtual 107, 3) := by decide +kernel
theorem dCM_member_105 : decode cCM_member 105 = .ok (.istore 10, 2) := by decide +kernel
theorem dCM_member_107 : decode cCM_member 107 = .ok (.iinc 11 1, 3) := by decide +kernel
theorem dCM_member_110 : decode cCM_member 110 = .ok (.goto (-40), 3) := by decide +kernel
theorem dCM_member_113 : decode cCM_member 113 = .ok (.iload 10, 2) := by decide +kernel
theorem dCM_member_115 : decode cCM_member 115 = .ok (.ifCond .ne 6, 3) := by decide +kernel
theorem dCM_member_118 : decode cCM_member 118 = .ok (.bipush (-2), 2) := by decide +kernel
theorem dCM_member_120 : decode cCM_member 120 = .ok (.ireturn, 1) := by decide +kernel
theorem dCM_member_121 : decode cCM_member 121 = .ok (.iload_n 3, 1) := by decide +kernel
theorem dCM_member_122 : decode cCM_member 122 = .ok (.iconst 4, 1) := by decide +kernel
theorem dCM_member_123 : decode cCM_member 123 = .ok (.iand, 1) := by decide +kernel
theorem dCM_member_124 : decode cCM_member 124 = .ok (.ifCond .eq 7, 3) := by decide +kernel
theorem dCM_member_127 : decode cCM_member 127 = .ok (.iconst 1, 1) := by decide +kernel
theorem dCM_member_128 : decode cCM_member 128 = .ok (.goto 4, 3) := by decide +kernel
theorem dCM_member_131 : decode cCM_member 131 = .ok (.iconst 0, 1) := by decide +kernel
theorem dCM_member_132 : decode cCM_member 132 = .ok (.istore 11, 2) := by decide +kernel
theorem dCM_member_134 : decode cCM_member 134 = .ok (.iload 11, 2) := by decide +kernel
theorem dCM_member_136 : decode cCM_member 136 = .ok (.ifCond .eq 30, 3) := by decide +kernel
theorem dCM_member_139 : decode cCM_member 139 = .ok (.iload_n 3, 1) := by decide +kernel
theorem dCM_member_140 : decode cCM_member 140 = .ok (.iconst 1, 1) := by decide +kernel
theorem dCM_member_141 : decode cCM_member 141 = .ok (.iand, 1) := by decide +kernel
theorem dCM_member_142 : decode cCM_member 142 = .ok (.ifCond .ne 21, 3) := by decide +kernel
theorem dCM_member_145 : decode cCM_member 145 = .ok (.aload_n 0, 1) := by decide +kernel
theorem dCM_member_146 : decode cCM_member 146 = .ok (.getfield 7, 3) := by decide +kernel
theorem dCM_member_149 : decode cCM_member 149 = .ok (.iload_n 1, 1) := by decide +kernel
theorem dCM_member_150 : decode cCM_member 150 = .ok (.bipush 16, 2) := by decide +kernel
theorem dCM_member_152 : decode cCM_member 152 = .ok (.isub, 1) := by decide +kernel
theorem dCM_member_153 : decode cCM_member 153 = .ok (.baload, 1) := by decide +kernel
theorem dCM_member_154 : decode cCM_member 154 = .ok (.ifCond .eq 12, 3) := by decide +kernel
theorem dCM_member_157 : decode cCM_member 157 = .ok (.iload_n 3, 1) := by decide +kernel
theorem dCM_member_158 : decode cCM_member 158 = .ok (.iconst 2, 1) := by decide +kernel
theorem dCM_member_159 : decode cCM_member 159 = .ok (.iand, 1) := by decide +kernel
theorem dCM_member_160 : decode cCM_member 160 = .ok (.ifCond .eq 6, 3) := by decide +kernel
theorem dCM_member_163 : decode cCM_member 163 = .ok (.bipush (-2), 2) := by decide +kernel
theorem dCM_member_165 : decode cCM_member 165 = .ok (.ireturn, 1) := by decide +kernel
theorem dCM_member_166 : decode cCM_member 166 = .ok (.iload_n 3, 1) := by decide +kernel
theorem dCM_member_167 : decode cCM_member 167 = .ok (.bipush 8, 2) := by decide +kernel
theorem dCM_member_169 : decode cCM_member 169 = .ok (.iand, 1) := by decide +kernel
theorem dCM_member_170 : decode cCM_member 170 = .ok (.ifCond .eq 31, 3) := by decide +kernel
theorem dCM_member_173 : decode cCM_member 173 = .ok (.iload 5, 2) := by decide +kernel
theorem dCM_member_175 : decode cCM_member 175 = .ok (.ifCond .eq 23, 3) := by decide +kernel
theorem dCM_member_178 : decode cCM_member 178 = .ok (.iload 5, 2) := by decide +kernel
theorem dCM_member_180 : decode cCM_member 180 = .ok (.iconst 1, 1) := by decide +kernel
theorem dCM_member_181 : decode cCM_member 181 = .ok (.isub, 1) := by decide +kernel
theorem dCM_member_182 : decode cCM_member 182 = .ok (.iload 6, 2) := by decide +kernel
theorem dCM_member_184 : decode cCM_member 184 = .ok (.iload 7, 2) := by decide +kernel
theorem dCM_member_186 : decode cCM_member 186 = .ok (.iload 8, 2) := by decide +kernel
theorem dCM_member_188 : decode cCM_member 188 = .ok (.iload 9, 2) := by decide +kernel
theorem dCM_member_190 : decode cCM_member 190 = .ok (.invokestatic 113, 3) := by decide +kernel
theorem dCM_member_193 : decode cCM_member 193 = .ok (.bipush 64, 2) := by decide +kernel
theorem dCM_member_195 : decode cCM_member 195 = .ok (.if_icmp .ge 6, 3) := by decide +kernel
theorem dCM_member_198 : decode cCM_member 198 = .ok (.bipush (-2), 2) := by decide +kernel
theorem dCM_member_200 : decode cCM_member 200 = .ok (.ireturn, 1) := by decide +kernel
theorem dCM_member_201 : decode cCM_member 201 = .ok (.iconst 0, 1) := by decide +kernel
theorem dCM_member_202 : decode cCM_member 202 = .ok (.istore 12, 2) := by decide +kernel
theorem dCM_member_204 : decode cCM_member 204 = .ok (.iload 12, 2) := by decide +kernel
theorem dCM_member_206 : decode cCM_member 206 = .ok (.aload_n 0, 1) := by decide +kernel
theorem dCM_member_207 : decode cCM_member 207 = .ok (.getfield 110, 3) := by decide +kernel
theorem dCM_member_210 : decode cCM_member 210 = .ok (.if_icmp .ge 114, 3) := by decide +kernel
theorem dCM_member_213 : decode cCM_member 213 = .ok (.aload_n 0, 1) := by decide +kernel
theorem dCM_member_214 : decode cCM_member 214 = .ok (.getfield 26, 3) := by decide +kernel
theorem dCM_member_217 : decode cCM_member 217 = .ok (.iload 12, 2) := by decide +kernel
theorem dCM_member_219 : decode cCM_member 219 = .ok (.iaload, 1) := by decide +kernel
theorem dCM_member_220 : decode cCM_member 220 = .ok (.iload_n 1, 1) := by decide +kernel
theorem dCM_member_221 : decode cCM_member 221 = .ok (.if_icmp .ne 30, 3) := by decide +kernel
theorem dCM_member_224 : decode cCM_member 224 = .ok (.aload_n 0, 1) := by decide +kernel
theorem dCM_member_225 : decode cCM_member 225 = .ok (.getfield 29, 3) := by decide +kernel
theorem dCM_member_228 : decode cCM_member 228 = .ok (.iload 12, 2) := by decide +kernel
theorem dCM_member_230 : decode cCM_member 230 = .ok (.iaload, 1) := by decide +kernel
theorem dCM_member_231 : decode cCM_member 231 = .ok (.iload_n 2, 1) := by decide +kernel
theorem dCM_member_232 : decode cCM_member 232 = .ok (.if_icmp .ne 19, 3) := by decide +kernel
theorem dCM_member_235 : decode cCM_member 235 = .ok (.aload_n 0, 1) := by decide +kernel
theorem dCM_member_236 : decode cCM_member 236 = .ok (.getfield 38, 3) := by decide +kernel
theorem dCM_member_239 : decode cCM_member 239 = .ok (.iload 12, 2) := by decide +kernel
theorem dCM_member_241 : decode cCM_member 241 = .ok (.iaload, 1) := by decide +kernel
theorem dCM_member_242 : decode cCM_member 242 = .ok (.iload 5, 2) := by decide +kernel
theorem dCM_member_244 : decode cCM_member 244 = .ok (.if_icmp .ne 7, 3) := by decide +kernel
theorem dCM_member_247 : decode cCM_member 247 = .ok (.iconst 1, 1) := by decide +kernel
theorem dCM_member_248 : decode cCM_member 248 = .ok (.goto 4, 3) := by decide +kernel
theorem dCM_member_251 : decode cCM_member 251 = .ok (.iconst 0, 1) := by decide +kernel
theorem dCM_member_252 : decode cCM_member 252 = .ok (.istore 13, 2) := by decide +kernel
theorem dCM_member_254 : decode cCM_member 254 = .ok (.iconst 0, 1) := by decide +kernel
theorem dCM_member_255 : decode cCM_member 255 = .ok (.istore 14, 2) := by decide +kernel
theorem dCM_member_257 : decode cCM_member 257 = .ok (.iload 14, 2) := by decide +kernel
theorem dCM_member_259 : decode cCM_member 259 = .ok (.iload 5, 2) := by decide +kernel
theorem dCM_member_261 : decode cCM_member 261 = .ok (.if_icmp .ge 49, 3) := by decide +kernel
theorem dCM_member_264 : decode cCM_member 264 = .ok (.iload 13, 2) := by decide +kernel
theorem dCM_member_266 : decode cCM_member 266 = .ok (.ifCond .eq 44, 3) := by decide +kernel
theorem dCM_member_269 : decode cCM_member 269 = .ok (.aload_n 0, 1) := by decide +kernel
theorem dCM_member_270 : decode cCM_member 270 = .ok (.getfield 41, 3) := by decide +kernel
theorem dCM_member_273 : decode cCM_member 273 = .ok (.iconst 4, 1) := by decide +kernel
theorem dCM_member_274 : decode cCM_member 274 = .ok (.iload 12, 2) := by decide +kernel
theorem dCM_member_276 : decode cCM_member 276 = .ok (.imul, 1) := by decide +kernel
theorem dCM_member_277 : decode cCM_member 277 = .ok (.iload 14, 2) := by decide +kernel
theorem dCM_member_279 : decode cCM_member 279 = .ok (.iadd, 1) := by decide +kernel
theorem dCM_member_280 : decode cCM_member 280 = .ok (.iaload, 1) := by decide +kernel
theorem dCM_member_281 : decode cCM_member 281 = .ok (.iload 14, 2) := by decide +kernel
theorem dCM_member_283 : decode cCM_member 283 = .ok (.iload 6, 2) := by decide +kernel
theorem dCM_member_285 : decode cCM_member 285 = .ok (.iload 7, 2) := by decide +kernel
theorem dCM_member_287 : decode cCM_member 287 = .ok (.iload 8, 2) := by decide +kernel
theorem dCM_member_289 : decode cCM_member 289 = .ok (.iload 9, 2) := by decide +kernel
theorem dCM_member_291 : decode cCM_member 291 = .ok (.invokestatic 113, 3) := by decide +kernel
theorem dCM_member_294 : decode cCM_member 294 = .ok (.if_icmp .ne 7, 3) := by decide +kernel
theorem dCM_member_297 : decode cCM_member 297 = .ok (.iconst 1, 1) := by decide +kernel
theorem dCM_member_298 : decode cCM_member 298 = .ok (.goto 4, 3) := by decide +kernel
theorem dCM_member_301 : decode cCM_member 301 = .ok (.iconst 0, 1) := by decide +kernel
theorem dCM_member_302 : decode cCM_member 302 = .ok (.istore 13, 2) := by decide +kernel
theorem dCM_member_304 : decode cCM_member 304 = .ok (.iinc 14 1, 3) := by decide +kernel
theorem dCM_member_307 : decode cCM_member 307 = .ok (.goto (-50), 3) := by decide +kernel
theorem dCM_member_310 : decode cCM_member 310 = .ok (.iload 13, 2) := by decide +kernel
theorem dCM_member_312 : decode cCM_member 312 = .ok (.ifCond .eq 6, 3) := by decide +kernel
theorem dCM_member_315 : decode cCM_member 315 = .ok (.bipush (-2), 2) := by decide +kernel
theorem dCM_member_317 : decode cCM_member 317 = .ok (.ireturn, 1) := by decide +kernel
theorem dCM_member_318 : decode cCM_member 318 = .ok (.iinc 12 1, 3) := by decide +kernel
theorem dCM_member_321 : decode cCM_member 321 = .ok (.goto (-117), 3) := by decide +kernel
theorem dCM_member_324 : decode cCM_member 324 = .ok (.aload_n 0, 1) := by decide +kernel
theorem dCM_member_325 : decode cCM_member 325 = .ok (.getfield 26, 3) := by decide +kernel
theorem dCM_member_328 : decode cCM_member 328 = .ok (.aload_n 0, 1) := by decide +kernel
theorem dCM_member_329 : decode cCM_member 329 = .ok (.getfield 110, 3) := by decide +kernel
theorem dCM_member_332 : decode cCM_member 332 = .ok (.iload_n 1, 1) := by decide +kernel
theorem dCM_member_333 : decode cCM_member 333 = .ok (.iastore, 1) := by decide +kernel
theorem dCM_member_334 : decode cCM_member 334 = .ok (.aload_n 0, 1) := by decide +kernel
theorem dCM_member_335 : decode cCM_member 335 = .ok (.getfield 29, 3) := by decide +kernel
theorem dCM_member_338 : decode cCM_member 338 = .ok (.aload_n 0, 1) := by decide +kernel
theorem dCM_member_339 : decode cCM_member 339 = .ok (.getfield 110, 3) := by decide +kernel
theorem dCM_member_342 : decode cCM_member 342 = .ok (.iload_n 2, 1) := by decide +kernel
theorem dCM_member_343 : decode cCM_member 343 = .ok (.iastore, 1) := by decide +kernel
theorem dCM_member_344 : decode cCM_member 344 = .ok (.aload_n 0, 1) := by decide +kernel
theorem dCM_member_345 : decode cCM_member 345 = .ok (.getfield 32, 3) := by decide +kernel
theorem dCM_member_348 : decode cCM_member 348 = .ok (.aload_n 0, 1) := by decide +kernel
theorem dCM_member_349 : decode cCM_member 349 = .ok (.getfield 110, 3) := by decide +kernel
theorem dCM_member_352 : decode cCM_member 352 = .ok (.iload_n 3, 1) := by decide +kernel
theorem dCM_member_353 : decode cCM_member 353 = .ok (.iastore, 1) := by decide +kernel
theorem dCM_member_354 : decode cCM_member 354 = .ok (.aload_n 0, 1) := by decide +kernel
theorem dCM_member_355 : decode cCM_member 355 = .ok (.getfield 35, 3) := by decide +kernel
theorem dCM_member_358 : decode cCM_member 358 = .ok (.aload_n 0, 1) := by decide +kernel
theorem dCM_member_359 : decode cCM_member 359 = .ok (.getfield 110, 3) := by decide +kernel
theorem dCM_member_362 : decode cCM_member 362 = .ok (.iload 4, 2) := by decide +kernel
theorem dCM_member_364 : decode cCM_member 364 = .ok (.iastore, 1) := by decide +kernel
theorem dCM_member_365 : decode cCM_member 365 = .ok (.aload_n 0, 1) := by decide +kernel
theorem dCM_member_366 : decode cCM_member 366 = .ok (.getfield 38, 3) := by decide +kernel
theorem dCM_member_369 : decode cCM_member 369 = .ok (.aload_n 0, 1) := by decide +kernel
theorem dCM_member_370 : decode cCM_member 370 = .ok (.getfield 110, 3) := by decide +kernel
theorem dCM_member_373 : decode cCM_member 373 = .ok (.iload 5, 2) := by decide +kernel
theorem dCM_member_375 : decode cCM_member 375 = .ok (.iastore, 1) := by decide +kernel
theorem dCM_member_376 : decode cCM_member 376 = .ok (.iconst 0, 1) := by decide +kernel
theorem dCM_member_377 : decode cCM_member 377 = .ok (.istore 12, 2) := by decide +kernel
theorem dCM_member_379 : decode cCM_member 379 = .ok (.iload 12, 2) := by decide +kernel
theorem dCM_member_381 : decode cCM_member 381 = .ok (.iload 5, 2) := by decide +kernel
theorem dCM_member_383 : decode cCM_member 383 = .ok (.if_icmp .ge 36, 3) := by decide +kernel
theorem dCM_member_386 : decode cCM_member 386 = .ok (.aload_n 0, 1) := by decide +kernel
theorem dCM_member_387 : decode cCM_member 387 = .ok (.getfield 41, 3) := by decide +kernel
theorem dCM_member_390 : decode cCM_member 390 = .ok (.iconst 4, 1) := by decide +kernel
theorem dCM_member_391 : decode cCM_member 391 = .ok (.aload_n 0, 1) := by decide +kernel
theorem dCM_member_392 : decode cCM_member 392 = .ok (.getfield 110, 3) := by decide +kernel
theorem dCM_member_395 : decode cCM_member 395 = .ok (.imul, 1) := by decide +kernel
theorem dCM_member_396 : decode cCM_member 396 = .ok (.iload 12, 2) := by decide +kernel
theorem dCM_member_398 : decode cCM_member 398 = .ok (.iadd, 1) := by decide +kernel
theorem dCM_member_399 : decode cCM_member 399 = .ok (.iload 12, 2) := by decide +kernel
theorem dCM_member_401 : decode cCM_member 401 = .ok (.iload 6, 2) := by decide +kernel
theorem dCM_member_403 : decode cCM_member 403 = .ok (.iload 7, 2) := by decide +kernel
theorem dCM_member_405 : decode cCM_member 405 = .ok (.iload 8, 2) := by decide +kernel
theorem dCM_member_407 : decode cCM_member 407 = .ok (.iload 9, 2) := by decide +kernel
theorem dCM_member_409 : decode cCM_member 409 = .ok (.invokestatic 113, 3) := by decide +kernel
theorem dCM_member_412 : decode cCM_member 412 = .ok (.iastore, 1) := by decide +kernel
theorem dCM_member_413 : decode cCM_member 413 = .ok (.iinc 12 1, 3) := by decide +kernel
theorem dCM_member_416 : decode cCM_member 416 = .ok (.goto (-37), 3) := by decide +kernel
theorem dCM_member_419 : decode cCM_member 419 = .ok (.aload_n 0, 1) := by decide +kernel
theorem dCM_member_420 : decode cCM_member 420 = .ok (.dup, 1) := by decide +kernel
theorem dCM_member_421 : decode cCM_member 421 = .ok (.getfield 110, 3) := by decide +kernel
theorem dCM_member_424 : decode cCM_member 424 = .ok (.iconst 1, 1) := by decide +kernel
theorem dCM_member_425 : decode cCM_member 425 = .ok (.iadd, 1) := by decide +kernel
theorem dCM_member_426 : decode cCM_member 426 = .ok (.putfield 110, 3) := by decide +kernel
theorem dCM_member_429 : decode cCM_member 429 = .ok (.aload_n 0, 1) := by decide +kernel
theorem dCM_member_430 : decode cCM_member 430 = .ok (.invokevirtual 79, 3) := by decide +kernel
theorem dCM_member_433 : decode cCM_member 433 = .ok (.aload_n 0, 1) := by decide +kernel
theorem dCM_member_434 : decode cCM_member 434 = .ok (.getfield 110, 3) := by decide +kernel
theorem dCM_member_437 : decode cCM_member 437 = .ok (.iconst 1, 1) := by decide +kernel
theorem dCM_member_438 : decode cCM_member 438 = .ok (.isub, 1) := by decide +kernel
theorem dCM_member_439 : decode cCM_member 439 = .ok (.ireturn, 1) := by decide +kernel
theorem dCM_has_0 : decode cCM_has 0 = .ok (.aload_n 0, 1) := by decide +kernel
theorem dCM_has_1 : decode cCM_has 1 = .ok (.getfield 32, 3) := by decide +kernel
theorem dCM_has_4 : decode cCM_has 4 = .ok (.iload_n 1, 1) := by decide +kernel
theorem dCM_has_5 : decode cCM_has 5 = .ok (.iaload, 1) := by decide +kernel
theorem dCM_has_6 : decode cCM_has 6 = .ok (.iload_n 2, 1) := by decide +kernel
theorem dCM_has_7 : decode cCM_has 7 = .ok (.iand, 1) := by decide +kernel
theorem dCM_has_8 : decode cCM_has 8 = .ok (.ifCond .eq 7, 3) := by decide +kernel
theorem dCM_has_11 : decode cCM_has 11 = .ok (.iconst 1, 1) := by decide +kernel
theorem dCM_has_12 : decode cCM_has 12 = .ok (.goto 4, 3) := by decide +kernel
theorem dCM_has_15 : decode cCM_has 15 = .ok (.iconst 0, 1) := by decide +kernel
theorem dCM_has_16 : decode cCM_has 16 = .ok (.ireturn, 1) := by decide +kernel
theorem dCM_sameParams_0 : decode cCM_sameParams 0 = .ok (.aload_n 0, 1) := by decide +kernel
theorem dCM_sameParams_1 : decode cCM_sameParams 1 = .ok (.getfield 38, 3) := by decide +kernel
theorem dCM_sameParams_4 : decode cCM_sameParams 4 = .ok (.iload_n 1, 1) := by decide +kernel
theorem dCM_sameParams_5 : decode cCM_sameParams 5 = .ok (.iaload, 1) := by decide +kernel
theorem dCM_sameParams_6 : decode cCM_sameParams 6 = .ok (.aload_n 0, 1) := by decide +kernel
theorem dCM_sameParams_7 : decode cCM_sameParams 7 = .ok (.getfield 38, 3) := by decide +kernel
theorem dCM_sameParams_10 : decode cCM_sameParams 10 = .ok (.iload_n 2, 1) := by decide +kernel
theorem dCM_sameParams_11 : decode cCM_sameParams 11 = .ok (.iaload, 1) := by decide +kernel
theorem dCM_sameParams_12 : decode cCM_sameParams 12 = .ok (.if_icmp .ne 7, 3) := by decide +kernel
theorem dCM_sameParams_15 : decode cCM_sameParams 15 = .ok (.iconst 1, 1) := by decide +kernel
theorem dCM_sameParams_16 : decode cCM_sameParams 16 = .ok (.goto 4, 3) := by decide +kernel
theorem dCM_sameParams_19 : decode cCM_sameParams 19 = .ok (.iconst 0, 1) := by decide +kernel
theorem dCM_sameParams_20 : decode cCM_sameParams 20 = .ok (.istore_n 3, 1) := by decide +kernel
theorem dCM_sameParams_21 : decode cCM_sameParams 21 = .ok (.iconst 0, 1) := by decide +kernel
theorem dCM_sameParams_22 : decode cCM_sameParams 22 = .ok (.istore 4, 2) := by decide +kernel
theorem dCM_sameParams_24 : decode cCM_sameParams 24 = .ok (.iload 4, 2) := by decide +kernel
end
section
theorem dCM_sameParams_26 : decode cCM_sameParams 26 = .ok (.aload_n 0, 1) := by decide +kernel
theorem dCM_sameParams_27 : decode cCM_sameParams 27 = .ok (.getfield 38, 3) := by decide +kernel
theorem dCM_sameParams_30 : decode cCM_sameParams 30 = .ok (.iload_n 1, 1) := by decide +kernel
theorem dCM_sameParams_31 : decode cCM_sameParams 31 = .ok (.iaload, 1) := by decide +kernel
theorem dCM_sameParams_32 : decode cCM_sameParams 32 = .ok (.if_icmp .ge 44, 3) := by decide +kernel
theorem dCM_sameParams_35 : decode cCM_sameParams 35 = .ok (.iload_n 3, 1) := by decide +kernel
theorem dCM_sameParams_36 : decode cCM_sameParams 36 = .ok (.ifCond .eq 40, 3) := by decide +kernel
theorem dCM_sameParams_39 : decode cCM_sameParams 39 = .ok (.aload_n 0, 1) := by decide +kernel
theorem dCM_sameParams_40 : decode cCM_sameParams 40 = .ok (.getfield 41, 3) := by decide +kernel
theorem dCM_sameParams_43 : decode cCM_sameParams 43 = .ok (.iconst 4, 1) := by decide +kernel
theorem dCM_sameParams_44 : decode cCM_sameParams 44 = .ok (.iload_n 1, 1) := by decide +kernel
theorem dCM_sameParams_45 : decode cCM_sameParams 45 = .ok (.imul, 1) := by decide +kernel
theorem dCM_sameParams_46 : decode cCM_sameParams 46 = .ok (.iload 4, 2) := by decide +kernel
theorem dCM_sameParams_48 : decode cCM_sameParams 48 = .ok (.iadd, 1) := by decide +kernel
theorem dCM_sameParams_49 : decode cCM_sameParams 49 = .ok (.iaload, 1) := by decide +kernel
theorem dCM_sameParams_50 : decode cCM_sameParams 50 = .ok (.aload_n 0, 1) := by decide +kernel
theorem dCM_sameParams_51 : decode cCM_sameParams 51 = .ok (.getfield 41, 3) := by decide +kernel
theorem dCM_sameParams_54 : decode cCM_sameParams 54 = .ok (.iconst 4, 1) := by decide +kernel
theorem dCM_sameParams_55 : decode cCM_sameParams 55 = .ok (.iload_n 2, 1) := by decide +kernel
theorem dCM_sameParams_56 : decode cCM_sameParams 56 = .ok (.imul, 1) := by decide +kernel
theorem dCM_sameParams_57 : decode cCM_sameParams 57 = .ok (.iload 4, 2) := by decide +kernel
theorem dCM_sameParams_59 : decode cCM_sameParams 59 = .ok (.iadd, 1) := by decide +kernel
theorem dCM_sameParams_60 : decode cCM_sameParams 60 = .ok (.iaload, 1) := by decide +kernel
theorem dCM_sameParams_61 : decode cCM_sameParams 61 = .ok (.if_icmp .ne 7, 3) := by decide +kernel
theorem dCM_sameParams_64 : decode cCM_sameParams 64 = .ok (.iconst 1, 1) := by decide +kernel
theorem dCM_sameParams_65 : decode cCM_sameParams 65 = .ok (.goto 4, 3) := by decide +kernel
theorem dCM_sameParams_68 : decode cCM_sameParams 68 = .ok (.iconst 0, 1) := by decide +kernel
theorem dCM_sameParams_69 : decode cCM_sameParams 69 = .ok (.istore_n 3, 1) := by decide +kernel
theorem dCM_sameParams_70 : decode cCM_sameParams 70 = .ok (.iinc 4 1, 3) := by decide +kernel
theorem dCM_sameParams_73 : decode cCM_sameParams 73 = .ok (.goto (-49), 3) := by decide +kernel
theorem dCM_sameParams_76 : decode cCM_sameParams 76 = .ok (.iload_n 3, 1) := by decide +kernel
theorem dCM_sameParams_77 : decode cCM_sameParams 77 = .ok (.ireturn, 1) := by decide +kernel
theorem dCM_isSeen_0 : decode cCM_isSeen 0 = .ok (.aload_n 0, 1) := by decide +kernel
theorem dCM_isSeen_1 : decode cCM_isSeen 1 = .ok (.iload_n 2, 1) := by decide +kernel
theorem dCM_isSeen_2 : decode cCM_isSeen 2 = .ok (.aload_n 0, 1) := by decide +kernel
theorem dCM_isSeen_3 : decode cCM_isSeen 3 = .ok (.getfield 26, 3) := by decide +kernel
theorem dCM_isSeen_6 : decode cCM_isSeen 6 = .ok (.iload_n 1, 1) := by decide +kernel
theorem dCM_isSeen_7 : decode cCM_isSeen 7 = .ok (.iaload, 1) := by decide +kernel
theorem dCM_isSeen_8 : decode cCM_isSeen 8 = .ok (.invokevirtual 89, 3) := by decide +kernel
theorem dCM_isSeen_11 : decode cCM_isSeen 11 = .ok (.ifCond .eq 22, 3) := by decide +kernel
theorem dCM_isSeen_14 : decode cCM_isSeen 14 = .ok (.aload_n 0, 1) := by decide +kernel
theorem dCM_isSeen_15 : decode cCM_isSeen 15 = .ok (.iload_n 1, 1) := by decide +kernel
theorem dCM_isSeen_16 : decode cCM_isSeen 16 = .ok (.iconst 2, 1) := by decide +kernel
theorem dCM_isSeen_17 : decode cCM_isSeen 17 = .ok (.invokevirtual 117, 3) := by decide +kernel
theorem dCM_isSeen_20 : decode cCM_isSeen 20 = .ok (.ifCond .eq 15, 3) := by decide +kernel
theorem dCM_isSeen_23 : decode cCM_isSeen 23 = .ok (.aload_n 0, 1) := by decide +kernel
theorem dCM_isSeen_24 : decode cCM_isSeen 24 = .ok (.getfield 26, 3) := by decide +kernel
theorem dCM_isSeen_27 : decode cCM_isSeen 27 = .ok (.iload_n 1, 1) := by decide +kernel
theorem dCM_isSeen_28 : decode cCM_isSeen 28 = .ok (.iaload, 1) := by decide +kernel
theorem dCM_isSeen_29 : decode cCM_isSeen 29 = .ok (.iload_n 3, 1) := by decide +kernel
theorem dCM_isSeen_30 : decode cCM_isSeen 30 = .ok (.if_icmp .eq 5, 3) := by decide +kernel
theorem dCM_isSeen_33 : decode cCM_isSeen 33 = .ok (.iconst 0, 1) := by decide +kernel
theorem dCM_isSeen_34 : decode cCM_isSeen 34 = .ok (.ireturn, 1) := by decide +kernel
theorem dCM_isSeen_35 : decode cCM_isSeen 35 = .ok (.aload_n 0, 1) := by decide +kernel
theorem dCM_isSeen_36 : decode cCM_isSeen 36 = .ok (.iload_n 1, 1) := by decide +kernel
theorem dCM_isSeen_37 : decode cCM_isSeen 37 = .ok (.iconst 1, 1) := by decide +kernel
theorem dCM_isSeen_38 : decode cCM_isSeen 38 = .ok (.invokevirtual 117, 3) := by decide +kernel
theorem dCM_isSeen_41 : decode cCM_isSeen 41 = .ok (.ifCond .ne 12, 3) := by decide +kernel
theorem dCM_isSeen_44 : decode cCM_isSeen 44 = .ok (.aload_n 0, 1) := by decide +kernel
theorem dCM_isSeen_45 : decode cCM_isSeen 45 = .ok (.iload_n 1, 1) := by decide +kernel
theorem dCM_isSeen_46 : decode cCM_isSeen 46 = .ok (.iconst 2, 1) := by decide +kernel
theorem dCM_isSeen_47 : decode cCM_isSeen 47 = .ok (.invokevirtual 117, 3) := by decide +kernel
theorem dCM_isSeen_50 : decode cCM_isSeen 50 = .ok (.ifCond .eq 5, 3) := by decide +kernel
theorem dCM_isSeen_53 : decode cCM_isSeen 53 = .ok (.iconst 1, 1) := by decide +kernel
theorem dCM_isSeen_54 : decode cCM_isSeen 54 = .ok (.ireturn, 1) := by decide +kernel
theorem dCM_isSeen_55 : decode cCM_isSeen 55 = .ok (.iconst 0, 1) := by decide +kernel
theorem dCM_isSeen_56 : decode cCM_isSeen 56 = .ok (.istore 4, 2) := by decide +kernel
theorem dCM_isSeen_58 : decode cCM_isSeen 58 = .ok (.iload 4, 2) := by decide +kernel
theorem dCM_isSeen_60 : decode cCM_isSeen 60 = .ok (.aload_n 0, 1) := by decide +kernel
theorem dCM_isSeen_61 : decode cCM_isSeen 61 = .ok (.getfield 110, 3) := by decide +kernel
theorem dCM_isSeen_64 : decode cCM_isSeen 64 = .ok (.if_icmp .ge 120, 3) := by decide +kernel
theorem dCM_isSeen_67 : decode cCM_isSeen 67 = .ok (.aload_n 0, 1) := by decide +kernel
theorem dCM_isSeen_68 : decode cCM_isSeen 68 = .ok (.getfield 26, 3) := by decide +kernel
theorem dCM_isSeen_71 : decode cCM_isSeen 71 = .ok (.iload 4, 2) := by decide +kernel
theorem dCM_isSeen_73 : decode cCM_isSeen 73 = .ok (.iaload, 1) := by decide +kernel
theorem dCM_isSeen_74 : decode cCM_isSeen 74 = .ok (.aload_n 0, 1) := by decide +kernel
theorem dCM_isSeen_75 : decode cCM_isSeen 75 = .ok (.getfield 26, 3) := by decide +kernel
theorem dCM_isSeen_78 : decode cCM_isSeen 78 = .ok (.iload_n 1, 1) := by decide +kernel
theorem dCM_isSeen_79 : decode cCM_isSeen 79 = .ok (.iaload, 1) := by decide +kernel
theorem dCM_isSeen_80 : decode cCM_isSeen 80 = .ok (.if_icmp .eq 53, 3) := by decide +kernel
theorem dCM_isSeen_83 : decode cCM_isSeen 83 = .ok (.aload_n 0, 1) := by decide +kernel
theorem dCM_isSeen_84 : decode cCM_isSeen 84 = .ok (.getfield 29, 3) := by decide +kernel
theorem dCM_isSeen_87 : decode cCM_isSeen 87 = .ok (.iload 4, 2) := by decide +kernel
theorem dCM_isSeen_89 : decode cCM_isSeen 89 = .ok (.iaload, 1) := by decide +kernel
theorem dCM_isSeen_90 : decode cCM_isSeen 90 = .ok (.aload_n 0, 1) := by decide +kernel
theorem dCM_isSeen_91 : decode cCM_isSeen 91 = .ok (.getfield 29, 3) := by decide +kernel
theorem dCM_isSeen_94 : decode cCM_isSeen 94 = .ok (.iload_n 1, 1) := by decide +kernel
theorem dCM_isSeen_95 : decode cCM_isSeen 95 = .ok (.iaload, 1) := by decide +kernel
theorem dCM_isSeen_96 : decode cCM_isSeen 96 = .ok (.if_icmp .ne 37, 3) := by decide +kernel
theorem dCM_isSeen_99 : decode cCM_isSeen 99 = .ok (.aload_n 0, 1) := by decide +kernel
theorem dCM_isSeen_100 : decode cCM_isSeen 100 = .ok (.iload 4, 2) := by decide +kernel
theorem dCM_isSeen_102 : decode cCM_isSeen 102 = .ok (.iconst 1, 1) := by decide +kernel
theorem dCM_isSeen_103 : decode cCM_isSeen 103 = .ok (.invokevirtual 117, 3) := by decide +kernel
theorem dCM_isSeen_106 : decode cCM_isSeen 106 = .ok (.ifCond .ne 27, 3) := by decide +kernel
theorem dCM_isSeen_109 : decode cCM_isSeen 109 = .ok (.aload_n 0, 1) := by decide +kernel
theorem dCM_isSeen_110 : decode cCM_isSeen 110 = .ok (.iload 4, 2) := by decide +kernel
theorem dCM_isSeen_112 : decode cCM_isSeen 112 = .ok (.iconst 2, 1) := by decide +kernel
theorem dCM_isSeen_113 : decode cCM_isSeen 113 = .ok (.invokevirtual 117, 3) := by decide +kernel
theorem dCM_isSeen_116 : decode cCM_isSeen 116 = .ok (.ifCond .ne 17, 3) := by decide +kernel
theorem dCM_isSeen_119 : decode cCM_isSeen 119 = .ok (.aload_n 0, 1) := by decide +kernel
theorem dCM_isSeen_120 : decode cCM_isSeen 120 = .ok (.iload_n 1, 1) := by decide +kernel
theorem dCM_isSeen_121 : decode cCM_isSeen 121 = .ok (.iload 4, 2) := by decide +kernel
theorem dCM_isSeen_123 : decode cCM_isSeen 123 = .ok (.invokevirtual 120, 3) := by decide +kernel
theorem dCM_isSeen_126 : decode cCM_isSeen 126 = .ok (.ifCond .eq 7, 3) := by decide +kernel
theorem dCM_isSeen_129 : decode cCM_isSeen 129 = .ok (.iconst 1, 1) := by decide +kernel
theorem dCM_isSeen_130 : decode cCM_isSeen 130 = .ok (.goto 4, 3) := by decide +kernel
theorem dCM_isSeen_133 : decode cCM_isSeen 133 = .ok (.iconst 0, 1) := by decide +kernel
theorem dCM_isSeen_134 : decode cCM_isSeen 134 = .ok (.istore 5, 2) := by decide +kernel
theorem dCM_isSeen_136 : decode cCM_isSeen 136 = .ok (.iload 5, 2) := by decide +kernel
theorem dCM_isSeen_138 : decode cCM_isSeen 138 = .ok (.ifCond .eq 40, 3) := by decide +kernel
theorem dCM_isSeen_141 : decode cCM_isSeen 141 = .ok (.aload_n 0, 1) := by decide +kernel
theorem dCM_isSeen_142 : decode cCM_isSeen 142 = .ok (.iload_n 2, 1) := by decide +kernel
theorem dCM_isSeen_143 : decode cCM_isSeen 143 = .ok (.aload_n 0, 1) := by decide +kernel
theorem dCM_isSeen_144 : decode cCM_isSeen 144 = .ok (.getfield 26, 3) := by decide +kernel
theorem dCM_isSeen_147 : decode cCM_isSeen 147 = .ok (.iload 4, 2) := by decide +kernel
theorem dCM_isSeen_149 : decode cCM_isSeen 149 = .ok (.iaload, 1) := by decide +kernel
theorem dCM_isSeen_150 : decode cCM_isSeen 150 = .ok (.invokevirtual 89, 3) := by decide +kernel
theorem dCM_isSeen_153 : decode cCM_isSeen 153 = .ok (.ifCond .eq 25, 3) := by decide +kernel
theorem dCM_isSeen_156 : decode cCM_isSeen 156 = .ok (.aload_n 0, 1) := by decide +kernel
theorem dCM_isSeen_157 : decode cCM_isSeen 157 = .ok (.aload_n 0, 1) := by decide +kernel
theorem dCM_isSeen_158 : decode cCM_isSeen 158 = .ok (.getfield 26, 3) := by decide +kernel
theorem dCM_isSeen_161 : decode cCM_isSeen 161 = .ok (.iload 4, 2) := by decide +kernel
theorem dCM_isSeen_163 : decode cCM_isSeen 163 = .ok (.iaload, 1) := by decide +kernel
theorem dCM_isSeen_164 : decode cCM_isSeen 164 = .ok (.aload_n 0, 1) := by decide +kernel
theorem dCM_isSeen_165 : decode cCM_isSeen 165 = .ok (.getfield 26, 3) := by decide +kernel
theorem dCM_isSeen_168 : decode cCM_isSeen 168 = .ok (.iload_n 1, 1) := by decide +kernel
theorem dCM_isSeen_169 : decode cCM_isSeen 169 = .ok (.iaload, 1) := by decide +kernel
theorem dCM_isSeen_170 : decode cCM_isSeen 170 = .ok (.invokevirtual 89, 3) := by decide +kernel
theorem dCM_isSeen_173 : decode cCM_isSeen 173 = .ok (.ifCond .eq 5, 3) := by decide +kernel
theorem dCM_isSeen_176 : decode cCM_isSeen 176 = .ok (.iconst 0, 1) := by decide +kernel
theorem dCM_isSeen_177 : decode cCM_isSeen 177 = .ok (.ireturn, 1) := by decide +kernel
theorem dCM_isSeen_178 : decode cCM_isSeen 178 = .ok (.iinc 4 1, 3) := by decide +kernel
theorem dCM_isSeen_181 : decode cCM_isSeen 181 = .ok (.goto (-123), 3) := by decide +kernel
theorem dCM_isSeen_184 : decode cCM_isSeen 184 = .ok (.iconst 1, 1) := by decide +kernel
theorem dCM_isSeen_185 : decode cCM_isSeen 185 = .ok (.ireturn, 1) := by decide +kernel
theorem dCM_findFunction_0 : decode cCM_findFunction 0 = .ok (.iconst (-1), 1) := by decide +kernel
theorem dCM_findFunction_1 : decode cCM_findFunction 1 = .ok (.istore_n 2, 1) := by decide +kernel
theorem dCM_findFunction_2 : decode cCM_findFunction 2 = .ok (.iconst 0, 1) := by decide +kernel
theorem dCM_findFunction_3 : decode cCM_findFunction 3 = .ok (.istore_n 3, 1) := by decide +kernel
theorem dCM_findFunction_4 : decode cCM_findFunction 4 = .ok (.iload_n 3, 1) := by decide +kernel
theorem dCM_findFunction_5 : decode cCM_findFunction 5 = .ok (.aload_n 0, 1) := by decide +kernel
theorem dCM_findFunction_6 : decode cCM_findFunction 6 = .ok (.getfield 110, 3) := by decide +kernel
theorem dCM_findFunction_9 : decode cCM_findFunction 9 = .ok (.if_icmp .ge 68, 3) := by decide +kernel
theorem dCM_findFunction_12 : decode cCM_findFunction 12 = .ok (.aload_n 0, 1) := by decide +kernel
theorem dCM_findFunction_13 : decode cCM_findFunction 13 = .ok (.iload_n 3, 1) := by decide +kernel
theorem dCM_findFunction_14 : decode cCM_findFunction 14 = .ok (.iconst 4, 1) := by decide +kernel
theorem dCM_findFunction_15 : decode cCM_findFunction 15 = .ok (.invokevirtual 117, 3) := by decide +kernel
theorem dCM_findFunction_18 : decode cCM_findFunction 18 = .ok (.ifCond .eq 53, 3) := by decide +kernel
theorem dCM_findFunction_21 : decode cCM_findFunction 21 = .ok (.aload_n 0, 1) := by decide +kernel
theorem dCM_findFunction_22 : decode cCM_findFunction 22 = .ok (.iload_n 3, 1) := by decide +kernel
theorem dCM_findFunction_23 : decode cCM_findFunction 23 = .ok (.iload_n 1, 1) := by decide +kernel
theorem dCM_findFunction_24 : decode cCM_findFunction 24 = .ok (.iload_n 1, 1) := by decide +kernel
theorem dCM_findFunction_25 : decode cCM_findFunction 25 = .ok (.invokevirtual 127, 3) := by decide +kernel
theorem dCM_findFunction_28 : decode cCM_findFunction 28 = .ok (.ifCond .eq 43, 3) := by decide +kernel
theorem dCM_findFunction_31 : decode cCM_findFunction 31 = .ok (.iload_n 2, 1) := by decide +kernel
theorem dCM_findFunction_32 : decode cCM_findFunction 32 = .ok (.ifCond .lt 29, 3) := by decide +kernel
theorem dCM_findFunction_35 : decode cCM_findFunction 35 = .ok (.aload_n 0, 1) := by decide +kernel
theorem dCM_findFunction_36 : decode cCM_findFunction 36 = .ok (.getfield 29, 3) := by decide +kernel
theorem dCM_findFunction_39 : decode cCM_findFunction 39 = .ok (.iload_n 3, 1) := by decide +kernel
theorem dCM_findFunction_40 : decode cCM_findFunction 40 = .ok (.iaload, 1) := by decide +kernel
theorem dCM_findFunction_41 : decode cCM_findFunction 41 = .ok (.aload_n 0, 1) := by decide +kernel
theorem dCM_findFunction_42 : decode cCM_findFunction 42 = .ok (.getfield 29, 3) := by decide +kernel
theorem dCM_findFunction_45 : decode cCM_findFunction 45 = .ok (.iload_n 2, 1) := by decide +kernel
theorem dCM_findFunction_46 : decode cCM_findFunction 46 = .ok (.iaload, 1) := by decide +kernel
theorem dCM_findFunction_47 : decode cCM_findFunction 47 = .ok (.if_icmp .ne 12, 3) := by decide +kernel
theorem dCM_findFunction_50 : decode cCM_findFunction 50 = .ok (.aload_n 0, 1) := by decide +kernel
theorem dCM_findFunction_51 : decode cCM_findFunction 51 = .ok (.iload_n 3, 1) := by decide +kernel
theorem dCM_findFunction_52 : decode cCM_findFunction 52 = .ok (.iload_n 2, 1) := by decide +kernel
theorem dCM_findFunction_53 : decode cCM_findFunction 53 = .ok (.invokevirtual 120, 3) := by decide +kernel
theorem dCM_findFunction_56 : decode cCM_findFunction 56 = .ok (.ifCond .ne 5, 3) := by decide +kernel
theorem dCM_findFunction_59 : decode cCM_findFunction 59 = .ok (.iconst (-1), 1) := by decide +kernel
theorem dCM_findFunction_60 : decode cCM_findFunction 60 = .ok (.ireturn, 1) := by decide +kernel
theorem dCM_findFunction_61 : decode cCM_findFunction 61 = .ok (.iload_n 2, 1) := by decide +kernel
theorem dCM_findFunction_62 : decode cCM_findFunction 62 = .ok (.ifCond .ge 7, 3) := by decide +kernel
theorem dCM_findFunction_65 : decode cCM_findFunction 65 = .ok (.iload_n 3, 1) := by decide +kernel
theorem dCM_findFunction_66 : decode cCM_findFunction 66 = .ok (.goto 4, 3) := by decide +kernel
theorem dCM_findFunction_69 : decode cCM_findFunction 69 = .ok (.iload_n 2, 1) := by decide +kernel
theorem dCM_findFunction_70 : decode cCM_findFunction 70 = .ok (.istore_n 2, 1) := by decide +kernel
theorem dCM_findFunction_71 : decode cCM_findFunction 71 = .ok (.iinc 3 1, 3) := by decide +kernel
theorem dCM_findFunction_74 : decode cCM_findFunction 74 = .ok (.goto (-70), 3) := by decide +kernel
theorem dCM_findFunction_77 : decode cCM_findFunction 77 = .ok (.iload_n 2, 1) := by decide +kernel
theorem dCM_findFunction_78 : decode cCM_findFunction 78 = .ok (.ireturn, 1) := by decide +kernel
theorem dCM_functionOf_0 : decode cCM_functionOf 0 = .ok (.aload_n 0, 1) := by decide +kernel
theorem dCM_functionOf_1 : decode cCM_functionOf 1 = .ok (.iload_n 1, 1) := by decide +kernel
theorem dCM_functionOf_2 : decode cCM_functionOf 2 = .ok (.invokevirtual 72, 3) := by decide +kernel
theorem dCM_functionOf_5 : decode cCM_functionOf 5 = .ok (.ifCond .eq 15, 3) := by decide +kernel
theorem dCM_functionOf_8 : decode cCM_functionOf 8 = .ok (.aload_n 0, 1) := by decide +kernel
theorem dCM_functionOf_9 : decode cCM_functionOf 9 = .ok (.getfield 7, 3) := by decide +kernel
theorem dCM_functionOf_12 : decode cCM_functionOf 12 = .ok (.iload_n 1, 1) := by decide +kernel
theorem dCM_functionOf_13 : decode cCM_functionOf 13 = .ok (.bipush 16, 2) := by decide +kernel
theorem dCM_functionOf_15 : decode cCM_functionOf 15 = .ok (.isub, 1) := by decide +kernel
theorem dCM_functionOf_16 : decode cCM_functionOf 16 = .ok (.baload, 1) := by decide +kernel
theorem dCM_functionOf_17 : decode cCM_functionOf 17 = .ok (.ifCond .ne 5, 3) := by decide +kernel
theorem dCM_functionOf_20 : decode cCM_functionOf 20 = .ok (.iconst (-1), 1) := by decide +kernel
theorem dCM_functionOf_21 : decode cCM_functionOf 21 = .ok (.ireturn, 1) := by decide +kernel
theorem dCM_functionOf_22 : decode cCM_functionOf 22 = .ok (.aload_n 0, 1) := by decide +kernel
theorem dCM_functionOf_23 : decode cCM_functionOf 23 = .ok (.getfield 65, 3) := by decide +kernel
theorem dCM_functionOf_26 : decode cCM_functionOf 26 = .ok (.iload_n 1, 1) := by decide +kernel
theorem dCM_functionOf_27 : decode cCM_functionOf 27 = .ok (.bipush 16, 2) := by decide +kernel
theorem dCM_functionOf_29 : decode cCM_functionOf 29 = .ok (.isub, 1) := by decide +kernel
theorem dCM_functionOf_30 : decode cCM_functionOf 30 = .ok (.iaload, 1) := by decide +kernel
theorem dCM_functionOf_31 : decode cCM_functionOf 31 = .ok (.bipush (-2), 2) := by decide +kernel
theorem dCM_functionOf_33 : decode cCM_functionOf 33 = .ok (.if_icmp .ne 17, 3) := by decide +kernel
theorem dCM_functionOf_36 : decode cCM_functionOf 36 = .ok (.aload_n 0, 1) := by decide +kernel
theorem dCM_functionOf_37 : decode cCM_functionOf 37 = .ok (.getfield 65, 3) := by decide +kernel
theorem dCM_functionOf_40 : decode cCM_functionOf 40 = .ok (.iload_n 1, 1) := by decide +kernel
theorem dCM_functionOf_41 : decode cCM_functionOf 41 = .ok (.bipush 16, 2) := by decide +kernel
theorem dCM_functionOf_43 : decode cCM_functionOf 43 = .ok (.isub, 1) := by decide +kernel
theorem dCM_functionOf_44 : decode cCM_functionOf 44 = .ok (.aload_n 0, 1) := by decide +kernel
theorem dCM_functionOf_45 : decode cCM_functionOf 45 = .ok (.iload_n 1, 1) := by decide +kernel
theorem dCM_functionOf_46 : decode cCM_functionOf 46 = .ok (.invokevirtual 123, 3) := by decide +kernel
theorem dCM_functionOf_49 : decode cCM_functionOf 49 = .ok (.iastore, 1) := by decide +kernel
theorem dCM_functionOf_50 : decode cCM_functionOf 50 = .ok (.aload_n 0, 1) := by decide +kernel
theorem dCM_functionOf_51 : decode cCM_functionOf 51 = .ok (.getfield 65, 3) := by decide +kernel
theorem dCM_functionOf_54 : decode cCM_functionOf 54 = .ok (.iload_n 1, 1) := by decide +kernel
theorem dCM_functionOf_55 : decode cCM_functionOf 55 = .ok (.bipush 16, 2) := by decide +kernel
theorem dCM_functionOf_57 : decode cCM_functionOf 57 = .ok (.isub, 1) := by decide +kernel
theorem dCM_functionOf_58 : decode cCM_functionOf 58 = .ok (.iaload, 1) := by decide +kernel
theorem dCM_functionOf_59 : decode cCM_functionOf 59 = .ok (.ireturn, 1) := by decide +kernel
theorem dCM_function_0 : decode cCM_function 0 = .ok (.aload_n 0, 1) := by decide +kernel
theorem dCM_function_1 : decode cCM_function 1 = .ok (.iload_n 1, 1) := by decide +kernel
theorem dCM_function_2 : decode cCM_function 2 = .ok (.invokevirtual 98, 3) := by decide +kernel
theorem dCM_function_5 : decode cCM_function 5 = .ok (.ifCond .eq 11, 3) := by decide +kernel
theorem dCM_function_8 : decode cCM_function 8 = .ok (.aload_n 0, 1) := by decide +kernel
theorem dCM_function_9 : decode cCM_function 9 = .ok (.iload_n 1, 1) := by decide +kernel
theorem dCM_function_10 : decode cCM_function 10 = .ok (.invokevirtual 131, 3) := by decide +kernel
theorem dCM_function_13 : decode cCM_function 13 = .ok (.goto 5, 3) := by decide +kernel
theorem dCM_function_16 : decode cCM_function 16 = .ok (.bipush (-2), 2) := by decide +kernel
theorem dCM_function_18 : decode cCM_function 18 = .ok (.ireturn, 1) := by decide +kernel
theorem dCM_isAsked_0 : decode cCM_isAsked 0 = .ok (.aload_n 0, 1) := by decide +kernel
theorem dCM_isAsked_1 : decode cCM_isAsked 1 = .ok (.iload_n 1, 1) := by decide +kernel
theorem dCM_isAsked_2 : decode cCM_isAsked 2 = .ok (.invokevirtual 72, 3) := by decide +kernel
theorem dCM_isAsked_5 : decode cCM_isAsked 5 = .ok (.ifCond .eq 27, 3) := by decide +kernel
theorem dCM_isAsked_8 : decode cCM_isAsked 8 = .ok (.iload_n 2, 1) := by decide +kernel
theorem dCM_isAsked_9 : decode cCM_isAsked 9 = .ok (.invokestatic 104, 3) := by decide +kernel
theorem dCM_isAsked_12 : decode cCM_isAsked 12 = .ok (.ifCond .eq 20, 3) := by decide +kernel
theorem dCM_isAsked_15 : decode cCM_isAsked 15 = .ok (.iload_n 3, 1) := by decide +kernel
theorem dCM_isAsked_16 : decode cCM_isAsked 16 = .ok (.iconst (-1), 1) := by decide +kernel
theorem dCM_isAsked_17 : decode cCM_isAsked 17 = .ok (.if_icmp .eq 11, 3) := by decide +kernel
theorem dCM_isAsked_20 : decode cCM_isAsked 20 = .ok (.aload_n 0, 1) := by decide +kernel
theorem dCM_isAsked_21 : decode cCM_isAsked 21 = .ok (.iload_n 3, 1) := by decide +kernel
theorem dCM_isAsked_22 : decode cCM_isAsked 22 = .ok (.invokevirtual 72, 3) := by decide +kernel
theorem dCM_isAsked_25 : decode cCM_isAsked 25 = .ok (.ifCond .eq 7, 3) := by decide +kernel
theorem dCM_isAsked_28 : decode cCM_isAsked 28 = .ok (.iconst 1, 1) := by decide +kernel
theorem dCM_isAsked_29 : decode cCM_isAsked 29 = .ok (.goto 4, 3) := by decide +kernel
theorem dCM_isAsked_32 : decode cCM_isAsked 32 = .ok (.iconst 0, 1) := by decide +kernel
theorem dCM_isAsked_33 : decode cCM_isAsked 33 = .ok (.ireturn, 1) := by decide +kernel
theorem dCM_seen_0 : decode cCM_seen 0 = .ok (.aload_n 0, 1) := by decide +kernel
theorem dCM_seen_1 : decode cCM_seen 1 = .ok (.iload_n 1, 1) := by decide +kernel
theorem dCM_seen_2 : decode cCM_seen 2 = .ok (.iload_n 2, 1) := by decide +kernel
theorem dCM_seen_3 : decode cCM_seen 3 = .ok (.iload_n 3, 1) := by decide +kernel
theorem dCM_seen_4 : decode cCM_seen 4 = .ok (.invokevirtual 134, 3) := by decide +kernel
theorem dCM_seen_7 : decode cCM_seen 7 = .ok (.ifCond .ne 6, 3) := by decide +kernel
theorem dCM_seen_10 : decode cCM_seen 10 = .ok (.bipush (-2), 2) := by decide +kernel
theorem dCM_seen_12 : decode cCM_seen 12 = .ok (.ireturn, 1) := by decide +kernel
theorem dCM_seen_13 : decode cCM_seen 13 = .ok (.iconst 0, 1) := by decide +kernel
theorem dCM_seen_14 : decode cCM_seen 14 = .ok (.istore 4, 2) := by decide +kernel
theorem dCM_seen_16 : decode cCM_seen 16 = .ok (.iconst 0, 1) := by decide +kernel
theorem dCM_seen_17 : decode cCM_seen 17 = .ok (.istore 5, 2) := by decide +kernel
theorem dCM_seen_19 : decode cCM_seen 19 = .ok (.iload 5, 2) := by decide +kernel
theorem dCM_seen_21 : decode cCM_seen 21 = .ok (.aload_n 0, 1) := by decide +kernel
theorem dCM_seen_22 : decode cCM_seen 22 = .ok (.getfield 110, 3) := by decide +kernel
theorem dCM_seen_25 : decode cCM_seen 25 = .ok (.if_icmp .ge 41, 3) := by decide +kernel
theorem dCM_seen_28 : decode cCM_seen 28 = .ok (.iload 4, 2) := by decide +kernel
theorem dCM_seen_30 : decode cCM_seen 30 = .ok (.aload_n 0, 1) := by decide +kernel
theorem dCM_seen_31 : decode cCM_seen 31 = .ok (.getfield 29, 3) := by decide +kernel
theorem dCM_seen_34 : decode cCM_seen 34 = .ok (.iload 5, 2) := by decide +kernel
theorem dCM_seen_36 : decode cCM_seen 36 = .ok (.iaload, 1) := by decide +kernel
theorem dCM_seen_37 : decode cCM_seen 37 = .ok (.iload_n 2, 1) := by decide +kernel
theorem dCM_seen_38 : decode cCM_seen 38 = .ok (.if_icmp .ne 18, 3) := by decide +kernel
theorem dCM_seen_41 : decode cCM_seen 41 = .ok (.aload_n 0, 1) := by decide +kernel
theorem dCM_seen_42 : decode cCM_seen 42 = .ok (.iload 5, 2) := by decide +kernel
theorem dCM_seen_44 : decode cCM_seen 44 = .ok (.iload_n 1, 1) := by decide +kernel
theorem dCM_seen_45 : decode cCM_seen 45 = .ok (.iload_n 3, 1) := by decide +kernel
theorem dCM_seen_46 : decode cCM_seen 46 = .ok (.invokevirtual 127, 3) := by decide +kernel
theorem dCM_seen_49 : decode cCM_seen 49 = .ok (.ifCond .eq 7, 3) := by decide +kernel
theorem dCM_seen_52 : decode cCM_seen 52 = .ok (.iconst 1, 1) := by decide +kernel
theorem dCM_seen_53 : decode cCM_seen 53 = .ok (.goto 4, 3) := by decide +kernel
theorem dCM_seen_56 : decode cCM_seen 56 = .ok (.iconst 0, 1) := by decide +kernel
theorem dCM_seen_57 : decode cCM_seen 57 = .ok (.iadd, 1) := by decide +kernel
theorem dCM_seen_58 : decode cCM_seen 58 = .ok (.istore 4, 2) := by decide +kernel
theorem dCM_seen_60 : decode cCM_seen 60 = .ok (.iinc 5 1, 3) := by decide +kernel
theorem dCM_seen_63 : decode cCM_seen 63 = .ok (.goto (-44), 3) := by decide +kernel
theorem dCM_seen_66 : decode cCM_seen 66 = .ok (.iload 4, 2) := by decide +kernel
theorem dCM_seen_68 : decode cCM_seen 68 = .ok (.ireturn, 1) := by decide +kernel
theorem dCM_seenAt_0 : decode cCM_seenAt 0 = .ok (.aload_n 0, 1) := by decide +kernel
theorem dCM_seenAt_1 : decode cCM_seenAt 1 = .ok (.iload_n 1, 1) := by decide +kernel
theorem dCM_seenAt_2 : decode cCM_seenAt 2 = .ok (.iload_n 2, 1) := by decide +kernel
theorem dCM_seenAt_3 : decode cCM_seenAt 3 = .ok (.iload_n 3, 1) := by decide +kernel
theorem dCM_seenAt_4 : decode cCM_seenAt 4 = .ok (.invokevirtual 134, 3) := by decide +kernel
theorem dCM_seenAt_7 : decode cCM_seenAt 7 = .ok (.ifCond .ne 6, 3) := by decide +kernel
theorem dCM_seenAt_10 : decode cCM_seenAt 10 = .ok (.bipush (-2), 2) := by decide +kernel
theorem dCM_seenAt_12 : decode cCM_seenAt 12 = .ok (.ireturn, 1) := by decide +kernel
theorem dCM_seenAt_13 : decode cCM_seenAt 13 = .ok (.iconst 0, 1) := by decide +kernel
theorem dCM_seenAt_14 : decode cCM_seenAt 14 = .ok (.istore 5, 2) := by decide +kernel
theorem dCM_seenAt_16 : decode cCM_seenAt 16 = .ok (.iconst 0, 1) := by decide +kernel
theorem dCM_seenAt_17 : decode cCM_seenAt 17 = .ok (.istore 6, 2) := by decide +kernel
theorem dCM_seenAt_19 : decode cCM_seenAt 19 = .ok (.iload 6, 2) := by decide +kernel
theorem dCM_seenAt_21 : decode cCM_seenAt 21 = .ok (.aload_n 0, 1) := by decide +kernel
theorem dCM_seenAt_22 : decode cCM_seenAt 22 = .ok (.getfield 110, 3) := by decide +kernel
theorem dCM_seenAt_25 : decode cCM_seenAt 25 = .ok (.if_icmp .ge 44, 3) := by decide +kernel
theorem dCM_seenAt_28 : decode cCM_seenAt 28 = .ok (.aload_n 0, 1) := by decide +kernel
theorem dCM_seenAt_29 : decode cCM_seenAt 29 = .ok (.getfield 29, 3) := by decide +kernel
theorem dCM_seenAt_32 : decode cCM_seenAt 32 = .ok (.iload 6, 2) := by decide +kernel
theorem dCM_seenAt_34 : decode cCM_seenAt 34 = .ok (.iaload, 1) := by decide +kernel
theorem dCM_seenAt_35 : decode cCM_seenAt 35 = .ok (.iload_n 2, 1) := by decide +kernel
theorem dCM_seenAt_36 : decode cCM_seenAt 36 = .ok (.if_icmp .ne 27, 3) := by decide +kernel
theorem dCM_seenAt_39 : decode cCM_seenAt 39 = .ok (.aload_n 0, 1) := by decide +kernel
theorem dCM_seenAt_40 : decode cCM_seenAt 40 = .ok (.iload 6, 2) := by decide +kernel
theorem dCM_seenAt_42 : decode cCM_seenAt 42 = .ok (.iload_n 1, 1) := by decide +kernel
theorem dCM_seenAt_43 : decode cCM_seenAt 43 = .ok (.iload_n 3, 1) := by decide +kernel
theorem dCM_seenAt_44 : decode cCM_seenAt 44 = .ok (.invokevirtual 127, 3) := by decide +kernel
theorem dCM_seenAt_47 : decode cCM_seenAt 47 = .ok (.ifCond .eq 16, 3) := by decide +kernel
theorem dCM_seenAt_50 : decode cCM_seenAt 50 = .ok (.iload 5, 2) := by decide +kernel
theorem dCM_seenAt_52 : decode cCM_seenAt 52 = .ok (.iload 4, 2) := by decide +kernel
theorem dCM_seenAt_54 : decode cCM_seenAt 54 = .ok (.if_icmp .ne 6, 3) := by decide +kernel
theorem dCM_seenAt_57 : decode cCM_seenAt 57 = .ok (.iload 6, 2) := by decide +kernel
theorem dCM_seenAt_59 : decode cCM_seenAt 59 = .ok (.ireturn, 1) := by decide +kernel
theorem dCM_seenAt_60 : decode cCM_seenAt 60 = .ok (.iinc 5 1, 3) := by decide +kernel
theorem dCM_seenAt_63 : decode cCM_seenAt 63 = .ok (.iinc 6 1, 3) := by decide +kernel
theorem dCM_seenAt_66 : decode cCM_seenAt 66 = .ok (.goto (-47), 3) := by decide +kernel
theorem dCM_seenAt_69 : decode cCM_seenAt 69 = .ok (.iconst (-1), 1) := by decide +kernel
theorem dCM_seenAt_70 : decode cCM_seenAt 70 = .ok (.ireturn, 1) := by decide +kernel
theorem dCM_argument_0 : decode cCM_argument 0 = .ok (.aload_n 0, 1) := by decide +kernel
theorem dCM_argument_1 : decode cCM_argument 1 = .ok (.iload_n 1, 1) := by decide +kernel
theorem dCM_argument_2 : decode cCM_argument 2 = .ok (.invokevirtual 98, 3) := by decide +kernel
theorem dCM_argument_5 : decode cCM_argument 5 = .ok (.ifCond .eq 11, 3) := by decide +kernel
theorem dCM_argument_8 : decode cCM_argument 8 = .ok (.aload_n 0, 1) := by decide +kernel
theorem dCM_argument_9 : decode cCM_argument 9 = .ok (.getfield 137, 3) := by decide +kernel
theorem dCM_argument_12 : decode cCM_argument 12 = .ok (.iconst 5, 1) := by decide +kernel
theorem dCM_argument_13 : decode cCM_argument 13 = .ok (.if_icmp .ne 6, 3) := by decide +kernel
theorem dCM_argument_16 : decode cCM_argument 16 = .ok (.bipush (-2), 2) := by decide +kernel
theorem dCM_argument_18 : decode cCM_argument 18 = .ok (.ireturn, 1) := by decide +kernel
theorem dCM_argument_19 : decode cCM_argument 19 = .ok (.aload_n 0, 1) := by decide +kernel
theorem dCM_argument_20 : decode cCM_argument 20 = .ok (.getfield 44, 3) := by decide +kernel
theorem dCM_argument_23 : decode cCM_argument 23 = .ok (.aload_n 0, 1) := by decide +kernel
theorem dCM_argument_24 : decode cCM_argument 24 = .ok (.getfield 137, 3) := by decide +kernel
theorem dCM_argument_27 : decode cCM_argument 27 = .ok (.iload_n 1, 1) := by decide +kernel
theorem dCM_argument_28 : decode cCM_argument 28 = .ok (.iastore, 1) := by decide +kernel
theorem dCM_argument_29 : decode cCM_argument 29 = .ok (.aload_n 0, 1) := by decide +kernel
theorem dCM_argument_30 : decode cCM_argument 30 = .ok (.getfield 47, 3) := by decide +kernel
theorem dCM_argument_33 : decode cCM_argument 33 = .ok (.aload_n 0, 1) := by decide +kernel
theorem dCM_argument_34 : decode cCM_argument 34 = .ok (.getfield 137, 3) := by decide +kernel
theorem dCM_argument_37 : decode cCM_argument 37 = .ok (.iconst 0, 1) := by decide +kernel
theorem dCM_argument_38 : decode cCM_argument 38 = .ok (.iastore, 1) := by decide +kernel
theorem dCM_argument_39 : decode cCM_argument 39 = .ok (.aload_n 0, 1) := by decide +kernel
theorem dCM_argument_40 : decode cCM_argument 40 = .ok (.dup, 1) := by decide +kernel
theorem dCM_argument_41 : decode cCM_argument 41 = .ok (.getfield 137, 3) := by decide +kernel
theorem dCM_argument_44 : decode cCM_argument 44 = .ok (.iconst 1, 1) := by decide +kernel
theorem dCM_argument_45 : decode cCM_argument 45 = .ok (.iadd, 1) := by decide +kernel
theorem dCM_argument_46 : decode cCM_argument 46 = .ok (.putfield 137, 3) := by decide +kernel
theorem dCM_argument_49 : decode cCM_argument 49 = .ok (.aload_n 0, 1) := by decide +kernel
theorem dCM_argument_50 : decode cCM_argument 50 = .ok (.getfield 137, 3) := by decide +kernel
theorem dCM_argument_53 : decode cCM_argument 53 = .ok (.ireturn, 1) := by decide +kernel
theorem dCM_lambda_0 : decode cCM_lambda 0 = .ok (.iload_n 1, 1) := by decide +kernel
theorem dCM_lambda_1 : decode cCM_lambda 1 = .ok (.ifCond .lt 40, 3) := by decide +kernel
theorem dCM_lambda_4 : decode cCM_lambda 4 = .ok (.iload_n 1, 1) := by decide +kernel
theorem dCM_lambda_5 : decode cCM_lambda 5 = .ok (.iconst 2, 1) := by decide +kernel
theorem dCM_lambda_6 : decode cCM_lambda 6 = .ok (.if_icmp .gt 35, 3) := by decide +kernel
theorem dCM_lambda_9 : decode cCM_lambda 9 = .ok (.iload_n 2, 1) := by decide +kernel
theorem dCM_lambda_10 : decode cCM_lambda 10 = .ok (.ifCond .lt 31, 3) := by decide +kernel
theorem dCM_lambda_13 : decode cCM_lambda 13 = .ok (.iload_n 2, 1) := by decide +kernel
theorem dCM_lambda_14 : decode cCM_lambda 14 = .ok (.iconst 1, 1) := by decide +kernel
theorem dCM_lambda_15 : decode cCM_lambda 15 = .ok (.if_icmp .gt 26, 3) := by decide +kernel
theorem dCM_lambda_18 : decode cCM_lambda 18 = .ok (.iload 5, 2) := by decide +kernel
theorem dCM_lambda_20 : decode cCM_lambda 20 = .ok (.iconst (-1), 1) := by decide +kernel
theorem dCM_lambda_21 : decode cCM_lambda 21 = .ok (.if_icmp .eq 12, 3) := by decide +kernel
theorem dCM_lambda_24 : decode cCM_lambda 24 = .ok (.aload_n 0, 1) := by decide +kernel
theorem dCM_lambda_25 : decode cCM_lambda 25 = .ok (.iload 5, 2) := by decide +kernel
theorem dCM_lambda_27 : decode cCM_lambda 27 = .ok (.invokevirtual 107, 3) := by decide +kernel
theorem dCM_lambda_30 : decode cCM_lambda 30 = .ok (.ifCond .eq 11, 3) := by decide +kernel
theorem dCM_lambda_33 : decode cCM_lambda 33 = .ok (.aload_n 0, 1) := by decide +kernel
theorem dCM_lambda_34 : decode cCM_lambda 34 = .ok (.getfield 137, 3) := by decide +kernel
theorem dCM_lambda_37 : decode cCM_lambda 37 = .ok (.iconst 5, 1) := by decide +kernel
theorem dCM_lambda_38 : decode cCM_lambda 38 = .ok (.if_icmp .ne 6, 3) := by decide +kernel
theorem dCM_lambda_41 : decode cCM_lambda 41 = .ok (.bipush (-2), 2) := by decide +kernel
theorem dCM_lambda_43 : decode cCM_lambda 43 = .ok (.ireturn, 1) := by decide +kernel
theorem dCM_lambda_44 : decode cCM_lambda 44 = .ok (.iload_n 2, 1) := by decide +kernel
theorem dCM_lambda_45 : decode cCM_lambda 45 = .ok (.iconst 1, 1) := by decide +kernel
theorem dCM_lambda_46 : decode cCM_lambda 46 = .ok (.if_icmp .ne 32, 3) := by decide +kernel
theorem dCM_lambda_49 : decode cCM_lambda 49 = .ok (.iload_n 1, 1) := by decide +kernel
theorem dCM_lambda_50 : decode cCM_lambda 50 = .ok (.ifCond .le 11, 3) := by decide +kernel
theorem dCM_lambda_53 : decode cCM_lambda 53 = .ok (.aload_n 0, 1) := by decide +kernel
theorem dCM_lambda_54 : decode cCM_lambda 54 = .ok (.iload_n 3, 1) := by decide +kernel
theorem dCM_lambda_55 : decode cCM_lambda 55 = .ok (.invokevirtual 107, 3) := by decide +kernel
theorem dCM_lambda_58 : decode cCM_lambda 58 = .ok (.ifCond .eq 17, 3) := by decide +kernel
theorem dCM_lambda_61 : decode cCM_lambda 61 = .ok (.iload_n 1, 1) := by decide +kernel
theorem dCM_lambda_62 : decode cCM_lambda 62 = .ok (.iconst 1, 1) := by decide +kernel
theorem dCM_lambda_63 : decode cCM_lambda 63 = .ok (.if_icmp .le 15, 3) := by decide +kernel
theorem dCM_lambda_66 : decode cCM_lambda 66 = .ok (.aload_n 0, 1) := by decide +kernel
theorem dCM_lambda_67 : decode cCM_lambda 67 = .ok (.iload 4, 2) := by decide +kernel
theorem dCM_lambda_69 : decode cCM_lambda 69 = .ok (.invokevirtual 107, 3) := by decide +kernel
theorem dCM_lambda_72 : decode cCM_lambda 72 = .ok (.ifCond .ne 6, 3) := by decide +kernel
theorem dCM_lambda_75 : decode cCM_lambda 75 = .ok (.bipush (-2), 2) := by decide +kernel
theorem dCM_lambda_77 : decode cCM_lambda 77 = .ok (.ireturn, 1) := by decide +kernel
theorem dCM_lambda_78 : decode cCM_lambda 78 = .ok (.aload_n 0, 1) := by decide +kernel
theorem dCM_lambda_79 : decode cCM_lambda 79 = .ok (.getfield 47, 3) := by decide +kernel
theorem dCM_lambda_82 : decode cCM_lambda 82 = .ok (.aload_n 0, 1) := by decide +kernel
theorem dCM_lambda_83 : decode cCM_lambda 83 = .ok (.getfield 137, 3) := by decide +kernel
theorem dCM_lambda_86 : decode cCM_lambda 86 = .ok (.iload_n 2, 1) := by decide +kernel
theorem dCM_lambda_87 : decode cCM_lambda 87 = .ok (.iconst 1, 1) := by decide +kernel
theorem dCM_lambda_88 : decode cCM_lambda 88 = .ok (.iadd, 1) := by decide +kernel
theorem dCM_lambda_89 : decode cCM_lambda 89 = .ok (.iastore, 1) := by decide +kernel
theorem dCM_lambda_90 : decode cCM_lambda 90 = .ok (.aload_n 0, 1) := by decide +kernel
theorem dCM_lambda_91 : decode cCM_lambda 91 = .ok (.getfield 50, 3) := by decide +kernel
theorem dCM_lambda_94 : decode cCM_lambda 94 = .ok (.aload_n 0, 1) := by decide +kernel
theorem dCM_lambda_95 : decode cCM_lambda 95 = .ok (.getfield 137, 3) := by decide +kernel
theorem dCM_lambda_98 : decode cCM_lambda 98 = .ok (.iload_n 1, 1) := by decide +kernel
theorem dCM_lambda_99 : decode cCM_lambda 99 = .ok (.iastore, 1) := by decide +kernel
theorem dCM_lambda_100 : decode cCM_lambda 100 = .ok (.aload_n 0, 1) := by decide +kernel
theorem dCM_lambda_101 : decode cCM_lambda 101 = .ok (.getfield 53, 3) := by decide +kernel
theorem dCM_lambda_104 : decode cCM_lambda 104 = .ok (.iconst 2, 1) := by decide +kernel
theorem dCM_lambda_105 : decode cCM_lambda 105 = .ok (.aload_n 0, 1) := by decide +kernel
theorem dCM_lambda_106 : decode cCM_lambda 106 = .ok (.getfield 137, 3) := by decide +kernel
theorem dCM_lambda_109 : decode cCM_lambda 109 = .ok (.imul, 1) := by decide +kernel
theorem dCM_lambda_110 : decode cCM_lambda 110 = .ok (.iload_n 3, 1) := by decide +kernel
theorem dCM_lambda_111 : decode cCM_lambda 111 = .ok (.iastore, 1) := by decide +kernel
theorem dCM_lambda_112 : decode cCM_lambda 112 = .ok (.aload_n 0, 1) := by decide +kernel
theorem dCM_lambda_113 : decode cCM_lambda 113 = .ok (.getfield 53, 3) := by decide +kernel
theorem dCM_lambda_116 : decode cCM_lambda 116 = .ok (.iconst 2, 1) := by decide +kernel
theorem dCM_lambda_117 : decode cCM_lambda 117 = .ok (.aload_n 0, 1) := by decide +kernel
theorem dCM_lambda_118 : decode cCM_lambda 118 = .ok (.getfield 137, 3) := by decide +kernel
theorem dCM_lambda_121 : decode cCM_lambda 121 = .ok (.imul, 1) := by decide +kernel
theorem dCM_lambda_122 : decode cCM_lambda 122 = .ok (.iconst 1, 1) := by decide +kernel
theorem dCM_lambda_123 : decode cCM_lambda 123 = .ok (.iadd, 1) := by decide +kernel
theorem dCM_lambda_124 : decode cCM_lambda 124 = .ok (.iload 4, 2) := by decide +kernel
theorem dCM_lambda_126 : decode cCM_lambda 126 = .ok (.iastore, 1) := by decide +kernel
theorem dCM_lambda_127 : decode cCM_lambda 127 = .ok (.aload_n 0, 1) := by decide +kernel
theorem dCM_lambda_128 : decode cCM_lambda 128 = .ok (.getfield 56, 3) := by decide +kernel
theorem dCM_lambda_131 : decode cCM_lambda 131 = .ok (.aload_n 0, 1) := by decide +kernel
theorem dCM_lambda_132 : decode cCM_lambda 132 = .ok (.getfield 137, 3) := by decide +kernel
theorem dCM_lambda_135 : decode cCM_lambda 135 = .ok (.iload 5, 2) := by decide +kernel
theorem dCM_lambda_137 : decode cCM_lambda 137 = .ok (.iastore, 1) := by decide +kernel
theorem dCM_lambda_138 : decode cCM_lambda 138 = .ok (.aload_n 0, 1) := by decide +kernel
theorem dCM_lambda_139 : decode cCM_lambda 139 = .ok (.dup, 1) := by decide +kernel
theorem dCM_lambda_140 : decode cCM_lambda 140 = .ok (.getfield 137, 3) := by decide +kernel
theorem dCM_lambda_143 : decode cCM_lambda 143 = .ok (.iconst 1, 1) := by decide +kernel
theorem dCM_lambda_144 : decode cCM_lambda 144 = .ok (.iadd, 1) := by decide +kernel
theorem dCM_lambda_145 : decode cCM_lambda 145 = .ok (.putfield 137, 3) := by decide +kernel
theorem dCM_lambda_148 : decode cCM_lambda 148 = .ok (.aload_n 0, 1) := by decide +kernel
theorem dCM_lambda_149 : decode cCM_lambda 149 = .ok (.getfield 137, 3) := by decide +kernel
theorem dCM_lambda_152 : decode cCM_lambda 152 = .ok (.ireturn, 1) := by decide +kernel
theorem dCM_wipe_0 : decode cCM_wipe 0 = .ok (.aload_n 0, 1) := by decide +kernel
theorem dCM_wipe_1 : decode cCM_wipe 1 = .ok (.getfield 137, 3) := by decide +kernel
theorem dCM_wipe_4 : decode cCM_wipe 4 = .ok (.istore_n 1, 1) := by decide +kernel
theorem dCM_wipe_5 : decode cCM_wipe 5 = .ok (.aload_n 0, 1) := by decide +kernel
theorem dCM_wipe_6 : decode cCM_wipe 6 = .ok (.iconst 0, 1) := by decide +kernel
theorem dCM_wipe_7 : decode cCM_wipe 7 = .ok (.putfield 137, 3) := by decide +kernel
theorem dCM_wipe_10 : decode cCM_wipe 10 = .ok (.iload_n 1, 1) := by decide +kernel
theorem dCM_wipe_11 : decode cCM_wipe 11 = .ok (.ireturn, 1) := by decide +kernel
theorem dCM_mostSpecial_0 : decode cCM_mostSpecial 0 = .ok (.iconst (-1), 1) := by decide +kernel
theorem dCM_mostSpecial_1 : decode cCM_mostSpecial 1 = .ok (.istore_n 1, 1) := by decide +kernel
theorem dCM_mostSpecial_2 : decode cCM_mostSpecial 2 = .ok (.iconst (-1), 1) := by decide +kernel
theorem dCM_mostSpecial_3 : decode cCM_mostSpecial 3 = .ok (.istore_n 2, 1) := by decide +kernel
theorem dCM_mostSpecial_4 : decode cCM_mostSpecial 4 = .ok (.iconst 0, 1) := by decide +kernel
theorem dCM_mostSpecial_5 : decode cCM_mostSpecial 5 = .ok (.istore_n 3, 1) := by decide +kernel
theorem dCM_mostSpecial_6 : decode cCM_mostSpecial 6 = .ok (.iconst 0, 1) := by decide +kernel
theorem dCM_mostSpecial_7 : decode cCM_mostSpecial 7 = .ok (.istore 4, 2) := by decide +kernel
theorem dCM_mostSpecial_9 : decode cCM_mostSpecial 9 = .ok (.iconst 1, 1) := by decide +kernel
theorem dCM_mostSpecial_10 : decode cCM_mostSpecial 10 = .ok (.istore 5, 2) := by decide +kernel
theorem dCM_mostSpecial_12 : decode cCM_mostSpecial 12 = .ok (.iconst 0, 1) := by decide +kernel
theorem dCM_mostSpecial_13 : decode cCM_mostSpecial 13 = .ok (.istore 6, 2) := by decide +kernel
theorem dCM_mostSpecial_15 : decode cCM_mostSpecial 15 = .ok (.iload 6, 2) := by decide +kernel
theorem dCM_mostSpecial_17 : decode cCM_mostSpecial 17 = .ok (.aload_n 0, 1) := by decide +kernel
theorem dCM_mostSpecial_18 : decode cCM_mostSpecial 18 = .ok (.getfield 110, 3) := by decide +kernel
theorem dCM_mostSpecial_21 : decode cCM_mostSpecial 21 = .ok (.if_icmp .ge 154, 3) := by decide +kernel
theorem dCM_mostSpecial_24 : decode cCM_mostSpecial 24 = .ok (.aload_n 0, 1) := by decide +kernel
theorem dCM_mostSpecial_25 : decode cCM_mostSpecial 25 = .ok (.getfield 59, 3) := by decide +kernel
theorem dCM_mostSpecial_28 : decode cCM_mostSpecial 28 = .ok (.iload 6, 2) := by decide +kernel
theorem dCM_mostSpecial_30 : decode cCM_mostSpecial 30 = .ok (.baload, 1) := by decide +kernel
theorem dCM_mostSpecial_31 : decode cCM_mostSpecial 31 = .ok (.istore 7, 2) := by decide +kernel
theorem dCM_mostSpecial_33 : decode cCM_mostSpecial 33 = .ok (.iconst 0, 1) := by decide +kernel
theorem dCM_mostSpecial_34 : decode cCM_mostSpecial 34 = .ok (.istore 8, 2) := by decide +kernel
theorem dCM_mostSpecial_36 : decode cCM_mostSpecial 36 = .ok (.iload 8, 2) := by decide +kernel
theorem dCM_mostSpecial_38 : decode cCM_mostSpecial 38 = .ok (.aload_n 0, 1) := by decide +kernel
theorem dCM_mostSpecial_39 : decode cCM_mostSpecial 39 = .ok (.getfield 110, 3) := by decide +kernel
theorem dCM_mostSpecial_42 : decode cCM_mostSpecial 42 = .ok (.if_icmp .ge 47, 3) := by decide +kernel
theorem dCM_mostSpecial_45 : decode cCM_mostSpecial 45 = .ok (.iload 7, 2) := by decide +kernel
theorem dCM_mostSpecial_47 : decode cCM_mostSpecial 47 = .ok (.ifCond .eq 33, 3) := by decide +kernel
theorem dCM_mostSpecial_50 : decode cCM_mostSpecial 50 = .ok (.aload_n 0, 1) := by decide +kernel
theorem dCM_mostSpecial_51 : decode cCM_mostSpecial 51 = .ok (.getfield 59, 3) := by decide +kernel
theorem dCM_mostSpecial_54 : decode cCM_mostSpecial 54 = .ok (.iload 8, 2) := by decide +kernel
theorem dCM_mostSpecial_56 : decode cCM_mostSpecial 56 = .ok (.baload, 1) := by decide +kernel
theorem dCM_mostSpecial_57 : decode cCM_mostSpecial 57 = .ok (.ifCond .eq 19, 3) := by decide +kernel
theorem dCM_mostSpecial_60 : decode cCM_mostSpecial 60 = .ok (.aload_n 0, 1) := by decide +kernel
theorem dCM_mostSpecial_61 : decode cCM_mostSpecial 61 = .ok (.getfield 62, 3) := by decide +kernel
theorem dCM_mostSpecial_64 : decode cCM_mostSpecial 64 = .ok (.bipush 60, 2) := by decide +kernel
theorem dCM_mostSpecial_66 : decode cCM_mostSpecial 66 = .ok (.iload 6, 2) := by decide +kernel
theorem dCM_mostSpecial_68 : decode cCM_mostSpecial 68 = .ok (.imul, 1) := by decide +kernel
theorem dCM_mostSpecial_69 : decode cCM_mostSpecial 69 = .ok (.iload 8, 2) := by decide +kernel
theorem dCM_mostSpecial_71 : decode cCM_mostSpecial 71 = .ok (.iadd, 1) := by decide +kernel
theorem dCM_mostSpecial_72 : decode cCM_mostSpecial 72 = .ok (.baload, 1) := by decide +kernel
theorem dCM_mostSpecial_73 : decode cCM_mostSpecial 73 = .ok (.ifCond .eq 7, 3) := by decide +kernel
theorem dCM_mostSpecial_76 : decode cCM_mostSpecial 76 = .ok (.iconst 1, 1) := by decide +kernel
theorem dCM_mostSpecial_77 : decode cCM_mostSpecial 77 = .ok (.goto 4, 3) := by decide +kernel
theorem dCM_mostSpecial_80 : decode cCM_mostSpecial 80 = .ok (.iconst 0, 1) := by decide +kernel
theorem dCM_mostSpecial_81 : decode cCM_mostSpecial 81 = .ok (.istore 7, 2) := by decide +kernel
theorem dCM_mostSpecial_83 : decode cCM_mostSpecial 83 = .ok (.iinc 8 1, 3) := by decide +kernel
theorem dCM_mostSpecial_86 : decode cCM_mostSpecial 86 = .ok (.goto (-50), 3) := by decide +kernel
theorem dCM_mostSpecial_89 : decode cCM_mostSpecial 89 = .ok (.iload 7, 2) := by decide +kernel
theorem dCM_mostSpecial_91 : decode cCM_mostSpecial 91 = .ok (.ifCond .eq 78, 3) := by decide +kernel
theorem dCM_mostSpecial_94 : decode cCM_mostSpecial 94 = .ok (.iload 5, 2) := by decide +kernel
theorem dCM_mostSpecial_96 : decode cCM_mostSpecial 96 = .ok (.ifCond .eq 21, 3) := by decide +kernel
theorem dCM_mostSpecial_99 : decode cCM_mostSpecial 99 = .ok (.iload_n 1, 1) := by decide +kernel
theorem dCM_mostSpecial_100 : decode cCM_mostSpecial 100 = .ok (.ifCond .lt 13, 3) := by decide +kernel
theorem dCM_mostSpecial_103 : decode cCM_mostSpecial 103 = .ok (.aload_n 0, 1) := by decide +kernel
theorem dCM_mostSpecial_104 : decode cCM_mostSpecial 104 = .ok (.iload_n 1, 1) := by decide +kernel
theorem dCM_mostSpecial_105 : decode cCM_mostSpecial 105 = .ok (.iload 6, 2) := by decide +kernel
theorem dCM_mostSpecial_107 : decode cCM_mostSpecial 107 = .ok (.invokevirtual 120, 3) := by decide +kernel
theorem dCM_mostSpecial_110 : decode cCM_mostSpecial 110 = .ok (.ifCond .eq 7, 3) := by decide +kernel
theorem dCM_mostSpecial_113 : decode cCM_mostSpecial 113 = .ok (.iconst 1, 1) := by decide +kernel
theorem dCM_mostSpecial_114 : decode cCM_mostSpecial 114 = .ok (.goto 4, 3) := by decide +kernel
theorem dCM_mostSpecial_117 : decode cCM_mostSpecial 117 = .ok (.iconst 0, 1) := by decide +kernel
theorem dCM_mostSpecial_118 : decode cCM_mostSpecial 118 = .ok (.istore 5, 2) := by decide +kernel
theorem dCM_mostSpecial_120 : decode cCM_mostSpecial 120 = .ok (.iload_n 1, 1) := by decide +kernel
theorem dCM_mostSpecial_121 : decode cCM_mostSpecial 121 = .ok (.ifCond .ge 8, 3) := by decide +kernel
theorem dCM_mostSpecial_124 : decode cCM_mostSpecial 124 = .ok (.iload 6, 2) := by decide +kernel
theorem dCM_mostSpecial_126 : decode cCM_mostSpecial 126 = .ok (.goto 4, 3) := by decide +kernel
theorem dCM_mostSpecial_129 : decode cCM_mostSpecial 129 = .ok (.iload_n 1, 1) := by decide +kernel
theorem dCM_mostSpecial_130 : decode cCM_mostSpecial 130 = .ok (.istore_n 1, 1) := by decide +kernel
theorem dCM_mostSpecial_131 : decode cCM_mostSpecial 131 = .ok (.aload_n 0, 1) := by decide +kernel
theorem dCM_mostSpecial_132 : decode cCM_mostSpecial 132 = .ok (.iload 6, 2) := by decide +kernel
theorem dCM_mostSpecial_134 : decode cCM_mostSpecial 134 = .ok (.iconst 4, 1) := by decide +kernel
theorem dCM_mostSpecial_135 : decode cCM_mostSpecial 135 = .ok (.invokevirtual 117, 3) := by decide +kernel
theorem dCM_mostSpecial_138 : decode cCM_mostSpecial 138 = .ok (.ifCond .eq 7, 3) := by decide +kernel
theorem dCM_mostSpecial_141 : decode cCM_mostSpecial 141 = .ok (.iload_n 2, 1) := by decide +kernel
theorem dCM_mostSpecial_142 : decode cCM_mostSpecial 142 = .ok (.goto 5, 3) := by decide +kernel
theorem dCM_mostSpecial_145 : decode cCM_mostSpecial 145 = .ok (.iload 6, 2) := by decide +kernel
theorem dCM_mostSpecial_147 : decode cCM_mostSpecial 147 = .ok (.istore_n 2, 1) := by decide +kernel
theorem dCM_mostSpecial_148 : decode cCM_mostSpecial 148 = .ok (.iload_n 3, 1) := by decide +kernel
theorem dCM_mostSpecial_149 : decode cCM_mostSpecial 149 = .ok (.aload_n 0, 1) := by decide +kernel
theorem dCM_mostSpecial_150 : decode cCM_mostSpecial 150 = .ok (.iload 6, 2) := by decide +kernel
theorem dCM_mostSpecial_152 : decode cCM_mostSpecial 152 = .ok (.iconst 4, 1) := by decide +kernel
theorem dCM_mostSpecial_153 : decode cCM_mostSpecial 153 = .ok (.invokevirtual 117, 3) := by decide +kernel
theorem dCM_mostSpecial_156 : decode cCM_mostSpecial 156 = .ok (.ifCond .eq 7, 3) := by decide +kernel
theorem dCM_mostSpecial_159 : decode cCM_mostSpecial 159 = .ok (.iconst 0, 1) := by decide +kernel
theorem dCM_mostSpecial_160 : decode cCM_mostSpecial 160 = .ok (.goto 4, 3) := by decide +kernel
theorem dCM_mostSpecial_163 : decode cCM_mostSpecial 163 = .ok (.iconst 1, 1) := by decide +kernel
theorem dCM_mostSpecial_164 : decode cCM_mostSpecial 164 = .ok (.iadd, 1) := by decide +kernel
theorem dCM_mostSpecial_165 : decode cCM_mostSpecial 165 = .ok (.istore_n 3, 1) := by decide +kernel
theorem dCM_mostSpecial_166 : decode cCM_mostSpecial 166 = .ok (.iinc 4 1, 3) := by decide +kernel
theorem dCM_mostSpecial_169 : decode cCM_mostSpecial 169 = .ok (.iinc 6 1, 3) := by decide +kernel
theorem dCM_mostSpecial_172 : decode cCM_mostSpecial 172 = .ok (.goto (-157), 3) := by decide +kernel
theorem dCM_mostSpecial_175 : decode cCM_mostSpecial 175 = .ok (.iload 4, 2) := by decide +kernel
theorem dCM_mostSpecial_177 : decode cCM_mostSpecial 177 = .ok (.iconst 2, 1) := by decide +kernel
theorem dCM_mostSpecial_178 : decode cCM_mostSpecial 178 = .ok (.if_icmp .ge 5, 3) := by decide +kernel
theorem dCM_mostSpecial_181 : decode cCM_mostSpecial 181 = .ok (.iload_n 1, 1) := by decide +kernel
theorem dCM_mostSpecial_182 : decode cCM_mostSpecial 182 = .ok (.ireturn, 1) := by decide +kernel
theorem dCM_mostSpecial_183 : decode cCM_mostSpecial 183 = .ok (.iload 5, 2) := by decide +kernel
theorem dCM_mostSpecial_185 : decode cCM_mostSpecial 185 = .ok (.ifCond .eq 8, 3) := by decide +kernel
theorem dCM_mostSpecial_188 : decode cCM_mostSpecial 188 = .ok (.iload_n 3, 1) := by decide +kernel
theorem dCM_mostSpecial_189 : decode cCM_mostSpecial 189 = .ok (.iconst 1, 1) := by decide +kernel
theorem dCM_mostSpecial_190 : decode cCM_mostSpecial 190 = .ok (.if_icmp .le 7, 3) := by decide +kernel
theorem dCM_mostSpecial_193 : decode cCM_mostSpecial 193 = .ok (.iconst (-1), 1) := by decide +kernel
theorem dCM_mostSpecial_194 : decode cCM_mostSpecial 194 = .ok (.goto 13, 3) := by decide +kernel
theorem dCM_mostSpecial_197 : decode cCM_mostSpecial 197 = .ok (.iload_n 3, 1) := by decide +kernel
theorem dCM_mostSpecial_198 : decode cCM_mostSpecial 198 = .ok (.iconst 1, 1) := by decide +kernel
theorem dCM_mostSpecial_199 : decode cCM_mostSpecial 199 = .ok (.if_icmp .ne 7, 3) := by decide +kernel
theorem dCM_mostSpecial_202 : decode cCM_mostSpecial 202 = .ok (.iload_n 2, 1) := by decide +kernel
theorem dCM_mostSpecial_203 : decode cCM_mostSpecial 203 = .ok (.goto 4, 3) := by decide +kernel
theorem dCM_mostSpecial_206 : decode cCM_mostSpecial 206 = .ok (.iload_n 1, 1) := by decide +kernel
theorem dCM_mostSpecial_207 : decode cCM_mostSpecial 207 = .ok (.ireturn, 1) := by decide +kernel
theorem dCM_typeAt_0 : decode cCM_typeAt 0 = .ok (.aload_n 0, 1) := by decide +kernel
theorem dCM_typeAt_1 : decode cCM_typeAt 1 = .ok (.getfield 38, 3) := by decide +kernel
theorem dCM_typeAt_4 : decode cCM_typeAt 4 = .ok (.iload_n 1, 1) := by decide +kernel
theorem dCM_typeAt_5 : decode cCM_typeAt 5 = .ok (.iaload, 1) := by decide +kernel
theorem dCM_typeAt_6 : decode cCM_typeAt 6 = .ok (.iconst 1, 1) := by decide +kernel
theorem dCM_typeAt_7 : decode cCM_typeAt 7 = .ok (.isub, 1) := by decide +kernel
theorem dCM_typeAt_8 : decode cCM_typeAt 8 = .ok (.istore 4, 2) := by decide +kernel
theorem dCM_typeAt_10 : decode cCM_typeAt 10 = .ok (.iload_n 3, 1) := by decide +kernel
theorem dCM_typeAt_11 : decode cCM_typeAt 11 = .ok (.ifCond .eq 26, 3) := by decide +kernel
theorem dCM_typeAt_14 : decode cCM_typeAt 14 = .ok (.iload_n 2, 1) := by decide +kernel
theorem dCM_typeAt_15 : decode cCM_typeAt 15 = .ok (.iload 4, 2) := by decide +kernel
theorem dCM_typeAt_17 : decode cCM_typeAt 17 = .ok (.if_icmp .lt 20, 3) := by decide +kernel
theorem dCM_typeAt_20 : decode cCM_typeAt 20 = .ok (.aload_n 0, 1) := by decide +kernel
theorem dCM_typeAt_21 : decode cCM_typeAt 21 = .ok (.getfield 41, 3) := by decide +kernel
theorem dCM_typeAt_24 : decode cCM_typeAt 24 = .ok (.iconst 4, 1) := by decide +kernel
theorem dCM_typeAt_25 : decode cCM_typeAt 25 = .ok (.iload_n 1, 1) := by decide +kernel
theorem dCM_typeAt_26 : decode cCM_typeAt 26 = .ok (.imul, 1) := by decide +kernel
theorem dCM_typeAt_27 : decode cCM_typeAt 27 = .ok (.iload 4, 2) := by decide +kernel
theorem dCM_typeAt_29 : decode cCM_typeAt 29 = .ok (.iadd, 1) := by decide +kernel
theorem dCM_typeAt_30 : decode cCM_typeAt 30 = .ok (.iaload, 1) := by decide +kernel
theorem dCM_typeAt_31 : decode cCM_typeAt 31 = .ok (.bipush 64, 2) := by decide +kernel
theorem dCM_typeAt_33 : decode cCM_typeAt 33 = .ok (.isub, 1) := by decide +kernel
theorem dCM_typeAt_34 : decode cCM_typeAt 34 = .ok (.goto 13, 3) := by decide +kernel
theorem dCM_typeAt_37 : decode cCM_typeAt 37 = .ok (.aload_n 0, 1) := by decide +kernel
theorem dCM_typeAt_38 : decode cCM_typeAt 38 = .ok (.getfield 41, 3) := by decide +kernel
theorem dCM_typeAt_41 : decode cCM_typeAt 41 = .ok (.iconst 4, 1) := by decide +kernel
theorem dCM_typeAt_42 : decode cCM_typeAt 42 = .ok (.iload_n 1, 1) := by decide +kernel
theorem dCM_typeAt_43 : decode cCM_typeAt 43 = .ok (.imul, 1) := by decide +kernel
theorem dCM_typeAt_44 : decode cCM_typeAt 44 = .ok (.iload_n 2, 1) := by decide +kernel
theorem dCM_typeAt_45 : decode cCM_typeAt 45 = .ok (.iadd, 1) := by decide +kernel
theorem dCM_typeAt_46 : decode cCM_typeAt 46 = .ok (.iaload, 1) := by decide +kernel
theorem dCM_typeAt_47 : decode cCM_typeAt 47 = .ok (.ireturn, 1) := by decide +kernel
theorem dCM_isFiner_0 : decode cCM_isFiner 0 = .ok (.aload_n 0, 1) := by decide +kernel
theorem dCM_isFiner_1 : decode cCM_isFiner 1 = .ok (.iload_n 1, 1) := by decide +kernel
theorem dCM_isFiner_2 : decode cCM_isFiner 2 = .ok (.invokevirtual 131, 3) := by decide +kernel
theorem dCM_isFiner_5 : decode cCM_isFiner 5 = .ok (.istore 4, 2) := by decide +kernel
theorem dCM_isFiner_7 : decode cCM_isFiner 7 = .ok (.aload_n 0, 1) := by decide +kernel
theorem dCM_isFiner_8 : decode cCM_isFiner 8 = .ok (.iload_n 2, 1) := by decide +kernel
theorem dCM_isFiner_9 : decode cCM_isFiner 9 = .ok (.invokevirtual 131, 3) := by decide +kernel
theorem dCM_isFiner_12 : decode cCM_isFiner 12 = .ok (.istore 5, 2) := by decide +kernel
theorem dCM_isFiner_14 : decode cCM_isFiner 14 = .ok (.iload 4, 2) := by decide +kernel
theorem dCM_isFiner_16 : decode cCM_isFiner 16 = .ok (.ifCond .lt 37, 3) := by decide +kernel
theorem dCM_isFiner_19 : decode cCM_isFiner 19 = .ok (.iload 5, 2) := by decide +kernel
theorem dCM_isFiner_21 : decode cCM_isFiner 21 = .ok (.ifCond .lt 32, 3) := by decide +kernel
theorem dCM_isFiner_24 : decode cCM_isFiner 24 = .ok (.aload_n 0, 1) := by decide +kernel
theorem dCM_isFiner_25 : decode cCM_isFiner 25 = .ok (.iload 4, 2) := by decide +kernel
theorem dCM_isFiner_27 : decode cCM_isFiner 27 = .ok (.iload 5, 2) := by decide +kernel
theorem dCM_isFiner_29 : decode cCM_isFiner 29 = .ok (.invokevirtual 120, 3) := by decide +kernel
theorem dCM_isFiner_32 : decode cCM_isFiner 32 = .ok (.ifCond .eq 21, 3) := by decide +kernel
theorem dCM_isFiner_35 : decode cCM_isFiner 35 = .ok (.aload_n 0, 1) := by decide +kernel
theorem dCM_isFiner_36 : decode cCM_isFiner 36 = .ok (.iload_n 1, 1) := by decide +kernel
theorem dCM_isFiner_37 : decode cCM_isFiner 37 = .ok (.iload_n 2, 1) := by decide +kernel
theorem dCM_isFiner_38 : decode cCM_isFiner 38 = .ok (.invokevirtual 89, 3) := by decide +kernel
theorem dCM_isFiner_41 : decode cCM_isFiner 41 = .ok (.ifCond .ne 12, 3) := by decide +kernel
theorem dCM_isFiner_44 : decode cCM_isFiner 44 = .ok (.aload_n 0, 1) := by decide +kernel
theorem dCM_isFiner_45 : decode cCM_isFiner 45 = .ok (.iload_n 2, 1) := by decide +kernel
theorem dCM_isFiner_46 : decode cCM_isFiner 46 = .ok (.iload_n 1, 1) := by decide +kernel
theorem dCM_isFiner_47 : decode cCM_isFiner 47 = .ok (.invokevirtual 89, 3) := by decide +kernel
theorem dCM_isFiner_50 : decode cCM_isFiner 50 = .ok (.ifCond .eq 5, 3) := by decide +kernel
theorem dCM_isFiner_53 : decode cCM_isFiner 53 = .ok (.iconst 0, 1) := by decide +kernel
theorem dCM_isFiner_54 : decode cCM_isFiner 54 = .ok (.ireturn, 1) := by decide +kernel
theorem dCM_isFiner_55 : decode cCM_isFiner 55 = .ok (.aload_n 0, 1) := by decide +kernel
theorem dCM_isFiner_56 : decode cCM_isFiner 56 = .ok (.getfield 35, 3) := by decide +kernel
theorem dCM_isFiner_59 : decode cCM_isFiner 59 = .ok (.iload 4, 2) := by decide +kernel
theorem dCM_isFiner_61 : decode cCM_isFiner 61 = .ok (.iaload, 1) := by decide +kernel
theorem dCM_isFiner_62 : decode cCM_isFiner 62 = .ok (.istore 6, 2) := by decide +kernel
theorem dCM_isFiner_64 : decode cCM_isFiner 64 = .ok (.aload_n 0, 1) := by decide +kernel
theorem dCM_isFiner_65 : decode cCM_isFiner 65 = .ok (.getfield 35, 3) := by decide +kernel
theorem dCM_isFiner_68 : decode cCM_isFiner 68 = .ok (.iload 5, 2) := by decide +kernel
theorem dCM_isFiner_70 : decode cCM_isFiner 70 = .ok (.iaload, 1) := by decide +kernel
theorem dCM_isFiner_71 : decode cCM_isFiner 71 = .ok (.istore 7, 2) := by decide +kernel
theorem dCM_isFiner_73 : decode cCM_isFiner 73 = .ok (.iload 7, 2) := by decide +kernel
theorem dCM_isFiner_75 : decode cCM_isFiner 75 = .ok (.iconst (-1), 1) := by decide +kernel
theorem dCM_isFiner_76 : decode cCM_isFiner 76 = .ok (.if_icmp .ne 5, 3) := by decide +kernel
theorem dCM_isFiner_79 : decode cCM_isFiner 79 = .ok (.iconst 1, 1) := by decide +kernel
theorem dCM_isFiner_80 : decode cCM_isFiner 80 = .ok (.ireturn, 1) := by decide +kernel
theorem dCM_isFiner_81 : decode cCM_isFiner 81 = .ok (.iload 6, 2) := by decide +kernel
theorem dCM_isFiner_83 : decode cCM_isFiner 83 = .ok (.iconst (-1), 1) := by decide +kernel
theorem dCM_isFiner_84 : decode cCM_isFiner 84 = .ok (.if_icmp .ne 5, 3) := by decide +kernel
theorem dCM_isFiner_87 : decode cCM_isFiner 87 = .ok (.iconst 0, 1) := by decide +kernel
theorem dCM_isFiner_88 : decode cCM_isFiner 88 = .ok (.ireturn, 1) := by decide +kernel
theorem dCM_isFiner_89 : decode cCM_isFiner 89 = .ok (.aload_n 0, 1) := by decide +kernel
theorem dCM_isFiner_90 : decode cCM_isFiner 90 = .ok (.getfield 56, 3) := by decide +kernel
theorem dCM_isFiner_93 : decode cCM_isFiner 93 = .ok (.iload_n 3, 1) := by decide +kernel
theorem dCM_isFiner_94 : decode cCM_isFiner 94 = .ok (.iaload, 1) := by decide +kernel
theorem dCM_isFiner_95 : decode cCM_isFiner 95 = .ok (.invokestatic 82, 3) := by decide +kernel
theorem dCM_isFiner_98 : decode cCM_isFiner 98 = .ok (.istore 8, 2) := by decide +kernel
theorem dCM_isFiner_100 : decode cCM_isFiner 100 = .ok (.aload_n 0, 1) := by decide +kernel
theorem dCM_isFiner_101 : decode cCM_isFiner 101 = .ok (.iload 6, 2) := by decide +kernel
theorem dCM_isFiner_103 : decode cCM_isFiner 103 = .ok (.iload 7, 2) := by decide +kernel
theorem dCM_isFiner_105 : decode cCM_isFiner 105 = .ok (.invokevirtual 89, 3) := by decide +kernel
theorem dCM_isFiner_108 : decode cCM_isFiner 108 = .ok (.ifCond .ne 45, 3) := by decide +kernel
theorem dCM_isFiner_111 : decode cCM_isFiner 111 = .ok (.iload 6, 2) := by decide +kernel
theorem dCM_isFiner_113 : decode cCM_isFiner 113 = .ok (.invokestatic 82, 3) := by decide +kernel
theorem dCM_isFiner_116 : decode cCM_isFiner 116 = .ok (.ifCond .eq 16, 3) := by decide +kernel
theorem dCM_isFiner_119 : decode cCM_isFiner 119 = .ok (.iload 7, 2) := by decide +kernel
theorem dCM_isFiner_121 : decode cCM_isFiner 121 = .ok (.invokestatic 82, 3) := by decide +kernel
theorem dCM_isFiner_124 : decode cCM_isFiner 124 = .ok (.ifCond .ne 8, 3) := by decide +kernel
theorem dCM_isFiner_127 : decode cCM_isFiner 127 = .ok (.iload 8, 2) := by decide +kernel
theorem dCM_isFiner_129 : decode cCM_isFiner 129 = .ok (.ifCond .ne 24, 3) := by decide +kernel
theorem dCM_isFiner_132 : decode cCM_isFiner 132 = .ok (.iload 6, 2) := by decide +kernel
theorem dCM_isFiner_134 : decode cCM_isFiner 134 = .ok (.invokestatic 82, 3) := by decide +kernel
theorem dCM_isFiner_137 : decode cCM_isFiner 137 = .ok (.ifCond .ne 20, 3) := by decide +kernel
theorem dCM_isFiner_140 : decode cCM_isFiner 140 = .ok (.iload 7, 2) := by decide +kernel
theorem dCM_isFiner_142 : decode cCM_isFiner 142 = .ok (.invokestatic 82, 3) := by decide +kernel
theorem dCM_isFiner_145 : decode cCM_isFiner 145 = .ok (.ifCond .eq 12, 3) := by decide +kernel
theorem dCM_isFiner_148 : decode cCM_isFiner 148 = .ok (.iload 8, 2) := by decide +kernel
theorem dCM_isFiner_150 : decode cCM_isFiner 150 = .ok (.ifCond .ne 7, 3) := by decide +kernel
theorem dCM_isFiner_153 : decode cCM_isFiner 153 = .ok (.iconst 1, 1) := by decide +kernel
theorem dCM_isFiner_154 : decode cCM_isFiner 154 = .ok (.goto 4, 3) := by decide +kernel
theorem dCM_isFiner_157 : decode cCM_isFiner 157 = .ok (.iconst 0, 1) := by decide +kernel
theorem dCM_isFiner_158 : decode cCM_isFiner 158 = .ok (.ireturn, 1) := by decide +kernel
theorem dCM_isSpecial_0 : decode cCM_isSpecial 0 = .ok (.aload_n 0, 1) := by decide +kernel
theorem dCM_isSpecial_1 : decode cCM_isSpecial 1 = .ok (.getfield 153, 3) := by decide +kernel
theorem dCM_isSpecial_4 : decode cCM_isSpecial 4 = .ok (.iconst 3, 1) := by decide +kernel
theorem dCM_isSpecial_5 : decode cCM_isSpecial 5 = .ok (.if_icmp .ne 7, 3) := by decide +kernel
theorem dCM_isSpecial_8 : decode cCM_isSpecial 8 = .ok (.iconst 1, 1) := by decide +kernel
theorem dCM_isSpecial_9 : decode cCM_isSpecial 9 = .ok (.goto 4, 3) := by decide +kernel
theorem dCM_isSpecial_12 : decode cCM_isSpecial 12 = .ok (.iconst 0, 1) := by decide +kernel
theorem dCM_isSpecial_13 : decode cCM_isSpecial 13 = .ok (.istore_n 3, 1) := by decide +kernel
theorem dCM_isSpecial_14 : decode cCM_isSpecial 14 = .ok (.iconst 0, 1) := by decide +kernel
theorem dCM_isSpecial_15 : decode cCM_isSpecial 15 = .ok (.istore 4, 2) := by decide +kernel
theorem dCM_isSpecial_17 : decode cCM_isSpecial 17 = .ok (.iload 4, 2) := by decide +kernel
theorem dCM_isSpecial_19 : decode cCM_isSpecial 19 = .ok (.aload_n 0, 1) := by decide +kernel
theorem dCM_isSpecial_20 : decode cCM_isSpecial 20 = .ok (.getfield 137, 3) := by decide +kernel
theorem dCM_isSpecial_23 : decode cCM_isSpecial 23 = .ok (.if_icmp .ge 66, 3) := by decide +kernel
theorem dCM_isSpecial_26 : decode cCM_isSpecial 26 = .ok (.aload_n 0, 1) := by decide +kernel
theorem dCM_isSpecial_27 : decode cCM_isSpecial 27 = .ok (.iload_n 1, 1) := by decide +kernel
theorem dCM_isSpecial_28 : decode cCM_isSpecial 28 = .ok (.iload 4, 2) := by decide +kernel
theorem dCM_isSpecial_30 : decode cCM_isSpecial 30 = .ok (.iload_n 3, 1) := by decide +kernel
theorem dCM_isSpecial_31 : decode cCM_isSpecial 31 = .ok (.invokevirtual 143, 3) := by decide +kernel
theorem dCM_isSpecial_34 : decode cCM_isSpecial 34 = .ok (.istore 5, 2) := by decide +kernel
theorem dCM_isSpecial_36 : decode cCM_isSpecial 36 = .ok (.aload_n 0, 1) := by decide +kernel
theorem dCM_isSpecial_37 : decode cCM_isSpecial 37 = .ok (.iload_n 2, 1) := by decide +kernel
theorem dCM_isSpecial_38 : decode cCM_isSpecial 38 = .ok (.iload 4, 2) := by decide +kernel
theorem dCM_isSpecial_40 : decode cCM_isSpecial 40 = .ok (.iload_n 3, 1) := by decide +kernel
theorem dCM_isSpecial_41 : decode cCM_isSpecial 41 = .ok (.invokevirtual 143, 3) := by decide +kernel
theorem dCM_isSpecial_44 : decode cCM_isSpecial 44 = .ok (.istore 6, 2) := by decide +kernel
theorem dCM_isSpecial_46 : decode cCM_isSpecial 46 = .ok (.aload_n 0, 1) := by decide +kernel
theorem dCM_isSpecial_47 : decode cCM_isSpecial 47 = .ok (.iload 5, 2) := by decide +kernel
theorem dCM_isSpecial_49 : decode cCM_isSpecial 49 = .ok (.iload 6, 2) := by decide +kernel
theorem dCM_isSpecial_51 : decode cCM_isSpecial 51 = .ok (.invokevirtual 89, 3) := by decide +kernel
theorem dCM_isSpecial_54 : decode cCM_isSpecial 54 = .ok (.ifCond .ne 29, 3) := by decide +kernel
theorem dCM_isSpecial_57 : decode cCM_isSpecial 57 = .ok (.aload_n 0, 1) := by decide +kernel
theorem dCM_isSpecial_58 : decode cCM_isSpecial 58 = .ok (.getfield 47, 3) := by decide +kernel
theorem dCM_isSpecial_61 : decode cCM_isSpecial 61 = .ok (.iload 4, 2) := by decide +kernel
theorem dCM_isSpecial_63 : decode cCM_isSpecial 63 = .ok (.iaload, 1) := by decide +kernel
theorem dCM_isSpecial_64 : decode cCM_isSpecial 64 = .ok (.iconst 2, 1) := by decide +kernel
theorem dCM_isSpecial_65 : decode cCM_isSpecial 65 = .ok (.if_icmp .ne 16, 3) := by decide +kernel
theorem dCM_isSpecial_68 : decode cCM_isSpecial 68 = .ok (.aload_n 0, 1) := by decide +kernel
theorem dCM_isSpecial_69 : decode cCM_isSpecial 69 = .ok (.iload 5, 2) := by decide +kernel
theorem dCM_isSpecial_71 : decode cCM_isSpecial 71 = .ok (.iload 6, 2) := by decide +kernel
theorem dCM_isSpecial_73 : decode cCM_isSpecial 73 = .ok (.iload 4, 2) := by decide +kernel
theorem dCM_isSpecial_75 : decode cCM_isSpecial 75 = .ok (.invokevirtual 156, 3) := by decide +kernel
theorem dCM_isSpecial_78 : decode cCM_isSpecial 78 = .ok (.ifCond .ne 5, 3) := by decide +kernel
theorem dCM_isSpecial_81 : decode cCM_isSpecial 81 = .ok (.iconst 0, 1) := by decide +kernel
theorem dCM_isSpecial_82 : decode cCM_isSpecial 82 = .ok (.ireturn, 1) := by decide +kernel
theorem dCM_isSpecial_83 : decode cCM_isSpecial 83 = .ok (.iinc 4 1, 3) := by decide +kernel
theorem dCM_isSpecial_86 : decode cCM_isSpecial 86 = .ok (.goto (-69), 3) := by decide +kernel
theorem dCM_isSpecial_89 : decode cCM_isSpecial 89 = .ok (.iload_n 3, 1) := by decide +kernel
theorem dCM_isSpecial_90 : decode cCM_isSpecial 90 = .ok (.ifCond .eq 50, 3) := by decide +kernel
theorem dCM_isSpecial_93 : decode cCM_isSpecial 93 = .ok (.aload_n 0, 1) := by decide +kernel
theorem dCM_isSpecial_94 : decode cCM_isSpecial 94 = .ok (.aload_n 0, 1) := by decide +kernel
theorem dCM_isSpecial_95 : decode cCM_isSpecial 95 = .ok (.getfield 41, 3) := by decide +kernel
theorem dCM_isSpecial_98 : decode cCM_isSpecial 98 = .ok (.iconst 4, 1) := by decide +kernel
theorem dCM_isSpecial_99 : decode cCM_isSpecial 99 = .ok (.iload_n 1, 1) := by decide +kernel
theorem dCM_isSpecial_100 : decode cCM_isSpecial 100 = .ok (.imul, 1) := by decide +kernel
theorem dCM_isSpecial_101 : decode cCM_isSpecial 101 = .ok (.aload_n 0, 1) := by decide +kernel
theorem dCM_isSpecial_102 : decode cCM_isSpecial 102 = .ok (.getfield 38, 3) := by decide +kernel
theorem dCM_isSpecial_105 : decode cCM_isSpecial 105 = .ok (.iload_n 1, 1) := by decide +kernel
theorem dCM_isSpecial_106 : decode cCM_isSpecial 106 = .ok (.iaload, 1) := by decide +kernel
theorem dCM_isSpecial_107 : decode cCM_isSpecial 107 = .ok (.iadd, 1) := by decide +kernel
theorem dCM_isSpecial_108 : decode cCM_isSpecial 108 = .ok (.iconst 1, 1) := by decide +kernel
theorem dCM_isSpecial_109 : decode cCM_isSpecial 109 = .ok (.isub, 1) := by decide +kernel
theorem dCM_isSpecial_110 : decode cCM_isSpecial 110 = .ok (.iaload, 1) := by decide +kernel
theorem dCM_isSpecial_111 : decode cCM_isSpecial 111 = .ok (.bipush 64, 2) := by decide +kernel
theorem dCM_isSpecial_113 : decode cCM_isSpecial 113 = .ok (.isub, 1) := by decide +kernel
theorem dCM_isSpecial_114 : decode cCM_isSpecial 114 = .ok (.aload_n 0, 1) := by decide +kernel
theorem dCM_isSpecial_115 : decode cCM_isSpecial 115 = .ok (.getfield 41, 3) := by decide +kernel
theorem dCM_isSpecial_118 : decode cCM_isSpecial 118 = .ok (.iconst 4, 1) := by decide +kernel
theorem dCM_isSpecial_119 : decode cCM_isSpecial 119 = .ok (.iload_n 2, 1) := by decide +kernel
theorem dCM_isSpecial_120 : decode cCM_isSpecial 120 = .ok (.imul, 1) := by decide +kernel
theorem dCM_isSpecial_121 : decode cCM_isSpecial 121 = .ok (.aload_n 0, 1) := by decide +kernel
theorem dCM_isSpecial_122 : decode cCM_isSpecial 122 = .ok (.getfield 38, 3) := by decide +kernel
theorem dCM_isSpecial_125 : decode cCM_isSpecial 125 = .ok (.iload_n 2, 1) := by decide +kernel
theorem dCM_isSpecial_126 : decode cCM_isSpecial 126 = .ok (.iaload, 1) := by decide +kernel
theorem dCM_isSpecial_127 : decode cCM_isSpecial 127 = .ok (.iadd, 1) := by decide +kernel
theorem dCM_isSpecial_128 : decode cCM_isSpecial 128 = .ok (.iconst 1, 1) := by decide +kernel
theorem dCM_isSpecial_129 : decode cCM_isSpecial 129 = .ok (.isub, 1) := by decide +kernel
theorem dCM_isSpecial_130 : decode cCM_isSpecial 130 = .ok (.iaload, 1) := by decide +kernel
theorem dCM_isSpecial_131 : decode cCM_isSpecial 131 = .ok (.bipush 64, 2) := by decide +kernel
theorem dCM_isSpecial_133 : decode cCM_isSpecial 133 = .ok (.isub, 1) := by decide +kernel
theorem dCM_isSpecial_134 : decode cCM_isSpecial 134 = .ok (.invokevirtual 89, 3) := by decide +kernel
theorem dCM_isSpecial_137 : decode cCM_isSpecial 137 = .ok (.ifCond .eq 7, 3) := by decide +kernel
theorem dCM_isSpecial_140 : decode cCM_isSpecial 140 = .ok (.iconst 1, 1) := by decide +kernel
theorem dCM_isSpecial_141 : decode cCM_isSpecial 141 = .ok (.goto 4, 3) := by decide +kernel
theorem dCM_isSpecial_144 : decode cCM_isSpecial 144 = .ok (.iconst 0, 1) := by decide +kernel
theorem dCM_isSpecial_145 : decode cCM_isSpecial 145 = .ok (.ireturn, 1) := by decide +kernel
theorem dCM_hasShape_0 : decode cCM_hasShape 0 = .ok (.aload_n 0, 1) := by decide +kernel
theorem dCM_hasShape_1 : decode cCM_hasShape 1 = .ok (.iload_n 1, 1) := by decide +kernel
theorem dCM_hasShape_2 : decode cCM_hasShape 2 = .ok (.invokevirtual 131, 3) := by decide +kernel
theorem dCM_hasShape_5 : decode cCM_hasShape 5 = .ok (.istore_n 3, 1) := by decide +kernel
theorem dCM_hasShape_6 : decode cCM_hasShape 6 = .ok (.iload_n 3, 1) := by decide +kernel
theorem dCM_hasShape_7 : decode cCM_hasShape 7 = .ok (.ifCond .lt 55, 3) := by decide +kernel
theorem dCM_hasShape_10 : decode cCM_hasShape 10 = .ok (.aload_n 0, 1) := by decide +kernel
theorem dCM_hasShape_11 : decode cCM_hasShape 11 = .ok (.getfield 38, 3) := by decide +kernel
theorem dCM_hasShape_14 : decode cCM_hasShape 14 = .ok (.iload_n 3, 1) := by decide +kernel
theorem dCM_hasShape_15 : decode cCM_hasShape 15 = .ok (.iaload, 1) := by decide +kernel
theorem dCM_hasShape_16 : decode cCM_hasShape 16 = .ok (.aload_n 0, 1) := by decide +kernel
theorem dCM_hasShape_17 : decode cCM_hasShape 17 = .ok (.getfield 50, 3) := by decide +kernel
theorem dCM_hasShape_20 : decode cCM_hasShape 20 = .ok (.iload_n 2, 1) := by decide +kernel
theorem dCM_hasShape_21 : decode cCM_hasShape 21 = .ok (.iaload, 1) := by decide +kernel
theorem dCM_hasShape_22 : decode cCM_hasShape 22 = .ok (.if_icmp .ne 40, 3) := by decide +kernel
theorem dCM_hasShape_25 : decode cCM_hasShape 25 = .ok (.aload_n 0, 1) := by decide +kernel
theorem dCM_hasShape_26 : decode cCM_hasShape 26 = .ok (.getfield 35, 3) := by decide +kernel
theorem dCM_hasShape_29 : decode cCM_hasShape 29 = .ok (.iload_n 3, 1) := by decide +kernel
theorem dCM_hasShape_30 : decode cCM_hasShape 30 = .ok (.iaload, 1) := by decide +kernel
theorem dCM_hasShape_31 : decode cCM_hasShape 31 = .ok (.iconst (-1), 1) := by decide +kernel
theorem dCM_hasShape_32 : decode cCM_hasShape 32 = .ok (.if_icmp .ne 7, 3) := by decide +kernel
theorem dCM_hasShape_35 : decode cCM_hasShape 35 = .ok (.iconst 1, 1) := by decide +kernel
theorem dCM_hasShape_36 : decode cCM_hasShape 36 = .ok (.goto 4, 3) := by decide +kernel
theorem dCM_hasShape_39 : decode cCM_hasShape 39 = .ok (.iconst 0, 1) := by decide +kernel
theorem dCM_hasShape_40 : decode cCM_hasShape 40 = .ok (.aload_n 0, 1) := by decide +kernel
theorem dCM_hasShape_41 : decode cCM_hasShape 41 = .ok (.getfield 56, 3) := by decide +kernel
theorem dCM_hasShape_44 : decode cCM_hasShape 44 = .ok (.iload_n 2, 1) := by decide +kernel
theorem dCM_hasShape_45 : decode cCM_hasShape 45 = .ok (.iaload, 1) := by decide +kernel
theorem dCM_hasShape_46 : decode cCM_hasShape 46 = .ok (.iconst (-1), 1) := by decide +kernel
theorem dCM_hasShape_47 : decode cCM_hasShape 47 = .ok (.if_icmp .ne 7, 3) := by decide +kernel
theorem dCM_hasShape_50 : decode cCM_hasShape 50 = .ok (.iconst 1, 1) := by decide +kernel
theorem dCM_hasShape_51 : decode cCM_hasShape 51 = .ok (.goto 4, 3) := by decide +kernel
theorem dCM_hasShape_54 : decode cCM_hasShape 54 = .ok (.iconst 0, 1) := by decide +kernel
theorem dCM_hasShape_55 : decode cCM_hasShape 55 = .ok (.if_icmp .ne 7, 3) := by decide +kernel
theorem dCM_hasShape_58 : decode cCM_hasShape 58 = .ok (.iconst 1, 1) := by decide +kernel
theorem dCM_hasShape_59 : decode cCM_hasShape 59 = .ok (.goto 4, 3) := by decide +kernel
theorem dCM_hasShape_62 : decode cCM_hasShape 62 = .ok (.iconst 0, 1) := by decide +kernel
theorem dCM_hasShape_63 : decode cCM_hasShape 63 = .ok (.ireturn, 1) := by decide +kernel
theorem dCM_passes_0 : decode cCM_passes 0 = .ok (.iload_n 3, 1) := by decide +kernel
theorem dCM_passes_1 : decode cCM_passes 1 = .ok (.iconst 1, 1) := by decide +kernel
end
section
theorem dCM_passes_2 : decode cCM_passes 2 = .ok (.if_icmp .ne 12, 3) := by decide +kernel
theorem dCM_passes_5 : decode cCM_passes 5 = .ok (.aload_n 0, 1) := by decide +kernel
theorem dCM_passes_6 : decode cCM_passes 6 = .ok (.iload_n 1, 1) := by decide +kernel
theorem dCM_passes_7 : decode cCM_passes 7 = .ok (.iload_n 2, 1) := by decide +kernel
theorem dCM_passes_8 : decode cCM_passes 8 = .ok (.invokevirtual 89, 3) := by decide +kernel
theorem dCM_passes_11 : decode cCM_passes 11 = .ok (.goto 9, 3) := by decide +kernel
theorem dCM_passes_14 : decode cCM_passes 14 = .ok (.aload_n 0, 1) := by decide +kernel
theorem dCM_passes_15 : decode cCM_passes 15 = .ok (.iload_n 1, 1) := by decide +kernel
theorem dCM_passes_16 : decode cCM_passes 16 = .ok (.iload_n 2, 1) := by decide +kernel
theorem dCM_passes_17 : decode cCM_passes 17 = .ok (.invokevirtual 101, 3) := by decide +kernel
theorem dCM_passes_20 : decode cCM_passes 20 = .ok (.ireturn, 1) := by decide +kernel
theorem dCM_takes_0 : decode cCM_takes 0 = .ok (.aload_n 0, 1) := by decide +kernel
theorem dCM_takes_1 : decode cCM_takes 1 = .ok (.getfield 47, 3) := by decide +kernel
theorem dCM_takes_4 : decode cCM_takes 4 = .ok (.iload_n 2, 1) := by decide +kernel
theorem dCM_takes_5 : decode cCM_takes 5 = .ok (.iaload, 1) := by decide +kernel
theorem dCM_takes_6 : decode cCM_takes 6 = .ok (.ifCond .ne 16, 3) := by decide +kernel
theorem dCM_takes_9 : decode cCM_takes 9 = .ok (.aload_n 0, 1) := by decide +kernel
theorem dCM_takes_10 : decode cCM_takes 10 = .ok (.aload_n 0, 1) := by decide +kernel
theorem dCM_takes_11 : decode cCM_takes 11 = .ok (.getfield 44, 3) := by decide +kernel
theorem dCM_takes_14 : decode cCM_takes 14 = .ok (.iload_n 2, 1) := by decide +kernel
theorem dCM_takes_15 : decode cCM_takes 15 = .ok (.iaload, 1) := by decide +kernel
theorem dCM_takes_16 : decode cCM_takes 16 = .ok (.iload_n 1, 1) := by decide +kernel
theorem dCM_takes_17 : decode cCM_takes 17 = .ok (.iload_n 3, 1) := by decide +kernel
theorem dCM_takes_18 : decode cCM_takes 18 = .ok (.invokevirtual 150, 3) := by decide +kernel
theorem dCM_takes_21 : decode cCM_takes 21 = .ok (.ireturn, 1) := by decide +kernel
theorem dCM_takes_22 : decode cCM_takes 22 = .ok (.aload_n 0, 1) := by decide +kernel
theorem dCM_takes_23 : decode cCM_takes 23 = .ok (.iload_n 1, 1) := by decide +kernel
theorem dCM_takes_24 : decode cCM_takes 24 = .ok (.iload_n 2, 1) := by decide +kernel
theorem dCM_takes_25 : decode cCM_takes 25 = .ok (.invokevirtual 140, 3) := by decide +kernel
theorem dCM_takes_28 : decode cCM_takes 28 = .ok (.ifCond .ne 5, 3) := by decide +kernel
theorem dCM_takes_31 : decode cCM_takes 31 = .ok (.iconst 0, 1) := by decide +kernel
theorem dCM_takes_32 : decode cCM_takes 32 = .ok (.ireturn, 1) := by decide +kernel
theorem dCM_takes_33 : decode cCM_takes 33 = .ok (.aload_n 0, 1) := by decide +kernel
theorem dCM_takes_34 : decode cCM_takes 34 = .ok (.iload_n 1, 1) := by decide +kernel
theorem dCM_takes_35 : decode cCM_takes 35 = .ok (.invokevirtual 131, 3) := by decide +kernel
theorem dCM_takes_38 : decode cCM_takes 38 = .ok (.istore 4, 2) := by decide +kernel
theorem dCM_takes_40 : decode cCM_takes 40 = .ok (.iconst 1, 1) := by decide +kernel
theorem dCM_takes_41 : decode cCM_takes 41 = .ok (.istore 5, 2) := by decide +kernel
theorem dCM_takes_43 : decode cCM_takes 43 = .ok (.iconst 0, 1) := by decide +kernel
theorem dCM_takes_44 : decode cCM_takes 44 = .ok (.istore 6, 2) := by decide +kernel
theorem dCM_takes_46 : decode cCM_takes 46 = .ok (.iload 6, 2) := by decide +kernel
theorem dCM_takes_48 : decode cCM_takes 48 = .ok (.aload_n 0, 1) := by decide +kernel
theorem dCM_takes_49 : decode cCM_takes 49 = .ok (.getfield 50, 3) := by decide +kernel
theorem dCM_takes_52 : decode cCM_takes 52 = .ok (.iload_n 2, 1) := by decide +kernel
theorem dCM_takes_53 : decode cCM_takes 53 = .ok (.iaload, 1) := by decide +kernel
theorem dCM_takes_54 : decode cCM_takes 54 = .ok (.if_icmp .ge 57, 3) := by decide +kernel
theorem dCM_takes_57 : decode cCM_takes 57 = .ok (.aload_n 0, 1) := by decide +kernel
theorem dCM_takes_58 : decode cCM_takes 58 = .ok (.getfield 47, 3) := by decide +kernel
theorem dCM_takes_61 : decode cCM_takes 61 = .ok (.iload_n 2, 1) := by decide +kernel
theorem dCM_takes_62 : decode cCM_takes 62 = .ok (.iaload, 1) := by decide +kernel
theorem dCM_takes_63 : decode cCM_takes 63 = .ok (.iconst 2, 1) := by decide +kernel
theorem dCM_takes_64 : decode cCM_takes 64 = .ok (.if_icmp .ne 47, 3) := by decide +kernel
theorem dCM_takes_67 : decode cCM_takes 67 = .ok (.iload 5, 2) := by decide +kernel
theorem dCM_takes_69 : decode cCM_takes 69 = .ok (.ifCond .eq 33, 3) := by decide +kernel
theorem dCM_takes_72 : decode cCM_takes 72 = .ok (.aload_n 0, 1) := by decide +kernel
theorem dCM_takes_73 : decode cCM_takes 73 = .ok (.getfield 41, 3) := by decide +kernel
theorem dCM_takes_76 : decode cCM_takes 76 = .ok (.iconst 4, 1) := by decide +kernel
theorem dCM_takes_77 : decode cCM_takes 77 = .ok (.iload 4, 2) := by decide +kernel
theorem dCM_takes_79 : decode cCM_takes 79 = .ok (.imul, 1) := by decide +kernel
theorem dCM_takes_80 : decode cCM_takes 80 = .ok (.iload 6, 2) := by decide +kernel
theorem dCM_takes_82 : decode cCM_takes 82 = .ok (.iadd, 1) := by decide +kernel
theorem dCM_takes_83 : decode cCM_takes 83 = .ok (.iaload, 1) := by decide +kernel
theorem dCM_takes_84 : decode cCM_takes 84 = .ok (.aload_n 0, 1) := by decide +kernel
theorem dCM_takes_85 : decode cCM_takes 85 = .ok (.getfield 53, 3) := by decide +kernel
theorem dCM_takes_88 : decode cCM_takes 88 = .ok (.iconst 2, 1) := by decide +kernel
theorem dCM_takes_89 : decode cCM_takes 89 = .ok (.iload_n 2, 1) := by decide +kernel
theorem dCM_takes_90 : decode cCM_takes 90 = .ok (.imul, 1) := by decide +kernel
theorem dCM_takes_91 : decode cCM_takes 91 = .ok (.iload 6, 2) := by decide +kernel
theorem dCM_takes_93 : decode cCM_takes 93 = .ok (.iadd, 1) := by decide +kernel
theorem dCM_takes_94 : decode cCM_takes 94 = .ok (.iaload, 1) := by decide +kernel
theorem dCM_takes_95 : decode cCM_takes 95 = .ok (.if_icmp .ne 7, 3) := by decide +kernel
theorem dCM_takes_98 : decode cCM_takes 98 = .ok (.iconst 1, 1) := by decide +kernel
theorem dCM_takes_99 : decode cCM_takes 99 = .ok (.goto 4, 3) := by decide +kernel
theorem dCM_takes_102 : decode cCM_takes 102 = .ok (.iconst 0, 1) := by decide +kernel
theorem dCM_takes_103 : decode cCM_takes 103 = .ok (.istore 5, 2) := by decide +kernel
theorem dCM_takes_105 : decode cCM_takes 105 = .ok (.iinc 6 1, 3) := by decide +kernel
theorem dCM_takes_108 : decode cCM_takes 108 = .ok (.goto (-62), 3) := by decide +kernel
theorem dCM_takes_111 : decode cCM_takes 111 = .ok (.iload 5, 2) := by decide +kernel
theorem dCM_takes_113 : decode cCM_takes 113 = .ok (.ifCond .eq 48, 3) := by decide +kernel
theorem dCM_takes_116 : decode cCM_takes 116 = .ok (.aload_n 0, 1) := by decide +kernel
theorem dCM_takes_117 : decode cCM_takes 117 = .ok (.getfield 47, 3) := by decide +kernel
theorem dCM_takes_120 : decode cCM_takes 120 = .ok (.iload_n 2, 1) := by decide +kernel
theorem dCM_takes_121 : decode cCM_takes 121 = .ok (.iaload, 1) := by decide +kernel
theorem dCM_takes_122 : decode cCM_takes 122 = .ok (.iconst 1, 1) := by decide +kernel
theorem dCM_takes_123 : decode cCM_takes 123 = .ok (.if_icmp .eq 34, 3) := by decide +kernel
theorem dCM_takes_126 : decode cCM_takes 126 = .ok (.aload_n 0, 1) := by decide +kernel
theorem dCM_takes_127 : decode cCM_takes 127 = .ok (.getfield 56, 3) := by decide +kernel
theorem dCM_takes_130 : decode cCM_takes 130 = .ok (.iload_n 2, 1) := by decide +kernel
theorem dCM_takes_131 : decode cCM_takes 131 = .ok (.iaload, 1) := by decide +kernel
theorem dCM_takes_132 : decode cCM_takes 132 = .ok (.iconst (-1), 1) := by decide +kernel
theorem dCM_takes_133 : decode cCM_takes 133 = .ok (.if_icmp .eq 24, 3) := by decide +kernel
theorem dCM_takes_136 : decode cCM_takes 136 = .ok (.aload_n 0, 1) := by decide +kernel
theorem dCM_takes_137 : decode cCM_takes 137 = .ok (.aload_n 0, 1) := by decide +kernel
theorem dCM_takes_138 : decode cCM_takes 138 = .ok (.getfield 56, 3) := by decide +kernel
theorem dCM_takes_141 : decode cCM_takes 141 = .ok (.iload_n 2, 1) := by decide +kernel
theorem dCM_takes_142 : decode cCM_takes 142 = .ok (.iaload, 1) := by decide +kernel
theorem dCM_takes_143 : decode cCM_takes 143 = .ok (.aload_n 0, 1) := by decide +kernel
theorem dCM_takes_144 : decode cCM_takes 144 = .ok (.getfield 35, 3) := by decide +kernel
theorem dCM_takes_147 : decode cCM_takes 147 = .ok (.iload 4, 2) := by decide +kernel
theorem dCM_takes_149 : decode cCM_takes 149 = .ok (.iaload, 1) := by decide +kernel
theorem dCM_takes_150 : decode cCM_takes 150 = .ok (.iload_n 3, 1) := by decide +kernel
theorem dCM_takes_151 : decode cCM_takes 151 = .ok (.invokevirtual 150, 3) := by decide +kernel
theorem dCM_takes_154 : decode cCM_takes 154 = .ok (.ifCond .eq 7, 3) := by decide +kernel
theorem dCM_takes_157 : decode cCM_takes 157 = .ok (.iconst 1, 1) := by decide +kernel
theorem dCM_takes_158 : decode cCM_takes 158 = .ok (.goto 4, 3) := by decide +kernel
theorem dCM_takes_161 : decode cCM_takes 161 = .ok (.iconst 0, 1) := by decide +kernel
theorem dCM_takes_162 : decode cCM_takes 162 = .ok (.ireturn, 1) := by decide +kernel
theorem dCM_doesApply_0 : decode cCM_doesApply 0 = .ok (.iload_n 2, 1) := by decide +kernel
theorem dCM_doesApply_1 : decode cCM_doesApply 1 = .ok (.iconst 3, 1) := by decide +kernel
theorem dCM_doesApply_2 : decode cCM_doesApply 2 = .ok (.if_icmp .ne 7, 3) := by decide +kernel
theorem dCM_doesApply_5 : decode cCM_doesApply 5 = .ok (.iconst 1, 1) := by decide +kernel
theorem dCM_doesApply_6 : decode cCM_doesApply 6 = .ok (.goto 4, 3) := by decide +kernel
theorem dCM_doesApply_9 : decode cCM_doesApply 9 = .ok (.iconst 0, 1) := by decide +kernel
theorem dCM_doesApply_10 : decode cCM_doesApply 10 = .ok (.istore_n 3, 1) := by decide +kernel
theorem dCM_doesApply_11 : decode cCM_doesApply 11 = .ok (.iload_n 3, 1) := by decide +kernel
theorem dCM_doesApply_12 : decode cCM_doesApply 12 = .ok (.ifCond .eq 16, 3) := by decide +kernel
theorem dCM_doesApply_15 : decode cCM_doesApply 15 = .ok (.aload_n 0, 1) := by decide +kernel
theorem dCM_doesApply_16 : decode cCM_doesApply 16 = .ok (.iload_n 1, 1) := by decide +kernel
theorem dCM_doesApply_17 : decode cCM_doesApply 17 = .ok (.bipush 8, 2) := by decide +kernel
theorem dCM_doesApply_19 : decode cCM_doesApply 19 = .ok (.invokevirtual 117, 3) := by decide +kernel
theorem dCM_doesApply_22 : decode cCM_doesApply 22 = .ok (.ifCond .ne 21, 3) := by decide +kernel
theorem dCM_doesApply_25 : decode cCM_doesApply 25 = .ok (.goto 16, 3) := by decide +kernel
theorem dCM_doesApply_28 : decode cCM_doesApply 28 = .ok (.aload_n 0, 1) := by decide +kernel
theorem dCM_doesApply_29 : decode cCM_doesApply 29 = .ok (.getfield 38, 3) := by decide +kernel
theorem dCM_doesApply_32 : decode cCM_doesApply 32 = .ok (.iload_n 1, 1) := by decide +kernel
theorem dCM_doesApply_33 : decode cCM_doesApply 33 = .ok (.iaload, 1) := by decide +kernel
theorem dCM_doesApply_34 : decode cCM_doesApply 34 = .ok (.aload_n 0, 1) := by decide +kernel
theorem dCM_doesApply_35 : decode cCM_doesApply 35 = .ok (.getfield 137, 3) := by decide +kernel
theorem dCM_doesApply_38 : decode cCM_doesApply 38 = .ok (.if_icmp .eq 5, 3) := by decide +kernel
theorem dCM_doesApply_41 : decode cCM_doesApply 41 = .ok (.iconst 0, 1) := by decide +kernel
theorem dCM_doesApply_42 : decode cCM_doesApply 42 = .ok (.ireturn, 1) := by decide +kernel
theorem dCM_doesApply_43 : decode cCM_doesApply 43 = .ok (.iconst 0, 1) := by decide +kernel
theorem dCM_doesApply_44 : decode cCM_doesApply 44 = .ok (.istore 4, 2) := by decide +kernel
theorem dCM_doesApply_46 : decode cCM_doesApply 46 = .ok (.iload 4, 2) := by decide +kernel
theorem dCM_doesApply_48 : decode cCM_doesApply 48 = .ok (.aload_n 0, 1) := by decide +kernel
theorem dCM_doesApply_49 : decode cCM_doesApply 49 = .ok (.getfield 137, 3) := by decide +kernel
theorem dCM_doesApply_52 : decode cCM_doesApply 52 = .ok (.if_icmp .ge 29, 3) := by decide +kernel
theorem dCM_doesApply_55 : decode cCM_doesApply 55 = .ok (.aload_n 0, 1) := by decide +kernel
theorem dCM_doesApply_56 : decode cCM_doesApply 56 = .ok (.aload_n 0, 1) := by decide +kernel
theorem dCM_doesApply_57 : decode cCM_doesApply 57 = .ok (.iload_n 1, 1) := by decide +kernel
theorem dCM_doesApply_58 : decode cCM_doesApply 58 = .ok (.iload 4, 2) := by decide +kernel
theorem dCM_doesApply_60 : decode cCM_doesApply 60 = .ok (.iload_n 3, 1) := by decide +kernel
theorem dCM_doesApply_61 : decode cCM_doesApply 61 = .ok (.invokevirtual 143, 3) := by decide +kernel
theorem dCM_doesApply_64 : decode cCM_doesApply 64 = .ok (.iload 4, 2) := by decide +kernel
theorem dCM_doesApply_66 : decode cCM_doesApply 66 = .ok (.iload_n 2, 1) := by decide +kernel
theorem dCM_doesApply_67 : decode cCM_doesApply 67 = .ok (.invokevirtual 147, 3) := by decide +kernel
theorem dCM_doesApply_70 : decode cCM_doesApply 70 = .ok (.ifCond .ne 5, 3) := by decide +kernel
theorem dCM_doesApply_73 : decode cCM_doesApply 73 = .ok (.iconst 0, 1) := by decide +kernel
theorem dCM_doesApply_74 : decode cCM_doesApply 74 = .ok (.ireturn, 1) := by decide +kernel
theorem dCM_doesApply_75 : decode cCM_doesApply 75 = .ok (.iinc 4 1, 3) := by decide +kernel
theorem dCM_doesApply_78 : decode cCM_doesApply 78 = .ok (.goto (-32), 3) := by decide +kernel
theorem dCM_doesApply_81 : decode cCM_doesApply 81 = .ok (.iconst 1, 1) := by decide +kernel
theorem dCM_doesApply_82 : decode cCM_doesApply 82 = .ok (.ireturn, 1) := by decide +kernel
theorem dCM_isMeant_0 : decode cCM_isMeant 0 = .ok (.aload_n 0, 1) := by decide +kernel
theorem dCM_isMeant_1 : decode cCM_isMeant 1 = .ok (.iload_n 1, 1) := by decide +kernel
theorem dCM_isMeant_2 : decode cCM_isMeant 2 = .ok (.bipush 8, 2) := by decide +kernel
theorem dCM_isMeant_4 : decode cCM_isMeant 4 = .ok (.invokevirtual 117, 3) := by decide +kernel
theorem dCM_isMeant_7 : decode cCM_isMeant 7 = .ok (.istore_n 2, 1) := by decide +kernel
theorem dCM_isMeant_8 : decode cCM_isMeant 8 = .ok (.aload_n 0, 1) := by decide +kernel
theorem dCM_isMeant_9 : decode cCM_isMeant 9 = .ok (.getfield 38, 3) := by decide +kernel
theorem dCM_isMeant_12 : decode cCM_isMeant 12 = .ok (.iload_n 1, 1) := by decide +kernel
theorem dCM_isMeant_13 : decode cCM_isMeant 13 = .ok (.iaload, 1) := by decide +kernel
theorem dCM_isMeant_14 : decode cCM_isMeant 14 = .ok (.aload_n 0, 1) := by decide +kernel
theorem dCM_isMeant_15 : decode cCM_isMeant 15 = .ok (.getfield 137, 3) := by decide +kernel
theorem dCM_isMeant_18 : decode cCM_isMeant 18 = .ok (.if_icmp .eq 24, 3) := by decide +kernel
theorem dCM_isMeant_21 : decode cCM_isMeant 21 = .ok (.iload_n 2, 1) := by decide +kernel
theorem dCM_isMeant_22 : decode cCM_isMeant 22 = .ok (.ifCond .eq 18, 3) := by decide +kernel
theorem dCM_isMeant_25 : decode cCM_isMeant 25 = .ok (.aload_n 0, 1) := by decide +kernel
theorem dCM_isMeant_26 : decode cCM_isMeant 26 = .ok (.getfield 38, 3) := by decide +kernel
theorem dCM_isMeant_29 : decode cCM_isMeant 29 = .ok (.iload_n 1, 1) := by decide +kernel
theorem dCM_isMeant_30 : decode cCM_isMeant 30 = .ok (.iaload, 1) := by decide +kernel
theorem dCM_isMeant_31 : decode cCM_isMeant 31 = .ok (.aload_n 0, 1) := by decide +kernel
theorem dCM_isMeant_32 : decode cCM_isMeant 32 = .ok (.getfield 137, 3) := by decide +kernel
theorem dCM_isMeant_35 : decode cCM_isMeant 35 = .ok (.iconst 1, 1) := by decide +kernel
theorem dCM_isMeant_36 : decode cCM_isMeant 36 = .ok (.iadd, 1) := by decide +kernel
theorem dCM_isMeant_37 : decode cCM_isMeant 37 = .ok (.if_icmp .le 5, 3) := by decide +kernel
theorem dCM_isMeant_40 : decode cCM_isMeant 40 = .ok (.iconst 0, 1) := by decide +kernel
theorem dCM_isMeant_41 : decode cCM_isMeant 41 = .ok (.ireturn, 1) := by decide +kernel
theorem dCM_isMeant_42 : decode cCM_isMeant 42 = .ok (.iconst 0, 1) := by decide +kernel
theorem dCM_isMeant_43 : decode cCM_isMeant 43 = .ok (.istore_n 3, 1) := by decide +kernel
theorem dCM_isMeant_44 : decode cCM_isMeant 44 = .ok (.iload_n 3, 1) := by decide +kernel
theorem dCM_isMeant_45 : decode cCM_isMeant 45 = .ok (.aload_n 0, 1) := by decide +kernel
theorem dCM_isMeant_46 : decode cCM_isMeant 46 = .ok (.getfield 137, 3) := by decide +kernel
theorem dCM_isMeant_49 : decode cCM_isMeant 49 = .ok (.if_icmp .ge 91, 3) := by decide +kernel
theorem dCM_isMeant_52 : decode cCM_isMeant 52 = .ok (.aload_n 0, 1) := by decide +kernel
theorem dCM_isMeant_53 : decode cCM_isMeant 53 = .ok (.getfield 47, 3) := by decide +kernel
theorem dCM_isMeant_56 : decode cCM_isMeant 56 = .ok (.iload_n 3, 1) := by decide +kernel
theorem dCM_isMeant_57 : decode cCM_isMeant 57 = .ok (.iaload, 1) := by decide +kernel
theorem dCM_isMeant_58 : decode cCM_isMeant 58 = .ok (.ifCond .le 76, 3) := by decide +kernel
theorem dCM_isMeant_61 : decode cCM_isMeant 61 = .ok (.iload_n 3, 1) := by decide +kernel
theorem dCM_isMeant_62 : decode cCM_isMeant 62 = .ok (.aload_n 0, 1) := by decide +kernel
theorem dCM_isMeant_63 : decode cCM_isMeant 63 = .ok (.getfield 38, 3) := by decide +kernel
theorem dCM_isMeant_66 : decode cCM_isMeant 66 = .ok (.iload_n 1, 1) := by decide +kernel
theorem dCM_isMeant_67 : decode cCM_isMeant 67 = .ok (.iaload, 1) := by decide +kernel
theorem dCM_isMeant_68 : decode cCM_isMeant 68 = .ok (.if_icmp .ge 21, 3) := by decide +kernel
theorem dCM_isMeant_71 : decode cCM_isMeant 71 = .ok (.aload_n 0, 1) := by decide +kernel
theorem dCM_isMeant_72 : decode cCM_isMeant 72 = .ok (.aload_n 0, 1) := by decide +kernel
theorem dCM_isMeant_73 : decode cCM_isMeant 73 = .ok (.getfield 41, 3) := by decide +kernel
theorem dCM_isMeant_76 : decode cCM_isMeant 76 = .ok (.iconst 4, 1) := by decide +kernel
theorem dCM_isMeant_77 : decode cCM_isMeant 77 = .ok (.iload_n 1, 1) := by decide +kernel
theorem dCM_isMeant_78 : decode cCM_isMeant 78 = .ok (.imul, 1) := by decide +kernel
theorem dCM_isMeant_79 : decode cCM_isMeant 79 = .ok (.iload_n 3, 1) := by decide +kernel
theorem dCM_isMeant_80 : decode cCM_isMeant 80 = .ok (.iadd, 1) := by decide +kernel
theorem dCM_isMeant_81 : decode cCM_isMeant 81 = .ok (.iaload, 1) := by decide +kernel
theorem dCM_isMeant_82 : decode cCM_isMeant 82 = .ok (.iload_n 3, 1) := by decide +kernel
theorem dCM_isMeant_83 : decode cCM_isMeant 83 = .ok (.invokevirtual 140, 3) := by decide +kernel
theorem dCM_isMeant_86 : decode cCM_isMeant 86 = .ok (.ifCond .ne 34, 3) := by decide +kernel
theorem dCM_isMeant_89 : decode cCM_isMeant 89 = .ok (.iload_n 2, 1) := by decide +kernel
theorem dCM_isMeant_90 : decode cCM_isMeant 90 = .ok (.ifCond .eq 34, 3) := by decide +kernel
theorem dCM_isMeant_93 : decode cCM_isMeant 93 = .ok (.iload_n 3, 1) := by decide +kernel
theorem dCM_isMeant_94 : decode cCM_isMeant 94 = .ok (.aload_n 0, 1) := by decide +kernel
theorem dCM_isMeant_95 : decode cCM_isMeant 95 = .ok (.getfield 38, 3) := by decide +kernel
theorem dCM_isMeant_98 : decode cCM_isMeant 98 = .ok (.iload_n 1, 1) := by decide +kernel
theorem dCM_isMeant_99 : decode cCM_isMeant 99 = .ok (.iaload, 1) := by decide +kernel
theorem dCM_isMeant_100 : decode cCM_isMeant 100 = .ok (.iconst 1, 1) := by decide +kernel
theorem dCM_isMeant_101 : decode cCM_isMeant 101 = .ok (.isub, 1) := by decide +kernel
theorem dCM_isMeant_102 : decode cCM_isMeant 102 = .ok (.if_icmp .lt 22, 3) := by decide +kernel
theorem dCM_isMeant_105 : decode cCM_isMeant 105 = .ok (.aload_n 0, 1) := by decide +kernel
theorem dCM_isMeant_106 : decode cCM_isMeant 106 = .ok (.aload_n 0, 1) := by decide +kernel
theorem dCM_isMeant_107 : decode cCM_isMeant 107 = .ok (.iload_n 1, 1) := by decide +kernel
theorem dCM_isMeant_108 : decode cCM_isMeant 108 = .ok (.iload_n 3, 1) := by decide +kernel
theorem dCM_isMeant_109 : decode cCM_isMeant 109 = .ok (.iconst 1, 1) := by decide +kernel
theorem dCM_isMeant_110 : decode cCM_isMeant 110 = .ok (.invokevirtual 143, 3) := by decide +kernel
theorem dCM_isMeant_113 : decode cCM_isMeant 113 = .ok (.iload_n 3, 1) := by decide +kernel
theorem dCM_isMeant_114 : decode cCM_isMeant 114 = .ok (.invokevirtual 140, 3) := by decide +kernel
theorem dCM_isMeant_117 : decode cCM_isMeant 117 = .ok (.ifCond .eq 7, 3) := by decide +kernel
theorem dCM_isMeant_120 : decode cCM_isMeant 120 = .ok (.iconst 1, 1) := by decide +kernel
theorem dCM_isMeant_121 : decode cCM_isMeant 121 = .ok (.goto 4, 3) := by decide +kernel
theorem dCM_isMeant_124 : decode cCM_isMeant 124 = .ok (.iconst 0, 1) := by decide +kernel
theorem dCM_isMeant_125 : decode cCM_isMeant 125 = .ok (.istore 4, 2) := by decide +kernel
theorem dCM_isMeant_127 : decode cCM_isMeant 127 = .ok (.iload 4, 2) := by decide +kernel
theorem dCM_isMeant_129 : decode cCM_isMeant 129 = .ok (.ifCond .ne 5, 3) := by decide +kernel
theorem dCM_isMeant_132 : decode cCM_isMeant 132 = .ok (.iconst 0, 1) := by decide +kernel
theorem dCM_isMeant_133 : decode cCM_isMeant 133 = .ok (.ireturn, 1) := by decide +kernel
theorem dCM_isMeant_134 : decode cCM_isMeant 134 = .ok (.iinc 3 1, 3) := by decide +kernel
theorem dCM_isMeant_137 : decode cCM_isMeant 137 = .ok (.goto (-93), 3) := by decide +kernel
theorem dCM_isMeant_140 : decode cCM_isMeant 140 = .ok (.iconst 1, 1) := by decide +kernel
theorem dCM_isMeant_141 : decode cCM_isMeant 141 = .ok (.ireturn, 1) := by decide +kernel
theorem dCM_choose_0 : decode cCM_choose 0 = .ok (.aload_n 0, 1) := by decide +kernel
theorem dCM_choose_1 : decode cCM_choose 1 = .ok (.iload_n 1, 1) := by decide +kernel
theorem dCM_choose_2 : decode cCM_choose 2 = .ok (.iload_n 2, 1) := by decide +kernel
theorem dCM_choose_3 : decode cCM_choose 3 = .ok (.iload_n 3, 1) := by decide +kernel
theorem dCM_choose_4 : decode cCM_choose 4 = .ok (.invokevirtual 134, 3) := by decide +kernel
theorem dCM_choose_7 : decode cCM_choose 7 = .ok (.ifCond .eq 14, 3) := by decide +kernel
theorem dCM_choose_10 : decode cCM_choose 10 = .ok (.iload 4, 2) := by decide +kernel
theorem dCM_choose_12 : decode cCM_choose 12 = .ok (.ifCond .lt 9, 3) := by decide +kernel
theorem dCM_choose_15 : decode cCM_choose 15 = .ok (.iload 4, 2) := by decide +kernel
theorem dCM_choose_17 : decode cCM_choose 17 = .ok (.iconst 1, 1) := by decide +kernel
theorem dCM_choose_18 : decode cCM_choose 18 = .ok (.if_icmp .le 6, 3) := by decide +kernel
theorem dCM_choose_21 : decode cCM_choose 21 = .ok (.bipush (-2), 2) := by decide +kernel
theorem dCM_choose_23 : decode cCM_choose 23 = .ok (.ireturn, 1) := by decide +kernel
theorem dCM_choose_24 : decode cCM_choose 24 = .ok (.aload_n 0, 1) := by decide +kernel
theorem dCM_choose_25 : decode cCM_choose 25 = .ok (.iconst 0, 1) := by decide +kernel
theorem dCM_choose_26 : decode cCM_choose 26 = .ok (.putfield 153, 3) := by decide +kernel
theorem dCM_choose_29 : decode cCM_choose 29 = .ok (.iconst 0, 1) := by decide +kernel
theorem dCM_choose_30 : decode cCM_choose 30 = .ok (.istore 5, 2) := by decide +kernel
theorem dCM_choose_32 : decode cCM_choose 32 = .ok (.iconst 0, 1) := by decide +kernel
theorem dCM_choose_33 : decode cCM_choose 33 = .ok (.istore 6, 2) := by decide +kernel
theorem dCM_choose_35 : decode cCM_choose 35 = .ok (.iconst 0, 1) := by decide +kernel
theorem dCM_choose_36 : decode cCM_choose 36 = .ok (.istore 7, 2) := by decide +kernel
theorem dCM_choose_38 : decode cCM_choose 38 = .ok (.iload 7, 2) := by decide +kernel
theorem dCM_choose_40 : decode cCM_choose 40 = .ok (.aload_n 0, 1) := by decide +kernel
theorem dCM_choose_41 : decode cCM_choose 41 = .ok (.getfield 110, 3) := by decide +kernel
theorem dCM_choose_44 : decode cCM_choose 44 = .ok (.if_icmp .ge 118, 3) := by decide +kernel
theorem dCM_choose_47 : decode cCM_choose 47 = .ok (.aload_n 0, 1) := by decide +kernel
theorem dCM_choose_48 : decode cCM_choose 48 = .ok (.getfield 59, 3) := by decide +kernel
theorem dCM_choose_51 : decode cCM_choose 51 = .ok (.iload 7, 2) := by decide +kernel
theorem dCM_choose_53 : decode cCM_choose 53 = .ok (.aload_n 0, 1) := by decide +kernel
theorem dCM_choose_54 : decode cCM_choose 54 = .ok (.getfield 29, 3) := by decide +kernel
theorem dCM_choose_57 : decode cCM_choose 57 = .ok (.iload 7, 2) := by decide +kernel
theorem dCM_choose_59 : decode cCM_choose 59 = .ok (.iaload, 1) := by decide +kernel
theorem dCM_choose_60 : decode cCM_choose 60 = .ok (.iload_n 2, 1) := by decide +kernel
theorem dCM_choose_61 : decode cCM_choose 61 = .ok (.if_icmp .ne 18, 3) := by decide +kernel
theorem dCM_choose_64 : decode cCM_choose 64 = .ok (.aload_n 0, 1) := by decide +kernel
theorem dCM_choose_65 : decode cCM_choose 65 = .ok (.iload 7, 2) := by decide +kernel
theorem dCM_choose_67 : decode cCM_choose 67 = .ok (.iload_n 1, 1) := by decide +kernel
theorem dCM_choose_68 : decode cCM_choose 68 = .ok (.iload_n 3, 1) := by decide +kernel
theorem dCM_choose_69 : decode cCM_choose 69 = .ok (.invokevirtual 127, 3) := by decide +kernel
theorem dCM_choose_72 : decode cCM_choose 72 = .ok (.ifCond .eq 7, 3) := by decide +kernel
theorem dCM_choose_75 : decode cCM_choose 75 = .ok (.iconst 1, 1) := by decide +kernel
theorem dCM_choose_76 : decode cCM_choose 76 = .ok (.goto 4, 3) := by decide +kernel
theorem dCM_choose_79 : decode cCM_choose 79 = .ok (.iconst 0, 1) := by decide +kernel
theorem dCM_choose_80 : decode cCM_choose 80 = .ok (.bastore, 1) := by decide +kernel
theorem dCM_choose_81 : decode cCM_choose 81 = .ok (.iload 5, 2) := by decide +kernel
theorem dCM_choose_83 : decode cCM_choose 83 = .ok (.ifCond .ne 13, 3) := by decide +kernel
theorem dCM_choose_86 : decode cCM_choose 86 = .ok (.aload_n 0, 1) := by decide +kernel
theorem dCM_choose_87 : decode cCM_choose 87 = .ok (.getfield 59, 3) := by decide +kernel
theorem dCM_choose_90 : decode cCM_choose 90 = .ok (.iload 7, 2) := by decide +kernel
theorem dCM_choose_92 : decode cCM_choose 92 = .ok (.baload, 1) := by decide +kernel
theorem dCM_choose_93 : decode cCM_choose 93 = .ok (.ifCond .eq 7, 3) := by decide +kernel
theorem dCM_choose_96 : decode cCM_choose 96 = .ok (.iconst 1, 1) := by decide +kernel
theorem dCM_choose_97 : decode cCM_choose 97 = .ok (.goto 4, 3) := by decide +kernel
theorem dCM_choose_100 : decode cCM_choose 100 = .ok (.iconst 0, 1) := by decide +kernel
theorem dCM_choose_101 : decode cCM_choose 101 = .ok (.istore 5, 2) := by decide +kernel
theorem dCM_choose_103 : decode cCM_choose 103 = .ok (.aload_n 0, 1) := by decide +kernel
theorem dCM_choose_104 : decode cCM_choose 104 = .ok (.getfield 59, 3) := by decide +kernel
theorem dCM_choose_107 : decode cCM_choose 107 = .ok (.iload 7, 2) := by decide +kernel
theorem dCM_choose_109 : decode cCM_choose 109 = .ok (.aload_n 0, 1) := by decide +kernel
theorem dCM_choose_110 : decode cCM_choose 110 = .ok (.getfield 59, 3) := by decide +kernel
theorem dCM_choose_113 : decode cCM_choose 113 = .ok (.iload 7, 2) := by decide +kernel
theorem dCM_choose_115 : decode cCM_choose 115 = .ok (.baload, 1) := by decide +kernel
theorem dCM_choose_116 : decode cCM_choose 116 = .ok (.ifCond .eq 16, 3) := by decide +kernel
theorem dCM_choose_119 : decode cCM_choose 119 = .ok (.aload_n 0, 1) := by decide +kernel
theorem dCM_choose_120 : decode cCM_choose 120 = .ok (.iload 7, 2) := by decide +kernel
theorem dCM_choose_122 : decode cCM_choose 122 = .ok (.invokevirtual 159, 3) := by decide +kernel
theorem dCM_choose_125 : decode cCM_choose 125 = .ok (.ifCond .eq 7, 3) := by decide +kernel
theorem dCM_choose_128 : decode cCM_choose 128 = .ok (.iconst 1, 1) := by decide +kernel
theorem dCM_choose_129 : decode cCM_choose 129 = .ok (.goto 4, 3) := by decide +kernel
theorem dCM_choose_132 : decode cCM_choose 132 = .ok (.iconst 0, 1) := by decide +kernel
theorem dCM_choose_133 : decode cCM_choose 133 = .ok (.bastore, 1) := by decide +kernel
theorem dCM_choose_134 : decode cCM_choose 134 = .ok (.iload 6, 2) := by decide +kernel
theorem dCM_choose_136 : decode cCM_choose 136 = .ok (.ifCond .ne 13, 3) := by decide +kernel
theorem dCM_choose_139 : decode cCM_choose 139 = .ok (.aload_n 0, 1) := by decide +kernel
theorem dCM_choose_140 : decode cCM_choose 140 = .ok (.getfield 59, 3) := by decide +kernel
theorem dCM_choose_143 : decode cCM_choose 143 = .ok (.iload 7, 2) := by decide +kernel
theorem dCM_choose_145 : decode cCM_choose 145 = .ok (.baload, 1) := by decide +kernel
theorem dCM_choose_146 : decode cCM_choose 146 = .ok (.ifCond .eq 7, 3) := by decide +kernel
theorem dCM_choose_149 : decode cCM_choose 149 = .ok (.iconst 1, 1) := by decide +kernel
theorem dCM_choose_150 : decode cCM_choose 150 = .ok (.goto 4, 3) := by decide +kernel
theorem dCM_choose_153 : decode cCM_choose 153 = .ok (.iconst 0, 1) := by decide +kernel
theorem dCM_choose_154 : decode cCM_choose 154 = .ok (.istore 6, 2) := by decide +kernel
theorem dCM_choose_156 : decode cCM_choose 156 = .ok (.iinc 7 1, 3) := by decide +kernel
theorem dCM_choose_159 : decode cCM_choose 159 = .ok (.goto (-121), 3) := by decide +kernel
theorem dCM_choose_162 : decode cCM_choose 162 = .ok (.aload_n 0, 1) := by decide +kernel
theorem dCM_choose_163 : decode cCM_choose 163 = .ok (.getfield 110, 3) := by decide +kernel
theorem dCM_choose_166 : decode cCM_choose 166 = .ok (.istore 7, 2) := by decide +kernel
theorem dCM_choose_168 : decode cCM_choose 168 = .ok (.iload 7, 2) := by decide +kernel
theorem dCM_choose_170 : decode cCM_choose 170 = .ok (.bipush 60, 2) := by decide +kernel
theorem dCM_choose_172 : decode cCM_choose 172 = .ok (.if_icmp .ge 17, 3) := by decide +kernel
theorem dCM_choose_175 : decode cCM_choose 175 = .ok (.aload_n 0, 1) := by decide +kernel
theorem dCM_choose_176 : decode cCM_choose 176 = .ok (.getfield 59, 3) := by decide +kernel
theorem dCM_choose_179 : decode cCM_choose 179 = .ok (.iload 7, 2) := by decide +kernel
theorem dCM_choose_181 : decode cCM_choose 181 = .ok (.iconst 0, 1) := by decide +kernel
theorem dCM_choose_182 : decode cCM_choose 182 = .ok (.bastore, 1) := by decide +kernel
theorem dCM_choose_183 : decode cCM_choose 183 = .ok (.iinc 7 1, 3) := by decide +kernel
theorem dCM_choose_186 : decode cCM_choose 186 = .ok (.goto (-18), 3) := by decide +kernel
theorem dCM_choose_189 : decode cCM_choose 189 = .ok (.iconst (-1), 1) := by decide +kernel
theorem dCM_choose_190 : decode cCM_choose 190 = .ok (.istore 7, 2) := by decide +kernel
theorem dCM_choose_192 : decode cCM_choose 192 = .ok (.iconst 1, 1) := by decide +kernel
theorem dCM_choose_193 : decode cCM_choose 193 = .ok (.istore 8, 2) := by decide +kernel
theorem dCM_choose_195 : decode cCM_choose 195 = .ok (.iload 8, 2) := by decide +kernel
theorem dCM_choose_197 : decode cCM_choose 197 = .ok (.iconst 4, 1) := by decide +kernel
theorem dCM_choose_198 : decode cCM_choose 198 = .ok (.if_icmp .ge 87, 3) := by decide +kernel
theorem dCM_choose_201 : decode cCM_choose 201 = .ok (.iload 6, 2) := by decide +kernel
theorem dCM_choose_203 : decode cCM_choose 203 = .ok (.ifCond .eq 82, 3) := by decide +kernel
theorem dCM_choose_206 : decode cCM_choose 206 = .ok (.iload 7, 2) := by decide +kernel
theorem dCM_choose_208 : decode cCM_choose 208 = .ok (.ifCond .ge 77, 3) := by decide +kernel
theorem dCM_choose_211 : decode cCM_choose 211 = .ok (.iconst 0, 1) := by decide +kernel
theorem dCM_choose_212 : decode cCM_choose 212 = .ok (.istore 9, 2) := by decide +kernel
theorem dCM_choose_214 : decode cCM_choose 214 = .ok (.iload 9, 2) := by decide +kernel
theorem dCM_choose_216 : decode cCM_choose 216 = .ok (.aload_n 0, 1) := by decide +kernel
theorem dCM_choose_217 : decode cCM_choose 217 = .ok (.getfield 110, 3) := by decide +kernel
theorem dCM_choose_220 : decode cCM_choose 220 = .ok (.if_icmp .ge 44, 3) := by decide +kernel
theorem dCM_choose_223 : decode cCM_choose 223 = .ok (.iload 7, 2) := by decide +kernel
theorem dCM_choose_225 : decode cCM_choose 225 = .ok (.ifCond .ge 29, 3) := by decide +kernel
theorem dCM_choose_228 : decode cCM_choose 228 = .ok (.aload_n 0, 1) := by decide +kernel
theorem dCM_choose_229 : decode cCM_choose 229 = .ok (.getfield 59, 3) := by decide +kernel
theorem dCM_choose_232 : decode cCM_choose 232 = .ok (.iload 9, 2) := by decide +kernel
theorem dCM_choose_234 : decode cCM_choose 234 = .ok (.baload, 1) := by decide +kernel
theorem dCM_choose_235 : decode cCM_choose 235 = .ok (.ifCond .eq 19, 3) := by decide +kernel
theorem dCM_choose_238 : decode cCM_choose 238 = .ok (.aload_n 0, 1) := by decide +kernel
theorem dCM_choose_239 : decode cCM_choose 239 = .ok (.iload 9, 2) := by decide +kernel
theorem dCM_choose_241 : decode cCM_choose 241 = .ok (.iload 8, 2) := by decide +kernel
theorem dCM_choose_243 : decode cCM_choose 243 = .ok (.invokevirtual 162, 3) := by decide +kernel
theorem dCM_choose_246 : decode cCM_choose 246 = .ok (.ifCond .eq 8, 3) := by decide +kernel
theorem dCM_choose_249 : decode cCM_choose 249 = .ok (.iload 9, 2) := by decide +kernel
theorem dCM_choose_251 : decode cCM_choose 251 = .ok (.goto 5, 3) := by decide +kernel
theorem dCM_choose_254 : decode cCM_choose 254 = .ok (.iload 7, 2) := by decide +kernel
theorem dCM_choose_256 : decode cCM_choose 256 = .ok (.istore 7, 2) := by decide +kernel
theorem dCM_choose_258 : decode cCM_choose 258 = .ok (.iinc 9 1, 3) := by decide +kernel
theorem dCM_choose_261 : decode cCM_choose 261 = .ok (.goto (-47), 3) := by decide +kernel
theorem dCM_choose_264 : decode cCM_choose 264 = .ok (.aload_n 0, 1) := by decide +kernel
theorem dCM_choose_265 : decode cCM_choose 265 = .ok (.iload 7, 2) := by decide +kernel
theorem dCM_choose_267 : decode cCM_choose 267 = .ok (.ifCond .ge 7, 3) := by decide +kernel
theorem dCM_choose_270 : decode cCM_choose 270 = .ok (.iconst 0, 1) := by decide +kernel
theorem dCM_choose_271 : decode cCM_choose 271 = .ok (.goto 5, 3) := by decide +kernel
theorem dCM_choose_274 : decode cCM_choose 274 = .ok (.iload 8, 2) := by decide +kernel
theorem dCM_choose_276 : decode cCM_choose 276 = .ok (.putfield 153, 3) := by decide +kernel
theorem dCM_choose_279 : decode cCM_choose 279 = .ok (.iinc 8 1, 3) := by decide +kernel
theorem dCM_choose_282 : decode cCM_choose 282 = .ok (.goto (-87), 3) := by decide +kernel
theorem dCM_choose_285 : decode cCM_choose 285 = .ok (.iconst 0, 1) := by decide +kernel
theorem dCM_choose_286 : decode cCM_choose 286 = .ok (.istore 8, 2) := by decide +kernel
theorem dCM_choose_288 : decode cCM_choose 288 = .ok (.iload 8, 2) := by decide +kernel
theorem dCM_choose_290 : decode cCM_choose 290 = .ok (.aload_n 0, 1) := by decide +kernel
theorem dCM_choose_291 : decode cCM_choose 291 = .ok (.getfield 110, 3) := by decide +kernel
theorem dCM_choose_294 : decode cCM_choose 294 = .ok (.if_icmp .ge 51, 3) := by decide +kernel
theorem dCM_choose_297 : decode cCM_choose 297 = .ok (.aload_n 0, 1) := by decide +kernel
theorem dCM_choose_298 : decode cCM_choose 298 = .ok (.getfield 59, 3) := by decide +kernel
theorem dCM_choose_301 : decode cCM_choose 301 = .ok (.iload 8, 2) := by decide +kernel
theorem dCM_choose_303 : decode cCM_choose 303 = .ok (.aload_n 0, 1) := by decide +kernel
theorem dCM_choose_304 : decode cCM_choose 304 = .ok (.getfield 59, 3) := by decide +kernel
theorem dCM_choose_307 : decode cCM_choose 307 = .ok (.iload 8, 2) := by decide +kernel
theorem dCM_choose_309 : decode cCM_choose 309 = .ok (.baload, 1) := by decide +kernel
theorem dCM_choose_310 : decode cCM_choose 310 = .ok (.ifCond .eq 27, 3) := by decide +kernel
theorem dCM_choose_313 : decode cCM_choose 313 = .ok (.aload_n 0, 1) := by decide +kernel
theorem dCM_choose_314 : decode cCM_choose 314 = .ok (.getfield 153, 3) := by decide +kernel
theorem dCM_choose_317 : decode cCM_choose 317 = .ok (.ifCond .le 20, 3) := by decide +kernel
theorem dCM_choose_320 : decode cCM_choose 320 = .ok (.aload_n 0, 1) := by decide +kernel
theorem dCM_choose_321 : decode cCM_choose 321 = .ok (.iload 8, 2) := by decide +kernel
theorem dCM_choose_323 : decode cCM_choose 323 = .ok (.aload_n 0, 1) := by decide +kernel
theorem dCM_choose_324 : decode cCM_choose 324 = .ok (.getfield 153, 3) := by decide +kernel
theorem dCM_choose_327 : decode cCM_choose 327 = .ok (.invokevirtual 162, 3) := by decide +kernel
theorem dCM_choose_330 : decode cCM_choose 330 = .ok (.ifCond .eq 7, 3) := by decide +kernel
theorem dCM_choose_333 : decode cCM_choose 333 = .ok (.iconst 1, 1) := by decide +kernel
theorem dCM_choose_334 : decode cCM_choose 334 = .ok (.goto 4, 3) := by decide +kernel
theorem dCM_choose_337 : decode cCM_choose 337 = .ok (.iconst 0, 1) := by decide +kernel
theorem dCM_choose_338 : decode cCM_choose 338 = .ok (.bastore, 1) := by decide +kernel
theorem dCM_choose_339 : decode cCM_choose 339 = .ok (.iinc 8 1, 3) := by decide +kernel
theorem dCM_choose_342 : decode cCM_choose 342 = .ok (.goto (-54), 3) := by decide +kernel
theorem dCM_choose_345 : decode cCM_choose 345 = .ok (.iconst 0, 1) := by decide +kernel
theorem dCM_choose_346 : decode cCM_choose 346 = .ok (.istore 8, 2) := by decide +kernel
theorem dCM_choose_348 : decode cCM_choose 348 = .ok (.iload 8, 2) := by decide +kernel
theorem dCM_choose_350 : decode cCM_choose 350 = .ok (.aload_n 0, 1) := by decide +kernel
theorem dCM_choose_351 : decode cCM_choose 351 = .ok (.getfield 110, 3) := by decide +kernel
theorem dCM_choose_354 : decode cCM_choose 354 = .ok (.if_icmp .ge 76, 3) := by decide +kernel
theorem dCM_choose_357 : decode cCM_choose 357 = .ok (.iconst 0, 1) := by decide +kernel
theorem dCM_choose_358 : decode cCM_choose 358 = .ok (.istore 9, 2) := by decide +kernel
theorem dCM_choose_360 : decode cCM_choose 360 = .ok (.iload 9, 2) := by decide +kernel
theorem dCM_choose_362 : decode cCM_choose 362 = .ok (.aload_n 0, 1) := by decide +kernel
theorem dCM_choose_363 : decode cCM_choose 363 = .ok (.getfield 110, 3) := by decide +kernel
theorem dCM_choose_366 : decode cCM_choose 366 = .ok (.if_icmp .ge 58, 3) := by decide +kernel
theorem dCM_choose_369 : decode cCM_choose 369 = .ok (.aload_n 0, 1) := by decide +kernel
theorem dCM_choose_370 : decode cCM_choose 370 = .ok (.getfield 62, 3) := by decide +kernel
theorem dCM_choose_373 : decode cCM_choose 373 = .ok (.bipush 60, 2) := by decide +kernel
theorem dCM_choose_375 : decode cCM_choose 375 = .ok (.iload 8, 2) := by decide +kernel
theorem dCM_choose_377 : decode cCM_choose 377 = .ok (.imul, 1) := by decide +kernel
theorem dCM_choose_378 : decode cCM_choose 378 = .ok (.iload 9, 2) := by decide +kernel
theorem dCM_choose_380 : decode cCM_choose 380 = .ok (.iadd, 1) := by decide +kernel
theorem dCM_choose_381 : decode cCM_choose 381 = .ok (.aload_n 0, 1) := by decide +kernel
theorem dCM_choose_382 : decode cCM_choose 382 = .ok (.getfield 59, 3) := by decide +kernel
theorem dCM_choose_385 : decode cCM_choose 385 = .ok (.iload 8, 2) := by decide +kernel
theorem dCM_choose_387 : decode cCM_choose 387 = .ok (.baload, 1) := by decide +kernel
theorem dCM_choose_388 : decode cCM_choose 388 = .ok (.ifCond .eq 28, 3) := by decide +kernel
theorem dCM_choose_391 : decode cCM_choose 391 = .ok (.aload_n 0, 1) := by decide +kernel
theorem dCM_choose_392 : decode cCM_choose 392 = .ok (.getfield 59, 3) := by decide +kernel
theorem dCM_choose_395 : decode cCM_choose 395 = .ok (.iload 9, 2) := by decide +kernel
theorem dCM_choose_397 : decode cCM_choose 397 = .ok (.baload, 1) := by decide +kernel
theorem dCM_choose_398 : decode cCM_choose 398 = .ok (.ifCond .eq 18, 3) := by decide +kernel
theorem dCM_choose_401 : decode cCM_choose 401 = .ok (.aload_n 0, 1) := by decide +kernel
theorem dCM_choose_402 : decode cCM_choose 402 = .ok (.iload 8, 2) := by decide +kernel
theorem dCM_choose_404 : decode cCM_choose 404 = .ok (.iload 9, 2) := by decide +kernel
theorem dCM_choose_406 : decode cCM_choose 406 = .ok (.invokevirtual 165, 3) := by decide +kernel
theorem dCM_choose_409 : decode cCM_choose 409 = .ok (.ifCond .eq 7, 3) := by decide +kernel
theorem dCM_choose_412 : decode cCM_choose 412 = .ok (.iconst 1, 1) := by decide +kernel
theorem dCM_choose_413 : decode cCM_choose 413 = .ok (.goto 4, 3) := by decide +kernel
theorem dCM_choose_416 : decode cCM_choose 416 = .ok (.iconst 0, 1) := by decide +kernel
theorem dCM_choose_417 : decode cCM_choose 417 = .ok (.bastore, 1) := by decide +kernel
theorem dCM_choose_418 : decode cCM_choose 418 = .ok (.iinc 9 1, 3) := by decide +kernel
theorem dCM_choose_421 : decode cCM_choose 421 = .ok (.goto (-61), 3) := by decide +kernel
theorem dCM_choose_424 : decode cCM_choose 424 = .ok (.iinc 8 1, 3) := by decide +kernel
theorem dCM_choose_427 : decode cCM_choose 427 = .ok (.goto (-79), 3) := by decide +kernel
theorem dCM_choose_430 : decode cCM_choose 430 = .ok (.aload_n 0, 1) := by decide +kernel
theorem dCM_choose_431 : decode cCM_choose 431 = .ok (.getfield 153, 3) := by decide +kernel
theorem dCM_choose_434 : decode cCM_choose 434 = .ok (.ifCond .ne 26, 3) := by decide +kernel
theorem dCM_choose_437 : decode cCM_choose 437 = .ok (.iload 5, 2) := by decide +kernel
theorem dCM_choose_439 : decode cCM_choose 439 = .ok (.ifCond .ne 8, 3) := by decide +kernel
theorem dCM_choose_442 : decode cCM_choose 442 = .ok (.bipush (-3), 2) := by decide +kernel
theorem dCM_choose_444 : decode cCM_choose 444 = .ok (.goto 15, 3) := by decide +kernel
theorem dCM_choose_447 : decode cCM_choose 447 = .ok (.iload 6, 2) := by decide +kernel
theorem dCM_choose_449 : decode cCM_choose 449 = .ok (.ifCond .ne 8, 3) := by decide +kernel
theorem dCM_choose_452 : decode cCM_choose 452 = .ok (.bipush (-4), 2) := by decide +kernel
theorem dCM_choose_454 : decode cCM_choose 454 = .ok (.goto 5, 3) := by decide +kernel
theorem dCM_choose_457 : decode cCM_choose 457 = .ok (.bipush (-5), 2) := by decide +kernel
theorem dCM_choose_459 : decode cCM_choose 459 = .ok (.ireturn, 1) := by decide +kernel
theorem dCM_choose_460 : decode cCM_choose 460 = .ok (.aload_n 0, 1) := by decide +kernel
theorem dCM_choose_461 : decode cCM_choose 461 = .ok (.invokevirtual 168, 3) := by decide +kernel
theorem dCM_choose_464 : decode cCM_choose 464 = .ok (.istore 8, 2) := by decide +kernel
theorem dCM_choose_466 : decode cCM_choose 466 = .ok (.iload 8, 2) := by decide +kernel
theorem dCM_choose_468 : decode cCM_choose 468 = .ok (.ifCond .ge 8, 3) := by decide +kernel
theorem dCM_choose_471 : decode cCM_choose 471 = .ok (.bipush (-6), 2) := by decide +kernel
theorem dCM_choose_473 : decode cCM_choose 473 = .ok (.goto 26, 3) := by decide +kernel
theorem dCM_choose_476 : decode cCM_choose 476 = .ok (.iload 4, 2) := by decide +kernel
theorem dCM_choose_478 : decode cCM_choose 478 = .ok (.iconst 1, 1) := by decide +kernel
theorem dCM_choose_479 : decode cCM_choose 479 = .ok (.if_icmp .ne 18, 3) := by decide +kernel
theorem dCM_choose_482 : decode cCM_choose 482 = .ok (.aload_n 0, 1) := by decide +kernel
theorem dCM_choose_483 : decode cCM_choose 483 = .ok (.iload 8, 2) := by decide +kernel
theorem dCM_choose_485 : decode cCM_choose 485 = .ok (.iconst 1, 1) := by decide +kernel
theorem dCM_choose_486 : decode cCM_choose 486 = .ok (.invokevirtual 117, 3) := by decide +kernel
theorem dCM_choose_489 : decode cCM_choose 489 = .ok (.ifCond .ne 8, 3) := by decide +kernel
theorem dCM_choose_492 : decode cCM_choose 492 = .ok (.bipush (-7), 2) := by decide +kernel
theorem dCM_choose_494 : decode cCM_choose 494 = .ok (.goto 5, 3) := by decide +kernel
theorem dCM_choose_497 : decode cCM_choose 497 = .ok (.iload 8, 2) := by decide +kernel
theorem dCM_choose_499 : decode cCM_choose 499 = .ok (.ireturn, 1) := by decide +kernel
theorem dCM_phase_0 : decode cCM_phase 0 = .ok (.aload_n 0, 1) := by decide +kernel
theorem dCM_phase_1 : decode cCM_phase 1 = .ok (.getfield 153, 3) := by decide +kernel
theorem dCM_phase_4 : decode cCM_phase 4 = .ok (.ireturn, 1) := by decide +kernel
theorem dCM_applied_0 : decode cCM_applied 0 = .ok (.iconst 0, 1) := by decide +kernel
theorem dCM_applied_1 : decode cCM_applied 1 = .ok (.istore_n 2, 1) := by decide +kernel
theorem dCM_applied_2 : decode cCM_applied 2 = .ok (.iconst 0, 1) := by decide +kernel
theorem dCM_applied_3 : decode cCM_applied 3 = .ok (.istore_n 3, 1) := by decide +kernel
theorem dCM_applied_4 : decode cCM_applied 4 = .ok (.iload_n 3, 1) := by decide +kernel
theorem dCM_applied_5 : decode cCM_applied 5 = .ok (.bipush 60, 2) := by decide +kernel
theorem dCM_applied_7 : decode cCM_applied 7 = .ok (.if_icmp .ge 28, 3) := by decide +kernel
theorem dCM_applied_10 : decode cCM_applied 10 = .ok (.aload_n 0, 1) := by decide +kernel
theorem dCM_applied_11 : decode cCM_applied 11 = .ok (.getfield 59, 3) := by decide +kernel
theorem dCM_applied_14 : decode cCM_applied 14 = .ok (.iload_n 3, 1) := by decide +kernel
theorem dCM_applied_15 : decode cCM_applied 15 = .ok (.baload, 1) := by decide +kernel
theorem dCM_applied_16 : decode cCM_applied 16 = .ok (.ifCond .eq 13, 3) := by decide +kernel
theorem dCM_applied_19 : decode cCM_applied 19 = .ok (.iload_n 2, 1) := by decide +kernel
theorem dCM_applied_20 : decode cCM_applied 20 = .ok (.iload_n 1, 1) := by decide +kernel
theorem dCM_applied_21 : decode cCM_applied 21 = .ok (.if_icmp .ne 5, 3) := by decide +kernel
theorem dCM_applied_24 : decode cCM_applied 24 = .ok (.iload_n 3, 1) := by decide +kernel
theorem dCM_applied_25 : decode cCM_applied 25 = .ok (.ireturn, 1) := by decide +kernel
theorem dCM_applied_26 : decode cCM_applied 26 = .ok (.iinc 2 1, 3) := by decide +kernel
theorem dCM_applied_29 : decode cCM_applied 29 = .ok (.iinc 3 1, 3) := by decide +kernel
theorem dCM_applied_32 : decode cCM_applied 32 = .ok (.goto (-28), 3) := by decide +kernel
theorem dCM_applied_35 : decode cCM_applied 35 = .ok (.iconst (-1), 1) := by decide +kernel
theorem dCM_applied_36 : decode cCM_applied 36 = .ok (.ireturn, 1) := by decide +kernel
theorem dCM_special_0 : decode cCM_special 0 = .ok (.iload_n 1, 1) := by decide +kernel
theorem dCM_special_1 : decode cCM_special 1 = .ok (.ifCond .lt 41, 3) := by decide +kernel
theorem dCM_special_4 : decode cCM_special 4 = .ok (.iload_n 1, 1) := by decide +kernel
theorem dCM_special_5 : decode cCM_special 5 = .ok (.bipush 60, 2) := by decide +kernel
theorem dCM_special_7 : decode cCM_special 7 = .ok (.if_icmp .ge 35, 3) := by decide +kernel
theorem dCM_special_10 : decode cCM_special 10 = .ok (.iload_n 2, 1) := by decide +kernel
theorem dCM_special_11 : decode cCM_special 11 = .ok (.ifCond .lt 31, 3) := by decide +kernel
theorem dCM_special_14 : decode cCM_special 14 = .ok (.iload_n 2, 1) := by decide +kernel
theorem dCM_special_15 : decode cCM_special 15 = .ok (.bipush 60, 2) := by decide +kernel
theorem dCM_special_17 : decode cCM_special 17 = .ok (.if_icmp .ge 25, 3) := by decide +kernel
theorem dCM_special_20 : decode cCM_special 20 = .ok (.aload_n 0, 1) := by decide +kernel
theorem dCM_special_21 : decode cCM_special 21 = .ok (.getfield 59, 3) := by decide +kernel
theorem dCM_special_24 : decode cCM_special 24 = .ok (.iload_n 1, 1) := by decide +kernel
theorem dCM_special_25 : decode cCM_special 25 = .ok (.baload, 1) := by decide +kernel
theorem dCM_special_26 : decode cCM_special 26 = .ok (.ifCond .eq 16, 3) := by decide +kernel
theorem dCM_special_29 : decode cCM_special 29 = .ok (.aload_n 0, 1) := by decide +kernel
theorem dCM_special_30 : decode cCM_special 30 = .ok (.getfield 59, 3) := by decide +kernel
theorem dCM_special_33 : decode cCM_special 33 = .ok (.iload_n 2, 1) := by decide +kernel
theorem dCM_special_34 : decode cCM_special 34 = .ok (.baload, 1) := by decide +kernel
theorem dCM_special_35 : decode cCM_special 35 = .ok (.ifCond .eq 7, 3) := by decide +kernel
theorem dCM_special_38 : decode cCM_special 38 = .ok (.iconst 1, 1) := by decide +kernel
theorem dCM_special_39 : decode cCM_special 39 = .ok (.goto 4, 3) := by decide +kernel
theorem dCM_special_42 : decode cCM_special 42 = .ok (.iconst 0, 1) := by decide +kernel
theorem dCM_special_43 : decode cCM_special 43 = .ok (.istore_n 3, 1) := by decide +kernel
theorem dCM_special_44 : decode cCM_special 44 = .ok (.iload_n 3, 1) := by decide +kernel
theorem dCM_special_45 : decode cCM_special 45 = .ok (.ifCond .ne 7, 3) := by decide +kernel
theorem dCM_special_48 : decode cCM_special 48 = .ok (.iconst (-1), 1) := by decide +kernel
theorem dCM_special_49 : decode cCM_special 49 = .ok (.goto 22, 3) := by decide +kernel
theorem dCM_special_52 : decode cCM_special 52 = .ok (.aload_n 0, 1) := by decide +kernel
theorem dCM_special_53 : decode cCM_special 53 = .ok (.getfield 62, 3) := by decide +kernel
theorem dCM_special_56 : decode cCM_special 56 = .ok (.bipush 60, 2) := by decide +kernel
theorem dCM_special_58 : decode cCM_special 58 = .ok (.iload_n 1, 1) := by decide +kernel
theorem dCM_special_59 : decode cCM_special 59 = .ok (.imul, 1) := by decide +kernel
theorem dCM_special_60 : decode cCM_special 60 = .ok (.iload_n 2, 1) := by decide +kernel
theorem dCM_special_61 : decode cCM_special 61 = .ok (.iadd, 1) := by decide +kernel
theorem dCM_special_62 : decode cCM_special 62 = .ok (.baload, 1) := by decide +kernel
theorem dCM_special_63 : decode cCM_special 63 = .ok (.ifCond .eq 7, 3) := by decide +kernel
theorem dCM_special_66 : decode cCM_special 66 = .ok (.iconst 1, 1) := by decide +kernel
theorem dCM_special_67 : decode cCM_special 67 = .ok (.goto 4, 3) := by decide +kernel
theorem dCM_special_70 : decode cCM_special 70 = .ok (.iconst 0, 1) := by decide +kernel
theorem dCM_special_71 : decode cCM_special 71 = .ok (.ireturn, 1) := by decide +kernel
theorem dCM_count_0 : decode cCM_count 0 = .ok (.iload_n 1, 1) := by decide +kernel
theorem dCM_count_1 : decode cCM_count 1 = .ok (.ifCond .ne 10, 3) := by decide +kernel
theorem dCM_count_4 : decode cCM_count 4 = .ok (.aload_n 0, 1) := by decide +kernel
theorem dCM_count_5 : decode cCM_count 5 = .ok (.getfield 68, 3) := by decide +kernel
theorem dCM_count_8 : decode cCM_count 8 = .ok (.goto 29, 3) := by decide +kernel
theorem dCM_count_11 : decode cCM_count 11 = .ok (.iload_n 1, 1) := by decide +kernel
theorem dCM_count_12 : decode cCM_count 12 = .ok (.iconst 1, 1) := by decide +kernel
theorem dCM_count_13 : decode cCM_count 13 = .ok (.if_icmp .ne 10, 3) := by decide +kernel
theorem dCM_count_16 : decode cCM_count 16 = .ok (.aload_n 0, 1) := by decide +kernel
theorem dCM_count_17 : decode cCM_count 17 = .ok (.getfield 110, 3) := by decide +kernel
theorem dCM_count_20 : decode cCM_count 20 = .ok (.goto 17, 3) := by decide +kernel
theorem dCM_count_23 : decode cCM_count 23 = .ok (.iload_n 1, 1) := by decide +kernel
theorem dCM_count_24 : decode cCM_count 24 = .ok (.iconst 2, 1) := by decide +kernel
theorem dCM_count_25 : decode cCM_count 25 = .ok (.if_icmp .ne 10, 3) := by decide +kernel
theorem dCM_count_28 : decode cCM_count 28 = .ok (.aload_n 0, 1) := by decide +kernel
theorem dCM_count_29 : decode cCM_count 29 = .ok (.getfield 137, 3) := by decide +kernel
theorem dCM_count_32 : decode cCM_count 32 = .ok (.goto 5, 3) := by decide +kernel
theorem dCM_count_35 : decode cCM_count 35 = .ok (.bipush (-2), 2) := by decide +kernel
theorem dCM_count_37 : decode cCM_count 37 = .ok (.ireturn, 1) := by decide +kernel
end
section
-- the pure side's words
abbrev xSt : Type := (Nat → Nat → Int32) × (Nat → Nat → Int64)
def sI (σ : xSt) (k j : Nat) (v : Int32) : xSt := (fun a => if a = k then upd (σ.1 k) j v else σ.1 a, σ.2)
def sL (σ : xSt) (k j : Nat) (v : Int64) : xSt := (σ.1, fun a => if a = k then vp_updL (σ.2 k) j v else σ.2 a)
def jlushr (x : Int64) (y : Int32) : Int64 := (x.toUInt64 >>> (y.toInt64.toUInt64 &&& Int64.toUInt64 63)).toInt64
def jlshl (x : Int64) (y : Int32) : Int64 := x <<< (y.toInt64 &&& 63)
def jiushr (x y : Int32) : Int32 := (x.toUInt32 >>> (y.toUInt32 &&& Int32.toUInt32 31)).toInt32
def gF : Nat := 4000
def nm {α β : Type} (e : α) (f : α → Option β) : Option β := f e
theorem nm_at {α β : Type} {e y : α} {f : α → Option β} {r : β} (hy : y = e) (h : nm e f = some r) : f y = some r := by rw [hy]; exact h
def gx_b2 {α β γ : Type} (o : Option (α × β)) (f : α → β → Option γ) : Option γ := o.bind fun z => f z.1 z.2
theorem gx_b2_at {α β γ : Type} {o : Option (α × β)} {f : α → β → Option γ} {r : γ} (h : gx_b2 o f = some r) : ∃ v u, o = some (v, u) ∧ f v u = some r := by
  obtain ⟨z, e, h⟩ := Option.bind_eq_some_iff.mp h
  exact ⟨z.1, z.2, e, h⟩
theorem gx_nb {c : Prop} {d : Decidable c} {α : Type} {E : Option α} {r : α} (h : (@ite _ c d none E) = some r) : ¬ c ∧ E = some r := by
  by_cases q : c
  · rw [if_pos q] at h; cases h
  · rw [if_neg q] at h; exact ⟨q, h⟩
theorem gx_gd {c : Prop} {d : Decidable c} {α : Type} {E : Option α} {r : α} (h : (@ite _ c d E none) = some r) : c ∧ E = some r := by
  by_cases q : c
  · rw [if_pos q] at h; exact ⟨q, h⟩
  · rw [if_neg q] at h; cases h
theorem gx_nar {v : Int32} (h : v &&& 1 = v) : narrow .boolean (.int v) = .int v := by
  show Value.int (v &&& 1) = .int v
  rw [h]
theorem gx_keys {A : Nat → Prop} {ws ws' : va_W} (hk : ws.map Prod.fst = ws'.map Prod.fst) (h : va_D A ws) : va_D A ws' := by
  have key : ∀ (i : Nat) (q : Nat × va_E), ws'[i]? = some q → ∃ q0 : Nat × va_E, ws[i]? = some q0 ∧ q0.1 = q.1 := by
    intro i q hq
    have e : (ws.map Prod.fst)[i]? = some q.1 := by rw [hk, List.getElem?_map, hq]; rfl
    rw [List.getElem?_map] at e
    cases hw : ws[i]? with
    | none => rw [hw] at e; cases e
    | some q0 => rw [hw] at e; exact ⟨q0, rfl, Option.some.inj e⟩
  refine ⟨fun i j p q hp hq hpq => ?_, fun k q hq => ?_⟩
  · obtain ⟨p0, hp0, ep⟩ := key i p hp
    obtain ⟨q0, hq0, eq⟩ := key j q hq
    exact h.1 i j p0 q0 hp0 hq0 (by rw [ep, eq, hpq])
  · obtain ⟨q0, hq0, eq⟩ := key k q hq
    rw [← eq]
    exact h.2 k q0 hq0
section GCALL
variable {p : Program} {l : Launch} {e : Env} {R : Room} {s : State} {m : MethodId} {args : Array Value} {below : List Frame} {meth : Method} {c : Code} {H : Heap} {locs : List Loc} {cells slots : Nat} {Q : State → Prop}
variable {cc bytes : ByteArray} {nL maxL n index pc : Nat} {Ts ws : List Cond} {own : String} {y : MethodName} {ret : Option FieldType} {rm : Room} {b : Nat} {As rest st0 : List Value} {ls : Array Slot}
variable {D : va_G} {cl : List vw_C} {tys : List (ClassId × FieldType)}
/-- a call of a method that leaves the heap as it is -/
theorem gcall_r {wd : va_W} {v : Int32} (S : CallFix p m c cc nL s args Ts own) (hK : va_K D cl tys s) (hP : va_P D cl wd H) {ci q0 : Nat} {q : vw_C} {fs : List Value} (hc : cl[ci]? = some q) (he : wd[q0]? = some (b, .inr (ci, fs)))
    (hM : Met l y ws rm (va_Pc (.ref b :: As) (fun U => va_P D cl wd U.heap ∧ va_K D cl tys U)) (vp_Si (fun w => w = v)) 0 0 (fun _ => False))
    (cw : CallW R s args own q.1 index y bytes maxL ret ws rm 0 0 n) (hn : As.length = n) (hsize : ls.size = nL) (hstack : st0 = As.reverse ++ .ref b :: rest) (hroom : (rest.map fun v => v.category).sum ≤ 8) (hdg : decode cc pc = .ok (.invokevirtual index, 3))
    (hf : cells ≤ R.cells ∧ slots ≤ R.slots)
    (k : W p l e R s m args below meth c H locs cells slots Q (F0 m (pc + 3) ls (.int v :: rest))) : W p l e R s m args below meth c H locs cells slots Q (F0 m pc ls st0) := by
  refine vp_callSi (va_runV (As := As) (rest := rest) (b := b) S hM cw ⟨fun a U g mk q => ?_, va_recv hK hP hc he, fun U hU hW => ⟨rfl, by rw [hU]; exact hP, va_K.moved hW.alike hK⟩⟩ rfl hn hsize hstack (lv_room hroom) hdg hf).run (fun r er => ?_)
  · obtain ⟨q0, qP, qK⟩ := q
    exact ⟨q0, qP, va_K.moved (u := U) (U := U.calling g mk a) (Vm.Alike.refl U.vm) qK⟩
  · rw [er]
    exact k
/-- a call of a writer with an int answer -/
theorem gcall_i {wd : xSt → va_W} {A : Nat → Prop} {H0 : Heap} {σ u : xSt} {v : Int32} (hkeys : ∀ σ σ' : xSt, (wd σ).map Prod.fst = (wd σ').map Prod.fst) (S : CallFix p m c cc nL s args Ts own) (hK : va_K D cl tys s) (hP : va_P D cl (wd σ) H) (hD : va_D A (wd σ)) (hS : va_S A H0 H locs) {ci q0 : Nat} {q : vw_C} {fs : List Value} (hc : cl[ci]? = some q) (he : (wd σ)[q0]? = some (b, .inr (ci, fs)))
    (hM : Met l y ws rm (va_Pc (.ref b :: As) (fun U => va_P D cl (wd σ) U.heap ∧ va_K D cl tys U ∧ va_D A (wd σ))) (va_Qi (fun (w : Int32) (z : xSt) => (w, z) = (v, u)) (fun z t => va_P D cl (wd z) t.heap) A) 0 0 A)
    (cw : CallW R s args own q.1 index y bytes maxL ret ws rm 0 0 n) (hn : As.length = n) (hsize : ls.size = nL) (hstack : st0 = As.reverse ++ .ref b :: rest) (hroom : (rest.map fun v => v.category).sum ≤ 8) (hdg : decode cc pc = .ok (.invokevirtual index, 3))
    (hf : cells ≤ R.cells ∧ slots ≤ R.slots)
    (k : ∀ (H : Heap) (locs : List Loc), va_P D cl (wd u) H → va_D A (wd u) → va_S A H0 H locs → W p l e R s m args below meth c H locs cells slots Q (F0 m (pc + 3) ls (.int v :: rest))) : W p l e R s m args below meth c H locs cells slots Q (F0 m pc ls st0) := by
  refine va_calli (va_runV (As := As) (rest := rest) (b := b) S hM cw ⟨fun a U g mk q => ?_, va_recv hK hP hc he, fun U hU hW => ⟨rfl, by rw [hU]; exact hP, va_K.moved hW.alike hK, hD⟩⟩ rfl hn hsize hstack (lv_room hroom) hdg hf) hS (fun _ _ h => h) (fun _ h => h) (fun r z t H1 locs1 ht hvm hw hB hz1 hk1 hS => ?_)
  · obtain ⟨q0, qP, qK, qD⟩ := q
    exact ⟨q0, qP, va_K.moved (u := U) (U := U.calling g mk a) (Vm.Alike.refl U.vm) qK, qD⟩
  · cases hw
    rw [ht] at hB
    exact k H1 locs1 hB (gx_keys (hkeys _ _) hD) hS
theorem gcall_v {wd : xSt → va_W} {A : Nat → Prop} {H0 : Heap} {σ u : xSt} (hkeys : ∀ σ σ' : xSt, (wd σ).map Prod.fst = (wd σ').map Prod.fst) (S : CallFix p m c cc nL s args Ts own) (hK : va_K D cl tys s) (hP : va_P D cl (wd σ) H) (hD : va_D A (wd σ)) (hS : va_S A H0 H locs) {ci q0 : Nat} {q : vw_C} {fs : List Value} (hc : cl[ci]? = some q) (he : (wd σ)[q0]? = some (b, .inr (ci, fs)))
    (hM : Met l y ws rm (va_Pc (.ref b :: As) (fun U => va_P D cl (wd σ) U.heap ∧ va_K D cl tys U ∧ va_D A (wd σ))) (va_Qv (fun (z : xSt) => z = u) (fun z t => va_P D cl (wd z) t.heap) A) 0 0 A)
    (cw : CallW R s args own q.1 index y bytes maxL ret ws rm 0 0 n) (hn : As.length = n) (hsize : ls.size = nL) (hstack : st0 = As.reverse ++ .ref b :: rest) (hroom : (rest.map fun v => v.category).sum ≤ 8) (hdg : decode cc pc = .ok (.invokevirtual index, 3))
    (hf : cells ≤ R.cells ∧ slots ≤ R.slots)
    (k : ∀ (H : Heap) (locs : List Loc), va_P D cl (wd u) H → va_D A (wd u) → va_S A H0 H locs → W p l e R s m args below meth c H locs cells slots Q (F0 m (pc + 3) ls rest)) : W p l e R s m args below meth c H locs cells slots Q (F0 m pc ls st0) := by
  refine va_callv (va_runV (As := As) (rest := rest) (b := b) S hM cw ⟨fun a U g mk q => ?_, va_recv hK hP hc he, fun U hU hW => ⟨rfl, by rw [hU]; exact hP, va_K.moved hW.alike hK, hD⟩⟩ rfl hn hsize hstack (lv_room hroom) hdg hf) hS (fun _ _ h => h) (fun _ h => h) (fun z t H1 locs1 ht hvm hw hB hz1 hk1 hS => ?_)
  · obtain ⟨q0, qP, qK, qD⟩ := q
    exact ⟨q0, qP, va_K.moved (u := U) (U := U.calling g mk a) (Vm.Alike.refl U.vm) qK, qD⟩
  · cases hw
    rw [ht] at hB
    exact k H1 locs1 hB (gx_keys (hkeys _ _) hD) hS
theorem gcall_s {wd : va_W} {v : Int32} (S : CallFix p m c cc nL s args Ts own) (hK : va_K D cl tys s) (hP : va_P D cl wd H)
    (hM : Met l y ws rm (va_Pc As (fun U => va_P D cl wd U.heap ∧ va_K D cl tys U)) (vp_Si (fun w => w = v)) 0 0 (fun _ => False))
    (cw : CallB R s args own index y bytes maxL ret ws rm 0 0 n ∧ (Cond.static y).before args s = true) (hn : As.length = n) (hsize : ls.size = nL) (hstack : st0 = As.reverse ++ rest) (hroom : (rest.map fun v => v.category).sum ≤ 8) (hdg : decode cc pc = .ok (.invokestatic index, 3))
    (hf : cells ≤ R.cells ∧ slots ≤ R.slots)
    (k : W p l e R s m args below meth c H locs cells slots Q (F0 m (pc + 3) ls (.int v :: rest))) : W p l e R s m args below meth c H locs cells slots Q (F0 m pc ls st0) := by
  refine vp_callSi (va_runS (As := As) (rest := rest) S hM cw ⟨fun a U g mk q => ?_, fun U hU hW => ⟨rfl, by rw [hU]; exact hP, va_K.moved hW.alike hK⟩⟩ rfl hn hsize hstack (lv_room hroom) hdg hf).run (fun r er => ?_)
  · obtain ⟨q0, qP, qK⟩ := q
    exact ⟨q0, qP, va_K.moved (u := U) (U := U.calling g mk a) (Vm.Alike.refl U.vm) qK⟩
  · rw [er]
    exact k
end GCALL
theorem gx_out2 {x : Int32} (h0 : ¬ x = 0) (h1 : ¬ x = 1) (h2 : ¬ x = 2) : x.toInt < 0 ∨ 2 < x.toInt := by
  rcases Int.lt_or_le x.toInt 0 with q | q
  · exact Or.inl q
  · rcases Int.lt_or_le 2 x.toInt with z | z
    · exact Or.inr z
    · exfalso
      have e : x.toInt = 0 ∨ x.toInt = 1 ∨ x.toInt = 2 := by omega
      rcases e with e | e | e
      · exact h0 (Int32.toInt_inj.mp e)
      · exact h1 (Int32.toInt_inj.mp e)
      · exact h2 (Int32.toInt_inj.mp e)
theorem goodIn_all {ws : List Cond} (h : ∀ w ∈ ws, w ∈ wAll) : GoodIn wAll ws := fun w hw => ⟨h w hw, good_of_word (List.mem_filter.mp (h w hw)).2⟩
theorem gw {own C : String} {idx n : Nat} {y : MethodName} {bytes : ByteArray} {ret : Option FieldType} (h1 : Cond.methodLink own idx y ∈ wAll) (h2 : Cond.instanceMethod y ∈ wAll) (h3 : Cond.selects C y y ∈ wAll) (h4 : Cond.initialized C ∈ wAll) (h5 : Cond.code y bytes n ret ∈ wAll) : GoodIn wAll (wsV own idx C y (.code y bytes n ret :: wAll)) := by
  refine goodIn_all (fun w hw => ?_)
  unfold wsV at hw
  simp only [List.cons_append, List.nil_append, List.mem_cons] at hw
  rcases hw with rfl | rfl | rfl | rfl | rfl | hw <;> assumption
theorem gws {own : String} {idx n : Nat} {y : MethodName} {bytes : ByteArray} {ret : Option FieldType} (h1 : Cond.methodLink own idx y ∈ wAll) (h2 : Cond.static y ∈ wAll) (h4 : Cond.initialized y.cls ∈ wAll) (h5 : Cond.code y bytes n ret ∈ wAll) : GoodIn wAll (va_wsS own idx y (.code y bytes n ret :: wAll)) := by
  refine goodIn_all (fun w hw => ?_)
  unfold va_wsS at hw
  simp only [List.cons_append, List.nil_append, List.mem_cons] at hw
  rcases hw with rfl | rfl | rfl | rfl | hw <;> assumption
end
section
def xW (ad : Nat → Nat) (cA : Nat → ClassId) (σ : xSt) : va_W := [
  (ad 0, .inr (0, [.ref (ad 1), .ref (ad 2), .ref (ad 3), .ref (ad 4), .ref (ad 5)])),
  (ad 1, .inr (1, [.ref (ad 6), .ref (ad 7), .ref (ad 8), .int (σ.1 1 3)])),
  (ad 2, .inr (2, [.ref (ad 1), .ref (ad 9), .ref (ad 10), .ref (ad 11), .ref (ad 12), .ref (ad 13), .ref (ad 14), .ref (ad 15), .int (σ.1 2 8), .int (σ.1 2 9)])),
  (ad 3, .inr (3, [.ref (ad 16), .ref (ad 17), .ref (ad 18), .ref (ad 19), .ref (ad 20), .int (σ.1 3 5)])),
  (ad 4, .inr (4, [.ref (ad 1), .ref (ad 2), .ref (ad 3), .ref (ad 21), .ref (ad 22), .ref (ad 23), .int (σ.1 4 6), .int (σ.1 4 7), .long (σ.2 4 8), .int (σ.1 4 9)])),
  (ad 5, .inl (cA 5, 60, .inl (σ.1 5))),
  (ad 6, .inl (cA 6, 40, .inr (.inl (σ.2 6)))),
  (ad 7, .inl (cA 7, 24, .inl (σ.1 7))),
  (ad 8, .inl (cA 8, 24, .inl (σ.1 8))),
  (ad 9, .inl (cA 9, 61, .inl (σ.1 9))),
  (ad 10, .inl (cA 10, 61, .inl (σ.1 10))),
  (ad 11, .inl (cA 11, 61, .inl (σ.1 11))),
  (ad 12, .inl (cA 12, 61, .inl (σ.1 12))),
  (ad 13, .inl (cA 13, 61, .inl (σ.1 13))),
  (ad 14, .inl (cA 14, 244, .inl (σ.1 14))),
  (ad 15, .inl (cA 15, 24, .inl (σ.1 15))),
  (ad 16, .inl (cA 16, 5, .inl (σ.1 16))),
  (ad 17, .inl (cA 17, 5, .inl (σ.1 17))),
  (ad 18, .inl (cA 18, 5, .inl (σ.1 18))),
  (ad 19, .inl (cA 19, 5, .inl (σ.1 19))),
  (ad 20, .inl (cA 20, 10, .inl (σ.1 20))),
  (ad 21, .inl (cA 21, 60, .inl (σ.1 21))),
  (ad 22, .inl (cA 22, 60, .inl (σ.1 22))),
  (ad 23, .inl (cA 23, 60, .inr (.inl (σ.2 23))))]
def xT (cA : Nat → ClassId) : List (ClassId × FieldType) := [(cA 5, .int), (cA 6, .long), (cA 7, .int), (cA 8, .boolean), (cA 9, .int), (cA 10, .int), (cA 11, .int), (cA 12, .int), (cA 13, .int), (cA 14, .int), (cA 15, .int), (cA 16, .boolean), (cA 17, .boolean), (cA 18, .int), (cA 19, .int), (cA 20, .int), (cA 21, .int), (cA 22, .int), (cA 23, .long)]
def xA (ad : Nat → Nat) : Nat → Prop := fun q => ∃ k : Nat, k < 24 ∧ q = ad k
theorem xkeys {ad : Nat → Nat} {cA : Nat → ClassId} : ∀ σ σ2 : xSt, (xW ad cA σ).map Prod.fst = (xW ad cA σ2).map Prod.fst := fun _ _ => rfl
def mW (ad : Nat → Nat) (cA : Nat → ClassId) (σ : xSt) : va_W := [
  (ad 0, .inr (5, [.int (σ.1 0 0), .ref (ad 1), .ref (ad 2), .ref (ad 3), .ref (ad 4), .ref (ad 5), .int (σ.1 0 6), .ref (ad 6), .ref (ad 7), .ref (ad 8), .ref (ad 9), .ref (ad 10), .ref (ad 11), .int (σ.1 0 13), .ref (ad 12), .ref (ad 13), .ref (ad 14), .ref (ad 15), .ref (ad 16), .int (σ.1 0 19), .ref (ad 17), .ref (ad 18), .ref (ad 19)])),
  (ad 1, .inl (cA 1, 24, .inl (σ.1 1))),
  (ad 2, .inl (cA 2, 24, .inl (σ.1 2))),
  (ad 3, .inl (cA 3, 24, .inl (σ.1 3))),
  (ad 4, .inl (cA 4, 96, .inl (σ.1 4))),
  (ad 5, .inl (cA 5, 576, .inl (σ.1 5))),
  (ad 6, .inl (cA 6, 60, .inl (σ.1 6))),
  (ad 7, .inl (cA 7, 60, .inl (σ.1 7))),
  (ad 8, .inl (cA 8, 60, .inl (σ.1 8))),
  (ad 9, .inl (cA 9, 60, .inl (σ.1 9))),
  (ad 10, .inl (cA 10, 60, .inl (σ.1 10))),
  (ad 11, .inl (cA 11, 240, .inl (σ.1 11))),
  (ad 12, .inl (cA 12, 5, .inl (σ.1 12))),
  (ad 13, .inl (cA 13, 5, .inl (σ.1 13))),
  (ad 14, .inl (cA 14, 5, .inl (σ.1 14))),
  (ad 15, .inl (cA 15, 10, .inl (σ.1 15))),
  (ad 16, .inl (cA 16, 5, .inl (σ.1 16))),
  (ad 17, .inl (cA 17, 60, .inl (σ.1 17))),
  (ad 18, .inl (cA 18, 3600, .inl (σ.1 18))),
  (ad 19, .inl (cA 19, 24, .inl (σ.1 19)))]
def mT (cA : Nat → ClassId) : List (ClassId × FieldType) := [(cA 1, .boolean), (cA 2, .int), (cA 3, .int), (cA 4, .int), (cA 5, .boolean), (cA 6, .int), (cA 7, .int), (cA 8, .int), (cA 9, .int), (cA 10, .int), (cA 11, .int), (cA 12, .int), (cA 13, .int), (cA 14, .int), (cA 15, .int), (cA 16, .int), (cA 17, .boolean), (cA 18, .boolean), (cA 19, .int)]
def mA (ad : Nat → Nat) : Nat → Prop := fun q => ∃ k : Nat, k < 20 ∧ q = ad k
theorem mkeys {ad : Nat → Nat} {cA : Nat → ClassId} : ∀ σ σ2 : xSt, (mW ad cA σ).map Prod.fst = (mW ad cA σ2).map Prod.fst := fun _ _ => rfl
end
section
/-! THE CLAIM OUT OF ONE WALK OF THE LAW'S BODY. Your part is whole_start (and what it stands on); all else here is the same for every law, but numbers. -/
def R_law : String := "MemberChoiceLaw"
def lw_P (b : Addr) (xs : List Int32) (args : Array Value) (s : State) : Prop := args = #[.ref b] ∧ s.IntsAt b xs ∧ xs.length ≤ 5120 ∧ (Jvm.Cond.and given_1 narrow_1).before args s = true
def lw_Q (_ : Array Value) (s : State) (o : Outcome) (t : State) : Prop := o = .returned (some (.int 1)) ∧ Framed s o t [] 600000 7302250
def lw_Z (below : List Frame) (a : Array Value) (s : State) : State → Prop := fun t => ∃ o, t.status = .running ∧ Ended t below o ∧ lw_Q a s o t
/-- the law's own end, with 1 on the stack, nothing written that was there before, its room as the claim has it -/
theorem lw_ret {p : Program} {l : Launch} {e : Env} {s : State} {m : MethodId} {below : List Frame} {meth : Method} {c : Code} {b : Nat} (hx : p.tables.exec = Jvm.exec) (hb : c.code = code) (hr : meth.sig.returnType = ret) (hlocks : meth.locks = false) {pc : Nat} {H : Heap} {ls : Array Slot} (hdg : decode code pc = .ok (.ireturn, 1)) : W p l e room_1 s m #[Value.ref b] below meth c H [] 600000 7302250 (lw_Z below #[Value.ref b] s) (F0 m pc ls [.int 1]) := by
  intro T hT X
  obtain ⟨fs, hret, hrun, hended, hW, hframe⟩ := X.leave (v := some (.int 1)) (hlocks := hlocks) (fun h => by rw [hr] at h; cases h)
  have hmeth' : T.vm.method? m = some meth := X.method'
  refine ⟨T.setFrames fs, ?_, .returned (some (.int 1)), hrun, hended, rfl, ⟨_, rfl⟩, hW, hframe⟩
  jvm_step X.here [X.here.top, hx, hb, hdg, hmeth', hr, ret, narrow_b1]
  (try refine ⟨rfl, ?_⟩); (try refine ⟨rfl, ?_⟩)
  first | (intro acts; rw [hret _ acts rfl rfl rfl]) | rw [hret _ _ rfl rfl rfl]
  exact Steps.refl _
/-- what holds at the law's entry: the machine, the code, the tables' words (any of lw_tbl by 'hts w (by decide +kernel)'), the script of L ints xs at the cell b, what the Statement gives of the start (any of its parts by flat_of_before) -/
def lw_At (p : Program) (s : State) (m : MethodId) (meth : Method) (c : Code) (b L : Nat) (xs : Nat → Int32) : Prop :=
  p.tables.exec = Jvm.exec ∧ c.code = code ∧ meth.sig.returnType = ret ∧ c.maxLocals = 4 ∧ s.vm.findClass R_law = some m.cls ∧ (∀ w ∈ lw_tbl, w.before #[Value.ref b] s = true) ∧ va_X b L xs s s.heap ∧ b < s.heap.size ∧ meth.locks = false ∧ (Jvm.Cond.and given_1 narrow_1).before #[Value.ref b] s = true
end
section
theorem lw_keep {D : va_G} {cl : List vw_C} {wo : va_W} {H H1 : Heap} {A1 : Nat → Prop} (hP : va_P D cl wo H) (hap : ∀ (k : Nat) (q : Nat × va_E), wo[k]? = some q → ¬ A1 q.1) (hk : ∀ q : Nat, q < H.size → ¬ A1 q → H1[q]? = H[q]?) : va_P D cl wo H1 := fun k q hq => (hP k q hq).kept (hk q.1 (hP k q hq).lt (hap k q hq))
end
section
theorem dJA_fill_0 : decode cJA_fill 0 = .ok (.iconst 0, 1) := by decide +kernel
theorem dJA_fill_1 : decode cJA_fill 1 = .ok (.istore_n 2, 1) := by decide +kernel
theorem dJA_fill_2 : decode cJA_fill 2 = .ok (.aload_n 0, 1) := by decide +kernel
theorem dJA_fill_3 : decode cJA_fill 3 = .ok (.arraylength, 1) := by decide +kernel
theorem dJA_fill_4 : decode cJA_fill 4 = .ok (.istore_n 3, 1) := by decide +kernel
theorem dJA_fill_5 : decode cJA_fill 5 = .ok (.iload_n 2, 1) := by decide +kernel
theorem dJA_fill_6 : decode cJA_fill 6 = .ok (.iload_n 3, 1) := by decide +kernel
theorem dJA_fill_7 : decode cJA_fill 7 = .ok (.if_icmp .ge 13, 3) := by decide +kernel
theorem dJA_fill_10 : decode cJA_fill 10 = .ok (.aload_n 0, 1) := by decide +kernel
theorem dJA_fill_11 : decode cJA_fill 11 = .ok (.iload_n 2, 1) := by decide +kernel
theorem dJA_fill_12 : decode cJA_fill 12 = .ok (.iload_n 1, 1) := by decide +kernel
theorem dJA_fill_13 : decode cJA_fill 13 = .ok (.iastore, 1) := by decide +kernel
theorem dJA_fill_14 : decode cJA_fill 14 = .ok (.iinc 2 1, 3) := by decide +kernel
theorem dJA_fill_17 : decode cJA_fill 17 = .ok (.goto (-12), 3) := by decide +kernel
theorem dJA_fill_20 : decode cJA_fill 20 = .ok (.return_, 1) := by decide +kernel
theorem dC3_init_0 : decode cC3_init 0 = .ok (.aload_n 0, 1) := by decide +kernel
theorem dC3_init_1 : decode cC3_init 1 = .ok (.invokespecial 3, 3) := by decide +kernel
theorem dC3_init_4 : decode cC3_init 4 = .ok (.aload_n 0, 1) := by decide +kernel
theorem dC3_init_5 : decode cC3_init 5 = .ok (.iconst 5, 1) := by decide +kernel
theorem dC3_init_6 : decode cC3_init 6 = .ok (.newarray .boolean, 2) := by decide +kernel
theorem dC3_init_8 : decode cC3_init 8 = .ok (.putfield 11, 3) := by decide +kernel
theorem dC3_init_11 : decode cC3_init 11 = .ok (.aload_n 0, 1) := by decide +kernel
theorem dC3_init_12 : decode cC3_init 12 = .ok (.iconst 5, 1) := by decide +kernel
theorem dC3_init_13 : decode cC3_init 13 = .ok (.newarray .boolean, 2) := by decide +kernel
theorem dC3_init_15 : decode cC3_init 15 = .ok (.putfield 15, 3) := by decide +kernel
theorem dC3_init_18 : decode cC3_init 18 = .ok (.aload_n 0, 1) := by decide +kernel
theorem dC3_init_19 : decode cC3_init 19 = .ok (.iconst 5, 1) := by decide +kernel
theorem dC3_init_20 : decode cC3_init 20 = .ok (.newarray .int, 2) := by decide +kernel
theorem dC3_init_22 : decode cC3_init 22 = .ok (.putfield 18, 3) := by decide +kernel
theorem dC3_init_25 : decode cC3_init 25 = .ok (.aload_n 0, 1) := by decide +kernel
theorem dC3_init_26 : decode cC3_init 26 = .ok (.iconst 5, 1) := by decide +kernel
theorem dC3_init_27 : decode cC3_init 27 = .ok (.newarray .int, 2) := by decide +kernel
theorem dC3_init_29 : decode cC3_init 29 = .ok (.putfield 22, 3) := by decide +kernel
theorem dC3_init_32 : decode cC3_init 32 = .ok (.aload_n 0, 1) := by decide +kernel
theorem dC3_init_33 : decode cC3_init 33 = .ok (.bipush 10, 2) := by decide +kernel
theorem dC3_init_35 : decode cC3_init 35 = .ok (.newarray .int, 2) := by decide +kernel
theorem dC3_init_37 : decode cC3_init 37 = .ok (.putfield 25, 3) := by decide +kernel
theorem dC3_init_40 : decode cC3_init 40 = .ok (.return_, 1) := by decide +kernel
theorem dC4_init_0 : decode cC4_init 0 = .ok (.aload_n 0, 1) := by decide +kernel
theorem dC4_init_1 : decode cC4_init 1 = .ok (.invokespecial 3, 3) := by decide +kernel
theorem dC4_init_4 : decode cC4_init 4 = .ok (.aload_n 0, 1) := by decide +kernel
theorem dC4_init_5 : decode cC4_init 5 = .ok (.aload_n 1, 1) := by decide +kernel
theorem dC4_init_6 : decode cC4_init 6 = .ok (.putfield 9, 3) := by decide +kernel
theorem dC4_init_9 : decode cC4_init 9 = .ok (.aload_n 0, 1) := by decide +kernel
theorem dC4_init_10 : decode cC4_init 10 = .ok (.aload_n 2, 1) := by decide +kernel
theorem dC4_init_11 : decode cC4_init 11 = .ok (.putfield 15, 3) := by decide +kernel
theorem dC4_init_14 : decode cC4_init 14 = .ok (.aload_n 0, 1) := by decide +kernel
theorem dC4_init_15 : decode cC4_init 15 = .ok (.aload_n 3, 1) := by decide +kernel
theorem dC4_init_16 : decode cC4_init 16 = .ok (.putfield 19, 3) := by decide +kernel
theorem dC4_init_19 : decode cC4_init 19 = .ok (.aload_n 0, 1) := by decide +kernel
theorem dC4_init_20 : decode cC4_init 20 = .ok (.bipush 60, 2) := by decide +kernel
theorem dC4_init_22 : decode cC4_init 22 = .ok (.newarray .int, 2) := by decide +kernel
theorem dC4_init_24 : decode cC4_init 24 = .ok (.putfield 25, 3) := by decide +kernel
theorem dC4_init_27 : decode cC4_init 27 = .ok (.aload_n 0, 1) := by decide +kernel
theorem dC4_init_28 : decode cC4_init 28 = .ok (.bipush 60, 2) := by decide +kernel
theorem dC4_init_30 : decode cC4_init 30 = .ok (.newarray .int, 2) := by decide +kernel
theorem dC4_init_32 : decode cC4_init 32 = .ok (.putfield 29, 3) := by decide +kernel
theorem dC4_init_35 : decode cC4_init 35 = .ok (.aload_n 0, 1) := by decide +kernel
theorem dC4_init_36 : decode cC4_init 36 = .ok (.bipush 60, 2) := by decide +kernel
theorem dC4_init_38 : decode cC4_init 38 = .ok (.newarray .long, 2) := by decide +kernel
theorem dC4_init_40 : decode cC4_init 40 = .ok (.putfield 32, 3) := by decide +kernel
theorem dC4_init_43 : decode cC4_init 43 = .ok (.return_, 1) := by decide +kernel
theorem dC2_init_0 : decode cC2_init 0 = .ok (.aload_n 0, 1) := by decide +kernel
theorem dC2_init_1 : decode cC2_init 1 = .ok (.invokespecial 3, 3) := by decide +kernel
theorem dC2_init_4 : decode cC2_init 4 = .ok (.aload_n 0, 1) := by decide +kernel
theorem dC2_init_5 : decode cC2_init 5 = .ok (.aload_n 1, 1) := by decide +kernel
theorem dC2_init_6 : decode cC2_init 6 = .ok (.putfield 9, 3) := by decide +kernel
theorem dC2_init_9 : decode cC2_init 9 = .ok (.aload_n 0, 1) := by decide +kernel
theorem dC2_init_10 : decode cC2_init 10 = .ok (.bipush 61, 2) := by decide +kernel
theorem dC2_init_12 : decode cC2_init 12 = .ok (.newarray .int, 2) := by decide +kernel
theorem dC2_init_14 : decode cC2_init 14 = .ok (.putfield 15, 3) := by decide +kernel
theorem dC2_init_17 : decode cC2_init 17 = .ok (.aload_n 0, 1) := by decide +kernel
theorem dC2_init_18 : decode cC2_init 18 = .ok (.bipush 61, 2) := by decide +kernel
theorem dC2_init_20 : decode cC2_init 20 = .ok (.newarray .int, 2) := by decide +kernel
theorem dC2_init_22 : decode cC2_init 22 = .ok (.putfield 19, 3) := by decide +kernel
theorem dC2_init_25 : decode cC2_init 25 = .ok (.aload_n 0, 1) := by decide +kernel
theorem dC2_init_26 : decode cC2_init 26 = .ok (.bipush 61, 2) := by decide +kernel
theorem dC2_init_28 : decode cC2_init 28 = .ok (.newarray .int, 2) := by decide +kernel
theorem dC2_init_30 : decode cC2_init 30 = .ok (.putfield 22, 3) := by decide +kernel
theorem dC2_init_33 : decode cC2_init 33 = .ok (.aload_n 0, 1) := by decide +kernel
theorem dC2_init_34 : decode cC2_init 34 = .ok (.bipush 61, 2) := by decide +kernel
theorem dC2_init_36 : decode cC2_init 36 = .ok (.newarray .int, 2) := by decide +kernel
theorem dC2_init_38 : decode cC2_init 38 = .ok (.putfield 25, 3) := by decide +kernel
theorem dC2_init_41 : decode cC2_init 41 = .ok (.aload_n 0, 1) := by decide +kernel
theorem dC2_init_42 : decode cC2_init 42 = .ok (.bipush 61, 2) := by decide +kernel
theorem dC2_init_44 : decode cC2_init 44 = .ok (.newarray .int, 2) := by decide +kernel
theorem dC2_init_46 : decode cC2_init 46 = .ok (.putfield 28, 3) := by decide +kernel
theorem dC2_init_49 : decode cC2_init 49 = .ok (.aload_n 0, 1) := by decide +kernel
theorem dC2_init_50 : decode cC2_init 50 = .ok (.sipush 244, 3) := by decide +kernel
theorem dC2_init_53 : decode cC2_init 53 = .ok (.newarray .int, 2) := by decide +kernel
theorem dC2_init_55 : decode cC2_init 55 = .ok (.putfield 31, 3) := by decide +kernel
theorem dC2_init_58 : decode cC2_init 58 = .ok (.aload_n 0, 1) := by decide +kernel
theorem dC2_init_59 : decode cC2_init 59 = .ok (.bipush 24, 2) := by decide +kernel
theorem dC2_init_61 : decode cC2_init 61 = .ok (.newarray .int, 2) := by decide +kernel
theorem dC2_init_63 : decode cC2_init 63 = .ok (.putfield 36, 3) := by decide +kernel
theorem dC2_init_66 : decode cC2_init 66 = .ok (.aload_n 0, 1) := by decide +kernel
theorem dC2_init_67 : decode cC2_init 67 = .ok (.getfield 36, 3) := by decide +kernel
theorem dC2_init_70 : decode cC2_init 70 = .ok (.iconst (-1), 1) := by decide +kernel
theorem dC2_init_71 : decode cC2_init 71 = .ok (.invokestatic 39, 3) := by decide +kernel
theorem dC2_init_74 : decode cC2_init 74 = .ok (.return_, 1) := by decide +kernel
theorem dC1_init_0 : decode cC1_init 0 = .ok (.aload_n 0, 1) := by decide +kernel
theorem dC1_init_1 : decode cC1_init 1 = .ok (.invokespecial 5, 3) := by decide +kernel
theorem dC1_init_4 : decode cC1_init 4 = .ok (.aload_n 0, 1) := by decide +kernel
theorem dC1_init_5 : decode cC1_init 5 = .ok (.getstatic 11, 3) := by decide +kernel
theorem dC1_init_8 : decode cC1_init 8 = .ok (.bipush 40, 2) := by decide +kernel
theorem dC1_init_10 : decode cC1_init 10 = .ok (.invokestatic 15, 3) := by decide +kernel
theorem dC1_init_13 : decode cC1_init 13 = .ok (.putfield 21, 3) := by decide +kernel
theorem dC1_init_16 : decode cC1_init 16 = .ok (.aload_n 0, 1) := by decide +kernel
theorem dC1_init_17 : decode cC1_init 17 = .ok (.bipush 24, 2) := by decide +kernel
theorem dC1_init_19 : decode cC1_init 19 = .ok (.newarray .int, 2) := by decide +kernel
theorem dC1_init_21 : decode cC1_init 21 = .ok (.putfield 24, 3) := by decide +kernel
theorem dC1_init_24 : decode cC1_init 24 = .ok (.aload_n 0, 1) := by decide +kernel
theorem dC1_init_25 : decode cC1_init 25 = .ok (.bipush 24, 2) := by decide +kernel
theorem dC1_init_27 : decode cC1_init 27 = .ok (.newarray .boolean, 2) := by decide +kernel
theorem dC1_init_29 : decode cC1_init 29 = .ok (.putfield 28, 3) := by decide +kernel
theorem dC1_init_32 : decode cC1_init 32 = .ok (.return_, 1) := by decide +kernel
theorem dC0_init_0 : decode cC0_init 0 = .ok (.aload_n 0, 1) := by decide +kernel
theorem dC0_init_1 : decode cC0_init 1 = .ok (.invokespecial 1, 3) := by decide +kernel
theorem dC0_init_4 : decode cC0_init 4 = .ok (.aload_n 0, 1) := by decide +kernel
theorem dC0_init_5 : decode cC0_init 5 = .ok (.new 7, 3) := by decide +kernel
theorem dC0_init_8 : decode cC0_init 8 = .ok (.dup, 1) := by decide +kernel
theorem dC0_init_9 : decode cC0_init 9 = .ok (.invokespecial 9, 3) := by decide +kernel
theorem dC0_init_12 : decode cC0_init 12 = .ok (.putfield 10, 3) := by decide +kernel
theorem dC0_init_15 : decode cC0_init 15 = .ok (.aload_n 0, 1) := by decide +kernel
theorem dC0_init_16 : decode cC0_init 16 = .ok (.new 16, 3) := by decide +kernel
theorem dC0_init_19 : decode cC0_init 19 = .ok (.dup, 1) := by decide +kernel
theorem dC0_init_20 : decode cC0_init 20 = .ok (.aload_n 0, 1) := by decide +kernel
theorem dC0_init_21 : decode cC0_init 21 = .ok (.getfield 10, 3) := by decide +kernel
theorem dC0_init_24 : decode cC0_init 24 = .ok (.invokespecial 18, 3) := by decide +kernel
theorem dC0_init_27 : decode cC0_init 27 = .ok (.putfield 21, 3) := by decide +kernel
theorem dC0_init_30 : decode cC0_init 30 = .ok (.aload_n 0, 1) := by decide +kernel
theorem dC0_init_31 : decode cC0_init 31 = .ok (.new 25, 3) := by decide +kernel
theorem dC0_init_34 : decode cC0_init 34 = .ok (.dup, 1) := by decide +kernel
theorem dC0_init_35 : decode cC0_init 35 = .ok (.invokespecial 27, 3) := by decide +kernel
theorem dC0_init_38 : decode cC0_init 38 = .ok (.putfield 28, 3) := by decide +kernel
theorem dC0_init_41 : decode cC0_init 41 = .ok (.aload_n 0, 1) := by decide +kernel
theorem dC0_init_42 : decode cC0_init 42 = .ok (.new 32, 3) := by decide +kernel
theorem dC0_init_45 : decode cC0_init 45 = .ok (.dup, 1) := by decide +kernel
theorem dC0_init_46 : decode cC0_init 46 = .ok (.aload_n 0, 1) := by decide +kernel
theorem dC0_init_47 : decode cC0_init 47 = .ok (.getfield 10, 3) := by decide +kernel
theorem dC0_init_50 : decode cC0_init 50 = .ok (.aload_n 0, 1) := by decide +kernel
theorem dC0_init_51 : decode cC0_init 51 = .ok (.getfield 21, 3) := by decide +kernel
theorem dC0_init_54 : decode cC0_init 54 = .ok (.aload_n 0, 1) := by decide +kernel
theorem dC0_init_55 : decode cC0_init 55 = .ok (.getfield 28, 3) := by decide +kernel
theorem dC0_init_58 : decode cC0_init 58 = .ok (.invokespecial 34, 3) := by decide +kernel
theorem dC0_init_61 : decode cC0_init 61 = .ok (.putfield 37, 3) := by decide +kernel
theorem dC0_init_64 : decode cC0_init 64 = .ok (.aload_n 0, 1) := by decide +kernel
theorem dC0_init_65 : decode cC0_init 65 = .ok (.bipush 60, 2) := by decide +kernel
theorem dC0_init_67 : decode cC0_init 67 = .ok (.newarray .int, 2) := by decide +kernel
theorem dC0_init_69 : decode cC0_init 69 = .ok (.putfield 41, 3) := by decide +kernel
theorem dC0_init_72 : decode cC0_init 72 = .ok (.return_, 1) := by decide +kernel
theorem dCM_init_0 : decode cCM_init 0 = .ok (.aload_n 0, 1) := by decide +kernel
theorem dCM_init_1 : decode cCM_init 1 = .ok (.invokespecial 1, 3) := by decide +kernel
theorem dCM_init_4 : decode cCM_init 4 = .ok (.aload_n 0, 1) := by decide +kernel
theorem dCM_init_5 : decode cCM_init 5 = .ok (.bipush 24, 2) := by decide +kernel
theorem dCM_init_7 : decode cCM_init 7 = .ok (.newarray .boolean, 2) := by decide +kernel
theorem dCM_init_9 : decode cCM_init 9 = .ok (.putfield 7, 3) := by decide +kernel
theorem dCM_init_12 : decode cCM_init 12 = .ok (.aload_n 0, 1) := by decide +kernel
theorem dCM_init_13 : decode cCM_init 13 = .ok (.bipush 24, 2) := by decide +kernel
theorem dCM_init_15 : decode cCM_init 15 = .ok (.newarray .int, 2) := by decide +kernel
theorem dCM_init_17 : decode cCM_init 17 = .ok (.putfield 13, 3) := by decide +kernel
theorem dCM_init_20 : decode cCM_init 20 = .ok (.aload_n 0, 1) := by decide +kernel
theorem dCM_init_21 : decode cCM_init 21 = .ok (.bipush 24, 2) := by decide +kernel
theorem dCM_init_23 : decode cCM_init 23 = .ok (.newarray .int, 2) := by decide +kernel
theorem dCM_init_25 : decode cCM_init 25 = .ok (.putfield 17, 3) := by decide +kernel
theorem dCM_init_28 : decode cCM_init 28 = .ok (.aload_n 0, 1) := by decide +kernel
theorem dCM_init_29 : decode cCM_init 29 = .ok (.bipush 96, 2) := by decide +kernel
theorem dCM_init_31 : decode cCM_init 31 = .ok (.newarray .int, 2) := by decide +kernel
theorem dCM_init_33 : decode cCM_init 33 = .ok (.putfield 20, 3) := by decide +kernel
theorem dCM_init_36 : decode cCM_init 36 = .ok (.aload_n 0, 1) := by decide +kernel
theorem dCM_init_37 : decode cCM_init 37 = .ok (.sipush 576, 3) := by decide +kernel
theorem dCM_init_40 : decode cCM_init 40 = .ok (.newarray .boolean, 2) := by decide +kernel
theorem dCM_init_42 : decode cCM_init 42 = .ok (.putfield 23, 3) := by decide +kernel
theorem dCM_init_45 : decode cCM_init 45 = .ok (.aload_n 0, 1) := by decide +kernel
theorem dCM_init_46 : decode cCM_init 46 = .ok (.bipush 60, 2) := by decide +kernel
theorem dCM_init_48 : decode cCM_init 48 = .ok (.newarray .int, 2) := by decide +kernel
theorem dCM_init_50 : decode cCM_init 50 = .ok (.putfield 26, 3) := by decide +kernel
theorem dCM_init_53 : decode cCM_init 53 = .ok (.aload_n 0, 1) := by decide +kernel
theorem dCM_init_54 : decode cCM_init 54 = .ok (.bipush 60, 2) := by decide +kernel
theorem dCM_init_56 : decode cCM_init 56 = .ok (.newarray .int, 2) := by decide +kernel
theorem dCM_init_58 : decode cCM_init 58 = .ok (.putfield 29, 3) := by decide +kernel
theorem dCM_init_61 : decode cCM_init 61 = .ok (.aload_n 0, 1) := by decide +kernel
theorem dCM_init_62 : decode cCM_init 62 = .ok (.bipush 60, 2) := by decide +kernel
theorem dCM_init_64 : decode cCM_init 64 = .ok (.newarray .int, 2) := by decide +kernel
theorem dCM_init_66 : decode cCM_init 66 = .ok (.putfield 32, 3) := by decide +kernel
theorem dCM_init_69 : decode cCM_init 69 = .ok (.aload_n 0, 1) := by decide +kernel
theorem dCM_init_70 : decode cCM_init 70 = .ok (.bipush 60, 2) := by decide +kernel
theorem dCM_init_72 : decode cCM_init 72 = .ok (.newarray .int, 2) := by decide +kernel
theorem dCM_init_74 : decode cCM_init 74 = .ok (.putfield 35, 3) := by decide +kernel
theorem dCM_init_77 : decode cCM_init 77 = .ok (.aload_n 0, 1) := by decide +kernel
theorem dCM_init_78 : decode cCM_init 78 = .ok (.bipush 60, 2) := by decide +kernel
theorem dCM_init_80 : decode cCM_init 80 = .ok (.newarray .int, 2) := by decide +kernel
theorem dCM_init_82 : decode cCM_init 82 = .ok (.putfield 38, 3) := by decide +kernel
theorem dCM_init_85 : decode cCM_init 85 = .ok (.aload_n 0, 1) := by decide +kernel
theorem dCM_init_86 : decode cCM_init 86 = .ok (.sipush 240, 3) := by decide +kernel
theorem dCM_init_89 : decode cCM_init 89 = .ok (.newarray .int, 2) := by decide +kernel
theorem dCM_init_91 : decode cCM_init 91 = .ok (.putfield 41, 3) := by decide +kernel
theorem dCM_init_94 : decode cCM_init 94 = .ok (.aload_n 0, 1) := by decide +kernel
theorem dCM_init_95 : decode cCM_init 95 = .ok (.iconst 5, 1) := by decide +kernel
theorem dCM_init_96 : decode cCM_init 96 = .ok (.newarray .int, 2) := by decide +kernel
theorem dCM_init_98 : decode cCM_init 98 = .ok (.putfield 44, 3) := by decide +kernel
theorem dCM_init_101 : decode cCM_init 101 = .ok (.aload_n 0, 1) := by decide +kernel
theorem dCM_init_102 : decode cCM_init 102 = .ok (.iconst 5, 1) := by decide +kernel
theorem dCM_init_103 : decode cCM_init 103 = .ok (.newarray .int, 2) := by decide +kernel
theorem dCM_init_105 : decode cCM_init 105 = .ok (.putfield 47, 3) := by decide +kernel
theorem dCM_init_108 : decode cCM_init 108 = .ok (.aload_n 0, 1) := by decide +kernel
theorem dCM_init_109 : decode cCM_init 109 = .ok (.iconst 5, 1) := by decide +kernel
theorem dCM_init_110 : decode cCM_init 110 = .ok (.newarray .int, 2) := by decide +kernel
theorem dCM_init_112 : decode cCM_init 112 = .ok (.putfield 50, 3) := by decide +kernel
theorem dCM_init_115 : decode cCM_init 115 = .ok (.aload_n 0, 1) := by decide +kernel
theorem dCM_init_116 : decode cCM_init 116 = .ok (.bipush 10, 2) := by decide +kernel
theorem dCM_init_118 : decode cCM_init 118 = .ok (.newarray .int, 2) := by decide +kernel
theorem dCM_init_120 : decode cCM_init 120 = .ok (.putfield 53, 3) := by decide +kernel
theorem dCM_init_123 : decode cCM_init 123 = .ok (.aload_n 0, 1) := by decide +kernel
theorem dCM_init_124 : decode cCM_init 124 = .ok (.iconst 5, 1) := by decide +kernel
theorem dCM_init_125 : decode cCM_init 125 = .ok (.newarray .int, 2) := by decide +kernel
theorem dCM_init_127 : decode cCM_init 127 = .ok (.putfield 56, 3) := by decide +kernel
theorem dCM_init_130 : decode cCM_init 130 = .ok (.aload_n 0, 1) := by decide +kernel
theorem dCM_init_131 : decode cCM_init 131 = .ok (.bipush 60, 2) := by decide +kernel
theorem dCM_init_133 : decode cCM_init 133 = .ok (.newarray .boolean, 2) := by decide +kernel
theorem dCM_init_135 : decode cCM_init 135 = .ok (.putfield 59, 3) := by decide +kernel
theorem dCM_init_138 : decode cCM_init 138 = .ok (.aload_n 0, 1) := by decide +kernel
theorem dCM_init_139 : decode cCM_init 139 = .ok (.sipush 3600, 3) := by decide +kernel
theorem dCM_init_142 : decode cCM_init 142 = .ok (.newarray .boolean, 2) := by decide +kernel
theorem dCM_init_144 : decode cCM_init 144 = .ok (.putfield 62, 3) := by decide +kernel
theorem dCM_init_147 : decode cCM_init 147 = .ok (.aload_n 0, 1) := by decide +kernel
theorem dCM_init_148 : decode cCM_init 148 = .ok (.bipush 24, 2) := by decide +kernel
theorem dCM_init_150 : decode cCM_init 150 = .ok (.newarray .int, 2) := by decide +kernel
theorem dCM_init_152 : decode cCM_init 152 = .ok (.putfield 65, 3) := by decide +kernel
theorem dCM_init_155 : decode cCM_init 155 = .ok (.return_, 1) := by decide +kernel
theorem dJA_copyOf_0 : decode cJA_copyOf 0 = .ok (.iload_n 1, 1) := by decide +kernel
theorem dJA_copyOf_1 : decode cJA_copyOf 1 = .ok (.aload_n 0, 1) := by decide +kernel
theorem dJA_copyOf_2 : decode cJA_copyOf 2 = .ok (.arraylength, 1) := by decide +kernel
theorem dJA_copyOf_3 : decode cJA_copyOf 3 = .ok (.if_icmp .ne 11, 3) := by decide +kernel
theorem dJA_copyOf_14 : decode cJA_copyOf 14 = .ok (.iload_n 1, 1) := by decide +kernel
theorem dJA_copyOf_15 : decode cJA_copyOf 15 = .ok (.newarray .long, 2) := by decide +kernel
theorem dJA_copyOf_17 : decode cJA_copyOf 17 = .ok (.astore_n 2, 1) := by decide +kernel
theorem dJA_copyOf_18 : decode cJA_copyOf 18 = .ok (.aload_n 0, 1) := by decide +kernel
theorem dJA_copyOf_19 : decode cJA_copyOf 19 = .ok (.iconst 0, 1) := by decide +kernel
theorem dJA_copyOf_20 : decode cJA_copyOf 20 = .ok (.aload_n 2, 1) := by decide +kernel
theorem dJA_copyOf_21 : decode cJA_copyOf 21 = .ok (.iconst 0, 1) := by decide +kernel
theorem dJA_copyOf_22 : decode cJA_copyOf 22 = .ok (.aload_n 0, 1) := by decide +kernel
theorem dJA_copyOf_23 : decode cJA_copyOf 23 = .ok (.arraylength, 1) := by decide +kernel
theorem dJA_copyOf_24 : decode cJA_copyOf 24 = .ok (.iload_n 1, 1) := by decide +kernel
theorem dJA_copyOf_25 : decode cJA_copyOf 25 = .ok (.invokestatic 304, 3) := by decide +kernel
theorem dJA_copyOf_28 : decode cJA_copyOf 28 = .ok (.invokestatic 150, 3) := by decide +kernel
theorem dJA_copyOf_31 : decode cJA_copyOf 31 = .ok (.aload_n 2, 1) := by decide +kernel
theorem dJA_copyOf_32 : decode cJA_copyOf 32 = .ok (.areturn, 1) := by decide +kernel
end
section
def aW (ad : Nat → Nat) (cA : Nat → ClassId) (σ : xSt) : va_W := [
  (ad 0, .inl (cA 0, 24, .inl (σ.1 0)))]
def aT (cA : Nat → ClassId) : List (ClassId × FieldType) := [(cA 0, .int)]
def aA (ad : Nat → Nat) : Nat → Prop := fun q => ∃ k : Nat, k < 1 ∧ q = ad k
theorem akeys {ad : Nat → Nat} {cA : Nat → ClassId} : ∀ σ σ2 : xSt, (aW ad cA σ).map Prod.fst = (aW ad cA σ2).map Prod.fst := fun _ _ => rfl
abbrev rm_JA_fill_0 : Room := { frames := 0, cells := 0, slots := 0, locals := 0 }
def fJA_fill_0_b5 : Nat → xSt → Int32 → Int32 → Int32 → Option xSt
  | 0, _, _, _, _ => none
  | n + 1, σ, x1, x2, x3 =>
    if x3 ≤ x2 then
      some σ
    else
      if x2 < 0 ∨ 24 ≤ x2.toNatClampNeg then none else
      nm (sI σ 0 x2.toNatClampNeg x1) fun σ2 =>
      fJA_fill_0_b5 n σ2 x1 (x2 + (1 : Int32)) x3
set_option maxHeartbeats 4000000 in
set_option maxRecDepth 100000 in
theorem wJA_fill_0_b5 {p : Program} {l : Launch} {e : Env} {s : State} {m : MethodId} {args : Array Value} {below : List Frame} {meth : Method} {c : Code} {Q : State → Prop} {dC : Nat → ClassId} {dI : Nat → Nat → Nat} {ad : Nat → Nat} {cA : Nat → ClassId} {r : xSt} (C : CallFix p m c cJA_fill 4 s args wAll RJA) (hK : va_K (dC, dI) vwC (aT cA) s) (hend : ∀ (σ : xSt) (H : Heap) (locs : List Loc) (pc : Nat) (ls : Array Slot), σ = r → va_P (dC, dI) vwC (aW ad cA σ) H → va_S (aA ad) s.heap H locs → decode cJA_fill pc = .ok (.return_, 1) → W p l e rm_JA_fill_0 s m args below meth c H locs 0 0 Q (F0 m pc ls [])) :
    ∀ (n : Nat) (σ : xSt) (H : Heap) (locs : List Loc) (x1 : Int32) (x2 : Int32) (x3 : Int32) (ls : Array Slot), va_P (dC, dI) vwC (aW ad cA σ) H → va_D (aA ad) (aW ad cA σ) → va_S (aA ad) s.heap H locs → lv_has ls 4 [(0, .ref (ad 0)), (1, .int (x1)), (2, .int (x2)), (3, .int (x3))] → fJA_fill_0_b5 n σ x1 x2 x3 = some r → W p l e rm_JA_fill_0 s m args below meth c H locs 0 0 Q (F0 m 5 ls []) := by
  obtain ⟨hx, hb, hml, hown, hts⟩ := id C
  intro n
  induction n with
  | zero =>
    intro σ H locs x1 x2 x3 ls hP hD hS hl h
    rw [fJA_fill_0_b5] at h
    cases h
  | succ n ih =>
    intro σ H locs x1 x2 x3 ls hP hD hS hl h
    rw [fJA_fill_0_b5] at h
    refine lv_iload_n hx hb dJA_fill_5 rfl (lv_at hl 2 rfl) ?_
    refine lv_iload_n hx hb dJA_fill_6 rfl (lv_at hl 3 rfl) ?_
    refine lv_icmp_ge (tgt := 20) hx hb dJA_fill_7 (by decide) (fun c3 => ?_) (fun c3 => ?_)
    · have h := (if_pos c3).symm.trans h
      exact hend _ _ _ _ _ (Option.some.inj h) hP hS dJA_fill_20
    · have h := (if_neg c3).symm.trans h
      refine lv_aload_n hx hb dJA_fill_10 rfl (lv_at hl 0 rfl) ?_
      refine lv_iload_n hx hb dJA_fill_11 rfl (lv_at hl 2 rfl) ?_
      refine lv_iload_n hx hb dJA_fill_12 rfl (lv_at hl 1 rfl) ?_
      obtain ⟨b1, h⟩ := gx_nb h
      refine va_iast hx hb hK hP hD hS 0 0 rfl rfl b1 dJA_fill_13 (fun H locs hP hD hS => ?_)
      obtain ⟨σ2, eσ2⟩ : ∃ z, z = sI σ 0 x2.toNatClampNeg x1 := ⟨_, rfl⟩
      have hP : va_P (dC, dI) vwC (aW ad cA σ2) H := by rw [eσ2]; exact hP
      have hD : va_D (aA ad) (aW ad cA σ2) := by rw [eσ2]; exact hD
      have h := nm_at eσ2 h
      refine lv_iinc (v := x2 + (1 : Int32)) (lv' := [(2, .int (x2 + (1 : Int32))), (0, .ref (ad 0)), (1, .int (x1)), (3, .int (x3))]) hx hb dJA_fill_14 hl (k := 2) rfl rfl (by decide) rfl (fun ls hl => ?_)
      refine lv_goto (tgt := 5) hx hb dJA_fill_17 (by decide) ?_
      exact ih _ _ _ _ _ _ _ hP hD hS (lv_sub hl [1, 2, 0, 3] rfl) h
def fJA_fill_0 (σ : xSt) (x1 : Int32) : Option xSt :=
  fJA_fill_0_b5 gF σ x1 (0 : Int32) (24 : Int32)
set_option maxHeartbeats 4000000 in
set_option maxRecDepth 100000 in
theorem wJA_fill_0 {p : Program} {l : Launch} {e : Env} {s : State} {m : MethodId} {args : Array Value} {below : List Frame} {meth : Method} {c : Code} {Q : State → Prop} {dC : Nat → ClassId} {dI : Nat → Nat → Nat} {ad : Nat → Nat} {cA : Nat → ClassId} {r : xSt} (C : CallFix p m c cJA_fill 4 s args wAll RJA) (hK : va_K (dC, dI) vwC (aT cA) s) (hend : ∀ (σ : xSt) (H : Heap) (locs : List Loc) (pc : Nat) (ls : Array Slot), σ = r → va_P (dC, dI) vwC (aW ad cA σ) H → va_S (aA ad) s.heap H locs → decode cJA_fill pc = .ok (.return_, 1) → W p l e rm_JA_fill_0 s m args below meth c H locs 0 0 Q (F0 m pc ls [])) {H : Heap} {locs : List Loc} {σ : xSt} (hP : va_P (dC, dI) vwC (aW ad cA σ) H) (hD : va_D (aA ad) (aW ad cA σ)) (hS : va_S (aA ad) s.heap H locs) {x1 : Int32} (ls : Array Slot) (hl : lv_has ls 4 [(0, .ref (ad 0)), (1, .int (x1))]) (h : fJA_fill_0 σ x1 = some r) : W p l e rm_JA_fill_0 s m args below meth c H locs 0 0 Q (F0 m 0 ls []) := by
  obtain ⟨hx, hb, hml, hown, hts⟩ := id C
  unfold fJA_fill_0 at h
  refine lv_iconst (v := (0 : Int32)) hx hb dJA_fill_0 (by decide) ?_
  refine lv_istore_n (lv' := [(2, .int ((0 : Int32))), (0, .ref (ad 0)), (1, .int (x1))]) hx hb dJA_fill_1 rfl hl (by decide) rfl (fun ls hl => ?_)
  refine lv_aload_n hx hb dJA_fill_2 rfl (lv_at hl 1 rfl) ?_
  refine va_alen (v := (24 : Int32)) hx hb hK hP 0 0 rfl rfl rfl dJA_fill_3 ?_
  refine lv_istore_n (lv' := [(3, .int ((24 : Int32))), (2, .int ((0 : Int32))), (0, .ref (ad 0)), (1, .int (x1))]) hx hb dJA_fill_4 rfl hl (by decide) rfl (fun ls hl => ?_)
  exact wJA_fill_0_b5 C hK hend _ _ _ _ _ _ _ _ hP hD hS (lv_sub hl [2, 3, 1, 0] rfl) h
set_option maxHeartbeats 4000000 in
set_option maxRecDepth 100000 in
theorem kJA_fill_0 (l : Launch) (dC : Nat → ClassId) (dI : Nat → Nat → Nat) (ad : Nat → Nat) (cA : Nat → ClassId) (σ : xSt) (x1 : Int32) (r : xSt) (h : fJA_fill_0 σ x1 = some r) : Met l yJA_fill wsJA_fill rm_JA_fill_0 (va_Pc [.ref (ad 0), .int (x1)] (fun U => va_P (dC, dI) vwC (aW ad cA σ) U.heap ∧ va_K (dC, dI) vwC (aT cA) U ∧ va_D (aA ad) (aW ad cA σ))) (va_Qv (fun u : xSt => u = r) (fun u t => va_P (dC, dI) vwC (aW ad cA u) t.heap) (aA ad)) 0 0 (aA ad) := by
  refine Met.ofW (cc := cJA_fill) (maxL := 4) (ret := none) (by decide) rfl ?_
  intro p e s m args below meth c s₁ B hml hv
  obtain ⟨rfl, hP, hK, hD⟩ := hv
  have hr := B.returns
  have hlocks := B.notSynchronized
  have hl := lv_entry ([.ref (ad 0), .int (x1)]) (n := 4) (Nat.le_of_ble_eq_true rfl)
  rw [lg_entry_eq]
  exact wJA_fill_0 ⟨B.exec, B.bytes, hml, findClass_of_methodNamed B.named, fun w h => atoms_spec (ws := wsJA_fill) B.pre w (List.mem_cons_of_mem _ h)⟩ hK (fun σ H locs pc ls hv hP hS hd => W.vret B.exec B.bytes hr (fun t ht hW => ⟨⟨σ, rfl, hv, by show va_P _ _ _ t.heap; rw [ht]; exact hP⟩, hS.F ht⟩) hS.2.2 hd) hP hD va_S.rf _ hl h
def tabF : Nat → Int64 := fun j => match j with
  | 0 => 1
  | 1 => 14
  | 2 => 12
  | 3 => 8
  | 4 => 272
  | 5 => 800
  | 6 => 832
  | 7 => 896
  | 8 => 256
  | 9 => 768
  | 10 => 1099511564272
  | _ => 0
theorem tabF_big {k : Nat} (h : 11 ≤ k) : tabF k = 0 := by
  unfold tabF
  match k, h with
  | k + 11, _ => rfl
theorem tabF_cpy : va_cpy tabF (fun _ => (0 : Int64)) 0 0 11 = tabF := by
  funext k
  unfold va_cpy
  by_cases h : 0 ≤ k ∧ k < 0 + 11
  · rw [if_pos h]
    congr 1
    omega
  · rw [if_neg h, tabF_big (by omega)]
def fill0 : xSt := (fun _ _ => 0, fun _ _ => 0)
def fillN : Nat → xSt
  | 0 => fill0
  | n + 1 => sI (fillN n) 0 n (-1)
def fill1 : xSt := fillN 24
theorem fill_loop : ∀ (d i n : Nat), i + d = 24 → d < n → fJA_fill_0_b5 n (fillN i) (-1) (nI i) (24 : Int32) = some fill1 := by
  intro d
  induction d with
  | zero =>
    intro i n hi hn
    obtain ⟨n, rfl⟩ : ∃ z, n = z + 1 := ⟨n - 1, by omega⟩
    have e : i = 24 := by omega
    subst e
    rw [fJA_fill_0_b5]
    rfl
  | succ d ih =>
    intro i n hi hn
    obtain ⟨n, rfl⟩ : ∃ z, n = z + 1 := ⟨n - 1, by omega⟩
    rw [fJA_fill_0_b5]
    have c1 : ¬ (24 : Int32) ≤ nI i := nI_ge (a := i) (b := 24) (by omega) (by omega)
    rw [if_neg c1, if_neg (vp_in_nI (n := i) (N := 24) (by omega) (by omega))]
    have e : (nI i).toNatClampNeg = i := nI_clamp (by omega)
    rw [e]
    have h := ih (i + 1) n (by omega) (by omega)
    rw [nI_succ] at h
    exact h
theorem fill_ok : fJA_fill_0 fill0 (-1) = some fill1 := fill_loop 24 0 gF (by omega) (by unfold gF; omega)
theorem gx_pick {A : Nat → Prop} {ws ws' : va_W} (_hD : va_D A ws) (is : List Nat) (hs : is.map (fun i => ws[i]?) = ws'.map some) : ∀ (k : Nat) (q : Nat × va_E), ws'[k]? = some q → ∃ j, ws[j]? = some q ∧ j ∈ is := by
  intro k q hq
  have e : (ws'.map some)[k]? = some (some q) := by rw [List.getElem?_map, hq]; rfl
  rw [← hs, List.getElem?_map] at e
  cases hi : is[k]? with
  | none => rw [hi] at e; cases e
  | some j =>
    rw [hi] at e
    exact ⟨j, Option.some.inj e, List.mem_of_getElem? hi⟩
section COPYT
variable {p : Program} {l : Launch} {e : Env} {R : Room} {s : State} {m : MethodId} {args : Array Value} {below : List Frame} {meth : Method} {c : Code} {H : Heap} {locs : List Loc} {cells slots : Nat} {Q : State → Prop}
variable {cc : ByteArray} {pc : Nat} {ls : Array Slot} {rest : List Value} {D : va_G} {cl : List vw_C} {A : Nat → Prop} {a : Nat} {tys : List (ClassId × FieldType)} {ws : va_W}
/-- a stretch of a static table of longs, copied into an array of ours -/
theorem gx_copyt (hexec : p.tables.exec = Jvm.exec) (hb : c.code = cc) (hml : c.maxLocals = ls.size) {own : String} {index : Nat} (hown : s.vm.findClass own = some m.cls) (hlink : (Cond.methodLink own index arraycopyName).before args s = true) (hnat : (Cond.native arraycopyName).before args s = true) (hstat : (Cond.static arraycopyName).before args s = true) (hini : (Cond.initialized "java/lang/System").before args s = true)
    (hK : va_K D cl tys s) (hP : va_P D cl ws H) (hD : va_D A ws) (hS : va_S A s.heap H locs) {t0 n0 : Nat} {f : Nat → Int64} (hT : va_T .long t0 n0 (fun j => .long (f j)) A s s.heap) (q1 t1 : Nat) {c1 : ClassId} {n1 : Nat} {g : Nat → Int64} (ha1 : ws[q1]? = some (a, .inl (c1, n1, .inr (.inl g)))) (ht1 : tys[t1]? = some (c1, .long))
    {n : Int32} {N : Nat} (hN : n.toInt = (N : Int)) (hNc : n.toNatClampNeg = N) (h4 : N ≤ n0) (h5 : N ≤ n1) (hframes : 1 ≤ R.frames) (hlocals : (rest.map fun v => v.category).sum + (nativeFrameWords "java/lang/System" "arraycopy" 5 + 11) ≤ R.locals) (hdg : decode cc pc = .ok (.invokestatic index, 3))
    (kk : ∀ (H1 : Heap) (locs1 : List Loc), va_P D cl (ws.set q1 (a, .inl (c1, n1, .inr (.inl (va_cpy f g 0 0 N))))) H1 → va_D A (ws.set q1 (a, .inl (c1, n1, .inr (.inl (va_cpy f g 0 0 N))))) → va_S A s.heap H1 locs1 → W p l e R s m args below meth c H1 locs1 cells slots Q (F0 m (pc + 3) ls rest)) : W p l e R s m args below meth c H locs cells slots Q (F0 m pc ls (.int n :: .int 0 :: .ref a :: .int 0 :: .ref t0 :: rest)) := by
  intro T hTT X
  obtain ⟨cs, hs1, ⟨hs6, k0, hk0, cm0, hkk0⟩, hs3, hs4, -, hs5, hs7⟩ := hT
  have hc0 : H[t0]? = some cs := by rw [hS.2.1 t0 (Array.getElem?_eq_some_iff.mp hs1).1 hs7]; exact hs1
  have hc1 : H[a]? = some (vp_cell c1 (n1, .inr (.inl g))) := hP q1 _ ha1
  obtain ⟨-, k1, hk1, cm1, hkk1⟩ := (hK.2 t1 _ ht1).1 n1 (fun j => .long (g j))
  have h0 : ¬ (0 : Int32) < 0 := by decide
  have hn0 : ¬ n < 0 := by
    intro h
    have h2 := Int32.lt_iff_toInt_lt.mp h
    have h3 : (0 : Int32).toInt = 0 := by decide
    omega
  have z0 : (0 : Int32).toInt = 0 := by decide
  have zc : (0 : Int32).toNatClampNeg = 0 := by decide
  obtain ⟨vm', X', step⟩ := X.arraycopy hexec hown hlink hnat hstat hini (src := t0) (dst := a) (cs := cs) (cd := vp_cell c1 (n1, .inr (.inl g))) (srcPos := 0) (destPos := 0) (n := n) (by rw [hTT]; exact hc0) (by rw [hTT]; exact hc1)
    hs6 (fun _ h => by cases h) hs3 (fun h => by cases h) hk0 hk1 hkk0 hkk1 (by simp [refKind]) h0 h0 hn0
    (by rw [z0, hN]; omega)
    (by rw [z0, hN]; show ¬ _ > ((arrV c1 n1 (fun j => .long (g j))).slots.size : Int); rw [arrV_size]; omega)
    (fun vm₁ _ i hi => by
      have ev : cs.slots.getD ((0 : Int32).toNatClampNeg + i) .null = .long (f ((0 : Int32).toNatClampNeg + i)) := by
        rw [Array.getD_eq_getD_getElem?, hs5 _ (by rw [zc]; omega)]
        rfl
      refine ⟨?_, ?_⟩
      · rw [ev]
        rfl
      · rw [ev]
        exact trivial)
    (g := F0 m pc ls (.int n :: .int 0 :: .ref a :: .int 0 :: .ref t0 :: rest)) rfl (by rw [hml]) (rest := rest) rfl (by rw [hb]; exact hdg) hframes (by show 2 * 0 + _ + _ ≤ _; omega)
  have e1 : copied cs (vp_cell c1 (n1, .inr (.inl g))) 0 0 n = vp_cell c1 (n1, .inr (.inl (va_cpy f g 0 0 N))) := by
    have := va_copiedX (fun z => Value.long z) cs c1 (n1 := n1) (sp := 0) (dp := 0) (n := N) f g hs5 (by omega)
    rw [← hNc] at this ⊢
    exact this
  rw [e1] at X' step
  generalize vp_cell c1 (n1, .inr (.inl (va_cpy f g 0 0 N))) = nc at X' step e1
  subst e1
  have hl : a < H.size := (Array.getElem?_eq_some_iff.mp hc1).1
  have e2 : copied cs (vp_cell c1 (n1, .inr (.inl g))) 0 0 n = vp_cell c1 (n1, .inr (.inl (va_cpy f g 0 0 N))) := by
    have := va_copiedX (fun z => Value.long z) cs c1 (n1 := n1) (sp := 0) (dp := 0) (n := N) f g hs5 (by omega)
    rw [← hNc] at this ⊢
    exact this
  have oq : ∀ q : Nat, q ≠ a → (H.setIfInBounds a (copied cs (vp_cell c1 (n1, .inr (.inl g))) 0 0 n))[q]? = H[q]? := fun q hq => by simp [Array.getElem?_setIfInBounds, Ne.symm hq]
  obtain ⟨t, a1, b1⟩ := kk (H.setIfInBounds a (copied cs (vp_cell c1 (n1, .inr (.inl g))) 0 0 n)) _ (hP.set hD ha1 (show (H.setIfInBounds a _)[a]? = some _ by rw [e2]; simp [Array.getElem?_setIfInBounds, hl]) oq) (hD.set ha1) ⟨by simp; exact hS.1, fun q g1 g2 => by
      rw [oq q (fun e => g2 (by rw [e]; exact hD.2 q1 _ ha1))]
      exact hS.2.1 q g1 g2, fun q hq => by
      rcases List.mem_append.mp hq with h | h
      · exact hS.2.2 q h
      · obtain ⟨z, -, hz⟩ := List.mem_map.mp h
        rw [← hz]
        exact hD.2 q1 _ ha1⟩ _ (by rw [← hTT]; rfl) X'
  exact ⟨t, step t a1, b1⟩
end COPYT
set_option maxHeartbeats 4000000 in
set_option maxRecDepth 100000 in
theorem kJA_copyOf (l : Launch) (dC : Nat → ClassId) (dI : Nat → Nat → Nat) (t0 sz : Nat) : Met l yJA_copyOf wsJA_copyOf ({ frames := 1, cells := 1, slots := 40, locals := 80 }) (va_Pc [.ref t0, .int 40] (fun U => U.heap.size = sz ∧ va_K (dC, dI) vwC [] U ∧ va_T .long t0 11 (fun j => .long (tabF j)) (fun q => sz ≤ q) U U.heap)) (va_Qr (fun (_ : Unit) => True) (fun (_ : Unit) a t => ∃ c1 : ClassId, va_P (dC, dI) vwC [(a, .inl (c1, 40, .inr (.inl tabF)))] t.heap ∧ va_K (dC, dI) vwC [(c1, .long)] t ∧ va_D (fun q => sz ≤ q) [(a, .inl (c1, 40, .inr (.inl tabF)))]) (fun q => sz ≤ q)) 1 40 (fun q => sz ≤ q) := by
  refine Met.ofW (cc := cJA_copyOf) (maxL := 3) (ret := some (.array .long)) (by decide) rfl ?_
  intro p e s m args below meth c s₁ B hml hv
  obtain ⟨rfl, hsz, hK, hT⟩ := hv
  have hx := B.exec
  have hb := B.bytes
  have hr := B.returns
  have hts : ∀ w ∈ wAll, w.before _ s = true := fun w h => atoms_spec (ws := wsJA_copyOf) B.pre w (List.mem_cons_of_mem _ h)
  have hown : s.vm.findClass RJA = some m.cls := findClass_of_methodNamed B.named
  have hlocks := B.notSynchronized
  subst hsz
  have hA : ∀ q : Nat, s.heap.size ≤ q → (fun q : Nat => s.heap.size ≤ q) q := fun _ h => h
  have hS : va_S (fun q : Nat => s.heap.size ≤ q) s.heap s.heap [] := va_S.rf
  have hP : va_P (dC, dI) vwC [] s.heap := fun k q h => by simp at h
  have hD : va_D (fun q : Nat => s.heap.size ≤ q) [] := ⟨fun i j p q h => by simp at h, fun k q h => by simp at h⟩
  have hl := lv_entry ([.ref t0, .int 40]) (n := 3) (Nat.le_of_ble_eq_true rfl)
  rw [lg_entry_eq]
  generalize (lg_sl ([.ref t0, .int 40]) ++ List.replicate (3 - (lg_sl ([.ref t0, .int 40])).length) Slot.unset).toArray = ls at hl ⊢
  have hl : lv_has ls 3 [(0, .ref t0), (1, .int 40)] := hl
  refine lv_iload_n hx hb dJA_copyOf_0 rfl (lv_at hl 1 rfl) ?_
  refine lv_aload_n hx hb dJA_copyOf_1 rfl (lv_at hl 0 rfl) ?_
  refine va_tlen (v := (11 : Int32)) hx hb hT hS rfl dJA_copyOf_2 ?_
  refine lv_icmp_ne (tgt := 14) hx hb dJA_copyOf_3 (by decide) (fun _ => ?_) (fun c9 => absurd c9 (by decide))
  refine lv_iload_n hx hb dJA_copyOf_14 rfl (lv_at hl 1 rfl) ?_
  refine va_newa (atype := .long) (N' := 40) (a0 := (40, .inr (.inl (fun _ => (0 : Int64))))) hx hb (hts _ mw_632) rfl hK hP hD hS hA (fun cA => rfl) (by decide) (by decide) (by decide) (Nat.le_of_ble_eq_true rfl) (Nat.le_of_ble_eq_true rfl) dJA_copyOf_15 (fun q1 c1 H hK hP hD hS => ?_)
  have hP : va_P (dC, dI) vwC [(q1, .inl (c1, 40, .inr (.inl (fun _ => (0 : Int64)))))] H := hP
  have hD : va_D (fun q : Nat => s.heap.size ≤ q) [(q1, .inl (c1, 40, .inr (.inl (fun _ => (0 : Int64)))))] := hD
  have hK : va_K (dC, dI) vwC [(c1, .long)] s := hK
  refine W.widen (k := 1) (n := 40) (Nat.le_of_ble_eq_true rfl) (Nat.le_of_ble_eq_true rfl) ?_
  refine lv_astore_n (lv' := [(2, .ref q1), (0, .ref t0), (1, .int 40)]) hx hb dJA_copyOf_17 rfl hl (by decide) rfl (fun ls hl => ?_)
  refine lv_aload_n hx hb dJA_copyOf_18 rfl (lv_at hl 1 rfl) ?_
  refine lv_iconst (v := (0 : Int32)) hx hb dJA_copyOf_19 (by decide) ?_
  refine lv_aload_n hx hb dJA_copyOf_20 rfl (lv_at hl 0 rfl) ?_
  refine lv_iconst (v := (0 : Int32)) hx hb dJA_copyOf_21 (by decide) ?_
  refine lv_aload_n hx hb dJA_copyOf_22 rfl (lv_at hl 1 rfl) ?_
  refine va_tlen (v := (11 : Int32)) hx hb hT hS rfl dJA_copyOf_23 ?_
  refine lv_iload_n hx hb dJA_copyOf_24 rfl (lv_at hl 2 rfl) ?_
  refine va_mmin hx hb (by rw [hml]; exact hl.1.symm) hown (hts _ mw_624) (hts _ mw_625) (hts _ mw_626) (hts _ mw_627) (Nat.le_of_ble_eq_true rfl) (Nat.le_of_ble_eq_true rfl) (Nat.le_of_ble_eq_true rfl) (Nat.le_of_ble_eq_true rfl) dJA_copyOf_25 ?_
  rw [if_neg (show ¬ (40 : Int32) < 11 by decide)]
  refine gx_copyt hx hb (by rw [hml]; exact hl.1.symm) hown (hts _ mw_628) (hts _ mw_629) (hts _ mw_630) (hts _ mw_631) hK hP hD hS hT 0 0 rfl rfl (N := 11) (by decide) (by decide) (by decide) (by decide) (Nat.le_of_ble_eq_true rfl) (Nat.le_of_ble_eq_true rfl) dJA_copyOf_28 (fun H locs hP hD hS => ?_)
  rw [tabF_cpy] at hP hD
  have hP : va_P (dC, dI) vwC [(q1, .inl (c1, 40, .inr (.inl tabF)))] H := hP
  have hD : va_D (fun q : Nat => s.heap.size ≤ q) [(q1, .inl (c1, 40, .inr (.inl tabF)))] := hD
  refine lv_aload_n hx hb dJA_copyOf_31 rfl (lv_at hl 0 rfl) ?_
  exact W.aret (v := .ref q1) hx hb hr (Or.inr ⟨_, rfl⟩) (Or.inr ⟨_, rfl⟩) (fun t ht hW => ⟨⟨(), q1, rfl, trivial, c1, by rw [ht]; exact hP, va_K.moved hW.alike hK, hD⟩, hS.F ht⟩) hS.2.2 dJA_copyOf_32
end
section
set_option maxHeartbeats 8000000 in
set_option maxRecDepth 100000 in
theorem kC3_init (l : Launch) (dC : Nat → ClassId) (dI : Nat → Nat → Nat) (h0 sz : Nat) : Met l yC3_init wsC3_init ({ frames := 1, cells := 5, slots := 30, locals := 12 }) (va_Pc [.ref h0] (fun U => U.heap.size = sz ∧ va_P (dC, dI) vwC [(h0, .inr (3, [.null, .null, .null, .null, .null, .int 0]))] U.heap ∧ va_K (dC, dI) vwC [] U ∧ va_D (fun _ => True) [(h0, .inr (3, [.null, .null, .null, .null, .null, .int 0]))])) (va_Qv (fun (_ : Unit) => True) (fun (_ : Unit) t => ∃ (q1 q2 q3 q4 q5 : Nat) (c1 c2 c3 c4 c5 : ClassId), va_P (dC, dI) vwC [(h0, .inr (3, [.ref q1, .ref q2, .ref q3, .ref q4, .ref q5, .int 0])), (q1, .inl (c1, 5, .inl (fun _ => (0 : Int32)))), (q2, .inl (c2, 5, .inl (fun _ => (0 : Int32)))), (q3, .inl (c3, 5, .inl (fun _ => (0 : Int32)))), (q4, .inl (c4, 5, .inl (fun _ => (0 : Int32)))), (q5, .inl (c5, 10, .inl (fun _ => (0 : Int32))))] t.heap ∧ va_K (dC, dI) vwC [(c1, .boolean), (c2, .boolean), (c3, .int), (c4, .int), (c5, .int)] t ∧ va_D (va_A [(h0, .inr (3, [.null, .null, .null, .null, .null, .int 0]))] sz) [(h0, .inr (3, [.ref q1, .ref q2, .ref q3, .ref q4, .ref q5, .int 0])), (q1, .inl (c1, 5, .inl (fun _ => (0 : Int32)))), (q2, .inl (c2, 5, .inl (fun _ => (0 : Int32)))), (q3, .inl (c3, 5, .inl (fun _ => (0 : Int32)))), (q4, .inl (c4, 5, .inl (fun _ => (0 : Int32)))), (q5, .inl (c5, 10, .inl (fun _ => (0 : Int32))))]) (va_A [(h0, .inr (3, [.null, .null, .null, .null, .null, .int 0]))] sz)) 5 30 (va_A [(h0, .inr (3, [.null, .null, .null, .null, .null, .int 0]))] sz) := by
  refine Met.ofW (cc := cC3_init) (maxL := 1) (ret := none) (by decide) rfl ?_
  intro p e s m args below meth c s₁ B hml hv
  obtain ⟨rfl, hsz, hP, hK, hD0⟩ := hv
  have hx := B.exec
  have hb := B.bytes
  have hr := B.returns
  have hts : ∀ w ∈ wAll, w.before _ s = true := fun w h => atoms_spec (ws := wsC3_init) B.pre w (List.mem_cons_of_mem _ h)
  have hown : s.vm.findClass RC3 = some m.cls := findClass_of_methodNamed B.named
  have hlocks := B.notSynchronized
  have hin : meth.name = "<init>" := (name_of_methodNamed B.named B.method).1
  subst hsz
  have hD := hD0.self (sz := s.heap.size)
  generalize hAe : va_A [(h0, .inr (3, [.null, .null, .null, .null, .null, .int 0]))] s.heap.size = A at hD ⊢
  have hA : ∀ q : Nat, s.heap.size ≤ q → A q := fun q h => by rw [← hAe]; exact Or.inr h
  have hS : va_S A s.heap s.heap [] := va_S.rf
  have hl := lv_entry ([.ref h0]) (n := 1) (Nat.le_of_ble_eq_true rfl)
  rw [lg_entry_eq]
  generalize (lg_sl ([.ref h0]) ++ List.replicate (1 - (lg_sl ([.ref h0])).length) Slot.unset).toArray = ls at hl ⊢
  have hl : lv_has ls 1 [(0, .ref h0)] := hl
  refine lv_aload_n hx hb dC3_init_0 rfl (lv_at hl 0 rfl) ?_
  refine W.objInit hx hb hown (hts _ mw_633) (hts _ mw_634) (hts _ mw_623) rfl (by rw [hml]; exact hl.1) rfl dC3_init_1 (Nat.le_of_ble_eq_true rfl) (Nat.le_of_ble_eq_true rfl) ?_
  refine W.eq (g2 := F0 m 4 ls []) rfl ?_
  refine lv_aload_n hx hb dC3_init_4 rfl (lv_at hl 0 rfl) ?_
  refine lv_iconst (v := (5 : Int32)) hx hb dC3_init_5 (by decide) ?_
  refine va_newa (atype := .boolean) (N' := 5) (a0 := (5, .inl (fun _ => (0 : Int32)))) hx hb (hts _ mw_635) rfl hK hP hD hS hA (fun cA => rfl) (by decide) (by decide) (by decide) (Nat.le_of_ble_eq_true rfl) (Nat.le_of_ble_eq_true rfl) dC3_init_6 (fun q1 c1 H hK hP hD hS => ?_)
  have hP : va_P (dC, dI) vwC [(h0, .inr (3, [.null, .null, .null, .null, .null, .int 0])), (q1, .inl (c1, 5, .inl (fun _ => (0 : Int32))))] H := hP
  have hD : va_D A [(h0, .inr (3, [.null, .null, .null, .null, .null, .int 0])), (q1, .inl (c1, 5, .inl (fun _ => (0 : Int32))))] := hD
  have hK : va_K (dC, dI) vwC [(c1, .boolean)] s := hK
  refine W.widen (k := 1) (n := 5) (Nat.le_of_ble_eq_true rfl) (Nat.le_of_ble_eq_true rfl) ?_
  refine va_putF (D := (dC, dI)) (ci := 3) (v := .ref q1) (ty := .array .boolean) (C := RC3) (T := TC3) (N := 6) hx hb hts inC3 tyC3 tyC3_ok nnC3 hown hK hP hD hS 0 rfl rfl 0 (by decide) (hts _ mw_177) (fun _ h9 => h9) rfl hin rfl (by decide +kernel) rfl rfl (Nat.le_of_ble_eq_true rfl) dC3_init_8 (fun H locs hP hD hS => ?_)
  have hP : va_P (dC, dI) vwC [(h0, .inr (3, [.ref q1, .null, .null, .null, .null, .int 0])), (q1, .inl (c1, 5, .inl (fun _ => (0 : Int32))))] H := hP
  have hD : va_D A [(h0, .inr (3, [.ref q1, .null, .null, .null, .null, .int 0])), (q1, .inl (c1, 5, .inl (fun _ => (0 : Int32))))] := hD
  refine lv_aload_n hx hb dC3_init_11 rfl (lv_at hl 0 rfl) ?_
  refine lv_iconst (v := (5 : Int32)) hx hb dC3_init_12 (by decide) ?_
  refine va_newa (atype := .boolean) (N' := 5) (a0 := (5, .inl (fun _ => (0 : Int32)))) hx hb (hts _ mw_635) rfl hK hP hD hS hA (fun cA => rfl) (by decide) (by decide) (by decide) (Nat.le_of_ble_eq_true rfl) (Nat.le_of_ble_eq_true rfl) dC3_init_13 (fun q2 c2 H hK hP hD hS => ?_)
  have hP : va_P (dC, dI) vwC [(h0, .inr (3, [.ref q1, .null, .null, .null, .null, .int 0])), (q1, .inl (c1, 5, .inl (fun _ => (0 : Int32)))), (q2, .inl (c2, 5, .inl (fun _ => (0 : Int32))))] H := hP
  have hD : va_D A [(h0, .inr (3, [.ref q1, .null, .null, .null, .null, .int 0])), (q1, .inl (c1, 5, .inl (fun _ => (0 : Int32)))), (q2, .inl (c2, 5, .inl (fun _ => (0 : Int32))))] := hD
  have hK : va_K (dC, dI) vwC [(c1, .boolean), (c2, .boolean)] s := hK
  refine W.widen (k := 2) (n := 10) (Nat.le_of_ble_eq_true rfl) (Nat.le_of_ble_eq_true rfl) ?_
  refine va_putF (D := (dC, dI)) (ci := 3) (v := .ref q2) (ty := .array .boolean) (C := RC3) (T := TC3) (N := 6) hx hb hts inC3 tyC3 tyC3_ok nnC3 hown hK hP hD hS 0 rfl rfl 1 (by decide) (hts _ mw_178) (fun _ h9 => h9) rfl hin rfl (by decide +kernel) rfl rfl (Nat.le_of_ble_eq_true rfl) dC3_init_15 (fun H locs hP hD hS => ?_)
  have hP : va_P (dC, dI) vwC [(h0, .inr (3, [.ref q1, .ref q2, .null, .null, .null, .int 0])), (q1, .inl (c1, 5, .inl (fun _ => (0 : Int32)))), (q2, .inl (c2, 5, .inl (fun _ => (0 : Int32))))] H := hP
  have hD : va_D A [(h0, .inr (3, [.ref q1, .ref q2, .null, .null, .null, .int 0])), (q1, .inl (c1, 5, .inl (fun _ => (0 : Int32)))), (q2, .inl (c2, 5, .inl (fun _ => (0 : Int32))))] := hD
  refine lv_aload_n hx hb dC3_init_18 rfl (lv_at hl 0 rfl) ?_
  refine lv_iconst (v := (5 : Int32)) hx hb dC3_init_19 (by decide) ?_
  refine va_newa (atype := .int) (N' := 5) (a0 := (5, .inl (fun _ => (0 : Int32)))) hx hb (hts _ mw_636) rfl hK hP hD hS hA (fun cA => rfl) (by decide) (by decide) (by decide) (Nat.le_of_ble_eq_true rfl) (Nat.le_of_ble_eq_true rfl) dC3_init_20 (fun q3 c3 H hK hP hD hS => ?_)
  have hP : va_P (dC, dI) vwC [(h0, .inr (3, [.ref q1, .ref q2, .null, .null, .null, .int 0])), (q1, .inl (c1, 5, .inl (fun _ => (0 : Int32)))), (q2, .inl (c2, 5, .inl (fun _ => (0 : Int32)))), (q3, .inl (c3, 5, .inl (fun _ => (0 : Int32))))] H := hP
  have hD : va_D A [(h0, .inr (3, [.ref q1, .ref q2, .null, .null, .null, .int 0])), (q1, .inl (c1, 5, .inl (fun _ => (0 : Int32)))), (q2, .inl (c2, 5, .inl (fun _ => (0 : Int32)))), (q3, .inl (c3, 5, .inl (fun _ => (0 : Int32))))] := hD
  have hK : va_K (dC, dI) vwC [(c1, .boolean), (c2, .boolean), (c3, .int)] s := hK
  refine W.widen (k := 3) (n := 15) (Nat.le_of_ble_eq_true rfl) (Nat.le_of_ble_eq_true rfl) ?_
  refine va_putF (D := (dC, dI)) (ci := 3) (v := .ref q3) (ty := .array .int) (C := RC3) (T := TC3) (N := 6) hx hb hts inC3 tyC3 tyC3_ok nnC3 hown hK hP hD hS 0 rfl rfl 2 (by decide) (hts _ mw_179) (fun _ h9 => h9) rfl hin rfl (by decide +kernel) rfl rfl (Nat.le_of_ble_eq_true rfl) dC3_init_22 (fun H locs hP hD hS => ?_)
  have hP : va_P (dC, dI) vwC [(h0, .inr (3, [.ref q1, .ref q2, .ref q3, .null, .null, .int 0])), (q1, .inl (c1, 5, .inl (fun _ => (0 : Int32)))), (q2, .inl (c2, 5, .inl (fun _ => (0 : Int32)))), (q3, .inl (c3, 5, .inl (fun _ => (0 : Int32))))] H := hP
  have hD : va_D A [(h0, .inr (3, [.ref q1, .ref q2, .ref q3, .null, .null, .int 0])), (q1, .inl (c1, 5, .inl (fun _ => (0 : Int32)))), (q2, .inl (c2, 5, .inl (fun _ => (0 : Int32)))), (q3, .inl (c3, 5, .inl (fun _ => (0 : Int32))))] := hD
  refine lv_aload_n hx hb dC3_init_25 rfl (lv_at hl 0 rfl) ?_
  refine lv_iconst (v := (5 : Int32)) hx hb dC3_init_26 (by decide) ?_
  refine va_newa (atype := .int) (N' := 5) (a0 := (5, .inl (fun _ => (0 : Int32)))) hx hb (hts _ mw_636) rfl hK hP hD hS hA (fun cA => rfl) (by decide) (by decide) (by decide) (Nat.le_of_ble_eq_true rfl) (Nat.le_of_ble_eq_true rfl) dC3_init_27 (fun q4 c4 H hK hP hD hS => ?_)
  have hP : va_P (dC, dI) vwC [(h0, .inr (3, [.ref q1, .ref q2, .ref q3, .null, .null, .int 0])), (q1, .inl (c1, 5, .inl (fun _ => (0 : Int32)))), (q2, .inl (c2, 5, .inl (fun _ => (0 : Int32)))), (q3, .inl (c3, 5, .inl (fun _ => (0 : Int32)))), (q4, .inl (c4, 5, .inl (fun _ => (0 : Int32))))] H := hP
  have hD : va_D A [(h0, .inr (3, [.ref q1, .ref q2, .ref q3, .null, .null, .int 0])), (q1, .inl (c1, 5, .inl (fun _ => (0 : Int32)))), (q2, .inl (c2, 5, .inl (fun _ => (0 : Int32)))), (q3, .inl (c3, 5, .inl (fun _ => (0 : Int32)))), (q4, .inl (c4, 5, .inl (fun _ => (0 : Int32))))] := hD
  have hK : va_K (dC, dI) vwC [(c1, .boolean), (c2, .boolean), (c3, .int), (c4, .int)] s := hK
  refine W.widen (k := 4) (n := 20) (Nat.le_of_ble_eq_true rfl) (Nat.le_of_ble_eq_true rfl) ?_
  refine va_putF (D := (dC, dI)) (ci := 3) (v := .ref q4) (ty := .array .int) (C := RC3) (T := TC3) (N := 6) hx hb hts inC3 tyC3 tyC3_ok nnC3 hown hK hP hD hS 0 rfl rfl 3 (by decide) (hts _ mw_180) (fun _ h9 => h9) rfl hin rfl (by decide +kernel) rfl rfl (Nat.le_of_ble_eq_true rfl) dC3_init_29 (fun H locs hP hD hS => ?_)
  have hP : va_P (dC, dI) vwC [(h0, .inr (3, [.ref q1, .ref q2, .ref q3, .ref q4, .null, .int 0])), (q1, .inl (c1, 5, .inl (fun _ => (0 : Int32)))), (q2, .inl (c2, 5, .inl (fun _ => (0 : Int32)))), (q3, .inl (c3, 5, .inl (fun _ => (0 : Int32)))), (q4, .inl (c4, 5, .inl (fun _ => (0 : Int32))))] H := hP
  have hD : va_D A [(h0, .inr (3, [.ref q1, .ref q2, .ref q3, .ref q4, .null, .int 0])), (q1, .inl (c1, 5, .inl (fun _ => (0 : Int32)))), (q2, .inl (c2, 5, .inl (fun _ => (0 : Int32)))), (q3, .inl (c3, 5, .inl (fun _ => (0 : Int32)))), (q4, .inl (c4, 5, .inl (fun _ => (0 : Int32))))] := hD
  refine lv_aload_n hx hb dC3_init_32 rfl (lv_at hl 0 rfl) ?_
  refine lv_bipush (v := (10 : Int32)) hx hb dC3_init_33 (by decide) ?_
  refine va_newa (atype := .int) (N' := 10) (a0 := (10, .inl (fun _ => (0 : Int32)))) hx hb (hts _ mw_636) rfl hK hP hD hS hA (fun cA => rfl) (by decide) (by decide) (by decide) (Nat.le_of_ble_eq_true rfl) (Nat.le_of_ble_eq_true rfl) dC3_init_35 (fun q5 c5 H hK hP hD hS => ?_)
  have hP : va_P (dC, dI) vwC [(h0, .inr (3, [.ref q1, .ref q2, .ref q3, .ref q4, .null, .int 0])), (q1, .inl (c1, 5, .inl (fun _ => (0 : Int32)))), (q2, .inl (c2, 5, .inl (fun _ => (0 : Int32)))), (q3, .inl (c3, 5, .inl (fun _ => (0 : Int32)))), (q4, .inl (c4, 5, .inl (fun _ => (0 : Int32)))), (q5, .inl (c5, 10, .inl (fun _ => (0 : Int32))))] H := hP
  have hD : va_D A [(h0, .inr (3, [.ref q1, .ref q2, .ref q3, .ref q4, .null, .int 0])), (q1, .inl (c1, 5, .inl (fun _ => (0 : Int32)))), (q2, .inl (c2, 5, .inl (fun _ => (0 : Int32)))), (q3, .inl (c3, 5, .inl (fun _ => (0 : Int32)))), (q4, .inl (c4, 5, .inl (fun _ => (0 : Int32)))), (q5, .inl (c5, 10, .inl (fun _ => (0 : Int32))))] := hD
  have hK : va_K (dC, dI) vwC [(c1, .boolean), (c2, .boolean), (c3, .int), (c4, .int), (c5, .int)] s := hK
  refine W.widen (k := 5) (n := 30) (Nat.le_of_ble_eq_true rfl) (Nat.le_of_ble_eq_true rfl) ?_
  refine va_putF (D := (dC, dI)) (ci := 3) (v := .ref q5) (ty := .array .int) (C := RC3) (T := TC3) (N := 6) hx hb hts inC3 tyC3 tyC3_ok nnC3 hown hK hP hD hS 0 rfl rfl 4 (by decide) (hts _ mw_187) (fun _ h9 => h9) rfl hin rfl (by decide +kernel) rfl rfl (Nat.le_of_ble_eq_true rfl) dC3_init_37 (fun H locs hP hD hS => ?_)
  have hP : va_P (dC, dI) vwC [(h0, .inr (3, [.ref q1, .ref q2, .ref q3, .ref q4, .ref q5, .int 0])), (q1, .inl (c1, 5, .inl (fun _ => (0 : Int32)))), (q2, .inl (c2, 5, .inl (fun _ => (0 : Int32)))), (q3, .inl (c3, 5, .inl (fun _ => (0 : Int32)))), (q4, .inl (c4, 5, .inl (fun _ => (0 : Int32)))), (q5, .inl (c5, 10, .inl (fun _ => (0 : Int32))))] H := hP
  have hD : va_D A [(h0, .inr (3, [.ref q1, .ref q2, .ref q3, .ref q4, .ref q5, .int 0])), (q1, .inl (c1, 5, .inl (fun _ => (0 : Int32)))), (q2, .inl (c2, 5, .inl (fun _ => (0 : Int32)))), (q3, .inl (c3, 5, .inl (fun _ => (0 : Int32)))), (q4, .inl (c4, 5, .inl (fun _ => (0 : Int32)))), (q5, .inl (c5, 10, .inl (fun _ => (0 : Int32))))] := hD
  exact W.vret hx hb hr (fun t ht hW => ⟨⟨(), rfl, trivial, q1, q2, q3, q4, q5, c1, c2, c3, c4, c5, by rw [ht]; exact hP, va_K.moved hW.alike hK, hD⟩, hS.F ht⟩) hS.2.2 dC3_init_40
set_option maxHeartbeats 8000000 in
set_option maxRecDepth 100000 in
theorem kC4_init (l : Launch) (dC : Nat → ClassId) (dI : Nat → Nat → Nat) (h0 sz : Nat) (a1 : Nat) (a2 : Nat) (a3 : Nat) : Met l yC4_init wsC4_init ({ frames := 1, cells := 3, slots := 180, locals := 12 }) (va_Pc [.ref h0, .ref a1, .ref a2, .ref a3] (fun U => U.heap.size = sz ∧ va_P (dC, dI) vwC [(h0, .inr (4, [.null, .null, .null, .null, .null, .null, .int 0, .int 0, .long 0, .int 0]))] U.heap ∧ va_K (dC, dI) vwC [] U ∧ va_D (fun _ => True) [(h0, .inr (4, [.null, .null, .null, .null, .null, .null, .int 0, .int 0, .long 0, .int 0]))])) (va_Qv (fun (_ : Unit) => True) (fun (_ : Unit) t => ∃ (q1 q2 q3 : Nat) (c1 c2 c3 : ClassId), va_P (dC, dI) vwC [(h0, .inr (4, [.ref a1, .ref a2, .ref a3, .ref q1, .ref q2, .ref q3, .int 0, .int 0, .long 0, .int 0])), (q1, .inl (c1, 60, .inl (fun _ => (0 : Int32)))), (q2, .inl (c2, 60, .inl (fun _ => (0 : Int32)))), (q3, .inl (c3, 60, .inr (.inl (fun _ => (0 : Int64)))))] t.heap ∧ va_K (dC, dI) vwC [(c1, .int), (c2, .int), (c3, .long)] t ∧ va_D (va_A [(h0, .inr (4, [.null, .null, .null, .null, .null, .null, .int 0, .int 0, .long 0, .int 0]))] sz) [(h0, .inr (4, [.ref a1, .ref a2, .ref a3, .ref q1, .ref q2, .ref q3, .int 0, .int 0, .long 0, .int 0])), (q1, .inl (c1, 60, .inl (fun _ => (0 : Int32)))), (q2, .inl (c2, 60, .inl (fun _ => (0 : Int32)))), (q3, .inl (c3, 60, .inr (.inl (fun _ => (0 : Int64)))))]) (va_A [(h0, .inr (4, [.null, .null, .null, .null, .null, .null, .int 0, .int 0, .long 0, .int 0]))] sz)) 3 180 (va_A [(h0, .inr (4, [.null, .null, .null, .null, .null, .null, .int 0, .int 0, .long 0, .int 0]))] sz) := by
  refine Met.ofW (cc := cC4_init) (maxL := 4) (ret := none) (by decide) rfl ?_
  intro p e s m args below meth c s₁ B hml hv
  obtain ⟨rfl, hsz, hP, hK, hD0⟩ := hv
  have hx := B.exec
  have hb := B.bytes
  have hr := B.returns
  have hts : ∀ w ∈ wAll, w.before _ s = true := fun w h => atoms_spec (ws := wsC4_init) B.pre w (List.mem_cons_of_mem _ h)
  have hown : s.vm.findClass RC4 = some m.cls := findClass_of_methodNamed B.named
  have hlocks := B.notSynchronized
  have hin : meth.name = "<init>" := (name_of_methodNamed B.named B.method).1
  subst hsz
  have hD := hD0.self (sz := s.heap.size)
  generalize hAe : va_A [(h0, .inr (4, [.null, .null, .null, .null, .null, .null, .int 0, .int 0, .long 0, .int 0]))] s.heap.size = A at hD ⊢
  have hA : ∀ q : Nat, s.heap.size ≤ q → A q := fun q h => by rw [← hAe]; exact Or.inr h
  have hS : va_S A s.heap s.heap [] := va_S.rf
  have hl := lv_entry ([.ref h0, .ref a1, .ref a2, .ref a3]) (n := 4) (Nat.le_of_ble_eq_true rfl)
  rw [lg_entry_eq]
  generalize (lg_sl ([.ref h0, .ref a1, .ref a2, .ref a3]) ++ List.replicate (4 - (lg_sl ([.ref h0, .ref a1, .ref a2, .ref a3])).length) Slot.unset).toArray = ls at hl ⊢
  have hl : lv_has ls 4 [(0, .ref h0), (1, .ref a1), (2, .ref a2), (3, .ref a3)] := hl
  refine lv_aload_n hx hb dC4_init_0 rfl (lv_at hl 0 rfl) ?_
  refine W.objInit hx hb hown (hts _ mw_637) (hts _ mw_634) (hts _ mw_623) rfl (by rw [hml]; exact hl.1) rfl dC4_init_1 (Nat.le_of_ble_eq_true rfl) (Nat.le_of_ble_eq_true rfl) ?_
  refine W.eq (g2 := F0 m 4 ls []) rfl ?_
  refine lv_aload_n hx hb dC4_init_4 rfl (lv_at hl 0 rfl) ?_
  refine lv_aload_n hx hb dC4_init_5 rfl (lv_at hl 1 rfl) ?_
  refine va_putF (D := (dC, dI)) (ci := 4) (v := .ref a1) (ty := .object "MemberChoice$Types") (C := RC4) (T := TC4) (N := 10) hx hb hts inC4 tyC4 tyC4_ok nnC4 hown hK hP hD hS 0 rfl rfl 0 (by decide) (hts _ mw_260) (fun _ h9 => h9) rfl hin rfl (by decide +kernel) rfl rfl (Nat.le_of_ble_eq_true rfl) dC4_init_6 (fun H locs hP hD hS => ?_)
  have hP : va_P (dC, dI) vwC [(h0, .inr (4, [.ref a1, .null, .null, .null, .null, .null, .int 0, .int 0, .long 0, .int 0]))] H := hP
  have hD : va_D A [(h0, .inr (4, [.ref a1, .null, .null, .null, .null, .null, .int 0, .int 0, .long 0, .int 0]))] := hD
  refine lv_aload_n hx hb dC4_init_9 rfl (lv_at hl 0 rfl) ?_
  refine lv_aload_n hx hb dC4_init_10 rfl (lv_at hl 2 rfl) ?_
  refine va_putF (D := (dC, dI)) (ci := 4) (v := .ref a2) (ty := .object "MemberChoice$Members") (C := RC4) (T := TC4) (N := 10) hx hb hts inC4 tyC4 tyC4_ok nnC4 hown hK hP hD hS 0 rfl rfl 1 (by decide) (hts _ mw_206) (fun _ h9 => h9) rfl hin rfl (by decide +kernel) rfl rfl (Nat.le_of_ble_eq_true rfl) dC4_init_11 (fun H locs hP hD hS => ?_)
  have hP : va_P (dC, dI) vwC [(h0, .inr (4, [.ref a1, .ref a2, .null, .null, .null, .null, .int 0, .int 0, .long 0, .int 0]))] H := hP
  have hD : va_D A [(h0, .inr (4, [.ref a1, .ref a2, .null, .null, .null, .null, .int 0, .int 0, .long 0, .int 0]))] := hD
  refine lv_aload_n hx hb dC4_init_14 rfl (lv_at hl 0 rfl) ?_
  refine lv_aload_n hx hb dC4_init_15 rfl (lv_at hl 3 rfl) ?_
  refine va_putF (D := (dC, dI)) (ci := 4) (v := .ref a3) (ty := .object "MemberChoice$Arguments") (C := RC4) (T := TC4) (N := 10) hx hb hts inC4 tyC4 tyC4_ok nnC4 hown hK hP hD hS 0 rfl rfl 2 (by decide) (hts _ mw_216) (fun _ h9 => h9) rfl hin rfl (by decide +kernel) rfl rfl (Nat.le_of_ble_eq_true rfl) dC4_init_16 (fun H locs hP hD hS => ?_)
  have hP : va_P (dC, dI) vwC [(h0, .inr (4, [.ref a1, .ref a2, .ref a3, .null, .null, .null, .int 0, .int 0, .long 0, .int 0]))] H := hP
  have hD : va_D A [(h0, .inr (4, [.ref a1, .ref a2, .ref a3, .null, .null, .null, .int 0, .int 0, .long 0, .int 0]))] := hD
  refine lv_aload_n hx hb dC4_init_19 rfl (lv_at hl 0 rfl) ?_
  refine lv_bipush (v := (60 : Int32)) hx hb dC4_init_20 (by decide) ?_
  refine va_newa (atype := .int) (N' := 60) (a0 := (60, .inl (fun _ => (0 : Int32)))) hx hb (hts _ mw_636) rfl hK hP hD hS hA (fun cA => rfl) (by decide) (by decide) (by decide) (Nat.le_of_ble_eq_true rfl) (Nat.le_of_ble_eq_true rfl) dC4_init_22 (fun q1 c1 H hK hP hD hS => ?_)
  have hP : va_P (dC, dI) vwC [(h0, .inr (4, [.ref a1, .ref a2, .ref a3, .null, .null, .null, .int 0, .int 0, .long 0, .int 0])), (q1, .inl (c1, 60, .inl (fun _ => (0 : Int32))))] H := hP
  have hD : va_D A [(h0, .inr (4, [.ref a1, .ref a2, .ref a3, .null, .null, .null, .int 0, .int 0, .long 0, .int 0])), (q1, .inl (c1, 60, .inl (fun _ => (0 : Int32))))] := hD
  have hK : va_K (dC, dI) vwC [(c1, .int)] s := hK
  refine W.widen (k := 1) (n := 60) (Nat.le_of_ble_eq_true rfl) (Nat.le_of_ble_eq_true rfl) ?_
  refine va_putF (D := (dC, dI)) (ci := 4) (v := .ref q1) (ty := .array .int) (C := RC4) (T := TC4) (N := 10) hx hb hts inC4 tyC4 tyC4_ok nnC4 hown hK hP hD hS 0 rfl rfl 3 (by decide) (hts _ mw_208) (fun _ h9 => h9) rfl hin rfl (by decide +kernel) rfl rfl (Nat.le_of_ble_eq_true rfl) dC4_init_24 (fun H locs hP hD hS => ?_)
  have hP : va_P (dC, dI) vwC [(h0, .inr (4, [.ref a1, .ref a2, .ref a3, .ref q1, .null, .null, .int 0, .int 0, .long 0, .int 0])), (q1, .inl (c1, 60, .inl (fun _ => (0 : Int32))))] H := hP
  have hD : va_D A [(h0, .inr (4, [.ref a1, .ref a2, .ref a3, .ref q1, .null, .null, .int 0, .int 0, .long 0, .int 0])), (q1, .inl (c1, 60, .inl (fun _ => (0 : Int32))))] := hD
  refine lv_aload_n hx hb dC4_init_27 rfl (lv_at hl 0 rfl) ?_
  refine lv_bipush (v := (60 : Int32)) hx hb dC4_init_28 (by decide) ?_
  refine va_newa (atype := .int) (N' := 60) (a0 := (60, .inl (fun _ => (0 : Int32)))) hx hb (hts _ mw_636) rfl hK hP hD hS hA (fun cA => rfl) (by decide) (by decide) (by decide) (Nat.le_of_ble_eq_true rfl) (Nat.le_of_ble_eq_true rfl) dC4_init_30 (fun q2 c2 H hK hP hD hS => ?_)
  have hP : va_P (dC, dI) vwC [(h0, .inr (4, [.ref a1, .ref a2, .ref a3, .ref q1, .null, .null, .int 0, .int 0, .long 0, .int 0])), (q1, .inl (c1, 60, .inl (fun _ => (0 : Int32)))), (q2, .inl (c2, 60, .inl (fun _ => (0 : Int32))))] H := hP
  have hD : va_D A [(h0, .inr (4, [.ref a1, .ref a2, .ref a3, .ref q1, .null, .null, .int 0, .int 0, .long 0, .int 0])), (q1, .inl (c1, 60, .inl (fun _ => (0 : Int32)))), (q2, .inl (c2, 60, .inl (fun _ => (0 : Int32))))] := hD
  have hK : va_K (dC, dI) vwC [(c1, .int), (c2, .int)] s := hK
  refine W.widen (k := 2) (n := 120) (Nat.le_of_ble_eq_true rfl) (Nat.le_of_ble_eq_true rfl) ?_
  refine va_putF (D := (dC, dI)) (ci := 4) (v := .ref q2) (ty := .array .int) (C := RC4) (T := TC4) (N := 10) hx hb hts inC4 tyC4 tyC4_ok nnC4 hown hK hP hD hS 0 rfl rfl 4 (by decide) (hts _ mw_258) (fun _ h9 => h9) rfl hin rfl (by decide +kernel) rfl rfl (Nat.le_of_ble_eq_true rfl) dC4_init_32 (fun H locs hP hD hS => ?_)
  have hP : va_P (dC, dI) vwC [(h0, .inr (4, [.ref a1, .ref a2, .ref a3, .ref q1, .ref q2, .null, .int 0, .int 0, .long 0, .int 0])), (q1, .inl (c1, 60, .inl (fun _ => (0 : Int32)))), (q2, .inl (c2, 60, .inl (fun _ => (0 : Int32))))] H := hP
  have hD : va_D A [(h0, .inr (4, [.ref a1, .ref a2, .ref a3, .ref q1, .ref q2, .null, .int 0, .int 0, .long 0, .int 0])), (q1, .inl (c1, 60, .inl (fun _ => (0 : Int32)))), (q2, .inl (c2, 60, .inl (fun _ => (0 : Int32))))] := hD
  refine lv_aload_n hx hb dC4_init_35 rfl (lv_at hl 0 rfl) ?_
  refine lv_bipush (v := (60 : Int32)) hx hb dC4_init_36 (by decide) ?_
  refine va_newa (atype := .long) (N' := 60) (a0 := (60, .inr (.inl (fun _ => (0 : Int64))))) hx hb (hts _ mw_632) rfl hK hP hD hS hA (fun cA => rfl) (by decide) (by decide) (by decide) (Nat.le_of_ble_eq_true rfl) (Nat.le_of_ble_eq_true rfl) dC4_init_38 (fun q3 c3 H hK hP hD hS => ?_)
  have hP : va_P (dC, dI) vwC [(h0, .inr (4, [.ref a1, .ref a2, .ref a3, .ref q1, .ref q2, .null, .int 0, .int 0, .long 0, .int 0])), (q1, .inl (c1, 60, .inl (fun _ => (0 : Int32)))), (q2, .inl (c2, 60, .inl (fun _ => (0 : Int32)))), (q3, .inl (c3, 60, .inr (.inl (fun _ => (0 : Int64)))))] H := hP
  have hD : va_D A [(h0, .inr (4, [.ref a1, .ref a2, .ref a3, .ref q1, .ref q2, .null, .int 0, .int 0, .long 0, .int 0])), (q1, .inl (c1, 60, .inl (fun _ => (0 : Int32)))), (q2, .inl (c2, 60, .inl (fun _ => (0 : Int32)))), (q3, .inl (c3, 60, .inr (.inl (fun _ => (0 : Int64)))))] := hD
  have hK : va_K (dC, dI) vwC [(c1, .int), (c2, .int), (c3, .long)] s := hK
  refine W.widen (k := 3) (n := 180) (Nat.le_of_ble_eq_true rfl) (Nat.le_of_ble_eq_true rfl) ?_
  refine va_putF (D := (dC, dI)) (ci := 4) (v := .ref q3) (ty := .array .long) (C := RC4) (T := TC4) (N := 10) hx hb hts inC4 tyC4 tyC4_ok nnC4 hown hK hP hD hS 0 rfl rfl 5 (by decide) (hts _ mw_259) (fun _ h9 => h9) rfl hin rfl (by decide +kernel) rfl rfl (Nat.le_of_ble_eq_true rfl) dC4_init_40 (fun H locs hP hD hS => ?_)
  have hP : va_P (dC, dI) vwC [(h0, .inr (4, [.ref a1, .ref a2, .ref a3, .ref q1, .ref q2, .ref q3, .int 0, .int 0, .long 0, .int 0])), (q1, .inl (c1, 60, .inl (fun _ => (0 : Int32)))), (q2, .inl (c2, 60, .inl (fun _ => (0 : Int32)))), (q3, .inl (c3, 60, .inr (.inl (fun _ => (0 : Int64)))))] H := hP
  have hD : va_D A [(h0, .inr (4, [.ref a1, .ref a2, .ref a3, .ref q1, .ref q2, .ref q3, .int 0, .int 0, .long 0, .int 0])), (q1, .inl (c1, 60, .inl (fun _ => (0 : Int32)))), (q2, .inl (c2, 60, .inl (fun _ => (0 : Int32)))), (q3, .inl (c3, 60, .inr (.inl (fun _ => (0 : Int64)))))] := hD
  exact W.vret hx hb hr (fun t ht hW => ⟨⟨(), rfl, trivial, q1, q2, q3, c1, c2, c3, by rw [ht]; exact hP, va_K.moved hW.alike hK, hD⟩, hS.F ht⟩) hS.2.2 dC4_init_43
set_option maxHeartbeats 8000000 in
set_option maxRecDepth 100000 in
theorem kC2_init (l : Launch) (dC : Nat → ClassId) (dI : Nat → Nat → Nat) (h0 sz : Nat) (a1 : Nat) : Met l yC2_init wsC2_init ({ frames := 2, cells := 7, slots := 573, locals := 23 }) (va_Pc [.ref h0, .ref a1] (fun U => U.heap.size = sz ∧ va_P (dC, dI) vwC [(h0, .inr (2, [.null, .null, .null, .null, .null, .null, .null, .null, .int 0, .int 0]))] U.heap ∧ va_K (dC, dI) vwC [] U ∧ va_D (fun _ => True) [(h0, .inr (2, [.null, .null, .null, .null, .null, .null, .null, .null, .int 0, .int 0]))])) (va_Qv (fun (_ : Unit) => True) (fun (_ : Unit) t => ∃ (q1 q2 q3 q4 q5 q6 q7 : Nat) (c1 c2 c3 c4 c5 c6 c7 : ClassId), va_P (dC, dI) vwC [(h0, .inr (2, [.ref a1, .ref q1, .ref q2, .ref q3, .ref q4, .ref q5, .ref q6, .ref q7, .int 0, .int 0])), (q1, .inl (c1, 61, .inl (fun _ => (0 : Int32)))), (q2, .inl (c2, 61, .inl (fun _ => (0 : Int32)))), (q3, .inl (c3, 61, .inl (fun _ => (0 : Int32)))), (q4, .inl (c4, 61, .inl (fun _ => (0 : Int32)))), (q5, .inl (c5, 61, .inl (fun _ => (0 : Int32)))), (q6, .inl (c6, 244, .inl (fun _ => (0 : Int32)))), (q7, .inl (c7, 24, .inl (fill1.1 0)))] t.heap ∧ va_K (dC, dI) vwC [(c1, .int), (c2, .int), (c3, .int), (c4, .int), (c5, .int), (c6, .int), (c7, .int)] t ∧ va_D (va_A [(h0, .inr (2, [.null, .null, .null, .null, .null, .null, .null, .null, .int 0, .int 0]))] sz) [(h0, .inr (2, [.ref a1, .ref q1, .ref q2, .ref q3, .ref q4, .ref q5, .ref q6, .ref q7, .int 0, .int 0])), (q1, .inl (c1, 61, .inl (fun _ => (0 : Int32)))), (q2, .inl (c2, 61, .inl (fun _ => (0 : Int32)))), (q3, .inl (c3, 61, .inl (fun _ => (0 : Int32)))), (q4, .inl (c4, 61, .inl (fun _ => (0 : Int32)))), (q5, .inl (c5, 61, .inl (fun _ => (0 : Int32)))), (q6, .inl (c6, 244, .inl (fun _ => (0 : Int32)))), (q7, .inl (c7, 24, .inl (fill1.1 0)))]) (va_A [(h0, .inr (2, [.null, .null, .null, .null, .null, .null, .null, .null, .int 0, .int 0]))] sz)) 7 573 (va_A [(h0, .inr (2, [.null, .null, .null, .null, .null, .null, .null, .null, .int 0, .int 0]))] sz) := by
  refine Met.ofW (cc := cC2_init) (maxL := 2) (ret := none) (by decide) rfl ?_
  intro p e s m args below meth c s₁ B hml hv
  obtain ⟨rfl, hsz, hP, hK, hD0⟩ := hv
  have hx := B.exec
  have hb := B.bytes
  have hr := B.returns
  have hts : ∀ w ∈ wAll, w.before _ s = true := fun w h => atoms_spec (ws := wsC2_init) B.pre w (List.mem_cons_of_mem _ h)
  have hown : s.vm.findClass RC2 = some m.cls := findClass_of_methodNamed B.named
  have hlocks := B.notSynchronized
  have hin : meth.name = "<init>" := (name_of_methodNamed B.named B.method).1
  subst hsz
  have hD := hD0.self (sz := s.heap.size)
  generalize hAe : va_A [(h0, .inr (2, [.null, .null, .null, .null, .null, .null, .null, .null, .int 0, .int 0]))] s.heap.size = A at hD ⊢
  have hA : ∀ q : Nat, s.heap.size ≤ q → A q := fun q h => by rw [← hAe]; exact Or.inr h
  have hS : va_S A s.heap s.heap [] := va_S.rf
  have hl := lv_entry ([.ref h0, .ref a1]) (n := 2) (Nat.le_of_ble_eq_true rfl)
  rw [lg_entry_eq]
  generalize (lg_sl ([.ref h0, .ref a1]) ++ List.replicate (2 - (lg_sl ([.ref h0, .ref a1])).length) Slot.unset).toArray = ls at hl ⊢
  have hl : lv_has ls 2 [(0, .ref h0), (1, .ref a1)] := hl
  refine lv_aload_n hx hb dC2_init_0 rfl (lv_at hl 0 rfl) ?_
  refine W.objInit hx hb hown (hts _ mw_638) (hts _ mw_634) (hts _ mw_623) rfl (by rw [hml]; exact hl.1) rfl dC2_init_1 (Nat.le_of_ble_eq_true rfl) (Nat.le_of_ble_eq_true rfl) ?_
  refine W.eq (g2 := F0 m 4 ls []) rfl ?_
  refine lv_aload_n hx hb dC2_init_4 rfl (lv_at hl 0 rfl) ?_
  refine lv_aload_n hx hb dC2_init_5 rfl (lv_at hl 1 rfl) ?_
  refine va_putF (D := (dC, dI)) (ci := 2) (v := .ref a1) (ty := .object "MemberChoice$Types") (C := RC2) (T := TC2) (N := 10) hx hb hts inC2 tyC2 tyC2_ok nnC2 hown hK hP hD hS 0 rfl rfl 0 (by decide) (hts _ mw_57) (fun _ h9 => h9) rfl hin rfl (by decide +kernel) rfl rfl (Nat.le_of_ble_eq_true rfl) dC2_init_6 (fun H locs hP hD hS => ?_)
  have hP : va_P (dC, dI) vwC [(h0, .inr (2, [.ref a1, .null, .null, .null, .null, .null, .null, .null, .int 0, .int 0]))] H := hP
  have hD : va_D A [(h0, .inr (2, [.ref a1, .null, .null, .null, .null, .null, .null, .null, .int 0, .int 0]))] := hD
  refine lv_aload_n hx hb dC2_init_9 rfl (lv_at hl 0 rfl) ?_
  refine lv_bipush (v := (61 : Int32)) hx hb dC2_init_10 (by decide) ?_
  refine va_newa (atype := .int) (N' := 61) (a0 := (61, .inl (fun _ => (0 : Int32)))) hx hb (hts _ mw_636) rfl hK hP hD hS hA (fun cA => rfl) (by decide) (by decide) (by decide) (Nat.le_of_ble_eq_true rfl) (Nat.le_of_ble_eq_true rfl) dC2_init_12 (fun q1 c1 H hK hP hD hS => ?_)
  have hP : va_P (dC, dI) vwC [(h0, .inr (2, [.ref a1, .null, .null, .null, .null, .null, .null, .null, .int 0, .int 0])), (q1, .inl (c1, 61, .inl (fun _ => (0 : Int32))))] H := hP
  have hD : va_D A [(h0, .inr (2, [.ref a1, .null, .null, .null, .null, .null, .null, .null, .int 0, .int 0])), (q1, .inl (c1, 61, .inl (fun _ => (0 : Int32))))] := hD
  have hK : va_K (dC, dI) vwC [(c1, .int)] s := hK
  refine W.widen (k := 1) (n := 61) (Nat.le_of_ble_eq_true rfl) (Nat.le_of_ble_eq_true rfl) ?_
  refine va_putF (D := (dC, dI)) (ci := 2) (v := .ref q1) (ty := .array .int) (C := RC2) (T := TC2) (N := 10) hx hb hts inC2 tyC2 tyC2_ok nnC2 hown hK hP hD hS 0 rfl rfl 1 (by decide) (hts _ mw_42) (fun _ h9 => h9) rfl hin rfl (by decide +kernel) rfl rfl (Nat.le_of_ble_eq_true rfl) dC2_init_14 (fun H locs hP hD hS => ?_)
  have hP : va_P (dC, dI) vwC [(h0, .inr (2, [.ref a1, .ref q1, .null, .null, .null, .null, .null, .null, .int 0, .int 0])), (q1, .inl (c1, 61, .inl (fun _ => (0 : Int32))))] H := hP
  have hD : va_D A [(h0, .inr (2, [.ref a1, .ref q1, .null, .null, .null, .null, .null, .null, .int 0, .int 0])), (q1, .inl (c1, 61, .inl (fun _ => (0 : Int32))))] := hD
  refine lv_aload_n hx hb dC2_init_17 rfl (lv_at hl 0 rfl) ?_
  refine lv_bipush (v := (61 : Int32)) hx hb dC2_init_18 (by decide) ?_
  refine va_newa (atype := .int) (N' := 61) (a0 := (61, .inl (fun _ => (0 : Int32)))) hx hb (hts _ mw_636) rfl hK hP hD hS hA (fun cA => rfl) (by decide) (by decide) (by decide) (Nat.le_of_ble_eq_true rfl) (Nat.le_of_ble_eq_true rfl) dC2_init_20 (fun q2 c2 H hK hP hD hS => ?_)
  have hP : va_P (dC, dI) vwC [(h0, .inr (2, [.ref a1, .ref q1, .null, .null, .null, .null, .null, .null, .int 0, .int 0])), (q1, .inl (c1, 61, .inl (fun _ => (0 : Int32)))), (q2, .inl (c2, 61, .inl (fun _ => (0 : Int32))))] H := hP
  have hD : va_D A [(h0, .inr (2, [.ref a1, .ref q1, .null, .null, .null, .null, .null, .null, .int 0, .int 0])), (q1, .inl (c1, 61, .inl (fun _ => (0 : Int32)))), (q2, .inl (c2, 61, .inl (fun _ => (0 : Int32))))] := hD
  have hK : va_K (dC, dI) vwC [(c1, .int), (c2, .int)] s := hK
  refine W.widen (k := 2) (n := 122) (Nat.le_of_ble_eq_true rfl) (Nat.le_of_ble_eq_true rfl) ?_
  refine va_putF (D := (dC, dI)) (ci := 2) (v := .ref q2) (ty := .array .int) (C := RC2) (T := TC2) (N := 10) hx hb hts inC2 tyC2 tyC2_ok nnC2 hown hK hP hD hS 0 rfl rfl 2 (by decide) (hts _ mw_44) (fun _ h9 => h9) rfl hin rfl (by decide +kernel) rfl rfl (Nat.le_of_ble_eq_true rfl) dC2_init_22 (fun H locs hP hD hS => ?_)
  have hP : va_P (dC, dI) vwC [(h0, .inr (2, [.ref a1, .ref q1, .ref q2, .null, .null, .null, .null, .null, .int 0, .int 0])), (q1, .inl (c1, 61, .inl (fun _ => (0 : Int32)))), (q2, .inl (c2, 61, .inl (fun _ => (0 : Int32))))] H := hP
  have hD : va_D A [(h0, .inr (2, [.ref a1, .ref q1, .ref q2, .null, .null, .null, .null, .null, .int 0, .int 0])), (q1, .inl (c1, 61, .inl (fun _ => (0 : Int32)))), (q2, .inl (c2, 61, .inl (fun _ => (0 : Int32))))] := hD
  refine lv_aload_n hx hb dC2_init_25 rfl (lv_at hl 0 rfl) ?_
  refine lv_bipush (v := (61 : Int32)) hx hb dC2_init_26 (by decide) ?_
  refine va_newa (atype := .int) (N' := 61) (a0 := (61, .inl (fun _ => (0 : Int32)))) hx hb (hts _ mw_636) rfl hK hP hD hS hA (fun cA => rfl) (by decide) (by decide) (by decide) (Nat.le_of_ble_eq_true rfl) (Nat.le_of_ble_eq_true rfl) dC2_init_28 (fun q3 c3 H hK hP hD hS => ?_)
  have hP : va_P (dC, dI) vwC [(h0, .inr (2, [.ref a1, .ref q1, .ref q2, .null, .null, .null, .null, .null, .int 0, .int 0])), (q1, .inl (c1, 61, .inl (fun _ => (0 : Int32)))), (q2, .inl (c2, 61, .inl (fun _ => (0 : Int32)))), (q3, .inl (c3, 61, .inl (fun _ => (0 : Int32))))] H := hP
  have hD : va_D A [(h0, .inr (2, [.ref a1, .ref q1, .ref q2, .null, .null, .null, .null, .null, .int 0, .int 0])), (q1, .inl (c1, 61, .inl (fun _ => (0 : Int32)))), (q2, .inl (c2, 61, .inl (fun _ => (0 : Int32)))), (q3, .inl (c3, 61, .inl (fun _ => (0 : Int32))))] := hD
  have hK : va_K (dC, dI) vwC [(c1, .int), (c2, .int), (c3, .int)] s := hK
  refine W.widen (k := 3) (n := 183) (Nat.le_of_ble_eq_true rfl) (Nat.le_of_ble_eq_true rfl) ?_
  refine va_putF (D := (dC, dI)) (ci := 2) (v := .ref q3) (ty := .array .int) (C := RC2) (T := TC2) (N := 10) hx hb hts inC2 tyC2 tyC2_ok nnC2 hown hK hP hD hS 0 rfl rfl 3 (by decide) (hts _ mw_45) (fun _ h9 => h9) rfl hin rfl (by decide +kernel) rfl rfl (Nat.le_of_ble_eq_true rfl) dC2_init_30 (fun H locs hP hD hS => ?_)
  have hP : va_P (dC, dI) vwC [(h0, .inr (2, [.ref a1, .ref q1, .ref q2, .ref q3, .null, .null, .null, .null, .int 0, .int 0])), (q1, .inl (c1, 61, .inl (fun _ => (0 : Int32)))), (q2, .inl (c2, 61, .inl (fun _ => (0 : Int32)))), (q3, .inl (c3, 61, .inl (fun _ => (0 : Int32))))] H := hP
  have hD : va_D A [(h0, .inr (2, [.ref a1, .ref q1, .ref q2, .ref q3, .null, .null, .null, .null, .int 0, .int 0])), (q1, .inl (c1, 61, .inl (fun _ => (0 : Int32)))), (q2, .inl (c2, 61, .inl (fun _ => (0 : Int32)))), (q3, .inl (c3, 61, .inl (fun _ => (0 : Int32))))] := hD
  refine lv_aload_n hx hb dC2_init_33 rfl (lv_at hl 0 rfl) ?_
  refine lv_bipush (v := (61 : Int32)) hx hb dC2_init_34 (by decide) ?_
  refine va_newa (atype := .int) (N' := 61) (a0 := (61, .inl (fun _ => (0 : Int32)))) hx hb (hts _ mw_636) rfl hK hP hD hS hA (fun cA => rfl) (by decide) (by decide) (by decide) (Nat.le_of_ble_eq_true rfl) (Nat.le_of_ble_eq_true rfl) dC2_init_36 (fun q4 c4 H hK hP hD hS => ?_)
  have hP : va_P (dC, dI) vwC [(h0, .inr (2, [.ref a1, .ref q1, .ref q2, .ref q3, .null, .null, .null, .null, .int 0, .int 0])), (q1, .inl (c1, 61, .inl (fun _ => (0 : Int32)))), (q2, .inl (c2, 61, .inl (fun _ => (0 : Int32)))), (q3, .inl (c3, 61, .inl (fun _ => (0 : Int32)))), (q4, .inl (c4, 61, .inl (fun _ => (0 : Int32))))] H := hP
  have hD : va_D A [(h0, .inr (2, [.ref a1, .ref q1, .ref q2, .ref q3, .null, .null, .null, .null, .int 0, .int 0])), (q1, .inl (c1, 61, .inl (fun _ => (0 : Int32)))), (q2, .inl (c2, 61, .inl (fun _ => (0 : Int32)))), (q3, .inl (c3, 61, .inl (fun _ => (0 : Int32)))), (q4, .inl (c4, 61, .inl (fun _ => (0 : Int32))))] := hD
  have hK : va_K (dC, dI) vwC [(c1, .int), (c2, .int), (c3, .int), (c4, .int)] s := hK
  refine W.widen (k := 4) (n := 244) (Nat.le_of_ble_eq_true rfl) (Nat.le_of_ble_eq_true rfl) ?_
  refine va_putF (D := (dC, dI)) (ci := 2) (v := .ref q4) (ty := .array .int) (C := RC2) (T := TC2) (N := 10) hx hb hts inC2 tyC2 tyC2_ok nnC2 hown hK hP hD hS 0 rfl rfl 4 (by decide) (hts _ mw_46) (fun _ h9 => h9) rfl hin rfl (by decide +kernel) rfl rfl (Nat.le_of_ble_eq_true rfl) dC2_init_38 (fun H locs hP hD hS => ?_)
  have hP : va_P (dC, dI) vwC [(h0, .inr (2, [.ref a1, .ref q1, .ref q2, .ref q3, .ref q4, .null, .null, .null, .int 0, .int 0])), (q1, .inl (c1, 61, .inl (fun _ => (0 : Int32)))), (q2, .inl (c2, 61, .inl (fun _ => (0 : Int32)))), (q3, .inl (c3, 61, .inl (fun _ => (0 : Int32)))), (q4, .inl (c4, 61, .inl (fun _ => (0 : Int32))))] H := hP
  have hD : va_D A [(h0, .inr (2, [.ref a1, .ref q1, .ref q2, .ref q3, .ref q4, .null, .null, .null, .int 0, .int 0])), (q1, .inl (c1, 61, .inl (fun _ => (0 : Int32)))), (q2, .inl (c2, 61, .inl (fun _ => (0 : Int32)))), (q3, .inl (c3, 61, .inl (fun _ => (0 : Int32)))), (q4, .inl (c4, 61, .inl (fun _ => (0 : Int32))))] := hD
  refine lv_aload_n hx hb dC2_init_41 rfl (lv_at hl 0 rfl) ?_
  refine lv_bipush (v := (61 : Int32)) hx hb dC2_init_42 (by decide) ?_
  refine va_newa (atype := .int) (N' := 61) (a0 := (61, .inl (fun _ => (0 : Int32)))) hx hb (hts _ mw_636) rfl hK hP hD hS hA (fun cA => rfl) (by decide) (by decide) (by decide) (Nat.le_of_ble_eq_true rfl) (Nat.le_of_ble_eq_true rfl) dC2_init_44 (fun q5 c5 H hK hP hD hS => ?_)
  have hP : va_P (dC, dI) vwC [(h0, .inr (2, [.ref a1, .ref q1, .ref q2, .ref q3, .ref q4, .null, .null, .null, .int 0, .int 0])), (q1, .inl (c1, 61, .inl (fun _ => (0 : Int32)))), (q2, .inl (c2, 61, .inl (fun _ => (0 : Int32)))), (q3, .inl (c3, 61, .inl (fun _ => (0 : Int32)))), (q4, .inl (c4, 61, .inl (fun _ => (0 : Int32)))), (q5, .inl (c5, 61, .inl (fun _ => (0 : Int32))))] H := hP
  have hD : va_D A [(h0, .inr (2, [.ref a1, .ref q1, .ref q2, .ref q3, .ref q4, .null, .null, .null, .int 0, .int 0])), (q1, .inl (c1, 61, .inl (fun _ => (0 : Int32)))), (q2, .inl (c2, 61, .inl (fun _ => (0 : Int32)))), (q3, .inl (c3, 61, .inl (fun _ => (0 : Int32)))), (q4, .inl (c4, 61, .inl (fun _ => (0 : Int32)))), (q5, .inl (c5, 61, .inl (fun _ => (0 : Int32))))] := hD
  have hK : va_K (dC, dI) vwC [(c1, .int), (c2, .int), (c3, .int), (c4, .int), (c5, .int)] s := hK
  refine W.widen (k := 5) (n := 305) (Nat.le_of_ble_eq_true rfl) (Nat.le_of_ble_eq_true rfl) ?_
  refine va_putF (D := (dC, dI)) (ci := 2) (v := .ref q5) (ty := .array .int) (C := RC2) (T := TC2) (N := 10) hx hb hts inC2 tyC2 tyC2_ok nnC2 hown hK hP hD hS 0 rfl rfl 5 (by decide) (hts _ mw_51) (fun _ h9 => h9) rfl hin rfl (by decide +kernel) rfl rfl (Nat.le_of_ble_eq_true rfl) dC2_init_46 (fun H locs hP hD hS => ?_)
  have hP : va_P (dC, dI) vwC [(h0, .inr (2, [.ref a1, .ref q1, .ref q2, .ref q3, .ref q4, .ref q5, .null, .null, .int 0, .int 0])), (q1, .inl (c1, 61, .inl (fun _ => (0 : Int32)))), (q2, .inl (c2, 61, .inl (fun _ => (0 : Int32)))), (q3, .inl (c3, 61, .inl (fun _ => (0 : Int32)))), (q4, .inl (c4, 61, .inl (fun _ => (0 : Int32)))), (q5, .inl (c5, 61, .inl (fun _ => (0 : Int32))))] H := hP
  have hD : va_D A [(h0, .inr (2, [.ref a1, .ref q1, .ref q2, .ref q3, .ref q4, .ref q5, .null, .null, .int 0, .int 0])), (q1, .inl (c1, 61, .inl (fun _ => (0 : Int32)))), (q2, .inl (c2, 61, .inl (fun _ => (0 : Int32)))), (q3, .inl (c3, 61, .inl (fun _ => (0 : Int32)))), (q4, .inl (c4, 61, .inl (fun _ => (0 : Int32)))), (q5, .inl (c5, 61, .inl (fun _ => (0 : Int32))))] := hD
  refine lv_aload_n hx hb dC2_init_49 rfl (lv_at hl 0 rfl) ?_
  refine lv_sipush (v := (244 : Int32)) hx hb dC2_init_50 (by decide) ?_
  refine va_newa (atype := .int) (N' := 244) (a0 := (244, .inl (fun _ => (0 : Int32)))) hx hb (hts _ mw_636) rfl hK hP hD hS hA (fun cA => rfl) (by decide) (by decide) (by decide) (Nat.le_of_ble_eq_true rfl) (Nat.le_of_ble_eq_true rfl) dC2_init_53 (fun q6 c6 H hK hP hD hS => ?_)
  have hP : va_P (dC, dI) vwC [(h0, .inr (2, [.ref a1, .ref q1, .ref q2, .ref q3, .ref q4, .ref q5, .null, .null, .int 0, .int 0])), (q1, .inl (c1, 61, .inl (fun _ => (0 : Int32)))), (q2, .inl (c2, 61, .inl (fun _ => (0 : Int32)))), (q3, .inl (c3, 61, .inl (fun _ => (0 : Int32)))), (q4, .inl (c4, 61, .inl (fun _ => (0 : Int32)))), (q5, .inl (c5, 61, .inl (fun _ => (0 : Int32)))), (q6, .inl (c6, 244, .inl (fun _ => (0 : Int32))))] H := hP
  have hD : va_D A [(h0, .inr (2, [.ref a1, .ref q1, .ref q2, .ref q3, .ref q4, .ref q5, .null, .null, .int 0, .int 0])), (q1, .inl (c1, 61, .inl (fun _ => (0 : Int32)))), (q2, .inl (c2, 61, .inl (fun _ => (0 : Int32)))), (q3, .inl (c3, 61, .inl (fun _ => (0 : Int32)))), (q4, .inl (c4, 61, .inl (fun _ => (0 : Int32)))), (q5, .inl (c5, 61, .inl (fun _ => (0 : Int32)))), (q6, .inl (c6, 244, .inl (fun _ => (0 : Int32))))] := hD
  have hK : va_K (dC, dI) vwC [(c1, .int), (c2, .int), (c3, .int), (c4, .int), (c5, .int), (c6, .int)] s := hK
  refine W.widen (k := 6) (n := 549) (Nat.le_of_ble_eq_true rfl) (Nat.le_of_ble_eq_true rfl) ?_
  refine va_putF (D := (dC, dI)) (ci := 2) (v := .ref q6) (ty := .array .int) (C := RC2) (T := TC2) (N := 10) hx hb hts inC2 tyC2 tyC2_ok nnC2 hown hK hP hD hS 0 rfl rfl 6 (by decide) (hts _ mw_52) (fun _ h9 => h9) rfl hin rfl (by decide +kernel) rfl rfl (Nat.le_of_ble_eq_true rfl) dC2_init_55 (fun H locs hP hD hS => ?_)
  have hP : va_P (dC, dI) vwC [(h0, .inr (2, [.ref a1, .ref q1, .ref q2, .ref q3, .ref q4, .ref q5, .ref q6, .null, .int 0, .int 0])), (q1, .inl (c1, 61, .inl (fun _ => (0 : Int32)))), (q2, .inl (c2, 61, .inl (fun _ => (0 : Int32)))), (q3, .inl (c3, 61, .inl (fun _ => (0 : Int32)))), (q4, .inl (c4, 61, .inl (fun _ => (0 : Int32)))), (q5, .inl (c5, 61, .inl (fun _ => (0 : Int32)))), (q6, .inl (c6, 244, .inl (fun _ => (0 : Int32))))] H := hP
  have hD : va_D A [(h0, .inr (2, [.ref a1, .ref q1, .ref q2, .ref q3, .ref q4, .ref q5, .ref q6, .null, .int 0, .int 0])), (q1, .inl (c1, 61, .inl (fun _ => (0 : Int32)))), (q2, .inl (c2, 61, .inl (fun _ => (0 : Int32)))), (q3, .inl (c3, 61, .inl (fun _ => (0 : Int32)))), (q4, .inl (c4, 61, .inl (fun _ => (0 : Int32)))), (q5, .inl (c5, 61, .inl (fun _ => (0 : Int32)))), (q6, .inl (c6, 244, .inl (fun _ => (0 : Int32))))] := hD
  refine lv_aload_n hx hb dC2_init_58 rfl (lv_at hl 0 rfl) ?_
  refine lv_bipush (v := (24 : Int32)) hx hb dC2_init_59 (by decide) ?_
  refine va_newa (atype := .int) (N' := 24) (a0 := (24, .inl (fun _ => (0 : Int32)))) hx hb (hts _ mw_636) rfl hK hP hD hS hA (fun cA => rfl) (by decide) (by decide) (by decide) (Nat.le_of_ble_eq_true rfl) (Nat.le_of_ble_eq_true rfl) dC2_init_61 (fun q7 c7 H hK hP hD hS => ?_)
  have hP : va_P (dC, dI) vwC [(h0, .inr (2, [.ref a1, .ref q1, .ref q2, .ref q3, .ref q4, .ref q5, .ref q6, .null, .int 0, .int 0])), (q1, .inl (c1, 61, .inl (fun _ => (0 : Int32)))), (q2, .inl (c2, 61, .inl (fun _ => (0 : Int32)))), (q3, .inl (c3, 61, .inl (fun _ => (0 : Int32)))), (q4, .inl (c4, 61, .inl (fun _ => (0 : Int32)))), (q5, .inl (c5, 61, .inl (fun _ => (0 : Int32)))), (q6, .inl (c6, 244, .inl (fun _ => (0 : Int32)))), (q7, .inl (c7, 24, .inl (fun _ => (0 : Int32))))] H := hP
  have hD : va_D A [(h0, .inr (2, [.ref a1, .ref q1, .ref q2, .ref q3, .ref q4, .ref q5, .ref q6, .null, .int 0, .int 0])), (q1, .inl (c1, 61, .inl (fun _ => (0 : Int32)))), (q2, .inl (c2, 61, .inl (fun _ => (0 : Int32)))), (q3, .inl (c3, 61, .inl (fun _ => (0 : Int32)))), (q4, .inl (c4, 61, .inl (fun _ => (0 : Int32)))), (q5, .inl (c5, 61, .inl (fun _ => (0 : Int32)))), (q6, .inl (c6, 244, .inl (fun _ => (0 : Int32)))), (q7, .inl (c7, 24, .inl (fun _ => (0 : Int32))))] := hD
  have hK : va_K (dC, dI) vwC [(c1, .int), (c2, .int), (c3, .int), (c4, .int), (c5, .int), (c6, .int), (c7, .int)] s := hK
  refine W.widen (k := 7) (n := 573) (Nat.le_of_ble_eq_true rfl) (Nat.le_of_ble_eq_true rfl) ?_
  refine va_putF (D := (dC, dI)) (ci := 2) (v := .ref q7) (ty := .array .int) (C := RC2) (T := TC2) (N := 10) hx hb hts inC2 tyC2 tyC2_ok nnC2 hown hK hP hD hS 0 rfl rfl 7 (by decide) (hts _ mw_139) (fun _ h9 => h9) rfl hin rfl (by decide +kernel) rfl rfl (Nat.le_of_ble_eq_true rfl) dC2_init_63 (fun H locs hP hD hS => ?_)
  have hP : va_P (dC, dI) vwC [(h0, .inr (2, [.ref a1, .ref q1, .ref q2, .ref q3, .ref q4, .ref q5, .ref q6, .ref q7, .int 0, .int 0])), (q1, .inl (c1, 61, .inl (fun _ => (0 : Int32)))), (q2, .inl (c2, 61, .inl (fun _ => (0 : Int32)))), (q3, .inl (c3, 61, .inl (fun _ => (0 : Int32)))), (q4, .inl (c4, 61, .inl (fun _ => (0 : Int32)))), (q5, .inl (c5, 61, .inl (fun _ => (0 : Int32)))), (q6, .inl (c6, 244, .inl (fun _ => (0 : Int32)))), (q7, .inl (c7, 24, .inl (fun _ => (0 : Int32))))] H := hP
  have hD : va_D A [(h0, .inr (2, [.ref a1, .ref q1, .ref q2, .ref q3, .ref q4, .ref q5, .ref q6, .ref q7, .int 0, .int 0])), (q1, .inl (c1, 61, .inl (fun _ => (0 : Int32)))), (q2, .inl (c2, 61, .inl (fun _ => (0 : Int32)))), (q3, .inl (c3, 61, .inl (fun _ => (0 : Int32)))), (q4, .inl (c4, 61, .inl (fun _ => (0 : Int32)))), (q5, .inl (c5, 61, .inl (fun _ => (0 : Int32)))), (q6, .inl (c6, 244, .inl (fun _ => (0 : Int32)))), (q7, .inl (c7, 24, .inl (fun _ => (0 : Int32))))] := hD
  refine lv_aload_n hx hb dC2_init_66 rfl (lv_at hl 0 rfl) ?_
  refine va_get (D := (dC, dI)) (ci := 2) (v := .ref q7) (C := RC2) (T := TC2) (N := 10) hx hb hts inC2 hown hK hP 0 rfl rfl 7 (by decide) (hts _ mw_139) (fun _ h9 => h9) rfl dC2_init_67 ?_
  refine lv_iconst (v := (-1 : Int32)) hx hb dC2_init_70 (by decide) ?_
  have hPc : va_P (dC, dI) vwC (aW (fun _ => q7) (fun _ => c7) fill0) H := hP.sub (ws' := [(q7, .inl (c7, 24, .inl (fun _ => (0 : Int32))))]) [7] rfl
  have hDc := hD.sub (ws' := [(q7, .inl (c7, 24, .inl (fun _ => (0 : Int32))))]) [7] (by decide) rfl
  have hKc : va_K (dC, dI) vwC (aT (fun _ => c7)) s := hK.sub (tys' := [(c7, .int)]) [6] rfl
  have hFc : ∀ q : Nat, aA (fun _ => q7) q → A q := fun q h => by obtain ⟨k, -, rfl⟩ := h; exact hD.2 7 _ rfl
  have hDa : va_D (aA (fun _ => q7)) (aW (fun _ => q7) (fun _ => c7) fill0) := ⟨hDc.1, fun k q hk => by have := List.mem_of_getElem? hk; rcases List.mem_singleton.mp this with rfl; exact ⟨0, by decide, rfl⟩⟩
  refine va_callv (va_runS (As := [.ref q7, .int (-1)]) (rest := []) ⟨hx, hb, hml, hown, hts⟩ (kJA_fill_0 l dC dI (fun _ => q7) (fun _ => c7) fill0 (-1) fill1 fill_ok) (va_cwS 2 hts (gws mw_639 mw_640 mw_641 mw_642) rfl rfl rfl hdJA_fill ⟨Nat.le_of_ble_eq_true rfl, Nat.le_of_ble_eq_true rfl⟩) ⟨fun a U g mk q => by obtain ⟨q0, qP, qK, qD⟩ := q; exact ⟨q0, qP, va_K.moved (u := U) (U := U.calling g mk a) (Vm.Alike.refl U.vm) qK, qD⟩, fun U hU hW => ⟨rfl, by rw [hU]; exact hPc, va_K.moved hW.alike hKc, hDa⟩⟩ rfl rfl hl.1 rfl (lv_room (Nat.le_of_ble_eq_true rfl)) dC2_init_71 ⟨Nat.le_of_ble_eq_true rfl, Nat.le_of_ble_eq_true rfl⟩) hS (fun q _ h => hFc q h) hFc (fun u t H1 locs ht hvm hw hB hz1 hk1 hS => ?_)
  subst hw
  rw [ht] at hB
  have hPo := lw_keep (hP.sub (ws' := [(h0, .inr (2, [.ref a1, .ref q1, .ref q2, .ref q3, .ref q4, .ref q5, .ref q6, .ref q7, .int 0, .int 0])), (q1, .inl (c1, 61, .inl (fun _ => (0 : Int32)))), (q2, .inl (c2, 61, .inl (fun _ => (0 : Int32)))), (q3, .inl (c3, 61, .inl (fun _ => (0 : Int32)))), (q4, .inl (c4, 61, .inl (fun _ => (0 : Int32)))), (q5, .inl (c5, 61, .inl (fun _ => (0 : Int32)))), (q6, .inl (c6, 244, .inl (fun _ => (0 : Int32))))]) [0, 1, 2, 3, 4, 5, 6] rfl) (A1 := aA (fun _ => q7)) (fun k q hk h9 => by obtain ⟨k2, -, e9⟩ := h9; have hm := gx_pick hD [0, 1, 2, 3, 4, 5, 6] (ws' := [(h0, .inr (2, [.ref a1, .ref q1, .ref q2, .ref q3, .ref q4, .ref q5, .ref q6, .ref q7, .int 0, .int 0])), (q1, .inl (c1, 61, .inl (fun _ => (0 : Int32)))), (q2, .inl (c2, 61, .inl (fun _ => (0 : Int32)))), (q3, .inl (c3, 61, .inl (fun _ => (0 : Int32)))), (q4, .inl (c4, 61, .inl (fun _ => (0 : Int32)))), (q5, .inl (c5, 61, .inl (fun _ => (0 : Int32)))), (q6, .inl (c6, 244, .inl (fun _ => (0 : Int32))))]) rfl k q hk; obtain ⟨j, hj, hjm⟩ := hm; have := hD.1 j 7 q _ hj rfl e9; subst this; exact absurd hjm (by decide)) hk1
  have hP2 := hPo.app hB
  have hP : va_P (dC, dI) vwC [(h0, .inr (2, [.ref a1, .ref q1, .ref q2, .ref q3, .ref q4, .ref q5, .ref q6, .ref q7, .int 0, .int 0])), (q1, .inl (c1, 61, .inl (fun _ => (0 : Int32)))), (q2, .inl (c2, 61, .inl (fun _ => (0 : Int32)))), (q3, .inl (c3, 61, .inl (fun _ => (0 : Int32)))), (q4, .inl (c4, 61, .inl (fun _ => (0 : Int32)))), (q5, .inl (c5, 61, .inl (fun _ => (0 : Int32)))), (q6, .inl (c6, 244, .inl (fun _ => (0 : Int32)))), (q7, .inl (c7, 24, .inl (fill1.1 0)))] H1 := hP2.sub (ws' := [(h0, .inr (2, [.ref a1, .ref q1, .ref q2, .ref q3, .ref q4, .ref q5, .ref q6, .ref q7, .int 0, .int 0])), (q1, .inl (c1, 61, .inl (fun _ => (0 : Int32)))), (q2, .inl (c2, 61, .inl (fun _ => (0 : Int32)))), (q3, .inl (c3, 61, .inl (fun _ => (0 : Int32)))), (q4, .inl (c4, 61, .inl (fun _ => (0 : Int32)))), (q5, .inl (c5, 61, .inl (fun _ => (0 : Int32)))), (q6, .inl (c6, 244, .inl (fun _ => (0 : Int32)))), (q7, .inl (c7, 24, .inl (fill1.1 0)))]) [0, 1, 2, 3, 4, 5, 6, 7] rfl
  have hD : va_D A [(h0, .inr (2, [.ref a1, .ref q1, .ref q2, .ref q3, .ref q4, .ref q5, .ref q6, .ref q7, .int 0, .int 0])), (q1, .inl (c1, 61, .inl (fun _ => (0 : Int32)))), (q2, .inl (c2, 61, .inl (fun _ => (0 : Int32)))), (q3, .inl (c3, 61, .inl (fun _ => (0 : Int32)))), (q4, .inl (c4, 61, .inl (fun _ => (0 : Int32)))), (q5, .inl (c5, 61, .inl (fun _ => (0 : Int32)))), (q6, .inl (c6, 244, .inl (fun _ => (0 : Int32)))), (q7, .inl (c7, 24, .inl (fill1.1 0)))] := gx_keys (ws := [(h0, .inr (2, [.ref a1, .ref q1, .ref q2, .ref q3, .ref q4, .ref q5, .ref q6, .ref q7, .int 0, .int 0])), (q1, .inl (c1, 61, .inl (fun _ => (0 : Int32)))), (q2, .inl (c2, 61, .inl (fun _ => (0 : Int32)))), (q3, .inl (c3, 61, .inl (fun _ => (0 : Int32)))), (q4, .inl (c4, 61, .inl (fun _ => (0 : Int32)))), (q5, .inl (c5, 61, .inl (fun _ => (0 : Int32)))), (q6, .inl (c6, 244, .inl (fun _ => (0 : Int32)))), (q7, .inl (c7, 24, .inl (fun _ => (0 : Int32))))]) rfl hD
  generalize H1 = H at hP hS ⊢
  exact W.vret hx hb hr (fun t ht hW => ⟨⟨(), rfl, trivial, q1, q2, q3, q4, q5, q6, q7, c1, c2, c3, c4, c5, c6, c7, by rw [ht]; exact hP, va_K.moved hW.alike hK, hD⟩, hS.F ht⟩) hS.2.2 dC2_init_74
set_option maxHeartbeats 8000000 in
set_option maxRecDepth 100000 in
theorem kC1_init (l : Launch) (dC : Nat → ClassId) (dI : Nat → Nat → Nat) (h0 sz : Nat) (t0 : Nat) : Met l yC1_init wsC1_init ({ frames := 3, cells := 3, slots := 88, locals := 102 }) (va_Pc [.ref h0] (fun U => U.heap.size = sz ∧ va_P (dC, dI) vwC [(h0, .inr (1, [.null, .null, .null, .int 0]))] U.heap ∧ va_K (dC, dI) vwC [] U ∧ va_D (fun _ => True) [(h0, .inr (1, [.null, .null, .null, .int 0]))] ∧ va_Z "MemberChoice$Types" "FIXED_ABOVE" "[J" (.ref t0) (va_A [(h0, .inr (1, [.null, .null, .null, .int 0]))] sz) U U.heap ∧ va_T .long t0 11 (fun j => .long (tabF j)) (va_A [(h0, .inr (1, [.null, .null, .null, .int 0]))] sz) U U.heap)) (va_Qv (fun (_ : Unit) => True) (fun (_ : Unit) t => ∃ (q1 q2 q3 : Nat) (c1 c2 c3 : ClassId), va_P (dC, dI) vwC [(h0, .inr (1, [.ref q1, .ref q2, .ref q3, .int 0])), (q1, .inl (c1, 40, .inr (.inl tabF))), (q2, .inl (c2, 24, .inl (fun _ => (0 : Int32)))), (q3, .inl (c3, 24, .inl (fun _ => (0 : Int32))))] t.heap ∧ va_K (dC, dI) vwC [(c1, .long), (c2, .int), (c3, .boolean)] t ∧ va_D (va_A [(h0, .inr (1, [.null, .null, .null, .int 0]))] sz) [(h0, .inr (1, [.ref q1, .ref q2, .ref q3, .int 0])), (q1, .inl (c1, 40, .inr (.inl tabF))), (q2, .inl (c2, 24, .inl (fun _ => (0 : Int32)))), (q3, .inl (c3, 24, .inl (fun _ => (0 : Int32))))]) (va_A [(h0, .inr (1, [.null, .null, .null, .int 0]))] sz)) 3 88 (va_A [(h0, .inr (1, [.null, .null, .null, .int 0]))] sz) := by
  refine Met.ofW (cc := cC1_init) (maxL := 1) (ret := none) (by decide) rfl ?_
  intro p e s m args below meth c s₁ B hml hv
  obtain ⟨rfl, hsz, hP, hK, hD0, hZ, hT⟩ := hv
  have hx := B.exec
  have hb := B.bytes
  have hr := B.returns
  have hts : ∀ w ∈ wAll, w.before _ s = true := fun w h => atoms_spec (ws := wsC1_init) B.pre w (List.mem_cons_of_mem _ h)
  have hown : s.vm.findClass RC1 = some m.cls := findClass_of_methodNamed B.named
  have hlocks := B.notSynchronized
  have hin : meth.name = "<init>" := (name_of_methodNamed B.named B.method).1
  subst hsz
  have hD := hD0.self (sz := s.heap.size)
  generalize hAe : va_A [(h0, .inr (1, [.null, .null, .null, .int 0]))] s.heap.size = A at hD hZ hT ⊢
  have hA : ∀ q : Nat, s.heap.size ≤ q → A q := fun q h => by rw [← hAe]; exact Or.inr h
  have hS : va_S A s.heap s.heap [] := va_S.rf
  have hl := lv_entry ([.ref h0]) (n := 1) (Nat.le_of_ble_eq_true rfl)
  rw [lg_entry_eq]
  generalize (lg_sl ([.ref h0]) ++ List.replicate (1 - (lg_sl ([.ref h0])).length) Slot.unset).toArray = ls at hl ⊢
  have hl : lv_has ls 1 [(0, .ref h0)] := hl
  refine lv_aload_n hx hb dC1_init_0 rfl (lv_at hl 0 rfl) ?_
  refine W.objInit hx hb hown (hts _ mw_643) (hts _ mw_634) (hts _ mw_623) rfl (by rw [hml]; exact hl.1) rfl dC1_init_1 (Nat.le_of_ble_eq_true rfl) (Nat.le_of_ble_eq_true rfl) ?_
  refine W.eq (g2 := F0 m 4 ls []) rfl ?_
  refine lv_aload_n hx hb dC1_init_4 rfl (lv_at hl 0 rfl) ?_
  refine va_gets hx hb hZ hS hown (hts _ mw_644) (fun _ h9 => h9) dC1_init_5 ?_
  refine lv_bipush (v := (40 : Int32)) hx hb dC1_init_8 (by decide) ?_
  have hFc : ∀ q : Nat, s.heap.size ≤ q → A q := fun q h => hA q (Nat.le_trans hS.1 h)
  have hTc := (hT.kept hS.2.1).narrow hFc
  have hKc := hK.sub (tys' := []) [] rfl
  refine va_callr (va_runS (As := [.ref t0, .int 40]) (rest := [.ref h0]) ⟨hx, hb, hml, hown, hts⟩ (kJA_copyOf l dC dI t0 s.heap.size) (va_cwS 2 hts (gws mw_645 mw_646 mw_641 mw_647) rfl rfl rfl hdJA_copyOf ⟨Nat.le_of_ble_eq_true rfl, Nat.le_of_ble_eq_true rfl⟩) ⟨fun a U g mk q => by obtain ⟨q0, q1, qK, qT⟩ := q; exact ⟨q0, q1, va_K.moved (u := U) (U := U.calling g mk a) (Vm.Alike.refl U.vm) qK, va_T.moved (u := U) (U := U.calling g mk a) (Vm.Alike.refl U.vm) qT⟩, fun U hU hW => ⟨rfl, by rw [hU], va_K.moved hW.alike hKc, va_T.moved hW.alike (by rw [hU]; exact hTc)⟩⟩ rfl rfl hl.1 rfl (lv_room (Nat.le_of_ble_eq_true rfl)) dC1_init_10 ⟨Nat.le_of_ble_eq_true rfl, Nat.le_of_ble_eq_true rfl⟩) hS (fun q _ h => hFc q h) hFc (fun u q1 t H1 locs ht hvm hw hB hz1 hk1 hS => ?_)
  obtain ⟨c1, hP1, hK1, hD1⟩ := hB
  rw [ht] at hP1
  have hK1 := va_K.moved hvm.symm hK1
  have hPo := lw_keep hP (fun k q hq => Nat.not_le.mpr (hP k q hq).lt) hk1
  have hP0 := hP
  have hP : va_P (dC, dI) vwC ([(h0, .inr (1, [.null, .null, .null, .int 0]))] ++ [(q1, .inl (c1, 40, .inr (.inl tabF)))]) H1 := hPo.app hP1
  have hD : va_D A ([(h0, .inr (1, [.null, .null, .null, .int 0]))] ++ [(q1, .inl (c1, 40, .inr (.inl tabF)))]) := va_D.app hD (hD1.weaken (fun _ q _ h => hFc q.1 h)) (fun i j x y hx9 hy9 hxy => by have h1 := (hP0 i x hx9).lt; have h2 := hD1.2 j y hy9; rw [← hxy] at h2; exact absurd h2 (Nat.not_le.mpr h1))
  have hK := hK.app hK1
  generalize H1 = H at hP hS ⊢
  have hP : va_P (dC, dI) vwC [(h0, .inr (1, [.null, .null, .null, .int 0])), (q1, .inl (c1, 40, .inr (.inl tabF)))] H := hP
  have hD : va_D A [(h0, .inr (1, [.null, .null, .null, .int 0])), (q1, .inl (c1, 40, .inr (.inl tabF)))] := hD
  have hK : va_K (dC, dI) vwC [(c1, .long)] s := hK
  refine W.widen (k := 1) (n := 40) (Nat.le_of_ble_eq_true rfl) (Nat.le_of_ble_eq_true rfl) ?_
  refine va_putF (D := (dC, dI)) (ci := 1) (v := .ref q1) (ty := .array .long) (C := RC1) (T := TC1) (N := 4) hx hb hts inC1 tyC1 tyC1_ok nnC1 hown hK hP hD hS 0 rfl rfl 0 (by decide) (hts _ mw_2) (fun _ h9 => h9) rfl hin rfl (by decide +kernel) rfl rfl (Nat.le_of_ble_eq_true rfl) dC1_init_13 (fun H locs hP hD hS => ?_)
  have hP : va_P (dC, dI) vwC [(h0, .inr (1, [.ref q1, .null, .null, .int 0])), (q1, .inl (c1, 40, .inr (.inl tabF)))] H := hP
  have hD : va_D A [(h0, .inr (1, [.ref q1, .null, .null, .int 0])), (q1, .inl (c1, 40, .inr (.inl tabF)))] := hD
  refine lv_aload_n hx hb dC1_init_16 rfl (lv_at hl 0 rfl) ?_
  refine lv_bipush (v := (24 : Int32)) hx hb dC1_init_17 (by decide) ?_
  refine va_newa (atype := .int) (N' := 24) (a0 := (24, .inl (fun _ => (0 : Int32)))) hx hb (hts _ mw_636) rfl hK hP hD hS hA (fun cA => rfl) (by decide) (by decide) (by decide) (Nat.le_of_ble_eq_true rfl) (Nat.le_of_ble_eq_true rfl) dC1_init_19 (fun q2 c2 H hK hP hD hS => ?_)
  have hP : va_P (dC, dI) vwC [(h0, .inr (1, [.ref q1, .null, .null, .int 0])), (q1, .inl (c1, 40, .inr (.inl tabF))), (q2, .inl (c2, 24, .inl (fun _ => (0 : Int32))))] H := hP
  have hD : va_D A [(h0, .inr (1, [.ref q1, .null, .null, .int 0])), (q1, .inl (c1, 40, .inr (.inl tabF))), (q2, .inl (c2, 24, .inl (fun _ => (0 : Int32))))] := hD
  have hK : va_K (dC, dI) vwC [(c1, .long), (c2, .int)] s := hK
  refine W.widen (k := 2) (n := 64) (Nat.le_of_ble_eq_true rfl) (Nat.le_of_ble_eq_true rfl) ?_
  refine va_putF (D := (dC, dI)) (ci := 1) (v := .ref q2) (ty := .array .int) (C := RC1) (T := TC1) (N := 4) hx hb hts inC1 tyC1 tyC1_ok nnC1 hown hK hP hD hS 0 rfl rfl 1 (by decide) (hts _ mw_19) (fun _ h9 => h9) rfl hin rfl (by decide +kernel) rfl rfl (Nat.le_of_ble_eq_true rfl) dC1_init_21 (fun H locs hP hD hS => ?_)
  have hP : va_P (dC, dI) vwC [(h0, .inr (1, [.ref q1, .ref q2, .null, .int 0])), (q1, .inl (c1, 40, .inr (.inl tabF))), (q2, .inl (c2, 24, .inl (fun _ => (0 : Int32))))] H := hP
  have hD : va_D A [(h0, .inr (1, [.ref q1, .ref q2, .null, .int 0])), (q1, .inl (c1, 40, .inr (.inl tabF))), (q2, .inl (c2, 24, .inl (fun _ => (0 : Int32))))] := hD
  refine lv_aload_n hx hb dC1_init_24 rfl (lv_at hl 0 rfl) ?_
  refine lv_bipush (v := (24 : Int32)) hx hb dC1_init_25 (by decide) ?_
  refine va_newa (atype := .boolean) (N' := 24) (a0 := (24, .inl (fun _ => (0 : Int32)))) hx hb (hts _ mw_635) rfl hK hP hD hS hA (fun cA => rfl) (by decide) (by decide) (by decide) (Nat.le_of_ble_eq_true rfl) (Nat.le_of_ble_eq_true rfl) dC1_init_27 (fun q3 c3 H hK hP hD hS => ?_)
  have hP : va_P (dC, dI) vwC [(h0, .inr (1, [.ref q1, .ref q2, .null, .int 0])), (q1, .inl (c1, 40, .inr (.inl tabF))), (q2, .inl (c2, 24, .inl (fun _ => (0 : Int32)))), (q3, .inl (c3, 24, .inl (fun _ => (0 : Int32))))] H := hP
  have hD : va_D A [(h0, .inr (1, [.ref q1, .ref q2, .null, .int 0])), (q1, .inl (c1, 40, .inr (.inl tabF))), (q2, .inl (c2, 24, .inl (fun _ => (0 : Int32)))), (q3, .inl (c3, 24, .inl (fun _ => (0 : Int32))))] := hD
  have hK : va_K (dC, dI) vwC [(c1, .long), (c2, .int), (c3, .boolean)] s := hK
  refine W.widen (k := 3) (n := 88) (Nat.le_of_ble_eq_true rfl) (Nat.le_of_ble_eq_true rfl) ?_
  refine va_putF (D := (dC, dI)) (ci := 1) (v := .ref q3) (ty := .array .boolean) (C := RC1) (T := TC1) (N := 4) hx hb hts inC1 tyC1 tyC1_ok nnC1 hown hK hP hD hS 0 rfl rfl 2 (by decide) (hts _ mw_3) (fun _ h9 => h9) rfl hin rfl (by decide +kernel) rfl rfl (Nat.le_of_ble_eq_true rfl) dC1_init_29 (fun H locs hP hD hS => ?_)
  have hP : va_P (dC, dI) vwC [(h0, .inr (1, [.ref q1, .ref q2, .ref q3, .int 0])), (q1, .inl (c1, 40, .inr (.inl tabF))), (q2, .inl (c2, 24, .inl (fun _ => (0 : Int32)))), (q3, .inl (c3, 24, .inl (fun _ => (0 : Int32))))] H := hP
  have hD : va_D A [(h0, .inr (1, [.ref q1, .ref q2, .ref q3, .int 0])), (q1, .inl (c1, 40, .inr (.inl tabF))), (q2, .inl (c2, 24, .inl (fun _ => (0 : Int32)))), (q3, .inl (c3, 24, .inl (fun _ => (0 : Int32))))] := hD
  exact W.vret hx hb hr (fun t ht hW => ⟨⟨(), rfl, trivial, q1, q2, q3, c1, c2, c3, by rw [ht]; exact hP, va_K.moved hW.alike hK, hD⟩, hS.F ht⟩) hS.2.2 dC1_init_32
set_option maxHeartbeats 8000000 in
set_option maxRecDepth 100000 in
theorem kC0_init (l : Launch) (dC : Nat → ClassId) (dI : Nat → Nat → Nat) (h0 sz : Nat) (t0 : Nat) : Met l yC0_init wsC0_init ({ frames := 4, cells := 23, slots := 961, locals := 122 }) (va_Pc [.ref h0] (fun U => U.heap.size = sz ∧ va_P (dC, dI) vwC [(h0, .inr (0, [.null, .null, .null, .null, .null]))] U.heap ∧ va_K (dC, dI) vwC [] U ∧ va_D (fun _ => True) [(h0, .inr (0, [.null, .null, .null, .null, .null]))] ∧ va_Z "MemberChoice$Types" "FIXED_ABOVE" "[J" (.ref t0) (va_A [(h0, .inr (0, [.null, .null, .null, .null, .null]))] sz) U U.heap ∧ va_T .long t0 11 (fun j => .long (tabF j)) (va_A [(h0, .inr (0, [.null, .null, .null, .null, .null]))] sz) U U.heap)) (va_Qv (fun (_ : Unit) => True) (fun (_ : Unit) t => ∃ (q1 q2 q3 q4 q5 q6 q7 q8 q9 q10 q11 q12 q13 q14 q15 q16 q17 q18 q19 q20 q21 q22 q23 : Nat) (d4_c1 d4_c2 d4_c3 d12_c1 d12_c2 d12_c3 d12_c4 d12_c5 d12_c6 d12_c7 d18_c1 d18_c2 d18_c3 d18_c4 d18_c5 d22_c1 d22_c2 d22_c3 c23 : ClassId), va_P (dC, dI) vwC [(h0, .inr (0, [.ref q1, .ref q5, .ref q13, .ref q19, .ref q23])), (q1, .inr (1, [.ref q2, .ref q3, .ref q4, .int 0])), (q2, .inl (d4_c1, 40, .inr (.inl tabF))), (q3, .inl (d4_c2, 24, .inl (fun _ => (0 : Int32)))), (q4, .inl (d4_c3, 24, .inl (fun _ => (0 : Int32)))), (q5, .inr (2, [.ref q1, .ref q6, .ref q7, .ref q8, .ref q9, .ref q10, .ref q11, .ref q12, .int 0, .int 0])), (q6, .inl (d12_c1, 61, .inl (fun _ => (0 : Int32)))), (q7, .inl (d12_c2, 61, .inl (fun _ => (0 : Int32)))), (q8, .inl (d12_c3, 61, .inl (fun _ => (0 : Int32)))), (q9, .inl (d12_c4, 61, .inl (fun _ => (0 : Int32)))), (q10, .inl (d12_c5, 61, .inl (fun _ => (0 : Int32)))), (q11, .inl (d12_c6, 244, .inl (fun _ => (0 : Int32)))), (q12, .inl (d12_c7, 24, .inl (fill1.1 0))), (q13, .inr (3, [.ref q14, .ref q15, .ref q16, .ref q17, .ref q18, .int 0])), (q14, .inl (d18_c1, 5, .inl (fun _ => (0 : Int32)))), (q15, .inl (d18_c2, 5, .inl (fun _ => (0 : Int32)))), (q16, .inl (d18_c3, 5, .inl (fun _ => (0 : Int32)))), (q17, .inl (d18_c4, 5, .inl (fun _ => (0 : Int32)))), (q18, .inl (d18_c5, 10, .inl (fun _ => (0 : Int32)))), (q19, .inr (4, [.ref q1, .ref q5, .ref q13, .ref q20, .ref q21, .ref q22, .int 0, .int 0, .long 0, .int 0])), (q20, .inl (d22_c1, 60, .inl (fun _ => (0 : Int32)))), (q21, .inl (d22_c2, 60, .inl (fun _ => (0 : Int32)))), (q22, .inl (d22_c3, 60, .inr (.inl (fun _ => (0 : Int64))))), (q23, .inl (c23, 60, .inl (fun _ => (0 : Int32))))] t.heap ∧ va_K (dC, dI) vwC [(d4_c1, .long), (d4_c2, .int), (d4_c3, .boolean), (d12_c1, .int), (d12_c2, .int), (d12_c3, .int), (d12_c4, .int), (d12_c5, .int), (d12_c6, .int), (d12_c7, .int), (d18_c1, .boolean), (d18_c2, .boolean), (d18_c3, .int), (d18_c4, .int), (d18_c5, .int), (d22_c1, .int), (d22_c2, .int), (d22_c3, .long), (c23, .int)] t ∧ va_D (va_A [(h0, .inr (0, [.null, .null, .null, .null, .null]))] sz) [(h0, .inr (0, [.ref q1, .ref q5, .ref q13, .ref q19, .ref q23])), (q1, .inr (1, [.ref q2, .ref q3, .ref q4, .int 0])), (q2, .inl (d4_c1, 40, .inr (.inl tabF))), (q3, .inl (d4_c2, 24, .inl (fun _ => (0 : Int32)))), (q4, .inl (d4_c3, 24, .inl (fun _ => (0 : Int32)))), (q5, .inr (2, [.ref q1, .ref q6, .ref q7, .ref q8, .ref q9, .ref q10, .ref q11, .ref q12, .int 0, .int 0])), (q6, .inl (d12_c1, 61, .inl (fun _ => (0 : Int32)))), (q7, .inl (d12_c2, 61, .inl (fun _ => (0 : Int32)))), (q8, .inl (d12_c3, 61, .inl (fun _ => (0 : Int32)))), (q9, .inl (d12_c4, 61, .inl (fun _ => (0 : Int32)))), (q10, .inl (d12_c5, 61, .inl (fun _ => (0 : Int32)))), (q11, .inl (d12_c6, 244, .inl (fun _ => (0 : Int32)))), (q12, .inl (d12_c7, 24, .inl (fill1.1 0))), (q13, .inr (3, [.ref q14, .ref q15, .ref q16, .ref q17, .ref q18, .int 0])), (q14, .inl (d18_c1, 5, .inl (fun _ => (0 : Int32)))), (q15, .inl (d18_c2, 5, .inl (fun _ => (0 : Int32)))), (q16, .inl (d18_c3, 5, .inl (fun _ => (0 : Int32)))), (q17, .inl (d18_c4, 5, .inl (fun _ => (0 : Int32)))), (q18, .inl (d18_c5, 10, .inl (fun _ => (0 : Int32)))), (q19, .inr (4, [.ref q1, .ref q5, .ref q13, .ref q20, .ref q21, .ref q22, .int 0, .int 0, .long 0, .int 0])), (q20, .inl (d22_c1, 60, .inl (fun _ => (0 : Int32)))), (q21, .inl (d22_c2, 60, .inl (fun _ => (0 : Int32)))), (q22, .inl (d22_c3, 60, .inr (.inl (fun _ => (0 : Int64))))), (q23, .inl (c23, 60, .inl (fun _ => (0 : Int32))))]) (va_A [(h0, .inr (0, [.null, .null, .null, .null, .null]))] sz)) 23 961 (va_A [(h0, .inr (0, [.null, .null, .null, .null, .null]))] sz) := by
  refine Met.ofW (cc := cC0_init) (maxL := 1) (ret := none) (by decide) rfl ?_
  intro p e s m args below meth c s₁ B hml hv
  obtain ⟨rfl, hsz, hP, hK, hD0, hZ, hT⟩ := hv
  have hx := B.exec
  have hb := B.bytes
  have hr := B.returns
  have hts : ∀ w ∈ wAll, w.before _ s = true := fun w h => atoms_spec (ws := wsC0_init) B.pre w (List.mem_cons_of_mem _ h)
  have hown : s.vm.findClass RC0 = some m.cls := findClass_of_methodNamed B.named
  have hlocks := B.notSynchronized
  have hin : meth.name = "<init>" := (name_of_methodNamed B.named B.method).1
  subst hsz
  have hD := hD0.self (sz := s.heap.size)
  generalize hAe : va_A [(h0, .inr (0, [.null, .null, .null, .null, .null]))] s.heap.size = A at hD hZ hT ⊢
  have hA : ∀ q : Nat, s.heap.size ≤ q → A q := fun q h => by rw [← hAe]; exact Or.inr h
  have hS : va_S A s.heap s.heap [] := va_S.rf
  have hl := lv_entry ([.ref h0]) (n := 1) (Nat.le_of_ble_eq_true rfl)
  rw [lg_entry_eq]
  generalize (lg_sl ([.ref h0]) ++ List.replicate (1 - (lg_sl ([.ref h0])).length) Slot.unset).toArray = ls at hl ⊢
  have hl : lv_has ls 1 [(0, .ref h0)] := hl
  refine lv_aload_n hx hb dC0_init_0 rfl (lv_at hl 0 rfl) ?_
  refine W.objInit hx hb hown (hts _ mw_648) (hts _ mw_634) (hts _ mw_623) rfl (by rw [hml]; exact hl.1) rfl dC0_init_1 (Nat.le_of_ble_eq_true rfl) (Nat.le_of_ble_eq_true rfl) ?_
  refine W.eq (g2 := F0 m 4 ls []) rfl ?_
  refine lv_aload_n hx hb dC0_init_4 rfl (lv_at hl 0 rfl) ?_
  refine va_new (ci := 1) (fs := [.null, .null, .null, .int 0]) (C := RC1) (T := TC1) (N := 4) hx hb hts inC1 tyC1 tyC1_ok hown (hts _ mw_649) (hts _ mw_650) (hts _ mw_7) hK hP hD hS hA rfl (fun j hj => by rcases (show j = 0 ∨ j = 1 ∨ j = 2 ∨ j = 3 by omega) with rfl | rfl | rfl | rfl <;> rfl) (Nat.le_of_ble_eq_true rfl) (Nat.le_of_ble_eq_true rfl) dC0_init_5 (fun q1 H hP hD hS => ?_)
  have hP : va_P (dC, dI) vwC [(h0, .inr (0, [.null, .null, .null, .null, .null])), (q1, .inr (1, [.null, .null, .null, .int 0]))] H := hP
  have hD : va_D A [(h0, .inr (0, [.null, .null, .null, .null, .null])), (q1, .inr (1, [.null, .null, .null, .int 0]))] := hD
  have hK : va_K (dC, dI) vwC [] s := hK
  refine W.widen (k := 1) (n := 4) (Nat.le_of_ble_eq_true rfl) (Nat.le_of_ble_eq_true rfl) ?_
  refine lv_dup hx hb dC0_init_8 rfl ?_
  have hPc := hP.sub (ws' := [(q1, .inr (1, [.null, .null, .null, .int 0]))]) [1] rfl
  have hDc := hD.sub (ws' := [(q1, .inr (1, [.null, .null, .null, .int 0]))]) [1] (by decide) rfl
  have hKc := hK.sub (tys' := []) [] rfl
  have hFc := va_free (wc := [(q1, .inr (1, [.null, .null, .null, .int 0]))]) hD hS hA [1] rfl
  have hZc := (hZ.kept hS.2.1).narrow hFc
  have hTc := (hT.kept hS.2.1).narrow hFc
  refine va_callv (va_runI (As := []) (rest := [.ref q1, .ref h0]) ⟨hx, hb, hml, hown, hts⟩ (kC1_init l dC dI q1 H.size t0) (cwI 0 hts (goodIn_all (fun w hw => by rcases List.mem_cons.mp hw with rfl | h; exact mw_651; exact h)) rfl rfl rfl (hts _ mw_7) (hts _ mw_652) (hts _ mw_653) rfl (by decide +kernel) ⟨Nat.le_of_ble_eq_true rfl, Nat.le_of_ble_eq_true rfl⟩) ⟨fun a U g mk q => by obtain ⟨q0, q1, qP, qK, qD, qZ, qT⟩ := q; exact ⟨q0, q1, qP, va_K.moved (u := U) (U := U.calling g mk a) (Vm.Alike.refl U.vm) qK, qD, va_Z.moved (u := U) (U := U.calling g mk a) (Vm.Alike.refl U.vm) qZ, va_T.moved (u := U) (U := U.calling g mk a) (Vm.Alike.refl U.vm) qT⟩, fun U hU hW => ⟨rfl, by rw [hU], by rw [hU]; exact hPc, va_K.moved hW.alike hKc, hDc.weaken (fun _ _ _ _ => trivial), va_Z.moved hW.alike (by rw [hU]; exact hZc), va_T.moved hW.alike (by rw [hU]; exact hTc)⟩⟩ rfl rfl hl.1 rfl (lv_room (Nat.le_of_ble_eq_true rfl)) dC0_init_9 ⟨Nat.le_of_ble_eq_true rfl, Nat.le_of_ble_eq_true rfl⟩) hS (fun q _ h => hFc q h) hFc (fun u t H1 locs ht hvm hw hB hz1 hk1 hS => ?_)
  obtain ⟨q2, q3, q4, d4_c1, d4_c2, d4_c3, hP1, hK1, hD1⟩ := hB
  rw [ht] at hP1
  have hK1 := va_K.moved hvm.symm hK1
  obtain ⟨hP, hD⟩ := va_join (wr := [(h0, .inr (0, [.null, .null, .null, .null, .null]))]) (w1 := [(q1, .inr (1, [.ref q2, .ref q3, .ref q4, .int 0])), (q2, .inl (d4_c1, 40, .inr (.inl tabF))), (q3, .inl (d4_c2, 24, .inl (fun _ => (0 : Int32)))), (q4, .inl (d4_c3, 24, .inl (fun _ => (0 : Int32))))]) hP hD [1] [0] rfl rfl (by decide) (by decide) hk1 hFc hP1 hD1
  have hK := (hK.sub (tys' := []) [] rfl).app hK1
  generalize H1 = H at hP hS ⊢
  have hP : va_P (dC, dI) vwC [(h0, .inr (0, [.null, .null, .null, .null, .null])), (q1, .inr (1, [.ref q2, .ref q3, .ref q4, .int 0])), (q2, .inl (d4_c1, 40, .inr (.inl tabF))), (q3, .inl (d4_c2, 24, .inl (fun _ => (0 : Int32)))), (q4, .inl (d4_c3, 24, .inl (fun _ => (0 : Int32))))] H := hP
  have hD : va_D A [(h0, .inr (0, [.null, .null, .null, .null, .null])), (q1, .inr (1, [.ref q2, .ref q3, .ref q4, .int 0])), (q2, .inl (d4_c1, 40, .inr (.inl tabF))), (q3, .inl (d4_c2, 24, .inl (fun _ => (0 : Int32)))), (q4, .inl (d4_c3, 24, .inl (fun _ => (0 : Int32))))] := hD
  have hK : va_K (dC, dI) vwC [(d4_c1, .long), (d4_c2, .int), (d4_c3, .boolean)] s := hK
  refine W.widen (k := 4) (n := 92) (Nat.le_of_ble_eq_true rfl) (Nat.le_of_ble_eq_true rfl) ?_
  refine va_putF (D := (dC, dI)) (ci := 0) (v := .ref q1) (ty := .object "MemberChoice$Types") (C := RC0) (T := TC0) (N := 5) hx hb hts inC0 tyC0 tyC0_ok nnC0 hown hK hP hD hS 0 rfl rfl 0 (by decide) (hts _ mw_0) (fun _ h9 => h9) rfl hin rfl (by decide +kernel) rfl rfl (Nat.le_of_ble_eq_true rfl) dC0_init_12 (fun H locs hP hD hS => ?_)
  have hP : va_P (dC, dI) vwC [(h0, .inr (0, [.ref q1, .null, .null, .null, .null])), (q1, .inr (1, [.ref q2, .ref q3, .ref q4, .int 0])), (q2, .inl (d4_c1, 40, .inr (.inl tabF))), (q3, .inl (d4_c2, 24, .inl (fun _ => (0 : Int32)))), (q4, .inl (d4_c3, 24, .inl (fun _ => (0 : Int32))))] H := hP
  have hD : va_D A [(h0, .inr (0, [.ref q1, .null, .null, .null, .null])), (q1, .inr (1, [.ref q2, .ref q3, .ref q4, .int 0])), (q2, .inl (d4_c1, 40, .inr (.inl tabF))), (q3, .inl (d4_c2, 24, .inl (fun _ => (0 : Int32)))), (q4, .inl (d4_c3, 24, .inl (fun _ => (0 : Int32))))] := hD
  refine lv_aload_n hx hb dC0_init_15 rfl (lv_at hl 0 rfl) ?_
  refine va_new (ci := 2) (fs := [.null, .null, .null, .null, .null, .null, .null, .null, .int 0, .int 0]) (C := RC2) (T := TC2) (N := 10) hx hb hts inC2 tyC2 tyC2_ok hown (hts _ mw_654) (hts _ mw_655) (hts _ mw_40) hK hP hD hS hA rfl (fun j hj => by rcases (show j = 0 ∨ j = 1 ∨ j = 2 ∨ j = 3 ∨ j = 4 ∨ j = 5 ∨ j = 6 ∨ j = 7 ∨ j = 8 ∨ j = 9 by omega) with rfl | rfl | rfl | rfl | rfl | rfl | rfl | rfl | rfl | rfl <;> rfl) (Nat.le_of_ble_eq_true rfl) (Nat.le_of_ble_eq_true rfl) dC0_init_16 (fun q5 H hP hD hS => ?_)
  have hP : va_P (dC, dI) vwC [(h0, .inr (0, [.ref q1, .null, .null, .null, .null])), (q1, .inr (1, [.ref q2, .ref q3, .ref q4, .int 0])), (q2, .inl (d4_c1, 40, .inr (.inl tabF))), (q3, .inl (d4_c2, 24, .inl (fun _ => (0 : Int32)))), (q4, .inl (d4_c3, 24, .inl (fun _ => (0 : Int32)))), (q5, .inr (2, [.null, .null, .null, .null, .null, .null, .null, .null, .int 0, .int 0]))] H := hP
  have hD : va_D A [(h0, .inr (0, [.ref q1, .null, .null, .null, .null])), (q1, .inr (1, [.ref q2, .ref q3, .ref q4, .int 0])), (q2, .inl (d4_c1, 40, .inr (.inl tabF))), (q3, .inl (d4_c2, 24, .inl (fun _ => (0 : Int32)))), (q4, .inl (d4_c3, 24, .inl (fun _ => (0 : Int32)))), (q5, .inr (2, [.null, .null, .null, .null, .null, .null, .null, .null, .int 0, .int 0]))] := hD
  have hK : va_K (dC, dI) vwC [(d4_c1, .long), (d4_c2, .int), (d4_c3, .boolean)] s := hK
  refine W.widen (k := 5) (n := 102) (Nat.le_of_ble_eq_true rfl) (Nat.le_of_ble_eq_true rfl) ?_
  refine lv_dup hx hb dC0_init_19 rfl ?_
  refine lv_aload_n hx hb dC0_init_20 rfl (lv_at hl 0 rfl) ?_
  refine va_get (D := (dC, dI)) (ci := 0) (v := .ref q1) (C := RC0) (T := TC0) (N := 5) hx hb hts inC0 hown hK hP 0 rfl rfl 0 (by decide) (hts _ mw_0) (fun _ h9 => h9) rfl dC0_init_21 ?_
  have hPc := hP.sub (ws' := [(q5, .inr (2, [.null, .null, .null, .null, .null, .null, .null, .null, .int 0, .int 0]))]) [5] rfl
  have hDc := hD.sub (ws' := [(q5, .inr (2, [.null, .null, .null, .null, .null, .null, .null, .null, .int 0, .int 0]))]) [5] (by decide) rfl
  have hKc := hK.sub (tys' := []) [] rfl
  have hFc := va_free (wc := [(q5, .inr (2, [.null, .null, .null, .null, .null, .null, .null, .null, .int 0, .int 0]))]) hD hS hA [5] rfl
  refine va_callv (va_runI (As := [.ref q1]) (rest := [.ref q5, .ref h0]) ⟨hx, hb, hml, hown, hts⟩ (kC2_init l dC dI q5 H.size q1) (cwI 1 hts (goodIn_all (fun w hw => by rcases List.mem_cons.mp hw with rfl | h; exact mw_656; exact h)) rfl rfl rfl (hts _ mw_40) (hts _ mw_657) (hts _ mw_658) rfl (by decide +kernel) ⟨Nat.le_of_ble_eq_true rfl, Nat.le_of_ble_eq_true rfl⟩) ⟨fun a U g mk q => by obtain ⟨q0, q1, qP, qK, qD⟩ := q; exact ⟨q0, q1, qP, va_K.moved (u := U) (U := U.calling g mk a) (Vm.Alike.refl U.vm) qK, qD⟩, fun U hU hW => ⟨rfl, by rw [hU], by rw [hU]; exact hPc, va_K.moved hW.alike hKc, hDc.weaken (fun _ _ _ _ => trivial)⟩⟩ rfl rfl hl.1 rfl (lv_room (Nat.le_of_ble_eq_true rfl)) dC0_init_24 ⟨Nat.le_of_ble_eq_true rfl, Nat.le_of_ble_eq_true rfl⟩) hS (fun q _ h => hFc q h) hFc (fun u t H1 locs ht hvm hw hB hz1 hk1 hS => ?_)
  obtain ⟨q6, q7, q8, q9, q10, q11, q12, d12_c1, d12_c2, d12_c3, d12_c4, d12_c5, d12_c6, d12_c7, hP1, hK1, hD1⟩ := hB
  rw [ht] at hP1
  have hK1 := va_K.moved hvm.symm hK1
  obtain ⟨hP, hD⟩ := va_join (wr := [(h0, .inr (0, [.ref q1, .null, .null, .null, .null])), (q1, .inr (1, [.ref q2, .ref q3, .ref q4, .int 0])), (q2, .inl (d4_c1, 40, .inr (.inl tabF))), (q3, .inl (d4_c2, 24, .inl (fun _ => (0 : Int32)))), (q4, .inl (d4_c3, 24, .inl (fun _ => (0 : Int32))))]) (w1 := [(q5, .inr (2, [.ref q1, .ref q6, .ref q7, .ref q8, .ref q9, .ref q10, .ref q11, .ref q12, .int 0, .int 0])), (q6, .inl (d12_c1, 61, .inl (fun _ => (0 : Int32)))), (q7, .inl (d12_c2, 61, .inl (fun _ => (0 : Int32)))), (q8, .inl (d12_c3, 61, .inl (fun _ => (0 : Int32)))), (q9, .inl (d12_c4, 61, .inl (fun _ => (0 : Int32)))), (q10, .inl (d12_c5, 61, .inl (fun _ => (0 : Int32)))), (q11, .inl (d12_c6, 244, .inl (fun _ => (0 : Int32)))), (q12, .inl (d12_c7, 24, .inl (fill1.1 0)))]) hP hD [5] [0, 1, 2, 3, 4] rfl rfl (by decide) (by decide) hk1 hFc hP1 hD1
  have hK := (hK.sub (tys' := [(d4_c1, .long), (d4_c2, .int), (d4_c3, .boolean)]) [0, 1, 2] rfl).app hK1
  generalize H1 = H at hP hS ⊢
  have hP : va_P (dC, dI) vwC [(h0, .inr (0, [.ref q1, .null, .null, .null, .null])), (q1, .inr (1, [.ref q2, .ref q3, .ref q4, .int 0])), (q2, .inl (d4_c1, 40, .inr (.inl tabF))), (q3, .inl (d4_c2, 24, .inl (fun _ => (0 : Int32)))), (q4, .inl (d4_c3, 24, .inl (fun _ => (0 : Int32)))), (q5, .inr (2, [.ref q1, .ref q6, .ref q7, .ref q8, .ref q9, .ref q10, .ref q11, .ref q12, .int 0, .int 0])), (q6, .inl (d12_c1, 61, .inl (fun _ => (0 : Int32)))), (q7, .inl (d12_c2, 61, .inl (fun _ => (0 : Int32)))), (q8, .inl (d12_c3, 61, .inl (fun _ => (0 : Int32)))), (q9, .inl (d12_c4, 61, .inl (fun _ => (0 : Int32)))), (q10, .inl (d12_c5, 61, .inl (fun _ => (0 : Int32)))), (q11, .inl (d12_c6, 244, .inl (fun _ => (0 : Int32)))), (q12, .inl (d12_c7, 24, .inl (fill1.1 0)))] H := hP
  have hD : va_D A [(h0, .inr (0, [.ref q1, .null, .null, .null, .null])), (q1, .inr (1, [.ref q2, .ref q3, .ref q4, .int 0])), (q2, .inl (d4_c1, 40, .inr (.inl tabF))), (q3, .inl (d4_c2, 24, .inl (fun _ => (0 : Int32)))), (q4, .inl (d4_c3, 24, .inl (fun _ => (0 : Int32)))), (q5, .inr (2, [.ref q1, .ref q6, .ref q7, .ref q8, .ref q9, .ref q10, .ref q11, .ref q12, .int 0, .int 0])), (q6, .inl (d12_c1, 61, .inl (fun _ => (0 : Int32)))), (q7, .inl (d12_c2, 61, .inl (fun _ => (0 : Int32)))), (q8, .inl (d12_c3, 61, .inl (fun _ => (0 : Int32)))), (q9, .inl (d12_c4, 61, .inl (fun _ => (0 : Int32)))), (q10, .inl (d12_c5, 61, .inl (fun _ => (0 : Int32)))), (q11, .inl (d12_c6, 244, .inl (fun _ => (0 : Int32)))), (q12, .inl (d12_c7, 24, .inl (fill1.1 0)))] := hD
  have hK : va_K (dC, dI) vwC [(d4_c1, .long), (d4_c2, .int), (d4_c3, .boolean), (d12_c1, .int), (d12_c2, .int), (d12_c3, .int), (d12_c4, .int), (d12_c5, .int), (d12_c6, .int), (d12_c7, .int)] s := hK
  refine W.widen (k := 12) (n := 675) (Nat.le_of_ble_eq_true rfl) (Nat.le_of_ble_eq_true rfl) ?_
  refine va_putF (D := (dC, dI)) (ci := 0) (v := .ref q5) (ty := .object "MemberChoice$Members") (C := RC0) (T := TC0) (N := 5) hx hb hts inC0 tyC0 tyC0_ok nnC0 hown hK hP hD hS 0 rfl rfl 1 (by decide) (hts _ mw_35) (fun _ h9 => h9) rfl hin rfl (by decide +kernel) rfl rfl (Nat.le_of_ble_eq_true rfl) dC0_init_27 (fun H locs hP hD hS => ?_)
  have hP : va_P (dC, dI) vwC [(h0, .inr (0, [.ref q1, .ref q5, .null, .null, .null])), (q1, .inr (1, [.ref q2, .ref q3, .ref q4, .int 0])), (q2, .inl (d4_c1, 40, .inr (.inl tabF))), (q3, .inl (d4_c2, 24, .inl (fun _ => (0 : Int32)))), (q4, .inl (d4_c3, 24, .inl (fun _ => (0 : Int32)))), (q5, .inr (2, [.ref q1, .ref q6, .ref q7, .ref q8, .ref q9, .ref q10, .ref q11, .ref q12, .int 0, .int 0])), (q6, .inl (d12_c1, 61, .inl (fun _ => (0 : Int32)))), (q7, .inl (d12_c2, 61, .inl (fun _ => (0 : Int32)))), (q8, .inl (d12_c3, 61, .inl (fun _ => (0 : Int32)))), (q9, .inl (d12_c4, 61, .inl (fun _ => (0 : Int32)))), (q10, .inl (d12_c5, 61, .inl (fun _ => (0 : Int32)))), (q11, .inl (d12_c6, 244, .inl (fun _ => (0 : Int32)))), (q12, .inl (d12_c7, 24, .inl (fill1.1 0)))] H := hP
  have hD : va_D A [(h0, .inr (0, [.ref q1, .ref q5, .null, .null, .null])), (q1, .inr (1, [.ref q2, .ref q3, .ref q4, .int 0])), (q2, .inl (d4_c1, 40, .inr (.inl tabF))), (q3, .inl (d4_c2, 24, .inl (fun _ => (0 : Int32)))), (q4, .inl (d4_c3, 24, .inl (fun _ => (0 : Int32)))), (q5, .inr (2, [.ref q1, .ref q6, .ref q7, .ref q8, .ref q9, .ref q10, .ref q11, .ref q12, .int 0, .int 0])), (q6, .inl (d12_c1, 61, .inl (fun _ => (0 : Int32)))), (q7, .inl (d12_c2, 61, .inl (fun _ => (0 : Int32)))), (q8, .inl (d12_c3, 61, .inl (fun _ => (0 : Int32)))), (q9, .inl (d12_c4, 61, .inl (fun _ => (0 : Int32)))), (q10, .inl (d12_c5, 61, .inl (fun _ => (0 : Int32)))), (q11, .inl (d12_c6, 244, .inl (fun _ => (0 : Int32)))), (q12, .inl (d12_c7, 24, .inl (fill1.1 0)))] := hD
  refine lv_aload_n hx hb dC0_init_30 rfl (lv_at hl 0 rfl) ?_
  refine va_new (ci := 3) (fs := [.null, .null, .null, .null, .null, .int 0]) (C := RC3) (T := TC3) (N := 6) hx hb hts inC3 tyC3 tyC3_ok hown (hts _ mw_659) (hts _ mw_660) (hts _ mw_184) hK hP hD hS hA rfl (fun j hj => by rcases (show j = 0 ∨ j = 1 ∨ j = 2 ∨ j = 3 ∨ j = 4 ∨ j = 5 by omega) with rfl | rfl | rfl | rfl | rfl | rfl <;> rfl) (Nat.le_of_ble_eq_true rfl) (Nat.le_of_ble_eq_true rfl) dC0_init_31 (fun q13 H hP hD hS => ?_)
  have hP : va_P (dC, dI) vwC [(h0, .inr (0, [.ref q1, .ref q5, .null, .null, .null])), (q1, .inr (1, [.ref q2, .ref q3, .ref q4, .int 0])), (q2, .inl (d4_c1, 40, .inr (.inl tabF))), (q3, .inl (d4_c2, 24, .inl (fun _ => (0 : Int32)))), (q4, .inl (d4_c3, 24, .inl (fun _ => (0 : Int32)))), (q5, .inr (2, [.ref q1, .ref q6, .ref q7, .ref q8, .ref q9, .ref q10, .ref q11, .ref q12, .int 0, .int 0])), (q6, .inl (d12_c1, 61, .inl (fun _ => (0 : Int32)))), (q7, .inl (d12_c2, 61, .inl (fun _ => (0 : Int32)))), (q8, .inl (d12_c3, 61, .inl (fun _ => (0 : Int32)))), (q9, .inl (d12_c4, 61, .inl (fun _ => (0 : Int32)))), (q10, .inl (d12_c5, 61, .inl (fun _ => (0 : Int32)))), (q11, .inl (d12_c6, 244, .inl (fun _ => (0 : Int32)))), (q12, .inl (d12_c7, 24, .inl (fill1.1 0))), (q13, .inr (3, [.null, .null, .null, .null, .null, .int 0]))] H := hP
  have hD : va_D A [(h0, .inr (0, [.ref q1, .ref q5, .null, .null, .null])), (q1, .inr (1, [.ref q2, .ref q3, .ref q4, .int 0])), (q2, .inl (d4_c1, 40, .inr (.inl tabF))), (q3, .inl (d4_c2, 24, .inl (fun _ => (0 : Int32)))), (q4, .inl (d4_c3, 24, .inl (fun _ => (0 : Int32)))), (q5, .inr (2, [.ref q1, .ref q6, .ref q7, .ref q8, .ref q9, .ref q10, .ref q11, .ref q12, .int 0, .int 0])), (q6, .inl (d12_c1, 61, .inl (fun _ => (0 : Int32)))), (q7, .inl (d12_c2, 61, .inl (fun _ => (0 : Int32)))), (q8, .inl (d12_c3, 61, .inl (fun _ => (0 : Int32)))), (q9, .inl (d12_c4, 61, .inl (fun _ => (0 : Int32)))), (q10, .inl (d12_c5, 61, .inl (fun _ => (0 : Int32)))), (q11, .inl (d12_c6, 244, .inl (fun _ => (0 : Int32)))), (q12, .inl (d12_c7, 24, .inl (fill1.1 0))), (q13, .inr (3, [.null, .null, .null, .null, .null, .int 0]))] := hD
  have hK : va_K (dC, dI) vwC [(d4_c1, .long), (d4_c2, .int), (d4_c3, .boolean), (d12_c1, .int), (d12_c2, .int), (d12_c3, .int), (d12_c4, .int), (d12_c5, .int), (d12_c6, .int), (d12_c7, .int)] s := hK
  refine W.widen (k := 13) (n := 681) (Nat.le_of_ble_eq_true rfl) (Nat.le_of_ble_eq_true rfl) ?_
  refine lv_dup hx hb dC0_init_34 rfl ?_
  have hPc := hP.sub (ws' := [(q13, .inr (3, [.null, .null, .null, .null, .null, .int 0]))]) [13] rfl
  have hDc := hD.sub (ws' := [(q13, .inr (3, [.null, .null, .null, .null, .null, .int 0]))]) [13] (by decide) rfl
  have hKc := hK.sub (tys' := []) [] rfl
  have hFc := va_free (wc := [(q13, .inr (3, [.null, .null, .null, .null, .null, .int 0]))]) hD hS hA [13] rfl
  refine va_callv (va_runI (As := []) (rest := [.ref q13, .ref h0]) ⟨hx, hb, hml, hown, hts⟩ (kC3_init l dC dI q13 H.size) (cwI 0 hts (goodIn_all (fun w hw => by rcases List.mem_cons.mp hw with rfl | h; exact mw_661; exact h)) rfl rfl rfl (hts _ mw_184) (hts _ mw_662) (hts _ mw_663) rfl (by decide +kernel) ⟨Nat.le_of_ble_eq_true rfl, Nat.le_of_ble_eq_true rfl⟩) ⟨fun a U g mk q => by obtain ⟨q0, q1, qP, qK, qD⟩ := q; exact ⟨q0, q1, qP, va_K.moved (u := U) (U := U.calling g mk a) (Vm.Alike.refl U.vm) qK, qD⟩, fun U hU hW => ⟨rfl, by rw [hU], by rw [hU]; exact hPc, va_K.moved hW.alike hKc, hDc.weaken (fun _ _ _ _ => trivial)⟩⟩ rfl rfl hl.1 rfl (lv_room (Nat.le_of_ble_eq_true rfl)) dC0_init_35 ⟨Nat.le_of_ble_eq_true rfl, Nat.le_of_ble_eq_true rfl⟩) hS (fun q _ h => hFc q h) hFc (fun u t H1 locs ht hvm hw hB hz1 hk1 hS => ?_)
  obtain ⟨q14, q15, q16, q17, q18, d18_c1, d18_c2, d18_c3, d18_c4, d18_c5, hP1, hK1, hD1⟩ := hB
  rw [ht] at hP1
  have hK1 := va_K.moved hvm.symm hK1
  obtain ⟨hP, hD⟩ := va_join (wr := [(h0, .inr (0, [.ref q1, .ref q5, .null, .null, .null])), (q1, .inr (1, [.ref q2, .ref q3, .ref q4, .int 0])), (q2, .inl (d4_c1, 40, .inr (.inl tabF))), (q3, .inl (d4_c2, 24, .inl (fun _ => (0 : Int32)))), (q4, .inl (d4_c3, 24, .inl (fun _ => (0 : Int32)))), (q5, .inr (2, [.ref q1, .ref q6, .ref q7, .ref q8, .ref q9, .ref q10, .ref q11, .ref q12, .int 0, .int 0])), (q6, .inl (d12_c1, 61, .inl (fun _ => (0 : Int32)))), (q7, .inl (d12_c2, 61, .inl (fun _ => (0 : Int32)))), (q8, .inl (d12_c3, 61, .inl (fun _ => (0 : Int32)))), (q9, .inl (d12_c4, 61, .inl (fun _ => (0 : Int32)))), (q10, .inl (d12_c5, 61, .inl (fun _ => (0 : Int32)))), (q11, .inl (d12_c6, 244, .inl (fun _ => (0 : Int32)))), (q12, .inl (d12_c7, 24, .inl (fill1.1 0)))]) (w1 := [(q13, .inr (3, [.ref q14, .ref q15, .ref q16, .ref q17, .ref q18, .int 0])), (q14, .inl (d18_c1, 5, .inl (fun _ => (0 : Int32)))), (q15, .inl (d18_c2, 5, .inl (fun _ => (0 : Int32)))), (q16, .inl (d18_c3, 5, .inl (fun _ => (0 : Int32)))), (q17, .inl (d18_c4, 5, .inl (fun _ => (0 : Int32)))), (q18, .inl (d18_c5, 10, .inl (fun _ => (0 : Int32))))]) hP hD [13] [0, 1, 2, 3, 4, 5, 6, 7, 8, 9, 10, 11, 12] rfl rfl (by decide) (by decide) hk1 hFc hP1 hD1
  have hK := (hK.sub (tys' := [(d4_c1, .long), (d4_c2, .int), (d4_c3, .boolean), (d12_c1, .int), (d12_c2, .int), (d12_c3, .int), (d12_c4, .int), (d12_c5, .int), (d12_c6, .int), (d12_c7, .int)]) [0, 1, 2, 3, 4, 5, 6, 7, 8, 9] rfl).app hK1
  generalize H1 = H at hP hS ⊢
  have hP : va_P (dC, dI) vwC [(h0, .inr (0, [.ref q1, .ref q5, .null, .null, .null])), (q1, .inr (1, [.ref q2, .ref q3, .ref q4, .int 0])), (q2, .inl (d4_c1, 40, .inr (.inl tabF))), (q3, .inl (d4_c2, 24, .inl (fun _ => (0 : Int32)))), (q4, .inl (d4_c3, 24, .inl (fun _ => (0 : Int32)))), (q5, .inr (2, [.ref q1, .ref q6, .ref q7, .ref q8, .ref q9, .ref q10, .ref q11, .ref q12, .int 0, .int 0])), (q6, .inl (d12_c1, 61, .inl (fun _ => (0 : Int32)))), (q7, .inl (d12_c2, 61, .inl (fun _ => (0 : Int32)))), (q8, .inl (d12_c3, 61, .inl (fun _ => (0 : Int32)))), (q9, .inl (d12_c4, 61, .inl (fun _ => (0 : Int32)))), (q10, .inl (d12_c5, 61, .inl (fun _ => (0 : Int32)))), (q11, .inl (d12_c6, 244, .inl (fun _ => (0 : Int32)))), (q12, .inl (d12_c7, 24, .inl (fill1.1 0))), (q13, .inr (3, [.ref q14, .ref q15, .ref q16, .ref q17, .ref q18, .int 0])), (q14, .inl (d18_c1, 5, .inl (fun _ => (0 : Int32)))), (q15, .inl (d18_c2, 5, .inl (fun _ => (0 : Int32)))), (q16, .inl (d18_c3, 5, .inl (fun _ => (0 : Int32)))), (q17, .inl (d18_c4, 5, .inl (fun _ => (0 : Int32)))), (q18, .inl (d18_c5, 10, .inl (fun _ => (0 : Int32))))] H := hP
  have hD : va_D A [(h0, .inr (0, [.ref q1, .ref q5, .null, .null, .null])), (q1, .inr (1, [.ref q2, .ref q3, .ref q4, .int 0])), (q2, .inl (d4_c1, 40, .inr (.inl tabF))), (q3, .inl (d4_c2, 24, .inl (fun _ => (0 : Int32)))), (q4, .inl (d4_c3, 24, .inl (fun _ => (0 : Int32)))), (q5, .inr (2, [.ref q1, .ref q6, .ref q7, .ref q8, .ref q9, .ref q10, .ref q11, .ref q12, .int 0, .int 0])), (q6, .inl (d12_c1, 61, .inl (fun _ => (0 : Int32)))), (q7, .inl (d12_c2, 61, .inl (fun _ => (0 : Int32)))), (q8, .inl (d12_c3, 61, .inl (fun _ => (0 : Int32)))), (q9, .inl (d12_c4, 61, .inl (fun _ => (0 : Int32)))), (q10, .inl (d12_c5, 61, .inl (fun _ => (0 : Int32)))), (q11, .inl (d12_c6, 244, .inl (fun _ => (0 : Int32)))), (q12, .inl (d12_c7, 24, .inl (fill1.1 0))), (q13, .inr (3, [.ref q14, .ref q15, .ref q16, .ref q17, .ref q18, .int 0])), (q14, .inl (d18_c1, 5, .inl (fun _ => (0 : Int32)))), (q15, .inl (d18_c2, 5, .inl (fun _ => (0 : Int32)))), (q16, .inl (d18_c3, 5, .inl (fun _ => (0 : Int32)))), (q17, .inl (d18_c4, 5, .inl (fun _ => (0 : Int32)))), (q18, .inl (d18_c5, 10, .inl (fun _ => (0 : Int32))))] := hD
  have hK : va_K (dC, dI) vwC [(d4_c1, .long), (d4_c2, .int), (d4_c3, .boolean), (d12_c1, .int), (d12_c2, .int), (d12_c3, .int), (d12_c4, .int), (d12_c5, .int), (d12_c6, .int), (d12_c7, .int), (d18_c1, .boolean), (d18_c2, .boolean), (d18_c3, .int), (d18_c4, .int), (d18_c5, .int)] s := hK
  refine W.widen (k := 18) (n := 711) (Nat.le_of_ble_eq_true rfl) (Nat.le_of_ble_eq_true rfl) ?_
  refine va_putF (D := (dC, dI)) (ci := 0) (v := .ref q13) (ty := .object "MemberChoice$Arguments") (C := RC0) (T := TC0) (N := 5) hx hb hts inC0 tyC0 tyC0_ok nnC0 hown hK hP hD hS 0 rfl rfl 2 (by decide) (hts _ mw_175) (fun _ h9 => h9) rfl hin rfl (by decide +kernel) rfl rfl (Nat.le_of_ble_eq_true rfl) dC0_init_38 (fun H locs hP hD hS => ?_)
  have hP : va_P (dC, dI) vwC [(h0, .inr (0, [.ref q1, .ref q5, .ref q13, .null, .null])), (q1, .inr (1, [.ref q2, .ref q3, .ref q4, .int 0])), (q2, .inl (d4_c1, 40, .inr (.inl tabF))), (q3, .inl (d4_c2, 24, .inl (fun _ => (0 : Int32)))), (q4, .inl (d4_c3, 24, .inl (fun _ => (0 : Int32)))), (q5, .inr (2, [.ref q1, .ref q6, .ref q7, .ref q8, .ref q9, .ref q10, .ref q11, .ref q12, .int 0, .int 0])), (q6, .inl (d12_c1, 61, .inl (fun _ => (0 : Int32)))), (q7, .inl (d12_c2, 61, .inl (fun _ => (0 : Int32)))), (q8, .inl (d12_c3, 61, .inl (fun _ => (0 : Int32)))), (q9, .inl (d12_c4, 61, .inl (fun _ => (0 : Int32)))), (q10, .inl (d12_c5, 61, .inl (fun _ => (0 : Int32)))), (q11, .inl (d12_c6, 244, .inl (fun _ => (0 : Int32)))), (q12, .inl (d12_c7, 24, .inl (fill1.1 0))), (q13, .inr (3, [.ref q14, .ref q15, .ref q16, .ref q17, .ref q18, .int 0])), (q14, .inl (d18_c1, 5, .inl (fun _ => (0 : Int32)))), (q15, .inl (d18_c2, 5, .inl (fun _ => (0 : Int32)))), (q16, .inl (d18_c3, 5, .inl (fun _ => (0 : Int32)))), (q17, .inl (d18_c4, 5, .inl (fun _ => (0 : Int32)))), (q18, .inl (d18_c5, 10, .inl (fun _ => (0 : Int32))))] H := hP
  have hD : va_D A [(h0, .inr (0, [.ref q1, .ref q5, .ref q13, .null, .null])), (q1, .inr (1, [.ref q2, .ref q3, .ref q4, .int 0])), (q2, .inl (d4_c1, 40, .inr (.inl tabF))), (q3, .inl (d4_c2, 24, .inl (fun _ => (0 : Int32)))), (q4, .inl (d4_c3, 24, .inl (fun _ => (0 : Int32)))), (q5, .inr (2, [.ref q1, .ref q6, .ref q7, .ref q8, .ref q9, .ref q10, .ref q11, .ref q12, .int 0, .int 0])), (q6, .inl (d12_c1, 61, .inl (fun _ => (0 : Int32)))), (q7, .inl (d12_c2, 61, .inl (fun _ => (0 : Int32)))), (q8, .inl (d12_c3, 61, .inl (fun _ => (0 : Int32)))), (q9, .inl (d12_c4, 61, .inl (fun _ => (0 : Int32)))), (q10, .inl (d12_c5, 61, .inl (fun _ => (0 : Int32)))), (q11, .inl (d12_c6, 244, .inl (fun _ => (0 : Int32)))), (q12, .inl (d12_c7, 24, .inl (fill1.1 0))), (q13, .inr (3, [.ref q14, .ref q15, .ref q16, .ref q17, .ref q18, .int 0])), (q14, .inl (d18_c1, 5, .inl (fun _ => (0 : Int32)))), (q15, .inl (d18_c2, 5, .inl (fun _ => (0 : Int32)))), (q16, .inl (d18_c3, 5, .inl (fun _ => (0 : Int32)))), (q17, .inl (d18_c4, 5, .inl (fun _ => (0 : Int32)))), (q18, .inl (d18_c5, 10, .inl (fun _ => (0 : Int32))))] := hD
  refine lv_aload_n hx hb dC0_init_41 rfl (lv_at hl 0 rfl) ?_
  refine va_new (ci := 4) (fs := [.null, .null, .null, .null, .null, .null, .int 0, .int 0, .long 0, .int 0]) (C := RC4) (T := TC4) (N := 10) hx hb hts inC4 tyC4 tyC4_ok hown (hts _ mw_664) (hts _ mw_665) (hts _ mw_204) hK hP hD hS hA rfl (fun j hj => by rcases (show j = 0 ∨ j = 1 ∨ j = 2 ∨ j = 3 ∨ j = 4 ∨ j = 5 ∨ j = 6 ∨ j = 7 ∨ j = 8 ∨ j = 9 by omega) with rfl | rfl | rfl | rfl | rfl | rfl | rfl | rfl | rfl | rfl <;> rfl) (Nat.le_of_ble_eq_true rfl) (Nat.le_of_ble_eq_true rfl) dC0_init_42 (fun q19 H hP hD hS => ?_)
  have hP : va_P (dC, dI) vwC [(h0, .inr (0, [.ref q1, .ref q5, .ref q13, .null, .null])), (q1, .inr (1, [.ref q2, .ref q3, .ref q4, .int 0])), (q2, .inl (d4_c1, 40, .inr (.inl tabF))), (q3, .inl (d4_c2, 24, .inl (fun _ => (0 : Int32)))), (q4, .inl (d4_c3, 24, .inl (fun _ => (0 : Int32)))), (q5, .inr (2, [.ref q1, .ref q6, .ref q7, .ref q8, .ref q9, .ref q10, .ref q11, .ref q12, .int 0, .int 0])), (q6, .inl (d12_c1, 61, .inl (fun _ => (0 : Int32)))), (q7, .inl (d12_c2, 61, .inl (fun _ => (0 : Int32)))), (q8, .inl (d12_c3, 61, .inl (fun _ => (0 : Int32)))), (q9, .inl (d12_c4, 61, .inl (fun _ => (0 : Int32)))), (q10, .inl (d12_c5, 61, .inl (fun _ => (0 : Int32)))), (q11, .inl (d12_c6, 244, .inl (fun _ => (0 : Int32)))), (q12, .inl (d12_c7, 24, .inl (fill1.1 0))), (q13, .inr (3, [.ref q14, .ref q15, .ref q16, .ref q17, .ref q18, .int 0])), (q14, .inl (d18_c1, 5, .inl (fun _ => (0 : Int32)))), (q15, .inl (d18_c2, 5, .inl (fun _ => (0 : Int32)))), (q16, .inl (d18_c3, 5, .inl (fun _ => (0 : Int32)))), (q17, .inl (d18_c4, 5, .inl (fun _ => (0 : Int32)))), (q18, .inl (d18_c5, 10, .inl (fun _ => (0 : Int32)))), (q19, .inr (4, [.null, .null, .null, .null, .null, .null, .int 0, .int 0, .long 0, .int 0]))] H := hP
  have hD : va_D A [(h0, .inr (0, [.ref q1, .ref q5, .ref q13, .null, .null])), (q1, .inr (1, [.ref q2, .ref q3, .ref q4, .int 0])), (q2, .inl (d4_c1, 40, .inr (.inl tabF))), (q3, .inl (d4_c2, 24, .inl (fun _ => (0 : Int32)))), (q4, .inl (d4_c3, 24, .inl (fun _ => (0 : Int32)))), (q5, .inr (2, [.ref q1, .ref q6, .ref q7, .ref q8, .ref q9, .ref q10, .ref q11, .ref q12, .int 0, .int 0])), (q6, .inl (d12_c1, 61, .inl (fun _ => (0 : Int32)))), (q7, .inl (d12_c2, 61, .inl (fun _ => (0 : Int32)))), (q8, .inl (d12_c3, 61, .inl (fun _ => (0 : Int32)))), (q9, .inl (d12_c4, 61, .inl (fun _ => (0 : Int32)))), (q10, .inl (d12_c5, 61, .inl (fun _ => (0 : Int32)))), (q11, .inl (d12_c6, 244, .inl (fun _ => (0 : Int32)))), (q12, .inl (d12_c7, 24, .inl (fill1.1 0))), (q13, .inr (3, [.ref q14, .ref q15, .ref q16, .ref q17, .ref q18, .int 0])), (q14, .inl (d18_c1, 5, .inl (fun _ => (0 : Int32)))), (q15, .inl (d18_c2, 5, .inl (fun _ => (0 : Int32)))), (q16, .inl (d18_c3, 5, .inl (fun _ => (0 : Int32)))), (q17, .inl (d18_c4, 5, .inl (fun _ => (0 : Int32)))), (q18, .inl (d18_c5, 10, .inl (fun _ => (0 : Int32)))), (q19, .inr (4, [.null, .null, .null, .null, .null, .null, .int 0, .int 0, .long 0, .int 0]))] := hD
  have hK : va_K (dC, dI) vwC [(d4_c1, .long), (d4_c2, .int), (d4_c3, .boolean), (d12_c1, .int), (d12_c2, .int), (d12_c3, .int), (d12_c4, .int), (d12_c5, .int), (d12_c6, .int), (d12_c7, .int), (d18_c1, .boolean), (d18_c2, .boolean), (d18_c3, .int), (d18_c4, .int), (d18_c5, .int)] s := hK
  refine W.widen (k := 19) (n := 721) (Nat.le_of_ble_eq_true rfl) (Nat.le_of_ble_eq_true rfl) ?_
  refine lv_dup hx hb dC0_init_45 rfl ?_
  refine lv_aload_n hx hb dC0_init_46 rfl (lv_at hl 0 rfl) ?_
  refine va_get (D := (dC, dI)) (ci := 0) (v := .ref q1) (C := RC0) (T := TC0) (N := 5) hx hb hts inC0 hown hK hP 0 rfl rfl 0 (by decide) (hts _ mw_0) (fun _ h9 => h9) rfl dC0_init_47 ?_
  refine lv_aload_n hx hb dC0_init_50 rfl (lv_at hl 0 rfl) ?_
  refine va_get (D := (dC, dI)) (ci := 0) (v := .ref q5) (C := RC0) (T := TC0) (N := 5) hx hb hts inC0 hown hK hP 0 rfl rfl 1 (by decide) (hts _ mw_35) (fun _ h9 => h9) rfl dC0_init_51 ?_
  refine lv_aload_n hx hb dC0_init_54 rfl (lv_at hl 0 rfl) ?_
  refine va_get (D := (dC, dI)) (ci := 0) (v := .ref q13) (C := RC0) (T := TC0) (N := 5) hx hb hts inC0 hown hK hP 0 rfl rfl 2 (by decide) (hts _ mw_175) (fun _ h9 => h9) rfl dC0_init_55 ?_
  have hPc := hP.sub (ws' := [(q19, .inr (4, [.null, .null, .null, .null, .null, .null, .int 0, .int 0, .long 0, .int 0]))]) [19] rfl
  have hDc := hD.sub (ws' := [(q19, .inr (4, [.null, .null, .null, .null, .null, .null, .int 0, .int 0, .long 0, .int 0]))]) [19] (by decide) rfl
  have hKc := hK.sub (tys' := []) [] rfl
  have hFc := va_free (wc := [(q19, .inr (4, [.null, .null, .null, .null, .null, .null, .int 0, .int 0, .long 0, .int 0]))]) hD hS hA [19] rfl
  refine va_callv (va_runI (As := [.ref q1, .ref q5, .ref q13]) (rest := [.ref q19, .ref h0]) ⟨hx, hb, hml, hown, hts⟩ (kC4_init l dC dI q19 H.size q1 q5 q13) (cwI 3 hts (goodIn_all (fun w hw => by rcases List.mem_cons.mp hw with rfl | h; exact mw_666; exact h)) rfl rfl rfl (hts _ mw_204) (hts _ mw_667) (hts _ mw_668) rfl (by decide +kernel) ⟨Nat.le_of_ble_eq_true rfl, Nat.le_of_ble_eq_true rfl⟩) ⟨fun a U g mk q => by obtain ⟨q0, q1, qP, qK, qD⟩ := q; exact ⟨q0, q1, qP, va_K.moved (u := U) (U := U.calling g mk a) (Vm.Alike.refl U.vm) qK, qD⟩, fun U hU hW => ⟨rfl, by rw [hU], by rw [hU]; exact hPc, va_K.moved hW.alike hKc, hDc.weaken (fun _ _ _ _ => trivial)⟩⟩ rfl rfl hl.1 rfl (lv_room (Nat.le_of_ble_eq_true rfl)) dC0_init_58 ⟨Nat.le_of_ble_eq_true rfl, Nat.le_of_ble_eq_true rfl⟩) hS (fun q _ h => hFc q h) hFc (fun u t H1 locs ht hvm hw hB hz1 hk1 hS => ?_)
  obtain ⟨q20, q21, q22, d22_c1, d22_c2, d22_c3, hP1, hK1, hD1⟩ := hB
  rw [ht] at hP1
  have hK1 := va_K.moved hvm.symm hK1
  obtain ⟨hP, hD⟩ := va_join (wr := [(h0, .inr (0, [.ref q1, .ref q5, .ref q13, .null, .null])), (q1, .inr (1, [.ref q2, .ref q3, .ref q4, .int 0])), (q2, .inl (d4_c1, 40, .inr (.inl tabF))), (q3, .inl (d4_c2, 24, .inl (fun _ => (0 : Int32)))), (q4, .inl (d4_c3, 24, .inl (fun _ => (0 : Int32)))), (q5, .inr (2, [.ref q1, .ref q6, .ref q7, .ref q8, .ref q9, .ref q10, .ref q11, .ref q12, .int 0, .int 0])), (q6, .inl (d12_c1, 61, .inl (fun _ => (0 : Int32)))), (q7, .inl (d12_c2, 61, .inl (fun _ => (0 : Int32)))), (q8, .inl (d12_c3, 61, .inl (fun _ => (0 : Int32)))), (q9, .inl (d12_c4, 61, .inl (fun _ => (0 : Int32)))), (q10, .inl (d12_c5, 61, .inl (fun _ => (0 : Int32)))), (q11, .inl (d12_c6, 244, .inl (fun _ => (0 : Int32)))), (q12, .inl (d12_c7, 24, .inl (fill1.1 0))), (q13, .inr (3, [.ref q14, .ref q15, .ref q16, .ref q17, .ref q18, .int 0])), (q14, .inl (d18_c1, 5, .inl (fun _ => (0 : Int32)))), (q15, .inl (d18_c2, 5, .inl (fun _ => (0 : Int32)))), (q16, .inl (d18_c3, 5, .inl (fun _ => (0 : Int32)))), (q17, .inl (d18_c4, 5, .inl (fun _ => (0 : Int32)))), (q18, .inl (d18_c5, 10, .inl (fun _ => (0 : Int32))))]) (w1 := [(q19, .inr (4, [.ref q1, .ref q5, .ref q13, .ref q20, .ref q21, .ref q22, .int 0, .int 0, .long 0, .int 0])), (q20, .inl (d22_c1, 60, .inl (fun _ => (0 : Int32)))), (q21, .inl (d22_c2, 60, .inl (fun _ => (0 : Int32)))), (q22, .inl (d22_c3, 60, .inr (.inl (fun _ => (0 : Int64)))))]) hP hD [19] [0, 1, 2, 3, 4, 5, 6, 7, 8, 9, 10, 11, 12, 13, 14, 15, 16, 17, 18] rfl rfl (by decide) (by decide) hk1 hFc hP1 hD1
  have hK := (hK.sub (tys' := [(d4_c1, .long), (d4_c2, .int), (d4_c3, .boolean), (d12_c1, .int), (d12_c2, .int), (d12_c3, .int), (d12_c4, .int), (d12_c5, .int), (d12_c6, .int), (d12_c7, .int), (d18_c1, .boolean), (d18_c2, .boolean), (d18_c3, .int), (d18_c4, .int), (d18_c5, .int)]) [0, 1, 2, 3, 4, 5, 6, 7, 8, 9, 10, 11, 12, 13, 14] rfl).app hK1
  generalize H1 = H at hP hS ⊢
  have hP : va_P (dC, dI) vwC [(h0, .inr (0, [.ref q1, .ref q5, .ref q13, .null, .null])), (q1, .inr (1, [.ref q2, .ref q3, .ref q4, .int 0])), (q2, .inl (d4_c1, 40, .inr (.inl tabF))), (q3, .inl (d4_c2, 24, .inl (fun _ => (0 : Int32)))), (q4, .inl (d4_c3, 24, .inl (fun _ => (0 : Int32)))), (q5, .inr (2, [.ref q1, .ref q6, .ref q7, .ref q8, .ref q9, .ref q10, .ref q11, .ref q12, .int 0, .int 0])), (q6, .inl (d12_c1, 61, .inl (fun _ => (0 : Int32)))), (q7, .inl (d12_c2, 61, .inl (fun _ => (0 : Int32)))), (q8, .inl (d12_c3, 61, .inl (fun _ => (0 : Int32)))), (q9, .inl (d12_c4, 61, .inl (fun _ => (0 : Int32)))), (q10, .inl (d12_c5, 61, .inl (fun _ => (0 : Int32)))), (q11, .inl (d12_c6, 244, .inl (fun _ => (0 : Int32)))), (q12, .inl (d12_c7, 24, .inl (fill1.1 0))), (q13, .inr (3, [.ref q14, .ref q15, .ref q16, .ref q17, .ref q18, .int 0])), (q14, .inl (d18_c1, 5, .inl (fun _ => (0 : Int32)))), (q15, .inl (d18_c2, 5, .inl (fun _ => (0 : Int32)))), (q16, .inl (d18_c3, 5, .inl (fun _ => (0 : Int32)))), (q17, .inl (d18_c4, 5, .inl (fun _ => (0 : Int32)))), (q18, .inl (d18_c5, 10, .inl (fun _ => (0 : Int32)))), (q19, .inr (4, [.ref q1, .ref q5, .ref q13, .ref q20, .ref q21, .ref q22, .int 0, .int 0, .long 0, .int 0])), (q20, .inl (d22_c1, 60, .inl (fun _ => (0 : Int32)))), (q21, .inl (d22_c2, 60, .inl (fun _ => (0 : Int32)))), (q22, .inl (d22_c3, 60, .inr (.inl (fun _ => (0 : Int64)))))] H := hP
  have hD : va_D A [(h0, .inr (0, [.ref q1, .ref q5, .ref q13, .null, .null])), (q1, .inr (1, [.ref q2, .ref q3, .ref q4, .int 0])), (q2, .inl (d4_c1, 40, .inr (.inl tabF))), (q3, .inl (d4_c2, 24, .inl (fun _ => (0 : Int32)))), (q4, .inl (d4_c3, 24, .inl (fun _ => (0 : Int32)))), (q5, .inr (2, [.ref q1, .ref q6, .ref q7, .ref q8, .ref q9, .ref q10, .ref q11, .ref q12, .int 0, .int 0])), (q6, .inl (d12_c1, 61, .inl (fun _ => (0 : Int32)))), (q7, .inl (d12_c2, 61, .inl (fun _ => (0 : Int32)))), (q8, .inl (d12_c3, 61, .inl (fun _ => (0 : Int32)))), (q9, .inl (d12_c4, 61, .inl (fun _ => (0 : Int32)))), (q10, .inl (d12_c5, 61, .inl (fun _ => (0 : Int32)))), (q11, .inl (d12_c6, 244, .inl (fun _ => (0 : Int32)))), (q12, .inl (d12_c7, 24, .inl (fill1.1 0))), (q13, .inr (3, [.ref q14, .ref q15, .ref q16, .ref q17, .ref q18, .int 0])), (q14, .inl (d18_c1, 5, .inl (fun _ => (0 : Int32)))), (q15, .inl (d18_c2, 5, .inl (fun _ => (0 : Int32)))), (q16, .inl (d18_c3, 5, .inl (fun _ => (0 : Int32)))), (q17, .inl (d18_c4, 5, .inl (fun _ => (0 : Int32)))), (q18, .inl (d18_c5, 10, .inl (fun _ => (0 : Int32)))), (q19, .inr (4, [.ref q1, .ref q5, .ref q13, .ref q20, .ref q21, .ref q22, .int 0, .int 0, .long 0, .int 0])), (q20, .inl (d22_c1, 60, .inl (fun _ => (0 : Int32)))), (q21, .inl (d22_c2, 60, .inl (fun _ => (0 : Int32)))), (q22, .inl (d22_c3, 60, .inr (.inl (fun _ => (0 : Int64)))))] := hD
  have hK : va_K (dC, dI) vwC [(d4_c1, .long), (d4_c2, .int), (d4_c3, .boolean), (d12_c1, .int), (d12_c2, .int), (d12_c3, .int), (d12_c4, .int), (d12_c5, .int), (d12_c6, .int), (d12_c7, .int), (d18_c1, .boolean), (d18_c2, .boolean), (d18_c3, .int), (d18_c4, .int), (d18_c5, .int), (d22_c1, .int), (d22_c2, .int), (d22_c3, .long)] s := hK
  refine W.widen (k := 22) (n := 901) (Nat.le_of_ble_eq_true rfl) (Nat.le_of_ble_eq_true rfl) ?_
  refine va_putF (D := (dC, dI)) (ci := 0) (v := .ref q19) (ty := .object "MemberChoice$Choice") (C := RC0) (T := TC0) (N := 5) hx hb hts inC0 tyC0 tyC0_ok nnC0 hown hK hP hD hS 0 rfl rfl 3 (by decide) (hts _ mw_197) (fun _ h9 => h9) rfl hin rfl (by decide +kernel) rfl rfl (Nat.le_of_ble_eq_true rfl) dC0_init_61 (fun H locs hP hD hS => ?_)
  have hP : va_P (dC, dI) vwC [(h0, .inr (0, [.ref q1, .ref q5, .ref q13, .ref q19, .null])), (q1, .inr (1, [.ref q2, .ref q3, .ref q4, .int 0])), (q2, .inl (d4_c1, 40, .inr (.inl tabF))), (q3, .inl (d4_c2, 24, .inl (fun _ => (0 : Int32)))), (q4, .inl (d4_c3, 24, .inl (fun _ => (0 : Int32)))), (q5, .inr (2, [.ref q1, .ref q6, .ref q7, .ref q8, .ref q9, .ref q10, .ref q11, .ref q12, .int 0, .int 0])), (q6, .inl (d12_c1, 61, .inl (fun _ => (0 : Int32)))), (q7, .inl (d12_c2, 61, .inl (fun _ => (0 : Int32)))), (q8, .inl (d12_c3, 61, .inl (fun _ => (0 : Int32)))), (q9, .inl (d12_c4, 61, .inl (fun _ => (0 : Int32)))), (q10, .inl (d12_c5, 61, .inl (fun _ => (0 : Int32)))), (q11, .inl (d12_c6, 244, .inl (fun _ => (0 : Int32)))), (q12, .inl (d12_c7, 24, .inl (fill1.1 0))), (q13, .inr (3, [.ref q14, .ref q15, .ref q16, .ref q17, .ref q18, .int 0])), (q14, .inl (d18_c1, 5, .inl (fun _ => (0 : Int32)))), (q15, .inl (d18_c2, 5, .inl (fun _ => (0 : Int32)))), (q16, .inl (d18_c3, 5, .inl (fun _ => (0 : Int32)))), (q17, .inl (d18_c4, 5, .inl (fun _ => (0 : Int32)))), (q18, .inl (d18_c5, 10, .inl (fun _ => (0 : Int32)))), (q19, .inr (4, [.ref q1, .ref q5, .ref q13, .ref q20, .ref q21, .ref q22, .int 0, .int 0, .long 0, .int 0])), (q20, .inl (d22_c1, 60, .inl (fun _ => (0 : Int32)))), (q21, .inl (d22_c2, 60, .inl (fun _ => (0 : Int32)))), (q22, .inl (d22_c3, 60, .inr (.inl (fun _ => (0 : Int64)))))] H := hP
  have hD : va_D A [(h0, .inr (0, [.ref q1, .ref q5, .ref q13, .ref q19, .null])), (q1, .inr (1, [.ref q2, .ref q3, .ref q4, .int 0])), (q2, .inl (d4_c1, 40, .inr (.inl tabF))), (q3, .inl (d4_c2, 24, .inl (fun _ => (0 : Int32)))), (q4, .inl (d4_c3, 24, .inl (fun _ => (0 : Int32)))), (q5, .inr (2, [.ref q1, .ref q6, .ref q7, .ref q8, .ref q9, .ref q10, .ref q11, .ref q12, .int 0, .int 0])), (q6, .inl (d12_c1, 61, .inl (fun _ => (0 : Int32)))), (q7, .inl (d12_c2, 61, .inl (fun _ => (0 : Int32)))), (q8, .inl (d12_c3, 61, .inl (fun _ => (0 : Int32)))), (q9, .inl (d12_c4, 61, .inl (fun _ => (0 : Int32)))), (q10, .inl (d12_c5, 61, .inl (fun _ => (0 : Int32)))), (q11, .inl (d12_c6, 244, .inl (fun _ => (0 : Int32)))), (q12, .inl (d12_c7, 24, .inl (fill1.1 0))), (q13, .inr (3, [.ref q14, .ref q15, .ref q16, .ref q17, .ref q18, .int 0])), (q14, .inl (d18_c1, 5, .inl (fun _ => (0 : Int32)))), (q15, .inl (d18_c2, 5, .inl (fun _ => (0 : Int32)))), (q16, .inl (d18_c3, 5, .inl (fun _ => (0 : Int32)))), (q17, .inl (d18_c4, 5, .inl (fun _ => (0 : Int32)))), (q18, .inl (d18_c5, 10, .inl (fun _ => (0 : Int32)))), (q19, .inr (4, [.ref q1, .ref q5, .ref q13, .ref q20, .ref q21, .ref q22, .int 0, .int 0, .long 0, .int 0])), (q20, .inl (d22_c1, 60, .inl (fun _ => (0 : Int32)))), (q21, .inl (d22_c2, 60, .inl (fun _ => (0 : Int32)))), (q22, .inl (d22_c3, 60, .inr (.inl (fun _ => (0 : Int64)))))] := hD
  refine lv_aload_n hx hb dC0_init_64 rfl (lv_at hl 0 rfl) ?_
  refine lv_bipush (v := (60 : Int32)) hx hb dC0_init_65 (by decide) ?_
  refine va_newa (atype := .int) (N' := 60) (a0 := (60, .inl (fun _ => (0 : Int32)))) hx hb (hts _ mw_636) rfl hK hP hD hS hA (fun cA => rfl) (by decide) (by decide) (by decide) (Nat.le_of_ble_eq_true rfl) (Nat.le_of_ble_eq_true rfl) dC0_init_67 (fun q23 c23 H hK hP hD hS => ?_)
  have hP : va_P (dC, dI) vwC [(h0, .inr (0, [.ref q1, .ref q5, .ref q13, .ref q19, .null])), (q1, .inr (1, [.ref q2, .ref q3, .ref q4, .int 0])), (q2, .inl (d4_c1, 40, .inr (.inl tabF))), (q3, .inl (d4_c2, 24, .inl (fun _ => (0 : Int32)))), (q4, .inl (d4_c3, 24, .inl (fun _ => (0 : Int32)))), (q5, .inr (2, [.ref q1, .ref q6, .ref q7, .ref q8, .ref q9, .ref q10, .ref q11, .ref q12, .int 0, .int 0])), (q6, .inl (d12_c1, 61, .inl (fun _ => (0 : Int32)))), (q7, .inl (d12_c2, 61, .inl (fun _ => (0 : Int32)))), (q8, .inl (d12_c3, 61, .inl (fun _ => (0 : Int32)))), (q9, .inl (d12_c4, 61, .inl (fun _ => (0 : Int32)))), (q10, .inl (d12_c5, 61, .inl (fun _ => (0 : Int32)))), (q11, .inl (d12_c6, 244, .inl (fun _ => (0 : Int32)))), (q12, .inl (d12_c7, 24, .inl (fill1.1 0))), (q13, .inr (3, [.ref q14, .ref q15, .ref q16, .ref q17, .ref q18, .int 0])), (q14, .inl (d18_c1, 5, .inl (fun _ => (0 : Int32)))), (q15, .inl (d18_c2, 5, .inl (fun _ => (0 : Int32)))), (q16, .inl (d18_c3, 5, .inl (fun _ => (0 : Int32)))), (q17, .inl (d18_c4, 5, .inl (fun _ => (0 : Int32)))), (q18, .inl (d18_c5, 10, .inl (fun _ => (0 : Int32)))), (q19, .inr (4, [.ref q1, .ref q5, .ref q13, .ref q20, .ref q21, .ref q22, .int 0, .int 0, .long 0, .int 0])), (q20, .inl (d22_c1, 60, .inl (fun _ => (0 : Int32)))), (q21, .inl (d22_c2, 60, .inl (fun _ => (0 : Int32)))), (q22, .inl (d22_c3, 60, .inr (.inl (fun _ => (0 : Int64))))), (q23, .inl (c23, 60, .inl (fun _ => (0 : Int32))))] H := hP
  have hD : va_D A [(h0, .inr (0, [.ref q1, .ref q5, .ref q13, .ref q19, .null])), (q1, .inr (1, [.ref q2, .ref q3, .ref q4, .int 0])), (q2, .inl (d4_c1, 40, .inr (.inl tabF))), (q3, .inl (d4_c2, 24, .inl (fun _ => (0 : Int32)))), (q4, .inl (d4_c3, 24, .inl (fun _ => (0 : Int32)))), (q5, .inr (2, [.ref q1, .ref q6, .ref q7, .ref q8, .ref q9, .ref q10, .ref q11, .ref q12, .int 0, .int 0])), (q6, .inl (d12_c1, 61, .inl (fun _ => (0 : Int32)))), (q7, .inl (d12_c2, 61, .inl (fun _ => (0 : Int32)))), (q8, .inl (d12_c3, 61, .inl (fun _ => (0 : Int32)))), (q9, .inl (d12_c4, 61, .inl (fun _ => (0 : Int32)))), (q10, .inl (d12_c5, 61, .inl (fun _ => (0 : Int32)))), (q11, .inl (d12_c6, 244, .inl (fun _ => (0 : Int32)))), (q12, .inl (d12_c7, 24, .inl (fill1.1 0))), (q13, .inr (3, [.ref q14, .ref q15, .ref q16, .ref q17, .ref q18, .int 0])), (q14, .inl (d18_c1, 5, .inl (fun _ => (0 : Int32)))), (q15, .inl (d18_c2, 5, .inl (fun _ => (0 : Int32)))), (q16, .inl (d18_c3, 5, .inl (fun _ => (0 : Int32)))), (q17, .inl (d18_c4, 5, .inl (fun _ => (0 : Int32)))), (q18, .inl (d18_c5, 10, .inl (fun _ => (0 : Int32)))), (q19, .inr (4, [.ref q1, .ref q5, .ref q13, .ref q20, .ref q21, .ref q22, .int 0, .int 0, .long 0, .int 0])), (q20, .inl (d22_c1, 60, .inl (fun _ => (0 : Int32)))), (q21, .inl (d22_c2, 60, .inl (fun _ => (0 : Int32)))), (q22, .inl (d22_c3, 60, .inr (.inl (fun _ => (0 : Int64))))), (q23, .inl (c23, 60, .inl (fun _ => (0 : Int32))))] := hD
  have hK : va_K (dC, dI) vwC [(d4_c1, .long), (d4_c2, .int), (d4_c3, .boolean), (d12_c1, .int), (d12_c2, .int), (d12_c3, .int), (d12_c4, .int), (d12_c5, .int), (d12_c6, .int), (d12_c7, .int), (d18_c1, .boolean), (d18_c2, .boolean), (d18_c3, .int), (d18_c4, .int), (d18_c5, .int), (d22_c1, .int), (d22_c2, .int), (d22_c3, .long), (c23, .int)] s := hK
  refine W.widen (k := 23) (n := 961) (Nat.le_of_ble_eq_true rfl) (Nat.le_of_ble_eq_true rfl) ?_
  refine va_putF (D := (dC, dI)) (ci := 0) (v := .ref q23) (ty := .array .int) (C := RC0) (T := TC0) (N := 5) hx hb hts inC0 tyC0 tyC0_ok nnC0 hown hK hP hD hS 0 rfl rfl 4 (by decide) (hts _ mw_170) (fun _ h9 => h9) rfl hin rfl (by decide +kernel) rfl rfl (Nat.le_of_ble_eq_true rfl) dC0_init_69 (fun H locs hP hD hS => ?_)
  have hP : va_P (dC, dI) vwC [(h0, .inr (0, [.ref q1, .ref q5, .ref q13, .ref q19, .ref q23])), (q1, .inr (1, [.ref q2, .ref q3, .ref q4, .int 0])), (q2, .inl (d4_c1, 40, .inr (.inl tabF))), (q3, .inl (d4_c2, 24, .inl (fun _ => (0 : Int32)))), (q4, .inl (d4_c3, 24, .inl (fun _ => (0 : Int32)))), (q5, .inr (2, [.ref q1, .ref q6, .ref q7, .ref q8, .ref q9, .ref q10, .ref q11, .ref q12, .int 0, .int 0])), (q6, .inl (d12_c1, 61, .inl (fun _ => (0 : Int32)))), (q7, .inl (d12_c2, 61, .inl (fun _ => (0 : Int32)))), (q8, .inl (d12_c3, 61, .inl (fun _ => (0 : Int32)))), (q9, .inl (d12_c4, 61, .inl (fun _ => (0 : Int32)))), (q10, .inl (d12_c5, 61, .inl (fun _ => (0 : Int32)))), (q11, .inl (d12_c6, 244, .inl (fun _ => (0 : Int32)))), (q12, .inl (d12_c7, 24, .inl (fill1.1 0))), (q13, .inr (3, [.ref q14, .ref q15, .ref q16, .ref q17, .ref q18, .int 0])), (q14, .inl (d18_c1, 5, .inl (fun _ => (0 : Int32)))), (q15, .inl (d18_c2, 5, .inl (fun _ => (0 : Int32)))), (q16, .inl (d18_c3, 5, .inl (fun _ => (0 : Int32)))), (q17, .inl (d18_c4, 5, .inl (fun _ => (0 : Int32)))), (q18, .inl (d18_c5, 10, .inl (fun _ => (0 : Int32)))), (q19, .inr (4, [.ref q1, .ref q5, .ref q13, .ref q20, .ref q21, .ref q22, .int 0, .int 0, .long 0, .int 0])), (q20, .inl (d22_c1, 60, .inl (fun _ => (0 : Int32)))), (q21, .inl (d22_c2, 60, .inl (fun _ => (0 : Int32)))), (q22, .inl (d22_c3, 60, .inr (.inl (fun _ => (0 : Int64))))), (q23, .inl (c23, 60, .inl (fun _ => (0 : Int32))))] H := hP
  have hD : va_D A [(h0, .inr (0, [.ref q1, .ref q5, .ref q13, .ref q19, .ref q23])), (q1, .inr (1, [.ref q2, .ref q3, .ref q4, .int 0])), (q2, .inl (d4_c1, 40, .inr (.inl tabF))), (q3, .inl (d4_c2, 24, .inl (fun _ => (0 : Int32)))), (q4, .inl (d4_c3, 24, .inl (fun _ => (0 : Int32)))), (q5, .inr (2, [.ref q1, .ref q6, .ref q7, .ref q8, .ref q9, .ref q10, .ref q11, .ref q12, .int 0, .int 0])), (q6, .inl (d12_c1, 61, .inl (fun _ => (0 : Int32)))), (q7, .inl (d12_c2, 61, .inl (fun _ => (0 : Int32)))), (q8, .inl (d12_c3, 61, .inl (fun _ => (0 : Int32)))), (q9, .inl (d12_c4, 61, .inl (fun _ => (0 : Int32)))), (q10, .inl (d12_c5, 61, .inl (fun _ => (0 : Int32)))), (q11, .inl (d12_c6, 244, .inl (fun _ => (0 : Int32)))), (q12, .inl (d12_c7, 24, .inl (fill1.1 0))), (q13, .inr (3, [.ref q14, .ref q15, .ref q16, .ref q17, .ref q18, .int 0])), (q14, .inl (d18_c1, 5, .inl (fun _ => (0 : Int32)))), (q15, .inl (d18_c2, 5, .inl (fun _ => (0 : Int32)))), (q16, .inl (d18_c3, 5, .inl (fun _ => (0 : Int32)))), (q17, .inl (d18_c4, 5, .inl (fun _ => (0 : Int32)))), (q18, .inl (d18_c5, 10, .inl (fun _ => (0 : Int32)))), (q19, .inr (4, [.ref q1, .ref q5, .ref q13, .ref q20, .ref q21, .ref q22, .int 0, .int 0, .long 0, .int 0])), (q20, .inl (d22_c1, 60, .inl (fun _ => (0 : Int32)))), (q21, .inl (d22_c2, 60, .inl (fun _ => (0 : Int32)))), (q22, .inl (d22_c3, 60, .inr (.inl (fun _ => (0 : Int64))))), (q23, .inl (c23, 60, .inl (fun _ => (0 : Int32))))] := hD
  exact W.vret hx hb hr (fun t ht hW => ⟨⟨(), rfl, trivial, q1, q2, q3, q4, q5, q6, q7, q8, q9, q10, q11, q12, q13, q14, q15, q16, q17, q18, q19, q20, q21, q22, q23, d4_c1, d4_c2, d4_c3, d12_c1, d12_c2, d12_c3, d12_c4, d12_c5, d12_c6, d12_c7, d18_c1, d18_c2, d18_c3, d18_c4, d18_c5, d22_c1, d22_c2, d22_c3, c23, by rw [ht]; exact hP, va_K.moved hW.alike hK, hD⟩, hS.F ht⟩) hS.2.2 dC0_init_72
set_option maxHeartbeats 8000000 in
set_option maxRecDepth 100000 in
theorem kCM_init (l : Launch) (dC : Nat → ClassId) (dI : Nat → Nat → Nat) (h0 sz : Nat) : Met l yCM_init wsCM_init ({ frames := 1, cells := 19, slots := 4998, locals := 12 }) (va_Pc [.ref h0] (fun U => U.heap.size = sz ∧ va_P (dC, dI) vwC [(h0, .inr (5, [.int 0, .null, .null, .null, .null, .null, .int 0, .null, .null, .null, .null, .null, .null, .int 0, .null, .null, .null, .null, .null, .int 0, .null, .null, .null]))] U.heap ∧ va_K (dC, dI) vwC [] U ∧ va_D (fun _ => True) [(h0, .inr (5, [.int 0, .null, .null, .null, .null, .null, .int 0, .null, .null, .null, .null, .null, .null, .int 0, .null, .null, .null, .null, .null, .int 0, .null, .null, .null]))])) (va_Qv (fun (_ : Unit) => True) (fun (_ : Unit) t => ∃ (q1 q2 q3 q4 q5 q6 q7 q8 q9 q10 q11 q12 q13 q14 q15 q16 q17 q18 q19 : Nat) (c1 c2 c3 c4 c5 c6 c7 c8 c9 c10 c11 c12 c13 c14 c15 c16 c17 c18 c19 : ClassId), va_P (dC, dI) vwC [(h0, .inr (5, [.int 0, .ref q1, .ref q2, .ref q3, .ref q4, .ref q5, .int 0, .ref q6, .ref q7, .ref q8, .ref q9, .ref q10, .ref q11, .int 0, .ref q12, .ref q13, .ref q14, .ref q15, .ref q16, .int 0, .ref q17, .ref q18, .ref q19])), (q1, .inl (c1, 24, .inl (fun _ => (0 : Int32)))), (q2, .inl (c2, 24, .inl (fun _ => (0 : Int32)))), (q3, .inl (c3, 24, .inl (fun _ => (0 : Int32)))), (q4, .inl (c4, 96, .inl (fun _ => (0 : Int32)))), (q5, .inl (c5, 576, .inl (fun _ => (0 : Int32)))), (q6, .inl (c6, 60, .inl (fun _ => (0 : Int32)))), (q7, .inl (c7, 60, .inl (fun _ => (0 : Int32)))), (q8, .inl (c8, 60, .inl (fun _ => (0 : Int32)))), (q9, .inl (c9, 60, .inl (fun _ => (0 : Int32)))), (q10, .inl (c10, 60, .inl (fun _ => (0 : Int32)))), (q11, .inl (c11, 240, .inl (fun _ => (0 : Int32)))), (q12, .inl (c12, 5, .inl (fun _ => (0 : Int32)))), (q13, .inl (c13, 5, .inl (fun _ => (0 : Int32)))), (q14, .inl (c14, 5, .inl (fun _ => (0 : Int32)))), (q15, .inl (c15, 10, .inl (fun _ => (0 : Int32)))), (q16, .inl (c16, 5, .inl (fun _ => (0 : Int32)))), (q17, .inl (c17, 60, .inl (fun _ => (0 : Int32)))), (q18, .inl (c18, 3600, .inl (fun _ => (0 : Int32)))), (q19, .inl (c19, 24, .inl (fun _ => (0 : Int32))))] t.heap ∧ va_K (dC, dI) vwC [(c1, .boolean), (c2, .int), (c3, .int), (c4, .int), (c5, .boolean), (c6, .int), (c7, .int), (c8, .int), (c9, .int), (c10, .int), (c11, .int), (c12, .int), (c13, .int), (c14, .int), (c15, .int), (c16, .int), (c17, .boolean), (c18, .boolean), (c19, .int)] t ∧ va_D (va_A [(h0, .inr (5, [.int 0, .null, .null, .null, .null, .null, .int 0, .null, .null, .null, .null, .null, .null, .int 0, .null, .null, .null, .null, .null, .int 0, .null, .null, .null]))] sz) [(h0, .inr (5, [.int 0, .ref q1, .ref q2, .ref q3, .ref q4, .ref q5, .int 0, .ref q6, .ref q7, .ref q8, .ref q9, .ref q10, .ref q11, .int 0, .ref q12, .ref q13, .ref q14, .ref q15, .ref q16, .int 0, .ref q17, .ref q18, .ref q19])), (q1, .inl (c1, 24, .inl (fun _ => (0 : Int32)))), (q2, .inl (c2, 24, .inl (fun _ => (0 : Int32)))), (q3, .inl (c3, 24, .inl (fun _ => (0 : Int32)))), (q4, .inl (c4, 96, .inl (fun _ => (0 : Int32)))), (q5, .inl (c5, 576, .inl (fun _ => (0 : Int32)))), (q6, .inl (c6, 60, .inl (fun _ => (0 : Int32)))), (q7, .inl (c7, 60, .inl (fun _ => (0 : Int32)))), (q8, .inl (c8, 60, .inl (fun _ => (0 : Int32)))), (q9, .inl (c9, 60, .inl (fun _ => (0 : Int32)))), (q10, .inl (c10, 60, .inl (fun _ => (0 : Int32)))), (q11, .inl (c11, 240, .inl (fun _ => (0 : Int32)))), (q12, .inl (c12, 5, .inl (fun _ => (0 : Int32)))), (q13, .inl (c13, 5, .inl (fun _ => (0 : Int32)))), (q14, .inl (c14, 5, .inl (fun _ => (0 : Int32)))), (q15, .inl (c15, 10, .inl (fun _ => (0 : Int32)))), (q16, .inl (c16, 5, .inl (fun _ => (0 : Int32)))), (q17, .inl (c17, 60, .inl (fun _ => (0 : Int32)))), (q18, .inl (c18, 3600, .inl (fun _ => (0 : Int32)))), (q19, .inl (c19, 24, .inl (fun _ => (0 : Int32))))]) (va_A [(h0, .inr (5, [.int 0, .null, .null, .null, .null, .null, .int 0, .null, .null, .null, .null, .null, .null, .int 0, .null, .null, .null, .null, .null, .int 0, .null, .null, .null]))] sz)) 19 4998 (va_A [(h0, .inr (5, [.int 0, .null, .null, .null, .null, .null, .int 0, .null, .null, .null, .null, .null, .null, .int 0, .null, .null, .null, .null, .null, .int 0, .null, .null, .null]))] sz) := by
  refine Met.ofW (cc := cCM_init) (maxL := 1) (ret := none) (by decide) rfl ?_
  intro p e s m args below meth c s₁ B hml hv
  obtain ⟨rfl, hsz, hP, hK, hD0⟩ := hv
  have hx := B.exec
  have hb := B.bytes
  have hr := B.returns
  have hts : ∀ w ∈ wAll, w.before _ s = true := fun w h => atoms_spec (ws := wsCM_init) B.pre w (List.mem_cons_of_mem _ h)
  have hown : s.vm.findClass RCM = some m.cls := findClass_of_methodNamed B.named
  have hlocks := B.notSynchronized
  have hin : meth.name = "<init>" := (name_of_methodNamed B.named B.method).1
  subst hsz
  have hD := hD0.self (sz := s.heap.size)
  generalize hAe : va_A [(h0, .inr (5, [.int 0, .null, .null, .null, .null, .null, .int 0, .null, .null, .null, .null, .null, .null, .int 0, .null, .null, .null, .null, .null, .int 0, .null, .null, .null]))] s.heap.size = A at hD ⊢
  have hA : ∀ q : Nat, s.heap.size ≤ q → A q := fun q h => by rw [← hAe]; exact Or.inr h
  have hS : va_S A s.heap s.heap [] := va_S.rf
  have hl := lv_entry ([.ref h0]) (n := 1) (Nat.le_of_ble_eq_true rfl)
  rw [lg_entry_eq]
  generalize (lg_sl ([.ref h0]) ++ List.replicate (1 - (lg_sl ([.ref h0])).length) Slot.unset).toArray = ls at hl ⊢
  have hl : lv_has ls 1 [(0, .ref h0)] := hl
  refine lv_aload_n hx hb dCM_init_0 rfl (lv_at hl 0 rfl) ?_
  refine W.objInit hx hb hown (hts _ mw_669) (hts _ mw_634) (hts _ mw_623) rfl (by rw [hml]; exact hl.1) rfl dCM_init_1 (Nat.le_of_ble_eq_true rfl) (Nat.le_of_ble_eq_true rfl) ?_
  refine W.eq (g2 := F0 m 4 ls []) rfl ?_
  refine lv_aload_n hx hb dCM_init_4 rfl (lv_at hl 0 rfl) ?_
  refine lv_bipush (v := (24 : Int32)) hx hb dCM_init_5 (by decide) ?_
  refine va_newa (atype := .boolean) (N' := 24) (a0 := (24, .inl (fun _ => (0 : Int32)))) hx hb (hts _ mw_635) rfl hK hP hD hS hA (fun cA => rfl) (by decide) (by decide) (by decide) (Nat.le_of_ble_eq_true rfl) (Nat.le_of_ble_eq_true rfl) dCM_init_7 (fun q1 c1 H hK hP hD hS => ?_)
  have hP : va_P (dC, dI) vwC [(h0, .inr (5, [.int 0, .null, .null, .null, .null, .null, .int 0, .null, .null, .null, .null, .null, .null, .int 0, .null, .null, .null, .null, .null, .int 0, .null, .null, .null])), (q1, .inl (c1, 24, .inl (fun _ => (0 : Int32))))] H := hP
  have hD : va_D A [(h0, .inr (5, [.int 0, .null, .null, .null, .null, .null, .int 0, .null, .null, .null, .null, .null, .null, .int 0, .null, .null, .null, .null, .null, .int 0, .null, .null, .null])), (q1, .inl (c1, 24, .inl (fun _ => (0 : Int32))))] := hD
  have hK : va_K (dC, dI) vwC [(c1, .boolean)] s := hK
  refine W.widen (k := 1) (n := 24) (Nat.le_of_ble_eq_true rfl) (Nat.le_of_ble_eq_true rfl) ?_
  refine va_putF (D := (dC, dI)) (ci := 5) (v := .ref q1) (ty := .array .boolean) (C := RCM) (T := TCM) (N := 23) hx hb hts inCM tyCM tyCM_ok nnCM hown hK hP hD hS 0 rfl rfl 1 (by decide) (hts _ mw_357) (fun _ h9 => h9) rfl hin rfl (by decide +kernel) rfl rfl (Nat.le_of_ble_eq_true rfl) dCM_init_9 (fun H locs hP hD hS => ?_)
  have hP : va_P (dC, dI) vwC [(h0, .inr (5, [.int 0, .ref q1, .null, .null, .null, .null, .int 0, .null, .null, .null, .null, .null, .null, .int 0, .null, .null, .null, .null, .null, .int 0, .null, .null, .null])), (q1, .inl (c1, 24, .inl (fun _ => (0 : Int32))))] H := hP
  have hD : va_D A [(h0, .inr (5, [.int 0, .ref q1, .null, .null, .null, .null, .int 0, .null, .null, .null, .null, .null, .null, .int 0, .null, .null, .null, .null, .null, .int 0, .null, .null, .null])), (q1, .inl (c1, 24, .inl (fun _ => (0 : Int32))))] := hD
  refine lv_aload_n hx hb dCM_init_12 rfl (lv_at hl 0 rfl) ?_
  refine lv_bipush (v := (24 : Int32)) hx hb dCM_init_13 (by decide) ?_
  refine va_newa (atype := .int) (N' := 24) (a0 := (24, .inl (fun _ => (0 : Int32)))) hx hb (hts _ mw_636) rfl hK hP hD hS hA (fun cA => rfl) (by decide) (by decide) (by decide) (Nat.le_of_ble_eq_true rfl) (Nat.le_of_ble_eq_true rfl) dCM_init_15 (fun q2 c2 H hK hP hD hS => ?_)
  have hP : va_P (dC, dI) vwC [(h0, .inr (5, [.int 0, .ref q1, .null, .null, .null, .null, .int 0, .null, .null, .null, .null, .null, .null, .int 0, .null, .null, .null, .null, .null, .int 0, .null, .null, .null])), (q1, .inl (c1, 24, .inl (fun _ => (0 : Int32)))), (q2, .inl (c2, 24, .inl (fun _ => (0 : Int32))))] H := hP
  have hD : va_D A [(h0, .inr (5, [.int 0, .ref q1, .null, .null, .null, .null, .int 0, .null, .null, .null, .null, .null, .null, .int 0, .null, .null, .null, .null, .null, .int 0, .null, .null, .null])), (q1, .inl (c1, 24, .inl (fun _ => (0 : Int32)))), (q2, .inl (c2, 24, .inl (fun _ => (0 : Int32))))] := hD
  have hK : va_K (dC, dI) vwC [(c1, .boolean), (c2, .int)] s := hK
  refine W.widen (k := 2) (n := 48) (Nat.le_of_ble_eq_true rfl) (Nat.le_of_ble_eq_true rfl) ?_
  refine va_putF (D := (dC, dI)) (ci := 5) (v := .ref q2) (ty := .array .int) (C := RCM) (T := TCM) (N := 23) hx hb hts inCM tyCM tyCM_ok nnCM hown hK hP hD hS 0 rfl rfl 2 (by decide) (hts _ mw_356) (fun _ h9 => h9) rfl hin rfl (by decide +kernel) rfl rfl (Nat.le_of_ble_eq_true rfl) dCM_init_17 (fun H locs hP hD hS => ?_)
  have hP : va_P (dC, dI) vwC [(h0, .inr (5, [.int 0, .ref q1, .ref q2, .null, .null, .null, .int 0, .null, .null, .null, .null, .null, .null, .int 0, .null, .null, .null, .null, .null, .int 0, .null, .null, .null])), (q1, .inl (c1, 24, .inl (fun _ => (0 : Int32)))), (q2, .inl (c2, 24, .inl (fun _ => (0 : Int32))))] H := hP
  have hD : va_D A [(h0, .inr (5, [.int 0, .ref q1, .ref q2, .null, .null, .null, .int 0, .null, .null, .null, .null, .null, .null, .int 0, .null, .null, .null, .null, .null, .int 0, .null, .null, .null])), (q1, .inl (c1, 24, .inl (fun _ => (0 : Int32)))), (q2, .inl (c2, 24, .inl (fun _ => (0 : Int32))))] := hD
  refine lv_aload_n hx hb dCM_init_20 rfl (lv_at hl 0 rfl) ?_
  refine lv_bipush (v := (24 : Int32)) hx hb dCM_init_21 (by decide) ?_
  refine va_newa (atype := .int) (N' := 24) (a0 := (24, .inl (fun _ => (0 : Int32)))) hx hb (hts _ mw_636) rfl hK hP hD hS hA (fun cA => rfl) (by decide) (by decide) (by decide) (Nat.le_of_ble_eq_true rfl) (Nat.le_of_ble_eq_true rfl) dCM_init_23 (fun q3 c3 H hK hP hD hS => ?_)
  have hP : va_P (dC, dI) vwC [(h0, .inr (5, [.int 0, .ref q1, .ref q2, .null, .null, .null, .int 0, .null, .null, .null, .null, .null, .null, .int 0, .null, .null, .null, .null, .null, .int 0, .null, .null, .null])), (q1, .inl (c1, 24, .inl (fun _ => (0 : Int32)))), (q2, .inl (c2, 24, .inl (fun _ => (0 : Int32)))), (q3, .inl (c3, 24, .inl (fun _ => (0 : Int32))))] H := hP
  have hD : va_D A [(h0, .inr (5, [.int 0, .ref q1, .ref q2, .null, .null, .null, .int 0, .null, .null, .null, .null, .null, .null, .int 0, .null, .null, .null, .null, .null, .int 0, .null, .null, .null])), (q1, .inl (c1, 24, .inl (fun _ => (0 : Int32)))), (q2, .inl (c2, 24, .inl (fun _ => (0 : Int32)))), (q3, .inl (c3, 24, .inl (fun _ => (0 : Int32))))] := hD
  have hK : va_K (dC, dI) vwC [(c1, .boolean), (c2, .int), (c3, .int)] s := hK
  refine W.widen (k := 3) (n := 72) (Nat.le_of_ble_eq_true rfl) (Nat.le_of_ble_eq_true rfl) ?_
  refine va_putF (D := (dC, dI)) (ci := 5) (v := .ref q3) (ty := .array .int) (C := RCM) (T := TCM) (N := 23) hx hb hts inCM tyCM tyCM_ok nnCM hown hK hP hD hS 0 rfl rfl 3 (by decide) (hts _ mw_358) (fun _ h9 => h9) rfl hin rfl (by decide +kernel) rfl rfl (Nat.le_of_ble_eq_true rfl) dCM_init_25 (fun H locs hP hD hS => ?_)
  have hP : va_P (dC, dI) vwC [(h0, .inr (5, [.int 0, .ref q1, .ref q2, .ref q3, .null, .null, .int 0, .null, .null, .null, .null, .null, .null, .int 0, .null, .null, .null, .null, .null, .int 0, .null, .null, .null])), (q1, .inl (c1, 24, .inl (fun _ => (0 : Int32)))), (q2, .inl (c2, 24, .inl (fun _ => (0 : Int32)))), (q3, .inl (c3, 24, .inl (fun _ => (0 : Int32))))] H := hP
  have hD : va_D A [(h0, .inr (5, [.int 0, .ref q1, .ref q2, .ref q3, .null, .null, .int 0, .null, .null, .null, .null, .null, .null, .int 0, .null, .null, .null, .null, .null, .int 0, .null, .null, .null])), (q1, .inl (c1, 24, .inl (fun _ => (0 : Int32)))), (q2, .inl (c2, 24, .inl (fun _ => (0 : Int32)))), (q3, .inl (c3, 24, .inl (fun _ => (0 : Int32))))] := hD
  refine lv_aload_n hx hb dCM_init_28 rfl (lv_at hl 0 rfl) ?_
  refine lv_bipush (v := (96 : Int32)) hx hb dCM_init_29 (by decide) ?_
  refine va_newa (atype := .int) (N' := 96) (a0 := (96, .inl (fun _ => (0 : Int32)))) hx hb (hts _ mw_636) rfl hK hP hD hS hA (fun cA => rfl) (by decide) (by decide) (by decide) (Nat.le_of_ble_eq_true rfl) (Nat.le_of_ble_eq_true rfl) dCM_init_31 (fun q4 c4 H hK hP hD hS => ?_)
  have hP : va_P (dC, dI) vwC [(h0, .inr (5, [.int 0, .ref q1, .ref q2, .ref q3, .null, .null, .int 0, .null, .null, .null, .null, .null, .null, .int 0, .null, .null, .null, .null, .null, .int 0, .null, .null, .null])), (q1, .inl (c1, 24, .inl (fun _ => (0 : Int32)))), (q2, .inl (c2, 24, .inl (fun _ => (0 : Int32)))), (q3, .inl (c3, 24, .inl (fun _ => (0 : Int32)))), (q4, .inl (c4, 96, .inl (fun _ => (0 : Int32))))] H := hP
  have hD : va_D A [(h0, .inr (5, [.int 0, .ref q1, .ref q2, .ref q3, .null, .null, .int 0, .null, .null, .null, .null, .null, .null, .int 0, .null, .null, .null, .null, .null, .int 0, .null, .null, .null])), (q1, .inl (c1, 24, .inl (fun _ => (0 : Int32)))), (q2, .inl (c2, 24, .inl (fun _ => (0 : Int32)))), (q3, .inl (c3, 24, .inl (fun _ => (0 : Int32)))), (q4, .inl (c4, 96, .inl (fun _ => (0 : Int32))))] := hD
  have hK : va_K (dC, dI) vwC [(c1, .boolean), (c2, .int), (c3, .int), (c4, .int)] s := hK
  refine W.widen (k := 4) (n := 168) (Nat.le_of_ble_eq_true rfl) (Nat.le_of_ble_eq_true rfl) ?_
  refine va_putF (D := (dC, dI)) (ci := 5) (v := .ref q4) (ty := .array .int) (C := RCM) (T := TCM) (N := 23) hx hb hts inCM tyCM tyCM_ok nnCM hown hK hP hD hS 0 rfl rfl 4 (by decide) (hts _ mw_366) (fun _ h9 => h9) rfl hin rfl (by decide +kernel) rfl rfl (Nat.le_of_ble_eq_true rfl) dCM_init_33 (fun H locs hP hD hS => ?_)
  have hP : va_P (dC, dI) vwC [(h0, .inr (5, [.int 0, .ref q1, .ref q2, .ref q3, .ref q4, .null, .int 0, .null, .null, .null, .null, .null, .null, .int 0, .null, .null, .null, .null, .null, .int 0, .null, .null, .null])), (q1, .inl (c1, 24, .inl (fun _ => (0 : Int32)))), (q2, .inl (c2, 24, .inl (fun _ => (0 : Int32)))), (q3, .inl (c3, 24, .inl (fun _ => (0 : Int32)))), (q4, .inl (c4, 96, .inl (fun _ => (0 : Int32))))] H := hP
  have hD : va_D A [(h0, .inr (5, [.int 0, .ref q1, .ref q2, .ref q3, .ref q4, .null, .int 0, .null, .null, .null, .null, .null, .null, .int 0, .null, .null, .null, .null, .null, .int 0, .null, .null, .null])), (q1, .inl (c1, 24, .inl (fun _ => (0 : Int32)))), (q2, .inl (c2, 24, .inl (fun _ => (0 : Int32)))), (q3, .inl (c3, 24, .inl (fun _ => (0 : Int32)))), (q4, .inl (c4, 96, .inl (fun _ => (0 : Int32))))] := hD
  refine lv_aload_n hx hb dCM_init_36 rfl (lv_at hl 0 rfl) ?_
  refine lv_sipush (v := (576 : Int32)) hx hb dCM_init_37 (by decide) ?_
  refine va_newa (atype := .boolean) (N' := 576) (a0 := (576, .inl (fun _ => (0 : Int32)))) hx hb (hts _ mw_635) rfl hK hP hD hS hA (fun cA => rfl) (by decide) (by decide) (by decide) (Nat.le_of_ble_eq_true rfl) (Nat.le_of_ble_eq_true rfl) dCM_init_40 (fun q5 c5 H hK hP hD hS => ?_)
  have hP : va_P (dC, dI) vwC [(h0, .inr (5, [.int 0, .ref q1, .ref q2, .ref q3, .ref q4, .null, .int 0, .null, .null, .null, .null, .null, .null, .int 0, .null, .null, .null, .null, .null, .int 0, .null, .null, .null])), (q1, .inl (c1, 24, .inl (fun _ => (0 : Int32)))), (q2, .inl (c2, 24, .inl (fun _ => (0 : Int32)))), (q3, .inl (c3, 24, .inl (fun _ => (0 : Int32)))), (q4, .inl (c4, 96, .inl (fun _ => (0 : Int32)))), (q5, .inl (c5, 576, .inl (fun _ => (0 : Int32))))] H := hP
  have hD : va_D A [(h0, .inr (5, [.int 0, .ref q1, .ref q2, .ref q3, .ref q4, .null, .int 0, .null, .null, .null, .null, .null, .null, .int 0, .null, .null, .null, .null, .null, .int 0, .null, .null, .null])), (q1, .inl (c1, 24, .inl (fun _ => (0 : Int32)))), (q2, .inl (c2, 24, .inl (fun _ => (0 : Int32)))), (q3, .inl (c3, 24, .inl (fun _ => (0 : Int32)))), (q4, .inl (c4, 96, .inl (fun _ => (0 : Int32)))), (q5, .inl (c5, 576, .inl (fun _ => (0 : Int32))))] := hD
  have hK : va_K (dC, dI) vwC [(c1, .boolean), (c2, .int), (c3, .int), (c4, .int), (c5, .boolean)] s := hK
  refine W.widen (k := 5) (n := 744) (Nat.le_of_ble_eq_true rfl) (Nat.le_of_ble_eq_true rfl) ?_
  refine va_putF (D := (dC, dI)) (ci := 5) (v := .ref q5) (ty := .array .boolean) (C := RCM) (T := TCM) (N := 23) hx hb hts inCM tyCM tyCM_ok nnCM hown hK hP hD hS 0 rfl rfl 5 (by decide) (hts _ mw_365) (fun _ h9 => h9) rfl hin rfl (by decide +kernel) rfl rfl (Nat.le_of_ble_eq_true rfl) dCM_init_42 (fun H locs hP hD hS => ?_)
  have hP : va_P (dC, dI) vwC [(h0, .inr (5, [.int 0, .ref q1, .ref q2, .ref q3, .ref q4, .ref q5, .int 0, .null, .null, .null, .null, .null, .null, .int 0, .null, .null, .null, .null, .null, .int 0, .null, .null, .null])), (q1, .inl (c1, 24, .inl (fun _ => (0 : Int32)))), (q2, .inl (c2, 24, .inl (fun _ => (0 : Int32)))), (q3, .inl (c3, 24, .inl (fun _ => (0 : Int32)))), (q4, .inl (c4, 96, .inl (fun _ => (0 : Int32)))), (q5, .inl (c5, 576, .inl (fun _ => (0 : Int32))))] H := hP
  have hD : va_D A [(h0, .inr (5, [.int 0, .ref q1, .ref q2, .ref q3, .ref q4, .ref q5, .int 0, .null, .null, .null, .null, .null, .null, .int 0, .null, .null, .null, .null, .null, .int 0, .null, .null, .null])), (q1, .inl (c1, 24, .inl (fun _ => (0 : Int32)))), (q2, .inl (c2, 24, .inl (fun _ => (0 : Int32)))), (q3, .inl (c3, 24, .inl (fun _ => (0 : Int32)))), (q4, .inl (c4, 96, .inl (fun _ => (0 : Int32)))), (q5, .inl (c5, 576, .inl (fun _ => (0 : Int32))))] := hD
  refine lv_aload_n hx hb dCM_init_45 rfl (lv_at hl 0 rfl) ?_
  refine lv_bipush (v := (60 : Int32)) hx hb dCM_init_46 (by decide) ?_
  refine va_newa (atype := .int) (N' := 60) (a0 := (60, .inl (fun _ => (0 : Int32)))) hx hb (hts _ mw_636) rfl hK hP hD hS hA (fun cA => rfl) (by decide) (by decide) (by decide) (Nat.le_of_ble_eq_true rfl) (Nat.le_of_ble_eq_true rfl) dCM_init_48 (fun q6 c6 H hK hP hD hS => ?_)
  have hP : va_P (dC, dI) vwC [(h0, .inr (5, [.int 0, .ref q1, .ref q2, .ref q3, .ref q4, .ref q5, .int 0, .null, .null, .null, .null, .null, .null, .int 0, .null, .null, .null, .null, .null, .int 0, .null, .null, .null])), (q1, .inl (c1, 24, .inl (fun _ => (0 : Int32)))), (q2, .inl (c2, 24, .inl (fun _ => (0 : Int32)))), (q3, .inl (c3, 24, .inl (fun _ => (0 : Int32)))), (q4, .inl (c4, 96, .inl (fun _ => (0 : Int32)))), (q5, .inl (c5, 576, .inl (fun _ => (0 : Int32)))), (q6, .inl (c6, 60, .inl (fun _ => (0 : Int32))))] H := hP
  have hD : va_D A [(h0, .inr (5, [.int 0, .ref q1, .ref q2, .ref q3, .ref q4, .ref q5, .int 0, .null, .null, .null, .null, .null, .null, .int 0, .null, .null, .null, .null, .null, .int 0, .null, .null, .null])), (q1, .inl (c1, 24, .inl (fun _ => (0 : Int32)))), (q2, .inl (c2, 24, .inl (fun _ => (0 : Int32)))), (q3, .inl (c3, 24, .inl (fun _ => (0 : Int32)))), (q4, .inl (c4, 96, .inl (fun _ => (0 : Int32)))), (q5, .inl (c5, 576, .inl (fun _ => (0 : Int32)))), (q6, .inl (c6, 60, .inl (fun _ => (0 : Int32))))] := hD
  have hK : va_K (dC, dI) vwC [(c1, .boolean), (c2, .int), (c3, .int), (c4, .int), (c5, .boolean), (c6, .int)] s := hK
  refine W.widen (k := 6) (n := 804) (Nat.le_of_ble_eq_true rfl) (Nat.le_of_ble_eq_true rfl) ?_
  refine va_putF (D := (dC, dI)) (ci := 5) (v := .ref q6) (ty := .array .int) (C := RCM) (T := TCM) (N := 23) hx hb hts inCM tyCM tyCM_ok nnCM hown hK hP hD hS 0 rfl rfl 7 (by decide) (hts _ mw_402) (fun _ h9 => h9) rfl hin rfl (by decide +kernel) rfl rfl (Nat.le_of_ble_eq_true rfl) dCM_init_50 (fun H locs hP hD hS => ?_)
  have hP : va_P (dC, dI) vwC [(h0, .inr (5, [.int 0, .ref q1, .ref q2, .ref q3, .ref q4, .ref q5, .int 0, .ref q6, .null, .null, .null, .null, .null, .int 0, .null, .null, .null, .null, .null, .int 0, .null, .null, .null])), (q1, .inl (c1, 24, .inl (fun _ => (0 : Int32)))), (q2, .inl (c2, 24, .inl (fun _ => (0 : Int32)))), (q3, .inl (c3, 24, .inl (fun _ => (0 : Int32)))), (q4, .inl (c4, 96, .inl (fun _ => (0 : Int32)))), (q5, .inl (c5, 576, .inl (fun _ => (0 : Int32)))), (q6, .inl (c6, 60, .inl (fun _ => (0 : Int32))))] H := hP
  have hD : va_D A [(h0, .inr (5, [.int 0, .ref q1, .ref q2, .ref q3, .ref q4, .ref q5, .int 0, .ref q6, .null, .null, .null, .null, .null, .int 0, .null, .null, .null, .null, .null, .int 0, .null, .null, .null])), (q1, .inl (c1, 24, .inl (fun _ => (0 : Int32)))), (q2, .inl (c2, 24, .inl (fun _ => (0 : Int32)))), (q3, .inl (c3, 24, .inl (fun _ => (0 : Int32)))), (q4, .inl (c4, 96, .inl (fun _ => (0 : Int32)))), (q5, .inl (c5, 576, .inl (fun _ => (0 : Int32)))), (q6, .inl (c6, 60, .inl (fun _ => (0 : Int32))))] := hD
  refine lv_aload_n hx hb dCM_init_53 rfl (lv_at hl 0 rfl) ?_
  refine lv_bipush (v := (60 : Int32)) hx hb dCM_init_54 (by decide) ?_
  refine va_newa (atype := .int) (N' := 60) (a0 := (60, .inl (fun _ => (0 : Int32)))) hx hb (hts _ mw_636) rfl hK hP hD hS hA (fun cA => rfl) (by decide) (by decide) (by decide) (Nat.le_of_ble_eq_true rfl) (Nat.le_of_ble_eq_true rfl) dCM_init_56 (fun q7 c7 H hK hP hD hS => ?_)
  have hP : va_P (dC, dI) vwC [(h0, .inr (5, [.int 0, .ref q1, .ref q2, .ref q3, .ref q4, .ref q5, .int 0, .ref q6, .null, .null, .null, .null, .null, .int 0, .null, .null, .null, .null, .null, .int 0, .null, .null, .null])), (q1, .inl (c1, 24, .inl (fun _ => (0 : Int32)))), (q2, .inl (c2, 24, .inl (fun _ => (0 : Int32)))), (q3, .inl (c3, 24, .inl (fun _ => (0 : Int32)))), (q4, .inl (c4, 96, .inl (fun _ => (0 : Int32)))), (q5, .inl (c5, 576, .inl (fun _ => (0 : Int32)))), (q6, .inl (c6, 60, .inl (fun _ => (0 : Int32)))), (q7, .inl (c7, 60, .inl (fun _ => (0 : Int32))))] H := hP
  have hD : va_D A [(h0, .inr (5, [.int 0, .ref q1, .ref q2, .ref q3, .ref q4, .ref q5, .int 0, .ref q6, .null, .null, .null, .null, .null, .int 0, .null, .null, .null, .null, .null, .int 0, .null, .null, .null])), (q1, .inl (c1, 24, .inl (fun _ => (0 : Int32)))), (q2, .inl (c2, 24, .inl (fun _ => (0 : Int32)))), (q3, .inl (c3, 24, .inl (fun _ => (0 : Int32)))), (q4, .inl (c4, 96, .inl (fun _ => (0 : Int32)))), (q5, .inl (c5, 576, .inl (fun _ => (0 : Int32)))), (q6, .inl (c6, 60, .inl (fun _ => (0 : Int32)))), (q7, .inl (c7, 60, .inl (fun _ => (0 : Int32))))] := hD
  have hK : va_K (dC, dI) vwC [(c1, .boolean), (c2, .int), (c3, .int), (c4, .int), (c5, .boolean), (c6, .int), (c7, .int)] s := hK
  refine W.widen (k := 7) (n := 864) (Nat.le_of_ble_eq_true rfl) (Nat.le_of_ble_eq_true rfl) ?_
  refine va_putF (D := (dC, dI)) (ci := 5) (v := .ref q7) (ty := .array .int) (C := RCM) (T := TCM) (N := 23) hx hb hts inCM tyCM tyCM_ok nnCM hown hK hP hD hS 0 rfl rfl 8 (by decide) (hts _ mw_403) (fun _ h9 => h9) rfl hin rfl (by decide +kernel) rfl rfl (Nat.le_of_ble_eq_true rfl) dCM_init_58 (fun H locs hP hD hS => ?_)
  have hP : va_P (dC, dI) vwC [(h0, .inr (5, [.int 0, .ref q1, .ref q2, .ref q3, .ref q4, .ref q5, .int 0, .ref q6, .ref q7, .null, .null, .null, .null, .int 0, .null, .null, .null, .null, .null, .int 0, .null, .null, .null])), (q1, .inl (c1, 24, .inl (fun _ => (0 : Int32)))), (q2, .inl (c2, 24, .inl (fun _ => (0 : Int32)))), (q3, .inl (c3, 24, .inl (fun _ => (0 : Int32)))), (q4, .inl (c4, 96, .inl (fun _ => (0 : Int32)))), (q5, .inl (c5, 576, .inl (fun _ => (0 : Int32)))), (q6, .inl (c6, 60, .inl (fun _ => (0 : Int32)))), (q7, .inl (c7, 60, .inl (fun _ => (0 : Int32))))] H := hP
  have hD : va_D A [(h0, .inr (5, [.int 0, .ref q1, .ref q2, .ref q3, .ref q4, .ref q5, .int 0, .ref q6, .ref q7, .null, .null, .null, .null, .int 0, .null, .null, .null, .null, .null, .int 0, .null, .null, .null])), (q1, .inl (c1, 24, .inl (fun _ => (0 : Int32)))), (q2, .inl (c2, 24, .inl (fun _ => (0 : Int32)))), (q3, .inl (c3, 24, .inl (fun _ => (0 : Int32)))), (q4, .inl (c4, 96, .inl (fun _ => (0 : Int32)))), (q5, .inl (c5, 576, .inl (fun _ => (0 : Int32)))), (q6, .inl (c6, 60, .inl (fun _ => (0 : Int32)))), (q7, .inl (c7, 60, .inl (fun _ => (0 : Int32))))] := hD
  refine lv_aload_n hx hb dCM_init_61 rfl (lv_at hl 0 rfl) ?_
  refine lv_bipush (v := (60 : Int32)) hx hb dCM_init_62 (by decide) ?_
  refine va_newa (atype := .int) (N' := 60) (a0 := (60, .inl (fun _ => (0 : Int32)))) hx hb (hts _ mw_636) rfl hK hP hD hS hA (fun cA => rfl) (by decide) (by decide) (by decide) (Nat.le_of_ble_eq_true rfl) (Nat.le_of_ble_eq_true rfl) dCM_init_64 (fun q8 c8 H hK hP hD hS => ?_)
  have hP : va_P (dC, dI) vwC [(h0, .inr (5, [.int 0, .ref q1, .ref q2, .ref q3, .ref q4, .ref q5, .int 0, .ref q6, .ref q7, .null, .null, .null, .null, .int 0, .null, .null, .null, .null, .null, .int 0, .null, .null, .null])), (q1, .inl (c1, 24, .inl (fun _ => (0 : Int32)))), (q2, .inl (c2, 24, .inl (fun _ => (0 : Int32)))), (q3, .inl (c3, 24, .inl (fun _ => (0 : Int32)))), (q4, .inl (c4, 96, .inl (fun _ => (0 : Int32)))), (q5, .inl (c5, 576, .inl (fun _ => (0 : Int32)))), (q6, .inl (c6, 60, .inl (fun _ => (0 : Int32)))), (q7, .inl (c7, 60, .inl (fun _ => (0 : Int32)))), (q8, .inl (c8, 60, .inl (fun _ => (0 : Int32))))] H := hP
  have hD : va_D A [(h0, .inr (5, [.int 0, .ref q1, .ref q2, .ref q3, .ref q4, .ref q5, .int 0, .ref q6, .ref q7, .null, .null, .null, .null, .int 0, .null, .null, .null, .null, .null, .int 0, .null, .null, .null])), (q1, .inl (c1, 24, .inl (fun _ => (0 : Int32)))), (q2, .inl (c2, 24, .inl (fun _ => (0 : Int32)))), (q3, .inl (c3, 24, .inl (fun _ => (0 : Int32)))), (q4, .inl (c4, 96, .inl (fun _ => (0 : Int32)))), (q5, .inl (c5, 576, .inl (fun _ => (0 : Int32)))), (q6, .inl (c6, 60, .inl (fun _ => (0 : Int32)))), (q7, .inl (c7, 60, .inl (fun _ => (0 : Int32)))), (q8, .inl (c8, 60, .inl (fun _ => (0 : Int32))))] := hD
  have hK : va_K (dC, dI) vwC [(c1, .boolean), (c2, .int), (c3, .int), (c4, .int), (c5, .boolean), (c6, .int), (c7, .int), (c8, .int)] s := hK
  refine W.widen (k := 8) (n := 924) (Nat.le_of_ble_eq_true rfl) (Nat.le_of_ble_eq_true rfl) ?_
  refine va_putF (D := (dC, dI)) (ci := 5) (v := .ref q8) (ty := .array .int) (C := RCM) (T := TCM) (N := 23) hx hb hts inCM tyCM tyCM_ok nnCM hown hK hP hD hS 0 rfl rfl 9 (by decide) (hts _ mw_404) (fun _ h9 => h9) rfl hin rfl (by decide +kernel) rfl rfl (Nat.le_of_ble_eq_true rfl) dCM_init_66 (fun H locs hP hD hS => ?_)
  have hP : va_P (dC, dI) vwC [(h0, .inr (5, [.int 0, .ref q1, .ref q2, .ref q3, .ref q4, .ref q5, .int 0, .ref q6, .ref q7, .ref q8, .null, .null, .null, .int 0, .null, .null, .null, .null, .null, .int 0, .null, .null, .null])), (q1, .inl (c1, 24, .inl (fun _ => (0 : Int32)))), (q2, .inl (c2, 24, .inl (fun _ => (0 : Int32)))), (q3, .inl (c3, 24, .inl (fun _ => (0 : Int32)))), (q4, .inl (c4, 96, .inl (fun _ => (0 : Int32)))), (q5, .inl (c5, 576, .inl (fun _ => (0 : Int32)))), (q6, .inl (c6, 60, .inl (fun _ => (0 : Int32)))), (q7, .inl (c7, 60, .inl (fun _ => (0 : Int32)))), (q8, .inl (c8, 60, .inl (fun _ => (0 : Int32))))] H := hP
  have hD : va_D A [(h0, .inr (5, [.int 0, .ref q1, .ref q2, .ref q3, .ref q4, .ref q5, .int 0, .ref q6, .ref q7, .ref q8, .null, .null, .null, .int 0, .null, .null, .null, .null, .null, .int 0, .null, .null, .null])), (q1, .inl (c1, 24, .inl (fun _ => (0 : Int32)))), (q2, .inl (c2, 24, .inl (fun _ => (0 : Int32)))), (q3, .inl (c3, 24, .inl (fun _ => (0 : Int32)))), (q4, .inl (c4, 96, .inl (fun _ => (0 : Int32)))), (q5, .inl (c5, 576, .inl (fun _ => (0 : Int32)))), (q6, .inl (c6, 60, .inl (fun _ => (0 : Int32)))), (q7, .inl (c7, 60, .inl (fun _ => (0 : Int32)))), (q8, .inl (c8, 60, .inl (fun _ => (0 : Int32))))] := hD
  refine lv_aload_n hx hb dCM_init_69 rfl (lv_at hl 0 rfl) ?_
  refine lv_bipush (v := (60 : Int32)) hx hb dCM_init_70 (by decide) ?_
  refine va_newa (atype := .int) (N' := 60) (a0 := (60, .inl (fun _ => (0 : Int32)))) hx hb (hts _ mw_636) rfl hK hP hD hS hA (fun cA => rfl) (by decide) (by decide) (by decide) (Nat.le_of_ble_eq_true rfl) (Nat.le_of_ble_eq_true rfl) dCM_init_72 (fun q9 c9 H hK hP hD hS => ?_)
  have hP : va_P (dC, dI) vwC [(h0, .inr (5, [.int 0, .ref q1, .ref q2, .ref q3, .ref q4, .ref q5, .int 0, .ref q6, .ref q7, .ref q8, .null, .null, .null, .int 0, .null, .null, .null, .null, .null, .int 0, .null, .null, .null])), (q1, .inl (c1, 24, .inl (fun _ => (0 : Int32)))), (q2, .inl (c2, 24, .inl (fun _ => (0 : Int32)))), (q3, .inl (c3, 24, .inl (fun _ => (0 : Int32)))), (q4, .inl (c4, 96, .inl (fun _ => (0 : Int32)))), (q5, .inl (c5, 576, .inl (fun _ => (0 : Int32)))), (q6, .inl (c6, 60, .inl (fun _ => (0 : Int32)))), (q7, .inl (c7, 60, .inl (fun _ => (0 : Int32)))), (q8, .inl (c8, 60, .inl (fun _ => (0 : Int32)))), (q9, .inl (c9, 60, .inl (fun _ => (0 : Int32))))] H := hP
  have hD : va_D A [(h0, .inr (5, [.int 0, .ref q1, .ref q2, .ref q3, .ref q4, .ref q5, .int 0, .ref q6, .ref q7, .ref q8, .null, .null, .null, .int 0, .null, .null, .null, .null, .null, .int 0, .null, .null, .null])), (q1, .inl (c1, 24, .inl (fun _ => (0 : Int32)))), (q2, .inl (c2, 24, .inl (fun _ => (0 : Int32)))), (q3, .inl (c3, 24, .inl (fun _ => (0 : Int32)))), (q4, .inl (c4, 96, .inl (fun _ => (0 : Int32)))), (q5, .inl (c5, 576, .inl (fun _ => (0 : Int32)))), (q6, .inl (c6, 60, .inl (fun _ => (0 : Int32)))), (q7, .inl (c7, 60, .inl (fun _ => (0 : Int32)))), (q8, .inl (c8, 60, .inl (fun _ => (0 : Int32)))), (q9, .inl (c9, 60, .inl (fun _ => (0 : Int32))))] := hD
  have hK : va_K (dC, dI) vwC [(c1, .boolean), (c2, .int), (c3, .int), (c4, .int), (c5, .boolean), (c6, .int), (c7, .int), (c8, .int), (c9, .int)] s := hK
  refine W.widen (k := 9) (n := 984) (Nat.le_of_ble_eq_true rfl) (Nat.le_of_ble_eq_true rfl) ?_
  refine va_putF (D := (dC, dI)) (ci := 5) (v := .ref q9) (ty := .array .int) (C := RCM) (T := TCM) (N := 23) hx hb hts inCM tyCM tyCM_ok nnCM hown hK hP hD hS 0 rfl rfl 10 (by decide) (hts _ mw_405) (fun _ h9 => h9) rfl hin rfl (by decide +kernel) rfl rfl (Nat.le_of_ble_eq_true rfl) dCM_init_74 (fun H locs hP hD hS => ?_)
  have hP : va_P (dC, dI) vwC [(h0, .inr (5, [.int 0, .ref q1, .ref q2, .ref q3, .ref q4, .ref q5, .int 0, .ref q6, .ref q7, .ref q8, .ref q9, .null, .null, .int 0, .null, .null, .null, .null, .null, .int 0, .null, .null, .null])), (q1, .inl (c1, 24, .inl (fun _ => (0 : Int32)))), (q2, .inl (c2, 24, .inl (fun _ => (0 : Int32)))), (q3, .inl (c3, 24, .inl (fun _ => (0 : Int32)))), (q4, .inl (c4, 96, .inl (fun _ => (0 : Int32)))), (q5, .inl (c5, 576, .inl (fun _ => (0 : Int32)))), (q6, .inl (c6, 60, .inl (fun _ => (0 : Int32)))), (q7, .inl (c7, 60, .inl (fun _ => (0 : Int32)))), (q8, .inl (c8, 60, .inl (fun _ => (0 : Int32)))), (q9, .inl (c9, 60, .inl (fun _ => (0 : Int32))))] H := hP
  have hD : va_D A [(h0, .inr (5, [.int 0, .ref q1, .ref q2, .ref q3, .ref q4, .ref q5, .int 0, .ref q6, .ref q7, .ref q8, .ref q9, .null, .null, .int 0, .null, .null, .null, .null, .null, .int 0, .null, .null, .null])), (q1, .inl (c1, 24, .inl (fun _ => (0 : Int32)))), (q2, .inl (c2, 24, .inl (fun _ => (0 : Int32)))), (q3, .inl (c3, 24, .inl (fun _ => (0 : Int32)))), (q4, .inl (c4, 96, .inl (fun _ => (0 : Int32)))), (q5, .inl (c5, 576, .inl (fun _ => (0 : Int32)))), (q6, .inl (c6, 60, .inl (fun _ => (0 : Int32)))), (q7, .inl (c7, 60, .inl (fun _ => (0 : Int32)))), (q8, .inl (c8, 60, .inl (fun _ => (0 : Int32)))), (q9, .inl (c9, 60, .inl (fun _ => (0 : Int32))))] := hD
  refine lv_aload_n hx hb dCM_init_77 rfl (lv_at hl 0 rfl) ?_
  refine lv_bipush (v := (60 : Int32)) hx hb dCM_init_78 (by decide) ?_
  refine va_newa (atype := .int) (N' := 60) (a0 := (60, .inl (fun _ => (0 : Int32)))) hx hb (hts _ mw_636) rfl hK hP hD hS hA (fun cA => rfl) (by decide) (by decide) (by decide) (Nat.le_of_ble_eq_true rfl) (Nat.le_of_ble_eq_true rfl) dCM_init_80 (fun q10 c10 H hK hP hD hS => ?_)
  have hP : va_P (dC, dI) vwC [(h0, .inr (5, [.int 0, .ref q1, .ref q2, .ref q3, .ref q4, .ref q5, .int 0, .ref q6, .ref q7, .ref q8, .ref q9, .null, .null, .int 0, .null, .null, .null, .null, .null, .int 0, .null, .null, .null])), (q1, .inl (c1, 24, .inl (fun _ => (0 : Int32)))), (q2, .inl (c2, 24, .inl (fun _ => (0 : Int32)))), (q3, .inl (c3, 24, .inl (fun _ => (0 : Int32)))), (q4, .inl (c4, 96, .inl (fun _ => (0 : Int32)))), (q5, .inl (c5, 576, .inl (fun _ => (0 : Int32)))), (q6, .inl (c6, 60, .inl (fun _ => (0 : Int32)))), (q7, .inl (c7, 60, .inl (fun _ => (0 : Int32)))), (q8, .inl (c8, 60, .inl (fun _ => (0 : Int32)))), (q9, .inl (c9, 60, .inl (fun _ => (0 : Int32)))), (q10, .inl (c10, 60, .inl (fun _ => (0 : Int32))))] H := hP
  have hD : va_D A [(h0, .inr (5, [.int 0, .ref q1, .ref q2, .ref q3, .ref q4, .ref q5, .int 0, .ref q6, .ref q7, .ref q8, .ref q9, .null, .null, .int 0, .null, .null, .null, .null, .null, .int 0, .null, .null, .null])), (q1, .inl (c1, 24, .inl (fun _ => (0 : Int32)))), (q2, .inl (c2, 24, .inl (fun _ => (0 : Int32)))), (q3, .inl (c3, 24, .inl (fun _ => (0 : Int32)))), (q4, .inl (c4, 96, .inl (fun _ => (0 : Int32)))), (q5, .inl (c5, 576, .inl (fun _ => (0 : Int32)))), (q6, .inl (c6, 60, .inl (fun _ => (0 : Int32)))), (q7, .inl (c7, 60, .inl (fun _ => (0 : Int32)))), (q8, .inl (c8, 60, .inl (fun _ => (0 : Int32)))), (q9, .inl (c9, 60, .inl (fun _ => (0 : Int32)))), (q10, .inl (c10, 60, .inl (fun _ => (0 : Int32))))] := hD
  have hK : va_K (dC, dI) vwC [(c1, .boolean), (c2, .int), (c3, .int), (c4, .int), (c5, .boolean), (c6, .int), (c7, .int), (c8, .int), (c9, .int), (c10, .int)] s := hK
  refine W.widen (k := 10) (n := 1044) (Nat.le_of_ble_eq_true rfl) (Nat.le_of_ble_eq_true rfl) ?_
  refine va_putF (D := (dC, dI)) (ci := 5) (v := .ref q10) (ty := .array .int) (C := RCM) (T := TCM) (N := 23) hx hb hts inCM tyCM tyCM_ok nnCM hown hK hP hD hS 0 rfl rfl 11 (by decide) (hts _ mw_406) (fun _ h9 => h9) rfl hin rfl (by decide +kernel) rfl rfl (Nat.le_of_ble_eq_true rfl) dCM_init_82 (fun H locs hP hD hS => ?_)
  have hP : va_P (dC, dI) vwC [(h0, .inr (5, [.int 0, .ref q1, .ref q2, .ref q3, .ref q4, .ref q5, .int 0, .ref q6, .ref q7, .ref q8, .ref q9, .ref q10, .null, .int 0, .null, .null, .null, .null, .null, .int 0, .null, .null, .null])), (q1, .inl (c1, 24, .inl (fun _ => (0 : Int32)))), (q2, .inl (c2, 24, .inl (fun _ => (0 : Int32)))), (q3, .inl (c3, 24, .inl (fun _ => (0 : Int32)))), (q4, .inl (c4, 96, .inl (fun _ => (0 : Int32)))), (q5, .inl (c5, 576, .inl (fun _ => (0 : Int32)))), (q6, .inl (c6, 60, .inl (fun _ => (0 : Int32)))), (q7, .inl (c7, 60, .inl (fun _ => (0 : Int32)))), (q8, .inl (c8, 60, .inl (fun _ => (0 : Int32)))), (q9, .inl (c9, 60, .inl (fun _ => (0 : Int32)))), (q10, .inl (c10, 60, .inl (fun _ => (0 : Int32))))] H := hP
  have hD : va_D A [(h0, .inr (5, [.int 0, .ref q1, .ref q2, .ref q3, .ref q4, .ref q5, .int 0, .ref q6, .ref q7, .ref q8, .ref q9, .ref q10, .null, .int 0, .null, .null, .null, .null, .null, .int 0, .null, .null, .null])), (q1, .inl (c1, 24, .inl (fun _ => (0 : Int32)))), (q2, .inl (c2, 24, .inl (fun _ => (0 : Int32)))), (q3, .inl (c3, 24, .inl (fun _ => (0 : Int32)))), (q4, .inl (c4, 96, .inl (fun _ => (0 : Int32)))), (q5, .inl (c5, 576, .inl (fun _ => (0 : Int32)))), (q6, .inl (c6, 60, .inl (fun _ => (0 : Int32)))), (q7, .inl (c7, 60, .inl (fun _ => (0 : Int32)))), (q8, .inl (c8, 60, .inl (fun _ => (0 : Int32)))), (q9, .inl (c9, 60, .inl (fun _ => (0 : Int32)))), (q10, .inl (c10, 60, .inl (fun _ => (0 : Int32))))] := hD
  refine lv_aload_n hx hb dCM_init_85 rfl (lv_at hl 0 rfl) ?_
  refine lv_sipush (v := (240 : Int32)) hx hb dCM_init_86 (by decide) ?_
  refine va_newa (atype := .int) (N' := 240) (a0 := (240, .inl (fun _ => (0 : Int32)))) hx hb (hts _ mw_636) rfl hK hP hD hS hA (fun cA => rfl) (by decide) (by decide) (by decide) (Nat.le_of_ble_eq_true rfl) (Nat.le_of_ble_eq_true rfl) dCM_init_89 (fun q11 c11 H hK hP hD hS => ?_)
  have hP : va_P (dC, dI) vwC [(h0, .inr (5, [.int 0, .ref q1, .ref q2, .ref q3, .ref q4, .ref q5, .int 0, .ref q6, .ref q7, .ref q8, .ref q9, .ref q10, .null, .int 0, .null, .null, .null, .null, .null, .int 0, .null, .null, .null])), (q1, .inl (c1, 24, .inl (fun _ => (0 : Int32)))), (q2, .inl (c2, 24, .inl (fun _ => (0 : Int32)))), (q3, .inl (c3, 24, .inl (fun _ => (0 : Int32)))), (q4, .inl (c4, 96, .inl (fun _ => (0 : Int32)))), (q5, .inl (c5, 576, .inl (fun _ => (0 : Int32)))), (q6, .inl (c6, 60, .inl (fun _ => (0 : Int32)))), (q7, .inl (c7, 60, .inl (fun _ => (0 : Int32)))), (q8, .inl (c8, 60, .inl (fun _ => (0 : Int32)))), (q9, .inl (c9, 60, .inl (fun _ => (0 : Int32)))), (q10, .inl (c10, 60, .inl (fun _ => (0 : Int32)))), (q11, .inl (c11, 240, .inl (fun _ => (0 : Int32))))] H := hP
  have hD : va_D A [(h0, .inr (5, [.int 0, .ref q1, .ref q2, .ref q3, .ref q4, .ref q5, .int 0, .ref q6, .ref q7, .ref q8, .ref q9, .ref q10, .null, .int 0, .null, .null, .null, .null, .null, .int 0, .null, .null, .null])), (q1, .inl (c1, 24, .inl (fun _ => (0 : Int32)))), (q2, .inl (c2, 24, .inl (fun _ => (0 : Int32)))), (q3, .inl (c3, 24, .inl (fun _ => (0 : Int32)))), (q4, .inl (c4, 96, .inl (fun _ => (0 : Int32)))), (q5, .inl (c5, 576, .inl (fun _ => (0 : Int32)))), (q6, .inl (c6, 60, .inl (fun _ => (0 : Int32)))), (q7, .inl (c7, 60, .inl (fun _ => (0 : Int32)))), (q8, .inl (c8, 60, .inl (fun _ => (0 : Int32)))), (q9, .inl (c9, 60, .inl (fun _ => (0 : Int32)))), (q10, .inl (c10, 60, .inl (fun _ => (0 : Int32)))), (q11, .inl (c11, 240, .inl (fun _ => (0 : Int32))))] := hD
  have hK : va_K (dC, dI) vwC [(c1, .boolean), (c2, .int), (c3, .int), (c4, .int), (c5, .boolean), (c6, .int), (c7, .int), (c8, .int), (c9, .int), (c10, .int), (c11, .int)] s := hK
  refine W.widen (k := 11) (n := 1284) (Nat.le_of_ble_eq_true rfl) (Nat.le_of_ble_eq_true rfl) ?_
  refine va_putF (D := (dC, dI)) (ci := 5) (v := .ref q11) (ty := .array .int) (C := RCM) (T := TCM) (N := 23) hx hb hts inCM tyCM tyCM_ok nnCM hown hK hP hD hS 0 rfl rfl 12 (by decide) (hts _ mw_407) (fun _ h9 => h9) rfl hin rfl (by decide +kernel) rfl rfl (Nat.le_of_ble_eq_true rfl) dCM_init_91 (fun H locs hP hD hS => ?_)
  have hP : va_P (dC, dI) vwC [(h0, .inr (5, [.int 0, .ref q1, .ref q2, .ref q3, .ref q4, .ref q5, .int 0, .ref q6, .ref q7, .ref q8, .ref q9, .ref q10, .ref q11, .int 0, .null, .null, .null, .null, .null, .int 0, .null, .null, .null])), (q1, .inl (c1, 24, .inl (fun _ => (0 : Int32)))), (q2, .inl (c2, 24, .inl (fun _ => (0 : Int32)))), (q3, .inl (c3, 24, .inl (fun _ => (0 : Int32)))), (q4, .inl (c4, 96, .inl (fun _ => (0 : Int32)))), (q5, .inl (c5, 576, .inl (fun _ => (0 : Int32)))), (q6, .inl (c6, 60, .inl (fun _ => (0 : Int32)))), (q7, .inl (c7, 60, .inl (fun _ => (0 : Int32)))), (q8, .inl (c8, 60, .inl (fun _ => (0 : Int32)))), (q9, .inl (c9, 60, .inl (fun _ => (0 : Int32)))), (q10, .inl (c10, 60, .inl (fun _ => (0 : Int32)))), (q11, .inl (c11, 240, .inl (fun _ => (0 : Int32))))] H := hP
  have hD : va_D A [(h0, .inr (5, [.int 0, .ref q1, .ref q2, .ref q3, .ref q4, .ref q5, .int 0, .ref q6, .ref q7, .ref q8, .ref q9, .ref q10, .ref q11, .int 0, .null, .null, .null, .null, .null, .int 0, .null, .null, .null])), (q1, .inl (c1, 24, .inl (fun _ => (0 : Int32)))), (q2, .inl (c2, 24, .inl (fun _ => (0 : Int32)))), (q3, .inl (c3, 24, .inl (fun _ => (0 : Int32)))), (q4, .inl (c4, 96, .inl (fun _ => (0 : Int32)))), (q5, .inl (c5, 576, .inl (fun _ => (0 : Int32)))), (q6, .inl (c6, 60, .inl (fun _ => (0 : Int32)))), (q7, .inl (c7, 60, .inl (fun _ => (0 : Int32)))), (q8, .inl (c8, 60, .inl (fun _ => (0 : Int32)))), (q9, .inl (c9, 60, .inl (fun _ => (0 : Int32)))), (q10, .inl (c10, 60, .inl (fun _ => (0 : Int32)))), (q11, .inl (c11, 240, .inl (fun _ => (0 : Int32))))] := hD
  refine lv_aload_n hx hb dCM_init_94 rfl (lv_at hl 0 rfl) ?_
  refine lv_iconst (v := (5 : Int32)) hx hb dCM_init_95 (by decide) ?_
  refine va_newa (atype := .int) (N' := 5) (a0 := (5, .inl (fun _ => (0 : Int32)))) hx hb (hts _ mw_636) rfl hK hP hD hS hA (fun cA => rfl) (by decide) (by decide) (by decide) (Nat.le_of_ble_eq_true rfl) (Nat.le_of_ble_eq_true rfl) dCM_init_96 (fun q12 c12 H hK hP hD hS => ?_)
  have hP : va_P (dC, dI) vwC [(h0, .inr (5, [.int 0, .ref q1, .ref q2, .ref q3, .ref q4, .ref q5, .int 0, .ref q6, .ref q7, .ref q8, .ref q9, .ref q10, .ref q11, .int 0, .null, .null, .null, .null, .null, .int 0, .null, .null, .null])), (q1, .inl (c1, 24, .inl (fun _ => (0 : Int32)))), (q2, .inl (c2, 24, .inl (fun _ => (0 : Int32)))), (q3, .inl (c3, 24, .inl (fun _ => (0 : Int32)))), (q4, .inl (c4, 96, .inl (fun _ => (0 : Int32)))), (q5, .inl (c5, 576, .inl (fun _ => (0 : Int32)))), (q6, .inl (c6, 60, .inl (fun _ => (0 : Int32)))), (q7, .inl (c7, 60, .inl (fun _ => (0 : Int32)))), (q8, .inl (c8, 60, .inl (fun _ => (0 : Int32)))), (q9, .inl (c9, 60, .inl (fun _ => (0 : Int32)))), (q10, .inl (c10, 60, .inl (fun _ => (0 : Int32)))), (q11, .inl (c11, 240, .inl (fun _ => (0 : Int32)))), (q12, .inl (c12, 5, .inl (fun _ => (0 : Int32))))] H := hP
  have hD : va_D A [(h0, .inr (5, [.int 0, .ref q1, .ref q2, .ref q3, .ref q4, .ref q5, .int 0, .ref q6, .ref q7, .ref q8, .ref q9, .ref q10, .ref q11, .int 0, .null, .null, .null, .null, .null, .int 0, .null, .null, .null])), (q1, .inl (c1, 24, .inl (fun _ => (0 : Int32)))), (q2, .inl (c2, 24, .inl (fun _ => (0 : Int32)))), (q3, .inl (c3, 24, .inl (fun _ => (0 : Int32)))), (q4, .inl (c4, 96, .inl (fun _ => (0 : Int32)))), (q5, .inl (c5, 576, .inl (fun _ => (0 : Int32)))), (q6, .inl (c6, 60, .inl (fun _ => (0 : Int32)))), (q7, .inl (c7, 60, .inl (fun _ => (0 : Int32)))), (q8, .inl (c8, 60, .inl (fun _ => (0 : Int32)))), (q9, .inl (c9, 60, .inl (fun _ => (0 : Int32)))), (q10, .inl (c10, 60, .inl (fun _ => (0 : Int32)))), (q11, .inl (c11, 240, .inl (fun _ => (0 : Int32)))), (q12, .inl (c12, 5, .inl (fun _ => (0 : Int32))))] := hD
  have hK : va_K (dC, dI) vwC [(c1, .boolean), (c2, .int), (c3, .int), (c4, .int), (c5, .boolean), (c6, .int), (c7, .int), (c8, .int), (c9, .int), (c10, .int), (c11, .int), (c12, .int)] s := hK
  refine W.widen (k := 12) (n := 1289) (Nat.le_of_ble_eq_true rfl) (Nat.le_of_ble_eq_true rfl) ?_
  refine va_putF (D := (dC, dI)) (ci := 5) (v := .ref q12) (ty := .array .int) (C := RCM) (T := TCM) (N := 23) hx hb hts inCM tyCM tyCM_ok nnCM hown hK hP hD hS 0 rfl rfl 14 (by decide) (hts _ mw_443) (fun _ h9 => h9) rfl hin rfl (by decide +kernel) rfl rfl (Nat.le_of_ble_eq_true rfl) dCM_init_98 (fun H locs hP hD hS => ?_)
  have hP : va_P (dC, dI) vwC [(h0, .inr (5, [.int 0, .ref q1, .ref q2, .ref q3, .ref q4, .ref q5, .int 0, .ref q6, .ref q7, .ref q8, .ref q9, .ref q10, .ref q11, .int 0, .ref q12, .null, .null, .null, .null, .int 0, .null, .null, .null])), (q1, .inl (c1, 24, .inl (fun _ => (0 : Int32)))), (q2, .inl (c2, 24, .inl (fun _ => (0 : Int32)))), (q3, .inl (c3, 24, .inl (fun _ => (0 : Int32)))), (q4, .inl (c4, 96, .inl (fun _ => (0 : Int32)))), (q5, .inl (c5, 576, .inl (fun _ => (0 : Int32)))), (q6, .inl (c6, 60, .inl (fun _ => (0 : Int32)))), (q7, .inl (c7, 60, .inl (fun _ => (0 : Int32)))), (q8, .inl (c8, 60, .inl (fun _ => (0 : Int32)))), (q9, .inl (c9, 60, .inl (fun _ => (0 : Int32)))), (q10, .inl (c10, 60, .inl (fun _ => (0 : Int32)))), (q11, .inl (c11, 240, .inl (fun _ => (0 : Int32)))), (q12, .inl (c12, 5, .inl (fun _ => (0 : Int32))))] H := hP
  have hD : va_D A [(h0, .inr (5, [.int 0, .ref q1, .ref q2, .ref q3, .ref q4, .ref q5, .int 0, .ref q6, .ref q7, .ref q8, .ref q9, .ref q10, .ref q11, .int 0, .ref q12, .null, .null, .null, .null, .int 0, .null, .null, .null])), (q1, .inl (c1, 24, .inl (fun _ => (0 : Int32)))), (q2, .inl (c2, 24, .inl (fun _ => (0 : Int32)))), (q3, .inl (c3, 24, .inl (fun _ => (0 : Int32)))), (q4, .inl (c4, 96, .inl (fun _ => (0 : Int32)))), (q5, .inl (c5, 576, .inl (fun _ => (0 : Int32)))), (q6, .inl (c6, 60, .inl (fun _ => (0 : Int32)))), (q7, .inl (c7, 60, .inl (fun _ => (0 : Int32)))), (q8, .inl (c8, 60, .inl (fun _ => (0 : Int32)))), (q9, .inl (c9, 60, .inl (fun _ => (0 : Int32)))), (q10, .inl (c10, 60, .inl (fun _ => (0 : Int32)))), (q11, .inl (c11, 240, .inl (fun _ => (0 : Int32)))), (q12, .inl (c12, 5, .inl (fun _ => (0 : Int32))))] := hD
  refine lv_aload_n hx hb dCM_init_101 rfl (lv_at hl 0 rfl) ?_
  refine lv_iconst (v := (5 : Int32)) hx hb dCM_init_102 (by decide) ?_
  refine va_newa (atype := .int) (N' := 5) (a0 := (5, .inl (fun _ => (0 : Int32)))) hx hb (hts _ mw_636) rfl hK hP hD hS hA (fun cA => rfl) (by decide) (by decide) (by decide) (Nat.le_of_ble_eq_true rfl) (Nat.le_of_ble_eq_true rfl) dCM_init_103 (fun q13 c13 H hK hP hD hS => ?_)
  have hP : va_P (dC, dI) vwC [(h0, .inr (5, [.int 0, .ref q1, .ref q2, .ref q3, .ref q4, .ref q5, .int 0, .ref q6, .ref q7, .ref q8, .ref q9, .ref q10, .ref q11, .int 0, .ref q12, .null, .null, .null, .null, .int 0, .null, .null, .null])), (q1, .inl (c1, 24, .inl (fun _ => (0 : Int32)))), (q2, .inl (c2, 24, .inl (fun _ => (0 : Int32)))), (q3, .inl (c3, 24, .inl (fun _ => (0 : Int32)))), (q4, .inl (c4, 96, .inl (fun _ => (0 : Int32)))), (q5, .inl (c5, 576, .inl (fun _ => (0 : Int32)))), (q6, .inl (c6, 60, .inl (fun _ => (0 : Int32)))), (q7, .inl (c7, 60, .inl (fun _ => (0 : Int32)))), (q8, .inl (c8, 60, .inl (fun _ => (0 : Int32)))), (q9, .inl (c9, 60, .inl (fun _ => (0 : Int32)))), (q10, .inl (c10, 60, .inl (fun _ => (0 : Int32)))), (q11, .inl (c11, 240, .inl (fun _ => (0 : Int32)))), (q12, .inl (c12, 5, .inl (fun _ => (0 : Int32)))), (q13, .inl (c13, 5, .inl (fun _ => (0 : Int32))))] H := hP
  have hD : va_D A [(h0, .inr (5, [.int 0, .ref q1, .ref q2, .ref q3, .ref q4, .ref q5, .int 0, .ref q6, .ref q7, .ref q8, .ref q9, .ref q10, .ref q11, .int 0, .ref q12, .null, .null, .null, .null, .int 0, .null, .null, .null])), (q1, .inl (c1, 24, .inl (fun _ => (0 : Int32)))), (q2, .inl (c2, 24, .inl (fun _ => (0 : Int32)))), (q3, .inl (c3, 24, .inl (fun _ => (0 : Int32)))), (q4, .inl (c4, 96, .inl (fun _ => (0 : Int32)))), (q5, .inl (c5, 576, .inl (fun _ => (0 : Int32)))), (q6, .inl (c6, 60, .inl (fun _ => (0 : Int32)))), (q7, .inl (c7, 60, .inl (fun _ => (0 : Int32)))), (q8, .inl (c8, 60, .inl (fun _ => (0 : Int32)))), (q9, .inl (c9, 60, .inl (fun _ => (0 : Int32)))), (q10, .inl (c10, 60, .inl (fun _ => (0 : Int32)))), (q11, .inl (c11, 240, .inl (fun _ => (0 : Int32)))), (q12, .inl (c12, 5, .inl (fun _ => (0 : Int32)))), (q13, .inl (c13, 5, .inl (fun _ => (0 : Int32))))] := hD
  have hK : va_K (dC, dI) vwC [(c1, .boolean), (c2, .int), (c3, .int), (c4, .int), (c5, .boolean), (c6, .int), (c7, .int), (c8, .int), (c9, .int), (c10, .int), (c11, .int), (c12, .int), (c13, .int)] s := hK
  refine W.widen (k := 13) (n := 1294) (Nat.le_of_ble_eq_true rfl) (Nat.le_of_ble_eq_true rfl) ?_
  refine va_putF (D := (dC, dI)) (ci := 5) (v := .ref q13) (ty := .array .int) (C := RCM) (T := TCM) (N := 23) hx hb hts inCM tyCM tyCM_ok nnCM hown hK hP hD hS 0 rfl rfl 15 (by decide) (hts _ mw_444) (fun _ h9 => h9) rfl hin rfl (by decide +kernel) rfl rfl (Nat.le_of_ble_eq_true rfl) dCM_init_105 (fun H locs hP hD hS => ?_)
  have hP : va_P (dC, dI) vwC [(h0, .inr (5, [.int 0, .ref q1, .ref q2, .ref q3, .ref q4, .ref q5, .int 0, .ref q6, .ref q7, .ref q8, .ref q9, .ref q10, .ref q11, .int 0, .ref q12, .ref q13, .null, .null, .null, .int 0, .null, .null, .null])), (q1, .inl (c1, 24, .inl (fun _ => (0 : Int32)))), (q2, .inl (c2, 24, .inl (fun _ => (0 : Int32)))), (q3, .inl (c3, 24, .inl (fun _ => (0 : Int32)))), (q4, .inl (c4, 96, .inl (fun _ => (0 : Int32)))), (q5, .inl (c5, 576, .inl (fun _ => (0 : Int32)))), (q6, .inl (c6, 60, .inl (fun _ => (0 : Int32)))), (q7, .inl (c7, 60, .inl (fun _ => (0 : Int32)))), (q8, .inl (c8, 60, .inl (fun _ => (0 : Int32)))), (q9, .inl (c9, 60, .inl (fun _ => (0 : Int32)))), (q10, .inl (c10, 60, .inl (fun _ => (0 : Int32)))), (q11, .inl (c11, 240, .inl (fun _ => (0 : Int32)))), (q12, .inl (c12, 5, .inl (fun _ => (0 : Int32)))), (q13, .inl (c13, 5, .inl (fun _ => (0 : Int32))))] H := hP
  have hD : va_D A [(h0, .inr (5, [.int 0, .ref q1, .ref q2, .ref q3, .ref q4, .ref q5, .int 0, .ref q6, .ref q7, .ref q8, .ref q9, .ref q10, .ref q11, .int 0, .ref q12, .ref q13, .null, .null, .null, .int 0, .null, .null, .null])), (q1, .inl (c1, 24, .inl (fun _ => (0 : Int32)))), (q2, .inl (c2, 24, .inl (fun _ => (0 : Int32)))), (q3, .inl (c3, 24, .inl (fun _ => (0 : Int32)))), (q4, .inl (c4, 96, .inl (fun _ => (0 : Int32)))), (q5, .inl (c5, 576, .inl (fun _ => (0 : Int32)))), (q6, .inl (c6, 60, .inl (fun _ => (0 : Int32)))), (q7, .inl (c7, 60, .inl (fun _ => (0 : Int32)))), (q8, .inl (c8, 60, .inl (fun _ => (0 : Int32)))), (q9, .inl (c9, 60, .inl (fun _ => (0 : Int32)))), (q10, .inl (c10, 60, .inl (fun _ => (0 : Int32)))), (q11, .inl (c11, 240, .inl (fun _ => (0 : Int32)))), (q12, .inl (c12, 5, .inl (fun _ => (0 : Int32)))), (q13, .inl (c13, 5, .inl (fun _ => (0 : Int32))))] := hD
  refine lv_aload_n hx hb dCM_init_108 rfl (lv_at hl 0 rfl) ?_
  refine lv_iconst (v := (5 : Int32)) hx hb dCM_init_109 (by decide) ?_
  refine va_newa (atype := .int) (N' := 5) (a0 := (5, .inl (fun _ => (0 : Int32)))) hx hb (hts _ mw_636) rfl hK hP hD hS hA (fun cA => rfl) (by decide) (by decide) (by decide) (Nat.le_of_ble_eq_true rfl) (Nat.le_of_ble_eq_true rfl) dCM_init_110 (fun q14 c14 H hK hP hD hS => ?_)
  have hP : va_P (dC, dI) vwC [(h0, .inr (5, [.int 0, .ref q1, .ref q2, .ref q3, .ref q4, .ref q5, .int 0, .ref q6, .ref q7, .ref q8, .ref q9, .ref q10, .ref q11, .int 0, .ref q12, .ref q13, .null, .null, .null, .int 0, .null, .null, .null])), (q1, .inl (c1, 24, .inl (fun _ => (0 : Int32)))), (q2, .inl (c2, 24, .inl (fun _ => (0 : Int32)))), (q3, .inl (c3, 24, .inl (fun _ => (0 : Int32)))), (q4, .inl (c4, 96, .inl (fun _ => (0 : Int32)))), (q5, .inl (c5, 576, .inl (fun _ => (0 : Int32)))), (q6, .inl (c6, 60, .inl (fun _ => (0 : Int32)))), (q7, .inl (c7, 60, .inl (fun _ => (0 : Int32)))), (q8, .inl (c8, 60, .inl (fun _ => (0 : Int32)))), (q9, .inl (c9, 60, .inl (fun _ => (0 : Int32)))), (q10, .inl (c10, 60, .inl (fun _ => (0 : Int32)))), (q11, .inl (c11, 240, .inl (fun _ => (0 : Int32)))), (q12, .inl (c12, 5, .inl (fun _ => (0 : Int32)))), (q13, .inl (c13, 5, .inl (fun _ => (0 : Int32)))), (q14, .inl (c14, 5, .inl (fun _ => (0 : Int32))))] H := hP
  have hD : va_D A [(h0, .inr (5, [.int 0, .ref q1, .ref q2, .ref q3, .ref q4, .ref q5, .int 0, .ref q6, .ref q7, .ref q8, .ref q9, .ref q10, .ref q11, .int 0, .ref q12, .ref q13, .null, .null, .null, .int 0, .null, .null, .null])), (q1, .inl (c1, 24, .inl (fun _ => (0 : Int32)))), (q2, .inl (c2, 24, .inl (fun _ => (0 : Int32)))), (q3, .inl (c3, 24, .inl (fun _ => (0 : Int32)))), (q4, .inl (c4, 96, .inl (fun _ => (0 : Int32)))), (q5, .inl (c5, 576, .inl (fun _ => (0 : Int32)))), (q6, .inl (c6, 60, .inl (fun _ => (0 : Int32)))), (q7, .inl (c7, 60, .inl (fun _ => (0 : Int32)))), (q8, .inl (c8, 60, .inl (fun _ => (0 : Int32)))), (q9, .inl (c9, 60, .inl (fun _ => (0 : Int32)))), (q10, .inl (c10, 60, .inl (fun _ => (0 : Int32)))), (q11, .inl (c11, 240, .inl (fun _ => (0 : Int32)))), (q12, .inl (c12, 5, .inl (fun _ => (0 : Int32)))), (q13, .inl (c13, 5, .inl (fun _ => (0 : Int32)))), (q14, .inl (c14, 5, .inl (fun _ => (0 : Int32))))] := hD
  have hK : va_K (dC, dI) vwC [(c1, .boolean), (c2, .int), (c3, .int), (c4, .int), (c5, .boolean), (c6, .int), (c7, .int), (c8, .int), (c9, .int), (c10, .int), (c11, .int), (c12, .int), (c13, .int), (c14, .int)] s := hK
  refine W.widen (k := 14) (n := 1299) (Nat.le_of_ble_eq_true rfl) (Nat.le_of_ble_eq_true rfl) ?_
  refine va_putF (D := (dC, dI)) (ci := 5) (v := .ref q14) (ty := .array .int) (C := RCM) (T := TCM) (N := 23) hx hb hts inCM tyCM tyCM_ok nnCM hown hK hP hD hS 0 rfl rfl 16 (by decide) (hts _ mw_445) (fun _ h9 => h9) rfl hin rfl (by decide +kernel) rfl rfl (Nat.le_of_ble_eq_true rfl) dCM_init_112 (fun H locs hP hD hS => ?_)
  have hP : va_P (dC, dI) vwC [(h0, .inr (5, [.int 0, .ref q1, .ref q2, .ref q3, .ref q4, .ref q5, .int 0, .ref q6, .ref q7, .ref q8, .ref q9, .ref q10, .ref q11, .int 0, .ref q12, .ref q13, .ref q14, .null, .null, .int 0, .null, .null, .null])), (q1, .inl (c1, 24, .inl (fun _ => (0 : Int32)))), (q2, .inl (c2, 24, .inl (fun _ => (0 : Int32)))), (q3, .inl (c3, 24, .inl (fun _ => (0 : Int32)))), (q4, .inl (c4, 96, .inl (fun _ => (0 : Int32)))), (q5, .inl (c5, 576, .inl (fun _ => (0 : Int32)))), (q6, .inl (c6, 60, .inl (fun _ => (0 : Int32)))), (q7, .inl (c7, 60, .inl (fun _ => (0 : Int32)))), (q8, .inl (c8, 60, .inl (fun _ => (0 : Int32)))), (q9, .inl (c9, 60, .inl (fun _ => (0 : Int32)))), (q10, .inl (c10, 60, .inl (fun _ => (0 : Int32)))), (q11, .inl (c11, 240, .inl (fun _ => (0 : Int32)))), (q12, .inl (c12, 5, .inl (fun _ => (0 : Int32)))), (q13, .inl (c13, 5, .inl (fun _ => (0 : Int32)))), (q14, .inl (c14, 5, .inl (fun _ => (0 : Int32))))] H := hP
  have hD : va_D A [(h0, .inr (5, [.int 0, .ref q1, .ref q2, .ref q3, .ref q4, .ref q5, .int 0, .ref q6, .ref q7, .ref q8, .ref q9, .ref q10, .ref q11, .int 0, .ref q12, .ref q13, .ref q14, .null, .null, .int 0, .null, .null, .null])), (q1, .inl (c1, 24, .inl (fun _ => (0 : Int32)))), (q2, .inl (c2, 24, .inl (fun _ => (0 : Int32)))), (q3, .inl (c3, 24, .inl (fun _ => (0 : Int32)))), (q4, .inl (c4, 96, .inl (fun _ => (0 : Int32)))), (q5, .inl (c5, 576, .inl (fun _ => (0 : Int32)))), (q6, .inl (c6, 60, .inl (fun _ => (0 : Int32)))), (q7, .inl (c7, 60, .inl (fun _ => (0 : Int32)))), (q8, .inl (c8, 60, .inl (fun _ => (0 : Int32)))), (q9, .inl (c9, 60, .inl (fun _ => (0 : Int32)))), (q10, .inl (c10, 60, .inl (fun _ => (0 : Int32)))), (q11, .inl (c11, 240, .inl (fun _ => (0 : Int32)))), (q12, .inl (c12, 5, .inl (fun _ => (0 : Int32)))), (q13, .inl (c13, 5, .inl (fun _ => (0 : Int32)))), (q14, .inl (c14, 5, .inl (fun _ => (0 : Int32))))] := hD
  refine lv_aload_n hx hb dCM_init_115 rfl (lv_at hl 0 rfl) ?_
  refine lv_bipush (v := (10 : Int32)) hx hb dCM_init_116 (by decide) ?_
  refine va_newa (atype := .int) (N' := 10) (a0 := (10, .inl (fun _ => (0 : Int32)))) hx hb (hts _ mw_636) rfl hK hP hD hS hA (fun cA => rfl) (by decide) (by decide) (by decide) (Nat.le_of_ble_eq_true rfl) (Nat.le_of_ble_eq_true rfl) dCM_init_118 (fun q15 c15 H hK hP hD hS => ?_)
  have hP : va_P (dC, dI) vwC [(h0, .inr (5, [.int 0, .ref q1, .ref q2, .ref q3, .ref q4, .ref q5, .int 0, .ref q6, .ref q7, .ref q8, .ref q9, .ref q10, .ref q11, .int 0, .ref q12, .ref q13, .ref q14, .null, .null, .int 0, .null, .null, .null])), (q1, .inl (c1, 24, .inl (fun _ => (0 : Int32)))), (q2, .inl (c2, 24, .inl (fun _ => (0 : Int32)))), (q3, .inl (c3, 24, .inl (fun _ => (0 : Int32)))), (q4, .inl (c4, 96, .inl (fun _ => (0 : Int32)))), (q5, .inl (c5, 576, .inl (fun _ => (0 : Int32)))), (q6, .inl (c6, 60, .inl (fun _ => (0 : Int32)))), (q7, .inl (c7, 60, .inl (fun _ => (0 : Int32)))), (q8, .inl (c8, 60, .inl (fun _ => (0 : Int32)))), (q9, .inl (c9, 60, .inl (fun _ => (0 : Int32)))), (q10, .inl (c10, 60, .inl (fun _ => (0 : Int32)))), (q11, .inl (c11, 240, .inl (fun _ => (0 : Int32)))), (q12, .inl (c12, 5, .inl (fun _ => (0 : Int32)))), (q13, .inl (c13, 5, .inl (fun _ => (0 : Int32)))), (q14, .inl (c14, 5, .inl (fun _ => (0 : Int32)))), (q15, .inl (c15, 10, .inl (fun _ => (0 : Int32))))] H := hP
  have hD : va_D A [(h0, .inr (5, [.int 0, .ref q1, .ref q2, .ref q3, .ref q4, .ref q5, .int 0, .ref q6, .ref q7, .ref q8, .ref q9, .ref q10, .ref q11, .int 0, .ref q12, .ref q13, .ref q14, .null, .null, .int 0, .null, .null, .null])), (q1, .inl (c1, 24, .inl (fun _ => (0 : Int32)))), (q2, .inl (c2, 24, .inl (fun _ => (0 : Int32)))), (q3, .inl (c3, 24, .inl (fun _ => (0 : Int32)))), (q4, .inl (c4, 96, .inl (fun _ => (0 : Int32)))), (q5, .inl (c5, 576, .inl (fun _ => (0 : Int32)))), (q6, .inl (c6, 60, .inl (fun _ => (0 : Int32)))), (q7, .inl (c7, 60, .inl (fun _ => (0 : Int32)))), (q8, .inl (c8, 60, .inl (fun _ => (0 : Int32)))), (q9, .inl (c9, 60, .inl (fun _ => (0 : Int32)))), (q10, .inl (c10, 60, .inl (fun _ => (0 : Int32)))), (q11, .inl (c11, 240, .inl (fun _ => (0 : Int32)))), (q12, .inl (c12, 5, .inl (fun _ => (0 : Int32)))), (q13, .inl (c13, 5, .inl (fun _ => (0 : Int32)))), (q14, .inl (c14, 5, .inl (fun _ => (0 : Int32)))), (q15, .inl (c15, 10, .inl (fun _ => (0 : Int32))))] := hD
  have hK : va_K (dC, dI) vwC [(c1, .boolean), (c2, .int), (c3, .int), (c4, .int), (c5, .boolean), (c6, .int), (c7, .int), (c8, .int), (c9, .int), (c10, .int), (c11, .int), (c12, .int), (c13, .int), (c14, .int), (c15, .int)] s := hK
  refine W.widen (k := 15) (n := 1309) (Nat.le_of_ble_eq_true rfl) (Nat.le_of_ble_eq_true rfl) ?_
  refine va_putF (D := (dC, dI)) (ci := 5) (v := .ref q15) (ty := .array .int) (C := RCM) (T := TCM) (N := 23) hx hb hts inCM tyCM tyCM_ok nnCM hown hK hP hD hS 0 rfl rfl 17 (by decide) (hts _ mw_446) (fun _ h9 => h9) rfl hin rfl (by decide +kernel) rfl rfl (Nat.le_of_ble_eq_true rfl) dCM_init_120 (fun H locs hP hD hS => ?_)
  have hP : va_P (dC, dI) vwC [(h0, .inr (5, [.int 0, .ref q1, .ref q2, .ref q3, .ref q4, .ref q5, .int 0, .ref q6, .ref q7, .ref q8, .ref q9, .ref q10, .ref q11, .int 0, .ref q12, .ref q13, .ref q14, .ref q15, .null, .int 0, .null, .null, .null])), (q1, .inl (c1, 24, .inl (fun _ => (0 : Int32)))), (q2, .inl (c2, 24, .inl (fun _ => (0 : Int32)))), (q3, .inl (c3, 24, .inl (fun _ => (0 : Int32)))), (q4, .inl (c4, 96, .inl (fun _ => (0 : Int32)))), (q5, .inl (c5, 576, .inl (fun _ => (0 : Int32)))), (q6, .inl (c6, 60, .inl (fun _ => (0 : Int32)))), (q7, .inl (c7, 60, .inl (fun _ => (0 : Int32)))), (q8, .inl (c8, 60, .inl (fun _ => (0 : Int32)))), (q9, .inl (c9, 60, .inl (fun _ => (0 : Int32)))), (q10, .inl (c10, 60, .inl (fun _ => (0 : Int32)))), (q11, .inl (c11, 240, .inl (fun _ => (0 : Int32)))), (q12, .inl (c12, 5, .inl (fun _ => (0 : Int32)))), (q13, .inl (c13, 5, .inl (fun _ => (0 : Int32)))), (q14, .inl (c14, 5, .inl (fun _ => (0 : Int32)))), (q15, .inl (c15, 10, .inl (fun _ => (0 : Int32))))] H := hP
  have hD : va_D A [(h0, .inr (5, [.int 0, .ref q1, .ref q2, .ref q3, .ref q4, .ref q5, .int 0, .ref q6, .ref q7, .ref q8, .ref q9, .ref q10, .ref q11, .int 0, .ref q12, .ref q13, .ref q14, .ref q15, .null, .int 0, .null, .null, .null])), (q1, .inl (c1, 24, .inl (fun _ => (0 : Int32)))), (q2, .inl (c2, 24, .inl (fun _ => (0 : Int32)))), (q3, .inl (c3, 24, .inl (fun _ => (0 : Int32)))), (q4, .inl (c4, 96, .inl (fun _ => (0 : Int32)))), (q5, .inl (c5, 576, .inl (fun _ => (0 : Int32)))), (q6, .inl (c6, 60, .inl (fun _ => (0 : Int32)))), (q7, .inl (c7, 60, .inl (fun _ => (0 : Int32)))), (q8, .inl (c8, 60, .inl (fun _ => (0 : Int32)))), (q9, .inl (c9, 60, .inl (fun _ => (0 : Int32)))), (q10, .inl (c10, 60, .inl (fun _ => (0 : Int32)))), (q11, .inl (c11, 240, .inl (fun _ => (0 : Int32)))), (q12, .inl (c12, 5, .inl (fun _ => (0 : Int32)))), (q13, .inl (c13, 5, .inl (fun _ => (0 : Int32)))), (q14, .inl (c14, 5, .inl (fun _ => (0 : Int32)))), (q15, .inl (c15, 10, .inl (fun _ => (0 : Int32))))] := hD
  refine lv_aload_n hx hb dCM_init_123 rfl (lv_at hl 0 rfl) ?_
  refine lv_iconst (v := (5 : Int32)) hx hb dCM_init_124 (by decide) ?_
  refine va_newa (atype := .int) (N' := 5) (a0 := (5, .inl (fun _ => (0 : Int32)))) hx hb (hts _ mw_636) rfl hK hP hD hS hA (fun cA => rfl) (by decide) (by decide) (by decide) (Nat.le_of_ble_eq_true rfl) (Nat.le_of_ble_eq_true rfl) dCM_init_125 (fun q16 c16 H hK hP hD hS => ?_)
  have hP : va_P (dC, dI) vwC [(h0, .inr (5, [.int 0, .ref q1, .ref q2, .ref q3, .ref q4, .ref q5, .int 0, .ref q6, .ref q7, .ref q8, .ref q9, .ref q10, .ref q11, .int 0, .ref q12, .ref q13, .ref q14, .ref q15, .null, .int 0, .null, .null, .null])), (q1, .inl (c1, 24, .inl (fun _ => (0 : Int32)))), (q2, .inl (c2, 24, .inl (fun _ => (0 : Int32)))), (q3, .inl (c3, 24, .inl (fun _ => (0 : Int32)))), (q4, .inl (c4, 96, .inl (fun _ => (0 : Int32)))), (q5, .inl (c5, 576, .inl (fun _ => (0 : Int32)))), (q6, .inl (c6, 60, .inl (fun _ => (0 : Int32)))), (q7, .inl (c7, 60, .inl (fun _ => (0 : Int32)))), (q8, .inl (c8, 60, .inl (fun _ => (0 : Int32)))), (q9, .inl (c9, 60, .inl (fun _ => (0 : Int32)))), (q10, .inl (c10, 60, .inl (fun _ => (0 : Int32)))), (q11, .inl (c11, 240, .inl (fun _ => (0 : Int32)))), (q12, .inl (c12, 5, .inl (fun _ => (0 : Int32)))), (q13, .inl (c13, 5, .inl (fun _ => (0 : Int32)))), (q14, .inl (c14, 5, .inl (fun _ => (0 : Int32)))), (q15, .inl (c15, 10, .inl (fun _ => (0 : Int32)))), (q16, .inl (c16, 5, .inl (fun _ => (0 : Int32))))] H := hP
  have hD : va_D A [(h0, .inr (5, [.int 0, .ref q1, .ref q2, .ref q3, .ref q4, .ref q5, .int 0, .ref q6, .ref q7, .ref q8, .ref q9, .ref q10, .ref q11, .int 0, .ref q12, .ref q13, .ref q14, .ref q15, .null, .int 0, .null, .null, .null])), (q1, .inl (c1, 24, .inl (fun _ => (0 : Int32)))), (q2, .inl (c2, 24, .inl (fun _ => (0 : Int32)))), (q3, .inl (c3, 24, .inl (fun _ => (0 : Int32)))), (q4, .inl (c4, 96, .inl (fun _ => (0 : Int32)))), (q5, .inl (c5, 576, .inl (fun _ => (0 : Int32)))), (q6, .inl (c6, 60, .inl (fun _ => (0 : Int32)))), (q7, .inl (c7, 60, .inl (fun _ => (0 : Int32)))), (q8, .inl (c8, 60, .inl (fun _ => (0 : Int32)))), (q9, .inl (c9, 60, .inl (fun _ => (0 : Int32)))), (q10, .inl (c10, 60, .inl (fun _ => (0 : Int32)))), (q11, .inl (c11, 240, .inl (fun _ => (0 : Int32)))), (q12, .inl (c12, 5, .inl (fun _ => (0 : Int32)))), (q13, .inl (c13, 5, .inl (fun _ => (0 : Int32)))), (q14, .inl (c14, 5, .inl (fun _ => (0 : Int32)))), (q15, .inl (c15, 10, .inl (fun _ => (0 : Int32)))), (q16, .inl (c16, 5, .inl (fun _ => (0 : Int32))))] := hD
  have hK : va_K (dC, dI) vwC [(c1, .boolean), (c2, .int), (c3, .int), (c4, .int), (c5, .boolean), (c6, .int), (c7, .int), (c8, .int), (c9, .int), (c10, .int), (c11, .int), (c12, .int), (c13, .int), (c14, .int), (c15, .int), (c16, .int)] s := hK
  refine W.widen (k := 16) (n := 1314) (Nat.le_of_ble_eq_true rfl) (Nat.le_of_ble_eq_true rfl) ?_
  refine va_putF (D := (dC, dI)) (ci := 5) (v := .ref q16) (ty := .array .int) (C := RCM) (T := TCM) (N := 23) hx hb hts inCM tyCM tyCM_ok nnCM hown hK hP hD hS 0 rfl rfl 18 (by decide) (hts _ mw_447) (fun _ h9 => h9) rfl hin rfl (by decide +kernel) rfl rfl (Nat.le_of_ble_eq_true rfl) dCM_init_127 (fun H locs hP hD hS => ?_)
  have hP : va_P (dC, dI) vwC [(h0, .inr (5, [.int 0, .ref q1, .ref q2, .ref q3, .ref q4, .ref q5, .int 0, .ref q6, .ref q7, .ref q8, .ref q9, .ref q10, .ref q11, .int 0, .ref q12, .ref q13, .ref q14, .ref q15, .ref q16, .int 0, .null, .null, .null])), (q1, .inl (c1, 24, .inl (fun _ => (0 : Int32)))), (q2, .inl (c2, 24, .inl (fun _ => (0 : Int32)))), (q3, .inl (c3, 24, .inl (fun _ => (0 : Int32)))), (q4, .inl (c4, 96, .inl (fun _ => (0 : Int32)))), (q5, .inl (c5, 576, .inl (fun _ => (0 : Int32)))), (q6, .inl (c6, 60, .inl (fun _ => (0 : Int32)))), (q7, .inl (c7, 60, .inl (fun _ => (0 : Int32)))), (q8, .inl (c8, 60, .inl (fun _ => (0 : Int32)))), (q9, .inl (c9, 60, .inl (fun _ => (0 : Int32)))), (q10, .inl (c10, 60, .inl (fun _ => (0 : Int32)))), (q11, .inl (c11, 240, .inl (fun _ => (0 : Int32)))), (q12, .inl (c12, 5, .inl (fun _ => (0 : Int32)))), (q13, .inl (c13, 5, .inl (fun _ => (0 : Int32)))), (q14, .inl (c14, 5, .inl (fun _ => (0 : Int32)))), (q15, .inl (c15, 10, .inl (fun _ => (0 : Int32)))), (q16, .inl (c16, 5, .inl (fun _ => (0 : Int32))))] H := hP
  have hD : va_D A [(h0, .inr (5, [.int 0, .ref q1, .ref q2, .ref q3, .ref q4, .ref q5, .int 0, .ref q6, .ref q7, .ref q8, .ref q9, .ref q10, .ref q11, .int 0, .ref q12, .ref q13, .ref q14, .ref q15, .ref q16, .int 0, .null, .null, .null])), (q1, .inl (c1, 24, .inl (fun _ => (0 : Int32)))), (q2, .inl (c2, 24, .inl (fun _ => (0 : Int32)))), (q3, .inl (c3, 24, .inl (fun _ => (0 : Int32)))), (q4, .inl (c4, 96, .inl (fun _ => (0 : Int32)))), (q5, .inl (c5, 576, .inl (fun _ => (0 : Int32)))), (q6, .inl (c6, 60, .inl (fun _ => (0 : Int32)))), (q7, .inl (c7, 60, .inl (fun _ => (0 : Int32)))), (q8, .inl (c8, 60, .inl (fun _ => (0 : Int32)))), (q9, .inl (c9, 60, .inl (fun _ => (0 : Int32)))), (q10, .inl (c10, 60, .inl (fun _ => (0 : Int32)))), (q11, .inl (c11, 240, .inl (fun _ => (0 : Int32)))), (q12, .inl (c12, 5, .inl (fun _ => (0 : Int32)))), (q13, .inl (c13, 5, .inl (fun _ => (0 : Int32)))), (q14, .inl (c14, 5, .inl (fun _ => (0 : Int32)))), (q15, .inl (c15, 10, .inl (fun _ => (0 : Int32)))), (q16, .inl (c16, 5, .inl (fun _ => (0 : Int32))))] := hD
  refine lv_aload_n hx hb dCM_init_130 rfl (lv_at hl 0 rfl) ?_
  refine lv_bipush (v := (60 : Int32)) hx hb dCM_init_131 (by decide) ?_
  refine va_newa (atype := .boolean) (N' := 60) (a0 := (60, .inl (fun _ => (0 : Int32)))) hx hb (hts _ mw_635) rfl hK hP hD hS hA (fun cA => rfl) (by decide) (by decide) (by decide) (Nat.le_of_ble_eq_true rfl) (Nat.le_of_ble_eq_true rfl) dCM_init_133 (fun q17 c17 H hK hP hD hS => ?_)
  have hP : va_P (dC, dI) vwC [(h0, .inr (5, [.int 0, .ref q1, .ref q2, .ref q3, .ref q4, .ref q5, .int 0, .ref q6, .ref q7, .ref q8, .ref q9, .ref q10, .ref q11, .int 0, .ref q12, .ref q13, .ref q14, .ref q15, .ref q16, .int 0, .null, .null, .null])), (q1, .inl (c1, 24, .inl (fun _ => (0 : Int32)))), (q2, .inl (c2, 24, .inl (fun _ => (0 : Int32)))), (q3, .inl (c3, 24, .inl (fun _ => (0 : Int32)))), (q4, .inl (c4, 96, .inl (fun _ => (0 : Int32)))), (q5, .inl (c5, 576, .inl (fun _ => (0 : Int32)))), (q6, .inl (c6, 60, .inl (fun _ => (0 : Int32)))), (q7, .inl (c7, 60, .inl (fun _ => (0 : Int32)))), (q8, .inl (c8, 60, .inl (fun _ => (0 : Int32)))), (q9, .inl (c9, 60, .inl (fun _ => (0 : Int32)))), (q10, .inl (c10, 60, .inl (fun _ => (0 : Int32)))), (q11, .inl (c11, 240, .inl (fun _ => (0 : Int32)))), (q12, .inl (c12, 5, .inl (fun _ => (0 : Int32)))), (q13, .inl (c13, 5, .inl (fun _ => (0 : Int32)))), (q14, .inl (c14, 5, .inl (fun _ => (0 : Int32)))), (q15, .inl (c15, 10, .inl (fun _ => (0 : Int32)))), (q16, .inl (c16, 5, .inl (fun _ => (0 : Int32)))), (q17, .inl (c17, 60, .inl (fun _ => (0 : Int32))))] H := hP
  have hD : va_D A [(h0, .inr (5, [.int 0, .ref q1, .ref q2, .ref q3, .ref q4, .ref q5, .int 0, .ref q6, .ref q7, .ref q8, .ref q9, .ref q10, .ref q11, .int 0, .ref q12, .ref q13, .ref q14, .ref q15, .ref q16, .int 0, .null, .null, .null])), (q1, .inl (c1, 24, .inl (fun _ => (0 : Int32)))), (q2, .inl (c2, 24, .inl (fun _ => (0 : Int32)))), (q3, .inl (c3, 24, .inl (fun _ => (0 : Int32)))), (q4, .inl (c4, 96, .inl (fun _ => (0 : Int32)))), (q5, .inl (c5, 576, .inl (fun _ => (0 : Int32)))), (q6, .inl (c6, 60, .inl (fun _ => (0 : Int32)))), (q7, .inl (c7, 60, .inl (fun _ => (0 : Int32)))), (q8, .inl (c8, 60, .inl (fun _ => (0 : Int32)))), (q9, .inl (c9, 60, .inl (fun _ => (0 : Int32)))), (q10, .inl (c10, 60, .inl (fun _ => (0 : Int32)))), (q11, .inl (c11, 240, .inl (fun _ => (0 : Int32)))), (q12, .inl (c12, 5, .inl (fun _ => (0 : Int32)))), (q13, .inl (c13, 5, .inl (fun _ => (0 : Int32)))), (q14, .inl (c14, 5, .inl (fun _ => (0 : Int32)))), (q15, .inl (c15, 10, .inl (fun _ => (0 : Int32)))), (q16, .inl (c16, 5, .inl (fun _ => (0 : Int32)))), (q17, .inl (c17, 60, .inl (fun _ => (0 : Int32))))] := hD
  have hK : va_K (dC, dI) vwC [(c1, .boolean), (c2, .int), (c3, .int), (c4, .int), (c5, .boolean), (c6, .int), (c7, .int), (c8, .int), (c9, .int), (c10, .int), (c11, .int), (c12, .int), (c13, .int), (c14, .int), (c15, .int), (c16, .int), (c17, .boolean)] s := hK
  refine W.widen (k := 17) (n := 1374) (Nat.le_of_ble_eq_true rfl) (Nat.le_of_ble_eq_true rfl) ?_
  refine va_putF (D := (dC, dI)) (ci := 5) (v := .ref q17) (ty := .array .boolean) (C := RCM) (T := TCM) (N := 23) hx hb hts inCM tyCM tyCM_ok nnCM hown hK hP hD hS 0 rfl rfl 20 (by decide) (hts _ mw_449) (fun _ h9 => h9) rfl hin rfl (by decide +kernel) rfl rfl (Nat.le_of_ble_eq_true rfl) dCM_init_135 (fun H locs hP hD hS => ?_)
  have hP : va_P (dC, dI) vwC [(h0, .inr (5, [.int 0, .ref q1, .ref q2, .ref q3, .ref q4, .ref q5, .int 0, .ref q6, .ref q7, .ref q8, .ref q9, .ref q10, .ref q11, .int 0, .ref q12, .ref q13, .ref q14, .ref q15, .ref q16, .int 0, .ref q17, .null, .null])), (q1, .inl (c1, 24, .inl (fun _ => (0 : Int32)))), (q2, .inl (c2, 24, .inl (fun _ => (0 : Int32)))), (q3, .inl (c3, 24, .inl (fun _ => (0 : Int32)))), (q4, .inl (c4, 96, .inl (fun _ => (0 : Int32)))), (q5, .inl (c5, 576, .inl (fun _ => (0 : Int32)))), (q6, .inl (c6, 60, .inl (fun _ => (0 : Int32)))), (q7, .inl (c7, 60, .inl (fun _ => (0 : Int32)))), (q8, .inl (c8, 60, .inl (fun _ => (0 : Int32)))), (q9, .inl (c9, 60, .inl (fun _ => (0 : Int32)))), (q10, .inl (c10, 60, .inl (fun _ => (0 : Int32)))), (q11, .inl (c11, 240, .inl (fun _ => (0 : Int32)))), (q12, .inl (c12, 5, .inl (fun _ => (0 : Int32)))), (q13, .inl (c13, 5, .inl (fun _ => (0 : Int32)))), (q14, .inl (c14, 5, .inl (fun _ => (0 : Int32)))), (q15, .inl (c15, 10, .inl (fun _ => (0 : Int32)))), (q16, .inl (c16, 5, .inl (fun _ => (0 : Int32)))), (q17, .inl (c17, 60, .inl (fun _ => (0 : Int32))))] H := hP
  have hD : va_D A [(h0, .inr (5, [.int 0, .ref q1, .ref q2, .ref q3, .ref q4, .ref q5, .int 0, .ref q6, .ref q7, .ref q8, .ref q9, .ref q10, .ref q11, .int 0, .ref q12, .ref q13, .ref q14, .ref q15, .ref q16, .int 0, .ref q17, .null, .null])), (q1, .inl (c1, 24, .inl (fun _ => (0 : Int32)))), (q2, .inl (c2, 24, .inl (fun _ => (0 : Int32)))), (q3, .inl (c3, 24, .inl (fun _ => (0 : Int32)))), (q4, .inl (c4, 96, .inl (fun _ => (0 : Int32)))), (q5, .inl (c5, 576, .inl (fun _ => (0 : Int32)))), (q6, .inl (c6, 60, .inl (fun _ => (0 : Int32)))), (q7, .inl (c7, 60, .inl (fun _ => (0 : Int32)))), (q8, .inl (c8, 60, .inl (fun _ => (0 : Int32)))), (q9, .inl (c9, 60, .inl (fun _ => (0 : Int32)))), (q10, .inl (c10, 60, .inl (fun _ => (0 : Int32)))), (q11, .inl (c11, 240, .inl (fun _ => (0 : Int32)))), (q12, .inl (c12, 5, .inl (fun _ => (0 : Int32)))), (q13, .inl (c13, 5, .inl (fun _ => (0 : Int32)))), (q14, .inl (c14, 5, .inl (fun _ => (0 : Int32)))), (q15, .inl (c15, 10, .inl (fun _ => (0 : Int32)))), (q16, .inl (c16, 5, .inl (fun _ => (0 : Int32)))), (q17, .inl (c17, 60, .inl (fun _ => (0 : Int32))))] := hD
  refine lv_aload_n hx hb dCM_init_138 rfl (lv_at hl 0 rfl) ?_
  refine lv_sipush (v := (3600 : Int32)) hx hb dCM_init_139 (by decide) ?_
  refine va_newa (atype := .boolean) (N' := 3600) (a0 := (3600, .inl (fun _ => (0 : Int32)))) hx hb (hts _ mw_635) rfl hK hP hD hS hA (fun cA => rfl) (by decide) (by decide) (by decide) (Nat.le_of_ble_eq_true rfl) (Nat.le_of_ble_eq_true rfl) dCM_init_142 (fun q18 c18 H hK hP hD hS => ?_)
  have hP : va_P (dC, dI) vwC [(h0, .inr (5, [.int 0, .ref q1, .ref q2, .ref q3, .ref q4, .ref q5, .int 0, .ref q6, .ref q7, .ref q8, .ref q9, .ref q10, .ref q11, .int 0, .ref q12, .ref q13, .ref q14, .ref q15, .ref q16, .int 0, .ref q17, .null, .null])), (q1, .inl (c1, 24, .inl (fun _ => (0 : Int32)))), (q2, .inl (c2, 24, .inl (fun _ => (0 : Int32)))), (q3, .inl (c3, 24, .inl (fun _ => (0 : Int32)))), (q4, .inl (c4, 96, .inl (fun _ => (0 : Int32)))), (q5, .inl (c5, 576, .inl (fun _ => (0 : Int32)))), (q6, .inl (c6, 60, .inl (fun _ => (0 : Int32)))), (q7, .inl (c7, 60, .inl (fun _ => (0 : Int32)))), (q8, .inl (c8, 60, .inl (fun _ => (0 : Int32)))), (q9, .inl (c9, 60, .inl (fun _ => (0 : Int32)))), (q10, .inl (c10, 60, .inl (fun _ => (0 : Int32)))), (q11, .inl (c11, 240, .inl (fun _ => (0 : Int32)))), (q12, .inl (c12, 5, .inl (fun _ => (0 : Int32)))), (q13, .inl (c13, 5, .inl (fun _ => (0 : Int32)))), (q14, .inl (c14, 5, .inl (fun _ => (0 : Int32)))), (q15, .inl (c15, 10, .inl (fun _ => (0 : Int32)))), (q16, .inl (c16, 5, .inl (fun _ => (0 : Int32)))), (q17, .inl (c17, 60, .inl (fun _ => (0 : Int32)))), (q18, .inl (c18, 3600, .inl (fun _ => (0 : Int32))))] H := hP
  have hD : va_D A [(h0, .inr (5, [.int 0, .ref q1, .ref q2, .ref q3, .ref q4, .ref q5, .int 0, .ref q6, .ref q7, .ref q8, .ref q9, .ref q10, .ref q11, .int 0, .ref q12, .ref q13, .ref q14, .ref q15, .ref q16, .int 0, .ref q17, .null, .null])), (q1, .inl (c1, 24, .inl (fun _ => (0 : Int32)))), (q2, .inl (c2, 24, .inl (fun _ => (0 : Int32)))), (q3, .inl (c3, 24, .inl (fun _ => (0 : Int32)))), (q4, .inl (c4, 96, .inl (fun _ => (0 : Int32)))), (q5, .inl (c5, 576, .inl (fun _ => (0 : Int32)))), (q6, .inl (c6, 60, .inl (fun _ => (0 : Int32)))), (q7, .inl (c7, 60, .inl (fun _ => (0 : Int32)))), (q8, .inl (c8, 60, .inl (fun _ => (0 : Int32)))), (q9, .inl (c9, 60, .inl (fun _ => (0 : Int32)))), (q10, .inl (c10, 60, .inl (fun _ => (0 : Int32)))), (q11, .inl (c11, 240, .inl (fun _ => (0 : Int32)))), (q12, .inl (c12, 5, .inl (fun _ => (0 : Int32)))), (q13, .inl (c13, 5, .inl (fun _ => (0 : Int32)))), (q14, .inl (c14, 5, .inl (fun _ => (0 : Int32)))), (q15, .inl (c15, 10, .inl (fun _ => (0 : Int32)))), (q16, .inl (c16, 5, .inl (fun _ => (0 : Int32)))), (q17, .inl (c17, 60, .inl (fun _ => (0 : Int32)))), (q18, .inl (c18, 3600, .inl (fun _ => (0 : Int32))))] := hD
  have hK : va_K (dC, dI) vwC [(c1, .boolean), (c2, .int), (c3, .int), (c4, .int), (c5, .boolean), (c6, .int), (c7, .int), (c8, .int), (c9, .int), (c10, .int), (c11, .int), (c12, .int), (c13, .int), (c14, .int), (c15, .int), (c16, .int), (c17, .boolean), (c18, .boolean)] s := hK
  refine W.widen (k := 18) (n := 4974) (Nat.le_of_ble_eq_true rfl) (Nat.le_of_ble_eq_true rfl) ?_
  refine va_putF (D := (dC, dI)) (ci := 5) (v := .ref q18) (ty := .array .boolean) (C := RCM) (T := TCM) (N := 23) hx hb hts inCM tyCM tyCM_ok nnCM hown hK hP hD hS 0 rfl rfl 21 (by decide) (hts _ mw_450) (fun _ h9 => h9) rfl hin rfl (by decide +kernel) rfl rfl (Nat.le_of_ble_eq_true rfl) dCM_init_144 (fun H locs hP hD hS => ?_)
  have hP : va_P (dC, dI) vwC [(h0, .inr (5, [.int 0, .ref q1, .ref q2, .ref q3, .ref q4, .ref q5, .int 0, .ref q6, .ref q7, .ref q8, .ref q9, .ref q10, .ref q11, .int 0, .ref q12, .ref q13, .ref q14, .ref q15, .ref q16, .int 0, .ref q17, .ref q18, .null])), (q1, .inl (c1, 24, .inl (fun _ => (0 : Int32)))), (q2, .inl (c2, 24, .inl (fun _ => (0 : Int32)))), (q3, .inl (c3, 24, .inl (fun _ => (0 : Int32)))), (q4, .inl (c4, 96, .inl (fun _ => (0 : Int32)))), (q5, .inl (c5, 576, .inl (fun _ => (0 : Int32)))), (q6, .inl (c6, 60, .inl (fun _ => (0 : Int32)))), (q7, .inl (c7, 60, .inl (fun _ => (0 : Int32)))), (q8, .inl (c8, 60, .inl (fun _ => (0 : Int32)))), (q9, .inl (c9, 60, .inl (fun _ => (0 : Int32)))), (q10, .inl (c10, 60, .inl (fun _ => (0 : Int32)))), (q11, .inl (c11, 240, .inl (fun _ => (0 : Int32)))), (q12, .inl (c12, 5, .inl (fun _ => (0 : Int32)))), (q13, .inl (c13, 5, .inl (fun _ => (0 : Int32)))), (q14, .inl (c14, 5, .inl (fun _ => (0 : Int32)))), (q15, .inl (c15, 10, .inl (fun _ => (0 : Int32)))), (q16, .inl (c16, 5, .inl (fun _ => (0 : Int32)))), (q17, .inl (c17, 60, .inl (fun _ => (0 : Int32)))), (q18, .inl (c18, 3600, .inl (fun _ => (0 : Int32))))] H := hP
  have hD : va_D A [(h0, .inr (5, [.int 0, .ref q1, .ref q2, .ref q3, .ref q4, .ref q5, .int 0, .ref q6, .ref q7, .ref q8, .ref q9, .ref q10, .ref q11, .int 0, .ref q12, .ref q13, .ref q14, .ref q15, .ref q16, .int 0, .ref q17, .ref q18, .null])), (q1, .inl (c1, 24, .inl (fun _ => (0 : Int32)))), (q2, .inl (c2, 24, .inl (fun _ => (0 : Int32)))), (q3, .inl (c3, 24, .inl (fun _ => (0 : Int32)))), (q4, .inl (c4, 96, .inl (fun _ => (0 : Int32)))), (q5, .inl (c5, 576, .inl (fun _ => (0 : Int32)))), (q6, .inl (c6, 60, .inl (fun _ => (0 : Int32)))), (q7, .inl (c7, 60, .inl (fun _ => (0 : Int32)))), (q8, .inl (c8, 60, .inl (fun _ => (0 : Int32)))), (q9, .inl (c9, 60, .inl (fun _ => (0 : Int32)))), (q10, .inl (c10, 60, .inl (fun _ => (0 : Int32)))), (q11, .inl (c11, 240, .inl (fun _ => (0 : Int32)))), (q12, .inl (c12, 5, .inl (fun _ => (0 : Int32)))), (q13, .inl (c13, 5, .inl (fun _ => (0 : Int32)))), (q14, .inl (c14, 5, .inl (fun _ => (0 : Int32)))), (q15, .inl (c15, 10, .inl (fun _ => (0 : Int32)))), (q16, .inl (c16, 5, .inl (fun _ => (0 : Int32)))), (q17, .inl (c17, 60, .inl (fun _ => (0 : Int32)))), (q18, .inl (c18, 3600, .inl (fun _ => (0 : Int32))))] := hD
  refine lv_aload_n hx hb dCM_init_147 rfl (lv_at hl 0 rfl) ?_
  refine lv_bipush (v := (24 : Int32)) hx hb dCM_init_148 (by decide) ?_
  refine va_newa (atype := .int) (N' := 24) (a0 := (24, .inl (fun _ => (0 : Int32)))) hx hb (hts _ mw_636) rfl hK hP hD hS hA (fun cA => rfl) (by decide) (by decide) (by decide) (Nat.le_of_ble_eq_true rfl) (Nat.le_of_ble_eq_true rfl) dCM_init_150 (fun q19 c19 H hK hP hD hS => ?_)
  have hP : va_P (dC, dI) vwC [(h0, .inr (5, [.int 0, .ref q1, .ref q2, .ref q3, .ref q4, .ref q5, .int 0, .ref q6, .ref q7, .ref q8, .ref q9, .ref q10, .ref q11, .int 0, .ref q12, .ref q13, .ref q14, .ref q15, .ref q16, .int 0, .ref q17, .ref q18, .null])), (q1, .inl (c1, 24, .inl (fun _ => (0 : Int32)))), (q2, .inl (c2, 24, .inl (fun _ => (0 : Int32)))), (q3, .inl (c3, 24, .inl (fun _ => (0 : Int32)))), (q4, .inl (c4, 96, .inl (fun _ => (0 : Int32)))), (q5, .inl (c5, 576, .inl (fun _ => (0 : Int32)))), (q6, .inl (c6, 60, .inl (fun _ => (0 : Int32)))), (q7, .inl (c7, 60, .inl (fun _ => (0 : Int32)))), (q8, .inl (c8, 60, .inl (fun _ => (0 : Int32)))), (q9, .inl (c9, 60, .inl (fun _ => (0 : Int32)))), (q10, .inl (c10, 60, .inl (fun _ => (0 : Int32)))), (q11, .inl (c11, 240, .inl (fun _ => (0 : Int32)))), (q12, .inl (c12, 5, .inl (fun _ => (0 : Int32)))), (q13, .inl (c13, 5, .inl (fun _ => (0 : Int32)))), (q14, .inl (c14, 5, .inl (fun _ => (0 : Int32)))), (q15, .inl (c15, 10, .inl (fun _ => (0 : Int32)))), (q16, .inl (c16, 5, .inl (fun _ => (0 : Int32)))), (q17, .inl (c17, 60, .inl (fun _ => (0 : Int32)))), (q18, .inl (c18, 3600, .inl (fun _ => (0 : Int32)))), (q19, .inl (c19, 24, .inl (fun _ => (0 : Int32))))] H := hP
  have hD : va_D A [(h0, .inr (5, [.int 0, .ref q1, .ref q2, .ref q3, .ref q4, .ref q5, .int 0, .ref q6, .ref q7, .ref q8, .ref q9, .ref q10, .ref q11, .int 0, .ref q12, .ref q13, .ref q14, .ref q15, .ref q16, .int 0, .ref q17, .ref q18, .null])), (q1, .inl (c1, 24, .inl (fun _ => (0 : Int32)))), (q2, .inl (c2, 24, .inl (fun _ => (0 : Int32)))), (q3, .inl (c3, 24, .inl (fun _ => (0 : Int32)))), (q4, .inl (c4, 96, .inl (fun _ => (0 : Int32)))), (q5, .inl (c5, 576, .inl (fun _ => (0 : Int32)))), (q6, .inl (c6, 60, .inl (fun _ => (0 : Int32)))), (q7, .inl (c7, 60, .inl (fun _ => (0 : Int32)))), (q8, .inl (c8, 60, .inl (fun _ => (0 : Int32)))), (q9, .inl (c9, 60, .inl (fun _ => (0 : Int32)))), (q10, .inl (c10, 60, .inl (fun _ => (0 : Int32)))), (q11, .inl (c11, 240, .inl (fun _ => (0 : Int32)))), (q12, .inl (c12, 5, .inl (fun _ => (0 : Int32)))), (q13, .inl (c13, 5, .inl (fun _ => (0 : Int32)))), (q14, .inl (c14, 5, .inl (fun _ => (0 : Int32)))), (q15, .inl (c15, 10, .inl (fun _ => (0 : Int32)))), (q16, .inl (c16, 5, .inl (fun _ => (0 : Int32)))), (q17, .inl (c17, 60, .inl (fun _ => (0 : Int32)))), (q18, .inl (c18, 3600, .inl (fun _ => (0 : Int32)))), (q19, .inl (c19, 24, .inl (fun _ => (0 : Int32))))] := hD
  have hK : va_K (dC, dI) vwC [(c1, .boolean), (c2, .int), (c3, .int), (c4, .int), (c5, .boolean), (c6, .int), (c7, .int), (c8, .int), (c9, .int), (c10, .int), (c11, .int), (c12, .int), (c13, .int), (c14, .int), (c15, .int), (c16, .int), (c17, .boolean), (c18, .boolean), (c19, .int)] s := hK
  refine W.widen (k := 19) (n := 4998) (Nat.le_of_ble_eq_true rfl) (Nat.le_of_ble_eq_true rfl) ?_
  refine va_putF (D := (dC, dI)) (ci := 5) (v := .ref q19) (ty := .array .int) (C := RCM) (T := TCM) (N := 23) hx hb hts inCM tyCM tyCM_ok nnCM hown hK hP hD hS 0 rfl rfl 22 (by decide) (hts _ mw_359) (fun _ h9 => h9) rfl hin rfl (by decide +kernel) rfl rfl (Nat.le_of_ble_eq_true rfl) dCM_init_152 (fun H locs hP hD hS => ?_)
  have hP : va_P (dC, dI) vwC [(h0, .inr (5, [.int 0, .ref q1, .ref q2, .ref q3, .ref q4, .ref q5, .int 0, .ref q6, .ref q7, .ref q8, .ref q9, .ref q10, .ref q11, .int 0, .ref q12, .ref q13, .ref q14, .ref q15, .ref q16, .int 0, .ref q17, .ref q18, .ref q19])), (q1, .inl (c1, 24, .inl (fun _ => (0 : Int32)))), (q2, .inl (c2, 24, .inl (fun _ => (0 : Int32)))), (q3, .inl (c3, 24, .inl (fun _ => (0 : Int32)))), (q4, .inl (c4, 96, .inl (fun _ => (0 : Int32)))), (q5, .inl (c5, 576, .inl (fun _ => (0 : Int32)))), (q6, .inl (c6, 60, .inl (fun _ => (0 : Int32)))), (q7, .inl (c7, 60, .inl (fun _ => (0 : Int32)))), (q8, .inl (c8, 60, .inl (fun _ => (0 : Int32)))), (q9, .inl (c9, 60, .inl (fun _ => (0 : Int32)))), (q10, .inl (c10, 60, .inl (fun _ => (0 : Int32)))), (q11, .inl (c11, 240, .inl (fun _ => (0 : Int32)))), (q12, .inl (c12, 5, .inl (fun _ => (0 : Int32)))), (q13, .inl (c13, 5, .inl (fun _ => (0 : Int32)))), (q14, .inl (c14, 5, .inl (fun _ => (0 : Int32)))), (q15, .inl (c15, 10, .inl (fun _ => (0 : Int32)))), (q16, .inl (c16, 5, .inl (fun _ => (0 : Int32)))), (q17, .inl (c17, 60, .inl (fun _ => (0 : Int32)))), (q18, .inl (c18, 3600, .inl (fun _ => (0 : Int32)))), (q19, .inl (c19, 24, .inl (fun _ => (0 : Int32))))] H := hP
  have hD : va_D A [(h0, .inr (5, [.int 0, .ref q1, .ref q2, .ref q3, .ref q4, .ref q5, .int 0, .ref q6, .ref q7, .ref q8, .ref q9, .ref q10, .ref q11, .int 0, .ref q12, .ref q13, .ref q14, .ref q15, .ref q16, .int 0, .ref q17, .ref q18, .ref q19])), (q1, .inl (c1, 24, .inl (fun _ => (0 : Int32)))), (q2, .inl (c2, 24, .inl (fun _ => (0 : Int32)))), (q3, .inl (c3, 24, .inl (fun _ => (0 : Int32)))), (q4, .inl (c4, 96, .inl (fun _ => (0 : Int32)))), (q5, .inl (c5, 576, .inl (fun _ => (0 : Int32)))), (q6, .inl (c6, 60, .inl (fun _ => (0 : Int32)))), (q7, .inl (c7, 60, .inl (fun _ => (0 : Int32)))), (q8, .inl (c8, 60, .inl (fun _ => (0 : Int32)))), (q9, .inl (c9, 60, .inl (fun _ => (0 : Int32)))), (q10, .inl (c10, 60, .inl (fun _ => (0 : Int32)))), (q11, .inl (c11, 240, .inl (fun _ => (0 : Int32)))), (q12, .inl (c12, 5, .inl (fun _ => (0 : Int32)))), (q13, .inl (c13, 5, .inl (fun _ => (0 : Int32)))), (q14, .inl (c14, 5, .inl (fun _ => (0 : Int32)))), (q15, .inl (c15, 10, .inl (fun _ => (0 : Int32)))), (q16, .inl (c16, 5, .inl (fun _ => (0 : Int32)))), (q17, .inl (c17, 60, .inl (fun _ => (0 : Int32)))), (q18, .inl (c18, 3600, .inl (fun _ => (0 : Int32)))), (q19, .inl (c19, 24, .inl (fun _ => (0 : Int32))))] := hD
  exact W.vret hx hb hr (fun t ht hW => ⟨⟨(), rfl, trivial, q1, q2, q3, q4, q5, q6, q7, q8, q9, q10, q11, q12, q13, q14, q15, q16, q17, q18, q19, c1, c2, c3, c4, c5, c6, c7, c8, c9, c10, c11, c12, c13, c14, c15, c16, c17, c18, c19, by rw [ht]; exact hP, va_K.moved hW.alike hK, hD⟩, hS.F ht⟩) hS.2.2 dCM_init_155
end

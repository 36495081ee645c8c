section
-- ===== PART A: goes FIRST, ahead of the names: the tables' words, and 'selects' of the private methods out of them =====
/-- a private method of a class that the tables say can be made, by its rows of tables_1 -/
def lw_okq (q : MethodName × Nat) : Prop := (q.1.cls ≠ "java/lang/invoke/MethodHandle" ∧ q.1.cls ≠ "java/lang/invoke/VarHandle") ∧ Cond.instantiable q.1.cls q.2 ∈ tables_1 ∧ Cond.privateMethod q.1 ∈ tables_1 ∧ Cond.instanceMethod q.1 ∈ tables_1
theorem lw_p0 : lw_okq (⟨"MemberChoice$Members", "hasGoodHead", "(I)Z"⟩, 10) := ⟨⟨by decide +kernel, by decide +kernel⟩, List.mem_of_getElem? (i := 60) (by decide +kernel), List.mem_of_getElem? (i := 238) (by decide +kernel), List.mem_of_getElem? (i := 239) (by decide +kernel)⟩
theorem lw_p1 : lw_okq (⟨"MemberChoice$Members", "hasGoodMarks", "(I)Z"⟩, 10) := ⟨⟨by decide +kernel, by decide +kernel⟩, List.mem_of_getElem? (i := 60) (by decide +kernel), List.mem_of_getElem? (i := 243) (by decide +kernel), List.mem_of_getElem? (i := 244) (by decide +kernel)⟩
theorem lw_p2 : lw_okq (⟨"MemberChoice$Types", "isElement", "(I)Z"⟩, 4) := ⟨⟨by decide +kernel, by decide +kernel⟩, List.mem_of_getElem? (i := 20) (by decide +kernel), List.mem_of_getElem? (i := 268) (by decide +kernel), List.mem_of_getElem? (i := 269) (by decide +kernel)⟩
theorem lw_p3 : lw_okq (⟨"MemberChoice$Members", "hasGoodParameters", "(I)Z"⟩, 10) := ⟨⟨by decide +kernel, by decide +kernel⟩, List.mem_of_getElem? (i := 60) (by decide +kernel), List.mem_of_getElem? (i := 276) (by decide +kernel), List.mem_of_getElem? (i := 277) (by decide +kernel)⟩
theorem lw_p4 : lw_okq (⟨"MemberChoice$Members", "isToldTwice", "(I)Z"⟩, 10) := ⟨⟨by decide +kernel, by decide +kernel⟩, List.mem_of_getElem? (i := 60) (by decide +kernel), List.mem_of_getElem? (i := 290) (by decide +kernel), List.mem_of_getElem? (i := 291) (by decide +kernel)⟩
theorem lw_p5 : lw_okq (⟨"MemberChoice$Members", "findFunction", "(I)I"⟩, 10) := ⟨⟨by decide +kernel, by decide +kernel⟩, List.mem_of_getElem? (i := 60) (by decide +kernel), List.mem_of_getElem? (i := 331) (by decide +kernel), List.mem_of_getElem? (i := 332) (by decide +kernel)⟩
theorem lw_p6 : lw_okq (⟨"MemberChoice$Members", "isSeen", "(III)Z"⟩, 10) := ⟨⟨by decide +kernel, by decide +kernel⟩, List.mem_of_getElem? (i := 60) (by decide +kernel), List.mem_of_getElem? (i := 335) (by decide +kernel), List.mem_of_getElem? (i := 336) (by decide +kernel)⟩
theorem lw_p7 : lw_okq (⟨"MemberChoice$Members", "isOverridden", "(II)Z"⟩, 10) := ⟨⟨by decide +kernel, by decide +kernel⟩, List.mem_of_getElem? (i := 60) (by decide +kernel), List.mem_of_getElem? (i := 340) (by decide +kernel), List.mem_of_getElem? (i := 341) (by decide +kernel)⟩
theorem lw_p8 : lw_okq (⟨"MemberChoice$Members", "overrides", "(II)Z"⟩, 10) := ⟨⟨by decide +kernel, by decide +kernel⟩, List.mem_of_getElem? (i := 60) (by decide +kernel), List.mem_of_getElem? (i := 344) (by decide +kernel), List.mem_of_getElem? (i := 345) (by decide +kernel)⟩
theorem lw_p9 : lw_okq (⟨"MemberChoice", "canBeAsked", "(III)Z"⟩, 5) := ⟨⟨by decide +kernel, by decide +kernel⟩, List.mem_of_getElem? (i := 12) (by decide +kernel), List.mem_of_getElem? (i := 356) (by decide +kernel), List.mem_of_getElem? (i := 357) (by decide +kernel)⟩
theorem lw_p10 : lw_okq (⟨"MemberChoice$Choice", "forget", "()V"⟩, 10) := ⟨⟨by decide +kernel, by decide +kernel⟩, List.mem_of_getElem? (i := 125) (by decide +kernel), List.mem_of_getElem? (i := 402) (by decide +kernel), List.mem_of_getElem? (i := 403) (by decide +kernel)⟩
theorem lw_p11 : lw_okq (⟨"MemberChoice$Choice", "keepMeant", "()V"⟩, 10) := ⟨⟨by decide +kernel, by decide +kernel⟩, List.mem_of_getElem? (i := 125) (by decide +kernel), List.mem_of_getElem? (i := 408) (by decide +kernel), List.mem_of_getElem? (i := 409) (by decide +kernel)⟩
theorem lw_p12 : lw_okq (⟨"MemberChoice$Choice", "couldBeMeant", "(I)Z"⟩, 10) := ⟨⟨by decide +kernel, by decide +kernel⟩, List.mem_of_getElem? (i := 125) (by decide +kernel), List.mem_of_getElem? (i := 412) (by decide +kernel), List.mem_of_getElem? (i := 413) (by decide +kernel)⟩
theorem lw_p13 : lw_okq (⟨"MemberChoice$Choice", "hasShape", "(II)Z"⟩, 10) := ⟨⟨by decide +kernel, by decide +kernel⟩, List.mem_of_getElem? (i := 125) (by decide +kernel), List.mem_of_getElem? (i := 437) (by decide +kernel), List.mem_of_getElem? (i := 438) (by decide +kernel)⟩
theorem lw_p14 : lw_okq (⟨"MemberChoice$Choice", "findApplying", "(I)V"⟩, 10) := ⟨⟨by decide +kernel, by decide +kernel⟩, List.mem_of_getElem? (i := 125) (by decide +kernel), List.mem_of_getElem? (i := 454) (by decide +kernel), List.mem_of_getElem? (i := 455) (by decide +kernel)⟩
theorem lw_p15 : lw_okq (⟨"MemberChoice$Choice", "applies", "(II)Z"⟩, 10) := ⟨⟨by decide +kernel, by decide +kernel⟩, List.mem_of_getElem? (i := 125) (by decide +kernel), List.mem_of_getElem? (i := 458) (by decide +kernel), List.mem_of_getElem? (i := 459) (by decide +kernel)⟩
def lw_privs_1 : List (MethodName × Nat) := [(⟨"MemberChoice$Members", "hasGoodHead", "(I)Z"⟩, 10), (⟨"MemberChoice$Members", "hasGoodMarks", "(I)Z"⟩, 10), (⟨"MemberChoice$Types", "isElement", "(I)Z"⟩, 4), (⟨"MemberChoice$Members", "hasGoodParameters", "(I)Z"⟩, 10), (⟨"MemberChoice$Members", "isToldTwice", "(I)Z"⟩, 10), (⟨"MemberChoice$Members", "findFunction", "(I)I"⟩, 10), (⟨"MemberChoice$Members", "isSeen", "(III)Z"⟩, 10), (⟨"MemberChoice$Members", "isOverridden", "(II)Z"⟩, 10), (⟨"MemberChoice$Members", "overrides", "(II)Z"⟩, 10), (⟨"MemberChoice", "canBeAsked", "(III)Z"⟩, 5), (⟨"MemberChoice$Choice", "forget", "()V"⟩, 10), (⟨"MemberChoice$Choice", "keepMeant", "()V"⟩, 10), (⟨"MemberChoice$Choice", "couldBeMeant", "(I)Z"⟩, 10), (⟨"MemberChoice$Choice", "hasShape", "(II)Z"⟩, 10), (⟨"MemberChoice$Choice", "findApplying", "(I)V"⟩, 10), (⟨"MemberChoice$Choice", "applies", "(II)Z"⟩, 10)]
theorem lw_r1 : ∀ q ∈ lw_privs_1, lw_okq q := List.forall_mem_cons.mpr ⟨lw_p0, List.forall_mem_cons.mpr ⟨lw_p1, List.forall_mem_cons.mpr ⟨lw_p2, List.forall_mem_cons.mpr ⟨lw_p3, List.forall_mem_cons.mpr ⟨lw_p4, List.forall_mem_cons.mpr ⟨lw_p5, List.forall_mem_cons.mpr ⟨lw_p6, List.forall_mem_cons.mpr ⟨lw_p7, List.forall_mem_cons.mpr ⟨lw_p8, List.forall_mem_cons.mpr ⟨lw_p9, List.forall_mem_cons.mpr ⟨lw_p10, List.forall_mem_cons.mpr ⟨lw_p11, List.forall_mem_cons.mpr ⟨lw_p12, List.forall_mem_cons.mpr ⟨lw_p13, List.forall_mem_cons.mpr ⟨lw_p14, List.forall_mem_cons.mpr ⟨lw_p15, fun _ h => absurd h List.not_mem_nil⟩⟩⟩⟩⟩⟩⟩⟩⟩⟩⟩⟩⟩⟩⟩⟩
theorem lw_p16 : lw_okq (⟨"MemberChoice$Choice", "takes", "(IIZ)Z"⟩, 10) := ⟨⟨by decide +kernel, by decide +kernel⟩, List.mem_of_getElem? (i := 125) (by decide +kernel), List.mem_of_getElem? (i := 462) (by decide +kernel), List.mem_of_getElem? (i := 463) (by decide +kernel)⟩
theorem lw_p17 : lw_okq (⟨"MemberChoice$Choice", "takesTold", "(IIZ)Z"⟩, 10) := ⟨⟨by decide +kernel, by decide +kernel⟩, List.mem_of_getElem? (i := 125) (by decide +kernel), List.mem_of_getElem? (i := 475) (by decide +kernel), List.mem_of_getElem? (i := 476) (by decide +kernel)⟩
theorem lw_p18 : lw_okq (⟨"MemberChoice$Choice", "compareAll", "()V"⟩, 10) := ⟨⟨by decide +kernel, by decide +kernel⟩, List.mem_of_getElem? (i := 125) (by decide +kernel), List.mem_of_getElem? (i := 488) (by decide +kernel), List.mem_of_getElem? (i := 489) (by decide +kernel)⟩
theorem lw_p19 : lw_okq (⟨"MemberChoice$Choice", "isAsSpecialAs", "(II)Z"⟩, 10) := ⟨⟨by decide +kernel, by decide +kernel⟩, List.mem_of_getElem? (i := 125) (by decide +kernel), List.mem_of_getElem? (i := 492) (by decide +kernel), List.mem_of_getElem? (i := 493) (by decide +kernel)⟩
theorem lw_p20 : lw_okq (⟨"MemberChoice$Choice", "isFinerFunction", "(III)Z"⟩, 10) := ⟨⟨by decide +kernel, by decide +kernel⟩, List.mem_of_getElem? (i := 125) (by decide +kernel), List.mem_of_getElem? (i := 497) (by decide +kernel), List.mem_of_getElem? (i := 498) (by decide +kernel)⟩
theorem lw_p21 : lw_okq (⟨"MemberChoice$Choice", "isFinerResult", "(III)Z"⟩, 10) := ⟨⟨by decide +kernel, by decide +kernel⟩, List.mem_of_getElem? (i := 125) (by decide +kernel), List.mem_of_getElem? (i := 502) (by decide +kernel), List.mem_of_getElem? (i := 503) (by decide +kernel)⟩
theorem lw_p22 : lw_okq (⟨"MemberChoice$Choice", "pick", "()I"⟩, 10) := ⟨⟨by decide +kernel, by decide +kernel⟩, List.mem_of_getElem? (i := 125) (by decide +kernel), List.mem_of_getElem? (i := 516) (by decide +kernel), List.mem_of_getElem? (i := 517) (by decide +kernel)⟩
theorem lw_p23 : lw_okq (⟨"MemberChoice$Choice", "didApply", "(I)Z"⟩, 10) := ⟨⟨by decide +kernel, by decide +kernel⟩, List.mem_of_getElem? (i := 125) (by decide +kernel), List.mem_of_getElem? (i := 546) (by decide +kernel), List.mem_of_getElem? (i := 547) (by decide +kernel)⟩
theorem lw_p24 : lw_okq (⟨"MemberChoiceModel", "isTold", "(I)Z"⟩, 23) := ⟨⟨by decide +kernel, by decide +kernel⟩, List.mem_of_getElem? (i := 560) (by decide +kernel), List.mem_of_getElem? (i := 640) (by decide +kernel), List.mem_of_getElem? (i := 641) (by decide +kernel)⟩
theorem lw_p25 : lw_okq (⟨"MemberChoiceModel", "closeTypes", "()V"⟩, 23) := ⟨⟨by decide +kernel, by decide +kernel⟩, List.mem_of_getElem? (i := 560) (by decide +kernel), List.mem_of_getElem? (i := 644) (by decide +kernel), List.mem_of_getElem? (i := 645) (by decide +kernel)⟩
theorem lw_p26 : lw_okq (⟨"MemberChoiceModel", "forgetFunctions", "()V"⟩, 23) := ⟨⟨by decide +kernel, by decide +kernel⟩, List.mem_of_getElem? (i := 560) (by decide +kernel), List.mem_of_getElem? (i := 648) (by decide +kernel), List.mem_of_getElem? (i := 649) (by decide +kernel)⟩
theorem lw_p27 : lw_okq (⟨"MemberChoiceModel", "isType", "(I)Z"⟩, 23) := ⟨⟨by decide +kernel, by decide +kernel⟩, List.mem_of_getElem? (i := 560) (by decide +kernel), List.mem_of_getElem? (i := 664) (by decide +kernel), List.mem_of_getElem? (i := 665) (by decide +kernel)⟩
theorem lw_p28 : lw_okq (⟨"MemberChoiceModel", "isPlain", "(I)Z"⟩, 23) := ⟨⟨by decide +kernel, by decide +kernel⟩, List.mem_of_getElem? (i := 560) (by decide +kernel), List.mem_of_getElem? (i := 668) (by decide +kernel), List.mem_of_getElem? (i := 669) (by decide +kernel)⟩
theorem lw_p29 : lw_okq (⟨"MemberChoiceModel", "isIt", "(II)Z"⟩, 23) := ⟨⟨by decide +kernel, by decide +kernel⟩, List.mem_of_getElem? (i := 560) (by decide +kernel), List.mem_of_getElem? (i := 672) (by decide +kernel), List.mem_of_getElem? (i := 673) (by decide +kernel)⟩
theorem lw_p30 : lw_okq (⟨"MemberChoiceModel", "plainIs", "(II)Z"⟩, 23) := ⟨⟨by decide +kernel, by decide +kernel⟩, List.mem_of_getElem? (i := 560) (by decide +kernel), List.mem_of_getElem? (i := 679) (by decide +kernel), List.mem_of_getElem? (i := 680) (by decide +kernel)⟩
theorem lw_p31 : lw_okq (⟨"MemberChoiceModel", "fitsIt", "(II)Z"⟩, 23) := ⟨⟨by decide +kernel, by decide +kernel⟩, List.mem_of_getElem? (i := 560) (by decide +kernel), List.mem_of_getElem? (i := 687) (by decide +kernel), List.mem_of_getElem? (i := 688) (by decide +kernel)⟩
def lw_privs_2 : List (MethodName × Nat) := [(⟨"MemberChoice$Choice", "takes", "(IIZ)Z"⟩, 10), (⟨"MemberChoice$Choice", "takesTold", "(IIZ)Z"⟩, 10), (⟨"MemberChoice$Choice", "compareAll", "()V"⟩, 10), (⟨"MemberChoice$Choice", "isAsSpecialAs", "(II)Z"⟩, 10), (⟨"MemberChoice$Choice", "isFinerFunction", "(III)Z"⟩, 10), (⟨"MemberChoice$Choice", "isFinerResult", "(III)Z"⟩, 10), (⟨"MemberChoice$Choice", "pick", "()I"⟩, 10), (⟨"MemberChoice$Choice", "didApply", "(I)Z"⟩, 10), (⟨"MemberChoiceModel", "isTold", "(I)Z"⟩, 23), (⟨"MemberChoiceModel", "closeTypes", "()V"⟩, 23), (⟨"MemberChoiceModel", "forgetFunctions", "()V"⟩, 23), (⟨"MemberChoiceModel", "isType", "(I)Z"⟩, 23), (⟨"MemberChoiceModel", "isPlain", "(I)Z"⟩, 23), (⟨"MemberChoiceModel", "isIt", "(II)Z"⟩, 23), (⟨"MemberChoiceModel", "plainIs", "(II)Z"⟩, 23), (⟨"MemberChoiceModel", "fitsIt", "(II)Z"⟩, 23)]
theorem lw_r2 : ∀ q ∈ lw_privs_2, lw_okq q := List.forall_mem_cons.mpr ⟨lw_p16, List.forall_mem_cons.mpr ⟨lw_p17, List.forall_mem_cons.mpr ⟨lw_p18, List.forall_mem_cons.mpr ⟨lw_p19, List.forall_mem_cons.mpr ⟨lw_p20, List.forall_mem_cons.mpr ⟨lw_p21, List.forall_mem_cons.mpr ⟨lw_p22, List.forall_mem_cons.mpr ⟨lw_p23, List.forall_mem_cons.mpr ⟨lw_p24, List.forall_mem_cons.mpr ⟨lw_p25, List.forall_mem_cons.mpr ⟨lw_p26, List.forall_mem_cons.mpr ⟨lw_p27, List.forall_mem_cons.mpr ⟨lw_p28, List.forall_mem_cons.mpr ⟨lw_p29, List.forall_mem_cons.mpr ⟨lw_p30, List.forall_mem_cons.mpr ⟨lw_p31, fun _ h => absurd h List.not_mem_nil⟩⟩⟩⟩⟩⟩⟩⟩⟩⟩⟩⟩⟩⟩⟩⟩
theorem lw_p32 : lw_okq (⟨"MemberChoiceModel", "isValue", "(I)Z"⟩, 23) := ⟨⟨by decide +kernel, by decide +kernel⟩, List.mem_of_getElem? (i := 560) (by decide +kernel), List.mem_of_getElem? (i := 701) (by decide +kernel), List.mem_of_getElem? (i := 702) (by decide +kernel)⟩
theorem lw_p33 : lw_okq (⟨"MemberChoiceModel", "functionOf", "(I)I"⟩, 23) := ⟨⟨by decide +kernel, by decide +kernel⟩, List.mem_of_getElem? (i := 560) (by decide +kernel), List.mem_of_getElem? (i := 712) (by decide +kernel), List.mem_of_getElem? (i := 713) (by decide +kernel)⟩
theorem lw_p34 : lw_okq (⟨"MemberChoiceModel", "findFunction", "(I)I"⟩, 23) := ⟨⟨by decide +kernel, by decide +kernel⟩, List.mem_of_getElem? (i := 560) (by decide +kernel), List.mem_of_getElem? (i := 716) (by decide +kernel), List.mem_of_getElem? (i := 717) (by decide +kernel)⟩
theorem lw_p35 : lw_okq (⟨"MemberChoiceModel", "has", "(II)Z"⟩, 23) := ⟨⟨by decide +kernel, by decide +kernel⟩, List.mem_of_getElem? (i := 560) (by decide +kernel), List.mem_of_getElem? (i := 720) (by decide +kernel), List.mem_of_getElem? (i := 721) (by decide +kernel)⟩
theorem lw_p36 : lw_okq (⟨"MemberChoiceModel", "isSeen", "(III)Z"⟩, 23) := ⟨⟨by decide +kernel, by decide +kernel⟩, List.mem_of_getElem? (i := 560) (by decide +kernel), List.mem_of_getElem? (i := 724) (by decide +kernel), List.mem_of_getElem? (i := 725) (by decide +kernel)⟩
theorem lw_p37 : lw_okq (⟨"MemberChoiceModel", "sameParams", "(II)Z"⟩, 23) := ⟨⟨by decide +kernel, by decide +kernel⟩, List.mem_of_getElem? (i := 560) (by decide +kernel), List.mem_of_getElem? (i := 728) (by decide +kernel), List.mem_of_getElem? (i := 729) (by decide +kernel)⟩
theorem lw_p38 : lw_okq (⟨"MemberChoiceModel", "isAsked", "(III)Z"⟩, 23) := ⟨⟨by decide +kernel, by decide +kernel⟩, List.mem_of_getElem? (i := 560) (by decide +kernel), List.mem_of_getElem? (i := 736) (by decide +kernel), List.mem_of_getElem? (i := 737) (by decide +kernel)⟩
theorem lw_p39 : lw_okq (⟨"MemberChoiceModel", "isMeant", "(I)Z"⟩, 23) := ⟨⟨by decide +kernel, by decide +kernel⟩, List.mem_of_getElem? (i := 560) (by decide +kernel), List.mem_of_getElem? (i := 760) (by decide +kernel), List.mem_of_getElem? (i := 761) (by decide +kernel)⟩
theorem lw_p40 : lw_okq (⟨"MemberChoiceModel", "hasShape", "(II)Z"⟩, 23) := ⟨⟨by decide +kernel, by decide +kernel⟩, List.mem_of_getElem? (i := 560) (by decide +kernel), List.mem_of_getElem? (i := 764) (by decide +kernel), List.mem_of_getElem? (i := 765) (by decide +kernel)⟩
theorem lw_p41 : lw_okq (⟨"MemberChoiceModel", "typeAt", "(IIZ)I"⟩, 23) := ⟨⟨by decide +kernel, by decide +kernel⟩, List.mem_of_getElem? (i := 560) (by decide +kernel), List.mem_of_getElem? (i := 768) (by decide +kernel), List.mem_of_getElem? (i := 769) (by decide +kernel)⟩
theorem lw_p42 : lw_okq (⟨"MemberChoiceModel", "doesApply", "(II)Z"⟩, 23) := ⟨⟨by decide +kernel, by decide +kernel⟩, List.mem_of_getElem? (i := 560) (by decide +kernel), List.mem_of_getElem? (i := 772) (by decide +kernel), List.mem_of_getElem? (i := 773) (by decide +kernel)⟩
theorem lw_p43 : lw_okq (⟨"MemberChoiceModel", "takes", "(III)Z"⟩, 23) := ⟨⟨by decide +kernel, by decide +kernel⟩, List.mem_of_getElem? (i := 560) (by decide +kernel), List.mem_of_getElem? (i := 776) (by decide +kernel), List.mem_of_getElem? (i := 777) (by decide +kernel)⟩
theorem lw_p44 : lw_okq (⟨"MemberChoiceModel", "passes", "(III)Z"⟩, 23) := ⟨⟨by decide +kernel, by decide +kernel⟩, List.mem_of_getElem? (i := 560) (by decide +kernel), List.mem_of_getElem? (i := 780) (by decide +kernel), List.mem_of_getElem? (i := 781) (by decide +kernel)⟩
theorem lw_p45 : lw_okq (⟨"MemberChoiceModel", "isSpecial", "(II)Z"⟩, 23) := ⟨⟨by decide +kernel, by decide +kernel⟩, List.mem_of_getElem? (i := 560) (by decide +kernel), List.mem_of_getElem? (i := 784) (by decide +kernel), List.mem_of_getElem? (i := 785) (by decide +kernel)⟩
theorem lw_p46 : lw_okq (⟨"MemberChoiceModel", "isFiner", "(III)Z"⟩, 23) := ⟨⟨by decide +kernel, by decide +kernel⟩, List.mem_of_getElem? (i := 560) (by decide +kernel), List.mem_of_getElem? (i := 788) (by decide +kernel), List.mem_of_getElem? (i := 789) (by decide +kernel)⟩
theorem lw_p47 : lw_okq (⟨"MemberChoiceModel", "mostSpecial", "()I"⟩, 23) := ⟨⟨by decide +kernel, by decide +kernel⟩, List.mem_of_getElem? (i := 560) (by decide +kernel), List.mem_of_getElem? (i := 792) (by decide +kernel), List.mem_of_getElem? (i := 793) (by decide +kernel)⟩
def lw_privs_3 : List (MethodName × Nat) := [(⟨"MemberChoiceModel", "isValue", "(I)Z"⟩, 23), (⟨"MemberChoiceModel", "functionOf", "(I)I"⟩, 23), (⟨"MemberChoiceModel", "findFunction", "(I)I"⟩, 23), (⟨"MemberChoiceModel", "has", "(II)Z"⟩, 23), (⟨"MemberChoiceModel", "isSeen", "(III)Z"⟩, 23), (⟨"MemberChoiceModel", "sameParams", "(II)Z"⟩, 23), (⟨"MemberChoiceModel", "isAsked", "(III)Z"⟩, 23), (⟨"MemberChoiceModel", "isMeant", "(I)Z"⟩, 23), (⟨"MemberChoiceModel", "hasShape", "(II)Z"⟩, 23), (⟨"MemberChoiceModel", "typeAt", "(IIZ)I"⟩, 23), (⟨"MemberChoiceModel", "doesApply", "(II)Z"⟩, 23), (⟨"MemberChoiceModel", "takes", "(III)Z"⟩, 23), (⟨"MemberChoiceModel", "passes", "(III)Z"⟩, 23), (⟨"MemberChoiceModel", "isSpecial", "(II)Z"⟩, 23), (⟨"MemberChoiceModel", "isFiner", "(III)Z"⟩, 23), (⟨"MemberChoiceModel", "mostSpecial", "()I"⟩, 23)]
theorem lw_r3 : ∀ q ∈ lw_privs_3, lw_okq q := List.forall_mem_cons.mpr ⟨lw_p32, List.forall_mem_cons.mpr ⟨lw_p33, List.forall_mem_cons.mpr ⟨lw_p34, List.forall_mem_cons.mpr ⟨lw_p35, List.forall_mem_cons.mpr ⟨lw_p36, List.forall_mem_cons.mpr ⟨lw_p37, List.forall_mem_cons.mpr ⟨lw_p38, List.forall_mem_cons.mpr ⟨lw_p39, List.forall_mem_cons.mpr ⟨lw_p40, List.forall_mem_cons.mpr ⟨lw_p41, List.forall_mem_cons.mpr ⟨lw_p42, List.forall_mem_cons.mpr ⟨lw_p43, List.forall_mem_cons.mpr ⟨lw_p44, List.forall_mem_cons.mpr ⟨lw_p45, List.forall_mem_cons.mpr ⟨lw_p46, List.forall_mem_cons.mpr ⟨lw_p47, fun _ h => absurd h List.not_mem_nil⟩⟩⟩⟩⟩⟩⟩⟩⟩⟩⟩⟩⟩⟩⟩⟩
def lw_privs : List (MethodName × Nat) := lw_privs_1 ++ (lw_privs_2 ++ (lw_privs_3))
def lw_tbl : List Cond := k2_sels lw_privs ++ tables_1
theorem lw_privs_ok : ∀ q ∈ lw_privs, lw_okq q := by
  show ∀ q ∈ lw_privs_1 ++ (lw_privs_2 ++ (lw_privs_3)), lw_okq q
  exact List.forall_mem_append.mpr ⟨lw_r1, List.forall_mem_append.mpr ⟨lw_r2, lw_r3⟩⟩
end
section
def wAll : List Cond := lw_tbl.filter goodWord
theorem wa {w : Cond} (h : w ∈ lw_tbl) (hg : goodWord w = true) : w ∈ wAll := List.mem_filter.mpr ⟨h, hg⟩
def RC0 : String := "MemberChoice"
def TC0 : u_T := fun k => match k with
  | 0 => ("MemberChoice", "types", "LMemberChoice$Types;", true)
  | 1 => ("MemberChoice", "members", "LMemberChoice$Members;", true)
  | 2 => ("MemberChoice", "arguments", "LMemberChoice$Arguments;", true)
  | 3 => ("MemberChoice", "latest", "LMemberChoice$Choice;", true)
  | _ => ("MemberChoice", "seenRow", "[I", true)
def tyC0 : Nat → FieldType := fun k => match k with
  | 0 => .object "MemberChoice$Types"
  | 1 => .object "MemberChoice$Members"
  | 2 => .object "MemberChoice$Arguments"
  | 3 => .object "MemberChoice$Choice"
  | _ => .array .int
theorem tyC0_ok : ∀ k, k < 5 → parseFieldDescriptor (TC0 k).2.2.1 = some (tyC0 k) := by decide +kernel
theorem nnC0 : ∀ a, a < 5 → ∀ b, b < 5 → a ≠ b → (TC0 a).2.1 ≠ (TC0 b).2.1 := by decide +kernel
theorem inC0_0 : ∀ w ∈ u_ws RC0 TC0 5, w ∈ lw_tbl := by decide +kernel
theorem inC0_1 : (u_ws RC0 TC0 5).all goodWord = true := by decide +kernel
theorem inC0 : ∀ w ∈ u_ws RC0 TC0 5, w ∈ wAll := fun w h => wa (inC0_0 w h) (List.all_eq_true.mp inC0_1 w h)
def RC1 : String := "MemberChoice$Types"
def TC1 : u_T := fun k => match k with
  | 0 => ("MemberChoice$Types", "above", "[J", true)
  | 1 => ("MemberChoice$Types", "toldFaces", "[I", true)
  | 2 => ("MemberChoice$Types", "interfaces", "[Z", true)
  | _ => ("MemberChoice$Types", "told", "I", false)
def tyC1 : Nat → FieldType := fun k => match k with
  | 0 => .array .long
  | 1 => .array .int
  | 2 => .array .boolean
  | _ => .int
theorem tyC1_ok : ∀ k, k < 4 → parseFieldDescriptor (TC1 k).2.2.1 = some (tyC1 k) := by decide +kernel
theorem nnC1 : ∀ a, a < 4 → ∀ b, b < 4 → a ≠ b → (TC1 a).2.1 ≠ (TC1 b).2.1 := by decide +kernel
theorem inC1_0 : ∀ w ∈ u_ws RC1 TC1 4, w ∈ lw_tbl := by decide +kernel
theorem inC1_1 : (u_ws RC1 TC1 4).all goodWord = true := by decide +kernel
theorem inC1 : ∀ w ∈ u_ws RC1 TC1 4, w ∈ wAll := fun w h => wa (inC1_0 w h) (List.all_eq_true.mp inC1_1 w h)
def RC2 : String := "MemberChoice$Members"
def TC2 : u_T := fun k => match k with
  | 0 => ("MemberChoice$Members", "types", "LMemberChoice$Types;", true)
  | 1 => ("MemberChoice$Members", "owners", "[I", true)
  | 2 => ("MemberChoice$Members", "names", "[I", true)
  | 3 => ("MemberChoice$Members", "marks", "[I", true)
  | 4 => ("MemberChoice$Members", "results", "[I", true)
  | 5 => ("MemberChoice$Members", "widths", "[I", true)
  | 6 => ("MemberChoice$Members", "parameters", "[I", true)
  | 7 => ("MemberChoice$Members", "functions", "[I", true)
  | 8 => ("MemberChoice$Members", "functionsSettled", "Z", false)
  | _ => ("MemberChoice$Members", "size", "I", false)
def tyC2 : Nat → FieldType := fun k => match k with
  | 0 => .object "MemberChoice$Types"
  | 1 => .array .int
  | 2 => .array .int
  | 3 => .array .int
  | 4 => .array .int
  | 5 => .array .int
  | 6 => .array .int
  | 7 => .array .int
  | 8 => .boolean
  | _ => .int
theorem tyC2_ok : ∀ k, k < 10 → parseFieldDescriptor (TC2 k).2.2.1 = some (tyC2 k) := by decide +kernel
theorem nnC2 : ∀ a, a < 10 → ∀ b, b < 10 → a ≠ b → (TC2 a).2.1 ≠ (TC2 b).2.1 := by decide +kernel
theorem inC2_0 : ∀ w ∈ u_ws RC2 TC2 10, w ∈ lw_tbl := by decide +kernel
theorem inC2_1 : (u_ws RC2 TC2 10).all goodWord = true := by decide +kernel
theorem inC2 : ∀ w ∈ u_ws RC2 TC2 10, w ∈ wAll := fun w h => wa (inC2_0 w h) (List.all_eq_true.mp inC2_1 w h)
def RC3 : String := "MemberChoice$Arguments"
def TC3 : u_T := fun k => match k with
  | 0 => ("MemberChoice$Arguments", "lambdas", "[Z", true)
  | 1 => ("MemberChoice$Arguments", "toldOnes", "[Z", true)
  | 2 => ("MemberChoice$Arguments", "values", "[I", true)
  | 3 => ("MemberChoice$Arguments", "widths", "[I", true)
  | 4 => ("MemberChoice$Arguments", "parameters", "[I", true)
  | _ => ("MemberChoice$Arguments", "size", "I", false)
def tyC3 : Nat → FieldType := fun k => match k with
  | 0 => .array .boolean
  | 1 => .array .boolean
  | 2 => .array .int
  | 3 => .array .int
  | 4 => .array .int
  | _ => .int
theorem tyC3_ok : ∀ k, k < 6 → parseFieldDescriptor (TC3 k).2.2.1 = some (tyC3 k) := by decide +kernel
theorem nnC3 : ∀ a, a < 6 → ∀ b, b < 6 → a ≠ b → (TC3 a).2.1 ≠ (TC3 b).2.1 := by decide +kernel
theorem inC3_0 : ∀ w ∈ u_ws RC3 TC3 6, w ∈ lw_tbl := by decide +kernel
theorem inC3_1 : (u_ws RC3 TC3 6).all goodWord = true := by decide +kernel
theorem inC3 : ∀ w ∈ u_ws RC3 TC3 6, w ∈ wAll := fun w h => wa (inC3_0 w h) (List.all_eq_true.mp inC3_1 w h)
def RC4 : String := "MemberChoice$Choice"
def TC4 : u_T := fun k => match k with
  | 0 => ("MemberChoice$Choice", "types", "LMemberChoice$Types;", true)
  | 1 => ("MemberChoice$Choice", "members", "LMemberChoice$Members;", true)
  | 2 => ("MemberChoice$Choice", "arguments", "LMemberChoice$Arguments;", true)
  | 3 => ("MemberChoice$Choice", "candidates", "[I", true)
  | 4 => ("MemberChoice$Choice", "applying", "[I", true)
  | 5 => ("MemberChoice$Choice", "asSpecial", "[J", true)
  | 6 => ("MemberChoice$Choice", "candidateCount", "I", false)
  | 7 => ("MemberChoice$Choice", "applyingCount", "I", false)
  | 8 => ("MemberChoice$Choice", "applyingBits", "J", false)
  | _ => ("MemberChoice$Choice", "reached", "I", false)
def tyC4 : Nat → FieldType := fun k => match k with
  | 0 => .object "MemberChoice$Types"
  | 1 => .object "MemberChoice$Members"
  | 2 => .object "MemberChoice$Arguments"
  | 3 => .array .int
  | 4 => .array .int
  | 5 => .array .long
  | 6 => .int
  | 7 => .int
  | 8 => .long
  | _ => .int
theorem tyC4_ok : ∀ k, k < 10 → parseFieldDescriptor (TC4 k).2.2.1 = some (tyC4 k) := by decide +kernel
theorem nnC4 : ∀ a, a < 10 → ∀ b, b < 10 → a ≠ b → (TC4 a).2.1 ≠ (TC4 b).2.1 := by decide +kernel
theorem inC4_0 : ∀ w ∈ u_ws RC4 TC4 10, w ∈ lw_tbl := by decide +kernel
theorem inC4_1 : (u_ws RC4 TC4 10).all goodWord = true := by decide +kernel
theorem inC4 : ∀ w ∈ u_ws RC4 TC4 10, w ∈ wAll := fun w h => wa (inC4_0 w h) (List.all_eq_true.mp inC4_1 w h)
def RCM : String := "MemberChoiceModel"
def TCM : u_T := fun k => match k with
  | 0 => ("MemberChoiceModel", "types", "I", false)
  | 1 => ("MemberChoiceModel", "isFace", "[Z", true)
  | 2 => ("MemberChoiceModel", "parents", "[I", true)
  | 3 => ("MemberChoiceModel", "aboveCounts", "[I", true)
  | 4 => ("MemberChoiceModel", "above", "[I", true)
  | 5 => ("MemberChoiceModel", "isOne", "[Z", true)
  | 6 => ("MemberChoiceModel", "members", "I", false)
  | 7 => ("MemberChoiceModel", "owners", "[I", true)
  | 8 => ("MemberChoiceModel", "names", "[I", true)
  | 9 => ("MemberChoiceModel", "marks", "[I", true)
  | 10 => ("MemberChoiceModel", "results", "[I", true)
  | 11 => ("MemberChoiceModel", "counts", "[I", true)
  | 12 => ("MemberChoiceModel", "params", "[I", true)
  | 13 => ("MemberChoiceModel", "arguments", "I", false)
  | 14 => ("MemberChoiceModel", "argTypes", "[I", true)
  | 15 => ("MemberChoiceModel", "lambdas", "[I", true)
  | 16 => ("MemberChoiceModel", "lambdaCounts", "[I", true)
  | 17 => ("MemberChoiceModel", "lambdaParams", "[I", true)
  | 18 => ("MemberChoiceModel", "lambdaResults", "[I", true)
  | 19 => ("MemberChoiceModel", "phase", "I", false)
  | 20 => ("MemberChoiceModel", "applies", "[Z", true)
  | 21 => ("MemberChoiceModel", "specials", "[Z", true)
  | _ => ("MemberChoiceModel", "functions", "[I", true)
def tyCM : Nat → FieldType := fun k => match k with
  | 0 => .int
  | 1 => .array .boolean
  | 2 => .array .int
  | 3 => .array .int
  | 4 => .array .int
  | 5 => .array .boolean
  | 6 => .int
  | 7 => .array .int
  | 8 => .array .int
  | 9 => .array .int
  | 10 => .array .int
  | 11 => .array .int
  | 12 => .array .int
  | 13 => .int
  | 14 => .array .int
  | 15 => .array .int
  | 16 => .array .int
  | 17 => .array .int
  | 18 => .array .int
  | 19 => .int
  | 20 => .array .boolean
  | 21 => .array .boolean
  | _ => .array .int
theorem tyCM_ok : ∀ k, k < 23 → parseFieldDescriptor (TCM k).2.2.1 = some (tyCM k) := by decide +kernel
theorem nnCM : ∀ a, a < 23 → ∀ b, b < 23 → a ≠ b → (TCM a).2.1 ≠ (TCM b).2.1 := by decide +kernel
theorem inCM_0 : ∀ w ∈ u_ws RCM TCM 23, w ∈ lw_tbl := by decide +kernel
theorem inCM_1 : (u_ws RCM TCM 23).all goodWord = true := by decide +kernel
theorem inCM : ∀ w ∈ u_ws RCM TCM 23, w ∈ wAll := fun w h => wa (inCM_0 w h) (List.all_eq_true.mp inCM_1 w h)
def RJI : String := "java/lang/Integer"
def RCL : String := "MemberChoiceLaw"
abbrev vwC : List vw_C := [(RC0, TC0, 5), (RC1, TC1, 4), (RC2, TC2, 10), (RC3, TC3, 6), (RC4, TC4, 10), (RCM, TCM, 23)]
abbrev cC1_add : ByteArray := prog_5_method_13_code
def yC1_add : MethodName := ⟨RC1, "add", "(IZ)I"⟩
def wsC1_add : List Cond := .code yC1_add cC1_add 4 (some .int) :: wAll
abbrev cC1_isTold : ByteArray := prog_5_method_3_code
def yC1_isTold : MethodName := ⟨RC1, "isTold", "(I)Z"⟩
def wsC1_isTold : List Cond := .code yC1_isTold cC1_isTold 2 (some .boolean) :: wAll
abbrev cC1_isInterface : ByteArray := prog_5_method_4_code
def yC1_isInterface : MethodName := ⟨RC1, "isInterface", "(I)Z"⟩
def wsC1_isInterface : List Cond := .code yC1_isInterface cC1_isInterface 2 (some .boolean) :: wAll
abbrev cC0_cls : ByteArray := prog_1_method_2_code
def yC0_cls : MethodName := ⟨RC0, "cls", "(I)I"⟩
def wsC0_cls : List Cond := .code yC0_cls cC0_cls 3 (some .int) :: wAll
abbrev cC0_face : ByteArray := prog_1_method_3_code
def yC0_face : MethodName := ⟨RC0, "face", "()I"⟩
def wsC0_face : List Cond := .code yC0_face cC0_face 1 (some .int) :: wAll
abbrev cJI_bitCount : ByteArray := prog_9_method_49_code
def yJI_bitCount : MethodName := ⟨RJI, "bitCount", "(I)I"⟩
def wsJI_bitCount : List Cond := .code yJI_bitCount cJI_bitCount 1 (some .int) :: wAll
abbrev cC1_isA : ByteArray := prog_5_method_15_code
def yC1_isA : MethodName := ⟨RC1, "isA", "(II)Z"⟩
def wsC1_isA : List Cond := .code yC1_isA cC1_isA 6 (some .boolean) :: wAll
abbrev cC1_putBelow : ByteArray := prog_5_method_14_code
def yC1_putBelow : MethodName := ⟨RC1, "putBelow", "(II)I"⟩
def wsC1_putBelow : List Cond := .code yC1_putBelow cC1_putBelow 7 (some .int) :: wAll
abbrev cC2_forgetFunctions : ByteArray := prog_4_method_25_code
def yC2_forgetFunctions : MethodName := ⟨RC2, "forgetFunctions", "()V"⟩
def wsC2_forgetFunctions : List Cond := .code yC2_forgetFunctions cC2_forgetFunctions 1 none :: wAll
abbrev cC0_below : ByteArray := prog_1_method_4_code
def yC0_below : MethodName := ⟨RC0, "below", "(II)I"⟩
def wsC0_below : List Cond := .code yC0_below cC0_below 4 (some .int) :: wAll
abbrev cC2_draftHead : ByteArray := prog_4_method_3_code
def yC2_draftHead : MethodName := ⟨RC2, "draftHead", "(IIII)V"⟩
def wsC2_draftHead : List Cond := .code yC2_draftHead cC2_draftHead 5 none :: wAll
abbrev cC2_draftParameters : ByteArray := prog_4_method_4_code
def yC2_draftParameters : MethodName := ⟨RC2, "draftParameters", "(IIIII)V"⟩
def wsC2_draftParameters : List Cond := .code yC2_draftParameters cC2_draftParameters 7 none :: wAll
abbrev cC2_isAbstract : ByteArray := prog_4_method_12_code
def yC2_isAbstract : MethodName := ⟨RC2, "isAbstract", "(I)Z"⟩
def wsC2_isAbstract : List Cond := .code yC2_isAbstract cC2_isAbstract 2 (some .boolean) :: wAll
abbrev cC2_isStatic : ByteArray := prog_4_method_10_code
def yC2_isStatic : MethodName := ⟨RC2, "isStatic", "(I)Z"⟩
def wsC2_isStatic : List Cond := .code yC2_isStatic cC2_isStatic 2 (some .boolean) :: wAll
abbrev cC2_isPrivate : ByteArray := prog_4_method_11_code
def yC2_isPrivate : MethodName := ⟨RC2, "isPrivate", "(I)Z"⟩
def wsC2_isPrivate : List Cond := .code yC2_isPrivate cC2_isPrivate 2 (some .boolean) :: wAll
abbrev cC2_hasGoodMarks : ByteArray := prog_4_method_7_code
def yC2_hasGoodMarks : MethodName := ⟨RC2, "hasGoodMarks", "(I)Z"⟩
def wsC2_hasGoodMarks : List Cond := .code yC2_hasGoodMarks cC2_hasGoodMarks 3 (some .boolean) :: wAll
abbrev cC1_isElement : ByteArray := prog_5_method_12_code
def yC1_isElement : MethodName := ⟨RC1, "isElement", "(I)Z"⟩
def wsC1_isElement : List Cond := .code yC1_isElement cC1_isElement 2 (some .boolean) :: wAll
abbrev cC1_isArray : ByteArray := prog_5_method_5_code
def yC1_isArray : MethodName := ⟨RC1, "isArray", "(I)Z"⟩
def wsC1_isArray : List Cond := .code yC1_isArray cC1_isArray 2 (some .boolean) :: wAll
abbrev cC1_canBeDeclared : ByteArray := prog_5_method_7_code
def yC1_canBeDeclared : MethodName := ⟨RC1, "canBeDeclared", "(I)Z"⟩
def wsC1_canBeDeclared : List Cond := .code yC1_canBeDeclared cC1_canBeDeclared 2 (some .boolean) :: wAll
abbrev cC1_canBeResult : ByteArray := prog_5_method_8_code
def yC1_canBeResult : MethodName := ⟨RC1, "canBeResult", "(I)Z"⟩
def wsC1_canBeResult : List Cond := .code yC1_canBeResult cC1_canBeResult 2 (some .boolean) :: wAll
abbrev cC2_hasGoodHead : ByteArray := prog_4_method_6_code
def yC2_hasGoodHead : MethodName := ⟨RC2, "hasGoodHead", "(I)Z"⟩
def wsC2_hasGoodHead : List Cond := .code yC2_hasGoodHead cC2_hasGoodHead 3 (some .boolean) :: wAll
abbrev cC2_isVaried : ByteArray := prog_4_method_13_code
def yC2_isVaried : MethodName := ⟨RC2, "isVaried", "(I)Z"⟩
def wsC2_isVaried : List Cond := .code yC2_isVaried cC2_isVaried 2 (some .boolean) :: wAll
abbrev cC2_parameterAt : ByteArray := prog_4_method_17_code
def yC2_parameterAt : MethodName := ⟨RC2, "parameterAt", "(II)I"⟩
def wsC2_parameterAt : List Cond := .code yC2_parameterAt cC2_parameterAt 3 (some .int) :: wAll
abbrev cC2_hasGoodParameters : ByteArray := prog_4_method_8_code
def yC2_hasGoodParameters : MethodName := ⟨RC2, "hasGoodParameters", "(I)Z"⟩
def wsC2_hasGoodParameters : List Cond := .code yC2_hasGoodParameters cC2_hasGoodParameters 3 (some .boolean) :: wAll
abbrev cC2_sameParameters : ByteArray := prog_4_method_20_code
def yC2_sameParameters : MethodName := ⟨RC2, "sameParameters", "(II)Z"⟩
def wsC2_sameParameters : List Cond := .code yC2_sameParameters cC2_sameParameters 4 (some .boolean) :: wAll
abbrev cC2_isToldTwice : ByteArray := prog_4_method_9_code
def yC2_isToldTwice : MethodName := ⟨RC2, "isToldTwice", "(I)Z"⟩
def wsC2_isToldTwice : List Cond := .code yC2_isToldTwice cC2_isToldTwice 3 (some .boolean) :: wAll
abbrev cC2_keepDraft : ByteArray := prog_4_method_5_code
def yC2_keepDraft : MethodName := ⟨RC2, "keepDraft", "()I"⟩
def wsC2_keepDraft : List Cond := .code yC2_keepDraft cC2_keepDraft 1 (some .int) :: wAll
abbrev cC0_member : ByteArray := prog_1_method_5_code
def yC0_member : MethodName := ⟨RC0, "member", "(IIIIIIIII)I"⟩
def wsC0_member : List Cond := .code yC0_member cC0_member 10 (some .int) :: wAll
abbrev cC1_isType : ByteArray := prog_5_method_6_code
def yC1_isType : MethodName := ⟨RC1, "isType", "(I)Z"⟩
def wsC1_isType : List Cond := .code yC1_isType cC1_isType 2 (some .boolean) :: wAll
abbrev cC1_isPrimitive : ByteArray := prog_5_method_9_code
def yC1_isPrimitive : MethodName := ⟨RC1, "isPrimitive", "(I)Z"⟩
def wsC1_isPrimitive : List Cond := .code yC1_isPrimitive cC1_isPrimitive 2 (some .boolean) :: wAll
abbrev cC1_accepts : ByteArray := prog_5_method_16_code
def yC1_accepts : MethodName := ⟨RC1, "accepts", "(IIZ)Z"⟩
def wsC1_accepts : List Cond := .code yC1_accepts cC1_accepts 5 (some .boolean) :: wAll
abbrev cC0_is : ByteArray := prog_1_method_6_code
def yC0_is : MethodName := ⟨RC0, "is", "(II)I"⟩
def wsC0_is : List Cond := .code yC0_is cC0_is 3 (some .int) :: wAll
abbrev cC0_fits : ByteArray := prog_1_method_7_code
def yC0_fits : MethodName := ⟨RC0, "fits", "(II)I"⟩
def wsC0_fits : List Cond := .code yC0_fits cC0_fits 3 (some .int) :: wAll
abbrev cC1_size : ByteArray := prog_5_method_2_code
def yC1_size : MethodName := ⟨RC1, "size", "()I"⟩
def wsC1_size : List Cond := .code yC1_size cC1_size 1 (some .int) :: wAll
abbrev cC2_overrides : ByteArray := prog_4_method_24_code
def yC2_overrides : MethodName := ⟨RC2, "overrides", "(II)Z"⟩
def wsC2_overrides : List Cond := .code yC2_overrides cC2_overrides 4 (some .boolean) :: wAll
abbrev cC2_isOverridden : ByteArray := prog_4_method_23_code
def yC2_isOverridden : MethodName := ⟨RC2, "isOverridden", "(II)Z"⟩
def wsC2_isOverridden : List Cond := .code yC2_isOverridden cC2_isOverridden 4 (some .boolean) :: wAll
abbrev cC2_isSeen : ByteArray := prog_4_method_22_code
def yC2_isSeen : MethodName := ⟨RC2, "isSeen", "(III)Z"⟩
def wsC2_isSeen : List Cond := .code yC2_isSeen cC2_isSeen 4 (some .boolean) :: wAll
abbrev cC2_findFunction : ByteArray := prog_4_method_27_code
def yC2_findFunction : MethodName := ⟨RC2, "findFunction", "(I)I"⟩
def wsC2_findFunction : List Cond := .code yC2_findFunction cC2_findFunction 4 (some .int) :: wAll
abbrev cC2_settleFunctions : ByteArray := prog_4_method_26_code
def yC2_settleFunctions : MethodName := ⟨RC2, "settleFunctions", "()V"⟩
def wsC2_settleFunctions : List Cond := .code yC2_settleFunctions cC2_settleFunctions 3 none :: wAll
abbrev cC2_functionOf : ByteArray := prog_4_method_28_code
def yC2_functionOf : MethodName := ⟨RC2, "functionOf", "(I)I"⟩
def wsC2_functionOf : List Cond := .code yC2_functionOf cC2_functionOf 2 (some .int) :: wAll
abbrev cC0_function : ByteArray := prog_1_method_8_code
def yC0_function : MethodName := ⟨RC0, "function", "(I)I"⟩
def wsC0_function : List Cond := .code yC0_function cC0_function 2 (some .int) :: wAll
abbrev cC0_canBeAsked : ByteArray := prog_1_method_19_code
def yC0_canBeAsked : MethodName := ⟨RC0, "canBeAsked", "(III)Z"⟩
def wsC0_canBeAsked : List Cond := .code yC0_canBeAsked cC0_canBeAsked 4 (some .boolean) :: wAll
abbrev cC2_listSeen : ByteArray := prog_4_method_21_code
def yC2_listSeen : MethodName := ⟨RC2, "listSeen", "(III[I)I"⟩
def wsC2_listSeen : List Cond := .code yC2_listSeen cC2_listSeen 7 (some .int) :: wAll
abbrev cC0_seen : ByteArray := prog_1_method_9_code
def yC0_seen : MethodName := ⟨RC0, "seen", "(III)I"⟩
def wsC0_seen : List Cond := .code yC0_seen cC0_seen 4 (some .int) :: wAll
abbrev cC0_seenAt : ByteArray := prog_1_method_10_code
def yC0_seenAt : MethodName := ⟨RC0, "seenAt", "(IIII)I"⟩
def wsC0_seenAt : List Cond := .code yC0_seenAt cC0_seenAt 6 (some .int) :: wAll
abbrev cC3_addType : ByteArray := prog_2_method_3_code
def yC3_addType : MethodName := ⟨RC3, "addType", "(I)I"⟩
def wsC3_addType : List Cond := .code yC3_addType cC3_addType 2 (some .int) :: wAll
abbrev cC0_argument : ByteArray := prog_1_method_11_code
def yC0_argument : MethodName := ⟨RC0, "argument", "(I)I"⟩
def wsC0_argument : List Cond := .code yC0_argument cC0_argument 2 (some .int) :: wAll
abbrev cC3_addLambda : ByteArray := prog_2_method_4_code
def yC3_addLambda : MethodName := ⟨RC3, "addLambda", "(IZIII)I"⟩
def wsC3_addLambda : List Cond := .code yC3_addLambda cC3_addLambda 6 (some .int) :: wAll
abbrev cC0_lambda : ByteArray := prog_1_method_12_code
def yC0_lambda : MethodName := ⟨RC0, "lambda", "(IIIII)I"⟩
def wsC0_lambda : List Cond := .code yC0_lambda cC0_lambda 8 (some .int) :: wAll
abbrev cC3_clear : ByteArray := prog_2_method_5_code
def yC3_clear : MethodName := ⟨RC3, "clear", "()I"⟩
def wsC3_clear : List Cond := .code yC3_clear cC3_clear 2 (some .int) :: wAll
abbrev cC0_wipe : ByteArray := prog_1_method_13_code
def yC0_wipe : MethodName := ⟨RC0, "wipe", "()I"⟩
def wsC0_wipe : List Cond := .code yC0_wipe cC0_wipe 1 (some .int) :: wAll
abbrev cC4_forget : ByteArray := prog_3_method_7_code
def yC4_forget : MethodName := ⟨RC4, "forget", "()V"⟩
def wsC4_forget : List Cond := .code yC4_forget cC4_forget 1 none :: wAll
abbrev cC2_widthOf : ByteArray := prog_4_method_16_code
def yC2_widthOf : MethodName := ⟨RC2, "widthOf", "(I)I"⟩
def wsC2_widthOf : List Cond := .code yC2_widthOf cC2_widthOf 2 (some .int) :: wAll
abbrev cC3_size : ByteArray := prog_2_method_2_code
def yC3_size : MethodName := ⟨RC3, "size", "()I"⟩
def wsC3_size : List Cond := .code yC3_size cC3_size 1 (some .int) :: wAll
abbrev cC3_isLambda : ByteArray := prog_2_method_6_code
def yC3_isLambda : MethodName := ⟨RC3, "isLambda", "(I)Z"⟩
def wsC3_isLambda : List Cond := .code yC3_isLambda cC3_isLambda 2 (some .boolean) :: wAll
abbrev cC1_elementOf : ByteArray := prog_5_method_11_code
def yC1_elementOf : MethodName := ⟨RC1, "elementOf", "(I)I"⟩
def wsC1_elementOf : List Cond := .code yC1_elementOf cC1_elementOf 2 (some .int) :: wAll
abbrev cC2_facing : ByteArray := prog_4_method_18_code
def yC2_facing : MethodName := ⟨RC2, "facing", "(IIZ)I"⟩
def wsC2_facing : List Cond := .code yC2_facing cC2_facing 5 (some .int) :: wAll
abbrev cC3_widthOf : ByteArray := prog_2_method_10_code
def yC3_widthOf : MethodName := ⟨RC3, "widthOf", "(I)I"⟩
def wsC3_widthOf : List Cond := .code yC3_widthOf cC3_widthOf 2 (some .int) :: wAll
abbrev cC2_hasResult : ByteArray := prog_4_method_14_code
def yC2_hasResult : MethodName := ⟨RC2, "hasResult", "(I)Z"⟩
def wsC2_hasResult : List Cond := .code yC2_hasResult cC2_hasResult 2 (some .boolean) :: wAll
abbrev cC3_hasResult : ByteArray := prog_2_method_9_code
def yC3_hasResult : MethodName := ⟨RC3, "hasResult", "(I)Z"⟩
def wsC3_hasResult : List Cond := .code yC3_hasResult cC3_hasResult 2 (some .boolean) :: wAll
abbrev cC4_hasShape : ByteArray := prog_3_method_13_code
def yC4_hasShape : MethodName := ⟨RC4, "hasShape", "(II)Z"⟩
def wsC4_hasShape : List Cond := .code yC4_hasShape cC4_hasShape 4 (some .boolean) :: wAll
abbrev cC4_couldBeMeant : ByteArray := prog_3_method_12_code
def yC4_couldBeMeant : MethodName := ⟨RC4, "couldBeMeant", "(I)Z"⟩
def wsC4_couldBeMeant : List Cond := .code yC4_couldBeMeant cC4_couldBeMeant 5 (some .boolean) :: wAll
abbrev cC4_keepMeant : ByteArray := prog_3_method_8_code
def yC4_keepMeant : MethodName := ⟨RC4, "keepMeant", "()V"⟩
def wsC4_keepMeant : List Cond := .code yC4_keepMeant cC4_keepMeant 3 none :: wAll
abbrev cC2_spreadType : ByteArray := prog_4_method_19_code
def yC2_spreadType : MethodName := ⟨RC2, "spreadType", "(I)I"⟩
def wsC2_spreadType : List Cond := .code yC2_spreadType cC2_spreadType 2 (some .int) :: wAll
abbrev cC3_isToldLambda : ByteArray := prog_2_method_7_code
def yC3_isToldLambda : MethodName := ⟨RC3, "isToldLambda", "(I)Z"⟩
def wsC3_isToldLambda : List Cond := .code yC3_isToldLambda cC3_isToldLambda 2 (some .boolean) :: wAll
abbrev cC3_valueOf : ByteArray := prog_2_method_8_code
def yC3_valueOf : MethodName := ⟨RC3, "valueOf", "(I)I"⟩
def wsC3_valueOf : List Cond := .code yC3_valueOf cC3_valueOf 2 (some .int) :: wAll
abbrev cC2_resultOf : ByteArray := prog_4_method_15_code
def yC2_resultOf : MethodName := ⟨RC2, "resultOf", "(I)I"⟩
def wsC2_resultOf : List Cond := .code yC2_resultOf cC2_resultOf 2 (some .int) :: wAll
abbrev cC1_isReference : ByteArray := prog_5_method_10_code
def yC1_isReference : MethodName := ⟨RC1, "isReference", "(I)Z"⟩
def wsC1_isReference : List Cond := .code yC1_isReference cC1_isReference 2 (some .boolean) :: wAll
abbrev cC4_isFinerResult : ByteArray := prog_3_method_19_code
def yC4_isFinerResult : MethodName := ⟨RC4, "isFinerResult", "(III)Z"⟩
def wsC4_isFinerResult : List Cond := .code yC4_isFinerResult cC4_isFinerResult 6 (some .boolean) :: wAll
abbrev cC4_isFinerFunction : ByteArray := prog_3_method_18_code
def yC4_isFinerFunction : MethodName := ⟨RC4, "isFinerFunction", "(III)Z"⟩
def wsC4_isFinerFunction : List Cond := .code yC4_isFinerFunction cC4_isFinerFunction 6 (some .boolean) :: wAll
abbrev cC4_isAsSpecialAs : ByteArray := prog_3_method_17_code
def yC4_isAsSpecialAs : MethodName := ⟨RC4, "isAsSpecialAs", "(II)Z"⟩
def wsC4_isAsSpecialAs : List Cond := .code yC4_isAsSpecialAs cC4_isAsSpecialAs 7 (some .boolean) :: wAll
abbrev cC4_compareAll : ByteArray := prog_3_method_10_code
def yC4_compareAll : MethodName := ⟨RC4, "compareAll", "()V"⟩
def wsC4_compareAll : List Cond := .code yC4_compareAll cC4_compareAll 4 none :: wAll
abbrev cC4_pick : ByteArray := prog_3_method_11_code
def yC4_pick : MethodName := ⟨RC4, "pick", "()I"⟩
def wsC4_pick : List Cond := .code yC4_pick cC4_pick 6 (some .int) :: wAll
abbrev cC3_parameterAt : ByteArray := prog_2_method_11_code
def yC3_parameterAt : MethodName := ⟨RC3, "parameterAt", "(II)I"⟩
def wsC3_parameterAt : List Cond := .code yC3_parameterAt cC3_parameterAt 3 (some .int) :: wAll
abbrev cC4_takesTold : ByteArray := prog_3_method_16_code
def yC4_takesTold : MethodName := ⟨RC4, "takesTold", "(IIZ)Z"⟩
def wsC4_takesTold : List Cond := .code yC4_takesTold cC4_takesTold 5 (some .boolean) :: wAll
abbrev cC4_takes : ByteArray := prog_3_method_15_code
def yC4_takes : MethodName := ⟨RC4, "takes", "(IIZ)Z"⟩
def wsC4_takes : List Cond := .code yC4_takes cC4_takes 4 (some .boolean) :: wAll
abbrev cC4_applies : ByteArray := prog_3_method_14_code
def yC4_applies : MethodName := ⟨RC4, "applies", "(II)Z"⟩
def wsC4_applies : List Cond := .code yC4_applies cC4_applies 5 (some .boolean) :: wAll
abbrev cC4_findApplying : ByteArray := prog_3_method_9_code
def yC4_findApplying : MethodName := ⟨RC4, "findApplying", "(I)V"⟩
def wsC4_findApplying : List Cond := .code yC4_findApplying cC4_findApplying 4 none :: wAll
abbrev cC4_decide : ByteArray := prog_3_method_6_code
def yC4_decide : MethodName := ⟨RC4, "decide", "(III)I"⟩
def wsC4_decide : List Cond := .code yC4_decide cC4_decide 5 (some .int) :: wAll
abbrev cC0_choose : ByteArray := prog_1_method_14_code
def yC0_choose : MethodName := ⟨RC0, "choose", "(IIII)I"⟩
def wsC0_choose : List Cond := .code yC0_choose cC0_choose 6 (some .int) :: wAll
abbrev cC4_phaseReached : ByteArray := prog_3_method_2_code
def yC4_phaseReached : MethodName := ⟨RC4, "phaseReached", "()I"⟩
def wsC4_phaseReached : List Cond := .code yC4_phaseReached cC4_phaseReached 1 (some .int) :: wAll
abbrev cC0_phase : ByteArray := prog_1_method_15_code
def yC0_phase : MethodName := ⟨RC0, "phase", "()I"⟩
def wsC0_phase : List Cond := .code yC0_phase cC0_phase 1 (some .int) :: wAll
abbrev cC4_applyingAt : ByteArray := prog_3_method_3_code
def yC4_applyingAt : MethodName := ⟨RC4, "applyingAt", "(I)I"⟩
def wsC4_applyingAt : List Cond := .code yC4_applyingAt cC4_applyingAt 2 (some .int) :: wAll
abbrev cC0_applied : ByteArray := prog_1_method_16_code
def yC0_applied : MethodName := ⟨RC0, "applied", "(I)I"⟩
def wsC0_applied : List Cond := .code yC0_applied cC0_applied 2 (some .int) :: wAll
abbrev cC4_didApply : ByteArray := prog_3_method_5_code
def yC4_didApply : MethodName := ⟨RC4, "didApply", "(I)Z"⟩
def wsC4_didApply : List Cond := .code yC4_didApply cC4_didApply 2 (some .boolean) :: wAll
abbrev cC4_compared : ByteArray := prog_3_method_4_code
def yC4_compared : MethodName := ⟨RC4, "compared", "(II)I"⟩
def wsC4_compared : List Cond := .code yC4_compared cC4_compared 3 (some .int) :: wAll
abbrev cC0_special : ByteArray := prog_1_method_17_code
def yC0_special : MethodName := ⟨RC0, "special", "(II)I"⟩
def wsC0_special : List Cond := .code yC0_special cC0_special 3 (some .int) :: wAll
abbrev cC2_size : ByteArray := prog_4_method_2_code
def yC2_size : MethodName := ⟨RC2, "size", "()I"⟩
def wsC2_size : List Cond := .code yC2_size cC2_size 1 (some .int) :: wAll
abbrev cC0_count : ByteArray := prog_1_method_18_code
def yC0_count : MethodName := ⟨RC0, "count", "(I)I"⟩
def wsC0_count : List Cond := .code yC0_count cC0_count 2 (some .int) :: wAll
abbrev cCM_forgetFunctions : ByteArray := prog_7_method_22_code
def yCM_forgetFunctions : MethodName := ⟨RCM, "forgetFunctions", "()V"⟩
def wsCM_forgetFunctions : List Cond := .code yCM_forgetFunctions cCM_forgetFunctions 2 none :: wAll
abbrev cCM_closeTypes : ByteArray := prog_7_method_7_code
def yCM_closeTypes : MethodName := ⟨RCM, "closeTypes", "()V"⟩
def wsCM_closeTypes : List Cond := .code yCM_closeTypes cCM_closeTypes 5 none :: wAll
abbrev cCM_isTold : ByteArray := prog_7_method_2_code
def yCM_isTold : MethodName := ⟨RCM, "isTold", "(I)Z"⟩
def wsCM_isTold : List Cond := .code yCM_isTold cCM_isTold 2 (some .boolean) :: wAll
abbrev cCM_cls : ByteArray := prog_7_method_11_code
def yCM_cls : MethodName := ⟨RCM, "cls", "(I)I"⟩
def wsCM_cls : List Cond := .code yCM_cls cCM_cls 2 (some .int) :: wAll
abbrev cCM_face : ByteArray := prog_7_method_12_code
def yCM_face : MethodName := ⟨RCM, "face", "()I"⟩
def wsCM_face : List Cond := .code yCM_face cCM_face 1 (some .int) :: wAll
abbrev cCM_below : ByteArray := prog_7_method_13_code
def yCM_below : MethodName := ⟨RCM, "below", "(II)I"⟩
def wsCM_below : List Cond := .code yCM_below cCM_below 6 (some .int) :: wAll
abbrev cCM_isPlain : ByteArray := prog_7_method_3_code
def yCM_isPlain : MethodName := ⟨RCM, "isPlain", "(I)Z"⟩
def wsCM_isPlain : List Cond := .code yCM_isPlain cCM_isPlain 2 (some .boolean) :: wAll
abbrev cCM_isType : ByteArray := prog_7_method_4_code
def yCM_isType : MethodName := ⟨RCM, "isType", "(I)Z"⟩
def wsCM_isType : List Cond := .code yCM_isType cCM_isType 2 (some .boolean) :: wAll
abbrev cCM_isPrimitive : ByteArray := prog_7_method_5_code
def yCM_isPrimitive : MethodName := ⟨RCM, "isPrimitive", "(I)Z"⟩
def wsCM_isPrimitive : List Cond := .code yCM_isPrimitive cCM_isPrimitive 1 (some .boolean) :: wAll
abbrev cCM_plainIs : ByteArray := prog_7_method_8_code
def yCM_plainIs : MethodName := ⟨RCM, "plainIs", "(II)Z"⟩
def wsCM_plainIs : List Cond := .code yCM_plainIs cCM_plainIs 3 (some .boolean) :: wAll
abbrev cCM_isIt : ByteArray := prog_7_method_9_code
def yCM_isIt : MethodName := ⟨RCM, "isIt", "(II)Z"⟩
def wsCM_isIt : List Cond := .code yCM_isIt cCM_isIt 3 (some .boolean) :: wAll
abbrev cCM_is : ByteArray := prog_7_method_14_code
def yCM_is : MethodName := ⟨RCM, "is", "(II)I"⟩
def wsCM_is : List Cond := .code yCM_is cCM_is 3 (some .int) :: wAll
abbrev cCM_isBox : ByteArray := prog_7_method_6_code
def yCM_isBox : MethodName := ⟨RCM, "isBox", "(I)Z"⟩
def wsCM_isBox : List Cond := .code yCM_isBox cCM_isBox 1 (some .boolean) :: wAll
abbrev cCM_fitsIt : ByteArray := prog_7_method_10_code
def yCM_fitsIt : MethodName := ⟨RCM, "fitsIt", "(II)Z"⟩
def wsCM_fitsIt : List Cond := .code yCM_fitsIt cCM_fitsIt 3 (some .boolean) :: wAll
abbrev cCM_fits : ByteArray := prog_7_method_15_code
def yCM_fits : MethodName := ⟨RCM, "fits", "(II)I"⟩
def wsCM_fits : List Cond := .code yCM_fits cCM_fits 3 (some .int) :: wAll
abbrev cCM_parameter : ByteArray := prog_7_method_18_code
def yCM_parameter : MethodName := ⟨RCM, "parameter", "(IIIII)I"⟩
def wsCM_parameter : List Cond := .code yCM_parameter cCM_parameter 5 (some .int) :: wAll
abbrev cCM_isValue : ByteArray := prog_7_method_30_code
def yCM_isValue : MethodName := ⟨RCM, "isValue", "(I)Z"⟩
def wsCM_isValue : List Cond := .code yCM_isValue cCM_isValue 2 (some .boolean) :: wAll
abbrev cCM_isName : ByteArray := prog_7_method_16_code
def yCM_isName : MethodName := ⟨RCM, "isName", "(I)Z"⟩
def wsCM_isName : List Cond := .code yCM_isName cCM_isName 1 (some .boolean) :: wAll
abbrev cCM_member : ByteArray := prog_7_method_17_code
def yCM_member : MethodName := ⟨RCM, "member", "(IIIIIIIII)I"⟩
def wsCM_member : List Cond := .code yCM_member cCM_member 15 (some .int) :: wAll
abbrev cCM_has : ByteArray := prog_7_method_20_code
def yCM_has : MethodName := ⟨RCM, "has", "(II)Z"⟩
def wsCM_has : List Cond := .code yCM_has cCM_has 3 (some .boolean) :: wAll
abbrev cCM_sameParams : ByteArray := prog_7_method_19_code
def yCM_sameParams : MethodName := ⟨RCM, "sameParams", "(II)Z"⟩
def wsCM_sameParams : List Cond := .code yCM_sameParams cCM_sameParams 5 (some .boolean) :: wAll
abbrev cCM_isSeen : ByteArray := prog_7_method_21_code
def yCM_isSeen : MethodName := ⟨RCM, "isSeen", "(III)Z"⟩
def wsCM_isSeen : List Cond := .code yCM_isSeen cCM_isSeen 6 (some .boolean) :: wAll
abbrev cCM_findFunction : ByteArray := prog_7_method_24_code
def yCM_findFunction : MethodName := ⟨RCM, "findFunction", "(I)I"⟩
def wsCM_findFunction : List Cond := .code yCM_findFunction cCM_findFunction 4 (some .int) :: wAll
abbrev cCM_functionOf : ByteArray := prog_7_method_23_code
def yCM_functionOf : MethodName := ⟨RCM, "functionOf", "(I)I"⟩
def wsCM_functionOf : List Cond := .code yCM_functionOf cCM_functionOf 2 (some .int) :: wAll
abbrev cCM_function : ByteArray := prog_7_method_25_code
def yCM_function : MethodName := ⟨RCM, "function", "(I)I"⟩
def wsCM_function : List Cond := .code yCM_function cCM_function 2 (some .int) :: wAll
abbrev cCM_isAsked : ByteArray := prog_7_method_26_code
def yCM_isAsked : MethodName := ⟨RCM, "isAsked", "(III)Z"⟩
def wsCM_isAsked : List Cond := .code yCM_isAsked cCM_isAsked 4 (some .boolean) :: wAll
abbrev cCM_seen : ByteArray := prog_7_method_27_code
def yCM_seen : MethodName := ⟨RCM, "seen", "(III)I"⟩
def wsCM_seen : List Cond := .code yCM_seen cCM_seen 6 (some .int) :: wAll
abbrev cCM_seenAt : ByteArray := prog_7_method_28_code
def yCM_seenAt : MethodName := ⟨RCM, "seenAt", "(IIII)I"⟩
def wsCM_seenAt : List Cond := .code yCM_seenAt cCM_seenAt 7 (some .int) :: wAll
abbrev cCM_argument : ByteArray := prog_7_method_29_code
def yCM_argument : MethodName := ⟨RCM, "argument", "(I)I"⟩
def wsCM_argument : List Cond := .code yCM_argument cCM_argument 2 (some .int) :: wAll
abbrev cCM_lambda : ByteArray := prog_7_method_31_code
def yCM_lambda : MethodName := ⟨RCM, "lambda", "(IIIII)I"⟩
def wsCM_lambda : List Cond := .code yCM_lambda cCM_lambda 6 (some .int) :: wAll
abbrev cCM_wipe : ByteArray := prog_7_method_32_code
def yCM_wipe : MethodName := ⟨RCM, "wipe", "()I"⟩
def wsCM_wipe : List Cond := .code yCM_wipe cCM_wipe 2 (some .int) :: wAll
abbrev cCM_mostSpecial : ByteArray := prog_7_method_42_code
def yCM_mostSpecial : MethodName := ⟨RCM, "mostSpecial", "()I"⟩
def wsCM_mostSpecial : List Cond := .code yCM_mostSpecial cCM_mostSpecial 9 (some .int) :: wAll
abbrev cCM_typeAt : ByteArray := prog_7_method_33_code
def yCM_typeAt : MethodName := ⟨RCM, "typeAt", "(IIZ)I"⟩
def wsCM_typeAt : List Cond := .code yCM_typeAt cCM_typeAt 5 (some .int) :: wAll
abbrev cCM_isFiner : ByteArray := prog_7_method_40_code
def yCM_isFiner : MethodName := ⟨RCM, "isFiner", "(III)Z"⟩
def wsCM_isFiner : List Cond := .code yCM_isFiner cCM_isFiner 9 (some .boolean) :: wAll
abbrev cCM_isSpecial : ByteArray := prog_7_method_39_code
def yCM_isSpecial : MethodName := ⟨RCM, "isSpecial", "(II)Z"⟩
def wsCM_isSpecial : List Cond := .code yCM_isSpecial cCM_isSpecial 7 (some .boolean) :: wAll
abbrev cCM_hasShape : ByteArray := prog_7_method_34_code
def yCM_hasShape : MethodName := ⟨RCM, "hasShape", "(II)Z"⟩
def wsCM_hasShape : List Cond := .code yCM_hasShape cCM_hasShape 4 (some .boolean) :: wAll
abbrev cCM_passes : ByteArray := prog_7_method_36_code
def yCM_passes : MethodName := ⟨RCM, "passes", "(III)Z"⟩
def wsCM_passes : List Cond := .code yCM_passes cCM_passes 4 (some .boolean) :: wAll
abbrev cCM_takes : ByteArray := prog_7_method_38_code
def yCM_takes : MethodName := ⟨RCM, "takes", "(III)Z"⟩
def wsCM_takes : List Cond := .code yCM_takes cCM_takes 7 (some .boolean) :: wAll
abbrev cCM_doesApply : ByteArray := prog_7_method_37_code
def yCM_doesApply : MethodName := ⟨RCM, "doesApply", "(II)Z"⟩
def wsCM_doesApply : List Cond := .code yCM_doesApply cCM_doesApply 5 (some .boolean) :: wAll
abbrev cCM_isMeant : ByteArray := prog_7_method_35_code
def yCM_isMeant : MethodName := ⟨RCM, "isMeant", "(I)Z"⟩
def wsCM_isMeant : List Cond := .code yCM_isMeant cCM_isMeant 5 (some .boolean) :: wAll
abbrev cCM_choose : ByteArray := prog_7_method_41_code
def yCM_choose : MethodName := ⟨RCM, "choose", "(IIII)I"⟩
def wsCM_choose : List Cond := .code yCM_choose cCM_choose 10 (some .int) :: wAll
abbrev cCM_phase : ByteArray := prog_7_method_43_code
def yCM_phase : MethodName := ⟨RCM, "phase", "()I"⟩
def wsCM_phase : List Cond := .code yCM_phase cCM_phase 1 (some .int) :: wAll
abbrev cCM_applied : ByteArray := prog_7_method_44_code
def yCM_applied : MethodName := ⟨RCM, "applied", "(I)I"⟩
def wsCM_applied : List Cond := .code yCM_applied cCM_applied 4 (some .int) :: wAll
abbrev cCM_special : ByteArray := prog_7_method_45_code
def yCM_special : MethodName := ⟨RCM, "special", "(II)I"⟩
def wsCM_special : List Cond := .code yCM_special cCM_special 4 (some .int) :: wAll
abbrev cCM_count : ByteArray := prog_7_method_46_code
def yCM_count : MethodName := ⟨RCM, "count", "(I)I"⟩
def wsCM_count : List Cond := .code yCM_count cCM_count 2 (some .int) :: wAll
theorem hdC1_add : yC1_add.cls = RC1 ∧ yC1_add.cls ≠ "java/lang/invoke/MethodHandle" ∧ yC1_add.cls ≠ "java/lang/invoke/VarHandle" ∧ (parseMethodDescriptor yC1_add.desc).map (fun d => d.parameters.length) = some 2 := by decide +kernel
theorem hdC1_isTold : yC1_isTold.cls = RC1 ∧ yC1_isTold.cls ≠ "java/lang/invoke/MethodHandle" ∧ yC1_isTold.cls ≠ "java/lang/invoke/VarHandle" ∧ (parseMethodDescriptor yC1_isTold.desc).map (fun d => d.parameters.length) = some 1 := by decide +kernel
theorem hdC1_isInterface : yC1_isInterface.cls = RC1 ∧ yC1_isInterface.cls ≠ "java/lang/invoke/MethodHandle" ∧ yC1_isInterface.cls ≠ "java/lang/invoke/VarHandle" ∧ (parseMethodDescriptor yC1_isInterface.desc).map (fun d => d.parameters.length) = some 1 := by decide +kernel
theorem hdC0_cls : yC0_cls.cls = RC0 ∧ yC0_cls.cls ≠ "java/lang/invoke/MethodHandle" ∧ yC0_cls.cls ≠ "java/lang/invoke/VarHandle" ∧ (parseMethodDescriptor yC0_cls.desc).map (fun d => d.parameters.length) = some 1 := by decide +kernel
theorem hdC0_face : yC0_face.cls = RC0 ∧ yC0_face.cls ≠ "java/lang/invoke/MethodHandle" ∧ yC0_face.cls ≠ "java/lang/invoke/VarHandle" ∧ (parseMethodDescriptor yC0_face.desc).map (fun d => d.parameters.length) = some 0 := by decide +kernel
theorem hdJI_bitCount : yJI_bitCount.cls ≠ "java/lang/invoke/MethodHandle" ∧ yJI_bitCount.cls ≠ "java/lang/invoke/VarHandle" ∧ (parseMethodDescriptor yJI_bitCount.desc).map (fun d => d.parameters.length) = some 1 := by decide +kernel
theorem hdC1_isA : yC1_isA.cls = RC1 ∧ yC1_isA.cls ≠ "java/lang/invoke/MethodHandle" ∧ yC1_isA.cls ≠ "java/lang/invoke/VarHandle" ∧ (parseMethodDescriptor yC1_isA.desc).map (fun d => d.parameters.length) = some 2 := by decide +kernel
theorem hdC1_putBelow : yC1_putBelow.cls = RC1 ∧ yC1_putBelow.cls ≠ "java/lang/invoke/MethodHandle" ∧ yC1_putBelow.cls ≠ "java/lang/invoke/VarHandle" ∧ (parseMethodDescriptor yC1_putBelow.desc).map (fun d => d.parameters.length) = some 2 := by decide +kernel
theorem hdC2_forgetFunctions : yC2_forgetFunctions.cls = RC2 ∧ yC2_forgetFunctions.cls ≠ "java/lang/invoke/MethodHandle" ∧ yC2_forgetFunctions.cls ≠ "java/lang/invoke/VarHandle" ∧ (parseMethodDescriptor yC2_forgetFunctions.desc).map (fun d => d.parameters.length) = some 0 := by decide +kernel
theorem hdC0_below : yC0_below.cls = RC0 ∧ yC0_below.cls ≠ "java/lang/invoke/MethodHandle" ∧ yC0_below.cls ≠ "java/lang/invoke/VarHandle" ∧ (parseMethodDescriptor yC0_below.desc).map (fun d => d.parameters.length) = some 2 := by decide +kernel
theorem hdC2_draftHead : yC2_draftHead.cls = RC2 ∧ yC2_draftHead.cls ≠ "java/lang/invoke/MethodHandle" ∧ yC2_draftHead.cls ≠ "java/lang/invoke/VarHandle" ∧ (parseMethodDescriptor yC2_draftHead.desc).map (fun d => d.parameters.length) = some 4 := by decide +kernel
theorem hdC2_draftParameters : yC2_draftParameters.cls = RC2 ∧ yC2_draftParameters.cls ≠ "java/lang/invoke/MethodHandle" ∧ yC2_draftParameters.cls ≠ "java/lang/invoke/VarHandle" ∧ (parseMethodDescriptor yC2_draftParameters.desc).map (fun d => d.parameters.length) = some 5 := by decide +kernel
theorem hdC2_isAbstract : yC2_isAbstract.cls = RC2 ∧ yC2_isAbstract.cls ≠ "java/lang/invoke/MethodHandle" ∧ yC2_isAbstract.cls ≠ "java/lang/invoke/VarHandle" ∧ (parseMethodDescriptor yC2_isAbstract.desc).map (fun d => d.parameters.length) = some 1 := by decide +kernel
theorem hdC2_isStatic : yC2_isStatic.cls = RC2 ∧ yC2_isStatic.cls ≠ "java/lang/invoke/MethodHandle" ∧ yC2_isStatic.cls ≠ "java/lang/invoke/VarHandle" ∧ (parseMethodDescriptor yC2_isStatic.desc).map (fun d => d.parameters.length) = some 1 := by decide +kernel
theorem hdC2_isPrivate : yC2_isPrivate.cls = RC2 ∧ yC2_isPrivate.cls ≠ "java/lang/invoke/MethodHandle" ∧ yC2_isPrivate.cls ≠ "java/lang/invoke/VarHandle" ∧ (parseMethodDescriptor yC2_isPrivate.desc).map (fun d => d.parameters.length) = some 1 := by decide +kernel
theorem hdC2_hasGoodMarks : yC2_hasGoodMarks.cls = RC2 ∧ yC2_hasGoodMarks.cls ≠ "java/lang/invoke/MethodHandle" ∧ yC2_hasGoodMarks.cls ≠ "java/lang/invoke/VarHandle" ∧ (parseMethodDescriptor yC2_hasGoodMarks.desc).map (fun d => d.parameters.length) = some 1 := by decide +kernel
theorem hdC1_isElement : yC1_isElement.cls = RC1 ∧ yC1_isElement.cls ≠ "java/lang/invoke/MethodHandle" ∧ yC1_isElement.cls ≠ "java/lang/invoke/VarHandle" ∧ (parseMethodDescriptor yC1_isElement.desc).map (fun d => d.parameters.length) = some 1 := by decide +kernel
theorem hdC1_isArray : yC1_isArray.cls = RC1 ∧ yC1_isArray.cls ≠ "java/lang/invoke/MethodHandle" ∧ yC1_isArray.cls ≠ "java/lang/invoke/VarHandle" ∧ (parseMethodDescriptor yC1_isArray.desc).map (fun d => d.parameters.length) = some 1 := by decide +kernel
theorem hdC1_canBeDeclared : yC1_canBeDeclared.cls = RC1 ∧ yC1_canBeDeclared.cls ≠ "java/lang/invoke/MethodHandle" ∧ yC1_canBeDeclared.cls ≠ "java/lang/invoke/VarHandle" ∧ (parseMethodDescriptor yC1_canBeDeclared.desc).map (fun d => d.parameters.length) = some 1 := by decide +kernel
theorem hdC1_canBeResult : yC1_canBeResult.cls = RC1 ∧ yC1_canBeResult.cls ≠ "java/lang/invoke/MethodHandle" ∧ yC1_canBeResult.cls ≠ "java/lang/invoke/VarHandle" ∧ (parseMethodDescriptor yC1_canBeResult.desc).map (fun d => d.parameters.length) = some 1 := by decide +kernel
theorem hdC2_hasGoodHead : yC2_hasGoodHead.cls = RC2 ∧ yC2_hasGoodHead.cls ≠ "java/lang/invoke/MethodHandle" ∧ yC2_hasGoodHead.cls ≠ "java/lang/invoke/VarHandle" ∧ (parseMethodDescriptor yC2_hasGoodHead.desc).map (fun d => d.parameters.length) = some 1 := by decide +kernel
theorem hdC2_isVaried : yC2_isVaried.cls = RC2 ∧ yC2_isVaried.cls ≠ "java/lang/invoke/MethodHandle" ∧ yC2_isVaried.cls ≠ "java/lang/invoke/VarHandle" ∧ (parseMethodDescriptor yC2_isVaried.desc).map (fun d => d.parameters.length) = some 1 := by decide +kernel
theorem hdC2_parameterAt : yC2_parameterAt.cls = RC2 ∧ yC2_parameterAt.cls ≠ "java/lang/invoke/MethodHandle" ∧ yC2_parameterAt.cls ≠ "java/lang/invoke/VarHandle" ∧ (parseMethodDescriptor yC2_parameterAt.desc).map (fun d => d.parameters.length) = some 2 := by decide +kernel
theorem hdC2_hasGoodParameters : yC2_hasGoodParameters.cls = RC2 ∧ yC2_hasGoodParameters.cls ≠ "java/lang/invoke/MethodHandle" ∧ yC2_hasGoodParameters.cls ≠ "java/lang/invoke/VarHandle" ∧ (parseMethodDescriptor yC2_hasGoodParameters.desc).map (fun d => d.parameters.length) = some 1 := by decide +kernel
theorem hdC2_sameParameters : yC2_sameParameters.cls = RC2 ∧ yC2_sameParameters.cls ≠ "java/lang/invoke/MethodHandle" ∧ yC2_sameParameters.cls ≠ "java/lang/invoke/VarHandle" ∧ (parseMethodDescriptor yC2_sameParameters.desc).map (fun d => d.parameters.length) = some 2 := by decide +kernel
theorem hdC2_isToldTwice : yC2_isToldTwice.cls = RC2 ∧ yC2_isToldTwice.cls ≠ "java/lang/invoke/MethodHandle" ∧ yC2_isToldTwice.cls ≠ "java/lang/invoke/VarHandle" ∧ (parseMethodDescriptor yC2_isToldTwice.desc).map (fun d => d.parameters.length) = some 1 := by decide +kernel
theorem hdC2_keepDraft : yC2_keepDraft.cls = RC2 ∧ yC2_keepDraft.cls ≠ "java/lang/invoke/MethodHandle" ∧ yC2_keepDraft.cls ≠ "java/lang/invoke/VarHandle" ∧ (parseMethodDescriptor yC2_keepDraft.desc).map (fun d => d.parameters.length) = some 0 := by decide +kernel
theorem hdC0_member : yC0_member.cls = RC0 ∧ yC0_member.cls ≠ "java/lang/invoke/MethodHandle" ∧ yC0_member.cls ≠ "java/lang/invoke/VarHandle" ∧ (parseMethodDescriptor yC0_member.desc).map (fun d => d.parameters.length) = some 9 := by decide +kernel
theorem hdC1_isType : yC1_isType.cls = RC1 ∧ yC1_isType.cls ≠ "java/lang/invoke/MethodHandle" ∧ yC1_isType.cls ≠ "java/lang/invoke/VarHandle" ∧ (parseMethodDescriptor yC1_isType.desc).map (fun d => d.parameters.length) = some 1 := by decide +kernel
theorem hdC1_isPrimitive : yC1_isPrimitive.cls = RC1 ∧ yC1_isPrimitive.cls ≠ "java/lang/invoke/MethodHandle" ∧ yC1_isPrimitive.cls ≠ "java/lang/invoke/VarHandle" ∧ (parseMethodDescriptor yC1_isPrimitive.desc).map (fun d => d.parameters.length) = some 1 := by decide +kernel
theorem hdC1_accepts : yC1_accepts.cls = RC1 ∧ yC1_accepts.cls ≠ "java/lang/invoke/MethodHandle" ∧ yC1_accepts.cls ≠ "java/lang/invoke/VarHandle" ∧ (parseMethodDescriptor yC1_accepts.desc).map (fun d => d.parameters.length) = some 3 := by decide +kernel
theorem hdC0_is : yC0_is.cls = RC0 ∧ yC0_is.cls ≠ "java/lang/invoke/MethodHandle" ∧ yC0_is.cls ≠ "java/lang/invoke/VarHandle" ∧ (parseMethodDescriptor yC0_is.desc).map (fun d => d.parameters.length) = some 2 := by decide +kernel
theorem hdC0_fits : yC0_fits.cls = RC0 ∧ yC0_fits.cls ≠ "java/lang/invoke/MethodHandle" ∧ yC0_fits.cls ≠ "java/lang/invoke/VarHandle" ∧ (parseMethodDescriptor yC0_fits.desc).map (fun d => d.parameters.length) = some 2 := by decide +kernel
theorem hdC1_size : yC1_size.cls = RC1 ∧ yC1_size.cls ≠ "java/lang/invoke/MethodHandle" ∧ yC1_size.cls ≠ "java/lang/invoke/VarHandle" ∧ (parseMethodDescriptor yC1_size.desc).map (fun d => d.parameters.length) = some 0 := by decide +kernel
theorem hdC2_overrides : yC2_overrides.cls = RC2 ∧ yC2_overrides.cls ≠ "java/lang/invoke/MethodHandle" ∧ yC2_overrides.cls ≠ "java/lang/invoke/VarHandle" ∧ (parseMethodDescriptor yC2_overrides.desc).map (fun d => d.parameters.length) = some 2 := by decide +kernel
theorem hdC2_isOverridden : yC2_isOverridden.cls = RC2 ∧ yC2_isOverridden.cls ≠ "java/lang/invoke/MethodHandle" ∧ yC2_isOverridden.cls ≠ "java/lang/invoke/VarHandle" ∧ (parseMethodDescriptor yC2_isOverridden.desc).map (fun d => d.parameters.length) = some 2 := by decide +kernel
theorem hdC2_isSeen : yC2_isSeen.cls = RC2 ∧ yC2_isSeen.cls ≠ "java/lang/invoke/MethodHandle" ∧ yC2_isSeen.cls ≠ "java/lang/invoke/VarHandle" ∧ (parseMethodDescriptor yC2_isSeen.desc).map (fun d => d.parameters.length) = some 3 := by decide +kernel
theorem hdC2_findFunction : yC2_findFunction.cls = RC2 ∧ yC2_findFunction.cls ≠ "java/lang/invoke/MethodHandle" ∧ yC2_findFunction.cls ≠ "java/lang/invoke/VarHandle" ∧ (parseMethodDescriptor yC2_findFunction.desc).map (fun d => d.parameters.length) = some 1 := by decide +kernel
theorem hdC2_settleFunctions : yC2_settleFunctions.cls = RC2 ∧ yC2_settleFunctions.cls ≠ "java/lang/invoke/MethodHandle" ∧ yC2_settleFunctions.cls ≠ "java/lang/invoke/VarHandle" ∧ (parseMethodDescriptor yC2_settleFunctions.desc).map (fun d => d.parameters.length) = some 0 := by decide +kernel
theorem hdC2_functionOf : yC2_functionOf.cls = RC2 ∧ yC2_functionOf.cls ≠ "java/lang/invoke/MethodHandle" ∧ yC2_functionOf.cls ≠ "java/lang/invoke/VarHandle" ∧ (parseMethodDescriptor yC2_functionOf.desc).map (fun d => d.parameters.length) = some 1 := by decide +kernel
theorem hdC0_function : yC0_function.cls = RC0 ∧ yC0_function.cls ≠ "java/lang/invoke/MethodHandle" ∧ yC0_function.cls ≠ "java/lang/invoke/VarHandle" ∧ (parseMethodDescriptor yC0_function.desc).map (fun d => d.parameters.length) = some 1 := by decide +kernel
theorem hdC0_canBeAsked : yC0_canBeAsked.cls = RC0 ∧ yC0_canBeAsked.cls ≠ "java/lang/invoke/MethodHandle" ∧ yC0_canBeAsked.cls ≠ "java/lang/invoke/VarHandle" ∧ (parseMethodDescriptor yC0_canBeAsked.desc).map (fun d => d.parameters.length) = some 3 := by decide +kernel
theorem hdC2_listSeen : yC2_listSeen.cls = RC2 ∧ yC2_listSeen.cls ≠ "java/lang/invoke/MethodHandle" ∧ yC2_listSeen.cls ≠ "java/lang/invoke/VarHandle" ∧ (parseMethodDescriptor yC2_listSeen.desc).map (fun d => d.parameters.length) = some 4 := by decide +kernel
theorem hdC0_seen : yC0_seen.cls = RC0 ∧ yC0_seen.cls ≠ "java/lang/invoke/MethodHandle" ∧ yC0_seen.cls ≠ "java/lang/invoke/VarHandle" ∧ (parseMethodDescriptor yC0_seen.desc).map (fun d => d.parameters.length) = some 3 := by decide +kernel
theorem hdC0_seenAt : yC0_seenAt.cls = RC0 ∧ yC0_seenAt.cls ≠ "java/lang/invoke/MethodHandle" ∧ yC0_seenAt.cls ≠ "java/lang/invoke/VarHandle" ∧ (parseMethodDescriptor yC0_seenAt.desc).map (fun d => d.parameters.length) = some 4 := by decide +kernel
theorem hdC3_addType : yC3_addType.cls = RC3 ∧ yC3_addType.cls ≠ "java/lang/invoke/MethodHandle" ∧ yC3_addType.cls ≠ "java/lang/invoke/VarHandle" ∧ (parseMethodDescriptor yC3_addType.desc).map (fun d => d.parameters.length) = some 1 := by decide +kernel
theorem hdC0_argument : yC0_argument.cls = RC0 ∧ yC0_argument.cls ≠ "java/lang/invoke/MethodHandle" ∧ yC0_argument.cls ≠ "java/lang/invoke/VarHandle" ∧ (parseMethodDescriptor yC0_argument.desc).map (fun d => d.parameters.length) = some 1 := by decide +kernel
theorem hdC3_addLambda : yC3_addLambda.cls = RC3 ∧ yC3_addLambda.cls ≠ "java/lang/invoke/MethodHandle" ∧ yC3_addLambda.cls ≠ "java/lang/invoke/VarHandle" ∧ (parseMethodDescriptor yC3_addLambda.desc).map (fun d => d.parameters.length) = some 5 := by decide +kernel
theorem hdC0_lambda : yC0_lambda.cls = RC0 ∧ yC0_lambda.cls ≠ "java/lang/invoke/MethodHandle" ∧ yC0_lambda.cls ≠ "java/lang/invoke/VarHandle" ∧ (parseMethodDescriptor yC0_lambda.desc).map (fun d => d.parameters.length) = some 5 := by decide +kernel
theorem hdC3_clear : yC3_clear.cls = RC3 ∧ yC3_clear.cls ≠ "java/lang/invoke/MethodHandle" ∧ yC3_clear.cls ≠ "java/lang/invoke/VarHandle" ∧ (parseMethodDescriptor yC3_clear.desc).map (fun d => d.parameters.length) = some 0 := by decide +kernel
theorem hdC0_wipe : yC0_wipe.cls = RC0 ∧ yC0_wipe.cls ≠ "java/lang/invoke/MethodHandle" ∧ yC0_wipe.cls ≠ "java/lang/invoke/VarHandle" ∧ (parseMethodDescriptor yC0_wipe.desc).map (fun d => d.parameters.length) = some 0 := by decide +kernel
theorem hdC4_forget : yC4_forget.cls = RC4 ∧ yC4_forget.cls ≠ "java/lang/invoke/MethodHandle" ∧ yC4_forget.cls ≠ "java/lang/invoke/VarHandle" ∧ (parseMethodDescriptor yC4_forget.desc).map (fun d => d.parameters.length) = some 0 := by decide +kernel
theorem hdC2_widthOf : yC2_widthOf.cls = RC2 ∧ yC2_widthOf.cls ≠ "java/lang/invoke/MethodHandle" ∧ yC2_widthOf.cls ≠ "java/lang/invoke/VarHandle" ∧ (parseMethodDescriptor yC2_widthOf.desc).map (fun d => d.parameters.length) = some 1 := by decide +kernel
theorem hdC3_size : yC3_size.cls = RC3 ∧ yC3_size.cls ≠ "java/lang/invoke/MethodHandle" ∧ yC3_size.cls ≠ "java/lang/invoke/VarHandle" ∧ (parseMethodDescriptor yC3_size.desc).map (fun d => d.parameters.length) = some 0 := by decide +kernel
theorem hdC3_isLambda : yC3_isLambda.cls = RC3 ∧ yC3_isLambda.cls ≠ "java/lang/invoke/MethodHandle" ∧ yC3_isLambda.cls ≠ "java/lang/invoke/VarHandle" ∧ (parseMethodDescriptor yC3_isLambda.desc).map (fun d => d.parameters.length) = some 1 := by decide +kernel
theorem hdC1_elementOf : yC1_elementOf.cls = RC1 ∧ yC1_elementOf.cls ≠ "java/lang/invoke/MethodHandle" ∧ yC1_elementOf.cls ≠ "java/lang/invoke/VarHandle" ∧ (parseMethodDescriptor yC1_elementOf.desc).map (fun d => d.parameters.length) = some 1 := by decide +kernel
theorem hdC2_facing : yC2_facing.cls = RC2 ∧ yC2_facing.cls ≠ "java/lang/invoke/MethodHandle" ∧ yC2_facing.cls ≠ "java/lang/invoke/VarHandle" ∧ (parseMethodDescriptor yC2_facing.desc).map (fun d => d.parameters.length) = some 3 := by decide +kernel
theorem hdC3_widthOf : yC3_widthOf.cls = RC3 ∧ yC3_widthOf.cls ≠ "java/lang/invoke/MethodHandle" ∧ yC3_widthOf.cls ≠ "java/lang/invoke/VarHandle" ∧ (parseMethodDescriptor yC3_widthOf.desc).map (fun d => d.parameters.length) = some 1 := by decide +kernel
theorem hdC2_hasResult : yC2_hasResult.cls = RC2 ∧ yC2_hasResult.cls ≠ "java/lang/invoke/MethodHandle" ∧ yC2_hasResult.cls ≠ "java/lang/invoke/VarHandle" ∧ (parseMethodDescriptor yC2_hasResult.desc).map (fun d => d.parameters.length) = some 1 := by decide +kernel
theorem hdC3_hasResult : yC3_hasResult.cls = RC3 ∧ yC3_hasResult.cls ≠ "java/lang/invoke/MethodHandle" ∧ yC3_hasResult.cls ≠ "java/lang/invoke/VarHandle" ∧ (parseMethodDescriptor yC3_hasResult.desc).map (fun d => d.parameters.length) = some 1 := by decide +kernel
theorem hdC4_hasShape : yC4_hasShape.cls = RC4 ∧ yC4_hasShape.cls ≠ "java/lang/invoke/MethodHandle" ∧ yC4_hasShape.cls ≠ "java/lang/invoke/VarHandle" ∧ (parseMethodDescriptor yC4_hasShape.desc).map (fun d => d.parameters.length) = some 2 := by decide +kernel
theorem hdC4_couldBeMeant : yC4_couldBeMeant.cls = RC4 ∧ yC4_couldBeMeant.cls ≠ "java/lang/invoke/MethodHandle" ∧ yC4_couldBeMeant.cls ≠ "java/lang/invoke/VarHandle" ∧ (parseMethodDescriptor yC4_couldBeMeant.desc).map (fun d => d.parameters.length) = some 1 := by decide +kernel
theorem hdC4_keepMeant : yC4_keepMeant.cls = RC4 ∧ yC4_keepMeant.cls ≠ "java/lang/invoke/MethodHandle" ∧ yC4_keepMeant.cls ≠ "java/lang/invoke/VarHandle" ∧ (parseMethodDescriptor yC4_keepMeant.desc).map (fun d => d.parameters.length) = some 0 := by decide +kernel
theorem hdC2_spreadType : yC2_spreadType.cls = RC2 ∧ yC2_spreadType.cls ≠ "java/lang/invoke/MethodHandle" ∧ yC2_spreadType.cls ≠ "java/lang/invoke/VarHandle" ∧ (parseMethodDescriptor yC2_spreadType.desc).map (fun d => d.parameters.length) = some 1 := by decide +kernel
theorem hdC3_isToldLambda : yC3_isToldLambda.cls = RC3 ∧ yC3_isToldLambda.cls ≠ "java/lang/invoke/MethodHandle" ∧ yC3_isToldLambda.cls ≠ "java/lang/invoke/VarHandle" ∧ (parseMethodDescriptor yC3_isToldLambda.desc).map (fun d => d.parameters.length) = some 1 := by decide +kernel
theorem hdC3_valueOf : yC3_valueOf.cls = RC3 ∧ yC3_valueOf.cls ≠ "java/lang/invoke/MethodHandle" ∧ yC3_valueOf.cls ≠ "java/lang/invoke/VarHandle" ∧ (parseMethodDescriptor yC3_valueOf.desc).map (fun d => d.parameters.length) = some 1 := by decide +kernel
theorem hdC2_resultOf : yC2_resultOf.cls = RC2 ∧ yC2_resultOf.cls ≠ "java/lang/invoke/MethodHandle" ∧ yC2_resultOf.cls ≠ "java/lang/invoke/VarHandle" ∧ (parseMethodDescriptor yC2_resultOf.desc).map (fun d => d.parameters.length) = some 1 := by decide +kernel
theorem hdC1_isReference : yC1_isReference.cls = RC1 ∧ yC1_isReference.cls ≠ "java/lang/invoke/MethodHandle" ∧ yC1_isReference.cls ≠ "java/lang/invoke/VarHandle" ∧ (parseMethodDescriptor yC1_isReference.desc).map (fun d => d.parameters.length) = some 1 := by decide +kernel
theorem hdC4_isFinerResult : yC4_isFinerResult.cls = RC4 ∧ yC4_isFinerResult.cls ≠ "java/lang/invoke/MethodHandle" ∧ yC4_isFinerResult.cls ≠ "java/lang/invoke/VarHandle" ∧ (parseMethodDescriptor yC4_isFinerResult.desc).map (fun d => d.parameters.length) = some 3 := by decide +kernel
theorem hdC4_isFinerFunction : yC4_isFinerFunction.cls = RC4 ∧ yC4_isFinerFunction.cls ≠ "java/lang/invoke/MethodHandle" ∧ yC4_isFinerFunction.cls ≠ "java/lang/invoke/VarHandle" ∧ (parseMethodDescriptor yC4_isFinerFunction.desc).map (fun d => d.parameters.length) = some 3 := by decide +kernel
theorem hdC4_isAsSpecialAs : yC4_isAsSpecialAs.cls = RC4 ∧ yC4_isAsSpecialAs.cls ≠ "java/lang/invoke/MethodHandle" ∧ yC4_isAsSpecialAs.cls ≠ "java/lang/invoke/VarHandle" ∧ (parseMethodDescriptor yC4_isAsSpecialAs.desc).map (fun d => d.parameters.length) = some 2 := by decide +kernel
theorem hdC4_compareAll : yC4_compareAll.cls = RC4 ∧ yC4_compareAll.cls ≠ "java/lang/invoke/MethodHandle" ∧ yC4_compareAll.cls ≠ "java/lang/invoke/VarHandle" ∧ (parseMethodDescriptor yC4_compareAll.desc).map (fun d => d.parameters.length) = some 0 := by decide +kernel
theorem hdC4_pick : yC4_pick.cls = RC4 ∧ yC4_pick.cls ≠ "java/lang/invoke/MethodHandle" ∧ yC4_pick.cls ≠ "java/lang/invoke/VarHandle" ∧ (parseMethodDescriptor yC4_pick.desc).map (fun d => d.parameters.length) = some 0 := by decide +kernel
theorem hdC3_parameterAt : yC3_parameterAt.cls = RC3 ∧ yC3_parameterAt.cls ≠ "java/lang/invoke/MethodHandle" ∧ yC3_parameterAt.cls ≠ "java/lang/invoke/VarHandle" ∧ (parseMethodDescriptor yC3_parameterAt.desc).map (fun d => d.parameters.length) = some 2 := by decide +kernel
theorem hdC4_takesTold : yC4_takesTold.cls = RC4 ∧ yC4_takesTold.cls ≠ "java/lang/invoke/MethodHandle" ∧ yC4_takesTold.cls ≠ "java/lang/invoke/VarHandle" ∧ (parseMethodDescriptor yC4_takesTold.desc).map (fun d => d.parameters.length) = some 3 := by decide +kernel
theorem hdC4_takes : yC4_takes.cls = RC4 ∧ yC4_takes.cls ≠ "java/lang/invoke/MethodHandle" ∧ yC4_takes.cls ≠ "java/lang/invoke/VarHandle" ∧ (parseMethodDescriptor yC4_takes.desc).map (fun d => d.parameters.length) = some 3 := by decide +kernel
theorem hdC4_applies : yC4_applies.cls = RC4 ∧ yC4_applies.cls ≠ "java/lang/invoke/MethodHandle" ∧ yC4_applies.cls ≠ "java/lang/invoke/VarHandle" ∧ (parseMethodDescriptor yC4_applies.desc).map (fun d => d.parameters.length) = some 2 := by decide +kernel
theorem hdC4_findApplying : yC4_findApplying.cls = RC4 ∧ yC4_findApplying.cls ≠ "java/lang/invoke/MethodHandle" ∧ yC4_findApplying.cls ≠ "java/lang/invoke/VarHandle" ∧ (parseMethodDescriptor yC4_findApplying.desc).map (fun d => d.parameters.length) = some 1 := by decide +kernel
theorem hdC4_decide : yC4_decide.cls = RC4 ∧ yC4_decide.cls ≠ "java/lang/invoke/MethodHandle" ∧ yC4_decide.cls ≠ "java/lang/invoke/VarHandle" ∧ (parseMethodDescriptor yC4_decide.desc).map (fun d => d.parameters.length) = some 3 := by decide +kernel
theorem hdC0_choose : yC0_choose.cls = RC0 ∧ yC0_choose.cls ≠ "java/lang/invoke/MethodHandle" ∧ yC0_choose.cls ≠ "java/lang/invoke/VarHandle" ∧ (parseMethodDescriptor yC0_choose.desc).map (fun d => d.parameters.length) = some 4 := by decide +kernel
theorem hdC4_phaseReached : yC4_phaseReached.cls = RC4 ∧ yC4_phaseReached.cls ≠ "java/lang/invoke/MethodHandle" ∧ yC4_phaseReached.cls ≠ "java/lang/invoke/VarHandle" ∧ (parseMethodDescriptor yC4_phaseReached.desc).map (fun d => d.parameters.length) = some 0 := by decide +kernel
theorem hdC0_phase : yC0_phase.cls = RC0 ∧ yC0_phase.cls ≠ "java/lang/invoke/MethodHandle" ∧ yC0_phase.cls ≠ "java/lang/invoke/VarHandle" ∧ (parseMethodDescriptor yC0_phase.desc).map (fun d => d.parameters.length) = some 0 := by decide +kernel
theorem hdC4_applyingAt : yC4_applyingAt.cls = RC4 ∧ yC4_applyingAt.cls ≠ "java/lang/invoke/MethodHandle" ∧ yC4_applyingAt.cls ≠ "java/lang/invoke/VarHandle" ∧ (parseMethodDescriptor yC4_applyingAt.desc).map (fun d => d.parameters.length) = some 1 := by decide +kernel
theorem hdC0_applied : yC0_applied.cls = RC0 ∧ yC0_applied.cls ≠ "java/lang/invoke/MethodHandle" ∧ yC0_applied.cls ≠ "java/lang/invoke/VarHandle" ∧ (parseMethodDescriptor yC0_applied.desc).map (fun d => d.parameters.length) = some 1 := by decide +kernel
theorem hdC4_didApply : yC4_didApply.cls = RC4 ∧ yC4_didApply.cls ≠ "java/lang/invoke/MethodHandle" ∧ yC4_didApply.cls ≠ "java/lang/invoke/VarHandle" ∧ (parseMethodDescriptor yC4_didApply.desc).map (fun d => d.parameters.length) = some 1 := by decide +kernel
theorem hdC4_compared : yC4_compared.cls = RC4 ∧ yC4_compared.cls ≠ "java/lang/invoke/MethodHandle" ∧ yC4_compared.cls ≠ "java/lang/invoke/VarHandle" ∧ (parseMethodDescriptor yC4_compared.desc).map (fun d => d.parameters.length) = some 2 := by decide +kernel
theorem hdC0_special : yC0_special.cls = RC0 ∧ yC0_special.cls ≠ "java/lang/invoke/MethodHandle" ∧ yC0_special.cls ≠ "java/lang/invoke/VarHandle" ∧ (parseMethodDescriptor yC0_special.desc).map (fun d => d.parameters.length) = some 2 := by decide +kernel
theorem hdC2_size : yC2_size.cls = RC2 ∧ yC2_size.cls ≠ "java/lang/invoke/MethodHandle" ∧ yC2_size.cls ≠ "java/lang/invoke/VarHandle" ∧ (parseMethodDescriptor yC2_size.desc).map (fun d => d.parameters.length) = some 0 := by decide +kernel
theorem hdC0_count : yC0_count.cls = RC0 ∧ yC0_count.cls ≠ "java/lang/invoke/MethodHandle" ∧ yC0_count.cls ≠ "java/lang/invoke/VarHandle" ∧ (parseMethodDescriptor yC0_count.desc).map (fun d => d.parameters.length) = some 1 := by decide +kernel
theorem hdCM_forgetFunctions : yCM_forgetFunctions.cls = RCM ∧ yCM_forgetFunctions.cls ≠ "java/lang/invoke/MethodHandle" ∧ yCM_forgetFunctions.cls ≠ "java/lang/invoke/VarHandle" ∧ (parseMethodDescriptor yCM_forgetFunctions.desc).map (fun d => d.parameters.length) = some 0 := by decide +kernel
theorem hdCM_closeTypes : yCM_closeTypes.cls = RCM ∧ yCM_closeTypes.cls ≠ "java/lang/invoke/MethodHandle" ∧ yCM_closeTypes.cls ≠ "java/lang/invoke/VarHandle" ∧ (parseMethodDescriptor yCM_closeTypes.desc).map (fun d => d.parameters.length) = some 0 := by decide +kernel
theorem hdCM_isTold : yCM_isTold.cls = RCM ∧ yCM_isTold.cls ≠ "java/lang/invoke/MethodHandle" ∧ yCM_isTold.cls ≠ "java/lang/invoke/VarHandle" ∧ (parseMethodDescriptor yCM_isTold.desc).map (fun d => d.parameters.length) = some 1 := by decide +kernel
theorem hdCM_cls : yCM_cls.cls = RCM ∧ yCM_cls.cls ≠ "java/lang/invoke/MethodHandle" ∧ yCM_cls.cls ≠ "java/lang/invoke/VarHandle" ∧ (parseMethodDescriptor yCM_cls.desc).map (fun d => d.parameters.length) = some 1 := by decide +kernel
theorem hdCM_face : yCM_face.cls = RCM ∧ yCM_face.cls ≠ "java/lang/invoke/MethodHandle" ∧ yCM_face.cls ≠ "java/lang/invoke/VarHandle" ∧ (parseMethodDescriptor yCM_face.desc).map (fun d => d.parameters.length) = some 0 := by decide +kernel
theorem hdCM_below : yCM_below.cls = RCM ∧ yCM_below.cls ≠ "java/lang/invoke/MethodHandle" ∧ yCM_below.cls ≠ "java/lang/invoke/VarHandle" ∧ (parseMethodDescriptor yCM_below.desc).map (fun d => d.parameters.length) = some 2 := by decide +kernel
theorem hdCM_isPlain : yCM_isPlain.cls = RCM ∧ yCM_isPlain.cls ≠ "java/lang/invoke/MethodHandle" ∧ yCM_isPlain.cls ≠ "java/lang/invoke/VarHandle" ∧ (parseMethodDescriptor yCM_isPlain.desc).map (fun d => d.parameters.length) = some 1 := by decide +kernel
theorem hdCM_isType : yCM_isType.cls = RCM ∧ yCM_isType.cls ≠ "java/lang/invoke/MethodHandle" ∧ yCM_isType.cls ≠ "java/lang/invoke/VarHandle" ∧ (parseMethodDescriptor yCM_isType.desc).map (fun d => d.parameters.length) = some 1 := by decide +kernel
theorem hdCM_isPrimitive : yCM_isPrimitive.cls ≠ "java/lang/invoke/MethodHandle" ∧ yCM_isPrimitive.cls ≠ "java/lang/invoke/VarHandle" ∧ (parseMethodDescriptor yCM_isPrimitive.desc).map (fun d => d.parameters.length) = some 1 := by decide +kernel
theorem hdCM_plainIs : yCM_plainIs.cls = RCM ∧ yCM_plainIs.cls ≠ "java/lang/invoke/MethodHandle" ∧ yCM_plainIs.cls ≠ "java/lang/invoke/VarHandle" ∧ (parseMethodDescriptor yCM_plainIs.desc).map (fun d => d.parameters.length) = some 2 := by decide +kernel
theorem hdCM_isIt : yCM_isIt.cls = RCM ∧ yCM_isIt.cls ≠ "java/lang/invoke/MethodHandle" ∧ yCM_isIt.cls ≠ "java/lang/invoke/VarHandle" ∧ (parseMethodDescriptor yCM_isIt.desc).map (fun d => d.parameters.length) = some 2 := by decide +kernel
theorem hdCM_is : yCM_is.cls = RCM ∧ yCM_is.cls ≠ "java/lang/invoke/MethodHandle" ∧ yCM_is.cls ≠ "java/lang/invoke/VarHandle" ∧ (parseMethodDescriptor yCM_is.desc).map (fun d => d.parameters.length) = some 2 := by decide +kernel
theorem hdCM_isBox : yCM_isBox.cls ≠ "java/lang/invoke/MethodHandle" ∧ yCM_isBox.cls ≠ "java/lang/invoke/VarHandle" ∧ (parseMethodDescriptor yCM_isBox.desc).map (fun d => d.parameters.length) = some 1 := by decide +kernel
theorem hdCM_fitsIt : yCM_fitsIt.cls = RCM ∧ yCM_fitsIt.cls ≠ "java/lang/invoke/MethodHandle" ∧ yCM_fitsIt.cls ≠ "java/lang/invoke/VarHandle" ∧ (parseMethodDescriptor yCM_fitsIt.desc).map (fun d => d.parameters.length) = some 2 := by decide +kernel
theorem hdCM_fits : yCM_fits.cls = RCM ∧ yCM_fits.cls ≠ "java/lang/invoke/MethodHandle" ∧ yCM_fits.cls ≠ "java/lang/invoke/VarHandle" ∧ (parseMethodDescriptor yCM_fits.desc).map (fun d => d.parameters.length) = some 2 := by decide +kernel
theorem hdCM_parameter : yCM_parameter.cls ≠ "java/lang/invoke/MethodHandle" ∧ yCM_parameter.cls ≠ "java/lang/invoke/VarHandle" ∧ (parseMethodDescriptor yCM_parameter.desc).map (fun d => d.parameters.length) = some 5 := by decide +kernel
theorem hdCM_isValue : yCM_isValue.cls = RCM ∧ yCM_isValue.cls ≠ "java/lang/invoke/MethodHandle" ∧ yCM_isValue.cls ≠ "java/lang/invoke/VarHandle" ∧ (parseMethodDescriptor yCM_isValue.desc).map (fun d => d.parameters.length) = some 1 := by decide +kernel
theorem hdCM_isName : yCM_isName.cls ≠ "java/lang/invoke/MethodHandle" ∧ yCM_isName.cls ≠ "java/lang/invoke/VarHandle" ∧ (parseMethodDescriptor yCM_isName.desc).map (fun d => d.parameters.length) = some 1 := by decide +kernel
theorem hdCM_member : yCM_member.cls = RCM ∧ yCM_member.cls ≠ "java/lang/invoke/MethodHandle" ∧ yCM_member.cls ≠ "java/lang/invoke/VarHandle" ∧ (parseMethodDescriptor yCM_member.desc).map (fun d => d.parameters.length) = some 9 := by decide +kernel
theorem hdCM_has : yCM_has.cls = RCM ∧ yCM_has.cls ≠ "java/lang/invoke/MethodHandle" ∧ yCM_has.cls ≠ "java/lang/invoke/VarHandle" ∧ (parseMethodDescriptor yCM_has.desc).map (fun d => d.parameters.length) = some 2 := by decide +kernel
theorem hdCM_sameParams : yCM_sameParams.cls = RCM ∧ yCM_sameParams.cls ≠ "java/lang/invoke/MethodHandle" ∧ yCM_sameParams.cls ≠ "java/lang/invoke/VarHandle" ∧ (parseMethodDescriptor yCM_sameParams.desc).map (fun d => d.parameters.length) = some 2 := by decide +kernel
theorem hdCM_isSeen : yCM_isSeen.cls = RCM ∧ yCM_isSeen.cls ≠ "java/lang/invoke/MethodHandle" ∧ yCM_isSeen.cls ≠ "java/lang/invoke/VarHandle" ∧ (parseMethodDescriptor yCM_isSeen.desc).map (fun d => d.parameters.length) = some 3 := by decide +kernel
theorem hdCM_findFunction : yCM_findFunction.cls = RCM ∧ yCM_findFunction.cls ≠ "java/lang/invoke/MethodHandle" ∧ yCM_findFunction.cls ≠ "java/lang/invoke/VarHandle" ∧ (parseMethodDescriptor yCM_findFunction.desc).map (fun d => d.parameters.length) = some 1 := by decide +kernel
theorem hdCM_functionOf : yCM_functionOf.cls = RCM ∧ yCM_functionOf.cls ≠ "java/lang/invoke/MethodHandle" ∧ yCM_functionOf.cls ≠ "java/lang/invoke/VarHandle" ∧ (parseMethodDescriptor yCM_functionOf.desc).map (fun d => d.parameters.length) = some 1 := by decide +kernel
theorem hdCM_function : yCM_function.cls = RCM ∧ yCM_function.cls ≠ "java/lang/invoke/MethodHandle" ∧ yCM_function.cls ≠ "java/lang/invoke/VarHandle" ∧ (parseMethodDescriptor yCM_function.desc).map (fun d => d.parameters.length) = some 1 := by decide +kernel
theorem hdCM_isAsked : yCM_isAsked.cls = RCM ∧ yCM_isAsked.cls ≠ "java/lang/invoke/MethodHandle" ∧ yCM_isAsked.cls ≠ "java/lang/invoke/VarHandle" ∧ (parseMethodDescriptor yCM_isAsked.desc).map (fun d => d.parameters.length) = some 3 := by decide +kernel
theorem hdCM_seen : yCM_seen.cls = RCM ∧ yCM_seen.cls ≠ "java/lang/invoke/MethodHandle" ∧ yCM_seen.cls ≠ "java/lang/invoke/VarHandle" ∧ (parseMethodDescriptor yCM_seen.desc).map (fun d => d.parameters.length) = some 3 := by decide +kernel
theorem hdCM_seenAt : yCM_seenAt.cls = RCM ∧ yCM_seenAt.cls ≠ "java/lang/invoke/MethodHandle" ∧ yCM_seenAt.cls ≠ "java/lang/invoke/VarHandle" ∧ (parseMethodDescriptor yCM_seenAt.desc).map (fun d => d.parameters.length) = some 4 := by decide +kernel
theorem hdCM_argument : yCM_argument.cls = RCM ∧ yCM_argument.cls ≠ "java/lang/invoke/MethodHandle" ∧ yCM_argument.cls ≠ "java/lang/invoke/VarHandle" ∧ (parseMethodDescriptor yCM_argument.desc).map (fun d => d.parameters.length) = some 1 := by decide +kernel
theorem hdCM_lambda : yCM_lambda.cls = RCM ∧ yCM_lambda.cls ≠ "java/lang/invoke/MethodHandle" ∧ yCM_lambda.cls ≠ "java/lang/invoke/VarHandle" ∧ (parseMethodDescriptor yCM_lambda.desc).map (fun d => d.parameters.length) = some 5 := by decide +kernel
theorem hdCM_wipe : yCM_wipe.cls = RCM ∧ yCM_wipe.cls ≠ "java/lang/invoke/MethodHandle" ∧ yCM_wipe.cls ≠ "java/lang/invoke/VarHandle" ∧ (parseMethodDescriptor yCM_wipe.desc).map (fun d => d.parameters.length) = some 0 := by decide +kernel
theorem hdCM_mostSpecial : yCM_mostSpecial.cls = RCM ∧ yCM_mostSpecial.cls ≠ "java/lang/invoke/MethodHandle" ∧ yCM_mostSpecial.cls ≠ "java/lang/invoke/VarHandle" ∧ (parseMethodDescriptor yCM_mostSpecial.desc).map (fun d => d.parameters.length) = some 0 := by decide +kernel
theorem hdCM_typeAt : yCM_typeAt.cls = RCM ∧ yCM_typeAt.cls ≠ "java/lang/invoke/MethodHandle" ∧ yCM_typeAt.cls ≠ "java/lang/invoke/VarHandle" ∧ (parseMethodDescriptor yCM_typeAt.desc).map (fun d => d.parameters.length) = some 3 := by decide +kernel
theorem hdCM_isFiner : yCM_isFiner.cls = RCM ∧ yCM_isFiner.cls ≠ "java/lang/invoke/MethodHandle" ∧ yCM_isFiner.cls ≠ "java/lang/invoke/VarHandle" ∧ (parseMethodDescriptor yCM_isFiner.desc).map (fun d => d.parameters.length) = some 3 := by decide +kernel
theorem hdCM_isSpecial : yCM_isSpecial.cls = RCM ∧ yCM_isSpecial.cls ≠ "java/lang/invoke/MethodHandle" ∧ yCM_isSpecial.cls ≠ "java/lang/invoke/VarHandle" ∧ (parseMethodDescriptor yCM_isSpecial.desc).map (fun d => d.parameters.length) = some 2 := by decide +kernel
theorem hdCM_hasShape : yCM_hasShape.cls = RCM ∧ yCM_hasShape.cls ≠ "java/lang/invoke/MethodHandle" ∧ yCM_hasShape.cls ≠ "java/lang/invoke/VarHandle" ∧ (parseMethodDescriptor yCM_hasShape.desc).map (fun d => d.parameters.length) = some 2 := by decide +kernel
theorem hdCM_passes : yCM_passes.cls = RCM ∧ yCM_passes.cls ≠ "java/lang/invoke/MethodHandle" ∧ yCM_passes.cls ≠ "java/lang/invoke/VarHandle" ∧ (parseMethodDescriptor yCM_passes.desc).map (fun d => d.parameters.length) = some 3 := by decide +kernel
theorem hdCM_takes : yCM_takes.cls = RCM ∧ yCM_takes.cls ≠ "java/lang/invoke/MethodHandle" ∧ yCM_takes.cls ≠ "java/lang/invoke/VarHandle" ∧ (parseMethodDescriptor yCM_takes.desc).map (fun d => d.parameters.length) = some 3 := by decide +kernel
theorem hdCM_doesApply : yCM_doesApply.cls = RCM ∧ yCM_doesApply.cls ≠ "java/lang/invoke/MethodHandle" ∧ yCM_doesApply.cls ≠ "java/lang/invoke/VarHandle" ∧ (parseMethodDescriptor yCM_doesApply.desc).map (fun d => d.parameters.length) = some 2 := by decide +kernel
theorem hdCM_isMeant : yCM_isMeant.cls = RCM ∧ yCM_isMeant.cls ≠ "java/lang/invoke/MethodHandle" ∧ yCM_isMeant.cls ≠ "java/lang/invoke/VarHandle" ∧ (parseMethodDescriptor yCM_isMeant.desc).map (fun d => d.parameters.length) = some 1 := by decide +kernel
theorem hdCM_choose : yCM_choose.cls = RCM ∧ yCM_choose.cls ≠ "java/lang/invoke/MethodHandle" ∧ yCM_choose.cls ≠ "java/lang/invoke/VarHandle" ∧ (parseMethodDescriptor yCM_choose.desc).map (fun d => d.parameters.length) = some 4 := by decide +kernel
theorem hdCM_phase : yCM_phase.cls = RCM ∧ yCM_phase.cls ≠ "java/lang/invoke/MethodHandle" ∧ yCM_phase.cls ≠ "java/lang/invoke/VarHandle" ∧ (parseMethodDescriptor yCM_phase.desc).map (fun d => d.parameters.length) = some 0 := by decide +kernel
theorem hdCM_applied : yCM_applied.cls = RCM ∧ yCM_applied.cls ≠ "java/lang/invoke/MethodHandle" ∧ yCM_applied.cls ≠ "java/lang/invoke/VarHandle" ∧ (parseMethodDescriptor yCM_applied.desc).map (fun d => d.parameters.length) = some 1 := by decide +kernel
theorem hdCM_special : yCM_special.cls = RCM ∧ yCM_special.cls ≠ "java/lang/invoke/MethodHandle" ∧ yCM_special.cls ≠ "java/lang/invoke/VarHandle" ∧ (parseMethodDescriptor yCM_special.desc).map (fun d => d.parameters.length) = some 2 := by decide +kernel
theorem hdCM_count : yCM_count.cls = RCM ∧ yCM_count.cls ≠ "java/lang/invoke/MethodHandle" ∧ yCM_count.cls ≠ "java/lang/invoke/VarHandle" ∧ (parseMethodDescriptor yCM_count.desc).map (fun d => d.parameters.length) = some 1 := by decide +kernel
theorem tb_1 : ∀ w ∈ tables_1_1, w ∈ lw_tbl := fun w h => List.mem_append_right _ (List.mem_append_left _ h)
theorem tb_2 : ∀ w ∈ tables_1_2, w ∈ lw_tbl := fun w h => List.mem_append_right _ (List.mem_append_right _ (List.mem_append_left _ h))
theorem tb_3 : ∀ w ∈ tables_1_3, w ∈ lw_tbl := fun w h => List.mem_append_right _ (List.mem_append_right _ (List.mem_append_right _ (List.mem_append_left _ h)))
theorem tb_4 : ∀ w ∈ tables_1_4, w ∈ lw_tbl := fun w h => List.mem_append_right _ (List.mem_append_right _ (List.mem_append_right _ (List.mem_append_right _ (h))))
theorem ps_1 : ∀ w ∈ k2_sels lw_privs_1, w ∈ lw_tbl := fun w h => List.mem_append_left _ (by
  obtain ⟨q, hq, rfl⟩ := List.mem_map.mp h
  exact List.mem_map.mpr ⟨q, (List.mem_append_left _ hq), rfl⟩)
theorem ps_2 : ∀ w ∈ k2_sels lw_privs_2, w ∈ lw_tbl := fun w h => List.mem_append_left _ (by
  obtain ⟨q, hq, rfl⟩ := List.mem_map.mp h
  exact List.mem_map.mpr ⟨q, (List.mem_append_right _ (List.mem_append_left _ hq)), rfl⟩)
theorem ps_3 : ∀ w ∈ k2_sels lw_privs_3, w ∈ lw_tbl := fun w h => List.mem_append_left _ (by
  obtain ⟨q, hq, rfl⟩ := List.mem_map.mp h
  exact List.mem_map.mpr ⟨q, (List.mem_append_right _ (List.mem_append_right _ (hq))), rfl⟩)
theorem mw_0 : .fieldLink RC0 10 "MemberChoice" "types" "LMemberChoice$Types;" ∈ wAll := wa (tb_1 _ (List.mem_of_getElem? (i := 161) rfl)) rfl
theorem mw_1 : .fieldLink RC1 32 "MemberChoice$Types" "told" "I" ∈ wAll := wa (tb_1 _ (List.mem_of_getElem? (i := 46) rfl)) rfl
theorem mw_2 : .fieldLink RC1 21 "MemberChoice$Types" "above" "[J" ∈ wAll := wa (tb_1 _ (List.mem_of_getElem? (i := 43) rfl)) rfl
theorem mw_3 : .fieldLink RC1 28 "MemberChoice$Types" "interfaces" "[Z" ∈ wAll := wa (tb_1 _ (List.mem_of_getElem? (i := 45) rfl)) rfl
theorem mw_4 : .methodLink RC0 52 yC1_add ∈ wAll := wa (tb_1 _ (List.mem_of_getElem? (i := 190) rfl)) rfl
theorem mw_5 : .instanceMethod yC1_add ∈ wAll := wa (tb_1 _ (List.mem_of_getElem? (i := 191) rfl)) rfl
theorem mw_6 : .selects RC1 yC1_add yC1_add ∈ wAll := wa (tb_1 _ (List.mem_of_getElem? (i := 192) rfl)) rfl
theorem mw_7 : .initialized RC1 ∈ wAll := wa (tb_1 _ (List.mem_of_getElem? (i := 2) rfl)) rfl
theorem mw_8 : .code yC1_add cC1_add 4 (some .int) ∈ wAll := wa (tb_1 _ (List.mem_of_getElem? (i := 193) rfl)) rfl
theorem mw_9 : .methodLink RC0 45 yC1_isTold ∈ wAll := wa (tb_1 _ (List.mem_of_getElem? (i := 181) rfl)) rfl
theorem mw_10 : .instanceMethod yC1_isTold ∈ wAll := wa (tb_1 _ (List.mem_of_getElem? (i := 182) rfl)) rfl
theorem mw_11 : .selects RC1 yC1_isTold yC1_isTold ∈ wAll := wa (tb_1 _ (List.mem_of_getElem? (i := 183) rfl)) rfl
theorem mw_12 : .code yC1_isTold cC1_isTold 2 (some .boolean) ∈ wAll := wa (tb_1 _ (List.mem_of_getElem? (i := 184) rfl)) rfl
theorem mw_13 : .methodLink RC1 36 yC1_isTold ∈ wAll := wa (tb_1 _ (List.mem_of_getElem? (i := 189) rfl)) rfl
theorem mw_14 : .methodLink RC0 49 yC1_isInterface ∈ wAll := wa (tb_1 _ (List.mem_of_getElem? (i := 185) rfl)) rfl
theorem mw_15 : .instanceMethod yC1_isInterface ∈ wAll := wa (tb_1 _ (List.mem_of_getElem? (i := 186) rfl)) rfl
theorem mw_16 : .selects RC1 yC1_isInterface yC1_isInterface ∈ wAll := wa (tb_1 _ (List.mem_of_getElem? (i := 187) rfl)) rfl
theorem mw_17 : .code yC1_isInterface cC1_isInterface 2 (some .boolean) ∈ wAll := wa (tb_1 _ (List.mem_of_getElem? (i := 188) rfl)) rfl
theorem mw_18 : .methodLink RC1 49 yC1_isInterface ∈ wAll := wa (tb_1 _ (List.mem_of_getElem? (i := 206) rfl)) rfl
theorem mw_19 : .fieldLink RC1 24 "MemberChoice$Types" "toldFaces" "[I" ∈ wAll := wa (tb_1 _ (List.mem_of_getElem? (i := 44) rfl)) rfl
theorem mw_20 : .constant RJI 265 1431655765 ∈ wAll := wa (tb_1 _ (List.mem_of_getElem? (i := 210) rfl)) rfl
theorem mw_21 : .constant RJI 266 858993459 ∈ wAll := wa (tb_1 _ (List.mem_of_getElem? (i := 211) rfl)) rfl
theorem mw_22 : .constant RJI 267 252645135 ∈ wAll := wa (tb_1 _ (List.mem_of_getElem? (i := 212) rfl)) rfl
theorem mw_23 : .methodLink RC1 52 yJI_bitCount ∈ wAll := wa (tb_1 _ (List.mem_of_getElem? (i := 207) rfl)) rfl
theorem mw_24 : .static yJI_bitCount ∈ wAll := wa (tb_1 _ (List.mem_of_getElem? (i := 208) rfl)) rfl
theorem mw_25 : .initialized RJI ∈ wAll := wa (tb_1 _ (List.mem_of_getElem? (i := 10) rfl)) rfl
theorem mw_26 : .code yJI_bitCount cJI_bitCount 1 (some .int) ∈ wAll := wa (tb_1 _ (List.mem_of_getElem? (i := 209) rfl)) rfl
theorem mw_27 : .methodLink RC1 58 yC1_isA ∈ wAll := wa (tb_1 _ (List.mem_of_getElem? (i := 213) rfl)) rfl
theorem mw_28 : .instanceMethod yC1_isA ∈ wAll := wa (tb_1 _ (List.mem_of_getElem? (i := 214) rfl)) rfl
theorem mw_29 : .selects RC1 yC1_isA yC1_isA ∈ wAll := wa (tb_1 _ (List.mem_of_getElem? (i := 215) rfl)) rfl
theorem mw_30 : .code yC1_isA cC1_isA 6 (some .boolean) ∈ wAll := wa (tb_1 _ (List.mem_of_getElem? (i := 216) rfl)) rfl
theorem mw_31 : .methodLink RC0 56 yC1_putBelow ∈ wAll := wa (tb_1 _ (List.mem_of_getElem? (i := 202) rfl)) rfl
theorem mw_32 : .instanceMethod yC1_putBelow ∈ wAll := wa (tb_1 _ (List.mem_of_getElem? (i := 203) rfl)) rfl
theorem mw_33 : .selects RC1 yC1_putBelow yC1_putBelow ∈ wAll := wa (tb_1 _ (List.mem_of_getElem? (i := 204) rfl)) rfl
theorem mw_34 : .code yC1_putBelow cC1_putBelow 7 (some .int) ∈ wAll := wa (tb_1 _ (List.mem_of_getElem? (i := 205) rfl)) rfl
theorem mw_35 : .fieldLink RC0 21 "MemberChoice" "members" "LMemberChoice$Members;" ∈ wAll := wa (tb_1 _ (List.mem_of_getElem? (i := 162) rfl)) rfl
theorem mw_36 : .fieldLink RC2 121 "MemberChoice$Members" "functionsSettled" "Z" ∈ wAll := wa (tb_1 _ (List.mem_of_getElem? (i := 76) rfl)) rfl
theorem mw_37 : .methodLink RC0 60 yC2_forgetFunctions ∈ wAll := wa (tb_1 _ (List.mem_of_getElem? (i := 217) rfl)) rfl
theorem mw_38 : .instanceMethod yC2_forgetFunctions ∈ wAll := wa (tb_1 _ (List.mem_of_getElem? (i := 218) rfl)) rfl
theorem mw_39 : .selects RC2 yC2_forgetFunctions yC2_forgetFunctions ∈ wAll := wa (tb_1 _ (List.mem_of_getElem? (i := 219) rfl)) rfl
theorem mw_40 : .initialized RC2 ∈ wAll := wa (tb_1 _ (List.mem_of_getElem? (i := 6) rfl)) rfl
theorem mw_41 : .code yC2_forgetFunctions cC2_forgetFunctions 1 none ∈ wAll := wa (tb_1 _ (List.mem_of_getElem? (i := 220) rfl)) rfl
theorem mw_42 : .fieldLink RC2 15 "MemberChoice$Members" "owners" "[I" ∈ wAll := wa (tb_1 _ (List.mem_of_getElem? (i := 69) rfl)) rfl
theorem mw_43 : .fieldLink RC2 45 "MemberChoice$Members" "size" "I" ∈ wAll := wa (tb_1 _ (List.mem_of_getElem? (i := 77) rfl)) rfl
theorem mw_44 : .fieldLink RC2 19 "MemberChoice$Members" "names" "[I" ∈ wAll := wa (tb_1 _ (List.mem_of_getElem? (i := 70) rfl)) rfl
theorem mw_45 : .fieldLink RC2 22 "MemberChoice$Members" "marks" "[I" ∈ wAll := wa (tb_1 _ (List.mem_of_getElem? (i := 71) rfl)) rfl
theorem mw_46 : .fieldLink RC2 25 "MemberChoice$Members" "results" "[I" ∈ wAll := wa (tb_1 _ (List.mem_of_getElem? (i := 72) rfl)) rfl
theorem mw_47 : .methodLink RC0 63 yC2_draftHead ∈ wAll := wa (tb_1 _ (List.mem_of_getElem? (i := 225) rfl)) rfl
theorem mw_48 : .instanceMethod yC2_draftHead ∈ wAll := wa (tb_1 _ (List.mem_of_getElem? (i := 226) rfl)) rfl
theorem mw_49 : .selects RC2 yC2_draftHead yC2_draftHead ∈ wAll := wa (tb_1 _ (List.mem_of_getElem? (i := 227) rfl)) rfl
theorem mw_50 : .code yC2_draftHead cC2_draftHead 5 none ∈ wAll := wa (tb_1 _ (List.mem_of_getElem? (i := 228) rfl)) rfl
theorem mw_51 : .fieldLink RC2 28 "MemberChoice$Members" "widths" "[I" ∈ wAll := wa (tb_1 _ (List.mem_of_getElem? (i := 73) rfl)) rfl
theorem mw_52 : .fieldLink RC2 31 "MemberChoice$Members" "parameters" "[I" ∈ wAll := wa (tb_1 _ (List.mem_of_getElem? (i := 74) rfl)) rfl
theorem mw_53 : .methodLink RC0 67 yC2_draftParameters ∈ wAll := wa (tb_1 _ (List.mem_of_getElem? (i := 229) rfl)) rfl
theorem mw_54 : .instanceMethod yC2_draftParameters ∈ wAll := wa (tb_1 _ (List.mem_of_getElem? (i := 230) rfl)) rfl
theorem mw_55 : .selects RC2 yC2_draftParameters yC2_draftParameters ∈ wAll := wa (tb_1 _ (List.mem_of_getElem? (i := 231) rfl)) rfl
theorem mw_56 : .code yC2_draftParameters cC2_draftParameters 7 none ∈ wAll := wa (tb_1 _ (List.mem_of_getElem? (i := 232) rfl)) rfl
theorem mw_57 : .fieldLink RC2 9 "MemberChoice$Members" "types" "LMemberChoice$Types;" ∈ wAll := wa (tb_1 _ (List.mem_of_getElem? (i := 68) rfl)) rfl
theorem mw_58 : .methodLink RC2 62 yC1_isTold ∈ wAll := wa (tb_2 _ (List.mem_of_getElem? (i := 1) rfl)) rfl
theorem mw_59 : .methodLink RC2 71 yC1_isInterface ∈ wAll := wa (tb_2 _ (List.mem_of_getElem? (i := 6) rfl)) rfl
theorem mw_60 : .methodLink RC2 77 yC2_isAbstract ∈ wAll := wa (tb_2 _ (List.mem_of_getElem? (i := 11) rfl)) rfl
theorem mw_61 : .instanceMethod yC2_isAbstract ∈ wAll := wa (tb_2 _ (List.mem_of_getElem? (i := 12) rfl)) rfl
theorem mw_62 : .selects RC2 yC2_isAbstract yC2_isAbstract ∈ wAll := wa (tb_2 _ (List.mem_of_getElem? (i := 13) rfl)) rfl
theorem mw_63 : .code yC2_isAbstract cC2_isAbstract 2 (some .boolean) ∈ wAll := wa (tb_2 _ (List.mem_of_getElem? (i := 14) rfl)) rfl
theorem mw_64 : .methodLink RC2 80 yC2_isStatic ∈ wAll := wa (tb_2 _ (List.mem_of_getElem? (i := 15) rfl)) rfl
theorem mw_65 : .instanceMethod yC2_isStatic ∈ wAll := wa (tb_2 _ (List.mem_of_getElem? (i := 16) rfl)) rfl
theorem mw_66 : .selects RC2 yC2_isStatic yC2_isStatic ∈ wAll := wa (tb_2 _ (List.mem_of_getElem? (i := 17) rfl)) rfl
theorem mw_67 : .code yC2_isStatic cC2_isStatic 2 (some .boolean) ∈ wAll := wa (tb_2 _ (List.mem_of_getElem? (i := 18) rfl)) rfl
theorem mw_68 : .methodLink RC2 74 yC2_isPrivate ∈ wAll := wa (tb_2 _ (List.mem_of_getElem? (i := 7) rfl)) rfl
theorem mw_69 : .instanceMethod yC2_isPrivate ∈ wAll := wa (tb_2 _ (List.mem_of_getElem? (i := 8) rfl)) rfl
theorem mw_70 : .selects RC2 yC2_isPrivate yC2_isPrivate ∈ wAll := wa (tb_2 _ (List.mem_of_getElem? (i := 9) rfl)) rfl
theorem mw_71 : .code yC2_isPrivate cC2_isPrivate 2 (some .boolean) ∈ wAll := wa (tb_2 _ (List.mem_of_getElem? (i := 10) rfl)) rfl
theorem mw_72 : .methodLink RC2 65 yC2_hasGoodMarks ∈ wAll := wa (tb_2 _ (List.mem_of_getElem? (i := 2) rfl)) rfl
theorem mw_73 : .instanceMethod yC2_hasGoodMarks ∈ wAll := wa (tb_2 _ (List.mem_of_getElem? (i := 4) rfl)) rfl
theorem mw_74 : .selects RC2 yC2_hasGoodMarks yC2_hasGoodMarks ∈ wAll := wa (ps_1 _ (List.mem_of_getElem? (i := 1) rfl)) rfl
theorem mw_75 : .code yC2_hasGoodMarks cC2_hasGoodMarks 3 (some .boolean) ∈ wAll := wa (tb_2 _ (List.mem_of_getElem? (i := 5) rfl)) rfl
theorem mw_76 : .methodLink RC1 40 yC1_isElement ∈ wAll := wa (tb_2 _ (List.mem_of_getElem? (i := 27) rfl)) rfl
theorem mw_77 : .instanceMethod yC1_isElement ∈ wAll := wa (tb_2 _ (List.mem_of_getElem? (i := 29) rfl)) rfl
theorem mw_78 : .selects RC1 yC1_isElement yC1_isElement ∈ wAll := wa (ps_1 _ (List.mem_of_getElem? (i := 2) rfl)) rfl
theorem mw_79 : .code yC1_isElement cC1_isElement 2 (some .boolean) ∈ wAll := wa (tb_2 _ (List.mem_of_getElem? (i := 30) rfl)) rfl
theorem mw_80 : .methodLink RC1 43 yC1_isArray ∈ wAll := wa (tb_2 _ (List.mem_of_getElem? (i := 31) rfl)) rfl
theorem mw_81 : .instanceMethod yC1_isArray ∈ wAll := wa (tb_2 _ (List.mem_of_getElem? (i := 32) rfl)) rfl
theorem mw_82 : .selects RC1 yC1_isArray yC1_isArray ∈ wAll := wa (tb_2 _ (List.mem_of_getElem? (i := 33) rfl)) rfl
theorem mw_83 : .code yC1_isArray cC1_isArray 2 (some .boolean) ∈ wAll := wa (tb_2 _ (List.mem_of_getElem? (i := 34) rfl)) rfl
theorem mw_84 : .methodLink RC1 46 yC1_canBeDeclared ∈ wAll := wa (tb_2 _ (List.mem_of_getElem? (i := 23) rfl)) rfl
theorem mw_85 : .instanceMethod yC1_canBeDeclared ∈ wAll := wa (tb_2 _ (List.mem_of_getElem? (i := 24) rfl)) rfl
theorem mw_86 : .selects RC1 yC1_canBeDeclared yC1_canBeDeclared ∈ wAll := wa (tb_2 _ (List.mem_of_getElem? (i := 25) rfl)) rfl
theorem mw_87 : .code yC1_canBeDeclared cC1_canBeDeclared 2 (some .boolean) ∈ wAll := wa (tb_2 _ (List.mem_of_getElem? (i := 26) rfl)) rfl
theorem mw_88 : .methodLink RC2 68 yC1_canBeResult ∈ wAll := wa (tb_2 _ (List.mem_of_getElem? (i := 19) rfl)) rfl
theorem mw_89 : .instanceMethod yC1_canBeResult ∈ wAll := wa (tb_2 _ (List.mem_of_getElem? (i := 20) rfl)) rfl
theorem mw_90 : .selects RC1 yC1_canBeResult yC1_canBeResult ∈ wAll := wa (tb_2 _ (List.mem_of_getElem? (i := 21) rfl)) rfl
theorem mw_91 : .code yC1_canBeResult cC1_canBeResult 2 (some .boolean) ∈ wAll := wa (tb_2 _ (List.mem_of_getElem? (i := 22) rfl)) rfl
theorem mw_92 : .methodLink RC2 49 yC2_hasGoodHead ∈ wAll := wa (tb_1 _ (List.mem_of_getElem? (i := 237) rfl)) rfl
theorem mw_93 : .instanceMethod yC2_hasGoodHead ∈ wAll := wa (tb_1 _ (List.mem_of_getElem? (i := 239) rfl)) rfl
theorem mw_94 : .selects RC2 yC2_hasGoodHead yC2_hasGoodHead ∈ wAll := wa (ps_1 _ (List.mem_of_getElem? (i := 0) rfl)) rfl
theorem mw_95 : .code yC2_hasGoodHead cC2_hasGoodHead 3 (some .boolean) ∈ wAll := wa (tb_2 _ (List.mem_of_getElem? (i := 0) rfl)) rfl
theorem mw_96 : .methodLink RC2 90 yC2_isVaried ∈ wAll := wa (tb_2 _ (List.mem_of_getElem? (i := 44) rfl)) rfl
theorem mw_97 : .instanceMethod yC2_isVaried ∈ wAll := wa (tb_2 _ (List.mem_of_getElem? (i := 45) rfl)) rfl
theorem mw_98 : .selects RC2 yC2_isVaried yC2_isVaried ∈ wAll := wa (tb_2 _ (List.mem_of_getElem? (i := 46) rfl)) rfl
theorem mw_99 : .code yC2_isVaried cC2_isVaried 2 (some .boolean) ∈ wAll := wa (tb_2 _ (List.mem_of_getElem? (i := 47) rfl)) rfl
theorem mw_100 : .methodLink RC2 83 yC2_parameterAt ∈ wAll := wa (tb_2 _ (List.mem_of_getElem? (i := 39) rfl)) rfl
theorem mw_101 : .instanceMethod yC2_parameterAt ∈ wAll := wa (tb_2 _ (List.mem_of_getElem? (i := 40) rfl)) rfl
theorem mw_102 : .selects RC2 yC2_parameterAt yC2_parameterAt ∈ wAll := wa (tb_2 _ (List.mem_of_getElem? (i := 41) rfl)) rfl
theorem mw_103 : .code yC2_parameterAt cC2_parameterAt 3 (some .int) ∈ wAll := wa (tb_2 _ (List.mem_of_getElem? (i := 42) rfl)) rfl
theorem mw_104 : .methodLink RC2 93 yC1_isArray ∈ wAll := wa (tb_2 _ (List.mem_of_getElem? (i := 48) rfl)) rfl
theorem mw_105 : .methodLink RC2 87 yC1_canBeDeclared ∈ wAll := wa (tb_2 _ (List.mem_of_getElem? (i := 43) rfl)) rfl
theorem mw_106 : .methodLink RC2 53 yC2_hasGoodParameters ∈ wAll := wa (tb_2 _ (List.mem_of_getElem? (i := 35) rfl)) rfl
theorem mw_107 : .instanceMethod yC2_hasGoodParameters ∈ wAll := wa (tb_2 _ (List.mem_of_getElem? (i := 37) rfl)) rfl
theorem mw_108 : .selects RC2 yC2_hasGoodParameters yC2_hasGoodParameters ∈ wAll := wa (ps_1 _ (List.mem_of_getElem? (i := 3) rfl)) rfl
theorem mw_109 : .code yC2_hasGoodParameters cC2_hasGoodParameters 3 (some .boolean) ∈ wAll := wa (tb_2 _ (List.mem_of_getElem? (i := 38) rfl)) rfl
theorem mw_110 : .methodLink RC2 96 yC2_sameParameters ∈ wAll := wa (tb_2 _ (List.mem_of_getElem? (i := 53) rfl)) rfl
theorem mw_111 : .instanceMethod yC2_sameParameters ∈ wAll := wa (tb_2 _ (List.mem_of_getElem? (i := 54) rfl)) rfl
theorem mw_112 : .selects RC2 yC2_sameParameters yC2_sameParameters ∈ wAll := wa (tb_2 _ (List.mem_of_getElem? (i := 55) rfl)) rfl
theorem mw_113 : .code yC2_sameParameters cC2_sameParameters 4 (some .boolean) ∈ wAll := wa (tb_2 _ (List.mem_of_getElem? (i := 56) rfl)) rfl
theorem mw_114 : .methodLink RC2 56 yC2_isToldTwice ∈ wAll := wa (tb_2 _ (List.mem_of_getElem? (i := 49) rfl)) rfl
theorem mw_115 : .instanceMethod yC2_isToldTwice ∈ wAll := wa (tb_2 _ (List.mem_of_getElem? (i := 51) rfl)) rfl
theorem mw_116 : .selects RC2 yC2_isToldTwice yC2_isToldTwice ∈ wAll := wa (ps_1 _ (List.mem_of_getElem? (i := 4) rfl)) rfl
theorem mw_117 : .code yC2_isToldTwice cC2_isToldTwice 3 (some .boolean) ∈ wAll := wa (tb_2 _ (List.mem_of_getElem? (i := 52) rfl)) rfl
theorem mw_118 : .methodLink RC2 59 yC2_forgetFunctions ∈ wAll := wa (tb_2 _ (List.mem_of_getElem? (i := 57) rfl)) rfl
theorem mw_119 : .methodLink RC0 71 yC2_keepDraft ∈ wAll := wa (tb_1 _ (List.mem_of_getElem? (i := 233) rfl)) rfl
theorem mw_120 : .instanceMethod yC2_keepDraft ∈ wAll := wa (tb_1 _ (List.mem_of_getElem? (i := 234) rfl)) rfl
theorem mw_121 : .selects RC2 yC2_keepDraft yC2_keepDraft ∈ wAll := wa (tb_1 _ (List.mem_of_getElem? (i := 235) rfl)) rfl
theorem mw_122 : .code yC2_keepDraft cC2_keepDraft 1 (some .int) ∈ wAll := wa (tb_1 _ (List.mem_of_getElem? (i := 236) rfl)) rfl
theorem mw_123 : .methodLink RC0 75 yC1_isType ∈ wAll := wa (tb_2 _ (List.mem_of_getElem? (i := 62) rfl)) rfl
theorem mw_124 : .instanceMethod yC1_isType ∈ wAll := wa (tb_2 _ (List.mem_of_getElem? (i := 63) rfl)) rfl
theorem mw_125 : .selects RC1 yC1_isType yC1_isType ∈ wAll := wa (tb_2 _ (List.mem_of_getElem? (i := 64) rfl)) rfl
theorem mw_126 : .code yC1_isType cC1_isType 2 (some .boolean) ∈ wAll := wa (tb_2 _ (List.mem_of_getElem? (i := 65) rfl)) rfl
theorem mw_127 : .methodLink RC1 62 yC1_isPrimitive ∈ wAll := wa (tb_2 _ (List.mem_of_getElem? (i := 70) rfl)) rfl
theorem mw_128 : .instanceMethod yC1_isPrimitive ∈ wAll := wa (tb_2 _ (List.mem_of_getElem? (i := 71) rfl)) rfl
theorem mw_129 : .selects RC1 yC1_isPrimitive yC1_isPrimitive ∈ wAll := wa (tb_2 _ (List.mem_of_getElem? (i := 72) rfl)) rfl
theorem mw_130 : .code yC1_isPrimitive cC1_isPrimitive 2 (some .boolean) ∈ wAll := wa (tb_2 _ (List.mem_of_getElem? (i := 73) rfl)) rfl
theorem mw_131 : .methodLink RC0 78 yC1_accepts ∈ wAll := wa (tb_2 _ (List.mem_of_getElem? (i := 66) rfl)) rfl
theorem mw_132 : .instanceMethod yC1_accepts ∈ wAll := wa (tb_2 _ (List.mem_of_getElem? (i := 67) rfl)) rfl
theorem mw_133 : .selects RC1 yC1_accepts yC1_accepts ∈ wAll := wa (tb_2 _ (List.mem_of_getElem? (i := 68) rfl)) rfl
theorem mw_134 : .code yC1_accepts cC1_accepts 5 (some .boolean) ∈ wAll := wa (tb_2 _ (List.mem_of_getElem? (i := 69) rfl)) rfl
theorem mw_135 : .methodLink RC2 125 yC1_size ∈ wAll := wa (tb_2 _ (List.mem_of_getElem? (i := 86) rfl)) rfl
theorem mw_136 : .instanceMethod yC1_size ∈ wAll := wa (tb_2 _ (List.mem_of_getElem? (i := 87) rfl)) rfl
theorem mw_137 : .selects RC1 yC1_size yC1_size ∈ wAll := wa (tb_2 _ (List.mem_of_getElem? (i := 88) rfl)) rfl
theorem mw_138 : .code yC1_size cC1_size 1 (some .int) ∈ wAll := wa (tb_2 _ (List.mem_of_getElem? (i := 89) rfl)) rfl
theorem mw_139 : .fieldLink RC2 36 "MemberChoice$Members" "functions" "[I" ∈ wAll := wa (tb_1 _ (List.mem_of_getElem? (i := 75) rfl)) rfl
theorem mw_140 : .methodLink RC2 112 yC1_isA ∈ wAll := wa (tb_2 _ (List.mem_of_getElem? (i := 98) rfl)) rfl
theorem mw_141 : .methodLink RC2 118 yC2_overrides ∈ wAll := wa (tb_2 _ (List.mem_of_getElem? (i := 103) rfl)) rfl
theorem mw_142 : .instanceMethod yC2_overrides ∈ wAll := wa (tb_2 _ (List.mem_of_getElem? (i := 105) rfl)) rfl
theorem mw_143 : .selects RC2 yC2_overrides yC2_overrides ∈ wAll := wa (ps_1 _ (List.mem_of_getElem? (i := 8) rfl)) rfl
theorem mw_144 : .code yC2_overrides cC2_overrides 4 (some .boolean) ∈ wAll := wa (tb_2 _ (List.mem_of_getElem? (i := 106) rfl)) rfl
theorem mw_145 : .methodLink RC2 115 yC2_isOverridden ∈ wAll := wa (tb_2 _ (List.mem_of_getElem? (i := 99) rfl)) rfl
theorem mw_146 : .instanceMethod yC2_isOverridden ∈ wAll := wa (tb_2 _ (List.mem_of_getElem? (i := 101) rfl)) rfl
theorem mw_147 : .selects RC2 yC2_isOverridden yC2_isOverridden ∈ wAll := wa (ps_1 _ (List.mem_of_getElem? (i := 7) rfl)) rfl
theorem mw_148 : .code yC2_isOverridden cC2_isOverridden 4 (some .boolean) ∈ wAll := wa (tb_2 _ (List.mem_of_getElem? (i := 102) rfl)) rfl
theorem mw_149 : .methodLink RC2 108 yC2_isSeen ∈ wAll := wa (tb_2 _ (List.mem_of_getElem? (i := 94) rfl)) rfl
theorem mw_150 : .instanceMethod yC2_isSeen ∈ wAll := wa (tb_2 _ (List.mem_of_getElem? (i := 96) rfl)) rfl
theorem mw_151 : .selects RC2 yC2_isSeen yC2_isSeen ∈ wAll := wa (ps_1 _ (List.mem_of_getElem? (i := 6) rfl)) rfl
theorem mw_152 : .code yC2_isSeen cC2_isSeen 4 (some .boolean) ∈ wAll := wa (tb_2 _ (List.mem_of_getElem? (i := 97) rfl)) rfl
theorem mw_153 : .methodLink RC2 128 yC2_findFunction ∈ wAll := wa (tb_2 _ (List.mem_of_getElem? (i := 90) rfl)) rfl
theorem mw_154 : .instanceMethod yC2_findFunction ∈ wAll := wa (tb_2 _ (List.mem_of_getElem? (i := 92) rfl)) rfl
theorem mw_155 : .selects RC2 yC2_findFunction yC2_findFunction ∈ wAll := wa (ps_1 _ (List.mem_of_getElem? (i := 5) rfl)) rfl
theorem mw_156 : .code yC2_findFunction cC2_findFunction 4 (some .int) ∈ wAll := wa (tb_2 _ (List.mem_of_getElem? (i := 93) rfl)) rfl
theorem mw_157 : .methodLink RC0 82 yC2_settleFunctions ∈ wAll := wa (tb_2 _ (List.mem_of_getElem? (i := 82) rfl)) rfl
theorem mw_158 : .instanceMethod yC2_settleFunctions ∈ wAll := wa (tb_2 _ (List.mem_of_getElem? (i := 83) rfl)) rfl
theorem mw_159 : .selects RC2 yC2_settleFunctions yC2_settleFunctions ∈ wAll := wa (tb_2 _ (List.mem_of_getElem? (i := 84) rfl)) rfl
theorem mw_160 : .code yC2_settleFunctions cC2_settleFunctions 3 none ∈ wAll := wa (tb_2 _ (List.mem_of_getElem? (i := 85) rfl)) rfl
theorem mw_161 : .methodLink RC0 85 yC2_functionOf ∈ wAll := wa (tb_2 _ (List.mem_of_getElem? (i := 107) rfl)) rfl
theorem mw_162 : .instanceMethod yC2_functionOf ∈ wAll := wa (tb_2 _ (List.mem_of_getElem? (i := 108) rfl)) rfl
theorem mw_163 : .selects RC2 yC2_functionOf yC2_functionOf ∈ wAll := wa (tb_2 _ (List.mem_of_getElem? (i := 109) rfl)) rfl
theorem mw_164 : .code yC2_functionOf cC2_functionOf 2 (some .int) ∈ wAll := wa (tb_2 _ (List.mem_of_getElem? (i := 110) rfl)) rfl
theorem mw_165 : .methodLink RC0 89 yC0_canBeAsked ∈ wAll := wa (tb_2 _ (List.mem_of_getElem? (i := 115) rfl)) rfl
theorem mw_166 : .instanceMethod yC0_canBeAsked ∈ wAll := wa (tb_2 _ (List.mem_of_getElem? (i := 117) rfl)) rfl
theorem mw_167 : .selects RC0 yC0_canBeAsked yC0_canBeAsked ∈ wAll := wa (ps_1 _ (List.mem_of_getElem? (i := 9) rfl)) rfl
theorem mw_168 : .initialized RC0 ∈ wAll := wa (tb_1 _ (List.mem_of_getElem? (i := 1) rfl)) rfl
theorem mw_169 : .code yC0_canBeAsked cC0_canBeAsked 4 (some .boolean) ∈ wAll := wa (tb_2 _ (List.mem_of_getElem? (i := 118) rfl)) rfl
theorem mw_170 : .fieldLink RC0 41 "MemberChoice" "seenRow" "[I" ∈ wAll := wa (tb_1 _ (List.mem_of_getElem? (i := 165) rfl)) rfl
theorem mw_171 : .methodLink RC0 93 yC2_listSeen ∈ wAll := wa (tb_2 _ (List.mem_of_getElem? (i := 119) rfl)) rfl
theorem mw_172 : .instanceMethod yC2_listSeen ∈ wAll := wa (tb_2 _ (List.mem_of_getElem? (i := 120) rfl)) rfl
theorem mw_173 : .selects RC2 yC2_listSeen yC2_listSeen ∈ wAll := wa (tb_2 _ (List.mem_of_getElem? (i := 121) rfl)) rfl
theorem mw_174 : .code yC2_listSeen cC2_listSeen 7 (some .int) ∈ wAll := wa (tb_2 _ (List.mem_of_getElem? (i := 122) rfl)) rfl
theorem mw_175 : .fieldLink RC0 28 "MemberChoice" "arguments" "LMemberChoice$Arguments;" ∈ wAll := wa (tb_1 _ (List.mem_of_getElem? (i := 163) rfl)) rfl
theorem mw_176 : .fieldLink RC3 28 "MemberChoice$Arguments" "size" "I" ∈ wAll := wa (tb_1 _ (List.mem_of_getElem? (i := 110) rfl)) rfl
theorem mw_177 : .fieldLink RC3 11 "MemberChoice$Arguments" "lambdas" "[Z" ∈ wAll := wa (tb_1 _ (List.mem_of_getElem? (i := 105) rfl)) rfl
theorem mw_178 : .fieldLink RC3 15 "MemberChoice$Arguments" "toldOnes" "[Z" ∈ wAll := wa (tb_1 _ (List.mem_of_getElem? (i := 106) rfl)) rfl
theorem mw_179 : .fieldLink RC3 18 "MemberChoice$Arguments" "values" "[I" ∈ wAll := wa (tb_1 _ (List.mem_of_getElem? (i := 107) rfl)) rfl
theorem mw_180 : .fieldLink RC3 22 "MemberChoice$Arguments" "widths" "[I" ∈ wAll := wa (tb_1 _ (List.mem_of_getElem? (i := 108) rfl)) rfl
theorem mw_181 : .methodLink RC0 97 yC3_addType ∈ wAll := wa (tb_2 _ (List.mem_of_getElem? (i := 131) rfl)) rfl
theorem mw_182 : .instanceMethod yC3_addType ∈ wAll := wa (tb_2 _ (List.mem_of_getElem? (i := 132) rfl)) rfl
theorem mw_183 : .selects RC3 yC3_addType yC3_addType ∈ wAll := wa (tb_2 _ (List.mem_of_getElem? (i := 133) rfl)) rfl
theorem mw_184 : .initialized RC3 ∈ wAll := wa (tb_1 _ (List.mem_of_getElem? (i := 7) rfl)) rfl
theorem mw_185 : .code yC3_addType cC3_addType 2 (some .int) ∈ wAll := wa (tb_2 _ (List.mem_of_getElem? (i := 134) rfl)) rfl
theorem mw_186 : .methodLink RC0 100 yC1_canBeResult ∈ wAll := wa (tb_2 _ (List.mem_of_getElem? (i := 139) rfl)) rfl
theorem mw_187 : .fieldLink RC3 25 "MemberChoice$Arguments" "parameters" "[I" ∈ wAll := wa (tb_1 _ (List.mem_of_getElem? (i := 109) rfl)) rfl
theorem mw_188 : .methodLink RC0 106 yC3_addLambda ∈ wAll := wa (tb_2 _ (List.mem_of_getElem? (i := 141) rfl)) rfl
theorem mw_189 : .instanceMethod yC3_addLambda ∈ wAll := wa (tb_2 _ (List.mem_of_getElem? (i := 142) rfl)) rfl
theorem mw_190 : .selects RC3 yC3_addLambda yC3_addLambda ∈ wAll := wa (tb_2 _ (List.mem_of_getElem? (i := 143) rfl)) rfl
theorem mw_191 : .code yC3_addLambda cC3_addLambda 6 (some .int) ∈ wAll := wa (tb_2 _ (List.mem_of_getElem? (i := 144) rfl)) rfl
theorem mw_192 : .methodLink RC0 103 yC1_canBeDeclared ∈ wAll := wa (tb_2 _ (List.mem_of_getElem? (i := 140) rfl)) rfl
theorem mw_193 : .methodLink RC0 110 yC3_clear ∈ wAll := wa (tb_2 _ (List.mem_of_getElem? (i := 149) rfl)) rfl
theorem mw_194 : .instanceMethod yC3_clear ∈ wAll := wa (tb_2 _ (List.mem_of_getElem? (i := 150) rfl)) rfl
theorem mw_195 : .selects RC3 yC3_clear yC3_clear ∈ wAll := wa (tb_2 _ (List.mem_of_getElem? (i := 151) rfl)) rfl
theorem mw_196 : .code yC3_clear cC3_clear 2 (some .int) ∈ wAll := wa (tb_2 _ (List.mem_of_getElem? (i := 152) rfl)) rfl
theorem mw_197 : .fieldLink RC0 37 "MemberChoice" "latest" "LMemberChoice$Choice;" ∈ wAll := wa (tb_1 _ (List.mem_of_getElem? (i := 164) rfl)) rfl
theorem mw_198 : .fieldLink RC4 36 "MemberChoice$Choice" "reached" "I" ∈ wAll := wa (tb_1 _ (List.mem_of_getElem? (i := 139) rfl)) rfl
theorem mw_199 : .fieldLink RC4 40 "MemberChoice$Choice" "applyingCount" "I" ∈ wAll := wa (tb_1 _ (List.mem_of_getElem? (i := 137) rfl)) rfl
theorem mw_200 : .fieldLink RC4 47 "MemberChoice$Choice" "applyingBits" "J" ∈ wAll := wa (tb_1 _ (List.mem_of_getElem? (i := 138) rfl)) rfl
theorem mw_201 : .methodLink RC4 51 yC4_forget ∈ wAll := wa (tb_2 _ (List.mem_of_getElem? (i := 161) rfl)) rfl
theorem mw_202 : .instanceMethod yC4_forget ∈ wAll := wa (tb_2 _ (List.mem_of_getElem? (i := 163) rfl)) rfl
theorem mw_203 : .selects RC4 yC4_forget yC4_forget ∈ wAll := wa (ps_1 _ (List.mem_of_getElem? (i := 10) rfl)) rfl
theorem mw_204 : .initialized RC4 ∈ wAll := wa (tb_1 _ (List.mem_of_getElem? (i := 8) rfl)) rfl
theorem mw_205 : .code yC4_forget cC4_forget 1 none ∈ wAll := wa (tb_2 _ (List.mem_of_getElem? (i := 164) rfl)) rfl
theorem mw_206 : .fieldLink RC4 15 "MemberChoice$Choice" "members" "LMemberChoice$Members;" ∈ wAll := wa (tb_1 _ (List.mem_of_getElem? (i := 131) rfl)) rfl
theorem mw_207 : .methodLink RC4 54 yC2_settleFunctions ∈ wAll := wa (tb_2 _ (List.mem_of_getElem? (i := 165) rfl)) rfl
theorem mw_208 : .fieldLink RC4 25 "MemberChoice$Choice" "candidates" "[I" ∈ wAll := wa (tb_1 _ (List.mem_of_getElem? (i := 133) rfl)) rfl
theorem mw_209 : .methodLink RC4 57 yC2_listSeen ∈ wAll := wa (tb_2 _ (List.mem_of_getElem? (i := 166) rfl)) rfl
theorem mw_210 : .fieldLink RC4 61 "MemberChoice$Choice" "candidateCount" "I" ∈ wAll := wa (tb_1 _ (List.mem_of_getElem? (i := 136) rfl)) rfl
theorem mw_211 : .methodLink RC4 94 yC2_isVaried ∈ wAll := wa (tb_2 _ (List.mem_of_getElem? (i := 175) rfl)) rfl
theorem mw_212 : .methodLink RC4 97 yC2_widthOf ∈ wAll := wa (tb_2 _ (List.mem_of_getElem? (i := 176) rfl)) rfl
theorem mw_213 : .instanceMethod yC2_widthOf ∈ wAll := wa (tb_2 _ (List.mem_of_getElem? (i := 177) rfl)) rfl
theorem mw_214 : .selects RC2 yC2_widthOf yC2_widthOf ∈ wAll := wa (tb_2 _ (List.mem_of_getElem? (i := 178) rfl)) rfl
theorem mw_215 : .code yC2_widthOf cC2_widthOf 2 (some .int) ∈ wAll := wa (tb_2 _ (List.mem_of_getElem? (i := 179) rfl)) rfl
theorem mw_216 : .fieldLink RC4 19 "MemberChoice$Choice" "arguments" "LMemberChoice$Arguments;" ∈ wAll := wa (tb_1 _ (List.mem_of_getElem? (i := 132) rfl)) rfl
theorem mw_217 : .methodLink RC4 101 yC3_size ∈ wAll := wa (tb_2 _ (List.mem_of_getElem? (i := 180) rfl)) rfl
theorem mw_218 : .instanceMethod yC3_size ∈ wAll := wa (tb_2 _ (List.mem_of_getElem? (i := 181) rfl)) rfl
theorem mw_219 : .selects RC3 yC3_size yC3_size ∈ wAll := wa (tb_2 _ (List.mem_of_getElem? (i := 182) rfl)) rfl
theorem mw_220 : .code yC3_size cC3_size 1 (some .int) ∈ wAll := wa (tb_2 _ (List.mem_of_getElem? (i := 183) rfl)) rfl
theorem mw_221 : .methodLink RC4 106 yC3_isLambda ∈ wAll := wa (tb_2 _ (List.mem_of_getElem? (i := 184) rfl)) rfl
theorem mw_222 : .instanceMethod yC3_isLambda ∈ wAll := wa (tb_2 _ (List.mem_of_getElem? (i := 185) rfl)) rfl
theorem mw_223 : .selects RC3 yC3_isLambda yC3_isLambda ∈ wAll := wa (tb_2 _ (List.mem_of_getElem? (i := 186) rfl)) rfl
theorem mw_224 : .code yC3_isLambda cC3_isLambda 2 (some .boolean) ∈ wAll := wa (tb_2 _ (List.mem_of_getElem? (i := 187) rfl)) rfl
theorem mw_225 : .methodLink RC2 100 yC1_elementOf ∈ wAll := wa (tb_2 _ (List.mem_of_getElem? (i := 192) rfl)) rfl
theorem mw_226 : .instanceMethod yC1_elementOf ∈ wAll := wa (tb_2 _ (List.mem_of_getElem? (i := 193) rfl)) rfl
theorem mw_227 : .selects RC1 yC1_elementOf yC1_elementOf ∈ wAll := wa (tb_2 _ (List.mem_of_getElem? (i := 194) rfl)) rfl
theorem mw_228 : .code yC1_elementOf cC1_elementOf 2 (some .int) ∈ wAll := wa (tb_2 _ (List.mem_of_getElem? (i := 195) rfl)) rfl
theorem mw_229 : .methodLink RC4 109 yC2_facing ∈ wAll := wa (tb_2 _ (List.mem_of_getElem? (i := 188) rfl)) rfl
theorem mw_230 : .instanceMethod yC2_facing ∈ wAll := wa (tb_2 _ (List.mem_of_getElem? (i := 189) rfl)) rfl
theorem mw_231 : .selects RC2 yC2_facing yC2_facing ∈ wAll := wa (tb_2 _ (List.mem_of_getElem? (i := 190) rfl)) rfl
theorem mw_232 : .code yC2_facing cC2_facing 5 (some .int) ∈ wAll := wa (tb_2 _ (List.mem_of_getElem? (i := 191) rfl)) rfl
theorem mw_233 : .methodLink RC4 116 yC2_functionOf ∈ wAll := wa (tb_2 _ (List.mem_of_getElem? (i := 200) rfl)) rfl
theorem mw_234 : .methodLink RC4 119 yC3_widthOf ∈ wAll := wa (tb_2 _ (List.mem_of_getElem? (i := 201) rfl)) rfl
theorem mw_235 : .instanceMethod yC3_widthOf ∈ wAll := wa (tb_2 _ (List.mem_of_getElem? (i := 202) rfl)) rfl
theorem mw_236 : .selects RC3 yC3_widthOf yC3_widthOf ∈ wAll := wa (tb_2 _ (List.mem_of_getElem? (i := 203) rfl)) rfl
theorem mw_237 : .code yC3_widthOf cC3_widthOf 2 (some .int) ∈ wAll := wa (tb_2 _ (List.mem_of_getElem? (i := 204) rfl)) rfl
theorem mw_238 : .methodLink RC4 120 yC2_hasResult ∈ wAll := wa (tb_2 _ (List.mem_of_getElem? (i := 205) rfl)) rfl
theorem mw_239 : .instanceMethod yC2_hasResult ∈ wAll := wa (tb_2 _ (List.mem_of_getElem? (i := 206) rfl)) rfl
theorem mw_240 : .selects RC2 yC2_hasResult yC2_hasResult ∈ wAll := wa (tb_2 _ (List.mem_of_getElem? (i := 207) rfl)) rfl
theorem mw_241 : .code yC2_hasResult cC2_hasResult 2 (some .boolean) ∈ wAll := wa (tb_2 _ (List.mem_of_getElem? (i := 208) rfl)) rfl
theorem mw_242 : .methodLink RC4 123 yC3_hasResult ∈ wAll := wa (tb_2 _ (List.mem_of_getElem? (i := 209) rfl)) rfl
theorem mw_243 : .instanceMethod yC3_hasResult ∈ wAll := wa (tb_2 _ (List.mem_of_getElem? (i := 210) rfl)) rfl
theorem mw_244 : .selects RC3 yC3_hasResult yC3_hasResult ∈ wAll := wa (tb_2 _ (List.mem_of_getElem? (i := 211) rfl)) rfl
theorem mw_245 : .code yC3_hasResult cC3_hasResult 2 (some .boolean) ∈ wAll := wa (tb_2 _ (List.mem_of_getElem? (i := 212) rfl)) rfl
theorem mw_246 : .methodLink RC4 113 yC4_hasShape ∈ wAll := wa (tb_2 _ (List.mem_of_getElem? (i := 196) rfl)) rfl
theorem mw_247 : .instanceMethod yC4_hasShape ∈ wAll := wa (tb_2 _ (List.mem_of_getElem? (i := 198) rfl)) rfl
theorem mw_248 : .selects RC4 yC4_hasShape yC4_hasShape ∈ wAll := wa (ps_1 _ (List.mem_of_getElem? (i := 13) rfl)) rfl
theorem mw_249 : .code yC4_hasShape cC4_hasShape 4 (some .boolean) ∈ wAll := wa (tb_2 _ (List.mem_of_getElem? (i := 199) rfl)) rfl
theorem mw_250 : .methodLink RC4 78 yC4_couldBeMeant ∈ wAll := wa (tb_2 _ (List.mem_of_getElem? (i := 171) rfl)) rfl
theorem mw_251 : .instanceMethod yC4_couldBeMeant ∈ wAll := wa (tb_2 _ (List.mem_of_getElem? (i := 173) rfl)) rfl
theorem mw_252 : .selects RC4 yC4_couldBeMeant yC4_couldBeMeant ∈ wAll := wa (ps_1 _ (List.mem_of_getElem? (i := 12) rfl)) rfl
theorem mw_253 : .code yC4_couldBeMeant cC4_couldBeMeant 5 (some .boolean) ∈ wAll := wa (tb_2 _ (List.mem_of_getElem? (i := 174) rfl)) rfl
theorem mw_254 : .methodLink RC4 64 yC4_keepMeant ∈ wAll := wa (tb_2 _ (List.mem_of_getElem? (i := 167) rfl)) rfl
theorem mw_255 : .instanceMethod yC4_keepMeant ∈ wAll := wa (tb_2 _ (List.mem_of_getElem? (i := 169) rfl)) rfl
theorem mw_256 : .selects RC4 yC4_keepMeant yC4_keepMeant ∈ wAll := wa (ps_1 _ (List.mem_of_getElem? (i := 11) rfl)) rfl
theorem mw_257 : .code yC4_keepMeant cC4_keepMeant 3 none ∈ wAll := wa (tb_2 _ (List.mem_of_getElem? (i := 170) rfl)) rfl
theorem mw_258 : .fieldLink RC4 29 "MemberChoice$Choice" "applying" "[I" ∈ wAll := wa (tb_1 _ (List.mem_of_getElem? (i := 134) rfl)) rfl
theorem mw_259 : .fieldLink RC4 32 "MemberChoice$Choice" "asSpecial" "[J" ∈ wAll := wa (tb_1 _ (List.mem_of_getElem? (i := 135) rfl)) rfl
theorem mw_260 : .fieldLink RC4 9 "MemberChoice$Choice" "types" "LMemberChoice$Types;" ∈ wAll := wa (tb_1 _ (List.mem_of_getElem? (i := 130) rfl)) rfl
theorem mw_261 : .methodLink RC2 104 yC2_facing ∈ wAll := wa (tb_3 _ (List.mem_of_getElem? (i := 34) rfl)) rfl
theorem mw_262 : .methodLink RC4 157 yC2_spreadType ∈ wAll := wa (tb_3 _ (List.mem_of_getElem? (i := 30) rfl)) rfl
theorem mw_263 : .instanceMethod yC2_spreadType ∈ wAll := wa (tb_3 _ (List.mem_of_getElem? (i := 31) rfl)) rfl
theorem mw_264 : .selects RC2 yC2_spreadType yC2_spreadType ∈ wAll := wa (tb_3 _ (List.mem_of_getElem? (i := 32) rfl)) rfl
theorem mw_265 : .code yC2_spreadType cC2_spreadType 2 (some .int) ∈ wAll := wa (tb_3 _ (List.mem_of_getElem? (i := 33) rfl)) rfl
theorem mw_266 : .methodLink RC4 150 yC1_isA ∈ wAll := wa (tb_3 _ (List.mem_of_getElem? (i := 15) rfl)) rfl
theorem mw_267 : .methodLink RC4 136 yC3_isToldLambda ∈ wAll := wa (tb_2 _ (List.mem_of_getElem? (i := 230) rfl)) rfl
theorem mw_268 : .instanceMethod yC3_isToldLambda ∈ wAll := wa (tb_2 _ (List.mem_of_getElem? (i := 231) rfl)) rfl
theorem mw_269 : .selects RC3 yC3_isToldLambda yC3_isToldLambda ∈ wAll := wa (tb_2 _ (List.mem_of_getElem? (i := 232) rfl)) rfl
theorem mw_270 : .code yC3_isToldLambda cC3_isToldLambda 2 (some .boolean) ∈ wAll := wa (tb_2 _ (List.mem_of_getElem? (i := 233) rfl)) rfl
theorem mw_271 : .methodLink RC4 88 yC2_sameParameters ∈ wAll := wa (tb_3 _ (List.mem_of_getElem? (i := 20) rfl)) rfl
theorem mw_272 : .methodLink RC4 128 yC3_valueOf ∈ wAll := wa (tb_2 _ (List.mem_of_getElem? (i := 225) rfl)) rfl
theorem mw_273 : .instanceMethod yC3_valueOf ∈ wAll := wa (tb_2 _ (List.mem_of_getElem? (i := 226) rfl)) rfl
theorem mw_274 : .selects RC3 yC3_valueOf yC3_valueOf ∈ wAll := wa (tb_2 _ (List.mem_of_getElem? (i := 227) rfl)) rfl
theorem mw_275 : .code yC3_valueOf cC3_valueOf 2 (some .int) ∈ wAll := wa (tb_2 _ (List.mem_of_getElem? (i := 228) rfl)) rfl
theorem mw_276 : .methodLink RC4 147 yC2_resultOf ∈ wAll := wa (tb_3 _ (List.mem_of_getElem? (i := 3) rfl)) rfl
theorem mw_277 : .instanceMethod yC2_resultOf ∈ wAll := wa (tb_3 _ (List.mem_of_getElem? (i := 4) rfl)) rfl
theorem mw_278 : .selects RC2 yC2_resultOf yC2_resultOf ∈ wAll := wa (tb_3 _ (List.mem_of_getElem? (i := 5) rfl)) rfl
theorem mw_279 : .code yC2_resultOf cC2_resultOf 2 (some .int) ∈ wAll := wa (tb_3 _ (List.mem_of_getElem? (i := 6) rfl)) rfl
theorem mw_280 : .methodLink RC4 163 yC1_isPrimitive ∈ wAll := wa (tb_3 _ (List.mem_of_getElem? (i := 25) rfl)) rfl
theorem mw_281 : .methodLink RC4 166 yC1_isReference ∈ wAll := wa (tb_3 _ (List.mem_of_getElem? (i := 26) rfl)) rfl
theorem mw_282 : .instanceMethod yC1_isReference ∈ wAll := wa (tb_3 _ (List.mem_of_getElem? (i := 27) rfl)) rfl
theorem mw_283 : .selects RC1 yC1_isReference yC1_isReference ∈ wAll := wa (tb_3 _ (List.mem_of_getElem? (i := 28) rfl)) rfl
theorem mw_284 : .code yC1_isReference cC1_isReference 2 (some .boolean) ∈ wAll := wa (tb_3 _ (List.mem_of_getElem? (i := 29) rfl)) rfl
theorem mw_285 : .methodLink RC4 160 yC4_isFinerResult ∈ wAll := wa (tb_3 _ (List.mem_of_getElem? (i := 21) rfl)) rfl
theorem mw_286 : .instanceMethod yC4_isFinerResult ∈ wAll := wa (tb_3 _ (List.mem_of_getElem? (i := 23) rfl)) rfl
theorem mw_287 : .selects RC4 yC4_isFinerResult yC4_isFinerResult ∈ wAll := wa (ps_2 _ (List.mem_of_getElem? (i := 5) rfl)) rfl
theorem mw_288 : .code yC4_isFinerResult cC4_isFinerResult 6 (some .boolean) ∈ wAll := wa (tb_3 _ (List.mem_of_getElem? (i := 24) rfl)) rfl
theorem mw_289 : .methodLink RC4 153 yC4_isFinerFunction ∈ wAll := wa (tb_3 _ (List.mem_of_getElem? (i := 16) rfl)) rfl
theorem mw_290 : .instanceMethod yC4_isFinerFunction ∈ wAll := wa (tb_3 _ (List.mem_of_getElem? (i := 18) rfl)) rfl
theorem mw_291 : .selects RC4 yC4_isFinerFunction yC4_isFinerFunction ∈ wAll := wa (ps_2 _ (List.mem_of_getElem? (i := 4) rfl)) rfl
theorem mw_292 : .code yC4_isFinerFunction cC4_isFinerFunction 6 (some .boolean) ∈ wAll := wa (tb_3 _ (List.mem_of_getElem? (i := 19) rfl)) rfl
theorem mw_293 : .methodLink RC4 85 yC4_isAsSpecialAs ∈ wAll := wa (tb_3 _ (List.mem_of_getElem? (i := 11) rfl)) rfl
theorem mw_294 : .instanceMethod yC4_isAsSpecialAs ∈ wAll := wa (tb_3 _ (List.mem_of_getElem? (i := 13) rfl)) rfl
theorem mw_295 : .selects RC4 yC4_isAsSpecialAs yC4_isAsSpecialAs ∈ wAll := wa (ps_2 _ (List.mem_of_getElem? (i := 3) rfl)) rfl
theorem mw_296 : .code yC4_isAsSpecialAs cC4_isAsSpecialAs 7 (some .boolean) ∈ wAll := wa (tb_3 _ (List.mem_of_getElem? (i := 14) rfl)) rfl
theorem mw_297 : .methodLink RC4 71 yC4_compareAll ∈ wAll := wa (tb_3 _ (List.mem_of_getElem? (i := 7) rfl)) rfl
theorem mw_298 : .instanceMethod yC4_compareAll ∈ wAll := wa (tb_3 _ (List.mem_of_getElem? (i := 9) rfl)) rfl
theorem mw_299 : .selects RC4 yC4_compareAll yC4_compareAll ∈ wAll := wa (ps_2 _ (List.mem_of_getElem? (i := 2) rfl)) rfl
theorem mw_300 : .code yC4_compareAll cC4_compareAll 4 none ∈ wAll := wa (tb_3 _ (List.mem_of_getElem? (i := 10) rfl)) rfl
theorem mw_301 : .methodLink RC4 91 yC2_isAbstract ∈ wAll := wa (tb_3 _ (List.mem_of_getElem? (i := 39) rfl)) rfl
theorem mw_302 : .methodLink RC4 74 yC4_pick ∈ wAll := wa (tb_3 _ (List.mem_of_getElem? (i := 35) rfl)) rfl
theorem mw_303 : .instanceMethod yC4_pick ∈ wAll := wa (tb_3 _ (List.mem_of_getElem? (i := 37) rfl)) rfl
theorem mw_304 : .selects RC4 yC4_pick yC4_pick ∈ wAll := wa (ps_2 _ (List.mem_of_getElem? (i := 6) rfl)) rfl
theorem mw_305 : .code yC4_pick cC4_pick 6 (some .int) ∈ wAll := wa (tb_3 _ (List.mem_of_getElem? (i := 38) rfl)) rfl
theorem mw_306 : .methodLink RC4 131 yC1_accepts ∈ wAll := wa (tb_2 _ (List.mem_of_getElem? (i := 229) rfl)) rfl
theorem mw_307 : .methodLink RC4 142 yC2_parameterAt ∈ wAll := wa (tb_2 _ (List.mem_of_getElem? (i := 238) rfl)) rfl
theorem mw_308 : .methodLink RC4 146 yC3_parameterAt ∈ wAll := wa (tb_2 _ (List.mem_of_getElem? (i := 239) rfl)) rfl
theorem mw_309 : .instanceMethod yC3_parameterAt ∈ wAll := wa (tb_3 _ (List.mem_of_getElem? (i := 0) rfl)) rfl
theorem mw_310 : .selects RC3 yC3_parameterAt yC3_parameterAt ∈ wAll := wa (tb_3 _ (List.mem_of_getElem? (i := 1) rfl)) rfl
theorem mw_311 : .code yC3_parameterAt cC3_parameterAt 3 (some .int) ∈ wAll := wa (tb_3 _ (List.mem_of_getElem? (i := 2) rfl)) rfl
theorem mw_312 : .methodLink RC4 139 yC4_takesTold ∈ wAll := wa (tb_2 _ (List.mem_of_getElem? (i := 234) rfl)) rfl
theorem mw_313 : .instanceMethod yC4_takesTold ∈ wAll := wa (tb_2 _ (List.mem_of_getElem? (i := 236) rfl)) rfl
theorem mw_314 : .selects RC4 yC4_takesTold yC4_takesTold ∈ wAll := wa (ps_2 _ (List.mem_of_getElem? (i := 1) rfl)) rfl
theorem mw_315 : .code yC4_takesTold cC4_takesTold 5 (some .boolean) ∈ wAll := wa (tb_2 _ (List.mem_of_getElem? (i := 237) rfl)) rfl
theorem mw_316 : .methodLink RC4 124 yC4_takes ∈ wAll := wa (tb_2 _ (List.mem_of_getElem? (i := 221) rfl)) rfl
theorem mw_317 : .instanceMethod yC4_takes ∈ wAll := wa (tb_2 _ (List.mem_of_getElem? (i := 223) rfl)) rfl
theorem mw_318 : .selects RC4 yC4_takes yC4_takes ∈ wAll := wa (ps_2 _ (List.mem_of_getElem? (i := 0) rfl)) rfl
theorem mw_319 : .code yC4_takes cC4_takes 4 (some .boolean) ∈ wAll := wa (tb_2 _ (List.mem_of_getElem? (i := 224) rfl)) rfl
theorem mw_320 : .methodLink RC4 81 yC4_applies ∈ wAll := wa (tb_2 _ (List.mem_of_getElem? (i := 217) rfl)) rfl
theorem mw_321 : .instanceMethod yC4_applies ∈ wAll := wa (tb_2 _ (List.mem_of_getElem? (i := 219) rfl)) rfl
theorem mw_322 : .selects RC4 yC4_applies yC4_applies ∈ wAll := wa (ps_1 _ (List.mem_of_getElem? (i := 15) rfl)) rfl
theorem mw_323 : .code yC4_applies cC4_applies 5 (some .boolean) ∈ wAll := wa (tb_2 _ (List.mem_of_getElem? (i := 220) rfl)) rfl
theorem mw_324 : .methodLink RC4 67 yC4_findApplying ∈ wAll := wa (tb_2 _ (List.mem_of_getElem? (i := 213) rfl)) rfl
theorem mw_325 : .instanceMethod yC4_findApplying ∈ wAll := wa (tb_2 _ (List.mem_of_getElem? (i := 215) rfl)) rfl
theorem mw_326 : .selects RC4 yC4_findApplying yC4_findApplying ∈ wAll := wa (ps_1 _ (List.mem_of_getElem? (i := 14) rfl)) rfl
theorem mw_327 : .code yC4_findApplying cC4_findApplying 4 none ∈ wAll := wa (tb_2 _ (List.mem_of_getElem? (i := 216) rfl)) rfl
theorem mw_328 : .methodLink RC0 113 yC4_decide ∈ wAll := wa (tb_2 _ (List.mem_of_getElem? (i := 157) rfl)) rfl
theorem mw_329 : .instanceMethod yC4_decide ∈ wAll := wa (tb_2 _ (List.mem_of_getElem? (i := 158) rfl)) rfl
theorem mw_330 : .selects RC4 yC4_decide yC4_decide ∈ wAll := wa (tb_2 _ (List.mem_of_getElem? (i := 159) rfl)) rfl
theorem mw_331 : .code yC4_decide cC4_decide 5 (some .int) ∈ wAll := wa (tb_2 _ (List.mem_of_getElem? (i := 160) rfl)) rfl
theorem mw_332 : .methodLink RC0 117 yC2_isStatic ∈ wAll := wa (tb_3 _ (List.mem_of_getElem? (i := 40) rfl)) rfl
theorem mw_333 : .methodLink RC0 120 yC4_phaseReached ∈ wAll := wa (tb_3 _ (List.mem_of_getElem? (i := 45) rfl)) rfl
theorem mw_334 : .instanceMethod yC4_phaseReached ∈ wAll := wa (tb_3 _ (List.mem_of_getElem? (i := 46) rfl)) rfl
theorem mw_335 : .selects RC4 yC4_phaseReached yC4_phaseReached ∈ wAll := wa (tb_3 _ (List.mem_of_getElem? (i := 47) rfl)) rfl
theorem mw_336 : .code yC4_phaseReached cC4_phaseReached 1 (some .int) ∈ wAll := wa (tb_3 _ (List.mem_of_getElem? (i := 48) rfl)) rfl
theorem mw_337 : .methodLink RC0 123 yC4_applyingAt ∈ wAll := wa (tb_3 _ (List.mem_of_getElem? (i := 53) rfl)) rfl
theorem mw_338 : .instanceMethod yC4_applyingAt ∈ wAll := wa (tb_3 _ (List.mem_of_getElem? (i := 54) rfl)) rfl
theorem mw_339 : .selects RC4 yC4_applyingAt yC4_applyingAt ∈ wAll := wa (tb_3 _ (List.mem_of_getElem? (i := 55) rfl)) rfl
theorem mw_340 : .code yC4_applyingAt cC4_applyingAt 2 (some .int) ∈ wAll := wa (tb_3 _ (List.mem_of_getElem? (i := 56) rfl)) rfl
theorem mw_341 : .methodLink RC4 43 yC4_didApply ∈ wAll := wa (tb_3 _ (List.mem_of_getElem? (i := 65) rfl)) rfl
theorem mw_342 : .instanceMethod yC4_didApply ∈ wAll := wa (tb_3 _ (List.mem_of_getElem? (i := 67) rfl)) rfl
theorem mw_343 : .selects RC4 yC4_didApply yC4_didApply ∈ wAll := wa (ps_2 _ (List.mem_of_getElem? (i := 7) rfl)) rfl
theorem mw_344 : .code yC4_didApply cC4_didApply 2 (some .boolean) ∈ wAll := wa (tb_3 _ (List.mem_of_getElem? (i := 68) rfl)) rfl
theorem mw_345 : .methodLink RC0 126 yC4_compared ∈ wAll := wa (tb_3 _ (List.mem_of_getElem? (i := 61) rfl)) rfl
theorem mw_346 : .instanceMethod yC4_compared ∈ wAll := wa (tb_3 _ (List.mem_of_getElem? (i := 62) rfl)) rfl
theorem mw_347 : .selects RC4 yC4_compared yC4_compared ∈ wAll := wa (tb_3 _ (List.mem_of_getElem? (i := 63) rfl)) rfl
theorem mw_348 : .code yC4_compared cC4_compared 3 (some .int) ∈ wAll := wa (tb_3 _ (List.mem_of_getElem? (i := 64) rfl)) rfl
theorem mw_349 : .methodLink RC0 129 yC1_size ∈ wAll := wa (tb_3 _ (List.mem_of_getElem? (i := 73) rfl)) rfl
theorem mw_350 : .methodLink RC0 132 yC2_size ∈ wAll := wa (tb_3 _ (List.mem_of_getElem? (i := 74) rfl)) rfl
theorem mw_351 : .instanceMethod yC2_size ∈ wAll := wa (tb_3 _ (List.mem_of_getElem? (i := 75) rfl)) rfl
theorem mw_352 : .selects RC2 yC2_size yC2_size ∈ wAll := wa (tb_3 _ (List.mem_of_getElem? (i := 76) rfl)) rfl
theorem mw_353 : .code yC2_size cC2_size 1 (some .int) ∈ wAll := wa (tb_3 _ (List.mem_of_getElem? (i := 77) rfl)) rfl
theorem mw_354 : .methodLink RC0 133 yC3_size ∈ wAll := wa (tb_3 _ (List.mem_of_getElem? (i := 78) rfl)) rfl
theorem mw_355 : .fieldLink RCM 68 "MemberChoiceModel" "types" "I" ∈ wAll := wa (tb_3 _ (List.mem_of_getElem? (i := 85) rfl)) rfl
theorem mw_356 : .fieldLink RCM 13 "MemberChoiceModel" "parents" "[I" ∈ wAll := wa (tb_3 _ (List.mem_of_getElem? (i := 87) rfl)) rfl
theorem mw_357 : .fieldLink RCM 7 "MemberChoiceModel" "isFace" "[Z" ∈ wAll := wa (tb_3 _ (List.mem_of_getElem? (i := 86) rfl)) rfl
theorem mw_358 : .fieldLink RCM 17 "MemberChoiceModel" "aboveCounts" "[I" ∈ wAll := wa (tb_3 _ (List.mem_of_getElem? (i := 88) rfl)) rfl
theorem mw_359 : .fieldLink RCM 65 "MemberChoiceModel" "functions" "[I" ∈ wAll := wa (tb_3 _ (List.mem_of_getElem? (i := 107) rfl)) rfl
theorem mw_360 : .methodLink RCM 79 yCM_forgetFunctions ∈ wAll := wa (tb_3 _ (List.mem_of_getElem? (i := 167) rfl)) rfl
theorem mw_361 : .instanceMethod yCM_forgetFunctions ∈ wAll := wa (tb_3 _ (List.mem_of_getElem? (i := 169) rfl)) rfl
theorem mw_362 : .selects RCM yCM_forgetFunctions yCM_forgetFunctions ∈ wAll := wa (ps_2 _ (List.mem_of_getElem? (i := 10) rfl)) rfl
theorem mw_363 : .initialized RCM ∈ wAll := wa (tb_1 _ (List.mem_of_getElem? (i := 9) rfl)) rfl
theorem mw_364 : .code yCM_forgetFunctions cCM_forgetFunctions 2 none ∈ wAll := wa (tb_3 _ (List.mem_of_getElem? (i := 170) rfl)) rfl
theorem mw_365 : .fieldLink RCM 23 "MemberChoiceModel" "isOne" "[Z" ∈ wAll := wa (tb_3 _ (List.mem_of_getElem? (i := 90) rfl)) rfl
theorem mw_366 : .fieldLink RCM 20 "MemberChoiceModel" "above" "[I" ∈ wAll := wa (tb_3 _ (List.mem_of_getElem? (i := 89) rfl)) rfl
theorem mw_367 : .methodLink RCM 95 yCM_closeTypes ∈ wAll := wa (tb_3 _ (List.mem_of_getElem? (i := 163) rfl)) rfl
theorem mw_368 : .instanceMethod yCM_closeTypes ∈ wAll := wa (tb_3 _ (List.mem_of_getElem? (i := 165) rfl)) rfl
theorem mw_369 : .selects RCM yCM_closeTypes yCM_closeTypes ∈ wAll := wa (ps_2 _ (List.mem_of_getElem? (i := 9) rfl)) rfl
theorem mw_370 : .code yCM_closeTypes cCM_closeTypes 5 none ∈ wAll := wa (tb_3 _ (List.mem_of_getElem? (i := 166) rfl)) rfl
theorem mw_371 : .methodLink RCM 72 yCM_isTold ∈ wAll := wa (tb_3 _ (List.mem_of_getElem? (i := 159) rfl)) rfl
theorem mw_372 : .instanceMethod yCM_isTold ∈ wAll := wa (tb_3 _ (List.mem_of_getElem? (i := 161) rfl)) rfl
theorem mw_373 : .selects RCM yCM_isTold yCM_isTold ∈ wAll := wa (ps_2 _ (List.mem_of_getElem? (i := 8) rfl)) rfl
theorem mw_374 : .code yCM_isTold cCM_isTold 2 (some .boolean) ∈ wAll := wa (tb_3 _ (List.mem_of_getElem? (i := 162) rfl)) rfl
theorem mw_375 : .methodLink RCM 76 yCM_isPlain ∈ wAll := wa (tb_3 _ (List.mem_of_getElem? (i := 187) rfl)) rfl
theorem mw_376 : .instanceMethod yCM_isPlain ∈ wAll := wa (tb_3 _ (List.mem_of_getElem? (i := 189) rfl)) rfl
theorem mw_377 : .selects RCM yCM_isPlain yCM_isPlain ∈ wAll := wa (ps_2 _ (List.mem_of_getElem? (i := 12) rfl)) rfl
theorem mw_378 : .code yCM_isPlain cCM_isPlain 2 (some .boolean) ∈ wAll := wa (tb_3 _ (List.mem_of_getElem? (i := 190) rfl)) rfl
theorem mw_379 : .methodLink RCM 98 yCM_isType ∈ wAll := wa (tb_3 _ (List.mem_of_getElem? (i := 183) rfl)) rfl
theorem mw_380 : .instanceMethod yCM_isType ∈ wAll := wa (tb_3 _ (List.mem_of_getElem? (i := 185) rfl)) rfl
theorem mw_381 : .selects RCM yCM_isType yCM_isType ∈ wAll := wa (ps_2 _ (List.mem_of_getElem? (i := 11) rfl)) rfl
theorem mw_382 : .code yCM_isType cCM_isType 2 (some .boolean) ∈ wAll := wa (tb_3 _ (List.mem_of_getElem? (i := 186) rfl)) rfl
theorem mw_383 : .methodLink RCM 82 yCM_isPrimitive ∈ wAll := wa (tb_3 _ (List.mem_of_getElem? (i := 195) rfl)) rfl
theorem mw_384 : .static yCM_isPrimitive ∈ wAll := wa (tb_3 _ (List.mem_of_getElem? (i := 196) rfl)) rfl
theorem mw_385 : .code yCM_isPrimitive cCM_isPrimitive 1 (some .boolean) ∈ wAll := wa (tb_3 _ (List.mem_of_getElem? (i := 197) rfl)) rfl
theorem mw_386 : .methodLink RCM 85 yCM_plainIs ∈ wAll := wa (tb_3 _ (List.mem_of_getElem? (i := 198) rfl)) rfl
theorem mw_387 : .instanceMethod yCM_plainIs ∈ wAll := wa (tb_3 _ (List.mem_of_getElem? (i := 200) rfl)) rfl
theorem mw_388 : .selects RCM yCM_plainIs yCM_plainIs ∈ wAll := wa (ps_2 _ (List.mem_of_getElem? (i := 14) rfl)) rfl
theorem mw_389 : .code yCM_plainIs cCM_plainIs 3 (some .boolean) ∈ wAll := wa (tb_3 _ (List.mem_of_getElem? (i := 201) rfl)) rfl
theorem mw_390 : .methodLink RCM 89 yCM_isIt ∈ wAll := wa (tb_3 _ (List.mem_of_getElem? (i := 191) rfl)) rfl
theorem mw_391 : .instanceMethod yCM_isIt ∈ wAll := wa (tb_3 _ (List.mem_of_getElem? (i := 193) rfl)) rfl
theorem mw_392 : .selects RCM yCM_isIt yCM_isIt ∈ wAll := wa (ps_2 _ (List.mem_of_getElem? (i := 13) rfl)) rfl
theorem mw_393 : .code yCM_isIt cCM_isIt 3 (some .boolean) ∈ wAll := wa (tb_3 _ (List.mem_of_getElem? (i := 194) rfl)) rfl
theorem mw_394 : .methodLink RCM 92 yCM_isBox ∈ wAll := wa (tb_3 _ (List.mem_of_getElem? (i := 210) rfl)) rfl
theorem mw_395 : .static yCM_isBox ∈ wAll := wa (tb_3 _ (List.mem_of_getElem? (i := 211) rfl)) rfl
theorem mw_396 : .code yCM_isBox cCM_isBox 1 (some .boolean) ∈ wAll := wa (tb_3 _ (List.mem_of_getElem? (i := 212) rfl)) rfl
theorem mw_397 : .methodLink RCM 101 yCM_fitsIt ∈ wAll := wa (tb_3 _ (List.mem_of_getElem? (i := 206) rfl)) rfl
theorem mw_398 : .instanceMethod yCM_fitsIt ∈ wAll := wa (tb_3 _ (List.mem_of_getElem? (i := 208) rfl)) rfl
theorem mw_399 : .selects RCM yCM_fitsIt yCM_fitsIt ∈ wAll := wa (ps_2 _ (List.mem_of_getElem? (i := 15) rfl)) rfl
theorem mw_400 : .code yCM_fitsIt cCM_fitsIt 3 (some .boolean) ∈ wAll := wa (tb_3 _ (List.mem_of_getElem? (i := 209) rfl)) rfl
theorem mw_401 : .fieldLink RCM 110 "MemberChoiceModel" "members" "I" ∈ wAll := wa (tb_3 _ (List.mem_of_getElem? (i := 91) rfl)) rfl
theorem mw_402 : .fieldLink RCM 26 "MemberChoiceModel" "owners" "[I" ∈ wAll := wa (tb_3 _ (List.mem_of_getElem? (i := 92) rfl)) rfl
theorem mw_403 : .fieldLink RCM 29 "MemberChoiceModel" "names" "[I" ∈ wAll := wa (tb_3 _ (List.mem_of_getElem? (i := 93) rfl)) rfl
theorem mw_404 : .fieldLink RCM 32 "MemberChoiceModel" "marks" "[I" ∈ wAll := wa (tb_3 _ (List.mem_of_getElem? (i := 94) rfl)) rfl
theorem mw_405 : .fieldLink RCM 35 "MemberChoiceModel" "results" "[I" ∈ wAll := wa (tb_3 _ (List.mem_of_getElem? (i := 95) rfl)) rfl
theorem mw_406 : .fieldLink RCM 38 "MemberChoiceModel" "counts" "[I" ∈ wAll := wa (tb_3 _ (List.mem_of_getElem? (i := 96) rfl)) rfl
theorem mw_407 : .fieldLink RCM 41 "MemberChoiceModel" "params" "[I" ∈ wAll := wa (tb_3 _ (List.mem_of_getElem? (i := 97) rfl)) rfl
theorem mw_408 : .methodLink RCM 113 yCM_parameter ∈ wAll := wa (tb_3 _ (List.mem_of_getElem? (i := 224) rfl)) rfl
theorem mw_409 : .static yCM_parameter ∈ wAll := wa (tb_3 _ (List.mem_of_getElem? (i := 225) rfl)) rfl
theorem mw_410 : .code yCM_parameter cCM_parameter 5 (some .int) ∈ wAll := wa (tb_3 _ (List.mem_of_getElem? (i := 226) rfl)) rfl
theorem mw_411 : .methodLink RCM 107 yCM_isValue ∈ wAll := wa (tb_3 _ (List.mem_of_getElem? (i := 220) rfl)) rfl
theorem mw_412 : .instanceMethod yCM_isValue ∈ wAll := wa (tb_3 _ (List.mem_of_getElem? (i := 222) rfl)) rfl
theorem mw_413 : .selects RCM yCM_isValue yCM_isValue ∈ wAll := wa (ps_3 _ (List.mem_of_getElem? (i := 0) rfl)) rfl
theorem mw_414 : .code yCM_isValue cCM_isValue 2 (some .boolean) ∈ wAll := wa (tb_3 _ (List.mem_of_getElem? (i := 223) rfl)) rfl
theorem mw_415 : .methodLink RCM 104 yCM_isName ∈ wAll := wa (tb_3 _ (List.mem_of_getElem? (i := 217) rfl)) rfl
theorem mw_416 : .static yCM_isName ∈ wAll := wa (tb_3 _ (List.mem_of_getElem? (i := 218) rfl)) rfl
theorem mw_417 : .code yCM_isName cCM_isName 1 (some .boolean) ∈ wAll := wa (tb_3 _ (List.mem_of_getElem? (i := 219) rfl)) rfl
theorem mw_418 : .methodLink RCM 117 yCM_has ∈ wAll := wa (tb_3 _ (List.mem_of_getElem? (i := 239) rfl)) rfl
theorem mw_419 : .instanceMethod yCM_has ∈ wAll := wa (tb_4 _ (List.mem_of_getElem? (i := 1) rfl)) rfl
theorem mw_420 : .selects RCM yCM_has yCM_has ∈ wAll := wa (ps_3 _ (List.mem_of_getElem? (i := 3) rfl)) rfl
theorem mw_421 : .code yCM_has cCM_has 3 (some .boolean) ∈ wAll := wa (tb_4 _ (List.mem_of_getElem? (i := 2) rfl)) rfl
theorem mw_422 : .methodLink RCM 120 yCM_sameParams ∈ wAll := wa (tb_4 _ (List.mem_of_getElem? (i := 7) rfl)) rfl
theorem mw_423 : .instanceMethod yCM_sameParams ∈ wAll := wa (tb_4 _ (List.mem_of_getElem? (i := 9) rfl)) rfl
theorem mw_424 : .selects RCM yCM_sameParams yCM_sameParams ∈ wAll := wa (ps_3 _ (List.mem_of_getElem? (i := 5) rfl)) rfl
theorem mw_425 : .code yCM_sameParams cCM_sameParams 5 (some .boolean) ∈ wAll := wa (tb_4 _ (List.mem_of_getElem? (i := 10) rfl)) rfl
theorem mw_426 : .methodLink RCM 127 yCM_isSeen ∈ wAll := wa (tb_4 _ (List.mem_of_getElem? (i := 3) rfl)) rfl
theorem mw_427 : .instanceMethod yCM_isSeen ∈ wAll := wa (tb_4 _ (List.mem_of_getElem? (i := 5) rfl)) rfl
theorem mw_428 : .selects RCM yCM_isSeen yCM_isSeen ∈ wAll := wa (ps_3 _ (List.mem_of_getElem? (i := 4) rfl)) rfl
theorem mw_429 : .code yCM_isSeen cCM_isSeen 6 (some .boolean) ∈ wAll := wa (tb_4 _ (List.mem_of_getElem? (i := 6) rfl)) rfl
theorem mw_430 : .methodLink RCM 123 yCM_findFunction ∈ wAll := wa (tb_3 _ (List.mem_of_getElem? (i := 235) rfl)) rfl
theorem mw_431 : .instanceMethod yCM_findFunction ∈ wAll := wa (tb_3 _ (List.mem_of_getElem? (i := 237) rfl)) rfl
theorem mw_432 : .selects RCM yCM_findFunction yCM_findFunction ∈ wAll := wa (ps_3 _ (List.mem_of_getElem? (i := 2) rfl)) rfl
theorem mw_433 : .code yCM_findFunction cCM_findFunction 4 (some .int) ∈ wAll := wa (tb_3 _ (List.mem_of_getElem? (i := 238) rfl)) rfl
theorem mw_434 : .methodLink RCM 131 yCM_functionOf ∈ wAll := wa (tb_3 _ (List.mem_of_getElem? (i := 231) rfl)) rfl
theorem mw_435 : .instanceMethod yCM_functionOf ∈ wAll := wa (tb_3 _ (List.mem_of_getElem? (i := 233) rfl)) rfl
theorem mw_436 : .selects RCM yCM_functionOf yCM_functionOf ∈ wAll := wa (ps_3 _ (List.mem_of_getElem? (i := 1) rfl)) rfl
theorem mw_437 : .code yCM_functionOf cCM_functionOf 2 (some .int) ∈ wAll := wa (tb_3 _ (List.mem_of_getElem? (i := 234) rfl)) rfl
theorem mw_438 : .methodLink RCM 134 yCM_isAsked ∈ wAll := wa (tb_4 _ (List.mem_of_getElem? (i := 15) rfl)) rfl
theorem mw_439 : .instanceMethod yCM_isAsked ∈ wAll := wa (tb_4 _ (List.mem_of_getElem? (i := 17) rfl)) rfl
theorem mw_440 : .selects RCM yCM_isAsked yCM_isAsked ∈ wAll := wa (ps_3 _ (List.mem_of_getElem? (i := 6) rfl)) rfl
theorem mw_441 : .code yCM_isAsked cCM_isAsked 4 (some .boolean) ∈ wAll := wa (tb_4 _ (List.mem_of_getElem? (i := 18) rfl)) rfl
theorem mw_442 : .fieldLink RCM 137 "MemberChoiceModel" "arguments" "I" ∈ wAll := wa (tb_3 _ (List.mem_of_getElem? (i := 98) rfl)) rfl
theorem mw_443 : .fieldLink RCM 44 "MemberChoiceModel" "argTypes" "[I" ∈ wAll := wa (tb_3 _ (List.mem_of_getElem? (i := 99) rfl)) rfl
theorem mw_444 : .fieldLink RCM 47 "MemberChoiceModel" "lambdas" "[I" ∈ wAll := wa (tb_3 _ (List.mem_of_getElem? (i := 100) rfl)) rfl
theorem mw_445 : .fieldLink RCM 50 "MemberChoiceModel" "lambdaCounts" "[I" ∈ wAll := wa (tb_3 _ (List.mem_of_getElem? (i := 101) rfl)) rfl
theorem mw_446 : .fieldLink RCM 53 "MemberChoiceModel" "lambdaParams" "[I" ∈ wAll := wa (tb_3 _ (List.mem_of_getElem? (i := 102) rfl)) rfl
theorem mw_447 : .fieldLink RCM 56 "MemberChoiceModel" "lambdaResults" "[I" ∈ wAll := wa (tb_3 _ (List.mem_of_getElem? (i := 103) rfl)) rfl
theorem mw_448 : .fieldLink RCM 153 "MemberChoiceModel" "phase" "I" ∈ wAll := wa (tb_3 _ (List.mem_of_getElem? (i := 104) rfl)) rfl
theorem mw_449 : .fieldLink RCM 59 "MemberChoiceModel" "applies" "[Z" ∈ wAll := wa (tb_3 _ (List.mem_of_getElem? (i := 105) rfl)) rfl
theorem mw_450 : .fieldLink RCM 62 "MemberChoiceModel" "specials" "[Z" ∈ wAll := wa (tb_3 _ (List.mem_of_getElem? (i := 106) rfl)) rfl
theorem mw_451 : .methodLink RCM 168 yCM_mostSpecial ∈ wAll := wa (tb_4 _ (List.mem_of_getElem? (i := 71) rfl)) rfl
theorem mw_452 : .instanceMethod yCM_mostSpecial ∈ wAll := wa (tb_4 _ (List.mem_of_getElem? (i := 73) rfl)) rfl
theorem mw_453 : .selects RCM yCM_mostSpecial yCM_mostSpecial ∈ wAll := wa (ps_3 _ (List.mem_of_getElem? (i := 15) rfl)) rfl
theorem mw_454 : .code yCM_mostSpecial cCM_mostSpecial 9 (some .int) ∈ wAll := wa (tb_4 _ (List.mem_of_getElem? (i := 74) rfl)) rfl
theorem mw_455 : .methodLink RCM 143 yCM_typeAt ∈ wAll := wa (tb_4 _ (List.mem_of_getElem? (i := 47) rfl)) rfl
theorem mw_456 : .instanceMethod yCM_typeAt ∈ wAll := wa (tb_4 _ (List.mem_of_getElem? (i := 49) rfl)) rfl
theorem mw_457 : .selects RCM yCM_typeAt yCM_typeAt ∈ wAll := wa (ps_3 _ (List.mem_of_getElem? (i := 9) rfl)) rfl
theorem mw_458 : .code yCM_typeAt cCM_typeAt 5 (some .int) ∈ wAll := wa (tb_4 _ (List.mem_of_getElem? (i := 50) rfl)) rfl
theorem mw_459 : .methodLink RCM 156 yCM_isFiner ∈ wAll := wa (tb_4 _ (List.mem_of_getElem? (i := 67) rfl)) rfl
theorem mw_460 : .instanceMethod yCM_isFiner ∈ wAll := wa (tb_4 _ (List.mem_of_getElem? (i := 69) rfl)) rfl
theorem mw_461 : .selects RCM yCM_isFiner yCM_isFiner ∈ wAll := wa (ps_3 _ (List.mem_of_getElem? (i := 14) rfl)) rfl
theorem mw_462 : .code yCM_isFiner cCM_isFiner 9 (some .boolean) ∈ wAll := wa (tb_4 _ (List.mem_of_getElem? (i := 70) rfl)) rfl
theorem mw_463 : .methodLink RCM 165 yCM_isSpecial ∈ wAll := wa (tb_4 _ (List.mem_of_getElem? (i := 63) rfl)) rfl
theorem mw_464 : .instanceMethod yCM_isSpecial ∈ wAll := wa (tb_4 _ (List.mem_of_getElem? (i := 65) rfl)) rfl
theorem mw_465 : .selects RCM yCM_isSpecial yCM_isSpecial ∈ wAll := wa (ps_3 _ (List.mem_of_getElem? (i := 13) rfl)) rfl
theorem mw_466 : .code yCM_isSpecial cCM_isSpecial 7 (some .boolean) ∈ wAll := wa (tb_4 _ (List.mem_of_getElem? (i := 66) rfl)) rfl
theorem mw_467 : .methodLink RCM 140 yCM_hasShape ∈ wAll := wa (tb_4 _ (List.mem_of_getElem? (i := 43) rfl)) rfl
theorem mw_468 : .instanceMethod yCM_hasShape ∈ wAll := wa (tb_4 _ (List.mem_of_getElem? (i := 45) rfl)) rfl
theorem mw_469 : .selects RCM yCM_hasShape yCM_hasShape ∈ wAll := wa (ps_3 _ (List.mem_of_getElem? (i := 8) rfl)) rfl
theorem mw_470 : .code yCM_hasShape cCM_hasShape 4 (some .boolean) ∈ wAll := wa (tb_4 _ (List.mem_of_getElem? (i := 46) rfl)) rfl
theorem mw_471 : .methodLink RCM 150 yCM_passes ∈ wAll := wa (tb_4 _ (List.mem_of_getElem? (i := 59) rfl)) rfl
theorem mw_472 : .instanceMethod yCM_passes ∈ wAll := wa (tb_4 _ (List.mem_of_getElem? (i := 61) rfl)) rfl
theorem mw_473 : .selects RCM yCM_passes yCM_passes ∈ wAll := wa (ps_3 _ (List.mem_of_getElem? (i := 12) rfl)) rfl
theorem mw_474 : .code yCM_passes cCM_passes 4 (some .boolean) ∈ wAll := wa (tb_4 _ (List.mem_of_getElem? (i := 62) rfl)) rfl
theorem mw_475 : .methodLink RCM 147 yCM_takes ∈ wAll := wa (tb_4 _ (List.mem_of_getElem? (i := 55) rfl)) rfl
theorem mw_476 : .instanceMethod yCM_takes ∈ wAll := wa (tb_4 _ (List.mem_of_getElem? (i := 57) rfl)) rfl
theorem mw_477 : .selects RCM yCM_takes yCM_takes ∈ wAll := wa (ps_3 _ (List.mem_of_getElem? (i := 11) rfl)) rfl
theorem mw_478 : .code yCM_takes cCM_takes 7 (some .boolean) ∈ wAll := wa (tb_4 _ (List.mem_of_getElem? (i := 58) rfl)) rfl
theorem mw_479 : .methodLink RCM 162 yCM_doesApply ∈ wAll := wa (tb_4 _ (List.mem_of_getElem? (i := 51) rfl)) rfl
theorem mw_480 : .instanceMethod yCM_doesApply ∈ wAll := wa (tb_4 _ (List.mem_of_getElem? (i := 53) rfl)) rfl
theorem mw_481 : .selects RCM yCM_doesApply yCM_doesApply ∈ wAll := wa (ps_3 _ (List.mem_of_getElem? (i := 10) rfl)) rfl
theorem mw_482 : .code yCM_doesApply cCM_doesApply 5 (some .boolean) ∈ wAll := wa (tb_4 _ (List.mem_of_getElem? (i := 54) rfl)) rfl
theorem mw_483 : .methodLink RCM 159 yCM_isMeant ∈ wAll := wa (tb_4 _ (List.mem_of_getElem? (i := 39) rfl)) rfl
theorem mw_484 : .instanceMethod yCM_isMeant ∈ wAll := wa (tb_4 _ (List.mem_of_getElem? (i := 41) rfl)) rfl
theorem mw_485 : .selects RCM yCM_isMeant yCM_isMeant ∈ wAll := wa (ps_3 _ (List.mem_of_getElem? (i := 7) rfl)) rfl
theorem mw_486 : .code yCM_isMeant cCM_isMeant 5 (some .boolean) ∈ wAll := wa (tb_4 _ (List.mem_of_getElem? (i := 42) rfl)) rfl
end
section
theorem dC1_add_0 : decode cC1_add 0 = .ok (.aload_n 0, 1) := by decide +kernel
theorem dC1_add_1 : decode cC1_add 1 = .ok (.getfield 32, 3) := by decide +kernel
theorem dC1_add_4 : decode cC1_add 4 = .ok (.bipush 24, 2) := by decide +kernel
theorem dC1_add_6 : decode cC1_add 6 = .ok (.if_icmp .ge 13, 3) := by decide +kernel
theorem dC1_add_9 : decode cC1_add 9 = .ok (.iload_n 1, 1) := by decide +kernel
theorem dC1_add_10 : decode cC1_add 10 = .ok (.ifCond .lt 9, 3) := by decide +kernel
theorem dC1_add_13 : decode cC1_add 13 = .ok (.iload_n 1, 1) := by decide +kernel
theorem dC1_add_14 : decode cC1_add 14 = .ok (.bipush 40, 2) := by decide +kernel
theorem dC1_add_16 : decode cC1_add 16 = .ok (.if_icmp .lt 6, 3) := by decide +kernel
theorem dC1_add_19 : decode cC1_add 19 = .ok (.bipush (-2), 2) := by decide +kernel
theorem dC1_add_21 : decode cC1_add 21 = .ok (.ireturn, 1) := by decide +kernel
theorem dC1_add_22 : decode cC1_add 22 = .ok (.bipush 16, 2) := by decide +kernel
theorem dC1_add_24 : decode cC1_add 24 = .ok (.aload_n 0, 1) := by decide +kernel
theorem dC1_add_25 : decode cC1_add 25 = .ok (.getfield 32, 3) := by decide +kernel
theorem dC1_add_28 : decode cC1_add 28 = .ok (.iadd, 1) := by decide +kernel
theorem dC1_add_29 : decode cC1_add 29 = .ok (.istore_n 3, 1) := by decide +kernel
theorem dC1_add_30 : decode cC1_add 30 = .ok (.aload_n 0, 1) := by decide +kernel
theorem dC1_add_31 : decode cC1_add 31 = .ok (.getfield 21, 3) := by decide +kernel
theorem dC1_add_34 : decode cC1_add 34 = .ok (.iload_n 3, 1) := by decide +kernel
theorem dC1_add_35 : decode cC1_add 35 = .ok (.aload_n 0, 1) := by decide +kernel
theorem dC1_add_36 : decode cC1_add 36 = .ok (.getfield 21, 3) := by decide +kernel
theorem dC1_add_39 : decode cC1_add 39 = .ok (.iload_n 1, 1) := by decide +kernel
theorem dC1_add_40 : decode cC1_add 40 = .ok (.laload, 1) := by decide +kernel
theorem dC1_add_41 : decode cC1_add 41 = .ok (.lconst 1, 1) := by decide +kernel
theorem dC1_add_42 : decode cC1_add 42 = .ok (.iload_n 3, 1) := by decide +kernel
theorem dC1_add_43 : decode cC1_add 43 = .ok (.lshl, 1) := by decide +kernel
theorem dC1_add_44 : decode cC1_add 44 = .ok (.lor, 1) := by decide +kernel
theorem dC1_add_45 : decode cC1_add 45 = .ok (.lastore, 1) := by decide +kernel
theorem dC1_add_46 : decode cC1_add 46 = .ok (.aload_n 0, 1) := by decide +kernel
theorem dC1_add_47 : decode cC1_add 47 = .ok (.getfield 28, 3) := by decide +kernel
theorem dC1_add_50 : decode cC1_add 50 = .ok (.aload_n 0, 1) := by decide +kernel
theorem dC1_add_51 : decode cC1_add 51 = .ok (.getfield 32, 3) := by decide +kernel
theorem dC1_add_54 : decode cC1_add 54 = .ok (.iload_n 2, 1) := by decide +kernel
theorem dC1_add_55 : decode cC1_add 55 = .ok (.bastore, 1) := by decide +kernel
theorem dC1_add_56 : decode cC1_add 56 = .ok (.aload_n 0, 1) := by decide +kernel
theorem dC1_add_57 : decode cC1_add 57 = .ok (.dup, 1) := by decide +kernel
theorem dC1_add_58 : decode cC1_add 58 = .ok (.getfield 32, 3) := by decide +kernel
theorem dC1_add_61 : decode cC1_add 61 = .ok (.iconst 1, 1) := by decide +kernel
theorem dC1_add_62 : decode cC1_add 62 = .ok (.iadd, 1) := by decide +kernel
theorem dC1_add_63 : decode cC1_add 63 = .ok (.putfield 32, 3) := by decide +kernel
theorem dC1_add_66 : decode cC1_add 66 = .ok (.iload_n 3, 1) := by decide +kernel
theorem dC1_add_67 : decode cC1_add 67 = .ok (.ireturn, 1) := by decide +kernel
theorem dC1_isTold_0 : decode cC1_isTold 0 = .ok (.iload_n 1, 1) := by decide +kernel
theorem dC1_isTold_1 : decode cC1_isTold 1 = .ok (.bipush 16, 2) := by decide +kernel
theorem dC1_isTold_3 : decode cC1_isTold 3 = .ok (.if_icmp .lt 18, 3) := by decide +kernel
theorem dC1_isTold_6 : decode cC1_isTold 6 = .ok (.iload_n 1, 1) := by decide +kernel
theorem dC1_isTold_7 : decode cC1_isTold 7 = .ok (.bipush 16, 2) := by decide +kernel
theorem dC1_isTold_9 : decode cC1_isTold 9 = .ok (.aload_n 0, 1) := by decide +kernel
theorem dC1_isTold_10 : decode cC1_isTold 10 = .ok (.getfield 32, 3) := by decide +kernel
theorem dC1_isTold_13 : decode cC1_isTold 13 = .ok (.iadd, 1) := by decide +kernel
theorem dC1_isTold_14 : decode cC1_isTold 14 = .ok (.if_icmp .ge 7, 3) := by decide +kernel
theorem dC1_isTold_17 : decode cC1_isTold 17 = .ok (.iconst 1, 1) := by decide +kernel
theorem dC1_isTold_18 : decode cC1_isTold 18 = .ok (.goto 4, 3) := by decide +kernel
theorem dC1_isTold_21 : decode cC1_isTold 21 = .ok (.iconst 0, 1) := by decide +kernel
theorem dC1_isTold_22 : decode cC1_isTold 22 = .ok (.ireturn, 1) := by decide +kernel
theorem dC1_isInterface_0 : decode cC1_isInterface 0 = .ok (.aload_n 0, 1) := by decide +kernel
theorem dC1_isInterface_1 : decode cC1_isInterface 1 = .ok (.iload_n 1, 1) := by decide +kernel
theorem dC1_isInterface_2 : decode cC1_isInterface 2 = .ok (.invokevirtual 36, 3) := by decide +kernel
theorem dC1_isInterface_5 : decode cC1_isInterface 5 = .ok (.ifCond .eq 19, 3) := by decide +kernel
theorem dC1_isInterface_8 : decode cC1_isInterface 8 = .ok (.aload_n 0, 1) := by decide +kernel
theorem dC1_isInterface_9 : decode cC1_isInterface 9 = .ok (.getfield 28, 3) := by decide +kernel
theorem dC1_isInterface_12 : decode cC1_isInterface 12 = .ok (.iload_n 1, 1) := by decide +kernel
theorem dC1_isInterface_13 : decode cC1_isInterface 13 = .ok (.bipush 16, 2) := by decide +kernel
theorem dC1_isInterface_15 : decode cC1_isInterface 15 = .ok (.isub, 1) := by decide +kernel
theorem dC1_isInterface_16 : decode cC1_isInterface 16 = .ok (.baload, 1) := by decide +kernel
theorem dC1_isInterface_17 : decode cC1_isInterface 17 = .ok (.ifCond .eq 7, 3) := by decide +kernel
theorem dC1_isInterface_20 : decode cC1_isInterface 20 = .ok (.iconst 1, 1) := by decide +kernel
theorem dC1_isInterface_21 : decode cC1_isInterface 21 = .ok (.goto 4, 3) := by decide +kernel
theorem dC1_isInterface_24 : decode cC1_isInterface 24 = .ok (.iconst 0, 1) := by decide +kernel
theorem dC1_isInterface_25 : decode cC1_isInterface 25 = .ok (.ireturn, 1) := by decide +kernel
theorem dC0_cls_0 : decode cC0_cls 0 = .ok (.iload_n 1, 1) := by decide +kernel
theorem dC0_cls_1 : decode cC0_cls 1 = .ok (.bipush 8, 2) := by decide +kernel
theorem dC0_cls_3 : decode cC0_cls 3 = .ok (.if_icmp .eq 25, 3) := by decide +kernel
theorem dC0_cls_6 : decode cC0_cls 6 = .ok (.aload_n 0, 1) := by decide +kernel
theorem dC0_cls_7 : decode cC0_cls 7 = .ok (.getfield 10, 3) := by decide +kernel
theorem dC0_cls_10 : decode cC0_cls 10 = .ok (.iload_n 1, 1) := by decide +kernel
theorem dC0_cls_11 : decode cC0_cls 11 = .ok (.invokevirtual 45, 3) := by decide +kernel
theorem dC0_cls_14 : decode cC0_cls 14 = .ok (.ifCond .eq 18, 3) := by decide +kernel
theorem dC0_cls_17 : decode cC0_cls 17 = .ok (.aload_n 0, 1) := by decide +kernel
theorem dC0_cls_18 : decode cC0_cls 18 = .ok (.getfield 10, 3) := by decide +kernel
theorem dC0_cls_21 : decode cC0_cls 21 = .ok (.iload_n 1, 1) := by decide +kernel
theorem dC0_cls_22 : decode cC0_cls 22 = .ok (.invokevirtual 49, 3) := by decide +kernel
theorem dC0_cls_25 : decode cC0_cls 25 = .ok (.ifCond .ne 7, 3) := by decide +kernel
theorem dC0_cls_28 : decode cC0_cls 28 = .ok (.iconst 1, 1) := by decide +kernel
theorem dC0_cls_29 : decode cC0_cls 29 = .ok (.goto 4, 3) := by decide +kernel
theorem dC0_cls_32 : decode cC0_cls 32 = .ok (.iconst 0, 1) := by decide +kernel
theorem dC0_cls_33 : decode cC0_cls 33 = .ok (.istore_n 2, 1) := by decide +kernel
theorem dC0_cls_34 : decode cC0_cls 34 = .ok (.iload_n 2, 1) := by decide +kernel
theorem dC0_cls_35 : decode cC0_cls 35 = .ok (.ifCond .eq 15, 3) := by decide +kernel
theorem dC0_cls_38 : decode cC0_cls 38 = .ok (.aload_n 0, 1) := by decide +kernel
theorem dC0_cls_39 : decode cC0_cls 39 = .ok (.getfield 10, 3) := by decide +kernel
theorem dC0_cls_42 : decode cC0_cls 42 = .ok (.iload_n 1, 1) := by decide +kernel
theorem dC0_cls_43 : decode cC0_cls 43 = .ok (.iconst 0, 1) := by decide +kernel
theorem dC0_cls_44 : decode cC0_cls 44 = .ok (.invokevirtual 52, 3) := by decide +kernel
theorem dC0_cls_47 : decode cC0_cls 47 = .ok (.goto 5, 3) := by decide +kernel
theorem dC0_cls_50 : decode cC0_cls 50 = .ok (.bipush (-2), 2) := by decide +kernel
theorem dC0_cls_52 : decode cC0_cls 52 = .ok (.ireturn, 1) := by decide +kernel
theorem dC0_face_0 : decode cC0_face 0 = .ok (.aload_n 0, 1) := by decide +kernel
theorem dC0_face_1 : decode cC0_face 1 = .ok (.getfield 10, 3) := by decide +kernel
theorem dC0_face_4 : decode cC0_face 4 = .ok (.bipush 8, 2) := by decide +kernel
theorem dC0_face_6 : decode cC0_face 6 = .ok (.iconst 1, 1) := by decide +kernel
theorem dC0_face_7 : decode cC0_face 7 = .ok (.invokevirtual 52, 3) := by decide +kernel
theorem dC0_face_10 : decode cC0_face 10 = .ok (.ireturn, 1) := by decide +kernel
theorem dJI_bitCount_0 : decode cJI_bitCount 0 = .ok (.iload_n 0, 1) := by decide +kernel
theorem dJI_bitCount_1 : decode cJI_bitCount 1 = .ok (.iload_n 0, 1) := by decide +kernel
theorem dJI_bitCount_2 : decode cJI_bitCount 2 = .ok (.iconst 1, 1) := by decide +kernel
theorem dJI_bitCount_3 : decode cJI_bitCount 3 = .ok (.iushr, 1) := by decide +kernel
theorem dJI_bitCount_4 : decode cJI_bitCount 4 = .ok (.ldc_w 265, 3) := by decide +kernel
theorem dJI_bitCount_7 : decode cJI_bitCount 7 = .ok (.iand, 1) := by decide +kernel
theorem dJI_bitCount_8 : decode cJI_bitCount 8 = .ok (.isub, 1) := by decide +kernel
theorem dJI_bitCount_9 : decode cJI_bitCount 9 = .ok (.istore_n 0, 1) := by decide +kernel
theorem dJI_bitCount_10 : decode cJI_bitCount 10 = .ok (.iload_n 0, 1) := by decide +kernel
theorem dJI_bitCount_11 : decode cJI_bitCount 11 = .ok (.ldc_w 266, 3) := by decide +kernel
theorem dJI_bitCount_14 : decode cJI_bitCount 14 = .ok (.iand, 1) := by decide +kernel
theorem dJI_bitCount_15 : decode cJI_bitCount 15 = .ok (.iload_n 0, 1) := by decide +kernel
theorem dJI_bitCount_16 : decode cJI_bitCount 16 = .ok (.iconst 2, 1) := by decide +kernel
theorem dJI_bitCount_17 : decode cJI_bitCount 17 = .ok (.iushr, 1) := by decide +kernel
theorem dJI_bitCount_18 : decode cJI_bitCount 18 = .ok (.ldc_w 266, 3) := by decide +kernel
theorem dJI_bitCount_21 : decode cJI_bitCount 21 = .ok (.iand, 1) := by decide +kernel
theorem dJI_bitCount_22 : decode cJI_bitCount 22 = .ok (.iadd, 1) := by decide +kernel
theorem dJI_bitCount_23 : decode cJI_bitCount 23 = .ok (.istore_n 0, 1) := by decide +kernel
theorem dJI_bitCount_24 : decode cJI_bitCount 24 = .ok (.iload_n 0, 1) := by decide +kernel
theorem dJI_bitCount_25 : decode cJI_bitCount 25 = .ok (.iload_n 0, 1) := by decide +kernel
theorem dJI_bitCount_26 : decode cJI_bitCount 26 = .ok (.iconst 4, 1) := by decide +kernel
theorem dJI_bitCount_27 : decode cJI_bitCount 27 = .ok (.iushr, 1) := by decide +kernel
theorem dJI_bitCount_28 : decode cJI_bitCount 28 = .ok (.iadd, 1) := by decide +kernel
theorem dJI_bitCount_29 : decode cJI_bitCount 29 = .ok (.ldc_w 267, 3) := by decide +kernel
theorem dJI_bitCount_32 : decode cJI_bitCount 32 = .ok (.iand, 1) := by decide +kernel
theorem dJI_bitCount_33 : decode cJI_bitCount 33 = .ok (.istore_n 0, 1) := by decide +kernel
theorem dJI_bitCount_34 : decode cJI_bitCount 34 = .ok (.iload_n 0, 1) := by decide +kernel
theorem dJI_bitCount_35 : decode cJI_bitCount 35 = .ok (.iload_n 0, 1) := by decide +kernel
theorem dJI_bitCount_36 : decode cJI_bitCount 36 = .ok (.bipush 8, 2) := by decide +kernel
theorem dJI_bitCount_38 : decode cJI_bitCount 38 = .ok (.iushr, 1) := by decide +kernel
theorem dJI_bitCount_39 : decode cJI_bitCount 39 = .ok (.iadd, 1) := by decide +kernel
theorem dJI_bitCount_40 : decode cJI_bitCount 40 = .ok (.istore_n 0, 1) := by decide +kernel
theorem dJI_bitCount_41 : decode cJI_bitCount 41 = .ok (.iload_n 0, 1) := by decide +kernel
theorem dJI_bitCount_42 : decode cJI_bitCount 42 = .ok (.iload_n 0, 1) := by decide +kernel
theorem dJI_bitCount_43 : decode cJI_bitCount 43 = .ok (.bipush 16, 2) := by decide +kernel
theorem dJI_bitCount_45 : decode cJI_bitCount 45 = .ok (.iushr, 1) := by decide +kernel
theorem dJI_bitCount_46 : decode cJI_bitCount 46 = .ok (.iadd, 1) := by decide +kernel
theorem dJI_bitCount_47 : decode cJI_bitCount 47 = .ok (.istore_n 0, 1) := by decide +kernel
theorem dJI_bitCount_48 : decode cJI_bitCount 48 = .ok (.iload_n 0, 1) := by decide +kernel
theorem dJI_bitCount_49 : decode cJI_bitCount 49 = .ok (.bipush 63, 2) := by decide +kernel
theorem dJI_bitCount_51 : decode cJI_bitCount 51 = .ok (.iand, 1) := by decide +kernel
theorem dJI_bitCount_52 : decode cJI_bitCount 52 = .ok (.ireturn, 1) := by decide +kernel
theorem dC1_isA_0 : decode cC1_isA 0 = .ok (.iload_n 1, 1) := by decide +kernel
theorem dC1_isA_1 : decode cC1_isA 1 = .ok (.iload_n 2, 1) := by decide +kernel
theorem dC1_isA_2 : decode cC1_isA 2 = .ok (.if_icmp .ne 5, 3) := by decide +kernel
theorem dC1_isA_5 : decode cC1_isA 5 = .ok (.iconst 1, 1) := by decide +kernel
theorem dC1_isA_6 : decode cC1_isA 6 = .ok (.ireturn, 1) := by decide +kernel
theorem dC1_isA_7 : decode cC1_isA 7 = .ok (.iload_n 1, 1) := by decide +kernel
theorem dC1_isA_8 : decode cC1_isA 8 = .ok (.bipush 64, 2) := by decide +kernel
theorem dC1_isA_10 : decode cC1_isA 10 = .ok (.if_icmp .lt 7, 3) := by decide +kernel
theorem dC1_isA_13 : decode cC1_isA 13 = .ok (.iconst 1, 1) := by decide +kernel
theorem dC1_isA_14 : decode cC1_isA 14 = .ok (.goto 4, 3) := by decide +kernel
theorem dC1_isA_17 : decode cC1_isA 17 = .ok (.iconst 0, 1) := by decide +kernel
theorem dC1_isA_18 : decode cC1_isA 18 = .ok (.istore_n 3, 1) := by decide +kernel
theorem dC1_isA_19 : decode cC1_isA 19 = .ok (.iload_n 3, 1) := by decide +kernel
theorem dC1_isA_20 : decode cC1_isA 20 = .ok (.iload_n 2, 1) := by decide +kernel
theorem dC1_isA_21 : decode cC1_isA 21 = .ok (.bipush 64, 2) := by decide +kernel
theorem dC1_isA_23 : decode cC1_isA 23 = .ok (.if_icmp .lt 7, 3) := by decide +kernel
theorem dC1_isA_26 : decode cC1_isA 26 = .ok (.iconst 1, 1) := by decide +kernel
theorem dC1_isA_27 : decode cC1_isA 27 = .ok (.goto 4, 3) := by decide +kernel
theorem dC1_isA_30 : decode cC1_isA 30 = .ok (.iconst 0, 1) := by decide +kernel
theorem dC1_isA_31 : decode cC1_isA 31 = .ok (.if_icmp .eq 33, 3) := by decide +kernel
theorem dC1_isA_34 : decode cC1_isA 34 = .ok (.iload_n 3, 1) := by decide +kernel
theorem dC1_isA_35 : decode cC1_isA 35 = .ok (.ifCond .eq 17, 3) := by decide +kernel
theorem dC1_isA_38 : decode cC1_isA 38 = .ok (.iload_n 2, 1) := by decide +kernel
theorem dC1_isA_39 : decode cC1_isA 39 = .ok (.bipush 8, 2) := by decide +kernel
theorem dC1_isA_41 : decode cC1_isA 41 = .ok (.if_icmp .ne 7, 3) := by decide +kernel
theorem dC1_isA_44 : decode cC1_isA 44 = .ok (.iconst 1, 1) := by decide +kernel
theorem dC1_isA_45 : decode cC1_isA 45 = .ok (.goto 18, 3) := by decide +kernel
theorem dC1_isA_48 : decode cC1_isA 48 = .ok (.iconst 0, 1) := by decide +kernel
theorem dC1_isA_49 : decode cC1_isA 49 = .ok (.goto 14, 3) := by decide +kernel
theorem dC1_isA_52 : decode cC1_isA 52 = .ok (.iload_n 1, 1) := by decide +kernel
theorem dC1_isA_53 : decode cC1_isA 53 = .ok (.bipush 10, 2) := by decide +kernel
theorem dC1_isA_55 : decode cC1_isA 55 = .ok (.if_icmp .ne 7, 3) := by decide +kernel
theorem dC1_isA_58 : decode cC1_isA 58 = .ok (.iconst 1, 1) := by decide +kernel
theorem dC1_isA_59 : decode cC1_isA 59 = .ok (.goto 4, 3) := by decide +kernel
theorem dC1_isA_62 : decode cC1_isA 62 = .ok (.iconst 0, 1) := by decide +kernel
theorem dC1_isA_63 : decode cC1_isA 63 = .ok (.ireturn, 1) := by decide +kernel
theorem dC1_isA_64 : decode cC1_isA 64 = .ok (.iload_n 3, 1) := by decide +kernel
theorem dC1_isA_65 : decode cC1_isA 65 = .ok (.ifCond .eq 10, 3) := by decide +kernel
theorem dC1_isA_68 : decode cC1_isA 68 = .ok (.iload_n 1, 1) := by decide +kernel
theorem dC1_isA_69 : decode cC1_isA 69 = .ok (.bipush 64, 2) := by decide +kernel
theorem dC1_isA_71 : decode cC1_isA 71 = .ok (.isub, 1) := by decide +kernel
theorem dC1_isA_72 : decode cC1_isA 72 = .ok (.goto 4, 3) := by decide +kernel
theorem dC1_isA_75 : decode cC1_isA 75 = .ok (.iload_n 1, 1) := by decide +kernel
theorem dC1_isA_76 : decode cC1_isA 76 = .ok (.istore 4, 2) := by decide +kernel
theorem dC1_isA_78 : decode cC1_isA 78 = .ok (.iload_n 3, 1) := by decide +kernel
theorem dC1_isA_79 : decode cC1_isA 79 = .ok (.ifCond .eq 10, 3) := by decide +kernel
theorem dC1_isA_82 : decode cC1_isA 82 = .ok (.iload_n 2, 1) := by decide +kernel
theorem dC1_isA_83 : decode cC1_isA 83 = .ok (.bipush 64, 2) := by decide +kernel
theorem dC1_isA_85 : decode cC1_isA 85 = .ok (.isub, 1) := by decide +kernel
theorem dC1_isA_86 : decode cC1_isA 86 = .ok (.goto 4, 3) := by decide +kernel
theorem dC1_isA_89 : decode cC1_isA 89 = .ok (.iload_n 2, 1) := by decide +kernel
theorem dC1_isA_90 : decode cC1_isA 90 = .ok (.istore 5, 2) := by decide +kernel
theorem dC1_isA_92 : decode cC1_isA 92 = .ok (.iload_n 3, 1) := by decide +kernel
theorem dC1_isA_93 : decode cC1_isA 93 = .ok (.ifCond .eq 11, 3) := by decide +kernel
theorem dC1_isA_96 : decode cC1_isA 96 = .ok (.iload 4, 2) := by decide +kernel
theorem dC1_isA_98 : decode cC1_isA 98 = .ok (.iconst 3, 1) := by decide +kernel
theorem dC1_isA_99 : decode cC1_isA 99 = .ok (.if_icmp .gt 5, 3) := by decide +kernel
theorem dC1_isA_102 : decode cC1_isA 102 = .ok (.iconst 0, 1) := by decide +kernel
theorem dC1_isA_103 : decode cC1_isA 103 = .ok (.ireturn, 1) := by decide +kernel
theorem dC1_isA_104 : decode cC1_isA 104 = .ok (.iload 4, 2) := by decide +kernel
theorem dC1_isA_106 : decode cC1_isA 106 = .ok (.ifCond .lt 43, 3) := by decide +kernel
theorem dC1_isA_109 : decode cC1_isA 109 = .ok (.iload 4, 2) := by decide +kernel
theorem dC1_isA_111 : decode cC1_isA 111 = .ok (.bipush 40, 2) := by decide +kernel
theorem dC1_isA_113 : decode cC1_isA 113 = .ok (.if_icmp .ge 36, 3) := by decide +kernel
theorem dC1_isA_116 : decode cC1_isA 116 = .ok (.iload 5, 2) := by decide +kernel
theorem dC1_isA_118 : decode cC1_isA 118 = .ok (.ifCond .lt 31, 3) := by decide +kernel
theorem dC1_isA_121 : decode cC1_isA 121 = .ok (.iload 5, 2) := by decide +kernel
theorem dC1_isA_123 : decode cC1_isA 123 = .ok (.bipush 40, 2) := by decide +kernel
theorem dC1_isA_125 : decode cC1_isA 125 = .ok (.if_icmp .ge 24, 3) := by decide +kernel
theorem dC1_isA_128 : decode cC1_isA 128 = .ok (.aload_n 0, 1) := by decide +kernel
theorem dC1_isA_129 : decode cC1_isA 129 = .ok (.getfield 21, 3) := by decide +kernel
theorem dC1_isA_132 : decode cC1_isA 132 = .ok (.iload 4, 2) := by decide +kernel
theorem dC1_isA_134 : decode cC1_isA 134 = .ok (.laload, 1) := by decide +kernel
theorem dC1_isA_135 : decode cC1_isA 135 = .ok (.iload 5, 2) := by decide +kernel
theorem dC1_isA_137 : decode cC1_isA 137 = .ok (.lushr, 1) := by decide +kernel
theorem dC1_isA_138 : decode cC1_isA 138 = .ok (.lconst 1, 1) := by decide +kernel
theorem dC1_isA_139 : decode cC1_isA 139 = .ok (.land, 1) := by decide +kernel
theorem dC1_isA_140 : decode cC1_isA 140 = .ok (.lconst 0, 1) := by decide +kernel
theorem dC1_isA_141 : decode cC1_isA 141 = .ok (.lcmp, 1) := by decide +kernel
theorem dC1_isA_142 : decode cC1_isA 142 = .ok (.ifCond .eq 7, 3) := by decide +kernel
theorem dC1_isA_145 : decode cC1_isA 145 = .ok (.iconst 1, 1) := by decide +kernel
theorem dC1_isA_146 : decode cC1_isA 146 = .ok (.goto 4, 3) := by decide +kernel
theorem dC1_isA_149 : decode cC1_isA 149 = .ok (.iconst 0, 1) := by decide +kernel
theorem dC1_isA_150 : decode cC1_isA 150 = .ok (.ireturn, 1) := by decide +kernel
theorem dC1_putBelow_0 : decode cC1_putBelow 0 = .ok (.aload_n 0, 1) := by decide +kernel
theorem dC1_putBelow_1 : decode cC1_putBelow 1 = .ok (.iload_n 1, 1) := by decide +kernel
theorem dC1_putBelow_2 : decode cC1_putBelow 2 = .ok (.invokevirtual 36, 3) := by decide +kernel
theorem dC1_putBelow_5 : decode cC1_putBelow 5 = .ok (.ifCond .eq 11, 3) := by decide +kernel
theorem dC1_putBelow_8 : decode cC1_putBelow 8 = .ok (.aload_n 0, 1) := by decide +kernel
theorem dC1_putBelow_9 : decode cC1_putBelow 9 = .ok (.iload_n 2, 1) := by decide +kernel
theorem dC1_putBelow_10 : decode cC1_putBelow 10 = .ok (.invokevirtual 49, 3) := by decide +kernel
theorem dC1_putBelow_13 : decode cC1_putBelow 13 = .ok (.ifCond .ne 6, 3) := by decide +kernel
theorem dC1_putBelow_16 : decode cC1_putBelow 16 = .ok (.bipush (-2), 2) := by decide +kernel
theorem dC1_putBelow_18 : decode cC1_putBelow 18 = .ok (.ireturn, 1) := by decide +kernel
theorem dC1_putBelow_19 : decode cC1_putBelow 19 = .ok (.iload_n 1, 1) := by decide +kernel
theorem dC1_putBelow_20 : decode cC1_putBelow 20 = .ok (.bipush 16, 2) := by decide +kernel
theorem dC1_putBelow_22 : decode cC1_putBelow 22 = .ok (.isub, 1) := by decide +kernel
theorem dC1_putBelow_23 : decode cC1_putBelow 23 = .ok (.istore_n 3, 1) := by decide +kernel
theorem dC1_putBelow_24 : decode cC1_putBelow 24 = .ok (.iconst 1, 1) := by decide +kernel
theorem dC1_putBelow_25 : decode cC1_putBelow 25 = .ok (.iload_n 2, 1) := by decide +kernel
theorem dC1_putBelow_26 : decode cC1_putBelow 26 = .ok (.bipush 16, 2) := by decide +kernel
theorem dC1_putBelow_28 : decode cC1_putBelow 28 = .ok (.isub, 1) := by decide +kernel
theorem dC1_putBelow_29 : decode cC1_putBelow 29 = .ok (.ishl, 1) := by decide +kernel
theorem dC1_putBelow_30 : decode cC1_putBelow 30 = .ok (.istore 4, 2) := by decide +kernel
theorem dC1_putBelow_32 : decode cC1_putBelow 32 = .ok (.aload_n 0, 1) := by decide +kernel
theorem dC1_putBelow_33 : decode cC1_putBelow 33 = .ok (.getfield 24, 3) := by decide +kernel
theorem dC1_putBelow_36 : decode cC1_putBelow 36 = .ok (.iload_n 3, 1) := by decide +kernel
theorem dC1_putBelow_37 : decode cC1_putBelow 37 = .ok (.iaload, 1) := by decide +kernel
theorem dC1_putBelow_38 : decode cC1_putBelow 38 = .ok (.invokestatic 52, 3) := by decide +kernel
theorem dC1_putBelow_41 : decode cC1_putBelow 41 = .ok (.iconst 4, 1) := by decide +kernel
theorem dC1_putBelow_42 : decode cC1_putBelow 42 = .ok (.if_icmp .lt 7, 3) := by decide +kernel
theorem dC1_putBelow_45 : decode cC1_putBelow 45 = .ok (.iconst 1, 1) := by decide +kernel
theorem dC1_putBelow_46 : decode cC1_putBelow 46 = .ok (.goto 4, 3) := by decide +kernel
theorem dC1_putBelow_49 : decode cC1_putBelow 49 = .ok (.iconst 0, 1) := by decide +kernel
theorem dC1_putBelow_50 : decode cC1_putBelow 50 = .ok (.istore 5, 2) := by decide +kernel
theorem dC1_putBelow_52 : decode cC1_putBelow 52 = .ok (.iload 5, 2) := by decide +kernel
theorem dC1_putBelow_54 : decode cC1_putBelow 54 = .ok (.ifCond .ne 24, 3) := by decide +kernel
theorem dC1_putBelow_57 : decode cC1_putBelow 57 = .ok (.aload_n 0, 1) := by decide +kernel
theorem dC1_putBelow_58 : decode cC1_putBelow 58 = .ok (.getfield 24, 3) := by decide +kernel
theorem dC1_putBelow_61 : decode cC1_putBelow 61 = .ok (.iload_n 3, 1) := by decide +kernel
theorem dC1_putBelow_62 : decode cC1_putBelow 62 = .ok (.iaload, 1) := by decide +kernel
theorem dC1_putBelow_63 : decode cC1_putBelow 63 = .ok (.iload 4, 2) := by decide +kernel
theorem dC1_putBelow_65 : decode cC1_putBelow 65 = .ok (.iand, 1) := by decide +kernel
theorem dC1_putBelow_66 : decode cC1_putBelow 66 = .ok (.ifCond .ne 12, 3) := by decide +kernel
theorem dC1_putBelow_69 : decode cC1_putBelow 69 = .ok (.aload_n 0, 1) := by decide +kernel
theorem dC1_putBelow_70 : decode cC1_putBelow 70 = .ok (.iload_n 2, 1) := by decide +kernel
theorem dC1_putBelow_71 : decode cC1_putBelow 71 = .ok (.iload_n 1, 1) := by decide +kernel
theorem dC1_putBelow_72 : decode cC1_putBelow 72 = .ok (.invokevirtual 58, 3) := by decide +kernel
theorem dC1_putBelow_75 : decode cC1_putBelow 75 = .ok (.ifCond .eq 6, 3) := by decide +kernel
theorem dC1_putBelow_78 : decode cC1_putBelow 78 = .ok (.bipush (-2), 2) := by decide +kernel
theorem dC1_putBelow_80 : decode cC1_putBelow 80 = .ok (.ireturn, 1) := by decide +kernel
theorem dC1_putBelow_81 : decode cC1_putBelow 81 = .ok (.aload_n 0, 1) := by decide +kernel
theorem dC1_putBelow_82 : decode cC1_putBelow 82 = .ok (.getfield 24, 3) := by decide +kernel
theorem dC1_putBelow_85 : decode cC1_putBelow 85 = .ok (.iload_n 3, 1) := by decide +kernel
theorem dC1_putBelow_86 : decode cC1_putBelow 86 = .ok (.dup2, 1) := by decide +kernel
theorem dC1_putBelow_87 : decode cC1_putBelow 87 = .ok (.iaload, 1) := by decide +kernel
theorem dC1_putBelow_88 : decode cC1_putBelow 88 = .ok (.iload 4, 2) := by decide +kernel
theorem dC1_putBelow_90 : decode cC1_putBelow 90 = .ok (.ior, 1) := by decide +kernel
theorem dC1_putBelow_91 : decode cC1_putBelow 91 = .ok (.iastore, 1) := by decide +kernel
theorem dC1_putBelow_92 : decode cC1_putBelow 92 = .ok (.bipush 16, 2) := by decide +kernel
theorem dC1_putBelow_94 : decode cC1_putBelow 94 = .ok (.istore 6, 2) := by decide +kernel
theorem dC1_putBelow_96 : decode cC1_putBelow 96 = .ok (.iload 6, 2) := by decide +kernel
theorem dC1_putBelow_98 : decode cC1_putBelow 98 = .ok (.bipush 16, 2) := by decide +kernel
theorem dC1_putBelow_100 : decode cC1_putBelow 100 = .ok (.aload_n 0, 1) := by decide +kernel
theorem dC1_putBelow_101 : decode cC1_putBelow 101 = .ok (.getfield 32, 3) := by decide +kernel
theorem dC1_putBelow_104 : decode cC1_putBelow 104 = .ok (.iadd, 1) := by decide +kernel
theorem dC1_putBelow_105 : decode cC1_putBelow 105 = .ok (.if_icmp .ge 35, 3) := by decide +kernel
theorem dC1_putBelow_108 : decode cC1_putBelow 108 = .ok (.aload_n 0, 1) := by decide +kernel
theorem dC1_putBelow_109 : decode cC1_putBelow 109 = .ok (.iload 6, 2) := by decide +kernel
theorem dC1_putBelow_111 : decode cC1_putBelow 111 = .ok (.iload_n 1, 1) := by decide +kernel
theorem dC1_putBelow_112 : decode cC1_putBelow 112 = .ok (.invokevirtual 58, 3) := by decide +kernel
theorem dC1_putBelow_115 : decode cC1_putBelow 115 = .ok (.ifCond .eq 19, 3) := by decide +kernel
theorem dC1_putBelow_118 : decode cC1_putBelow 118 = .ok (.aload_n 0, 1) := by decide +kernel
theorem dC1_putBelow_119 : decode cC1_putBelow 119 = .ok (.getfield 21, 3) := by decide +kernel
theorem dC1_putBelow_122 : decode cC1_putBelow 122 = .ok (.iload 6, 2) := by decide +kernel
theorem dC1_putBelow_124 : decode cC1_putBelow 124 = .ok (.dup2, 1) := by decide +kernel
theorem dC1_putBelow_125 : decode cC1_putBelow 125 = .ok (.laload, 1) := by decide +kernel
theorem dC1_putBelow_126 : decode cC1_putBelow 126 = .ok (.aload_n 0, 1) := by decide +kernel
theorem dC1_putBelow_127 : decode cC1_putBelow 127 = .ok (.getfield 21, 3) := by decide +kernel
theorem dC1_putBelow_130 : decode cC1_putBelow 130 = .ok (.iload_n 2, 1) := by decide +kernel
theorem dC1_putBelow_131 : decode cC1_putBelow 131 = .ok (.laload, 1) := by decide +kernel
theorem dC1_putBelow_132 : decode cC1_putBelow 132 = .ok (.lor, 1) := by decide +kernel
theorem dC1_putBelow_133 : decode cC1_putBelow 133 = .ok (.lastore, 1) := by decide +kernel
theorem dC1_putBelow_134 : decode cC1_putBelow 134 = .ok (.iinc 6 1, 3) := by decide +kernel
theorem dC1_putBelow_137 : decode cC1_putBelow 137 = .ok (.goto (-41), 3) := by decide +kernel
theorem dC1_putBelow_140 : decode cC1_putBelow 140 = .ok (.aload_n 0, 1) := by decide +kernel
theorem dC1_putBelow_141 : decode cC1_putBelow 141 = .ok (.getfield 24, 3) := by decide +kernel
theorem dC1_putBelow_144 : decode cC1_putBelow 144 = .ok (.iload_n 3, 1) := by decide +kernel
theorem dC1_putBelow_145 : decode cC1_putBelow 145 = .ok (.iaload, 1) := by decide +kernel
theorem dC1_putBelow_146 : decode cC1_putBelow 146 = .ok (.invokestatic 52, 3) := by decide +kernel
theorem dC1_putBelow_149 : decode cC1_putBelow 149 = .ok (.ireturn, 1) := by decide +kernel
theorem dC2_forgetFunctions_0 : decode cC2_forgetFunctions 0 = .ok (.aload_n 0, 1) := by decide +kernel
theorem dC2_forgetFunctions_1 : decode cC2_forgetFunctions 1 = .ok (.iconst 0, 1) := by decide +kernel
theorem dC2_forgetFunctions_2 : decode cC2_forgetFunctions 2 = .ok (.putfield 121, 3) := by decide +kernel
theorem dC2_forgetFunctions_5 : decode cC2_forgetFunctions 5 = .ok (.return_, 1) := by decide +kernel
theorem dC0_below_0 : decode cC0_below 0 = .ok (.aload_n 0, 1) := by decide +kernel
theorem dC0_below_1 : decode cC0_below 1 = .ok (.getfield 10, 3) := by decide +kernel
theorem dC0_below_4 : decode cC0_below 4 = .ok (.iload_n 1, 1) := by decide +kernel
theorem dC0_below_5 : decode cC0_below 5 = .ok (.iload_n 2, 1) := by decide +kernel
theorem dC0_below_6 : decode cC0_below 6 = .ok (.invokevirtual 56, 3) := by decide +kernel
theorem dC0_below_9 : decode cC0_below 9 = .ok (.istore_n 3, 1) := by decide +kernel
theorem dC0_below_10 : decode cC0_below 10 = .ok (.iload_n 3, 1) := by decide +kernel
theorem dC0_below_11 : decode cC0_below 11 = .ok (.bipush (-2), 2) := by decide +kernel
theorem dC0_below_13 : decode cC0_below 13 = .ok (.if_icmp .eq 10, 3) := by decide +kernel
theorem dC0_below_16 : decode cC0_below 16 = .ok (.aload_n 0, 1) := by decide +kernel
theorem dC0_below_17 : decode cC0_below 17 = .ok (.getfield 21, 3) := by decide +kernel
theorem dC0_below_20 : decode cC0_below 20 = .ok (.invokevirtual 60, 3) := by decide +kernel
theorem dC0_below_23 : decode cC0_below 23 = .ok (.iload_n 3, 1) := by decide +kernel
theorem dC0_below_24 : decode cC0_below 24 = .ok (.ireturn, 1) := by decide +kernel
theorem dC2_draftHead_0 : decode cC2_draftHead 0 = .ok (.aload_n 0, 1) := by decide +kernel
theorem dC2_draftHead_1 : decode cC2_draftHead 1 = .ok (.getfield 15, 3) := by decide +kernel
theorem dC2_draftHead_4 : decode cC2_draftHead 4 = .ok (.aload_n 0, 1) := by decide +kernel
theorem dC2_draftHead_5 : decode cC2_draftHead 5 = .ok (.getfield 45, 3) := by decide +kernel
theorem dC2_draftHead_8 : decode cC2_draftHead 8 = .ok (.iload_n 1, 1) := by decide +kernel
theorem dC2_draftHead_9 : decode cC2_draftHead 9 = .ok (.iastore, 1) := by decide +kernel
theorem dC2_draftHead_10 : decode cC2_draftHead 10 = .ok (.aload_n 0, 1) := by decide +kernel
theorem dC2_draftHead_11 : decode cC2_draftHead 11 = .ok (.getfield 19, 3) := by decide +kernel
theorem dC2_draftHead_14 : decode cC2_draftHead 14 = .ok (.aload_n 0, 1) := by decide +kernel
theorem dC2_draftHead_15 : decode cC2_draftHead 15 = .ok (.getfield 45, 3) := by decide +kernel
theorem dC2_draftHead_18 : decode cC2_draftHead 18 = .ok (.iload_n 2, 1) := by decide +kernel
theorem dC2_draftHead_19 : decode cC2_draftHead 19 = .ok (.iastore, 1) := by decide +kernel
theorem dC2_draftHead_20 : decode cC2_draftHead 20 = .ok (.aload_n 0, 1) := by decide +kernel
theorem dC2_draftHead_21 : decode cC2_draftHead 21 = .ok (.getfield 22, 3) := by decide +kernel
theorem dC2_draftHead_24 : decode cC2_draftHead 24 = .ok (.aload_n 0, 1) := by decide +kernel
theorem dC2_draftHead_25 : decode cC2_draftHead 25 = .ok (.getfield 45, 3) := by decide +kernel
theorem dC2_draftHead_28 : decode cC2_draftHead 28 = .ok (.iload_n 3, 1) := by decide +kernel
theorem dC2_draftHead_29 : decode cC2_draftHead 29 = .ok (.iastore, 1) := by decide +kernel
theorem dC2_draftHead_30 : decode cC2_draftHead 30 = .ok (.aload_n 0, 1) := by decide +kernel
theorem dC2_draftHead_31 : decode cC2_draftHead 31 = .ok (.getfield 25, 3) := by decide +kernel
theorem dC2_draftHead_34 : decode cC2_draftHead 34 = .ok (.aload_n 0, 1) := by decide +kernel
theorem dC2_draftHead_35 : decode cC2_draftHead 35 = .ok (.getfield 45, 3) := by decide +kernel
theorem dC2_draftHead_38 : decode cC2_draftHead 38 = .ok (.iload 4, 2) := by decide +kernel
theorem dC2_draftHead_40 : decode cC2_draftHead 40 = .ok (.iastore, 1) := by decide +kernel
theorem dC2_draftHead_41 : decode cC2_draftHead 41 = .ok (.return_, 1) := by decide +kernel
theorem dC2_draftParameters_0 : decode cC2_draftParameters 0 = .ok (.aload_n 0, 1) := by decide +kernel
theorem dC2_draftParameters_1 : decode cC2_draftParameters 1 = .ok (.getfield 45, 3) := by decide +kernel
theorem dC2_draftParameters_4 : decode cC2_draftParameters 4 = .ok (.iconst 4, 1) := by decide +kernel
theorem dC2_draftParameters_5 : decode cC2_draftParameters 5 = .ok (.imul, 1) := by decide +kernel
theorem dC2_draftParameters_6 : decode cC2_draftParameters 6 = .ok (.istore 6, 2) := by decide +kernel
theorem dC2_draftParameters_8 : decode cC2_draftParameters 8 = .ok (.aload_n 0, 1) := by decide +kernel
theorem dC2_draftParameters_9 : decode cC2_draftParameters 9 = .ok (.getfield 28, 3) := by decide +kernel
theorem dC2_draftParameters_12 : decode cC2_draftParameters 12 = .ok (.aload_n 0, 1) := by decide +kernel
theorem dC2_draftParameters_13 : decode cC2_draftParameters 13 = .ok (.getfield 45, 3) := by decide +kernel
theorem dC2_draftParameters_16 : decode cC2_draftParameters 16 = .ok (.iload_n 1, 1) := by decide +kernel
theorem dC2_draftParameters_17 : decode cC2_draftParameters 17 = .ok (.iastore, 1) := by decide +kernel
theorem dC2_draftParameters_18 : decode cC2_draftParameters 18 = .ok (.aload_n 0, 1) := by decide +kernel
theorem dC2_draftParameters_19 : decode cC2_draftParameters 19 = .ok (.getfield 31, 3) := by decide +kernel
theorem dC2_draftParameters_22 : decode cC2_draftParameters 22 = .ok (.iload 6, 2) := by decide +kernel
theorem dC2_draftParameters_24 : decode cC2_draftParameters 24 = .ok (.iload_n 2, 1) := by decide +kernel
theorem dC2_draftParameters_25 : decode cC2_draftParameters 25 = .ok (.iastore, 1) := by decide +kernel
theorem dC2_draftParameters_26 : decode cC2_draftParameters 26 = .ok (.aload_n 0, 1) := by decide +kernel
theorem dC2_draftParameters_27 : decode cC2_draftParameters 27 = .ok (.getfield 31, 3) := by decide +kernel
theorem dC2_draftParameters_30 : decode cC2_draftParameters 30 = .ok (.iload 6, 2) := by decide +kernel
theorem dC2_draftParameters_32 : decode cC2_draftParameters 32 = .ok (.iconst 1, 1) := by decide +kernel
theorem dC2_draftParameters_33 : decode cC2_draftParameters 33 = .ok (.iadd, 1) := by decide +kernel
theorem dC2_draftParameters_34 : decode cC2_draftParameters 34 = .ok (.iload_n 3, 1) := by decide +kernel
theorem dC2_draftParameters_35 : decode cC2_draftParameters 35 = .ok (.iastore, 1) := by decide +kernel
theorem dC2_draftParameters_36 : decode cC2_draftParameters 36 = .ok (.aload_n 0, 1) := by decide +kernel
theorem dC2_draftParameters_37 : decode cC2_draftParameters 37 = .ok (.getfield 31, 3) := by decide +kernel
theorem dC2_draftParameters_40 : decode cC2_draftParameters 40 = .ok (.iload 6, 2) := by decide +kernel
theorem dC2_draftParameters_42 : decode cC2_draftParameters 42 = .ok (.iconst 2, 1) := by decide +kernel
theorem dC2_draftParameters_43 : decode cC2_draftParameters 43 = .ok (.iadd, 1) := by decide +kernel
theorem dC2_draftParameters_44 : decode cC2_draftParameters 44 = .ok (.iload 4, 2) := by decide +kernel
theorem dC2_draftParameters_46 : decode cC2_draftParameters 46 = .ok (.iastore, 1) := by decide +kernel
theorem dC2_draftParameters_47 : decode cC2_draftParameters 47 = .ok (.aload_n 0, 1) := by decide +kernel
theorem dC2_draftParameters_48 : decode cC2_draftParameters 48 = .ok (.getfield 31, 3) := by decide +kernel
theorem dC2_draftParameters_51 : decode cC2_draftParameters 51 = .ok (.iload 6, 2) := by decide +kernel
theorem dC2_draftParameters_53 : decode cC2_draftParameters 53 = .ok (.iconst 3, 1) := by decide +kernel
theorem dC2_draftParameters_54 : decode cC2_draftParameters 54 = .ok (.iadd, 1) := by decide +kernel
theorem dC2_draftParameters_55 : decode cC2_draftParameters 55 = .ok (.iload 5, 2) := by decide +kernel
theorem dC2_draftParameters_57 : decode cC2_draftParameters 57 = .ok (.iastore, 1) := by decide +kernel
theorem dC2_draftParameters_58 : decode cC2_draftParameters 58 = .ok (.return_, 1) := by decide +kernel
theorem dC2_isAbstract_0 : decode cC2_isAbstract 0 = .ok (.aload_n 0, 1) := by decide +kernel
theorem dC2_isAbstract_1 : decode cC2_isAbstract 1 = .ok (.getfield 22, 3) := by decide +kernel
theorem dC2_isAbstract_4 : decode cC2_isAbstract 4 = .ok (.iload_n 1, 1) := by decide +kernel
theorem dC2_isAbstract_5 : decode cC2_isAbstract 5 = .ok (.iaload, 1) := by decide +kernel
theorem dC2_isAbstract_6 : decode cC2_isAbstract 6 = .ok (.iconst 4, 1) := by decide +kernel
theorem dC2_isAbstract_7 : decode cC2_isAbstract 7 = .ok (.iand, 1) := by decide +kernel
theorem dC2_isAbstract_8 : decode cC2_isAbstract 8 = .ok (.ifCond .eq 7, 3) := by decide +kernel
theorem dC2_isAbstract_11 : decode cC2_isAbstract 11 = .ok (.iconst 1, 1) := by decide +kernel
theorem dC2_isAbstract_12 : decode cC2_isAbstract 12 = .ok (.goto 4, 3) := by decide +kernel
theorem dC2_isAbstract_15 : decode cC2_isAbstract 15 = .ok (.iconst 0, 1) := by decide +kernel
theorem dC2_isAbstract_16 : decode cC2_isAbstract 16 = .ok (.ireturn, 1) := by decide +kernel
theorem dC2_isStatic_0 : decode cC2_isStatic 0 = .ok (.aload_n 0, 1) := by decide +kernel
theorem dC2_isStatic_1 : decode cC2_isStatic 1 = .ok (.getfield 22, 3) := by decide +kernel
theorem dC2_isStatic_4 : decode cC2_isStatic 4 = .ok (.iload_n 1, 1) := by decide +kernel
theorem dC2_isStatic_5 : decode cC2_isStatic 5 = .ok (.iaload, 1) := by decide +kernel
theorem dC2_isStatic_6 : decode cC2_isStatic 6 = .ok (.iconst 1, 1) := by decide +kernel
theorem dC2_isStatic_7 : decode cC2_isStatic 7 = .ok (.iand, 1) := by decide +kernel
theorem dC2_isStatic_8 : decode cC2_isStatic 8 = .ok (.ifCond .eq 7, 3) := by decide +kernel
theorem dC2_isStatic_11 : decode cC2_isStatic 11 = .ok (.iconst 1, 1) := by decide +kernel
theorem dC2_isStatic_12 : decode cC2_isStatic 12 = .ok (.goto 4, 3) := by decide +kernel
theorem dC2_isStatic_15 : decode cC2_isStatic 15 = .ok (.iconst 0, 1) := by decide +kernel
theorem dC2_isStatic_16 : decode cC2_isStatic 16 = .ok (.ireturn, 1) := by decide +kernel
theorem dC2_isPrivate_0 : decode cC2_isPrivate 0 = .ok (.aload_n 0, 1) := by decide +kernel
theorem dC2_isPrivate_1 : decode cC2_isPrivate 1 = .ok (.getfield 22, 3) := by decide +kernel
theorem dC2_isPrivate_4 : decode cC2_isPrivate 4 = .ok (.iload_n 1, 1) := by decide +kernel
theorem dC2_isPrivate_5 : decode cC2_isPrivate 5 = .ok (.iaload, 1) := by decide +kernel
theorem dC2_isPrivate_6 : decode cC2_isPrivate 6 = .ok (.iconst 2, 1) := by decide +kernel
theorem dC2_isPrivate_7 : decode cC2_isPrivate 7 = .ok (.iand, 1) := by decide +kernel
theorem dC2_isPrivate_8 : decode cC2_isPrivate 8 = .ok (.ifCond .eq 7, 3) := by decide +kernel
theorem dC2_isPrivate_11 : decode cC2_isPrivate 11 = .ok (.iconst 1, 1) := by decide +kernel
theorem dC2_isPrivate_12 : decode cC2_isPrivate 12 = .ok (.goto 4, 3) := by decide +kernel
theorem dC2_isPrivate_15 : decode cC2_isPrivate 15 = .ok (.iconst 0, 1) := by decide +kernel
theorem dC2_isPrivate_16 : decode cC2_isPrivate 16 = .ok (.ireturn, 1) := by decide +kernel
theorem dC2_hasGoodMarks_0 : decode cC2_hasGoodMarks 0 = .ok (.aload_n 0, 1) := by decide +kernel
theorem dC2_hasGoodMarks_1 : decode cC2_hasGoodMarks 1 = .ok (.getfield 22, 3) := by decide +kernel
theorem dC2_hasGoodMarks_4 : decode cC2_hasGoodMarks 4 = .ok (.iload_n 1, 1) := by decide +kernel
theorem dC2_hasGoodMarks_5 : decode cC2_hasGoodMarks 5 = .ok (.iaload, 1) := by decide +kernel
theorem dC2_hasGoodMarks_6 : decode cC2_hasGoodMarks 6 = .ok (.ifCond .lt 14, 3) := by decide +kernel
theorem dC2_hasGoodMarks_9 : decode cC2_hasGoodMarks 9 = .ok (.aload_n 0, 1) := by decide +kernel
theorem dC2_hasGoodMarks_10 : decode cC2_hasGoodMarks 10 = .ok (.getfield 22, 3) := by decide +kernel
theorem dC2_hasGoodMarks_13 : decode cC2_hasGoodMarks 13 = .ok (.iload_n 1, 1) := by decide +kernel
theorem dC2_hasGoodMarks_14 : decode cC2_hasGoodMarks 14 = .ok (.iaload, 1) := by decide +kernel
theorem dC2_hasGoodMarks_15 : decode cC2_hasGoodMarks 15 = .ok (.bipush 15, 2) := by decide +kernel
theorem dC2_hasGoodMarks_17 : decode cC2_hasGoodMarks 17 = .ok (.if_icmp .le 5, 3) := by decide +kernel
theorem dC2_hasGoodMarks_20 : decode cC2_hasGoodMarks 20 = .ok (.iconst 0, 1) := by decide +kernel
theorem dC2_hasGoodMarks_21 : decode cC2_hasGoodMarks 21 = .ok (.ireturn, 1) := by decide +kernel
theorem dC2_hasGoodMarks_22 : decode cC2_hasGoodMarks 22 = .ok (.aload_n 0, 1) := by decide +kernel
theorem dC2_hasGoodMarks_23 : decode cC2_hasGoodMarks 23 = .ok (.getfield 9, 3) := by decide +kernel
theorem dC2_hasGoodMarks_26 : decode cC2_hasGoodMarks 26 = .ok (.aload_n 0, 1) := by decide +kernel
theorem dC2_hasGoodMarks_27 : decode cC2_hasGoodMarks 27 = .ok (.getfield 15, 3) := by decide +kernel
theorem dC2_hasGoodMarks_30 : decode cC2_hasGoodMarks 30 = .ok (.iload_n 1, 1) := by decide +kernel
theorem dC2_hasGoodMarks_31 : decode cC2_hasGoodMarks 31 = .ok (.iaload, 1) := by decide +kernel
theorem dC2_hasGoodMarks_32 : decode cC2_hasGoodMarks 32 = .ok (.invokevirtual 71, 3) := by decide +kernel
theorem dC2_hasGoodMarks_35 : decode cC2_hasGoodMarks 35 = .ok (.ifCond .eq 15, 3) := by decide +kernel
theorem dC2_hasGoodMarks_38 : decode cC2_hasGoodMarks 38 = .ok (.aload_n 0, 1) := by decide +kernel
theorem dC2_hasGoodMarks_39 : decode cC2_hasGoodMarks 39 = .ok (.iload_n 1, 1) := by decide +kernel
theorem dC2_hasGoodMarks_40 : decode cC2_hasGoodMarks 40 = .ok (.invokevirtual 74, 3) := by decide +kernel
theorem dC2_hasGoodMarks_43 : decode cC2_hasGoodMarks 43 = .ok (.ifCond .eq 7, 3) := by decide +kernel
theorem dC2_hasGoodMarks_46 : decode cC2_hasGoodMarks 46 = .ok (.iconst 1, 1) := by decide +kernel
theorem dC2_hasGoodMarks_47 : decode cC2_hasGoodMarks 47 = .ok (.goto 4, 3) := by decide +kernel
theorem dC2_hasGoodMarks_50 : decode cC2_hasGoodMarks 50 = .ok (.iconst 0, 1) := by decide +kernel
theorem dC2_hasGoodMarks_51 : decode cC2_hasGoodMarks 51 = .ok (.istore_n 2, 1) := by decide +kernel
theorem dC2_hasGoodMarks_52 : decode cC2_hasGoodMarks 52 = .ok (.aload_n 0, 1) := by decide +kernel
theorem dC2_hasGoodMarks_53 : decode cC2_hasGoodMarks 53 = .ok (.iload_n 1, 1) := by decide +kernel
theorem dC2_hasGoodMarks_54 : decode cC2_hasGoodMarks 54 = .ok (.invokevirtual 77, 3) := by decide +kernel
theorem dC2_hasGoodMarks_57 : decode cC2_hasGoodMarks 57 = .ok (.ifCond .eq 15, 3) := by decide +kernel
theorem dC2_hasGoodMarks_60 : decode cC2_hasGoodMarks 60 = .ok (.aload_n 0, 1) := by decide +kernel
theorem dC2_hasGoodMarks_61 : decode cC2_hasGoodMarks 61 = .ok (.iload_n 1, 1) := by decide +kernel
theorem dC2_hasGoodMarks_62 : decode cC2_hasGoodMarks 62 = .ok (.invokevirtual 80, 3) := by decide +kernel
theorem dC2_hasGoodMarks_65 : decode cC2_hasGoodMarks 65 = .ok (.ifCond .ne 11, 3) := by decide +kernel
theorem dC2_hasGoodMarks_68 : decode cC2_hasGoodMarks 68 = .ok (.iload_n 2, 1) := by decide +kernel
theorem dC2_hasGoodMarks_69 : decode cC2_hasGoodMarks 69 = .ok (.ifCond .ne 7, 3) := by decide +kernel
theorem dC2_hasGoodMarks_72 : decode cC2_hasGoodMarks 72 = .ok (.iconst 1, 1) := by decide +kernel
theorem dC2_hasGoodMarks_73 : decode cC2_hasGoodMarks 73 = .ok (.goto 4, 3) := by decide +kernel
theorem dC2_hasGoodMarks_76 : decode cC2_hasGoodMarks 76 = .ok (.iconst 0, 1) := by decide +kernel
theorem dC2_hasGoodMarks_77 : decode cC2_hasGoodMarks 77 = .ok (.ireturn, 1) := by decide +kernel
theorem dC1_isElement_0 : decode cC1_isElement 0 = .ok (.iload_n 1, 1) := by decide +kernel
theorem dC1_isElement_1 : decode cC1_isElement 1 = .ok (.ifCond .lt 9, 3) := by decide +kernel
theorem dC1_isElement_4 : decode cC1_isElement 4 = .ok (.iload_n 1, 1) := by decide +kernel
theorem dC1_isElement_5 : decode cC1_isElement 5 = .ok (.bipush 9, 2) := by decide +kernel
theorem dC1_isElement_7 : decode cC1_isElement 7 = .ok (.if_icmp .le 11, 3) := by decide +kernel
theorem dC1_isElement_10 : decode cC1_isElement 10 = .ok (.aload_n 0, 1) := by decide +kernel
theorem dC1_isElement_11 : decode cC1_isElement 11 = .ok (.iload_n 1, 1) := by decide +kernel
theorem dC1_isElement_12 : decode cC1_isElement 12 = .ok (.invokevirtual 36, 3) := by decide +kernel
theorem dC1_isElement_15 : decode cC1_isElement 15 = .ok (.ifCond .eq 7, 3) := by decide +kernel
theorem dC1_isElement_18 : decode cC1_isElement 18 = .ok (.iconst 1, 1) := by decide +kernel
theorem dC1_isElement_19 : decode cC1_isElement 19 = .ok (.goto 4, 3) := by decide +kernel
theorem dC1_isElement_22 : decode cC1_isElement 22 = .ok (.iconst 0, 1) := by decide +kernel
theorem dC1_isElement_23 : decode cC1_isElement 23 = .ok (.ireturn, 1) := by decide +kernel
theorem dC1_isArray_0 : decode cC1_isArray 0 = .ok (.iload_n 1, 1) := by decide +kernel
theorem dC1_isArray_1 : decode cC1_isArray 1 = .ok (.bipush 64, 2) := by decide +kernel
theorem dC1_isArray_3 : decode cC1_isArray 3 = .ok (.if_icmp .lt 18, 3) := by decide +kernel
theorem dC1_isArray_6 : decode cC1_isArray 6 = .ok (.aload_n 0, 1) := by decide +kernel
theorem dC1_isArray_7 : decode cC1_isArray 7 = .ok (.iload_n 1, 1) := by decide +kernel
theorem dC1_isArray_8 : decode cC1_isArray 8 = .ok (.bipush 64, 2) := by decide +kernel
theorem dC1_isArray_10 : decode cC1_isArray 10 = .ok (.isub, 1) := by decide +kernel
theorem dC1_isArray_11 : decode cC1_isArray 11 = .ok (.invokevirtual 40, 3) := by decide +kernel
theorem dC1_isArray_14 : decode cC1_isArray 14 = .ok (.ifCond .eq 7, 3) := by decide +kernel
theorem dC1_isArray_17 : decode cC1_isArray 17 = .ok (.iconst 1, 1) := by decide +kernel
theorem dC1_isArray_18 : decode cC1_isArray 18 = .ok (.goto 4, 3) := by decide +kernel
theorem dC1_isArray_21 : decode cC1_isArray 21 = .ok (.iconst 0, 1) := by decide +kernel
theorem dC1_isArray_22 : decode cC1_isArray 22 = .ok (.ireturn, 1) := by decide +kernel
theorem dC1_canBeDeclared_0 : decode cC1_canBeDeclared 0 = .ok (.aload_n 0, 1) := by decide +kernel
theorem dC1_canBeDeclared_1 : decode cC1_canBeDeclared 1 = .ok (.iload_n 1, 1) := by decide +kernel
theorem dC1_canBeDeclared_2 : decode cC1_canBeDeclared 2 = .ok (.invokevirtual 40, 3) := by decide +kernel
theorem dC1_canBeDeclared_5 : decode cC1_canBeDeclared 5 = .ok (.ifCond .ne 11, 3) := by decide +kernel
theorem dC1_canBeDeclared_8 : decode cC1_canBeDeclared 8 = .ok (.aload_n 0, 1) := by decide +kernel
theorem dC1_canBeDeclared_9 : decode cC1_canBeDeclared 9 = .ok (.iload_n 1, 1) := by decide +kernel
theorem dC1_canBeDeclared_10 : decode cC1_canBeDeclared 10 = .ok (.invokevirtual 43, 3) := by decide +kernel
theorem dC1_canBeDeclared_13 : decode cC1_canBeDeclared 13 = .ok (.ifCond .eq 7, 3) := by decide +kernel
theorem dC1_canBeDeclared_16 : decode cC1_canBeDeclared 16 = .ok (.iconst 1, 1) := by decide +kernel
theorem dC1_canBeDeclared_17 : decode cC1_canBeDeclared 17 = .ok (.goto 4, 3) := by decide +kernel
theorem dC1_canBeDeclared_20 : decode cC1_canBeDeclared 20 = .ok (.iconst 0, 1) := by decide +kernel
theorem dC1_canBeDeclared_21 : decode cC1_canBeDeclared 21 = .ok (.ireturn, 1) := by decide +kernel
theorem dC1_canBeResult_0 : decode cC1_canBeResult 0 = .ok (.iload_n 1, 1) := by decide +kernel
theorem dC1_canBeResult_1 : decode cC1_canBeResult 1 = .ok (.iconst (-1), 1) := by decide +kernel
theorem dC1_canBeResult_2 : decode cC1_canBeResult 2 = .ok (.if_icmp .eq 11, 3) := by decide +kernel
theorem dC1_canBeResult_5 : decode cC1_canBeResult 5 = .ok (.aload_n 0, 1) := by decide +kernel
theorem dC1_canBeResult_6 : decode cC1_canBeResult 6 = .ok (.iload_n 1, 1) := by decide +kernel
theorem dC1_canBeResult_7 : decode cC1_canBeResult 7 = .ok (.invokevirtual 46, 3) := by decide +kernel
theorem dC1_canBeResult_10 : decode cC1_canBeResult 10 = .ok (.ifCond .eq 7, 3) := by decide +kernel
theorem dC1_canBeResult_13 : decode cC1_canBeResult 13 = .ok (.iconst 1, 1) := by decide +kernel
theorem dC1_canBeResult_14 : decode cC1_canBeResult 14 = .ok (.goto 4, 3) := by decide +kernel
theorem dC1_canBeResult_17 : decode cC1_canBeResult 17 = .ok (.iconst 0, 1) := by decide +kernel
theorem dC1_canBeResult_18 : decode cC1_canBeResult 18 = .ok (.ireturn, 1) := by decide +kernel
theorem dC2_hasGoodHead_0 : decode cC2_hasGoodHead 0 = .ok (.aload_n 0, 1) := by decide +kernel
theorem dC2_hasGoodHead_1 : decode cC2_hasGoodHead 1 = .ok (.getfield 9, 3) := by decide +kernel
theorem dC2_hasGoodHead_4 : decode cC2_hasGoodHead 4 = .ok (.aload_n 0, 1) := by decide +kernel
theorem dC2_hasGoodHead_5 : decode cC2_hasGoodHead 5 = .ok (.getfield 15, 3) := by decide +kernel
theorem dC2_hasGoodHead_8 : decode cC2_hasGoodHead 8 = .ok (.iload_n 1, 1) := by decide +kernel
theorem dC2_hasGoodHead_9 : decode cC2_hasGoodHead 9 = .ok (.iaload, 1) := by decide +kernel
theorem dC2_hasGoodHead_10 : decode cC2_hasGoodHead 10 = .ok (.invokevirtual 62, 3) := by decide +kernel
theorem dC2_hasGoodHead_13 : decode cC2_hasGoodHead 13 = .ok (.ifCond .eq 27, 3) := by decide +kernel
theorem dC2_hasGoodHead_16 : decode cC2_hasGoodHead 16 = .ok (.aload_n 0, 1) := by decide +kernel
theorem dC2_hasGoodHead_17 : decode cC2_hasGoodHead 17 = .ok (.getfield 19, 3) := by decide +kernel
theorem dC2_hasGoodHead_20 : decode cC2_hasGoodHead 20 = .ok (.iload_n 1, 1) := by decide +kernel
theorem dC2_hasGoodHead_21 : decode cC2_hasGoodHead 21 = .ok (.iaload, 1) := by decide +kernel
theorem dC2_hasGoodHead_22 : decode cC2_hasGoodHead 22 = .ok (.ifCond .lt 18, 3) := by decide +kernel
theorem dC2_hasGoodHead_25 : decode cC2_hasGoodHead 25 = .ok (.aload_n 0, 1) := by decide +kernel
theorem dC2_hasGoodHead_26 : decode cC2_hasGoodHead 26 = .ok (.getfield 19, 3) := by decide +kernel
theorem dC2_hasGoodHead_29 : decode cC2_hasGoodHead 29 = .ok (.iload_n 1, 1) := by decide +kernel
theorem dC2_hasGoodHead_30 : decode cC2_hasGoodHead 30 = .ok (.iaload, 1) := by decide +kernel
theorem dC2_hasGoodHead_31 : decode cC2_hasGoodHead 31 = .ok (.bipush 16, 2) := by decide +kernel
theorem dC2_hasGoodHead_33 : decode cC2_hasGoodHead 33 = .ok (.if_icmp .ge 7, 3) := by decide +kernel
theorem dC2_hasGoodHead_36 : decode cC2_hasGoodHead 36 = .ok (.iconst 1, 1) := by decide +kernel
theorem dC2_hasGoodHead_37 : decode cC2_hasGoodHead 37 = .ok (.goto 4, 3) := by decide +kernel
theorem dC2_hasGoodHead_40 : decode cC2_hasGoodHead 40 = .ok (.iconst 0, 1) := by decide +kernel
theorem dC2_hasGoodHead_41 : decode cC2_hasGoodHead 41 = .ok (.istore_n 2, 1) := by decide +kernel
theorem dC2_hasGoodHead_42 : decode cC2_hasGoodHead 42 = .ok (.iload_n 2, 1) := by decide +kernel
theorem dC2_hasGoodHead_43 : decode cC2_hasGoodHead 43 = .ok (.ifCond .eq 31, 3) := by decide +kernel
theorem dC2_hasGoodHead_46 : decode cC2_hasGoodHead 46 = .ok (.aload_n 0, 1) := by decide +kernel
theorem dC2_hasGoodHead_47 : decode cC2_hasGoodHead 47 = .ok (.iload_n 1, 1) := by decide +kernel
theorem dC2_hasGoodHead_48 : decode cC2_hasGoodHead 48 = .ok (.invokevirtual 65, 3) := by decide +kernel
theorem dC2_hasGoodHead_51 : decode cC2_hasGoodHead 51 = .ok (.ifCond .eq 23, 3) := by decide +kernel
theorem dC2_hasGoodHead_54 : decode cC2_hasGoodHead 54 = .ok (.aload_n 0, 1) := by decide +kernel
theorem dC2_hasGoodHead_55 : decode cC2_hasGoodHead 55 = .ok (.getfield 9, 3) := by decide +kernel
theorem dC2_hasGoodHead_58 : decode cC2_hasGoodHead 58 = .ok (.aload_n 0, 1) := by decide +kernel
theorem dC2_hasGoodHead_59 : decode cC2_hasGoodHead 59 = .ok (.getfield 25, 3) := by decide +kernel
theorem dC2_hasGoodHead_62 : decode cC2_hasGoodHead 62 = .ok (.iload_n 1, 1) := by decide +kernel
theorem dC2_hasGoodHead_63 : decode cC2_hasGoodHead 63 = .ok (.iaload, 1) := by decide +kernel
theorem dC2_hasGoodHead_64 : decode cC2_hasGoodHead 64 = .ok (.invokevirtual 68, 3) := by decide +kernel
theorem dC2_hasGoodHead_67 : decode cC2_hasGoodHead 67 = .ok (.ifCond .eq 7, 3) := by decide +kernel
theorem dC2_hasGoodHead_70 : decode cC2_hasGoodHead 70 = .ok (.iconst 1, 1) := by decide +kernel
theorem dC2_hasGoodHead_71 : decode cC2_hasGoodHead 71 = .ok (.goto 4, 3) := by decide +kernel
theorem dC2_hasGoodHead_74 : decode cC2_hasGoodHead 74 = .ok (.iconst 0, 1) := by decide +kernel
theorem dC2_hasGoodHead_75 : decode cC2_hasGoodHead 75 = .ok (.ireturn, 1) := by decide +kernel
theorem dC2_isVaried_0 : decode cC2_isVaried 0 = .ok (.aload_n 0, 1) := by decide +kernel
theorem dC2_isVaried_1 : decode cC2_isVaried 1 = .ok (.getfield 22, 3) := by decide +kernel
theorem dC2_isVaried_4 : decode cC2_isVaried 4 = .ok (.iload_n 1, 1) := by decide +kernel
theorem dC2_isVaried_5 : decode cC2_isVaried 5 = .ok (.iaload, 1) := by decide +kernel
theorem dC2_isVaried_6 : decode cC2_isVaried 6 = .ok (.bipush 8, 2) := by decide +kernel
theorem dC2_isVaried_8 : decode cC2_isVaried 8 = .ok (.iand, 1) := by decide +kernel
theorem dC2_isVaried_9 : decode cC2_isVaried 9 = .ok (.ifCond .eq 7, 3) := by decide +kernel
theorem dC2_isVaried_12 : decode cC2_isVaried 12 = .ok (.iconst 1, 1) := by decide +kernel
theorem dC2_isVaried_13 : decode cC2_isVaried 13 = .ok (.goto 4, 3) := by decide +kernel
theorem dC2_isVaried_16 : decode cC2_isVaried 16 = .ok (.iconst 0, 1) := by decide +kernel
theorem dC2_isVaried_17 : decode cC2_isVaried 17 = .ok (.ireturn, 1) := by decide +kernel
theorem dC2_parameterAt_0 : decode cC2_parameterAt 0 = .ok (.iload_n 2, 1) := by decide +kernel
theorem dC2_parameterAt_1 : decode cC2_parameterAt 1 = .ok (.ifCond .lt 26, 3) := by decide +kernel
theorem dC2_parameterAt_4 : decode cC2_parameterAt 4 = .ok (.iload_n 2, 1) := by decide +kernel
theorem dC2_parameterAt_5 : decode cC2_parameterAt 5 = .ok (.aload_n 0, 1) := by decide +kernel
theorem dC2_parameterAt_6 : decode cC2_parameterAt 6 = .ok (.getfield 28, 3) := by decide +kernel
theorem dC2_parameterAt_9 : decode cC2_parameterAt 9 = .ok (.iload_n 1, 1) := by decide +kernel
theorem dC2_parameterAt_10 : decode cC2_parameterAt 10 = .ok (.iaload, 1) := by decide +kernel
theorem dC2_parameterAt_11 : decode cC2_parameterAt 11 = .ok (.if_icmp .ge 16, 3) := by decide +kernel
theorem dC2_parameterAt_14 : decode cC2_parameterAt 14 = .ok (.aload_n 0, 1) := by decide +kernel
theorem dC2_parameterAt_15 : decode cC2_parameterAt 15 = .ok (.getfield 31, 3) := by decide +kernel
theorem dC2_parameterAt_18 : decode cC2_parameterAt 18 = .ok (.iload_n 1, 1) := by decide +kernel
theorem dC2_parameterAt_19 : decode cC2_parameterAt 19 = .ok (.iconst 4, 1) := by decide +kernel
theorem dC2_parameterAt_20 : decode cC2_parameterAt 20 = .ok (.imul, 1) := by decide +kernel
theorem dC2_parameterAt_21 : decode cC2_parameterAt 21 = .ok (.iload_n 2, 1) := by decide +kernel
theorem dC2_parameterAt_22 : decode cC2_parameterAt 22 = .ok (.iadd, 1) := by decide +kernel
theorem dC2_parameterAt_23 : decode cC2_parameterAt 23 = .ok (.iaload, 1) := by decide +kernel
theorem dC2_parameterAt_24 : decode cC2_parameterAt 24 = .ok (.goto 4, 3) := by decide +kernel
theorem dC2_parameterAt_27 : decode cC2_parameterAt 27 = .ok (.iconst (-1), 1) := by decide +kernel
theorem dC2_parameterAt_28 : decode cC2_parameterAt 28 = .ok (.ireturn, 1) := by decide +kernel
theorem dC2_hasGoodParameters_0 : decode cC2_hasGoodParameters 0 = .ok (.aload_n 0, 1) := by decide +kernel
theorem dC2_hasGoodParameters_1 : decode cC2_hasGoodParameters 1 = .ok (.getfield 28, 3) := by decide +kernel
theorem dC2_hasGoodParameters_4 : decode cC2_hasGoodParameters 4 = .ok (.iload_n 1, 1) := by decide +kernel
theorem dC2_hasGoodParameters_5 : decode cC2_hasGoodParameters 5 = .ok (.iaload, 1) := by decide +kernel
theorem dC2_hasGoodParameters_6 : decode cC2_hasGoodParameters 6 = .ok (.ifCond .lt 13, 3) := by decide +kernel
theorem dC2_hasGoodParameters_9 : decode cC2_hasGoodParameters 9 = .ok (.aload_n 0, 1) := by decide +kernel
theorem dC2_hasGoodParameters_10 : decode cC2_hasGoodParameters 10 = .ok (.getfield 28, 3) := by decide +kernel
theorem dC2_hasGoodParameters_13 : decode cC2_hasGoodParameters 13 = .ok (.iload_n 1, 1) := by decide +kernel
theorem dC2_hasGoodParameters_14 : decode cC2_hasGoodParameters 14 = .ok (.iaload, 1) := by decide +kernel
theorem dC2_hasGoodParameters_15 : decode cC2_hasGoodParameters 15 = .ok (.iconst 4, 1) := by decide +kernel
theorem dC2_hasGoodParameters_16 : decode cC2_hasGoodParameters 16 = .ok (.if_icmp .le 5, 3) := by decide +kernel
theorem dC2_hasGoodParameters_19 : decode cC2_hasGoodParameters 19 = .ok (.iconst 0, 1) := by decide +kernel
theorem dC2_hasGoodParameters_20 : decode cC2_hasGoodParameters 20 = .ok (.ireturn, 1) := by decide +kernel
theorem dC2_hasGoodParameters_21 : decode cC2_hasGoodParameters 21 = .ok (.iconst 0, 1) := by decide +kernel
theorem dC2_hasGoodParameters_22 : decode cC2_hasGoodParameters 22 = .ok (.istore_n 2, 1) := by decide +kernel
theorem dC2_hasGoodParameters_23 : decode cC2_hasGoodParameters 23 = .ok (.iload_n 2, 1) := by decide +kernel
theorem dC2_hasGoodParameters_24 : decode cC2_hasGoodParameters 24 = .ok (.aload_n 0, 1) := by decide +kernel
theorem dC2_hasGoodParameters_25 : decode cC2_hasGoodParameters 25 = .ok (.getfield 28, 3) := by decide +kernel
theorem dC2_hasGoodParameters_28 : decode cC2_hasGoodParameters 28 = .ok (.iload_n 1, 1) := by decide +kernel
theorem dC2_hasGoodParameters_29 : decode cC2_hasGoodParameters 29 = .ok (.iaload, 1) := by decide +kernel
theorem dC2_hasGoodParameters_30 : decode cC2_hasGoodParameters 30 = .ok (.if_icmp .ge 27, 3) := by decide +kernel
theorem dC2_hasGoodParameters_33 : decode cC2_hasGoodParameters 33 = .ok (.aload_n 0, 1) := by decide +kernel
theorem dC2_hasGoodParameters_34 : decode cC2_hasGoodParameters 34 = .ok (.getfield 9, 3) := by decide +kernel
theorem dC2_hasGoodParameters_37 : decode cC2_hasGoodParameters 37 = .ok (.aload_n 0, 1) := by decide +kernel
theorem dC2_hasGoodParameters_38 : decode cC2_hasGoodParameters 38 = .ok (.iload_n 1, 1) := by decide +kernel
theorem dC2_hasGoodParameters_39 : decode cC2_hasGoodParameters 39 = .ok (.iload_n 2, 1) := by decide +kernel
theorem dC2_hasGoodParameters_40 : decode cC2_hasGoodParameters 40 = .ok (.invokevirtual 83, 3) := by decide +kernel
theorem dC2_hasGoodParameters_43 : decode cC2_hasGoodParameters 43 = .ok (.invokevirtual 87, 3) := by decide +kernel
theorem dC2_hasGoodParameters_46 : decode cC2_hasGoodParameters 46 = .ok (.ifCond .ne 5, 3) := by decide +kernel
theorem dC2_hasGoodParameters_49 : decode cC2_hasGoodParameters 49 = .ok (.iconst 0, 1) := by decide +kernel
theorem dC2_hasGoodParameters_50 : decode cC2_hasGoodParameters 50 = .ok (.ireturn, 1) := by decide +kernel
theorem dC2_hasGoodParameters_51 : decode cC2_hasGoodParameters 51 = .ok (.iinc 2 1, 3) := by decide +kernel
theorem dC2_hasGoodParameters_54 : decode cC2_hasGoodParameters 54 = .ok (.goto (-31), 3) := by decide +kernel
theorem dC2_hasGoodParameters_57 : decode cC2_hasGoodParameters 57 = .ok (.aload_n 0, 1) := by decide +kernel
theorem dC2_hasGoodParameters_58 : decode cC2_hasGoodParameters 58 = .ok (.iload_n 1, 1) := by decide +kernel
theorem dC2_hasGoodParameters_59 : decode cC2_hasGoodParameters 59 = .ok (.invokevirtual 90, 3) := by decide +kernel
theorem dC2_hasGoodParameters_62 : decode cC2_hasGoodParameters 62 = .ok (.ifCond .eq 26, 3) := by decide +kernel
theorem dC2_hasGoodParameters_65 : decode cC2_hasGoodParameters 65 = .ok (.aload_n 0, 1) := by decide +kernel
theorem dC2_hasGoodParameters_66 : decode cC2_hasGoodParameters 66 = .ok (.getfield 9, 3) := by decide +kernel
theorem dC2_hasGoodParameters_69 : decode cC2_hasGoodParameters 69 = .ok (.aload_n 0, 1) := by decide +kernel
theorem dC2_hasGoodParameters_70 : decode cC2_hasGoodParameters 70 = .ok (.iload_n 1, 1) := by decide +kernel
theorem dC2_hasGoodParameters_71 : decode cC2_hasGoodParameters 71 = .ok (.aload_n 0, 1) := by decide +kernel
theorem dC2_hasGoodParameters_72 : decode cC2_hasGoodParameters 72 = .ok (.getfield 28, 3) := by decide +kernel
theorem dC2_hasGoodParameters_75 : decode cC2_hasGoodParameters 75 = .ok (.iload_n 1, 1) := by decide +kernel
theorem dC2_hasGoodParameters_76 : decode cC2_hasGoodParameters 76 = .ok (.iaload, 1) := by decide +kernel
theorem dC2_hasGoodParameters_77 : decode cC2_hasGoodParameters 77 = .ok (.iconst 1, 1) := by decide +kernel
theorem dC2_hasGoodParameters_78 : decode cC2_hasGoodParameters 78 = .ok (.isub, 1) := by decide +kernel
theorem dC2_hasGoodParameters_79 : decode cC2_hasGoodParameters 79 = .ok (.invokevirtual 83, 3) := by decide +kernel
theorem dC2_hasGoodParameters_82 : decode cC2_hasGoodParameters 82 = .ok (.invokevirtual 93, 3) := by decide +kernel
theorem dC2_hasGoodParameters_85 : decode cC2_hasGoodParameters 85 = .ok (.ifCond .eq 7, 3) := by decide +kernel
theorem dC2_hasGoodParameters_88 : decode cC2_hasGoodParameters 88 = .ok (.iconst 1, 1) := by decide +kernel
theorem dC2_hasGoodParameters_89 : decode cC2_hasGoodParameters 89 = .ok (.goto 4, 3) := by decide +kernel
theorem dC2_hasGoodParameters_92 : decode cC2_hasGoodParameters 92 = .ok (.iconst 0, 1) := by decide +kernel
theorem dC2_hasGoodParameters_93 : decode cC2_hasGoodParameters 93 = .ok (.ireturn, 1) := by decide +kernel
theorem dC2_sameParameters_0 : decode cC2_sameParameters 0 = .ok (.aload_n 0, 1) := by decide +kernel
theorem dC2_sameParameters_1 : decode cC2_sameParameters 1 = .ok (.getfield 28, 3) := by decide +kernel
theorem dC2_sameParameters_4 : decode cC2_sameParameters 4 = .ok (.iload_n 1, 1) := by decide +kernel
theorem dC2_sameParameters_5 : decode cC2_sameParameters 5 = .ok (.iaload, 1) := by decide +kernel
theorem dC2_sameParameters_6 : decode cC2_sameParameters 6 = .ok (.aload_n 0, 1) := by decide +kernel
theorem dC2_sameParameters_7 : decode cC2_sameParameters 7 = .ok (.getfield 28, 3) := by decide +kernel
theorem dC2_sameParameters_10 : decode cC2_sameParameters 10 = .ok (.iload_n 2, 1) := by decide +kernel
theorem dC2_sameParameters_11 : decode cC2_sameParameters 11 = .ok (.iaload, 1) := by decide +kernel
theorem dC2_sameParameters_12 : decode cC2_sameParameters 12 = .ok (.if_icmp .eq 5, 3) := by decide +kernel
theorem dC2_sameParameters_15 : decode cC2_sameParameters 15 = .ok (.iconst 0, 1) := by decide +kernel
theorem dC2_sameParameters_16 : decode cC2_sameParameters 16 = .ok (.ireturn, 1) := by decide +kernel
theorem dC2_sameParameters_17 : decode cC2_sameParameters 17 = .ok (.iconst 0, 1) := by decide +kernel
theorem dC2_sameParameters_18 : decode cC2_sameParameters 18 = .ok (.istore_n 3, 1) := by decide +kernel
theorem dC2_sameParameters_19 : decode cC2_sameParameters 19 = .ok (.iload_n 3, 1) := by decide +kernel
theorem dC2_sameParameters_20 : decode cC2_sameParameters 20 = .ok (.aload_n 0, 1) := by decide +kernel
theorem dC2_sameParameters_21 : decode cC2_sameParameters 21 = .ok (.getfield 28, 3) := by decide +kernel
theorem dC2_sameParameters_24 : decode cC2_sameParameters 24 = .ok (.iload_n 1, 1) := by decide +kernel
theorem dC2_sameParameters_25 : decode cC2_sameParameters 25 = .ok (.iaload, 1) := by decide +kernel
theorem dC2_sameParameters_26 : decode cC2_sameParameters 26 = .ok (.if_icmp .ge 34, 3) := by decide +kernel
theorem dC2_sameParameters_29 : decode cC2_sameParameters 29 = .ok (.aload_n 0, 1) := by decide +kernel
theorem dC2_sameParameters_30 : decode cC2_sameParameters 30 = .ok (.getfield 31, 3) := by decide +kernel
theorem dC2_sameParameters_33 : decode cC2_sameParameters 33 = .ok (.iload_n 1, 1) := by decide +kernel
theorem dC2_sameParameters_34 : decode cC2_sameParameters 34 = .ok (.iconst 4, 1) := by decide +kernel
theorem dC2_sameParameters_35 : decode cC2_sameParameters 35 = .ok (.imul, 1) := by decide +kernel
theorem dC2_sameParameters_36 : decode cC2_sameParameters 36 = .ok (.iload_n 3, 1) := by decide +kernel
theorem dC2_sameParameters_37 : decode cC2_sameParameters 37 = .ok (.iadd, 1) := by decide +kernel
theorem dC2_sameParameters_38 : decode cC2_sameParameters 38 = .ok (.iaload, 1) := by decide +kernel
theorem dC2_sameParameters_39 : decode cC2_sameParameters 39 = .ok (.aload_n 0, 1) := by decide +kernel
theorem dC2_sameParameters_40 : decode cC2_sameParameters 40 = .ok (.getfield 31, 3) := by decide +kernel
theorem dC2_sameParameters_43 : decode cC2_sameParameters 43 = .ok (.iload_n 2, 1) := by decide +kernel
theorem dC2_sameParameters_44 : decode cC2_sameParameters 44 = .ok (.iconst 4, 1) := by decide +kernel
theorem dC2_sameParameters_45 : decode cC2_sameParameters 45 = .ok (.imul, 1) := by decide +kernel
theorem dC2_sameParameters_46 : decode cC2_sameParameters 46 = .ok (.iload_n 3, 1) := by decide +kernel
theorem dC2_sameParameters_47 : decode cC2_sameParameters 47 = .ok (.iadd, 1) := by decide +kernel
theorem dC2_sameParameters_48 : decode cC2_sameParameters 48 = .ok (.iaload, 1) := by decide +kernel
theorem dC2_sameParameters_49 : decode cC2_sameParameters 49 = .ok (.if_icmp .eq 5, 3) := by decide +kernel
theorem dC2_sameParameters_52 : decode cC2_sameParameters 52 = .ok (.iconst 0, 1) := by decide +kernel
theorem dC2_sameParameters_53 : decode cC2_sameParameters 53 = .ok (.ireturn, 1) := by decide +kernel
theorem dC2_sameParameters_54 : decode cC2_sameParameters 54 = .ok (.iinc 3 1, 3) := by decide +kernel
theorem dC2_sameParameters_57 : decode cC2_sameParameters 57 = .ok (.goto (-38), 3) := by decide +kernel
theorem dC2_sameParameters_60 : decode cC2_sameParameters 60 = .ok (.iconst 1, 1) := by decide +kernel
theorem dC2_sameParameters_61 : decode cC2_sameParameters 61 = .ok (.ireturn, 1) := by decide +kernel
theorem dC2_isToldTwice_0 : decode cC2_isToldTwice 0 = .ok (.iconst 0, 1) := by decide +kernel
theorem dC2_isToldTwice_1 : decode cC2_isToldTwice 1 = .ok (.istore_n 2, 1) := by decide +kernel
theorem dC2_isToldTwice_2 : decode cC2_isToldTwice 2 = .ok (.iload_n 2, 1) := by decide +kernel
theorem dC2_isToldTwice_3 : decode cC2_isToldTwice 3 = .ok (.aload_n 0, 1) := by decide +kernel
theorem dC2_isToldTwice_4 : decode cC2_isToldTwice 4 = .ok (.getfield 45, 3) := by decide +kernel
theorem dC2_isToldTwice_7 : decode cC2_isToldTwice 7 = .ok (.if_icmp .ge 50, 3) := by decide +kernel
theorem dC2_isToldTwice_10 : decode cC2_isToldTwice 10 = .ok (.aload_n 0, 1) := by decide +kernel
theorem dC2_isToldTwice_11 : decode cC2_isToldTwice 11 = .ok (.getfield 15, 3) := by decide +kernel
theorem dC2_isToldTwice_14 : decode cC2_isToldTwice 14 = .ok (.iload_n 2, 1) := by decide +kernel
theorem dC2_isToldTwice_15 : decode cC2_isToldTwice 15 = .ok (.iaload, 1) := by decide +kernel
theorem dC2_isToldTwice_16 : decode cC2_isToldTwice 16 = .ok (.aload_n 0, 1) := by decide +kernel
theorem dC2_isToldTwice_17 : decode cC2_isToldTwice 17 = .ok (.getfield 15, 3) := by decide +kernel
theorem dC2_isToldTwice_20 : decode cC2_isToldTwice 20 = .ok (.iload_n 1, 1) := by decide +kernel
theorem dC2_isToldTwice_21 : decode cC2_isToldTwice 21 = .ok (.iaload, 1) := by decide +kernel
theorem dC2_isToldTwice_22 : decode cC2_isToldTwice 22 = .ok (.if_icmp .ne 29, 3) := by decide +kernel
theorem dC2_isToldTwice_25 : decode cC2_isToldTwice 25 = .ok (.aload_n 0, 1) := by decide +kernel
theorem dC2_isToldTwice_26 : decode cC2_isToldTwice 26 = .ok (.getfield 19, 3) := by decide +kernel
theorem dC2_isToldTwice_29 : decode cC2_isToldTwice 29 = .ok (.iload_n 2, 1) := by decide +kernel
theorem dC2_isToldTwice_30 : decode cC2_isToldTwice 30 = .ok (.iaload, 1) := by decide +kernel
theorem dC2_isToldTwice_31 : decode cC2_isToldTwice 31 = .ok (.aload_n 0, 1) := by decide +kernel
theorem dC2_isToldTwice_32 : decode cC2_isToldTwice 32 = .ok (.getfield 19, 3) := by decide +kernel
theorem dC2_isToldTwice_35 : decode cC2_isToldTwice 35 = .ok (.iload_n 1, 1) := by decide +kernel
theorem dC2_isToldTwice_36 : decode cC2_isToldTwice 36 = .ok (.iaload, 1) := by decide +kernel
theorem dC2_isToldTwice_37 : decode cC2_isToldTwice 37 = .ok (.if_icmp .ne 14, 3) := by decide +kernel
theorem dC2_isToldTwice_40 : decode cC2_isToldTwice 40 = .ok (.aload_n 0, 1) := by decide +kernel
theorem dC2_isToldTwice_41 : decode cC2_isToldTwice 41 = .ok (.iload_n 2, 1) := by decide +kernel
theorem dC2_isToldTwice_42 : decode cC2_isToldTwice 42 = .ok (.iload_n 1, 1) := by decide +kernel
theorem dC2_isToldTwice_43 : decode cC2_isToldTwice 43 = .ok (.invokevirtual 96, 3) := by decide +kernel
theorem dC2_isToldTwice_46 : decode cC2_isToldTwice 46 = .ok (.ifCond .eq 5, 3) := by decide +kernel
theorem dC2_isToldTwice_49 : decode cC2_isToldTwice 49 = .ok (.iconst 1, 1) := by decide +kernel
theorem dC2_isToldTwice_50 : decode cC2_isToldTwice 50 = .ok (.ireturn, 1) := by decide +kernel
theorem dC2_isToldTwice_51 : decode cC2_isToldTwice 51 = .ok (.iinc 2 1, 3) := by decide +kernel
theorem dC2_isToldTwice_54 : decode cC2_isToldTwice 54 = .ok (.goto (-52), 3) := by decide +kernel
theorem dC2_isToldTwice_57 : decode cC2_isToldTwice 57 = .ok (.iconst 0, 1) := by decide +kernel
theorem dC2_isToldTwice_58 : decode cC2_isToldTwice 58 = .ok (.ireturn, 1) := by decide +kernel
theorem dC2_keepDraft_0 : decode cC2_keepDraft 0 = .ok (.aload_n 0, 1) := by decide +kernel
theorem dC2_keepDraft_1 : decode cC2_keepDraft 1 = .ok (.getfield 45, 3) := by decide +kernel
theorem dC2_keepDraft_4 : decode cC2_keepDraft 4 = .ok (.bipush 60, 2) := by decide +kernel
theorem dC2_keepDraft_6 : decode cC2_keepDraft 6 = .ok (.if_icmp .ge 36, 3) := by decide +kernel
theorem dC2_keepDraft_9 : decode cC2_keepDraft 9 = .ok (.aload_n 0, 1) := by decide +kernel
theorem dC2_keepDraft_10 : decode cC2_keepDraft 10 = .ok (.aload_n 0, 1) := by decide +kernel
theorem dC2_keepDraft_11 : decode cC2_keepDraft 11 = .ok (.getfield 45, 3) := by decide +kernel
theorem dC2_keepDraft_14 : decode cC2_keepDraft 14 = .ok (.invokevirtual 49, 3) := by decide +kernel
theorem dC2_keepDraft_17 : decode cC2_keepDraft 17 = .ok (.ifCond .eq 25, 3) := by decide +kernel
theorem dC2_keepDraft_20 : decode cC2_keepDraft 20 = .ok (.aload_n 0, 1) := by decide +kernel
theorem dC2_keepDraft_21 : decode cC2_keepDraft 21 = .ok (.aload_n 0, 1) := by decide +kernel
theorem dC2_keepDraft_22 : decode cC2_keepDraft 22 = .ok (.getfield 45, 3) := by decide +kernel
theorem dC2_keepDraft_25 : decode cC2_keepDraft 25 = .ok (.invokevirtual 53, 3) := by decide +kernel
theorem dC2_keepDraft_28 : decode cC2_keepDraft 28 = .ok (.ifCond .eq 14, 3) := by decide +kernel
theorem dC2_keepDraft_31 : decode cC2_keepDraft 31 = .ok (.aload_n 0, 1) := by decide +kernel
theorem dC2_keepDraft_32 : decode cC2_keepDraft 32 = .ok (.aload_n 0, 1) := by decide +kernel
theorem dC2_keepDraft_33 : decode cC2_keepDraft 33 = .ok (.getfield 45, 3) := by decide +kernel
theorem dC2_keepDraft_36 : decode cC2_keepDraft 36 = .ok (.invokevirtual 56, 3) := by decide +kernel
theorem dC2_keepDraft_39 : decode cC2_keepDraft 39 = .ok (.ifCond .eq 6, 3) := by decide +kernel
theorem dC2_keepDraft_42 : decode cC2_keepDraft 42 = .ok (.bipush (-2), 2) := by decide +kernel
theorem dC2_keepDraft_44 : decode cC2_keepDraft 44 = .ok (.ireturn, 1) := by decide +kernel
theorem dC2_keepDraft_45 : decode cC2_keepDraft 45 = .ok (.aload_n 0, 1) := by decide +kernel
theorem dC2_keepDraft_46 : decode cC2_keepDraft 46 = .ok (.invokevirtual 59, 3) := by decide +kernel
theorem dC2_keepDraft_49 : decode cC2_keepDraft 49 = .ok (.aload_n 0, 1) := by decide +kernel
theorem dC2_keepDraft_50 : decode cC2_keepDraft 50 = .ok (.dup, 1) := by decide +kernel
theorem dC2_keepDraft_51 : decode cC2_keepDraft 51 = .ok (.getfield 45, 3) := by decide +kernel
theorem dC2_keepDraft_54 : decode cC2_keepDraft 54 = .ok (.iconst 1, 1) := by decide +kernel
theorem dC2_keepDraft_55 : decode cC2_keepDraft 55 = .ok (.iadd, 1) := by decide +kernel
theorem dC2_keepDraft_56 : decode cC2_keepDraft 56 = .ok (.putfield 45, 3) := by decide +kernel
theorem dC2_keepDraft_59 : decode cC2_keepDraft 59 = .ok (.aload_n 0, 1) := by decide +kernel
theorem dC2_keepDraft_60 : decode cC2_keepDraft 60 = .ok (.getfield 45, 3) := by decide +kernel
theorem dC2_keepDraft_63 : decode cC2_keepDraft 63 = .ok (.iconst 1, 1) := by decide +kernel
theorem dC2_keepDraft_64 : decode cC2_keepDraft 64 = .ok (.isub, 1) := by decide +kernel
theorem dC2_keepDraft_65 : decode cC2_keepDraft 65 = .ok (.ireturn, 1) := by decide +kernel
theorem dC0_member_0 : decode cC0_member 0 = .ok (.aload_n 0, 1) := by decide +kernel
theorem dC0_member_1 : decode cC0_member 1 = .ok (.getfield 21, 3) := by decide +kernel
theorem dC0_member_4 : decode cC0_member 4 = .ok (.iload_n 1, 1) := by decide +kernel
theorem dC0_member_5 : decode cC0_member 5 = .ok (.iload_n 2, 1) := by decide +kernel
theorem dC0_member_6 : decode cC0_member 6 = .ok (.iload_n 3, 1) := by decide +kernel
theorem dC0_member_7 : decode cC0_member 7 = .ok (.iload 4, 2) := by decide +kernel
theorem dC0_member_9 : decode cC0_member 9 = .ok (.invokevirtual 63, 3) := by decide +kernel
theorem dC0_member_12 : decode cC0_member 12 = .ok (.aload_n 0, 1) := by decide +kernel
theorem dC0_member_13 : decode cC0_member 13 = .ok (.getfield 21, 3) := by decide +kernel
theorem dC0_member_16 : decode cC0_member 16 = .ok (.iload 5, 2) := by decide +kernel
theorem dC0_member_18 : decode cC0_member 18 = .ok (.iload 6, 2) := by decide +kernel
theorem dC0_member_20 : decode cC0_member 20 = .ok (.iload 7, 2) := by decide +kernel
theorem dC0_member_22 : decode cC0_member 22 = .ok (.iload 8, 2) := by decide +kernel
theorem dC0_member_24 : decode cC0_member 24 = .ok (.iload 9, 2) := by decide +kernel
theorem dC0_member_26 : decode cC0_member 26 = .ok (.invokevirtual 67, 3) := by decide +kernel
theorem dC0_member_29 : decode cC0_member 29 = .ok (.aload_n 0, 1) := by decide +kernel
theorem dC0_member_30 : decode cC0_member 30 = .ok (.getfield 21, 3) := by decide +kernel
theorem dC0_member_33 : decode cC0_member 33 = .ok (.invokevirtual 71, 3) := by decide +kernel
theorem dC0_member_36 : decode cC0_member 36 = .ok (.ireturn, 1) := by decide +kernel
theorem dC1_isType_0 : decode cC1_isType 0 = .ok (.aload_n 0, 1) := by decide +kernel
theorem dC1_isType_1 : decode cC1_isType 1 = .ok (.iload_n 1, 1) := by decide +kernel
theorem dC1_isType_2 : decode cC1_isType 2 = .ok (.invokevirtual 40, 3) := by decide +kernel
theorem dC1_isType_5 : decode cC1_isType 5 = .ok (.ifCond .ne 17, 3) := by decide +kernel
theorem dC1_isType_8 : decode cC1_isType 8 = .ok (.iload_n 1, 1) := by decide +kernel
theorem dC1_isType_9 : decode cC1_isType 9 = .ok (.bipush 10, 2) := by decide +kernel
theorem dC1_isType_11 : decode cC1_isType 11 = .ok (.if_icmp .eq 11, 3) := by decide +kernel
theorem dC1_isType_14 : decode cC1_isType 14 = .ok (.aload_n 0, 1) := by decide +kernel
theorem dC1_isType_15 : decode cC1_isType 15 = .ok (.iload_n 1, 1) := by decide +kernel
theorem dC1_isType_16 : decode cC1_isType 16 = .ok (.invokevirtual 43, 3) := by decide +kernel
theorem dC1_isType_19 : decode cC1_isType 19 = .ok (.ifCond .eq 7, 3) := by decide +kernel
theorem dC1_isType_22 : decode cC1_isType 22 = .ok (.iconst 1, 1) := by decide +kernel
theorem dC1_isType_23 : decode cC1_isType 23 = .ok (.goto 4, 3) := by decide +kernel
theorem dC1_isType_26 : decode cC1_isType 26 = .ok (.iconst 0, 1) := by decide +kernel
theorem dC1_isType_27 : decode cC1_isType 27 = .ok (.ireturn, 1) := by decide +kernel
theorem dC1_isPrimitive_0 : decode cC1_isPrimitive 0 = .ok (.iload_n 1, 1) := by decide +kernel
theorem dC1_isPrimitive_1 : decode cC1_isPrimitive 1 = .ok (.ifCond .lt 12, 3) := by decide +kernel
theorem dC1_isPrimitive_4 : decode cC1_isPrimitive 4 = .ok (.iload_n 1, 1) := by decide +kernel
theorem dC1_isPrimitive_5 : decode cC1_isPrimitive 5 = .ok (.iconst 3, 1) := by decide +kernel
theorem dC1_isPrimitive_6 : decode cC1_isPrimitive 6 = .ok (.if_icmp .gt 7, 3) := by decide +kernel
theorem dC1_isPrimitive_9 : decode cC1_isPrimitive 9 = .ok (.iconst 1, 1) := by decide +kernel
theorem dC1_isPrimitive_10 : decode cC1_isPrimitive 10 = .ok (.goto 4, 3) := by decide +kernel
theorem dC1_isPrimitive_13 : decode cC1_isPrimitive 13 = .ok (.iconst 0, 1) := by decide +kernel
end
section
-- the pure side's words
abbrev xSt : Type := (Nat → Nat → Int32) × (Nat → Nat → Int64)
def sI (σ : xSt) (k j : Nat) (v : Int32) : xSt := (fun a => if a = k then upd (σ.1 k) j v else σ.1 a, σ.2)
def sL (σ : xSt) (k j : Nat) (v : Int64) : xSt := (σ.1, fun a => if a = k then vp_updL (σ.2 k) j v else σ.2 a)
def jlushr (x : Int64) (y : Int32) : Int64 := (x.toUInt64 >>> (y.toInt64.toUInt64 &&& Int64.toUInt64 63)).toInt64
def jlshl (x : Int64) (y : Int32) : Int64 := x <<< (y.toInt64 &&& 63)
def jiushr (x y : Int32) : Int32 := (x.toUInt32 >>> (y.toUInt32 &&& Int32.toUInt32 31)).toInt32
def gF : Nat := 4000
def nm {α β : Type} (e : α) (f : α → Option β) : Option β := f e
theorem nm_at {α β : Type} {e y : α} {f : α → Option β} {r : β} (hy : y = e) (h : nm e f = some r) : f y = some r := by rw [hy]; exact h
def gx_b2 {α β γ : Type} (o : Option (α × β)) (f : α → β → Option γ) : Option γ := o.bind fun z => f z.1 z.2
theorem gx_b2_at {α β γ : Type} {o : Option (α × β)} {f : α → β → Option γ} {r : γ} (h : gx_b2 o f = some r) : ∃ v u, o = some (v, u) ∧ f v u = some r := by
  obtain ⟨z, e, h⟩ := Option.bind_eq_some_iff.mp h
  exact ⟨z.1, z.2, e, h⟩
theorem gx_nb {c : Prop} {d : Decidable c} {α : Type} {E : Option α} {r : α} (h : (@ite _ c d none E) = some r) : ¬ c ∧ E = some r := by
  by_cases q : c
  · rw [if_pos q] at h; cases h
  · rw [if_neg q] at h; exact ⟨q, h⟩
theorem gx_gd {c : Prop} {d : Decidable c} {α : Type} {E : Option α} {r : α} (h : (@ite _ c d E none) = some r) : c ∧ E = some r := by
  by_cases q : c
  · rw [if_pos q] at h; exact ⟨q, h⟩
  · rw [if_neg q] at h; cases h
theorem gx_nar {v : Int32} (h : v &&& 1 = v) : narrow .boolean (.int v) = .int v := by
  show Value.int (v &&& 1) = .int v
  rw [h]
theorem gx_keys {A : Nat → Prop} {ws ws' : va_W} (hk : ws.map Prod.fst = ws'.map Prod.fst) (h : va_D A ws) : va_D A ws' := by
  have key : ∀ (i : Nat) (q : Nat × va_E), ws'[i]? = some q → ∃ q0 : Nat × va_E, ws[i]? = some q0 ∧ q0.1 = q.1 := by
    intro i q hq
    have e : (ws.map Prod.fst)[i]? = some q.1 := by rw [hk, List.getElem?_map, hq]; rfl
    rw [List.getElem?_map] at e
    cases hw : ws[i]? with
    | none => rw [hw] at e; cases e
    | some q0 => rw [hw] at e; exact ⟨q0, rfl, Option.some.inj e⟩
  refine ⟨fun i j p q hp hq hpq => ?_, fun k q hq => ?_⟩
  · obtain ⟨p0, hp0, ep⟩ := key i p hp
    obtain ⟨q0, hq0, eq⟩ := key j q hq
    exact h.1 i j p0 q0 hp0 hq0 (by rw [ep, eq, hpq])
  · obtain ⟨q0, hq0, eq⟩ := key k q hq
    rw [← eq]
    exact h.2 k q0 hq0
section GCALL
variable {p : Program} {l : Launch} {e : Env} {R : Room} {s : State} {m : MethodId} {args : Array Value} {below : List Frame} {meth : Method} {c : Code} {H : Heap} {locs : List Loc} {cells slots : Nat} {Q : State → Prop}
variable {cc bytes : ByteArray} {nL maxL n index pc : Nat} {Ts ws : List Cond} {own : String} {y : MethodName} {ret : Option FieldType} {rm : Room} {b : Nat} {As rest st0 : List Value} {ls : Array Slot}
variable {D : va_G} {cl : List vw_C} {tys : List (ClassId × FieldType)}
/-- a call of a method that leaves the heap as it is -/
theorem gcall_r {wd : va_W} {v : Int32} (S : CallFix p m c cc nL s args Ts own) (hK : va_K D cl tys s) (hP : va_P D cl wd H) {ci q0 : Nat} {q : vw_C} {fs : List Value} (hc : cl[ci]? = some q) (he : wd[q0]? = some (b, .inr (ci, fs)))
    (hM : Met l y ws rm (va_Pc (.ref b :: As) (fun U => va_P D cl wd U.heap ∧ va_K D cl tys U)) (vp_Si (fun w => w = v)) 0 0 (fun _ => False))
    (cw : CallW R s args own q.1 index y bytes maxL ret ws rm 0 0 n) (hn : As.length = n) (hsize : ls.size = nL) (hstack : st0 = As.reverse ++ .ref b :: rest) (hroom : (rest.map fun v => v.category).sum ≤ 8) (hdg : decode cc pc = .ok (.invokevirtual index, 3))
    (hf : cells ≤ R.cells ∧ slots ≤ R.slots)
    (k : W p l e R s m args below meth c H locs cells slots Q (F0 m (pc + 3) ls (.int v :: rest))) : W p l e R s m args below meth c H locs cells slots Q (F0 m pc ls st0) := by
  refine vp_callSi (va_runV (As := As) (rest := rest) (b := b) S hM cw ⟨fun a U g mk q => ?_, va_recv hK hP hc he, fun U hU hW => ⟨rfl, by rw [hU]; exact hP, va_K.moved hW.alike hK⟩⟩ rfl hn hsize hstack (lv_room hroom) hdg hf).run (fun r er => ?_)
  · obtain ⟨q0, qP, qK⟩ := q
    exact ⟨q0, qP, va_K.moved (u := U) (U := U.calling g mk a) (Vm.Alike.refl U.vm) qK⟩
  · rw [er]
    exact k
/-- a call of a writer with an int answer -/
theorem gcall_i {wd : xSt → va_W} {A : Nat → Prop} {H0 : Heap} {σ u : xSt} {v : Int32} (hkeys : ∀ σ σ' : xSt, (wd σ).map Prod.fst = (wd σ').map Prod.fst) (S : CallFix p m c cc nL s args Ts own) (hK : va_K D cl tys s) (hP : va_P D cl (wd σ) H) (hD : va_D A (wd σ)) (hS : va_S A H0 H locs) {ci q0 : Nat} {q : vw_C} {fs : List Value} (hc : cl[ci]? = some q) (he : (wd σ)[q0]? = some (b, .inr (ci, fs)))
    (hM : Met l y ws rm (va_Pc (.ref b :: As) (fun U => va_P D cl (wd σ) U.heap ∧ va_K D cl tys U ∧ va_D A (wd σ))) (va_Qi (fun (w : Int32) (z : xSt) => (w, z) = (v, u)) (fun z t => va_P D cl (wd z) t.heap) A) 0 0 A)
    (cw : CallW R s args own q.1 index y bytes maxL ret ws rm 0 0 n) (hn : As.length = n) (hsize : ls.size = nL) (hstack : st0 = As.reverse ++ .ref b :: rest) (hroom : (rest.map fun v => v.category).sum ≤ 8) (hdg : decode cc pc = .ok (.invokevirtual index, 3))
    (hf : cells ≤ R.cells ∧ slots ≤ R.slots)
    (k : ∀ (H : Heap) (locs : List Loc), va_P D cl (wd u) H → va_D A (wd u) → va_S A H0 H locs → W p l e R s m args below meth c H locs cells slots Q (F0 m (pc + 3) ls (.int v :: rest))) : W p l e R s m args below meth c H locs cells slots Q (F0 m pc ls st0) := by
  refine va_calli (va_runV (As := As) (rest := rest) (b := b) S hM cw ⟨fun a U g mk q => ?_, va_recv hK hP hc he, fun U hU hW => ⟨rfl, by rw [hU]; exact hP, va_K.moved hW.alike hK, hD⟩⟩ rfl hn hsize hstack (lv_room hroom) hdg hf) hS (fun _ _ h => h) (fun _ h => h) (fun r z t H1 locs1 ht hvm hw hB hz1 hk1 hS => ?_)
  · obtain ⟨q0, qP, qK, qD⟩ := q
    exact ⟨q0, qP, va_K.moved (u := U) (U := U.calling g mk a) (Vm.Alike.refl U.vm) qK, qD⟩
  · cases hw
    rw [ht] at hB
    exact k H1 locs1 hB (gx_keys (hkeys _ _) hD) hS
theorem gcall_v {wd : xSt → va_W} {A : Nat → Prop} {H0 : Heap} {σ u : xSt} (hkeys : ∀ σ σ' : xSt, (wd σ).map Prod.fst = (wd σ').map Prod.fst) (S : CallFix p m c cc nL s args Ts own) (hK : va_K D cl tys s) (hP : va_P D cl (wd σ) H) (hD : va_D A (wd σ)) (hS : va_S A H0 H locs) {ci q0 : Nat} {q : vw_C} {fs : List Value} (hc : cl[ci]? = some q) (he : (wd σ)[q0]? = some (b, .inr (ci, fs)))
    (hM : Met l y ws rm (va_Pc (.ref b :: As) (fun U => va_P D cl (wd σ) U.heap ∧ va_K D cl tys U ∧ va_D A (wd σ))) (va_Qv (fun (z : xSt) => z = u) (fun z t => va_P D cl (wd z) t.heap) A) 0 0 A)
    (cw : CallW R s args own q.1 index y bytes maxL ret ws rm 0 0 n) (hn : As.length = n) (hsize : ls.size = nL) (hstack : st0 = As.reverse ++ .ref b :: rest) (hroom : (rest.map fun v => v.category).sum ≤ 8) (hdg : decode cc pc = .ok (.invokevirtual index, 3))
    (hf : cells ≤ R.cells ∧ slots ≤ R.slots)
    (k : ∀ (H : Heap) (locs : List Loc), va_P D cl (wd u) H → va_D A (wd u) → va_S A H0 H locs → W p l e R s m args below meth c H locs cells slots Q (F0 m (pc + 3) ls rest)) : W p l e R s m args below meth c H locs cells slots Q (F0 m pc ls st0) := by
  refine va_callv (va_runV (As := As) (rest := rest) (b := b) S hM cw ⟨fun a U g mk q => ?_, va_recv hK hP hc he, fun U hU hW => ⟨rfl, by rw [hU]; exact hP, va_K.moved hW.alike hK, hD⟩⟩ rfl hn hsize hstack (lv_room hroom) hdg hf) hS (fun _ _ h => h) (fun _ h => h) (fun z t H1 locs1 ht hvm hw hB hz1 hk1 hS => ?_)
  · obtain ⟨q0, qP, qK, qD⟩ := q
    exact ⟨q0, qP, va_K.moved (u := U) (U := U.calling g mk a) (Vm.Alike.refl U.vm) qK, qD⟩
  · cases hw
    rw [ht] at hB
    exact k H1 locs1 hB (gx_keys (hkeys _ _) hD) hS
theorem gcall_s {wd : va_W} {v : Int32} (S : CallFix p m c cc nL s args Ts own) (hK : va_K D cl tys s) (hP : va_P D cl wd H)
    (hM : Met l y ws rm (va_Pc As (fun U => va_P D cl wd U.heap ∧ va_K D cl tys U)) (vp_Si (fun w => w = v)) 0 0 (fun _ => False))
    (cw : CallB R s args own index y bytes maxL ret ws rm 0 0 n ∧ (Cond.static y).before args s = true) (hn : As.length = n) (hsize : ls.size = nL) (hstack : st0 = As.reverse ++ rest) (hroom : (rest.map fun v => v.category).sum ≤ 8) (hdg : decode cc pc = .ok (.invokestatic index, 3))
    (hf : cells ≤ R.cells ∧ slots ≤ R.slots)
    (k : W p l e R s m args below meth c H locs cells slots Q (F0 m (pc + 3) ls (.int v :: rest))) : W p l e R s m args below meth c H locs cells slots Q (F0 m pc ls st0) := by
  refine vp_callSi (va_runS (As := As) (rest := rest) S hM cw ⟨fun a U g mk q => ?_, fun U hU hW => ⟨rfl, by rw [hU]; exact hP, va_K.moved hW.alike hK⟩⟩ rfl hn hsize hstack (lv_room hroom) hdg hf).run (fun r er => ?_)
  · obtain ⟨q0, qP, qK⟩ := q
    exact ⟨q0, qP, va_K.moved (u := U) (U := U.calling g mk a) (Vm.Alike.refl U.vm) qK⟩
  · rw [er]
    exact k
end GCALL
theorem gx_out2 {x : Int32} (h0 : ¬ x = 0) (h1 : ¬ x = 1) (h2 : ¬ x = 2) : x.toInt < 0 ∨ 2 < x.toInt := by
  rcases Int.lt_or_le x.toInt 0 with q | q
  · exact Or.inl q
  · rcases Int.lt_or_le 2 x.toInt with z | z
    · exact Or.inr z
    · exfalso
      have e : x.toInt = 0 ∨ x.toInt = 1 ∨ x.toInt = 2 := by omega
      rcases e with e | e | e
      · exact h0 (Int32.toInt_inj.mp e)
      · exact h1 (Int32.toInt_inj.mp e)
      · exact h2 (Int32.toInt_inj.mp e)
theorem goodIn_all {ws : List Cond} (h : ∀ w ∈ ws, w ∈ wAll) : GoodIn wAll ws := fun w hw => ⟨h w hw, good_of_word (List.mem_filter.mp (h w hw)).2⟩
theorem gw {own C : String} {idx n : Nat} {y : MethodName} {bytes : ByteArray} {ret : Option FieldType} (h1 : Cond.methodLink own idx y ∈ wAll) (h2 : Cond.instanceMethod y ∈ wAll) (h3 : Cond.selects C y y ∈ wAll) (h4 : Cond.initialized C ∈ wAll) (h5 : Cond.code y bytes n ret ∈ wAll) : GoodIn wAll (wsV own idx C y (.code y bytes n ret :: wAll)) := by
  refine goodIn_all (fun w hw => ?_)
  unfold wsV at hw
  simp only [List.cons_append, List.nil_append, List.mem_cons] at hw
  rcases hw with rfl | rfl | rfl | rfl | rfl | hw <;> assumption
theorem gws {own : String} {idx n : Nat} {y : MethodName} {bytes : ByteArray} {ret : Option FieldType} (h1 : Cond.methodLink own idx y ∈ wAll) (h2 : Cond.static y ∈ wAll) (h4 : Cond.initialized y.cls ∈ wAll) (h5 : Cond.code y bytes n ret ∈ wAll) : GoodIn wAll (va_wsS own idx y (.code y bytes n ret :: wAll)) := by
  refine goodIn_all (fun w hw => ?_)
  unfold va_wsS at hw
  simp only [List.cons_append, List.nil_append, List.mem_cons] at hw
  rcases hw with rfl | rfl | rfl | rfl | hw <;> assumption
end
section
def xW (ad : Nat → Nat) (cA : Nat → ClassId) (σ : xSt) : va_W := [
  (ad 0, .inr (0, [.ref (ad 1), .ref (ad 2), .ref (ad 3), .ref (ad 4), .ref (ad 5)])),
  (ad 1, .inr (1, [.ref (ad 6), .ref (ad 7), .ref (ad 8), .int (σ.1 1 3)])),
  (ad 2, .inr (2, [.ref (ad 1), .ref (ad 9), .ref (ad 10), .ref (ad 11), .ref (ad 12), .ref (ad 13), .ref (ad 14), .ref (ad 15), .int (σ.1 2 8), .int (σ.1 2 9)])),
  (ad 3, .inr (3, [.ref (ad 16), .ref (ad 17), .ref (ad 18), .ref (ad 19), .ref (ad 20), .int (σ.1 3 5)])),
  (ad 4, .inr (4, [.ref (ad 1), .ref (ad 2), .ref (ad 3), .ref (ad 21), .ref (ad 22), .ref (ad 23), .int (σ.1 4 6), .int (σ.1 4 7), .long (σ.2 4 8), .int (σ.1 4 9)])),
  (ad 5, .inl (cA 5, 60, .inl (σ.1 5))),
  (ad 6, .inl (cA 6, 40, .inr (.inl (σ.2 6)))),
  (ad 7, .inl (cA 7, 24, .inl (σ.1 7))),
  (ad 8, .inl (cA 8, 24, .inl (σ.1 8))),
  (ad 9, .inl (cA 9, 61, .inl (σ.1 9))),
  (ad 10, .inl (cA 10, 61, .inl (σ.1 10))),
  (ad 11, .inl (cA 11, 61, .inl (σ.1 11))),
  (ad 12, .inl (cA 12, 61, .inl (σ.1 12))),
  (ad 13, .inl (cA 13, 61, .inl (σ.1 13))),
  (ad 14, .inl (cA 14, 244, .inl (σ.1 14))),
  (ad 15, .inl (cA 15, 24, .inl (σ.1 15))),
  (ad 16, .inl (cA 16, 5, .inl (σ.1 16))),
  (ad 17, .inl (cA 17, 5, .inl (σ.1 17))),
  (ad 18, .inl (cA 18, 5, .inl (σ.1 18))),
  (ad 19, .inl (cA 19, 5, .inl (σ.1 19))),
  (ad 20, .inl (cA 20, 10, .inl (σ.1 20))),
  (ad 21, .inl (cA 21, 60, .inl (σ.1 21))),
  (ad 22, .inl (cA 22, 60, .inl (σ.1 22))),
  (ad 23, .inl (cA 23, 60, .inr (.inl (σ.2 23))))]
def xT (cA : Nat → ClassId) : List (ClassId × FieldType) := [(cA 5, .int), (cA 6, .long), (cA 7, .int), (cA 8, .boolean), (cA 9, .int), (cA 10, .int), (cA 11, .int), (cA 12, .int), (cA 13, .int), (cA 14, .int), (cA 15, .int), (cA 16, .boolean), (cA 17, .boolean), (cA 18, .int), (cA 19, .int), (cA 20, .int), (cA 21, .int), (cA 22, .int), (cA 23, .long)]
def xA (ad : Nat → Nat) : Nat → Prop := fun q => ∃ k : Nat, k < 24 ∧ q = ad k
theorem xkeys {ad : Nat → Nat} {cA : Nat → ClassId} : ∀ σ σ2 : xSt, (xW ad cA σ).map Prod.fst = (xW ad cA σ2).map Prod.fst := fun _ _ => rfl
def mW (ad : Nat → Nat) (cA : Nat → ClassId) (σ : xSt) : va_W := [
  (ad 0, .inr (5, [.int (σ.1 0 0), .ref (ad 1), .ref (ad 2), .ref (ad 3), .ref (ad 4), .ref (ad 5), .int (σ.1 0 6), .ref (ad 6), .ref (ad 7), .ref (ad 8), .ref (ad 9), .ref (ad 10), .ref (ad 11), .int (σ.1 0 13), .ref (ad 12), .ref (ad 13), .ref (ad 14), .ref (ad 15), .ref (ad 16), .int (σ.1 0 19), .ref (ad 17), .ref (ad 18), .ref (ad 19)])),
  (ad 1, .inl (cA 1, 24, .inl (σ.1 1))),
  (ad 2, .inl (cA 2, 24, .inl (σ.1 2))),
  (ad 3, .inl (cA 3, 24, .inl (σ.1 3))),
  (ad 4, .inl (cA 4, 96, .inl (σ.1 4))),
  (ad 5, .inl (cA 5, 576, .inl (σ.1 5))),
  (ad 6, .inl (cA 6, 60, .inl (σ.1 6))),
  (ad 7, .inl (cA 7, 60, .inl (σ.1 7))),
  (ad 8, .inl (cA 8, 60, .inl (σ.1 8))),
  (ad 9, .inl (cA 9, 60, .inl (σ.1 9))),
  (ad 10, .inl (cA 10, 60, .inl (σ.1 10))),
  (ad 11, .inl (cA 11, 240, .inl (σ.1 11))),
  (ad 12, .inl (cA 12, 5, .inl (σ.1 12))),
  (ad 13, .inl (cA 13, 5, .inl (σ.1 13))),
  (ad 14, .inl (cA 14, 5, .inl (σ.1 14))),
  (ad 15, .inl (cA 15, 10, .inl (σ.1 15))),
  (ad 16, .inl (cA 16, 5, .inl (σ.1 16))),
  (ad 17, .inl (cA 17, 60, .inl (σ.1 17))),
  (ad 18, .inl (cA 18, 3600, .inl (σ.1 18))),
  (ad 19, .inl (cA 19, 24, .inl (σ.1 19)))]
def mT (cA : Nat → ClassId) : List (ClassId × FieldType) := [(cA 1, .boolean), (cA 2, .int), (cA 3, .int), (cA 4, .int), (cA 5, .boolean), (cA 6, .int), (cA 7, .int), (cA 8, .int), (cA 9, .int), (cA 10, .int), (cA 11, .int), (cA 12, .int), (cA 13, .int), (cA 14, .int), (cA 15, .int), (cA 16, .int), (cA 17, .boolean), (cA 18, .boolean), (cA 19, .int)]
def mA (ad : Nat → Nat) : Nat → Prop := fun q => ∃ k : Nat, k < 20 ∧ q = ad k
theorem mkeys {ad : Nat → Nat} {cA : Nat → ClassId} : ∀ σ σ2 : xSt, (mW ad cA σ).map Prod.fst = (mW ad cA σ2).map Prod.fst := fun _ _ => rfl
end

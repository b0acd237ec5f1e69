section
-- ===== PART A: goes FIRST, ahead of the names: the tables' words, and 'selects' of the private methods out of them =====
/-- a private method of a class that the tables say can be made, by its rows of tables_1 -/
def lw_okq (q : MethodName × Nat) : Prop := (q.1.cls ≠ "java/lang/invoke/MethodHandle" ∧ q.1.cls ≠ "java/lang/invoke/VarHandle") ∧ Cond.instantiable q.1.cls q.2 ∈ tables_1 ∧ Cond.privateMethod q.1 ∈ tables_1 ∧ Cond.instanceMethod q.1 ∈ tables_1
theorem lw_p0 : lw_okq (⟨"FractionDesk", "register", "(I)LFractionDesk$Fraction;"⟩, 4) := ⟨⟨by decide +kernel, by decide +kernel⟩, List.mem_of_getElem? (i := 17) (by decide +kernel), List.mem_of_getElem? (i := 197) (by decide +kernel), List.mem_of_getElem? (i := 198) (by decide +kernel)⟩
theorem lw_p1 : lw_okq (⟨"java/lang/Throwable", "fillInStackTrace", "(I)Ljava/lang/Throwable;"⟩, 6) := ⟨⟨by decide +kernel, by decide +kernel⟩, List.mem_of_getElem? (i := 238) (by decide +kernel), List.mem_of_getElem? (i := 236) (by decide +kernel), List.mem_of_getElem? (i := 237) (by decide +kernel)⟩
theorem lw_p2 : lw_okq (⟨"FractionDesk$Divisors", "findLeap", "(LFractionDesk$Whole;LFractionDesk$Whole;)Z"⟩, 5) := ⟨⟨by decide +kernel, by decide +kernel⟩, List.mem_of_getElem? (i := 87) (by decide +kernel), List.mem_of_getElem? (i := 303) (by decide +kernel), List.mem_of_getElem? (i := 304) (by decide +kernel)⟩
theorem lw_p3 : lw_okq (⟨"FractionDesk$Whole", "trialDigit", "(LFractionDesk$Whole;I)J"⟩, 2) := ⟨⟨by decide +kernel, by decide +kernel⟩, List.mem_of_getElem? (i := 32) (by decide +kernel), List.mem_of_getElem? (i := 337) (by decide +kernel), List.mem_of_getElem? (i := 338) (by decide +kernel)⟩
theorem lw_p4 : lw_okq (⟨"FractionDesk$Whole", "takeAway", "(LFractionDesk$Whole;JI)Z"⟩, 2) := ⟨⟨by decide +kernel, by decide +kernel⟩, List.mem_of_getElem? (i := 32) (by decide +kernel), List.mem_of_getElem? (i := 343) (by decide +kernel), List.mem_of_getElem? (i := 344) (by decide +kernel)⟩
theorem lw_p5 : lw_okq (⟨"FractionDesk$Bench", "divideOut", "(LFractionDesk$Whole;LFractionDesk$Whole;)V"⟩, 7) := ⟨⟨by decide +kernel, by decide +kernel⟩, List.mem_of_getElem? (i := 79) (by decide +kernel), List.mem_of_getElem? (i := 348) (by decide +kernel), List.mem_of_getElem? (i := 349) (by decide +kernel)⟩
theorem lw_p6 : lw_okq (⟨"FractionDesk$Bench", "cross", "(LFractionDesk$Fraction;LFractionDesk$Fraction;)V"⟩, 7) := ⟨⟨by decide +kernel, by decide +kernel⟩, List.mem_of_getElem? (i := 79) (by decide +kernel), List.mem_of_getElem? (i := 389) (by decide +kernel), List.mem_of_getElem? (i := 390) (by decide +kernel)⟩
theorem lw_p7 : lw_okq (⟨"FractionDesk$Bench", "roundRatio", "(Z)V"⟩, 7) := ⟨⟨by decide +kernel, by decide +kernel⟩, List.mem_of_getElem? (i := 79) (by decide +kernel), List.mem_of_getElem? (i := 426) (by decide +kernel), List.mem_of_getElem? (i := 427) (by decide +kernel)⟩
theorem lw_p8 : lw_okq (⟨"FractionDesk$Bench", "raiseWhole", "(LFractionDesk$Whole;LFractionDesk$Whole;I)V"⟩, 7) := ⟨⟨by decide +kernel, by decide +kernel⟩, List.mem_of_getElem? (i := 79) (by decide +kernel), List.mem_of_getElem? (i := 474) (by decide +kernel), List.mem_of_getElem? (i := 475) (by decide +kernel)⟩
theorem lw_p9 : lw_okq (⟨"FractionDesk$Bench", "multiplyWhole", "(LFractionDesk$Whole;LFractionDesk$Whole;)V"⟩, 7) := ⟨⟨by decide +kernel, by decide +kernel⟩, List.mem_of_getElem? (i := 79) (by decide +kernel), List.mem_of_getElem? (i := 478) (by decide +kernel), List.mem_of_getElem? (i := 479) (by decide +kernel)⟩
theorem lw_p10 : lw_okq (⟨"FractionDesk", "half", "(II)LFractionDesk$Whole;"⟩, 4) := ⟨⟨by decide +kernel, by decide +kernel⟩, List.mem_of_getElem? (i := 17) (by decide +kernel), List.mem_of_getElem? (i := 503) (by decide +kernel), List.mem_of_getElem? (i := 504) (by decide +kernel)⟩
theorem lw_p11 : lw_okq (⟨"FractionDesk$Text", "putNineBackwards", "(I)V"⟩, 2) := ⟨⟨by decide +kernel, by decide +kernel⟩, List.mem_of_getElem? (i := 133) (by decide +kernel), List.mem_of_getElem? (i := 542) (by decide +kernel), List.mem_of_getElem? (i := 543) (by decide +kernel)⟩
theorem lw_p12 : lw_okq (⟨"FractionDesk$Text", "turnRound", "(II)V"⟩, 2) := ⟨⟨by decide +kernel, by decide +kernel⟩, List.mem_of_getElem? (i := 133) (by decide +kernel), List.mem_of_getElem? (i := 547) (by decide +kernel), List.mem_of_getElem? (i := 548) (by decide +kernel)⟩
theorem lw_p13 : lw_okq (⟨"FractionDesk$Text", "isAllZeros", "(II)Z"⟩, 2) := ⟨⟨by decide +kernel, by decide +kernel⟩, List.mem_of_getElem? (i := 133) (by decide +kernel), List.mem_of_getElem? (i := 575) (by decide +kernel), List.mem_of_getElem? (i := 576) (by decide +kernel)⟩
theorem lw_p14 : lw_okq (⟨"FractionDeskModel", "setLong", "(IJ)V"⟩, 8) := ⟨⟨by decide +kernel, by decide +kernel⟩, List.mem_of_getElem? (i := 607) (by decide +kernel), List.mem_of_getElem? (i := 613) (by decide +kernel), List.mem_of_getElem? (i := 614) (by decide +kernel)⟩
theorem lw_p15 : lw_okq (⟨"FractionDeskModel", "trim", "(I)V"⟩, 8) := ⟨⟨by decide +kernel, by decide +kernel⟩, List.mem_of_getElem? (i := 607) (by decide +kernel), List.mem_of_getElem? (i := 618) (by decide +kernel), List.mem_of_getElem? (i := 619) (by decide +kernel)⟩
def lw_privs_1 : List (MethodName × Nat) := [(⟨"FractionDesk", "register", "(I)LFractionDesk$Fraction;"⟩, 4), (⟨"java/lang/Throwable", "fillInStackTrace", "(I)Ljava/lang/Throwable;"⟩, 6), (⟨"FractionDesk$Divisors", "findLeap", "(LFractionDesk$Whole;LFractionDesk$Whole;)Z"⟩, 5), (⟨"FractionDesk$Whole", "trialDigit", "(LFractionDesk$Whole;I)J"⟩, 2), (⟨"FractionDesk$Whole", "takeAway", "(LFractionDesk$Whole;JI)Z"⟩, 2), (⟨"FractionDesk$Bench", "divideOut", "(LFractionDesk$Whole;LFractionDesk$Whole;)V"⟩, 7), (⟨"FractionDesk$Bench", "cross", "(LFractionDesk$Fraction;LFractionDesk$Fraction;)V"⟩, 7), (⟨"FractionDesk$Bench", "roundRatio", "(Z)V"⟩, 7), (⟨"FractionDesk$Bench", "raiseWhole", "(LFractionDesk$Whole;LFractionDesk$Whole;I)V"⟩, 7), (⟨"FractionDesk$Bench", "multiplyWhole", "(LFractionDesk$Whole;LFractionDesk$Whole;)V"⟩, 7), (⟨"FractionDesk", "half", "(II)LFractionDesk$Whole;"⟩, 4), (⟨"FractionDesk$Text", "putNineBackwards", "(I)V"⟩, 2), (⟨"FractionDesk$Text", "turnRound", "(II)V"⟩, 2), (⟨"FractionDesk$Text", "isAllZeros", "(II)Z"⟩, 2), (⟨"FractionDeskModel", "setLong", "(IJ)V"⟩, 8), (⟨"FractionDeskModel", "trim", "(I)V"⟩, 8)]
theorem lw_r1 : ∀ q ∈ lw_privs_1, lw_okq q := List.forall_mem_cons.mpr ⟨lw_p0, List.forall_mem_cons.mpr ⟨lw_p1, List.forall_mem_cons.mpr ⟨lw_p2, List.forall_mem_cons.mpr ⟨lw_p3, List.forall_mem_cons.mpr ⟨lw_p4, List.forall_mem_cons.mpr ⟨lw_p5, List.forall_mem_cons.mpr ⟨lw_p6, List.forall_mem_cons.mpr ⟨lw_p7, List.forall_mem_cons.mpr ⟨lw_p8, List.forall_mem_cons.mpr ⟨lw_p9, List.forall_mem_cons.mpr ⟨lw_p10, List.forall_mem_cons.mpr ⟨lw_p11, List.forall_mem_cons.mpr ⟨lw_p12, List.forall_mem_cons.mpr ⟨lw_p13, List.forall_mem_cons.mpr ⟨lw_p14, List.forall_mem_cons.mpr ⟨lw_p15, fun _ h => absurd h List.not_mem_nil⟩⟩⟩⟩⟩⟩⟩⟩⟩⟩⟩⟩⟩⟩⟩⟩
theorem lw_p16 : lw_okq (⟨"FractionDeskModel", "lay", "(I)I"⟩, 8) := ⟨⟨by decide +kernel, by decide +kernel⟩, List.mem_of_getElem? (i := 607) (by decide +kernel), List.mem_of_getElem? (i := 659) (by decide +kernel), List.mem_of_getElem? (i := 660) (by decide +kernel)⟩
theorem lw_p17 : lw_okq (⟨"FractionDeskModel", "common", "(II)V"⟩, 8) := ⟨⟨by decide +kernel, by decide +kernel⟩, List.mem_of_getElem? (i := 607) (by decide +kernel), List.mem_of_getElem? (i := 663) (by decide +kernel), List.mem_of_getElem? (i := 664) (by decide +kernel)⟩
theorem lw_p18 : lw_okq (⟨"FractionDeskModel", "copy", "(II)V"⟩, 8) := ⟨⟨by decide +kernel, by decide +kernel⟩, List.mem_of_getElem? (i := 607) (by decide +kernel), List.mem_of_getElem? (i := 667) (by decide +kernel), List.mem_of_getElem? (i := 668) (by decide +kernel)⟩
theorem lw_p19 : lw_okq (⟨"FractionDeskModel", "divide", "(II)V"⟩, 8) := ⟨⟨by decide +kernel, by decide +kernel⟩, List.mem_of_getElem? (i := 607) (by decide +kernel), List.mem_of_getElem? (i := 671) (by decide +kernel), List.mem_of_getElem? (i := 672) (by decide +kernel)⟩
theorem lw_p20 : lw_okq (⟨"FractionDeskModel", "compareSizes", "(II)I"⟩, 8) := ⟨⟨by decide +kernel, by decide +kernel⟩, List.mem_of_getElem? (i := 607) (by decide +kernel), List.mem_of_getElem? (i := 675) (by decide +kernel), List.mem_of_getElem? (i := 676) (by decide +kernel)⟩
theorem lw_p21 : lw_okq (⟨"FractionDeskModel", "scale", "(III)V"⟩, 8) := ⟨⟨by decide +kernel, by decide +kernel⟩, List.mem_of_getElem? (i := 607) (by decide +kernel), List.mem_of_getElem? (i := 680) (by decide +kernel), List.mem_of_getElem? (i := 681) (by decide +kernel)⟩
theorem lw_p22 : lw_okq (⟨"FractionDeskModel", "takes", "(IJ)Z"⟩, 8) := ⟨⟨by decide +kernel, by decide +kernel⟩, List.mem_of_getElem? (i := 607) (by decide +kernel), List.mem_of_getElem? (i := 685) (by decide +kernel), List.mem_of_getElem? (i := 686) (by decide +kernel)⟩
theorem lw_p23 : lw_okq (⟨"FractionDeskModel", "givesBack", "(I)Z"⟩, 8) := ⟨⟨by decide +kernel, by decide +kernel⟩, List.mem_of_getElem? (i := 607) (by decide +kernel), List.mem_of_getElem? (i := 689) (by decide +kernel), List.mem_of_getElem? (i := 690) (by decide +kernel)⟩
theorem lw_p24 : lw_okq (⟨"FractionDeskModel", "isOne", "(I)Z"⟩, 8) := ⟨⟨by decide +kernel, by decide +kernel⟩, List.mem_of_getElem? (i := 607) (by decide +kernel), List.mem_of_getElem? (i := 700) (by decide +kernel), List.mem_of_getElem? (i := 701) (by decide +kernel)⟩
theorem lw_p25 : lw_okq (⟨"FractionDeskModel", "times", "(III)V"⟩, 8) := ⟨⟨by decide +kernel, by decide +kernel⟩, List.mem_of_getElem? (i := 607) (by decide +kernel), List.mem_of_getElem? (i := 704) (by decide +kernel), List.mem_of_getElem? (i := 705) (by decide +kernel)⟩
theorem lw_p26 : lw_okq (⟨"FractionDeskModel", "join", "(IIIZ)V"⟩, 8) := ⟨⟨by decide +kernel, by decide +kernel⟩, List.mem_of_getElem? (i := 607) (by decide +kernel), List.mem_of_getElem? (i := 708) (by decide +kernel), List.mem_of_getElem? (i := 709) (by decide +kernel)⟩
theorem lw_p27 : lw_okq (⟨"FractionDeskModel", "addSizes", "(III)V"⟩, 8) := ⟨⟨by decide +kernel, by decide +kernel⟩, List.mem_of_getElem? (i := 607) (by decide +kernel), List.mem_of_getElem? (i := 712) (by decide +kernel), List.mem_of_getElem? (i := 713) (by decide +kernel)⟩
theorem lw_p28 : lw_okq (⟨"FractionDeskModel", "takeSizes", "(III)V"⟩, 8) := ⟨⟨by decide +kernel, by decide +kernel⟩, List.mem_of_getElem? (i := 607) (by decide +kernel), List.mem_of_getElem? (i := 716) (by decide +kernel), List.mem_of_getElem? (i := 717) (by decide +kernel)⟩
theorem lw_p29 : lw_okq (⟨"FractionDeskModel", "compare", "(II)I"⟩, 8) := ⟨⟨by decide +kernel, by decide +kernel⟩, List.mem_of_getElem? (i := 607) (by decide +kernel), List.mem_of_getElem? (i := 720) (by decide +kernel), List.mem_of_getElem? (i := 721) (by decide +kernel)⟩
theorem lw_p30 : lw_okq (⟨"FractionDeskModel", "take", "(II)I"⟩, 8) := ⟨⟨by decide +kernel, by decide +kernel⟩, List.mem_of_getElem? (i := 607) (by decide +kernel), List.mem_of_getElem? (i := 724) (by decide +kernel), List.mem_of_getElem? (i := 725) (by decide +kernel)⟩
theorem lw_p31 : lw_okq (⟨"FractionDeskModel", "wholeQuotient", "(II)V"⟩, 8) := ⟨⟨by decide +kernel, by decide +kernel⟩, List.mem_of_getElem? (i := 607) (by decide +kernel), List.mem_of_getElem? (i := 728) (by decide +kernel), List.mem_of_getElem? (i := 729) (by decide +kernel)⟩
def lw_privs_2 : List (MethodName × Nat) := [(⟨"FractionDeskModel", "lay", "(I)I"⟩, 8), (⟨"FractionDeskModel", "common", "(II)V"⟩, 8), (⟨"FractionDeskModel", "copy", "(II)V"⟩, 8), (⟨"FractionDeskModel", "divide", "(II)V"⟩, 8), (⟨"FractionDeskModel", "compareSizes", "(II)I"⟩, 8), (⟨"FractionDeskModel", "scale", "(III)V"⟩, 8), (⟨"FractionDeskModel", "takes", "(IJ)Z"⟩, 8), (⟨"FractionDeskModel", "givesBack", "(I)Z"⟩, 8), (⟨"FractionDeskModel", "isOne", "(I)Z"⟩, 8), (⟨"FractionDeskModel", "times", "(III)V"⟩, 8), (⟨"FractionDeskModel", "join", "(IIIZ)V"⟩, 8), (⟨"FractionDeskModel", "addSizes", "(III)V"⟩, 8), (⟨"FractionDeskModel", "takeSizes", "(III)V"⟩, 8), (⟨"FractionDeskModel", "compare", "(II)I"⟩, 8), (⟨"FractionDeskModel", "take", "(II)I"⟩, 8), (⟨"FractionDeskModel", "wholeQuotient", "(II)V"⟩, 8)]
theorem lw_r2 : ∀ q ∈ lw_privs_2, lw_okq q := List.forall_mem_cons.mpr ⟨lw_p16, List.forall_mem_cons.mpr ⟨lw_p17, List.forall_mem_cons.mpr ⟨lw_p18, List.forall_mem_cons.mpr ⟨lw_p19, List.forall_mem_cons.mpr ⟨lw_p20, List.forall_mem_cons.mpr ⟨lw_p21, List.forall_mem_cons.mpr ⟨lw_p22, List.forall_mem_cons.mpr ⟨lw_p23, List.forall_mem_cons.mpr ⟨lw_p24, List.forall_mem_cons.mpr ⟨lw_p25, List.forall_mem_cons.mpr ⟨lw_p26, List.forall_mem_cons.mpr ⟨lw_p27, List.forall_mem_cons.mpr ⟨lw_p28, List.forall_mem_cons.mpr ⟨lw_p29, List.forall_mem_cons.mpr ⟨lw_p30, List.forall_mem_cons.mpr ⟨lw_p31, fun _ h => absurd h List.not_mem_nil⟩⟩⟩⟩⟩⟩⟩⟩⟩⟩⟩⟩⟩⟩⟩⟩
theorem lw_p32 : lw_okq (⟨"FractionDeskModel", "floor", "(II)V"⟩, 8) := ⟨⟨by decide +kernel, by decide +kernel⟩, List.mem_of_getElem? (i := 607) (by decide +kernel), List.mem_of_getElem? (i := 732) (by decide +kernel), List.mem_of_getElem? (i := 733) (by decide +kernel)⟩
theorem lw_p33 : lw_okq (⟨"FractionDeskModel", "rest", "(III)I"⟩, 8) := ⟨⟨by decide +kernel, by decide +kernel⟩, List.mem_of_getElem? (i := 607) (by decide +kernel), List.mem_of_getElem? (i := 736) (by decide +kernel), List.mem_of_getElem? (i := 737) (by decide +kernel)⟩
theorem lw_p34 : lw_okq (⟨"FractionDeskModel", "raise", "(III)Z"⟩, 8) := ⟨⟨by decide +kernel, by decide +kernel⟩, List.mem_of_getElem? (i := 607) (by decide +kernel), List.mem_of_getElem? (i := 748) (by decide +kernel), List.mem_of_getElem? (i := 749) (by decide +kernel)⟩
theorem lw_p35 : lw_okq (⟨"FractionDeskModel", "look", "(II)V"⟩, 8) := ⟨⟨by decide +kernel, by decide +kernel⟩, List.mem_of_getElem? (i := 607) (by decide +kernel), List.mem_of_getElem? (i := 764) (by decide +kernel), List.mem_of_getElem? (i := 765) (by decide +kernel)⟩
theorem lw_p36 : lw_okq (⟨"FractionDeskModel", "partAt", "(II)J"⟩, 8) := ⟨⟨by decide +kernel, by decide +kernel⟩, List.mem_of_getElem? (i := 607) (by decide +kernel), List.mem_of_getElem? (i := 772) (by decide +kernel), List.mem_of_getElem? (i := 773) (by decide +kernel)⟩
theorem lw_p37 : lw_okq (⟨"FractionDeskModel", "print", "(I)V"⟩, 8) := ⟨⟨by decide +kernel, by decide +kernel⟩, List.mem_of_getElem? (i := 607) (by decide +kernel), List.mem_of_getElem? (i := 780) (by decide +kernel), List.mem_of_getElem? (i := 781) (by decide +kernel)⟩
theorem lw_p38 : lw_okq (⟨"FractionDeskModel", "printDigits", "(I)V"⟩, 8) := ⟨⟨by decide +kernel, by decide +kernel⟩, List.mem_of_getElem? (i := 607) (by decide +kernel), List.mem_of_getElem? (i := 784) (by decide +kernel), List.mem_of_getElem? (i := 785) (by decide +kernel)⟩
theorem lw_p39 : lw_okq (⟨"FractionDeskModel", "endOf", "(I)I"⟩, 8) := ⟨⟨by decide +kernel, by decide +kernel⟩, List.mem_of_getElem? (i := 607) (by decide +kernel), List.mem_of_getElem? (i := 807) (by decide +kernel), List.mem_of_getElem? (i := 808) (by decide +kernel)⟩
theorem lw_p40 : lw_okq (⟨"FractionDeskModel", "isDigit", "(I)Z"⟩, 8) := ⟨⟨by decide +kernel, by decide +kernel⟩, List.mem_of_getElem? (i := 607) (by decide +kernel), List.mem_of_getElem? (i := 811) (by decide +kernel), List.mem_of_getElem? (i := 812) (by decide +kernel)⟩
theorem lw_p41 : lw_okq (⟨"FractionDeskModel", "hasMore", "(II)Z"⟩, 8) := ⟨⟨by decide +kernel, by decide +kernel⟩, List.mem_of_getElem? (i := 607) (by decide +kernel), List.mem_of_getElem? (i := 815) (by decide +kernel), List.mem_of_getElem? (i := 816) (by decide +kernel)⟩
theorem lw_p42 : lw_okq (⟨"FractionDeskModel", "tell", "(III)Z"⟩, 8) := ⟨⟨by decide +kernel, by decide +kernel⟩, List.mem_of_getElem? (i := 607) (by decide +kernel), List.mem_of_getElem? (i := 819) (by decide +kernel), List.mem_of_getElem? (i := 820) (by decide +kernel)⟩
def lw_privs_3 : List (MethodName × Nat) := [(⟨"FractionDeskModel", "floor", "(II)V"⟩, 8), (⟨"FractionDeskModel", "rest", "(III)I"⟩, 8), (⟨"FractionDeskModel", "raise", "(III)Z"⟩, 8), (⟨"FractionDeskModel", "look", "(II)V"⟩, 8), (⟨"FractionDeskModel", "partAt", "(II)J"⟩, 8), (⟨"FractionDeskModel", "print", "(I)V"⟩, 8), (⟨"FractionDeskModel", "printDigits", "(I)V"⟩, 8), (⟨"FractionDeskModel", "endOf", "(I)I"⟩, 8), (⟨"FractionDeskModel", "isDigit", "(I)Z"⟩, 8), (⟨"FractionDeskModel", "hasMore", "(II)Z"⟩, 8), (⟨"FractionDeskModel", "tell", "(III)Z"⟩, 8)]
theorem lw_r3 : ∀ q ∈ lw_privs_3, lw_okq q := List.forall_mem_cons.mpr ⟨lw_p32, List.forall_mem_cons.mpr ⟨lw_p33, List.forall_mem_cons.mpr ⟨lw_p34, List.forall_mem_cons.mpr ⟨lw_p35, List.forall_mem_cons.mpr ⟨lw_p36, List.forall_mem_cons.mpr ⟨lw_p37, List.forall_mem_cons.mpr ⟨lw_p38, List.forall_mem_cons.mpr ⟨lw_p39, List.forall_mem_cons.mpr ⟨lw_p40, List.forall_mem_cons.mpr ⟨lw_p41, List.forall_mem_cons.mpr ⟨lw_p42, fun _ h => absurd h List.not_mem_nil⟩⟩⟩⟩⟩⟩⟩⟩⟩⟩⟩
def lw_privs : List (MethodName × Nat) := lw_privs_1 ++ (lw_privs_2 ++ (lw_privs_3))
def lw_tbl : List Cond := k2_sels lw_privs ++ tables_1
theorem lw_privs_ok : ∀ q ∈ lw_privs, lw_okq q := by
  show ∀ q ∈ lw_privs_1 ++ (lw_privs_2 ++ (lw_privs_3)), lw_okq q
  exact List.forall_mem_append.mpr ⟨lw_r1, List.forall_mem_append.mpr ⟨lw_r2, lw_r3⟩⟩
-- ===== end of PART A; then your names; then what follows =====
end
section
/-! names, by program: classes, fields, methods; every word of the tables by its place -/
def R_B : String := "FractionDesk$Bench"
def R_D : String := "FractionDesk$Divisors"
def R_F : String := "FractionDesk$Fraction"
def R_T : String := "FractionDesk$Text"
def R_W : String := "FractionDesk$Whole"
def R_K : String := "FractionDesk"
def R_M : String := "FractionDeskModel"
def R_L : String := "FractionDeskLaw"
def R_JI : String := "java/lang/Integer"
def R_JM : String := "java/lang/Math"
def T_W : u_T := fun k => match k with
  | 0 => ("FractionDesk$Whole", "limbs", "[I", true)
  | _ => ("FractionDesk$Whole", "size", "I", false)
def ft_W : Nat → FieldType := fun k => match k with
  | 0 => (.array .int)
  | _ => .int
theorem n_W : ∀ a, a < 2 → ∀ b, b < 2 → a ≠ b → (T_W a).2.1 ≠ (T_W b).2.1 := by decide +kernel
theorem ft_W_ok : ∀ k, k < 2 → parseFieldDescriptor (T_W k).2.2.1 = some (ft_W k) := by decide +kernel
def T_F : u_T := fun k => match k with
  | 0 => ("FractionDesk$Fraction", "top", "LFractionDesk$Whole;", true)
  | 1 => ("FractionDesk$Fraction", "bottom", "LFractionDesk$Whole;", true)
  | _ => ("FractionDesk$Fraction", "below", "Z", false)
def ft_F : Nat → FieldType := fun k => match k with
  | 0 => (.object "FractionDesk$Whole")
  | 1 => (.object "FractionDesk$Whole")
  | _ => .boolean
theorem n_F : ∀ a, a < 3 → ∀ b, b < 3 → a ≠ b → (T_F a).2.1 ≠ (T_F b).2.1 := by decide +kernel
theorem ft_F_ok : ∀ k, k < 3 → parseFieldDescriptor (T_F k).2.2.1 = some (ft_F k) := by decide +kernel
def T_T : u_T := fun k => match k with
  | 0 => ("FractionDesk$Text", "characters", "[C", true)
  | _ => ("FractionDesk$Text", "length", "I", false)
def ft_T : Nat → FieldType := fun k => match k with
  | 0 => (.array .char)
  | _ => .int
theorem n_T : ∀ a, a < 2 → ∀ b, b < 2 → a ≠ b → (T_T a).2.1 ≠ (T_T b).2.1 := by decide +kernel
theorem ft_T_ok : ∀ k, k < 2 → parseFieldDescriptor (T_T k).2.2.1 = some (ft_T k) := by decide +kernel
def T_D : u_T := fun k => match k with
  | 0 => ("FractionDesk$Divisors", "spare", "LFractionDesk$Whole;", true)
  | 1 => ("FractionDesk$Divisors", "f", "J", false)
  | 2 => ("FractionDesk$Divisors", "g", "J", false)
  | 3 => ("FractionDesk$Divisors", "h", "J", false)
  | _ => ("FractionDesk$Divisors", "k", "J", false)
def ft_D : Nat → FieldType := fun k => match k with
  | 0 => (.object "FractionDesk$Whole")
  | 1 => .long
  | 2 => .long
  | 3 => .long
  | _ => .long
theorem n_D : ∀ a, a < 5 → ∀ b, b < 5 → a ≠ b → (T_D a).2.1 ≠ (T_D b).2.1 := by decide +kernel
theorem ft_D_ok : ∀ k, k < 5 → parseFieldDescriptor (T_D k).2.2.1 = some (ft_D k) := by decide +kernel
def T_B : u_T := fun k => match k with
  | 0 => ("FractionDesk$Bench", "top", "LFractionDesk$Whole;", true)
  | 1 => ("FractionDesk$Bench", "bottom", "LFractionDesk$Whole;", true)
  | 2 => ("FractionDesk$Bench", "left", "LFractionDesk$Whole;", true)
  | 3 => ("FractionDesk$Bench", "right", "LFractionDesk$Whole;", true)
  | 4 => ("FractionDesk$Bench", "spare", "LFractionDesk$Whole;", true)
  | 5 => ("FractionDesk$Bench", "divisors", "LFractionDesk$Divisors;", true)
  | _ => ("FractionDesk$Bench", "below", "Z", false)
def ft_B : Nat → FieldType := fun k => match k with
  | 0 => (.object "FractionDesk$Whole")
  | 1 => (.object "FractionDesk$Whole")
  | 2 => (.object "FractionDesk$Whole")
  | 3 => (.object "FractionDesk$Whole")
  | 4 => (.object "FractionDesk$Whole")
  | 5 => (.object "FractionDesk$Divisors")
  | _ => .boolean
theorem n_B : ∀ a, a < 7 → ∀ b, b < 7 → a ≠ b → (T_B a).2.1 ≠ (T_B b).2.1 := by decide +kernel
theorem ft_B_ok : ∀ k, k < 7 → parseFieldDescriptor (T_B k).2.2.1 = some (ft_B k) := by decide +kernel
def T_K : u_T := fun k => match k with
  | 0 => ("FractionDesk", "registers", "[LFractionDesk$Fraction;", true)
  | 1 => ("FractionDesk", "bench", "LFractionDesk$Bench;", true)
  | 2 => ("FractionDesk", "text", "LFractionDesk$Text;", true)
  | _ => ("FractionDesk", "wrongPlace", "I", false)
def ft_K : Nat → FieldType := fun k => match k with
  | 0 => (.array (.object "FractionDesk$Fraction"))
  | 1 => (.object "FractionDesk$Bench")
  | 2 => (.object "FractionDesk$Text")
  | _ => .int
theorem n_K : ∀ a, a < 4 → ∀ b, b < 4 → a ≠ b → (T_K a).2.1 ≠ (T_K b).2.1 := by decide +kernel
theorem ft_K_ok : ∀ k, k < 4 → parseFieldDescriptor (T_K k).2.2.1 = some (ft_K k) := by decide +kernel
def T_M : u_T := fun k => match k with
  | 0 => ("FractionDeskModel", "code", "I", false)
  | 1 => ("FractionDeskModel", "parts", "[I", true)
  | 2 => ("FractionDeskModel", "sizes", "[I", true)
  | 3 => ("FractionDeskModel", "minus", "[Z", true)
  | 4 => ("FractionDeskModel", "text", "[I", true)
  | 5 => ("FractionDeskModel", "length", "I", false)
  | 6 => ("FractionDeskModel", "wrong", "I", false)
  | _ => ("FractionDeskModel", "digits", "[I", true)
def ft_M : Nat → FieldType := fun k => match k with
  | 0 => .int
  | 1 => (.array .int)
  | 2 => (.array .int)
  | 3 => (.array .boolean)
  | 4 => (.array .int)
  | 5 => .int
  | 6 => .int
  | _ => (.array .int)
theorem n_M : ∀ a, a < 8 → ∀ b, b < 8 → a ≠ b → (T_M a).2.1 ≠ (T_M b).2.1 := by decide +kernel
theorem ft_M_ok : ∀ k, k < 8 → parseFieldDescriptor (T_M k).2.2.1 = some (ft_M k) := by decide +kernel
abbrev classes : List vw_C := [(R_W, T_W, 2), (R_F, T_F, 3), (R_T, T_T, 2), (R_D, T_D, 5), (R_B, T_B, 7), (R_K, T_K, 4), (R_M, T_M, 8)]
abbrev b_K_init : ByteArray := prog_1_method_1_code
def y_K_init : MethodName := ⟨R_K, "<init>", "()V"⟩
abbrev b_F_init : ByteArray := prog_4_method_1_code
def y_F_init : MethodName := ⟨R_F, "<init>", "()V"⟩
abbrev b_W_init : ByteArray := prog_6_method_1_code
def y_W_init : MethodName := ⟨R_W, "<init>", "(I)V"⟩
abbrev b_JM_max : ByteArray := prog_13_method_65_code
def y_JM_max : MethodName := ⟨R_JM, "max", "(II)I"⟩
abbrev b_W_becomeLong : ByteArray := prog_6_method_11_code
def y_W_becomeLong : MethodName := ⟨R_W, "becomeLong", "(J)V"⟩
abbrev b_W_trim : ByteArray := prog_6_method_10_code
def y_W_trim : MethodName := ⟨R_W, "trim", "(I)V"⟩
abbrev b_JM_min : ByteArray := prog_13_method_69_code
def y_JM_min : MethodName := ⟨R_JM, "min", "(II)I"⟩
abbrev b_B_init : ByteArray := prog_2_method_1_code
def y_B_init : MethodName := ⟨R_B, "<init>", "()V"⟩
abbrev b_D_init : ByteArray := prog_3_method_1_code
def y_D_init : MethodName := ⟨R_D, "<init>", "()V"⟩
abbrev b_T_init : ByteArray := prog_5_method_1_code
def y_T_init : MethodName := ⟨R_T, "<init>", "()V"⟩
abbrev b_K_type : ByteArray := prog_1_method_11_code
def y_K_type : MethodName := ⟨R_K, "type", "(JI)I"⟩
abbrev b_K_byteOf : ByteArray := prog_1_method_18_code
def y_K_byteOf : MethodName := ⟨R_K, "byteOf", "(JI)I"⟩
abbrev b_T_put : ByteArray := prog_5_method_3_code
def y_T_put : MethodName := ⟨R_T, "put", "(C)V"⟩
abbrev b_K_wipe : ByteArray := prog_1_method_12_code
def y_K_wipe : MethodName := ⟨R_K, "wipe", "()I"⟩
abbrev b_K_character : ByteArray := prog_1_method_13_code
def y_K_character : MethodName := ⟨R_K, "character", "(I)I"⟩
abbrev b_T_at : ByteArray := prog_5_method_2_code
def y_T_at : MethodName := ⟨R_T, "at", "(I)I"⟩
abbrev b_K_place : ByteArray := prog_1_method_15_code
def y_K_place : MethodName := ⟨R_K, "place", "()I"⟩
abbrev b_L_set : ByteArray := method_3_code
def y_L_set : MethodName := ⟨R_L, "set", "(LFractionDesk;IJJ)I"⟩
abbrev b_K_set : ByteArray := prog_1_method_2_code
def y_K_set : MethodName := ⟨R_K, "set", "(IJJ)V"⟩
abbrev b_K_register : ByteArray := prog_1_method_16_code
def y_K_register : MethodName := ⟨R_K, "register", "(I)LFractionDesk$Fraction;"⟩
abbrev b_B_takeNumbers : ByteArray := prog_2_method_5_code
def y_B_takeNumbers : MethodName := ⟨R_B, "takeNumbers", "(JJ)V"⟩
abbrev b_JM_abs : ByteArray := prog_13_method_61_code
def y_JM_abs : MethodName := ⟨R_JM, "abs", "(J)J"⟩
abbrev b_B_keepReduced : ByteArray := prog_2_method_2_code
def y_B_keepReduced : MethodName := ⟨R_B, "keepReduced", "(LFractionDesk$Fraction;)I"⟩
abbrev b_W_isOne : ByteArray := prog_6_method_3_code
def y_W_isOne : MethodName := ⟨R_W, "isOne", "()Z"⟩
abbrev b_W_become : ByteArray := prog_6_method_12_code
def y_W_become : MethodName := ⟨R_W, "become", "(LFractionDesk$Whole;)V"⟩
abbrev b_D_greatestCommon : ByteArray := prog_3_method_2_code
def y_D_greatestCommon : MethodName := ⟨R_D, "greatestCommon", "(LFractionDesk$Whole;LFractionDesk$Whole;)LFractionDesk$Whole;"⟩
abbrev b_W_compare : ByteArray := prog_6_method_20_code
def y_W_compare : MethodName := ⟨R_W, "compare", "(LFractionDesk$Whole;LFractionDesk$Whole;)I"⟩
abbrev b_W_isZero : ByteArray := prog_6_method_2_code
def y_W_isZero : MethodName := ⟨R_W, "isZero", "()Z"⟩
abbrev b_D_findLeap : ByteArray := prog_3_method_3_code
def y_D_findLeap : MethodName := ⟨R_D, "findLeap", "(LFractionDesk$Whole;LFractionDesk$Whole;)Z"⟩
abbrev b_W_spareBits : ByteArray := prog_6_method_6_code
def y_W_spareBits : MethodName := ⟨R_W, "spareBits", "()I"⟩
abbrev b_JI_numberOfLeadingZeros : ByteArray := prog_12_method_47_code
def y_JI_numberOfLeadingZeros : MethodName := ⟨R_JI, "numberOfLeadingZeros", "(I)I"⟩
abbrev b_D_highest : ByteArray := prog_3_method_4_code
def y_D_highest : MethodName := ⟨R_D, "highest", "(LFractionDesk$Whole;II)J"⟩
abbrev b_W_shiftedLimb : ByteArray := prog_6_method_9_code
def y_W_shiftedLimb : MethodName := ⟨R_W, "shiftedLimb", "(II)J"⟩
abbrev b_W_limb : ByteArray := prog_6_method_8_code
def y_W_limb : MethodName := ⟨R_W, "limb", "(I)I"⟩
abbrev b_W_becomeMix : ByteArray := prog_6_method_13_code
def y_W_becomeMix : MethodName := ⟨R_W, "becomeMix", "(JLFractionDesk$Whole;JLFractionDesk$Whole;)V"⟩
abbrev b_W_leaveRest : ByteArray := prog_6_method_17_code
def y_W_leaveRest : MethodName := ⟨R_W, "leaveRest", "(LFractionDesk$Whole;LFractionDesk$Whole;)V"⟩
abbrev b_W_trialDigit : ByteArray := prog_6_method_18_code
def y_W_trialDigit : MethodName := ⟨R_W, "trialDigit", "(LFractionDesk$Whole;I)J"⟩
abbrev b_W_takeAway : ByteArray := prog_6_method_19_code
def y_W_takeAway : MethodName := ⟨R_W, "takeAway", "(LFractionDesk$Whole;JI)Z"⟩
abbrev b_B_divideOut : ByteArray := prog_2_method_3_code
def y_B_divideOut : MethodName := ⟨R_B, "divideOut", "(LFractionDesk$Whole;LFractionDesk$Whole;)V"⟩
abbrev b_B_keep : ByteArray := prog_2_method_4_code
def y_B_keep : MethodName := ⟨R_B, "keep", "(LFractionDesk$Fraction;)I"⟩
abbrev b_W_isSmallEnough : ByteArray := prog_6_method_4_code
def y_W_isSmallEnough : MethodName := ⟨R_W, "isSmallEnough", "()Z"⟩
abbrev b_W_bits : ByteArray := prog_6_method_5_code
def y_W_bits : MethodName := ⟨R_W, "bits", "()I"⟩
abbrev b_L_combine : ByteArray := method_4_code
def y_L_combine : MethodName := ⟨R_L, "combine", "(LFractionDesk;IIII[J)I"⟩
abbrev b_K_combine : ByteArray := prog_1_method_3_code
def y_K_combine : MethodName := ⟨R_K, "combine", "(IIII)I"⟩
abbrev b_F_isWhole : ByteArray := prog_4_method_2_code
def y_F_isWhole : MethodName := ⟨R_F, "isWhole", "()Z"⟩
abbrev b_F_signum : ByteArray := prog_4_method_3_code
def y_F_signum : MethodName := ⟨R_F, "signum", "()I"⟩
abbrev b_B_add : ByteArray := prog_2_method_13_code
def y_B_add : MethodName := ⟨R_B, "add", "(LFractionDesk$Fraction;LFractionDesk$Fraction;Z)V"⟩
abbrev b_B_cross : ByteArray := prog_2_method_11_code
def y_B_cross : MethodName := ⟨R_B, "cross", "(LFractionDesk$Fraction;LFractionDesk$Fraction;)V"⟩
abbrev b_W_becomeProduct : ByteArray := prog_6_method_14_code
def y_W_becomeProduct : MethodName := ⟨R_W, "becomeProduct", "(LFractionDesk$Whole;LFractionDesk$Whole;)V"⟩
abbrev b_B_multiply : ByteArray := prog_2_method_14_code
def y_B_multiply : MethodName := ⟨R_B, "multiply", "(LFractionDesk$Fraction;LFractionDesk$Fraction;)V"⟩
abbrev b_B_divide : ByteArray := prog_2_method_15_code
def y_B_divide : MethodName := ⟨R_B, "divide", "(LFractionDesk$Fraction;LFractionDesk$Fraction;)V"⟩
abbrev b_B_takeParts : ByteArray := prog_2_method_8_code
def y_B_takeParts : MethodName := ⟨R_B, "takeParts", "(LFractionDesk$Whole;LFractionDesk$Whole;Z)V"⟩
abbrev b_B_compareFractions : ByteArray := prog_2_method_12_code
def y_B_compareFractions : MethodName := ⟨R_B, "compareFractions", "(LFractionDesk$Fraction;LFractionDesk$Fraction;)I"⟩
abbrev b_B_take : ByteArray := prog_2_method_7_code
def y_B_take : MethodName := ⟨R_B, "take", "(LFractionDesk$Fraction;)V"⟩
abbrev b_B_divideWhole : ByteArray := prog_2_method_16_code
def y_B_divideWhole : MethodName := ⟨R_B, "divideWhole", "(LFractionDesk$Fraction;LFractionDesk$Fraction;)V"⟩
abbrev b_B_roundRatio : ByteArray := prog_2_method_19_code
def y_B_roundRatio : MethodName := ⟨R_B, "roundRatio", "(Z)V"⟩
abbrev b_W_timesPlus : ByteArray := prog_6_method_15_code
def y_W_timesPlus : MethodName := ⟨R_W, "timesPlus", "(II)V"⟩
abbrev b_B_takeRest : ByteArray := prog_2_method_17_code
def y_B_takeRest : MethodName := ⟨R_B, "takeRest", "(LFractionDesk$Fraction;LFractionDesk$Fraction;)V"⟩
abbrev b_B_takeCommonDivisor : ByteArray := prog_2_method_20_code
def y_B_takeCommonDivisor : MethodName := ⟨R_B, "takeCommonDivisor", "(LFractionDesk$Fraction;LFractionDesk$Fraction;)V"⟩
abbrev b_B_takeWhole : ByteArray := prog_2_method_9_code
def y_B_takeWhole : MethodName := ⟨R_B, "takeWhole", "(LFractionDesk$Whole;Z)V"⟩
abbrev b_L_change : ByteArray := method_5_code
def y_L_change : MethodName := ⟨R_L, "change", "(LFractionDesk;III[J)I"⟩
abbrev b_K_change : ByteArray := prog_1_method_4_code
def y_K_change : MethodName := ⟨R_K, "change", "(III)I"⟩
abbrev b_B_round : ByteArray := prog_2_method_18_code
def y_B_round : MethodName := ⟨R_B, "round", "(LFractionDesk$Fraction;Z)V"⟩
abbrev b_L_power : ByteArray := method_6_code
def y_L_power : MethodName := ⟨R_L, "power", "(LFractionDesk;III[J)I"⟩
abbrev b_K_power : ByteArray := prog_1_method_5_code
def y_K_power : MethodName := ⟨R_K, "power", "(III)I"⟩
abbrev b_B_raise : ByteArray := prog_2_method_21_code
def y_B_raise : MethodName := ⟨R_B, "raise", "(LFractionDesk$Fraction;I)V"⟩
abbrev b_JM_abs2 : ByteArray := prog_13_method_59_code
def y_JM_abs2 : MethodName := ⟨R_JM, "abs", "(I)I"⟩
abbrev b_B_raiseWhole : ByteArray := prog_2_method_22_code
def y_B_raiseWhole : MethodName := ⟨R_B, "raiseWhole", "(LFractionDesk$Whole;LFractionDesk$Whole;I)V"⟩
abbrev b_B_multiplyWhole : ByteArray := prog_2_method_23_code
def y_B_multiplyWhole : MethodName := ⟨R_B, "multiplyWhole", "(LFractionDesk$Whole;LFractionDesk$Whole;)V"⟩
abbrev b_L_order : ByteArray := method_7_code
def y_L_order : MethodName := ⟨R_L, "order", "(LFractionDesk;II[J)I"⟩
abbrev b_K_order : ByteArray := prog_1_method_6_code
def y_K_order : MethodName := ⟨R_K, "order", "(II)I"⟩
abbrev b_L_sign : ByteArray := method_8_code
def y_L_sign : MethodName := ⟨R_L, "sign", "(LFractionDesk;I[J)I"⟩
abbrev b_K_sign : ByteArray := prog_1_method_7_code
def y_K_sign : MethodName := ⟨R_K, "sign", "(I)I"⟩
abbrev b_L_places : ByteArray := method_9_code
def y_L_places : MethodName := ⟨R_L, "places", "(LFractionDesk;II[J)I"⟩
abbrev b_K_places : ByteArray := prog_1_method_8_code
def y_K_places : MethodName := ⟨R_K, "places", "(II)I"⟩
abbrev b_K_half : ByteArray := prog_1_method_17_code
def y_K_half : MethodName := ⟨R_K, "half", "(II)LFractionDesk$Whole;"⟩
abbrev b_L_part : ByteArray := method_10_code
def y_L_part : MethodName := ⟨R_L, "part", "(LFractionDesk;III[J)I"⟩
abbrev b_K_part : ByteArray := prog_1_method_9_code
def y_K_part : MethodName := ⟨R_K, "part", "(III)J"⟩
abbrev b_W_word : ByteArray := prog_6_method_7_code
def y_W_word : MethodName := ⟨R_W, "word", "(I)J"⟩
abbrev b_L_write : ByteArray := method_11_code
def y_L_write : MethodName := ⟨R_L, "write", "(LFractionDesk;I[J)I"⟩
abbrev b_K_write : ByteArray := prog_1_method_10_code
def y_K_write : MethodName := ⟨R_K, "write", "(I)I"⟩
abbrev b_B_copyOf : ByteArray := prog_2_method_10_code
def y_B_copyOf : MethodName := ⟨R_B, "copyOf", "(LFractionDesk$Whole;)LFractionDesk$Whole;"⟩
abbrev b_T_putDecimal : ByteArray := prog_5_method_4_code
def y_T_putDecimal : MethodName := ⟨R_T, "putDecimal", "(LFractionDesk$Whole;)V"⟩
abbrev b_W_divideSmall : ByteArray := prog_6_method_16_code
def y_W_divideSmall : MethodName := ⟨R_W, "divideSmall", "(I)I"⟩
abbrev b_T_putNineBackwards : ByteArray := prog_5_method_5_code
def y_T_putNineBackwards : MethodName := ⟨R_T, "putNineBackwards", "(I)V"⟩
abbrev b_T_turnRound : ByteArray := prog_5_method_6_code
def y_T_turnRound : MethodName := ⟨R_T, "turnRound", "(II)V"⟩
abbrev b_L_read : ByteArray := method_12_code
def y_L_read : MethodName := ⟨R_L, "read", "(LFractionDesk;I[J)I"⟩
abbrev b_K_read : ByteArray := prog_1_method_14_code
def y_K_read : MethodName := ⟨R_K, "read", "(I)I"⟩
abbrev b_T_wrongAt : ByteArray := prog_5_method_10_code
def y_T_wrongAt : MethodName := ⟨R_T, "wrongAt", "()I"⟩
abbrev b_T_firstDigit : ByteArray := prog_5_method_7_code
def y_T_firstDigit : MethodName := ⟨R_T, "firstDigit", "()I"⟩
abbrev b_T_digitsEnd : ByteArray := prog_5_method_8_code
def y_T_digitsEnd : MethodName := ⟨R_T, "digitsEnd", "(I)I"⟩
abbrev b_T_isDigit : ByteArray := prog_5_method_9_code
def y_T_isDigit : MethodName := ⟨R_T, "isDigit", "(I)Z"⟩
abbrev b_T_isAllZeros : ByteArray := prog_5_method_11_code
def y_T_isAllZeros : MethodName := ⟨R_T, "isAllZeros", "(II)Z"⟩
abbrev b_B_takeText : ByteArray := prog_2_method_6_code
def y_B_takeText : MethodName := ⟨R_B, "takeText", "(LFractionDesk$Text;)Z"⟩
abbrev b_T_tell : ByteArray := prog_5_method_12_code
def y_T_tell : MethodName := ⟨R_T, "tell", "(IILFractionDesk$Whole;)Z"⟩
abbrev b_M_init : ByteArray := prog_8_method_1_code
def y_M_init : MethodName := ⟨R_M, "<init>", "()V"⟩
abbrev b_M_setLong : ByteArray := prog_8_method_3_code
def y_M_setLong : MethodName := ⟨R_M, "setLong", "(IJ)V"⟩
abbrev b_M_trim : ByteArray := prog_8_method_4_code
def y_M_trim : MethodName := ⟨R_M, "trim", "(I)V"⟩
abbrev b_M_thrown : ByteArray := prog_8_method_2_code
def y_M_thrown : MethodName := ⟨R_M, "thrown", "()I"⟩
abbrev b_M_set : ByteArray := prog_8_method_21_code
def y_M_set : MethodName := ⟨R_M, "set", "(IJJ)V"⟩
abbrev b_M_isRegister : ByteArray := prog_8_method_18_code
def y_M_isRegister : MethodName := ⟨R_M, "isRegister", "(I)Z"⟩
abbrev b_M_lay : ByteArray := prog_8_method_20_code
def y_M_lay : MethodName := ⟨R_M, "lay", "(I)I"⟩
abbrev b_M_common : ByteArray := prog_8_method_16_code
def y_M_common : MethodName := ⟨R_M, "common", "(II)V"⟩
abbrev b_M_copy : ByteArray := prog_8_method_5_code
def y_M_copy : MethodName := ⟨R_M, "copy", "(II)V"⟩
abbrev b_M_divide : ByteArray := prog_8_method_15_code
def y_M_divide : MethodName := ⟨R_M, "divide", "(II)V"⟩
abbrev b_M_compareSizes : ByteArray := prog_8_method_7_code
def y_M_compareSizes : MethodName := ⟨R_M, "compareSizes", "(II)I"⟩
abbrev b_M_scale : ByteArray := prog_8_method_12_code
def y_M_scale : MethodName := ⟨R_M, "scale", "(III)V"⟩
abbrev b_M_takes : ByteArray := prog_8_method_13_code
def y_M_takes : MethodName := ⟨R_M, "takes", "(IJ)Z"⟩
abbrev b_M_givesBack : ByteArray := prog_8_method_14_code
def y_M_givesBack : MethodName := ⟨R_M, "givesBack", "(I)Z"⟩
abbrev b_M_below : ByteArray := prog_8_method_19_code
def y_M_below : MethodName := ⟨R_M, "below", "(I)I"⟩
abbrev b_M_combine : ByteArray := prog_8_method_25_code
def y_M_combine : MethodName := ⟨R_M, "combine", "(IIII)I"⟩
abbrev b_M_isOne : ByteArray := prog_8_method_6_code
def y_M_isOne : MethodName := ⟨R_M, "isOne", "(I)Z"⟩
abbrev b_M_times : ByteArray := prog_8_method_11_code
def y_M_times : MethodName := ⟨R_M, "times", "(III)V"⟩
abbrev b_M_join : ByteArray := prog_8_method_10_code
def y_M_join : MethodName := ⟨R_M, "join", "(IIIZ)V"⟩
abbrev b_M_addSizes : ByteArray := prog_8_method_8_code
def y_M_addSizes : MethodName := ⟨R_M, "addSizes", "(III)V"⟩
abbrev b_M_takeSizes : ByteArray := prog_8_method_9_code
def y_M_takeSizes : MethodName := ⟨R_M, "takeSizes", "(III)V"⟩
abbrev b_M_compare : ByteArray := prog_8_method_22_code
def y_M_compare : MethodName := ⟨R_M, "compare", "(II)I"⟩
abbrev b_M_take : ByteArray := prog_8_method_24_code
def y_M_take : MethodName := ⟨R_M, "take", "(II)I"⟩
abbrev b_M_wholeQuotient : ByteArray := prog_8_method_23_code
def y_M_wholeQuotient : MethodName := ⟨R_M, "wholeQuotient", "(II)V"⟩
abbrev b_M_floor : ByteArray := prog_8_method_17_code
def y_M_floor : MethodName := ⟨R_M, "floor", "(II)V"⟩
abbrev b_M_rest : ByteArray := prog_8_method_26_code
def y_M_rest : MethodName := ⟨R_M, "rest", "(III)I"⟩
abbrev b_M_change : ByteArray := prog_8_method_27_code
def y_M_change : MethodName := ⟨R_M, "change", "(III)I"⟩
abbrev b_M_power : ByteArray := prog_8_method_29_code
def y_M_power : MethodName := ⟨R_M, "power", "(III)I"⟩
abbrev b_M_raise : ByteArray := prog_8_method_28_code
def y_M_raise : MethodName := ⟨R_M, "raise", "(III)Z"⟩
abbrev b_M_order : ByteArray := prog_8_method_30_code
def y_M_order : MethodName := ⟨R_M, "order", "(II)I"⟩
abbrev b_M_sign : ByteArray := prog_8_method_31_code
def y_M_sign : MethodName := ⟨R_M, "sign", "(I)I"⟩
abbrev b_M_places : ByteArray := prog_8_method_33_code
def y_M_places : MethodName := ⟨R_M, "places", "(II)I"⟩
abbrev b_M_look : ByteArray := prog_8_method_32_code
def y_M_look : MethodName := ⟨R_M, "look", "(II)V"⟩
abbrev b_M_part : ByteArray := prog_8_method_35_code
def y_M_part : MethodName := ⟨R_M, "part", "(III)J"⟩
abbrev b_M_partAt : ByteArray := prog_8_method_34_code
def y_M_partAt : MethodName := ⟨R_M, "partAt", "(II)J"⟩
abbrev b_M_write : ByteArray := prog_8_method_38_code
def y_M_write : MethodName := ⟨R_M, "write", "(I)I"⟩
abbrev b_M_print : ByteArray := prog_8_method_36_code
def y_M_print : MethodName := ⟨R_M, "print", "(I)V"⟩
abbrev b_M_printDigits : ByteArray := prog_8_method_37_code
def y_M_printDigits : MethodName := ⟨R_M, "printDigits", "(I)V"⟩
abbrev b_M_type : ByteArray := prog_8_method_39_code
def y_M_type : MethodName := ⟨R_M, "type", "(JI)I"⟩
abbrev b_M_wipe : ByteArray := prog_8_method_40_code
def y_M_wipe : MethodName := ⟨R_M, "wipe", "()I"⟩
abbrev b_M_character : ByteArray := prog_8_method_41_code
def y_M_character : MethodName := ⟨R_M, "character", "(I)I"⟩
abbrev b_M_read : ByteArray := prog_8_method_46_code
def y_M_read : MethodName := ⟨R_M, "read", "(I)I"⟩
abbrev b_M_endOf : ByteArray := prog_8_method_43_code
def y_M_endOf : MethodName := ⟨R_M, "endOf", "(I)I"⟩
abbrev b_M_isDigit : ByteArray := prog_8_method_42_code
def y_M_isDigit : MethodName := ⟨R_M, "isDigit", "(I)Z"⟩
abbrev b_M_hasMore : ByteArray := prog_8_method_44_code
def y_M_hasMore : MethodName := ⟨R_M, "hasMore", "(II)Z"⟩
abbrev b_M_tell : ByteArray := prog_8_method_45_code
def y_M_tell : MethodName := ⟨R_M, "tell", "(III)Z"⟩
abbrev b_M_place : ByteArray := prog_8_method_47_code
def y_M_place : MethodName := ⟨R_M, "place", "()I"⟩
/-- the words that every method of the system is proved over -/
def wT : List Cond := lw_tbl.filter goodWord
theorem wT_all : ∀ w ∈ wT, ((w.onTables && w.keeps) = true ∨ ∃ ty, w = .arrayClass ty) := fun w h => good_of_word (List.mem_filter.mp h).2
theorem wT_1 {k : Nat} {w : Cond} (h : tables_1_1[k]? = some w) (g : goodWord w = true) : w ∈ wT := List.mem_filter.mpr ⟨List.mem_append_right _ (List.mem_append_left _ (List.mem_of_getElem? h)), g⟩
theorem wT_2 {k : Nat} {w : Cond} (h : tables_1_2[k]? = some w) (g : goodWord w = true) : w ∈ wT := List.mem_filter.mpr ⟨List.mem_append_right _ (List.mem_append_right _ (List.mem_append_left _ (List.mem_of_getElem? h))), g⟩
theorem wT_3 {k : Nat} {w : Cond} (h : tables_1_3[k]? = some w) (g : goodWord w = true) : w ∈ wT := List.mem_filter.mpr ⟨List.mem_append_right _ (List.mem_append_right _ (List.mem_append_right _ (List.mem_append_left _ (List.mem_of_getElem? h)))), g⟩
theorem wT_4 {k : Nat} {w : Cond} (h : tables_1_4[k]? = some w) (g : goodWord w = true) : w ∈ wT := List.mem_filter.mpr ⟨List.mem_append_right _ (List.mem_append_right _ (List.mem_append_right _ (List.mem_append_right _ (List.mem_of_getElem? h)))), g⟩
theorem lT_1 {k : Nat} {w : Cond} (h : tables_1_1[k]? = some w) : w ∈ lw_tbl := List.mem_append_right _ (List.mem_append_left _ (List.mem_of_getElem? h))
theorem lT_2 {k : Nat} {w : Cond} (h : tables_1_2[k]? = some w) : w ∈ lw_tbl := List.mem_append_right _ (List.mem_append_right _ (List.mem_append_left _ (List.mem_of_getElem? h)))
theorem lT_3 {k : Nat} {w : Cond} (h : tables_1_3[k]? = some w) : w ∈ lw_tbl := List.mem_append_right _ (List.mem_append_right _ (List.mem_append_right _ (List.mem_append_left _ (List.mem_of_getElem? h))))
theorem lT_4 {k : Nat} {w : Cond} (h : tables_1_4[k]? = some w) : w ∈ lw_tbl := List.mem_append_right _ (List.mem_append_right _ (List.mem_append_right _ (List.mem_append_right _ (List.mem_of_getElem? h))))
theorem wT_p {k : Nat} {w : Cond} (h : (k2_sels lw_privs)[k]? = some w) (g : goodWord w = true) : w ∈ wT := List.mem_filter.mpr ⟨List.mem_append_left _ (List.mem_of_getElem? h), g⟩
abbrev w_K_init : List Cond := .code y_K_init b_K_init 2 none :: wT
abbrev w_F_init : List Cond := .code y_F_init b_F_init 1 none :: wT
abbrev w_W_init : List Cond := .code y_W_init b_W_init 2 none :: wT
abbrev w_W_becomeLong : List Cond := .code y_W_becomeLong b_W_becomeLong 3 none :: wT
abbrev w_W_trim : List Cond := .code y_W_trim b_W_trim 3 none :: wT
abbrev w_B_init : List Cond := .code y_B_init b_B_init 1 none :: wT
abbrev w_D_init : List Cond := .code y_D_init b_D_init 1 none :: wT
abbrev w_T_init : List Cond := .code y_T_init b_T_init 1 none :: wT
abbrev w_K_type : List Cond := .code y_K_type b_K_type 6 (some .int) :: wT
abbrev w_K_byteOf : List Cond := .code y_K_byteOf b_K_byteOf 3 (some .int) :: wT
abbrev w_T_put : List Cond := .code y_T_put b_T_put 2 none :: wT
abbrev w_K_wipe : List Cond := .code y_K_wipe b_K_wipe 2 (some .int) :: wT
abbrev w_K_character : List Cond := .code y_K_character b_K_character 2 (some .int) :: wT
abbrev w_T_at : List Cond := .code y_T_at b_T_at 2 (some .int) :: wT
abbrev w_K_place : List Cond := .code y_K_place b_K_place 1 (some .int) :: wT
abbrev w_L_set : List Cond := .codeWith y_L_set b_L_set 7 (some .int) [(0, 8, 11, 13)] :: wT
abbrev w_K_set : List Cond := .code y_K_set b_K_set 7 none :: wT
abbrev w_K_register : List Cond := .code y_K_register b_K_register 2 (some (.object "FractionDesk$Fraction")) :: wT
abbrev w_B_takeNumbers : List Cond := .code y_B_takeNumbers b_B_takeNumbers 5 none :: wT
abbrev w_B_keepReduced : List Cond := .code y_B_keepReduced b_B_keepReduced 3 (some .int) :: wT
abbrev w_W_isOne : List Cond := .code y_W_isOne b_W_isOne 1 (some .boolean) :: wT
abbrev w_W_become : List Cond := .code y_W_become b_W_become 3 none :: wT
abbrev w_D_greatestCommon : List Cond := .code y_D_greatestCommon b_D_greatestCommon 8 (some (.object "FractionDesk$Whole")) :: wT
abbrev w_W_compare : List Cond := .code y_W_compare b_W_compare 3 (some .int) :: wT
abbrev w_W_isZero : List Cond := .code y_W_isZero b_W_isZero 1 (some .boolean) :: wT
abbrev w_D_findLeap : List Cond := .code y_D_findLeap b_D_findLeap 17 (some .boolean) :: wT
abbrev w_W_spareBits : List Cond := .code y_W_spareBits b_W_spareBits 1 (some .int) :: wT
abbrev w_JI_numberOfLeadingZeros : List Cond := .code y_JI_numberOfLeadingZeros b_JI_numberOfLeadingZeros 2 (some .int) :: wT
abbrev w_D_highest : List Cond := .code y_D_highest b_D_highest 3 (some .long) :: wT
abbrev w_W_shiftedLimb : List Cond := .code y_W_shiftedLimb b_W_shiftedLimb 5 (some .long) :: wT
abbrev w_W_limb : List Cond := .code y_W_limb b_W_limb 2 (some .int) :: wT
abbrev w_W_becomeMix : List Cond := .code y_W_becomeMix b_W_becomeMix 15 none :: wT
abbrev w_W_leaveRest : List Cond := .code y_W_leaveRest b_W_leaveRest 7 none :: wT
abbrev w_W_trialDigit : List Cond := .code y_W_trialDigit b_W_trialDigit 18 (some .long) :: wT
abbrev w_W_takeAway : List Cond := .code y_W_takeAway b_W_takeAway 11 (some .boolean) :: wT
abbrev w_B_divideOut : List Cond := .code y_B_divideOut b_B_divideOut 3 none :: wT
abbrev w_B_keep : List Cond := .code y_B_keep b_B_keep 2 (some .int) :: wT
abbrev w_W_isSmallEnough : List Cond := .code y_W_isSmallEnough b_W_isSmallEnough 1 (some .boolean) :: wT
abbrev w_W_bits : List Cond := .code y_W_bits b_W_bits 1 (some .int) :: wT
abbrev w_L_combine : List Cond := .codeWith y_L_combine b_L_combine 7 (some .int) [(0, 14, 17, 13)] :: wT
abbrev w_K_combine : List Cond := .code y_K_combine b_K_combine 9 (some .int) :: wT
abbrev w_F_isWhole : List Cond := .code y_F_isWhole b_F_isWhole 1 (some .boolean) :: wT
abbrev w_F_signum : List Cond := .code y_F_signum b_F_signum 1 (some .int) :: wT
abbrev w_B_add : List Cond := .code y_B_add b_B_add 4 none :: wT
abbrev w_B_cross : List Cond := .code y_B_cross b_B_cross 3 none :: wT
abbrev w_W_becomeProduct : List Cond := .code y_W_becomeProduct b_W_becomeProduct 12 none :: wT
abbrev w_B_multiply : List Cond := .code y_B_multiply b_B_multiply 3 none :: wT
abbrev w_B_divide : List Cond := .code y_B_divide b_B_divide 3 none :: wT
abbrev w_B_takeParts : List Cond := .code y_B_takeParts b_B_takeParts 4 none :: wT
abbrev w_B_compareFractions : List Cond := .code y_B_compareFractions b_B_compareFractions 6 (some .int) :: wT
abbrev w_B_take : List Cond := .code y_B_take b_B_take 2 none :: wT
abbrev w_B_divideWhole : List Cond := .code y_B_divideWhole b_B_divideWhole 3 none :: wT
abbrev w_B_roundRatio : List Cond := .code y_B_roundRatio b_B_roundRatio 2 none :: wT
abbrev w_W_timesPlus : List Cond := .code y_W_timesPlus b_W_timesPlus 8 none :: wT
abbrev w_B_takeRest : List Cond := .code y_B_takeRest b_B_takeRest 3 none :: wT
abbrev w_B_takeCommonDivisor : List Cond := .code y_B_takeCommonDivisor b_B_takeCommonDivisor 3 none :: wT
abbrev w_B_takeWhole : List Cond := .code y_B_takeWhole b_B_takeWhole 3 none :: wT
abbrev w_L_change : List Cond := .codeWith y_L_change b_L_change 6 (some .int) [(0, 12, 15, 13)] :: wT
abbrev w_K_change : List Cond := .code y_K_change b_K_change 6 (some .int) :: wT
abbrev w_B_round : List Cond := .code y_B_round b_B_round 3 none :: wT
abbrev w_L_power : List Cond := .codeWith y_L_power b_L_power 6 (some .int) [(0, 12, 15, 13)] :: wT
abbrev w_K_power : List Cond := .code y_K_power b_K_power 6 (some .int) :: wT
abbrev w_B_raise : List Cond := .code y_B_raise b_B_raise 4 none :: wT
abbrev w_B_raiseWhole : List Cond := .code y_B_raiseWhole b_B_raiseWhole 5 none :: wT
abbrev w_B_multiplyWhole : List Cond := .code y_B_multiplyWhole b_B_multiplyWhole 3 none :: wT
abbrev w_L_order : List Cond := .codeWith y_L_order b_L_order 5 (some .int) [(0, 10, 13, 13)] :: wT
abbrev w_K_order : List Cond := .code y_K_order b_K_order 5 (some .int) :: wT
abbrev w_L_sign : List Cond := .codeWith y_L_sign b_L_sign 4 (some .int) [(0, 9, 12, 13)] :: wT
abbrev w_K_sign : List Cond := .code y_K_sign b_K_sign 2 (some .int) :: wT
abbrev w_L_places : List Cond := .codeWith y_L_places b_L_places 5 (some .int) [(0, 10, 13, 13)] :: wT
abbrev w_K_places : List Cond := .code y_K_places b_K_places 3 (some .int) :: wT
abbrev w_K_half : List Cond := .code y_K_half b_K_half 4 (some (.object "FractionDesk$Whole")) :: wT
abbrev w_L_part : List Cond := .codeWith y_L_part b_L_part 6 (some .int) [(0, 11, 14, 13)] :: wT
abbrev w_K_part : List Cond := .code y_K_part b_K_part 4 (some .long) :: wT
abbrev w_W_word : List Cond := .code y_W_word b_W_word 8 (some .long) :: wT
abbrev w_L_write : List Cond := .codeWith y_L_write b_L_write 4 (some .int) [(0, 9, 12, 13)] :: wT
abbrev w_K_write : List Cond := .code y_K_write b_K_write 3 (some .int) :: wT
abbrev w_B_copyOf : List Cond := .code y_B_copyOf b_B_copyOf 2 (some (.object "FractionDesk$Whole")) :: wT
abbrev w_T_putDecimal : List Cond := .code y_T_putDecimal b_T_putDecimal 4 none :: wT
abbrev w_W_divideSmall : List Cond := .code y_W_divideSmall b_W_divideSmall 7 (some .int) :: wT
abbrev w_T_putNineBackwards : List Cond := .code y_T_putNineBackwards b_T_putNineBackwards 4 none :: wT
abbrev w_T_turnRound : List Cond := .code y_T_turnRound b_T_turnRound 6 none :: wT
abbrev w_L_read : List Cond := .codeWith y_L_read b_L_read 4 (some .int) [(0, 9, 12, 13), (0, 9, 15, 47)] :: wT
abbrev w_K_read : List Cond := .code y_K_read b_K_read 4 (some .int) :: wT
abbrev w_T_wrongAt : List Cond := .code y_T_wrongAt b_T_wrongAt 5 (some .int) :: wT
abbrev w_T_firstDigit : List Cond := .code y_T_firstDigit b_T_firstDigit 1 (some .int) :: wT
abbrev w_T_digitsEnd : List Cond := .code y_T_digitsEnd b_T_digitsEnd 3 (some .int) :: wT
abbrev w_T_isDigit : List Cond := .code y_T_isDigit b_T_isDigit 1 (some .boolean) :: wT
abbrev w_T_isAllZeros : List Cond := .code y_T_isAllZeros b_T_isAllZeros 4 (some .boolean) :: wT
abbrev w_B_takeText : List Cond := .code y_B_takeText b_B_takeText 4 (some .boolean) :: wT
abbrev w_T_tell : List Cond := .code y_T_tell b_T_tell 7 (some .boolean) :: wT
abbrev w_M_init : List Cond := .code y_M_init b_M_init 2 none :: wT
abbrev w_M_setLong : List Cond := .code y_M_setLong b_M_setLong 8 none :: wT
abbrev w_M_trim : List Cond := .code y_M_trim b_M_trim 2 none :: wT
abbrev w_M_thrown : List Cond := .code y_M_thrown b_M_thrown 1 (some .int) :: wT
abbrev w_M_set : List Cond := .code y_M_set b_M_set 6 none :: wT
abbrev w_M_isRegister : List Cond := .code y_M_isRegister b_M_isRegister 1 (some .boolean) :: wT
abbrev w_M_lay : List Cond := .code y_M_lay b_M_lay 2 (some .int) :: wT
abbrev w_M_common : List Cond := .code y_M_common b_M_common 3 none :: wT
abbrev w_M_copy : List Cond := .code y_M_copy b_M_copy 4 none :: wT
abbrev w_M_divide : List Cond := .code y_M_divide b_M_divide 15 none :: wT
abbrev w_M_compareSizes : List Cond := .code y_M_compareSizes b_M_compareSizes 4 (some .int) :: wT
abbrev w_M_scale : List Cond := .code y_M_scale b_M_scale 10 none :: wT
abbrev w_M_takes : List Cond := .code y_M_takes b_M_takes 12 (some .boolean) :: wT
abbrev w_M_givesBack : List Cond := .code y_M_givesBack b_M_givesBack 6 (some .boolean) :: wT
abbrev w_M_below : List Cond := .code y_M_below b_M_below 1 (some .int) :: wT
abbrev w_M_combine : List Cond := .code y_M_combine b_M_combine 7 (some .int) :: wT
abbrev w_M_isOne : List Cond := .code y_M_isOne b_M_isOne 2 (some .boolean) :: wT
abbrev w_M_times : List Cond := .code y_M_times b_M_times 11 none :: wT
abbrev w_M_join : List Cond := .code y_M_join b_M_join 7 none :: wT
abbrev w_M_addSizes : List Cond := .code y_M_addSizes b_M_addSizes 8 none :: wT
abbrev w_M_takeSizes : List Cond := .code y_M_takeSizes b_M_takeSizes 8 none :: wT
abbrev w_M_compare : List Cond := .code y_M_compare b_M_compare 3 (some .int) :: wT
abbrev w_M_take : List Cond := .code y_M_take b_M_take 3 (some .int) :: wT
abbrev w_M_wholeQuotient : List Cond := .code y_M_wholeQuotient b_M_wholeQuotient 3 none :: wT
abbrev w_M_floor : List Cond := .code y_M_floor b_M_floor 3 none :: wT
abbrev w_M_rest : List Cond := .code y_M_rest b_M_rest 4 (some .int) :: wT
abbrev w_M_change : List Cond := .code y_M_change b_M_change 4 (some .int) :: wT
abbrev w_M_power : List Cond := .code y_M_power b_M_power 5 (some .int) :: wT
abbrev w_M_raise : List Cond := .code y_M_raise b_M_raise 5 (some .boolean) :: wT
abbrev w_M_order : List Cond := .code y_M_order b_M_order 3 (some .int) :: wT
abbrev w_M_sign : List Cond := .code y_M_sign b_M_sign 2 (some .int) :: wT
abbrev w_M_places : List Cond := .code y_M_places b_M_places 6 (some .int) :: wT
abbrev w_M_look : List Cond := .code y_M_look b_M_look 3 none :: wT
abbrev w_M_part : List Cond := .code y_M_part b_M_part 5 (some .long) :: wT
abbrev w_M_partAt : List Cond := .code y_M_partAt b_M_partAt 3 (some .long) :: wT
abbrev w_M_write : List Cond := .code y_M_write b_M_write 2 (some .int) :: wT
abbrev w_M_print : List Cond := .code y_M_print b_M_print 2 none :: wT
abbrev w_M_printDigits : List Cond := .code y_M_printDigits b_M_printDigits 6 none :: wT
abbrev w_M_type : List Cond := .code y_M_type b_M_type 8 (some .int) :: wT
abbrev w_M_wipe : List Cond := .code y_M_wipe b_M_wipe 2 (some .int) :: wT
abbrev w_M_character : List Cond := .code y_M_character b_M_character 2 (some .int) :: wT
abbrev w_M_read : List Cond := .code y_M_read b_M_read 7 (some .int) :: wT
abbrev w_M_endOf : List Cond := .code y_M_endOf b_M_endOf 3 (some .int) :: wT
abbrev w_M_isDigit : List Cond := .code y_M_isDigit b_M_isDigit 2 (some .boolean) :: wT
abbrev w_M_hasMore : List Cond := .code y_M_hasMore b_M_hasMore 5 (some .boolean) :: wT
abbrev w_M_tell : List Cond := .code y_M_tell b_M_tell 8 (some .boolean) :: wT
abbrev w_M_place : List Cond := .code y_M_place b_M_place 1 (some .int) :: wT
theorem wT_in : ∀ w ∈ wT, w ∈ lw_tbl := fun _ h => (List.mem_filter.mp h).1
end
section
/-! the words of the tables, by their places -/
theorem in_L : (.initialized R_L : Cond) ∈ wT := wT_1 (k := 0) rfl (by decide +kernel)
theorem in_K : (.initialized R_K : Cond) ∈ wT := wT_1 (k := 1) rfl (by decide +kernel)
theorem in_F : (.initialized R_F : Cond) ∈ wT := wT_1 (k := 2) rfl (by decide +kernel)
theorem in_W : (.initialized R_W : Cond) ∈ wT := wT_1 (k := 3) rfl (by decide +kernel)
theorem in_JM : (.initialized R_JM : Cond) ∈ wT := wT_1 (k := 4) rfl (by decide +kernel)
theorem in_B : (.initialized R_B : Cond) ∈ wT := wT_1 (k := 5) rfl (by decide +kernel)
theorem in_D : (.initialized R_D : Cond) ∈ wT := wT_1 (k := 6) rfl (by decide +kernel)
theorem in_T : (.initialized R_T : Cond) ∈ wT := wT_1 (k := 7) rfl (by decide +kernel)
theorem in_M : (.initialized R_M : Cond) ∈ wT := wT_1 (k := 8) rfl (by decide +kernel)
theorem in_javalangThrowable : (.initialized "java/lang/Throwable" : Cond) ∈ wT := wT_1 (k := 9) rfl (by decide +kernel)
theorem in_javalangException : (.initialized "java/lang/Exception" : Cond) ∈ wT := wT_1 (k := 10) rfl (by decide +kernel)
theorem in_javalangRuntimeException : (.initialized "java/lang/RuntimeException" : Cond) ∈ wT := wT_1 (k := 11) rfl (by decide +kernel)
theorem in_javalangIllegalArgumentException : (.initialized "java/lang/IllegalArgumentException" : Cond) ∈ wT := wT_1 (k := 12) rfl (by decide +kernel)
theorem in_javalangSystem : (.initialized "java/lang/System" : Cond) ∈ wT := wT_1 (k := 13) rfl (by decide +kernel)
theorem in_JI : (.initialized R_JI : Cond) ∈ wT := wT_1 (k := 14) rfl (by decide +kernel)
theorem in_javalangIllegalStateException : (.initialized "java/lang/IllegalStateException" : Cond) ∈ wT := wT_1 (k := 15) rfl (by decide +kernel)
theorem cl_L_8 : (.classLink R_L 8 R_K : Cond) ∈ wT := wT_1 (k := 16) rfl (by decide +kernel)
theorem ia_K : (.instantiable R_K 4 : Cond) ∈ wT := wT_1 (k := 17) rfl (by decide +kernel)
theorem ml_L_49 : (.methodLink R_L 49 y_K_init : Cond) ∈ wT := wT_1 (k := 18) rfl (by decide +kernel)
theorem im_K_init : (.instanceMethod y_K_init : Cond) ∈ wT := wT_1 (k := 19) rfl (by decide +kernel)
theorem ml_K_1 : (.methodLink R_K 1 objectInit : Cond) ∈ wT := wT_1 (k := 21) rfl (by decide +kernel)
theorem im_obj : (.instanceMethod objectInit : Cond) ∈ wT := wT_1 (k := 22) rfl (by decide +kernel)
theorem m_obj : (.code objectInit ⟨#[0xb1]⟩ 1 none : Cond) ∈ wT := wT_1 (k := 23) rfl (by decide +kernel)
theorem cl_K_9 : (.classLink R_K 9 R_F : Cond) ∈ wT := wT_1 (k := 24) rfl (by decide +kernel)
theorem ao_F : (.arrayOver (.object R_F) : Cond) ∈ lw_tbl := lT_1 (k := 25) rfl
theorem ia_F : (.instantiable R_F 3 : Cond) ∈ wT := wT_1 (k := 26) rfl (by decide +kernel)
theorem ml_K_15 : (.methodLink R_K 15 y_F_init : Cond) ∈ wT := wT_1 (k := 27) rfl (by decide +kernel)
theorem im_F_init : (.instanceMethod y_F_init : Cond) ∈ wT := wT_1 (k := 28) rfl (by decide +kernel)
theorem ml_F_1 : (.methodLink R_F 1 objectInit : Cond) ∈ wT := wT_1 (k := 30) rfl (by decide +kernel)
theorem cl_F_7 : (.classLink R_F 7 R_W : Cond) ∈ wT := wT_1 (k := 31) rfl (by decide +kernel)
theorem ia_W : (.instantiable R_W 2 : Cond) ∈ wT := wT_1 (k := 32) rfl (by decide +kernel)
theorem ml_F_11 : (.methodLink R_F 11 y_W_init : Cond) ∈ wT := wT_1 (k := 33) rfl (by decide +kernel)
theorem im_W_init : (.instanceMethod y_W_init : Cond) ∈ wT := wT_1 (k := 34) rfl (by decide +kernel)
theorem ml_W_3 : (.methodLink R_W 3 objectInit : Cond) ∈ wT := wT_1 (k := 36) rfl (by decide +kernel)
theorem ml_W_11 : (.methodLink R_W 11 y_JM_max : Cond) ∈ wT := wT_1 (k := 37) rfl (by decide +kernel)
theorem st_JM_max : (.static y_JM_max : Cond) ∈ wT := wT_1 (k := 38) rfl (by decide +kernel)
theorem fl_W_17 : (.fieldLink R_W 17 "FractionDesk$Whole" "limbs" "[I" : Cond) ∈ wT := wT_1 (k := 40) rfl (by decide +kernel)
theorem fl_W_21 : (.fieldLink R_W 21 "FractionDesk$Whole" "size" "I" : Cond) ∈ wT := wT_1 (k := 41) rfl (by decide +kernel)
theorem fl_D_61 : (.fieldLink R_D 61 "FractionDesk$Whole" "size" "I" : Cond) ∈ wT := wT_1 (k := 42) rfl (by decide +kernel)
theorem fl_T_60 : (.fieldLink R_T 60 "FractionDesk$Whole" "size" "I" : Cond) ∈ wT := wT_1 (k := 43) rfl (by decide +kernel)
theorem ac_int : (.arrayClass .int : Cond) ∈ wT := wT_1 (k := 49) rfl (by decide +kernel)
theorem ml_F_21 : (.methodLink R_F 21 y_W_becomeLong : Cond) ∈ wT := wT_1 (k := 50) rfl (by decide +kernel)
theorem im_W_becomeLong : (.instanceMethod y_W_becomeLong : Cond) ∈ wT := wT_1 (k := 51) rfl (by decide +kernel)
theorem se_W_becomeLong : (.selects R_W y_W_becomeLong y_W_becomeLong : Cond) ∈ wT := wT_1 (k := 52) rfl (by decide +kernel)
theorem cj_W_43 : (.constantLong R_W 43 (2147483647) : Cond) ∈ wT := wT_1 (k := 54) rfl (by decide +kernel)
theorem ml_W_48 : (.methodLink R_W 48 y_W_trim : Cond) ∈ wT := wT_1 (k := 55) rfl (by decide +kernel)
theorem im_W_trim : (.instanceMethod y_W_trim : Cond) ∈ wT := wT_1 (k := 56) rfl (by decide +kernel)
theorem se_W_trim : (.selects R_W y_W_trim y_W_trim : Cond) ∈ wT := wT_1 (k := 57) rfl (by decide +kernel)
theorem ml_W_45 : (.methodLink R_W 45 y_JM_min : Cond) ∈ wT := wT_1 (k := 59) rfl (by decide +kernel)
theorem st_JM_min : (.static y_JM_min : Cond) ∈ wT := wT_1 (k := 60) rfl (by decide +kernel)
theorem fl_F_14 : (.fieldLink R_F 14 "FractionDesk$Fraction" "top" "LFractionDesk$Whole;" : Cond) ∈ wT := wT_1 (k := 62) rfl (by decide +kernel)
theorem fl_B_69 : (.fieldLink R_B 69 "FractionDesk$Fraction" "top" "LFractionDesk$Whole;" : Cond) ∈ wT := wT_1 (k := 63) rfl (by decide +kernel)
theorem fl_K_100 : (.fieldLink R_K 100 "FractionDesk$Fraction" "top" "LFractionDesk$Whole;" : Cond) ∈ wT := wT_1 (k := 64) rfl (by decide +kernel)
theorem fl_F_18 : (.fieldLink R_F 18 "FractionDesk$Fraction" "bottom" "LFractionDesk$Whole;" : Cond) ∈ wT := wT_1 (k := 65) rfl (by decide +kernel)
theorem fl_B_72 : (.fieldLink R_B 72 "FractionDesk$Fraction" "bottom" "LFractionDesk$Whole;" : Cond) ∈ wT := wT_1 (k := 66) rfl (by decide +kernel)
theorem fl_K_104 : (.fieldLink R_K 104 "FractionDesk$Fraction" "bottom" "LFractionDesk$Whole;" : Cond) ∈ wT := wT_1 (k := 67) rfl (by decide +kernel)
theorem fl_F_25 : (.fieldLink R_F 25 "FractionDesk$Fraction" "below" "Z" : Cond) ∈ wT := wT_1 (k := 68) rfl (by decide +kernel)
theorem fl_K_65 : (.fieldLink R_K 65 "FractionDesk$Fraction" "below" "Z" : Cond) ∈ wT := wT_1 (k := 69) rfl (by decide +kernel)
theorem fl_B_76 : (.fieldLink R_B 76 "FractionDesk$Fraction" "below" "Z" : Cond) ∈ wT := wT_1 (k := 70) rfl (by decide +kernel)
theorem cl_K_16 : (.classLink R_K 16 R_B : Cond) ∈ wT := wT_1 (k := 78) rfl (by decide +kernel)
theorem ia_B : (.instantiable R_B 7 : Cond) ∈ wT := wT_1 (k := 79) rfl (by decide +kernel)
theorem ml_K_18 : (.methodLink R_K 18 y_B_init : Cond) ∈ wT := wT_1 (k := 80) rfl (by decide +kernel)
theorem im_B_init : (.instanceMethod y_B_init : Cond) ∈ wT := wT_1 (k := 81) rfl (by decide +kernel)
theorem ml_B_3 : (.methodLink R_B 3 objectInit : Cond) ∈ wT := wT_1 (k := 83) rfl (by decide +kernel)
theorem cl_B_9 : (.classLink R_B 9 R_W : Cond) ∈ wT := wT_1 (k := 84) rfl (by decide +kernel)
theorem ml_B_13 : (.methodLink R_B 13 y_W_init : Cond) ∈ wT := wT_1 (k := 85) rfl (by decide +kernel)
theorem cl_B_32 : (.classLink R_B 32 R_D : Cond) ∈ wT := wT_1 (k := 86) rfl (by decide +kernel)
theorem ia_D : (.instantiable R_D 5 : Cond) ∈ wT := wT_1 (k := 87) rfl (by decide +kernel)
theorem ml_B_34 : (.methodLink R_B 34 y_D_init : Cond) ∈ wT := wT_1 (k := 88) rfl (by decide +kernel)
theorem im_D_init : (.instanceMethod y_D_init : Cond) ∈ wT := wT_1 (k := 89) rfl (by decide +kernel)
theorem ml_D_3 : (.methodLink R_D 3 objectInit : Cond) ∈ wT := wT_1 (k := 91) rfl (by decide +kernel)
theorem cl_D_1 : (.classLink R_D 1 R_W : Cond) ∈ wT := wT_1 (k := 92) rfl (by decide +kernel)
theorem ml_D_11 : (.methodLink R_D 11 y_W_init : Cond) ∈ wT := wT_1 (k := 93) rfl (by decide +kernel)
theorem fl_D_14 : (.fieldLink R_D 14 "FractionDesk$Divisors" "spare" "LFractionDesk$Whole;" : Cond) ∈ wT := wT_1 (k := 94) rfl (by decide +kernel)
theorem fl_D_32 : (.fieldLink R_D 32 "FractionDesk$Divisors" "f" "J" : Cond) ∈ wT := wT_1 (k := 95) rfl (by decide +kernel)
theorem fl_D_36 : (.fieldLink R_D 36 "FractionDesk$Divisors" "g" "J" : Cond) ∈ wT := wT_1 (k := 96) rfl (by decide +kernel)
theorem fl_D_43 : (.fieldLink R_D 43 "FractionDesk$Divisors" "h" "J" : Cond) ∈ wT := wT_1 (k := 97) rfl (by decide +kernel)
theorem fl_D_46 : (.fieldLink R_D 46 "FractionDesk$Divisors" "k" "J" : Cond) ∈ wT := wT_1 (k := 98) rfl (by decide +kernel)
theorem fl_B_16 : (.fieldLink R_B 16 "FractionDesk$Bench" "top" "LFractionDesk$Whole;" : Cond) ∈ wT := wT_1 (k := 110) rfl (by decide +kernel)
theorem fl_B_20 : (.fieldLink R_B 20 "FractionDesk$Bench" "bottom" "LFractionDesk$Whole;" : Cond) ∈ wT := wT_1 (k := 111) rfl (by decide +kernel)
theorem fl_B_23 : (.fieldLink R_B 23 "FractionDesk$Bench" "left" "LFractionDesk$Whole;" : Cond) ∈ wT := wT_1 (k := 112) rfl (by decide +kernel)
theorem fl_B_26 : (.fieldLink R_B 26 "FractionDesk$Bench" "right" "LFractionDesk$Whole;" : Cond) ∈ wT := wT_1 (k := 113) rfl (by decide +kernel)
theorem fl_B_29 : (.fieldLink R_B 29 "FractionDesk$Bench" "spare" "LFractionDesk$Whole;" : Cond) ∈ wT := wT_1 (k := 114) rfl (by decide +kernel)
theorem fl_B_35 : (.fieldLink R_B 35 "FractionDesk$Bench" "divisors" "LFractionDesk$Divisors;" : Cond) ∈ wT := wT_1 (k := 115) rfl (by decide +kernel)
theorem fl_B_39 : (.fieldLink R_B 39 "FractionDesk$Bench" "below" "Z" : Cond) ∈ wT := wT_1 (k := 116) rfl (by decide +kernel)
theorem cl_K_23 : (.classLink R_K 23 R_T : Cond) ∈ wT := wT_1 (k := 132) rfl (by decide +kernel)
theorem ia_T : (.instantiable R_T 2 : Cond) ∈ wT := wT_1 (k := 133) rfl (by decide +kernel)
theorem ml_K_25 : (.methodLink R_K 25 y_T_init : Cond) ∈ wT := wT_1 (k := 134) rfl (by decide +kernel)
theorem im_T_init : (.instanceMethod y_T_init : Cond) ∈ wT := wT_1 (k := 135) rfl (by decide +kernel)
theorem ml_T_3 : (.methodLink R_T 3 objectInit : Cond) ∈ wT := wT_1 (k := 137) rfl (by decide +kernel)
theorem fl_T_9 : (.fieldLink R_T 9 "FractionDesk$Text" "characters" "[C" : Cond) ∈ wT := wT_1 (k := 138) rfl (by decide +kernel)
theorem fl_T_15 : (.fieldLink R_T 15 "FractionDesk$Text" "length" "I" : Cond) ∈ wT := wT_1 (k := 139) rfl (by decide +kernel)
theorem fl_B_101 : (.fieldLink R_B 101 "FractionDesk$Text" "length" "I" : Cond) ∈ wT := wT_1 (k := 140) rfl (by decide +kernel)
theorem fl_K_138 : (.fieldLink R_K 138 "FractionDesk$Text" "length" "I" : Cond) ∈ wT := wT_1 (k := 141) rfl (by decide +kernel)
theorem ac_char : (.arrayClass .char : Cond) ∈ wT := wT_1 (k := 147) rfl (by decide +kernel)
theorem fl_K_11 : (.fieldLink R_K 11 "FractionDesk" "registers" "[LFractionDesk$Fraction;" : Cond) ∈ wT := wT_1 (k := 148) rfl (by decide +kernel)
theorem fl_K_19 : (.fieldLink R_K 19 "FractionDesk" "bench" "LFractionDesk$Bench;" : Cond) ∈ wT := wT_1 (k := 149) rfl (by decide +kernel)
theorem fl_K_26 : (.fieldLink R_K 26 "FractionDesk" "text" "LFractionDesk$Text;" : Cond) ∈ wT := wT_1 (k := 150) rfl (by decide +kernel)
theorem fl_K_30 : (.fieldLink R_K 30 "FractionDesk" "wrongPlace" "I" : Cond) ∈ wT := wT_1 (k := 151) rfl (by decide +kernel)
theorem ml_L_93 : (.methodLink R_L 93 y_K_type : Cond) ∈ wT := wT_1 (k := 161) rfl (by decide +kernel)
theorem im_K_type : (.instanceMethod y_K_type : Cond) ∈ wT := wT_1 (k := 162) rfl (by decide +kernel)
theorem se_K_type : (.selects R_K y_K_type y_K_type : Cond) ∈ wT := wT_1 (k := 163) rfl (by decide +kernel)
theorem ml_K_153 : (.methodLink R_K 153 y_K_byteOf : Cond) ∈ wT := wT_1 (k := 165) rfl (by decide +kernel)
theorem st_K_byteOf : (.static y_K_byteOf : Cond) ∈ wT := wT_1 (k := 166) rfl (by decide +kernel)
theorem ml_K_141 : (.methodLink R_K 141 y_T_put : Cond) ∈ wT := wT_1 (k := 168) rfl (by decide +kernel)
theorem im_T_put : (.instanceMethod y_T_put : Cond) ∈ wT := wT_1 (k := 169) rfl (by decide +kernel)
theorem se_T_put : (.selects R_T y_T_put y_T_put : Cond) ∈ wT := wT_1 (k := 170) rfl (by decide +kernel)
theorem ml_L_98 : (.methodLink R_L 98 y_K_wipe : Cond) ∈ wT := wT_1 (k := 172) rfl (by decide +kernel)
theorem im_K_wipe : (.instanceMethod y_K_wipe : Cond) ∈ wT := wT_1 (k := 173) rfl (by decide +kernel)
theorem se_K_wipe : (.selects R_K y_K_wipe y_K_wipe : Cond) ∈ wT := wT_1 (k := 174) rfl (by decide +kernel)
theorem ml_L_102 : (.methodLink R_L 102 y_K_character : Cond) ∈ wT := wT_1 (k := 176) rfl (by decide +kernel)
theorem im_K_character : (.instanceMethod y_K_character : Cond) ∈ wT := wT_1 (k := 177) rfl (by decide +kernel)
theorem se_K_character : (.selects R_K y_K_character y_K_character : Cond) ∈ wT := wT_1 (k := 178) rfl (by decide +kernel)
theorem ml_K_157 : (.methodLink R_K 157 y_T_at : Cond) ∈ wT := wT_1 (k := 180) rfl (by decide +kernel)
theorem im_T_at : (.instanceMethod y_T_at : Cond) ∈ wT := wT_1 (k := 181) rfl (by decide +kernel)
theorem se_T_at : (.selects R_T y_T_at y_T_at : Cond) ∈ wT := wT_1 (k := 182) rfl (by decide +kernel)
theorem ml_L_109 : (.methodLink R_L 109 y_K_place : Cond) ∈ wT := wT_1 (k := 184) rfl (by decide +kernel)
theorem im_K_place : (.instanceMethod y_K_place : Cond) ∈ wT := wT_1 (k := 185) rfl (by decide +kernel)
theorem se_K_place : (.selects R_K y_K_place y_K_place : Cond) ∈ wT := wT_1 (k := 186) rfl (by decide +kernel)
theorem ml_L_55 : (.methodLink R_L 55 y_L_set : Cond) ∈ wT := wT_1 (k := 188) rfl (by decide +kernel)
theorem st_L_set : (.static y_L_set : Cond) ∈ wT := wT_1 (k := 189) rfl (by decide +kernel)
theorem cl_L_13 : (.classLink R_L 13 "java/lang/IllegalArgumentException" : Cond) ∈ wT := wT_1 (k := 191) rfl (by decide +kernel)
theorem ml_L_7 : (.methodLink R_L 7 y_K_set : Cond) ∈ wT := wT_1 (k := 192) rfl (by decide +kernel)
theorem im_K_set : (.instanceMethod y_K_set : Cond) ∈ wT := wT_1 (k := 193) rfl (by decide +kernel)
theorem se_K_set : (.selects R_K y_K_set y_K_set : Cond) ∈ wT := wT_1 (k := 194) rfl (by decide +kernel)
theorem ml_K_34 : (.methodLink R_K 34 y_K_register : Cond) ∈ wT := wT_1 (k := 196) rfl (by decide +kernel)
theorem im_K_register : (.instanceMethod y_K_register : Cond) ∈ wT := wT_1 (k := 198) rfl (by decide +kernel)
theorem cl_K_38 : (.classLink R_K 38 "java/lang/IllegalArgumentException" : Cond) ∈ wT := wT_1 (k := 200) rfl (by decide +kernel)
theorem sr_K_173 : (.stringRef R_K 173 "no such register" : Cond) ∈ lw_tbl := lT_2 (k := 0) rfl
theorem ml_K_42 : (.methodLink R_K 42 ⟨"java/lang/IllegalArgumentException", "<init>", "(Ljava/lang/String;)V"⟩ : Cond) ∈ wT := wT_2 (k := 1) rfl (by decide +kernel)
theorem ac_byte : (.arrayClass .byte : Cond) ∈ wT := wT_2 (k := 26) rfl (by decide +kernel)
theorem sr_K_40 : (.stringRef R_K 40 "bottom is 0" : Cond) ∈ lw_tbl := lT_2 (k := 27) rfl
theorem ml_K_45 : (.methodLink R_K 45 y_B_takeNumbers : Cond) ∈ wT := wT_2 (k := 28) rfl (by decide +kernel)
theorem im_B_takeNumbers : (.instanceMethod y_B_takeNumbers : Cond) ∈ wT := wT_2 (k := 29) rfl (by decide +kernel)
theorem se_B_takeNumbers : (.selects R_B y_B_takeNumbers y_B_takeNumbers : Cond) ∈ wT := wT_2 (k := 30) rfl (by decide +kernel)
theorem ml_B_77 : (.methodLink R_B 77 y_JM_abs : Cond) ∈ wT := wT_2 (k := 32) rfl (by decide +kernel)
theorem st_JM_abs : (.static y_JM_abs : Cond) ∈ wT := wT_2 (k := 33) rfl (by decide +kernel)
theorem ml_B_83 : (.methodLink R_B 83 y_W_becomeLong : Cond) ∈ wT := wT_2 (k := 35) rfl (by decide +kernel)
theorem ml_K_49 : (.methodLink R_K 49 y_B_keepReduced : Cond) ∈ wT := wT_2 (k := 36) rfl (by decide +kernel)
theorem im_B_keepReduced : (.instanceMethod y_B_keepReduced : Cond) ∈ wT := wT_2 (k := 37) rfl (by decide +kernel)
theorem se_B_keepReduced : (.selects R_B y_B_keepReduced y_B_keepReduced : Cond) ∈ wT := wT_2 (k := 38) rfl (by decide +kernel)
theorem ml_B_43 : (.methodLink R_B 43 y_W_isOne : Cond) ∈ wT := wT_2 (k := 40) rfl (by decide +kernel)
theorem im_W_isOne : (.instanceMethod y_W_isOne : Cond) ∈ wT := wT_2 (k := 41) rfl (by decide +kernel)
theorem se_W_isOne : (.selects R_W y_W_isOne y_W_isOne : Cond) ∈ wT := wT_2 (k := 42) rfl (by decide +kernel)
theorem ml_B_47 : (.methodLink R_B 47 y_W_become : Cond) ∈ wT := wT_2 (k := 44) rfl (by decide +kernel)
theorem im_W_become : (.instanceMethod y_W_become : Cond) ∈ wT := wT_2 (k := 45) rfl (by decide +kernel)
theorem se_W_become : (.selects R_W y_W_become y_W_become : Cond) ∈ wT := wT_2 (k := 46) rfl (by decide +kernel)
theorem ml_W_52 : (.methodLink R_W 52 arraycopyName : Cond) ∈ wT := wT_2 (k := 48) rfl (by decide +kernel)
theorem st_copy : (.static arraycopyName : Cond) ∈ wT := wT_2 (k := 49) rfl (by decide +kernel)
theorem nat_copy : (.native arraycopyName : Cond) ∈ wT := wT_2 (k := 50) rfl (by decide +kernel)
theorem ml_B_51 : (.methodLink R_B 51 y_D_greatestCommon : Cond) ∈ wT := wT_2 (k := 51) rfl (by decide +kernel)
theorem im_D_greatestCommon : (.instanceMethod y_D_greatestCommon : Cond) ∈ wT := wT_2 (k := 52) rfl (by decide +kernel)
theorem se_D_greatestCommon : (.selects R_D y_D_greatestCommon y_D_greatestCommon : Cond) ∈ wT := wT_2 (k := 53) rfl (by decide +kernel)
theorem ml_D_20 : (.methodLink R_D 20 y_W_compare : Cond) ∈ wT := wT_2 (k := 55) rfl (by decide +kernel)
theorem st_W_compare : (.static y_W_compare : Cond) ∈ wT := wT_2 (k := 56) rfl (by decide +kernel)
theorem ml_D_24 : (.methodLink R_D 24 y_W_isZero : Cond) ∈ wT := wT_2 (k := 58) rfl (by decide +kernel)
theorem im_W_isZero : (.instanceMethod y_W_isZero : Cond) ∈ wT := wT_2 (k := 59) rfl (by decide +kernel)
theorem se_W_isZero : (.selects R_W y_W_isZero y_W_isZero : Cond) ∈ wT := wT_2 (k := 60) rfl (by decide +kernel)
theorem ml_D_28 : (.methodLink R_D 28 y_D_findLeap : Cond) ∈ wT := wT_2 (k := 62) rfl (by decide +kernel)
theorem im_D_findLeap : (.instanceMethod y_D_findLeap : Cond) ∈ wT := wT_2 (k := 64) rfl (by decide +kernel)
theorem ml_D_57 : (.methodLink R_D 57 y_W_spareBits : Cond) ∈ wT := wT_2 (k := 66) rfl (by decide +kernel)
theorem im_W_spareBits : (.instanceMethod y_W_spareBits : Cond) ∈ wT := wT_2 (k := 67) rfl (by decide +kernel)
theorem se_W_spareBits : (.selects R_W y_W_spareBits y_W_spareBits : Cond) ∈ wT := wT_2 (k := 68) rfl (by decide +kernel)
theorem ml_W_32 : (.methodLink R_W 32 y_JI_numberOfLeadingZeros : Cond) ∈ wT := wT_2 (k := 70) rfl (by decide +kernel)
theorem st_JI_numberOfLeadingZeros : (.static y_JI_numberOfLeadingZeros : Cond) ∈ wT := wT_2 (k := 71) rfl (by decide +kernel)
theorem co_JI_264 : (.constant R_JI 264 (65536) : Cond) ∈ wT := wT_2 (k := 73) rfl (by decide +kernel)
theorem ml_D_65 : (.methodLink R_D 65 y_D_highest : Cond) ∈ wT := wT_2 (k := 74) rfl (by decide +kernel)
theorem st_D_highest : (.static y_D_highest : Cond) ∈ wT := wT_2 (k := 75) rfl (by decide +kernel)
theorem ml_D_77 : (.methodLink R_D 77 y_W_shiftedLimb : Cond) ∈ wT := wT_2 (k := 77) rfl (by decide +kernel)
theorem im_W_shiftedLimb : (.instanceMethod y_W_shiftedLimb : Cond) ∈ wT := wT_2 (k := 78) rfl (by decide +kernel)
theorem se_W_shiftedLimb : (.selects R_W y_W_shiftedLimb y_W_shiftedLimb : Cond) ∈ wT := wT_2 (k := 79) rfl (by decide +kernel)
theorem ml_W_38 : (.methodLink R_W 38 y_W_limb : Cond) ∈ wT := wT_2 (k := 81) rfl (by decide +kernel)
theorem im_W_limb : (.instanceMethod y_W_limb : Cond) ∈ wT := wT_2 (k := 82) rfl (by decide +kernel)
theorem se_W_limb : (.selects R_W y_W_limb y_W_limb : Cond) ∈ wT := wT_2 (k := 83) rfl (by decide +kernel)
theorem cj_D_69 : (.constantLong R_D 69 (2147483648) : Cond) ∈ wT := wT_2 (k := 85) rfl (by decide +kernel)
theorem ml_D_71 : (.methodLink R_D 71 y_JM_abs : Cond) ∈ wT := wT_2 (k := 86) rfl (by decide +kernel)
theorem ml_D_39 : (.methodLink R_D 39 y_W_becomeMix : Cond) ∈ wT := wT_2 (k := 87) rfl (by decide +kernel)
theorem im_W_becomeMix : (.instanceMethod y_W_becomeMix : Cond) ∈ wT := wT_2 (k := 88) rfl (by decide +kernel)
theorem se_W_becomeMix : (.selects R_W y_W_becomeMix y_W_becomeMix : Cond) ∈ wT := wT_2 (k := 89) rfl (by decide +kernel)
theorem ml_D_49 : (.methodLink R_D 49 y_W_become : Cond) ∈ wT := wT_2 (k := 91) rfl (by decide +kernel)
theorem ml_D_53 : (.methodLink R_D 53 y_W_leaveRest : Cond) ∈ wT := wT_2 (k := 92) rfl (by decide +kernel)
theorem im_W_leaveRest : (.instanceMethod y_W_leaveRest : Cond) ∈ wT := wT_2 (k := 93) rfl (by decide +kernel)
theorem se_W_leaveRest : (.selects R_W y_W_leaveRest y_W_leaveRest : Cond) ∈ wT := wT_2 (k := 94) rfl (by decide +kernel)
theorem ml_W_58 : (.methodLink R_W 58 y_W_trialDigit : Cond) ∈ wT := wT_2 (k := 96) rfl (by decide +kernel)
theorem im_W_trialDigit : (.instanceMethod y_W_trialDigit : Cond) ∈ wT := wT_2 (k := 98) rfl (by decide +kernel)
theorem ml_W_29 : (.methodLink R_W 29 y_W_spareBits : Cond) ∈ wT := wT_2 (k := 100) rfl (by decide +kernel)
theorem ml_W_68 : (.methodLink R_W 68 y_W_shiftedLimb : Cond) ∈ wT := wT_2 (k := 101) rfl (by decide +kernel)
theorem ml_W_62 : (.methodLink R_W 62 y_W_takeAway : Cond) ∈ wT := wT_2 (k := 102) rfl (by decide +kernel)
theorem im_W_takeAway : (.instanceMethod y_W_takeAway : Cond) ∈ wT := wT_2 (k := 104) rfl (by decide +kernel)
theorem cj_W_66 : (.constantLong R_W 66 (-1) : Cond) ∈ wT := wT_2 (k := 106) rfl (by decide +kernel)
theorem ml_B_55 : (.methodLink R_B 55 y_B_divideOut : Cond) ∈ wT := wT_2 (k := 107) rfl (by decide +kernel)
theorem im_B_divideOut : (.instanceMethod y_B_divideOut : Cond) ∈ wT := wT_2 (k := 109) rfl (by decide +kernel)
theorem ml_B_63 : (.methodLink R_B 63 y_W_leaveRest : Cond) ∈ wT := wT_2 (k := 111) rfl (by decide +kernel)
theorem ml_B_59 : (.methodLink R_B 59 y_B_keep : Cond) ∈ wT := wT_2 (k := 112) rfl (by decide +kernel)
theorem im_B_keep : (.instanceMethod y_B_keep : Cond) ∈ wT := wT_2 (k := 113) rfl (by decide +kernel)
theorem se_B_keep : (.selects R_B y_B_keep y_B_keep : Cond) ∈ wT := wT_2 (k := 114) rfl (by decide +kernel)
theorem ml_B_66 : (.methodLink R_B 66 y_W_isSmallEnough : Cond) ∈ wT := wT_2 (k := 116) rfl (by decide +kernel)
theorem im_W_isSmallEnough : (.instanceMethod y_W_isSmallEnough : Cond) ∈ wT := wT_2 (k := 117) rfl (by decide +kernel)
theorem se_W_isSmallEnough : (.selects R_W y_W_isSmallEnough y_W_isSmallEnough : Cond) ∈ wT := wT_2 (k := 118) rfl (by decide +kernel)
theorem ml_W_25 : (.methodLink R_W 25 y_W_bits : Cond) ∈ wT := wT_2 (k := 120) rfl (by decide +kernel)
theorem im_W_bits : (.instanceMethod y_W_bits : Cond) ∈ wT := wT_2 (k := 121) rfl (by decide +kernel)
theorem se_W_bits : (.selects R_W y_W_bits y_W_bits : Cond) ∈ wT := wT_2 (k := 122) rfl (by decide +kernel)
theorem ml_B_73 : (.methodLink R_B 73 y_W_isZero : Cond) ∈ wT := wT_2 (k := 124) rfl (by decide +kernel)
theorem ml_L_65 : (.methodLink R_L 65 y_L_combine : Cond) ∈ wT := wT_2 (k := 125) rfl (by decide +kernel)
theorem st_L_combine : (.static y_L_combine : Cond) ∈ wT := wT_2 (k := 126) rfl (by decide +kernel)
theorem ml_L_15 : (.methodLink R_L 15 y_K_combine : Cond) ∈ wT := wT_2 (k := 128) rfl (by decide +kernel)
theorem im_K_combine : (.instanceMethod y_K_combine : Cond) ∈ wT := wT_2 (k := 129) rfl (by decide +kernel)
theorem se_K_combine : (.selects R_K y_K_combine y_K_combine : Cond) ∈ wT := wT_2 (k := 130) rfl (by decide +kernel)
theorem sr_K_53 : (.stringRef R_K 53 "no such kind" : Cond) ∈ lw_tbl := lT_2 (k := 132) rfl
theorem ml_K_55 : (.methodLink R_K 55 y_F_isWhole : Cond) ∈ wT := wT_2 (k := 133) rfl (by decide +kernel)
theorem im_F_isWhole : (.instanceMethod y_F_isWhole : Cond) ∈ wT := wT_2 (k := 134) rfl (by decide +kernel)
theorem se_F_isWhole : (.selects R_F y_F_isWhole y_F_isWhole : Cond) ∈ wT := wT_2 (k := 135) rfl (by decide +kernel)
theorem ml_F_29 : (.methodLink R_F 29 y_W_isOne : Cond) ∈ wT := wT_2 (k := 137) rfl (by decide +kernel)
theorem sr_K_59 : (.stringRef R_K 59 "not whole" : Cond) ∈ lw_tbl := lT_2 (k := 138) rfl
theorem ml_K_61 : (.methodLink R_K 61 y_F_signum : Cond) ∈ wT := wT_2 (k := 139) rfl (by decide +kernel)
theorem im_F_signum : (.instanceMethod y_F_signum : Cond) ∈ wT := wT_2 (k := 140) rfl (by decide +kernel)
theorem se_F_signum : (.selects R_F y_F_signum y_F_signum : Cond) ∈ wT := wT_2 (k := 141) rfl (by decide +kernel)
theorem ml_F_33 : (.methodLink R_F 33 y_W_isZero : Cond) ∈ wT := wT_2 (k := 143) rfl (by decide +kernel)
theorem ml_K_69 : (.methodLink R_K 69 y_B_add : Cond) ∈ wT := wT_2 (k := 144) rfl (by decide +kernel)
theorem im_B_add : (.instanceMethod y_B_add : Cond) ∈ wT := wT_2 (k := 145) rfl (by decide +kernel)
theorem se_B_add : (.selects R_B y_B_add y_B_add : Cond) ∈ wT := wT_2 (k := 146) rfl (by decide +kernel)
theorem ml_B_115 : (.methodLink R_B 115 y_B_cross : Cond) ∈ wT := wT_2 (k := 148) rfl (by decide +kernel)
theorem im_B_cross : (.instanceMethod y_B_cross : Cond) ∈ wT := wT_2 (k := 150) rfl (by decide +kernel)
theorem ml_B_109 : (.methodLink R_B 109 y_W_becomeProduct : Cond) ∈ wT := wT_2 (k := 152) rfl (by decide +kernel)
theorem im_W_becomeProduct : (.instanceMethod y_W_becomeProduct : Cond) ∈ wT := wT_2 (k := 153) rfl (by decide +kernel)
theorem se_W_becomeProduct : (.selects R_W y_W_becomeProduct y_W_becomeProduct : Cond) ∈ wT := wT_2 (k := 154) rfl (by decide +kernel)
theorem ml_B_123 : (.methodLink R_B 123 y_W_becomeMix : Cond) ∈ wT := wT_2 (k := 156) rfl (by decide +kernel)
theorem ml_B_119 : (.methodLink R_B 119 y_W_compare : Cond) ∈ wT := wT_2 (k := 157) rfl (by decide +kernel)
theorem cj_B_127 : (.constantLong R_B 127 (-1) : Cond) ∈ wT := wT_2 (k := 158) rfl (by decide +kernel)
theorem ml_K_73 : (.methodLink R_K 73 y_B_multiply : Cond) ∈ wT := wT_2 (k := 159) rfl (by decide +kernel)
theorem im_B_multiply : (.instanceMethod y_B_multiply : Cond) ∈ wT := wT_2 (k := 160) rfl (by decide +kernel)
theorem se_B_multiply : (.selects R_B y_B_multiply y_B_multiply : Cond) ∈ wT := wT_2 (k := 161) rfl (by decide +kernel)
theorem ml_K_77 : (.methodLink R_K 77 y_B_divide : Cond) ∈ wT := wT_2 (k := 163) rfl (by decide +kernel)
theorem im_B_divide : (.instanceMethod y_B_divide : Cond) ∈ wT := wT_2 (k := 164) rfl (by decide +kernel)
theorem se_B_divide : (.selects R_B y_B_divide y_B_divide : Cond) ∈ wT := wT_2 (k := 165) rfl (by decide +kernel)
theorem ml_B_105 : (.methodLink R_B 105 y_B_takeParts : Cond) ∈ wT := wT_2 (k := 167) rfl (by decide +kernel)
theorem im_B_takeParts : (.instanceMethod y_B_takeParts : Cond) ∈ wT := wT_2 (k := 168) rfl (by decide +kernel)
theorem se_B_takeParts : (.selects R_B y_B_takeParts y_B_takeParts : Cond) ∈ wT := wT_2 (k := 169) rfl (by decide +kernel)
theorem ml_K_80 : (.methodLink R_K 80 y_B_compareFractions : Cond) ∈ wT := wT_2 (k := 171) rfl (by decide +kernel)
theorem im_B_compareFractions : (.instanceMethod y_B_compareFractions : Cond) ∈ wT := wT_2 (k := 172) rfl (by decide +kernel)
theorem se_B_compareFractions : (.selects R_B y_B_compareFractions y_B_compareFractions : Cond) ∈ wT := wT_2 (k := 173) rfl (by decide +kernel)
theorem ml_B_112 : (.methodLink R_B 112 y_F_signum : Cond) ∈ wT := wT_2 (k := 175) rfl (by decide +kernel)
theorem ml_K_84 : (.methodLink R_K 84 y_B_take : Cond) ∈ wT := wT_2 (k := 176) rfl (by decide +kernel)
theorem im_B_take : (.instanceMethod y_B_take : Cond) ∈ wT := wT_2 (k := 177) rfl (by decide +kernel)
theorem se_B_take : (.selects R_B y_B_take y_B_take : Cond) ∈ wT := wT_2 (k := 178) rfl (by decide +kernel)
theorem ml_K_88 : (.methodLink R_K 88 y_B_keep : Cond) ∈ wT := wT_2 (k := 180) rfl (by decide +kernel)
theorem ml_K_91 : (.methodLink R_K 91 y_B_divideWhole : Cond) ∈ wT := wT_2 (k := 181) rfl (by decide +kernel)
theorem im_B_divideWhole : (.instanceMethod y_B_divideWhole : Cond) ∈ wT := wT_2 (k := 182) rfl (by decide +kernel)
theorem se_B_divideWhole : (.selects R_B y_B_divideWhole y_B_divideWhole : Cond) ∈ wT := wT_2 (k := 183) rfl (by decide +kernel)
theorem ml_B_129 : (.methodLink R_B 129 y_B_roundRatio : Cond) ∈ wT := wT_2 (k := 185) rfl (by decide +kernel)
theorem im_B_roundRatio : (.instanceMethod y_B_roundRatio : Cond) ∈ wT := wT_2 (k := 187) rfl (by decide +kernel)
theorem ml_B_133 : (.methodLink R_B 133 y_W_timesPlus : Cond) ∈ wT := wT_2 (k := 189) rfl (by decide +kernel)
theorem im_W_timesPlus : (.instanceMethod y_W_timesPlus : Cond) ∈ wT := wT_2 (k := 190) rfl (by decide +kernel)
theorem se_W_timesPlus : (.selects R_W y_W_timesPlus y_W_timesPlus : Cond) ∈ wT := wT_2 (k := 191) rfl (by decide +kernel)
theorem ml_K_94 : (.methodLink R_K 94 y_B_takeRest : Cond) ∈ wT := wT_2 (k := 193) rfl (by decide +kernel)
theorem im_B_takeRest : (.instanceMethod y_B_takeRest : Cond) ∈ wT := wT_2 (k := 194) rfl (by decide +kernel)
theorem se_B_takeRest : (.selects R_B y_B_takeRest y_B_takeRest : Cond) ∈ wT := wT_2 (k := 195) rfl (by decide +kernel)
theorem ml_K_97 : (.methodLink R_K 97 y_B_takeCommonDivisor : Cond) ∈ wT := wT_2 (k := 197) rfl (by decide +kernel)
theorem im_B_takeCommonDivisor : (.instanceMethod y_B_takeCommonDivisor : Cond) ∈ wT := wT_2 (k := 198) rfl (by decide +kernel)
theorem se_B_takeCommonDivisor : (.selects R_B y_B_takeCommonDivisor y_B_takeCommonDivisor : Cond) ∈ wT := wT_2 (k := 199) rfl (by decide +kernel)
theorem ml_B_137 : (.methodLink R_B 137 y_B_takeWhole : Cond) ∈ wT := wT_2 (k := 201) rfl (by decide +kernel)
theorem im_B_takeWhole : (.instanceMethod y_B_takeWhole : Cond) ∈ wT := wT_2 (k := 202) rfl (by decide +kernel)
theorem se_B_takeWhole : (.selects R_B y_B_takeWhole y_B_takeWhole : Cond) ∈ wT := wT_2 (k := 203) rfl (by decide +kernel)
theorem ml_L_69 : (.methodLink R_L 69 y_L_change : Cond) ∈ wT := wT_2 (k := 205) rfl (by decide +kernel)
theorem st_L_change : (.static y_L_change : Cond) ∈ wT := wT_2 (k := 206) rfl (by decide +kernel)
theorem ml_L_19 : (.methodLink R_L 19 y_K_change : Cond) ∈ wT := wT_2 (k := 208) rfl (by decide +kernel)
theorem im_K_change : (.instanceMethod y_K_change : Cond) ∈ wT := wT_2 (k := 209) rfl (by decide +kernel)
theorem se_K_change : (.selects R_K y_K_change y_K_change : Cond) ∈ wT := wT_2 (k := 210) rfl (by decide +kernel)
theorem ml_K_107 : (.methodLink R_K 107 y_B_takeParts : Cond) ∈ wT := wT_2 (k := 212) rfl (by decide +kernel)
theorem ml_K_111 : (.methodLink R_K 111 y_B_round : Cond) ∈ wT := wT_2 (k := 213) rfl (by decide +kernel)
theorem im_B_round : (.instanceMethod y_B_round : Cond) ∈ wT := wT_2 (k := 214) rfl (by decide +kernel)
theorem se_B_round : (.selects R_B y_B_round y_B_round : Cond) ∈ wT := wT_2 (k := 215) rfl (by decide +kernel)
theorem ml_K_115 : (.methodLink R_K 115 y_B_takeWhole : Cond) ∈ wT := wT_2 (k := 217) rfl (by decide +kernel)
theorem ml_L_73 : (.methodLink R_L 73 y_L_power : Cond) ∈ wT := wT_2 (k := 218) rfl (by decide +kernel)
theorem st_L_power : (.static y_L_power : Cond) ∈ wT := wT_2 (k := 219) rfl (by decide +kernel)
theorem ml_L_23 : (.methodLink R_L 23 y_K_power : Cond) ∈ wT := wT_2 (k := 221) rfl (by decide +kernel)
theorem im_K_power : (.instanceMethod y_K_power : Cond) ∈ wT := wT_2 (k := 222) rfl (by decide +kernel)
theorem se_K_power : (.selects R_K y_K_power y_K_power : Cond) ∈ wT := wT_2 (k := 223) rfl (by decide +kernel)
theorem sr_K_119 : (.stringRef R_K 119 "no such power" : Cond) ∈ lw_tbl := lT_2 (k := 225) rfl
theorem ml_K_121 : (.methodLink R_K 121 y_B_raise : Cond) ∈ wT := wT_2 (k := 226) rfl (by decide +kernel)
theorem im_B_raise : (.instanceMethod y_B_raise : Cond) ∈ wT := wT_2 (k := 227) rfl (by decide +kernel)
theorem se_B_raise : (.selects R_B y_B_raise y_B_raise : Cond) ∈ wT := wT_2 (k := 228) rfl (by decide +kernel)
theorem ml_B_141 : (.methodLink R_B 141 y_JM_abs2 : Cond) ∈ wT := wT_2 (k := 230) rfl (by decide +kernel)
theorem st_JM_abs2 : (.static y_JM_abs2 : Cond) ∈ wT := wT_2 (k := 231) rfl (by decide +kernel)
theorem ml_B_143 : (.methodLink R_B 143 y_B_raiseWhole : Cond) ∈ wT := wT_2 (k := 233) rfl (by decide +kernel)
theorem im_B_raiseWhole : (.instanceMethod y_B_raiseWhole : Cond) ∈ wT := wT_2 (k := 235) rfl (by decide +kernel)
theorem ml_B_147 : (.methodLink R_B 147 y_B_multiplyWhole : Cond) ∈ wT := wT_2 (k := 237) rfl (by decide +kernel)
theorem im_B_multiplyWhole : (.instanceMethod y_B_multiplyWhole : Cond) ∈ wT := wT_2 (k := 239) rfl (by decide +kernel)
theorem ml_L_76 : (.methodLink R_L 76 y_L_order : Cond) ∈ wT := wT_3 (k := 1) rfl (by decide +kernel)
theorem st_L_order : (.static y_L_order : Cond) ∈ wT := wT_3 (k := 2) rfl (by decide +kernel)
theorem ml_L_26 : (.methodLink R_L 26 y_K_order : Cond) ∈ wT := wT_3 (k := 4) rfl (by decide +kernel)
theorem im_K_order : (.instanceMethod y_K_order : Cond) ∈ wT := wT_3 (k := 5) rfl (by decide +kernel)
theorem se_K_order : (.selects R_K y_K_order y_K_order : Cond) ∈ wT := wT_3 (k := 6) rfl (by decide +kernel)
theorem ml_L_80 : (.methodLink R_L 80 y_L_sign : Cond) ∈ wT := wT_3 (k := 8) rfl (by decide +kernel)
theorem st_L_sign : (.static y_L_sign : Cond) ∈ wT := wT_3 (k := 9) rfl (by decide +kernel)
theorem ml_L_30 : (.methodLink R_L 30 y_K_sign : Cond) ∈ wT := wT_3 (k := 11) rfl (by decide +kernel)
theorem im_K_sign : (.instanceMethod y_K_sign : Cond) ∈ wT := wT_3 (k := 12) rfl (by decide +kernel)
theorem se_K_sign : (.selects R_K y_K_sign y_K_sign : Cond) ∈ wT := wT_3 (k := 13) rfl (by decide +kernel)
theorem ml_L_84 : (.methodLink R_L 84 y_L_places : Cond) ∈ wT := wT_3 (k := 15) rfl (by decide +kernel)
theorem st_L_places : (.static y_L_places : Cond) ∈ wT := wT_3 (k := 16) rfl (by decide +kernel)
theorem ml_L_34 : (.methodLink R_L 34 y_K_places : Cond) ∈ wT := wT_3 (k := 18) rfl (by decide +kernel)
theorem im_K_places : (.instanceMethod y_K_places : Cond) ∈ wT := wT_3 (k := 19) rfl (by decide +kernel)
theorem se_K_places : (.selects R_K y_K_places y_K_places : Cond) ∈ wT := wT_3 (k := 20) rfl (by decide +kernel)
theorem ml_K_125 : (.methodLink R_K 125 y_K_half : Cond) ∈ wT := wT_3 (k := 22) rfl (by decide +kernel)
theorem im_K_half : (.instanceMethod y_K_half : Cond) ∈ wT := wT_3 (k := 24) rfl (by decide +kernel)
theorem sr_K_175 : (.stringRef R_K 175 "neither top nor bottom" : Cond) ∈ lw_tbl := lT_3 (k := 26) rfl
theorem ml_K_129 : (.methodLink R_K 129 y_W_bits : Cond) ∈ wT := wT_3 (k := 27) rfl (by decide +kernel)
theorem ml_L_87 : (.methodLink R_L 87 y_L_part : Cond) ∈ wT := wT_3 (k := 28) rfl (by decide +kernel)
theorem st_L_part : (.static y_L_part : Cond) ∈ wT := wT_3 (k := 29) rfl (by decide +kernel)
theorem ml_L_37 : (.methodLink R_L 37 y_K_part : Cond) ∈ wT := wT_3 (k := 31) rfl (by decide +kernel)
theorem im_K_part : (.instanceMethod y_K_part : Cond) ∈ wT := wT_3 (k := 32) rfl (by decide +kernel)
theorem se_K_part : (.selects R_K y_K_part y_K_part : Cond) ∈ wT := wT_3 (k := 33) rfl (by decide +kernel)
theorem ml_K_134 : (.methodLink R_K 134 y_W_word : Cond) ∈ wT := wT_3 (k := 35) rfl (by decide +kernel)
theorem im_W_word : (.instanceMethod y_W_word : Cond) ∈ wT := wT_3 (k := 36) rfl (by decide +kernel)
theorem se_W_word : (.selects R_W y_W_word y_W_word : Cond) ∈ wT := wT_3 (k := 37) rfl (by decide +kernel)
theorem cj_W_41 : (.constantLong R_W 41 (4294967295) : Cond) ∈ wT := wT_3 (k := 39) rfl (by decide +kernel)
theorem ml_L_90 : (.methodLink R_L 90 y_L_write : Cond) ∈ wT := wT_3 (k := 40) rfl (by decide +kernel)
theorem st_L_write : (.static y_L_write : Cond) ∈ wT := wT_3 (k := 41) rfl (by decide +kernel)
theorem ml_L_41 : (.methodLink R_L 41 y_K_write : Cond) ∈ wT := wT_3 (k := 43) rfl (by decide +kernel)
theorem im_K_write : (.instanceMethod y_K_write : Cond) ∈ wT := wT_3 (k := 44) rfl (by decide +kernel)
theorem se_K_write : (.selects R_K y_K_write y_K_write : Cond) ∈ wT := wT_3 (k := 45) rfl (by decide +kernel)
theorem ml_K_145 : (.methodLink R_K 145 y_B_copyOf : Cond) ∈ wT := wT_3 (k := 47) rfl (by decide +kernel)
theorem im_B_copyOf : (.instanceMethod y_B_copyOf : Cond) ∈ wT := wT_3 (k := 48) rfl (by decide +kernel)
theorem se_B_copyOf : (.selects R_B y_B_copyOf y_B_copyOf : Cond) ∈ wT := wT_3 (k := 49) rfl (by decide +kernel)
theorem ml_K_149 : (.methodLink R_K 149 y_T_putDecimal : Cond) ∈ wT := wT_3 (k := 51) rfl (by decide +kernel)
theorem im_T_putDecimal : (.instanceMethod y_T_putDecimal : Cond) ∈ wT := wT_3 (k := 52) rfl (by decide +kernel)
theorem se_T_putDecimal : (.selects R_T y_T_putDecimal y_T_putDecimal : Cond) ∈ wT := wT_3 (k := 53) rfl (by decide +kernel)
theorem ml_T_19 : (.methodLink R_T 19 y_W_isZero : Cond) ∈ wT := wT_3 (k := 55) rfl (by decide +kernel)
theorem co_T_25 : (.constant R_T 25 (1000000000) : Cond) ∈ wT := wT_3 (k := 56) rfl (by decide +kernel)
theorem ml_T_26 : (.methodLink R_T 26 y_W_divideSmall : Cond) ∈ wT := wT_3 (k := 57) rfl (by decide +kernel)
theorem im_W_divideSmall : (.instanceMethod y_W_divideSmall : Cond) ∈ wT := wT_3 (k := 58) rfl (by decide +kernel)
theorem se_W_divideSmall : (.selects R_W y_W_divideSmall y_W_divideSmall : Cond) ∈ wT := wT_3 (k := 59) rfl (by decide +kernel)
theorem ml_T_30 : (.methodLink R_T 30 y_T_putNineBackwards : Cond) ∈ wT := wT_3 (k := 61) rfl (by decide +kernel)
theorem im_T_putNineBackwards : (.instanceMethod y_T_putNineBackwards : Cond) ∈ wT := wT_3 (k := 63) rfl (by decide +kernel)
theorem ml_T_34 : (.methodLink R_T 34 y_T_put : Cond) ∈ wT := wT_3 (k := 65) rfl (by decide +kernel)
theorem ml_T_38 : (.methodLink R_T 38 y_T_turnRound : Cond) ∈ wT := wT_3 (k := 66) rfl (by decide +kernel)
theorem im_T_turnRound : (.instanceMethod y_T_turnRound : Cond) ∈ wT := wT_3 (k := 68) rfl (by decide +kernel)
theorem ml_L_106 : (.methodLink R_L 106 y_L_read : Cond) ∈ wT := wT_3 (k := 70) rfl (by decide +kernel)
theorem st_L_read : (.static y_L_read : Cond) ∈ wT := wT_3 (k := 71) rfl (by decide +kernel)
theorem cl_L_47 : (.classLink R_L 47 "java/lang/IllegalStateException" : Cond) ∈ wT := wT_3 (k := 73) rfl (by decide +kernel)
theorem ml_L_44 : (.methodLink R_L 44 y_K_read : Cond) ∈ wT := wT_3 (k := 74) rfl (by decide +kernel)
theorem im_K_read : (.instanceMethod y_K_read : Cond) ∈ wT := wT_3 (k := 75) rfl (by decide +kernel)
theorem se_K_read : (.selects R_K y_K_read y_K_read : Cond) ∈ wT := wT_3 (k := 76) rfl (by decide +kernel)
theorem ml_K_161 : (.methodLink R_K 161 y_T_wrongAt : Cond) ∈ wT := wT_3 (k := 78) rfl (by decide +kernel)
theorem im_T_wrongAt : (.instanceMethod y_T_wrongAt : Cond) ∈ wT := wT_3 (k := 79) rfl (by decide +kernel)
theorem se_T_wrongAt : (.selects R_T y_T_wrongAt y_T_wrongAt : Cond) ∈ wT := wT_3 (k := 80) rfl (by decide +kernel)
theorem ml_T_49 : (.methodLink R_T 49 y_T_firstDigit : Cond) ∈ wT := wT_3 (k := 82) rfl (by decide +kernel)
theorem im_T_firstDigit : (.instanceMethod y_T_firstDigit : Cond) ∈ wT := wT_3 (k := 83) rfl (by decide +kernel)
theorem se_T_firstDigit : (.selects R_T y_T_firstDigit y_T_firstDigit : Cond) ∈ wT := wT_3 (k := 84) rfl (by decide +kernel)
theorem ml_T_42 : (.methodLink R_T 42 y_T_at : Cond) ∈ wT := wT_3 (k := 86) rfl (by decide +kernel)
theorem ml_T_53 : (.methodLink R_T 53 y_T_digitsEnd : Cond) ∈ wT := wT_3 (k := 87) rfl (by decide +kernel)
theorem im_T_digitsEnd : (.instanceMethod y_T_digitsEnd : Cond) ∈ wT := wT_3 (k := 88) rfl (by decide +kernel)
theorem se_T_digitsEnd : (.selects R_T y_T_digitsEnd y_T_digitsEnd : Cond) ∈ wT := wT_3 (k := 89) rfl (by decide +kernel)
theorem ml_T_45 : (.methodLink R_T 45 y_T_isDigit : Cond) ∈ wT := wT_3 (k := 91) rfl (by decide +kernel)
theorem st_T_isDigit : (.static y_T_isDigit : Cond) ∈ wT := wT_3 (k := 92) rfl (by decide +kernel)
theorem ml_T_56 : (.methodLink R_T 56 y_T_isAllZeros : Cond) ∈ wT := wT_3 (k := 94) rfl (by decide +kernel)
theorem im_T_isAllZeros : (.instanceMethod y_T_isAllZeros : Cond) ∈ wT := wT_3 (k := 96) rfl (by decide +kernel)
theorem cl_K_164 : (.classLink R_K 164 "java/lang/IllegalStateException" : Cond) ∈ wT := wT_3 (k := 98) rfl (by decide +kernel)
theorem sr_K_166 : (.stringRef R_K 166 "the text tells no fraction" : Cond) ∈ lw_tbl := lT_3 (k := 107) rfl
theorem ml_K_168 : (.methodLink R_K 168 ⟨"java/lang/IllegalStateException", "<init>", "(Ljava/lang/String;)V"⟩ : Cond) ∈ wT := wT_3 (k := 108) rfl (by decide +kernel)
theorem ml_K_169 : (.methodLink R_K 169 y_B_takeText : Cond) ∈ wT := wT_3 (k := 114) rfl (by decide +kernel)
theorem im_B_takeText : (.instanceMethod y_B_takeText : Cond) ∈ wT := wT_3 (k := 115) rfl (by decide +kernel)
theorem se_B_takeText : (.selects R_B y_B_takeText y_B_takeText : Cond) ∈ wT := wT_3 (k := 116) rfl (by decide +kernel)
theorem ml_B_87 : (.methodLink R_B 87 y_T_firstDigit : Cond) ∈ wT := wT_3 (k := 118) rfl (by decide +kernel)
theorem ml_B_93 : (.methodLink R_B 93 y_T_digitsEnd : Cond) ∈ wT := wT_3 (k := 119) rfl (by decide +kernel)
theorem ml_B_97 : (.methodLink R_B 97 y_T_tell : Cond) ∈ wT := wT_3 (k := 120) rfl (by decide +kernel)
theorem im_T_tell : (.instanceMethod y_T_tell : Cond) ∈ wT := wT_3 (k := 121) rfl (by decide +kernel)
theorem se_T_tell : (.selects R_T y_T_tell y_T_tell : Cond) ∈ wT := wT_3 (k := 122) rfl (by decide +kernel)
theorem ml_T_63 : (.methodLink R_T 63 y_W_timesPlus : Cond) ∈ wT := wT_3 (k := 124) rfl (by decide +kernel)
theorem ml_T_66 : (.methodLink R_T 66 y_W_isSmallEnough : Cond) ∈ wT := wT_3 (k := 125) rfl (by decide +kernel)
theorem cl_L_50 : (.classLink R_L 50 R_M : Cond) ∈ wT := wT_3 (k := 126) rfl (by decide +kernel)
theorem ia_M : (.instantiable R_M 8 : Cond) ∈ wT := wT_3 (k := 127) rfl (by decide +kernel)
theorem ml_L_52 : (.methodLink R_L 52 y_M_init : Cond) ∈ wT := wT_3 (k := 128) rfl (by decide +kernel)
theorem im_M_init : (.instanceMethod y_M_init : Cond) ∈ wT := wT_3 (k := 129) rfl (by decide +kernel)
theorem ml_M_1 : (.methodLink R_M 1 objectInit : Cond) ∈ wT := wT_3 (k := 131) rfl (by decide +kernel)
theorem ml_M_30 : (.methodLink R_M 30 y_M_setLong : Cond) ∈ wT := wT_3 (k := 132) rfl (by decide +kernel)
theorem im_M_setLong : (.instanceMethod y_M_setLong : Cond) ∈ wT := wT_3 (k := 134) rfl (by decide +kernel)
theorem cj_M_37 : (.constantLong R_M 37 (65536) : Cond) ∈ wT := wT_3 (k := 136) rfl (by decide +kernel)
theorem ml_M_39 : (.methodLink R_M 39 y_M_trim : Cond) ∈ wT := wT_3 (k := 137) rfl (by decide +kernel)
theorem im_M_trim : (.instanceMethod y_M_trim : Cond) ∈ wT := wT_3 (k := 139) rfl (by decide +kernel)
theorem fl_M_34 : (.fieldLink R_M 34 "FractionDeskModel" "code" "I" : Cond) ∈ wT := wT_3 (k := 141) rfl (by decide +kernel)
theorem fl_M_7 : (.fieldLink R_M 7 "FractionDeskModel" "parts" "[I" : Cond) ∈ wT := wT_3 (k := 142) rfl (by decide +kernel)
theorem fl_M_13 : (.fieldLink R_M 13 "FractionDeskModel" "sizes" "[I" : Cond) ∈ wT := wT_3 (k := 143) rfl (by decide +kernel)
theorem fl_M_16 : (.fieldLink R_M 16 "FractionDeskModel" "minus" "[Z" : Cond) ∈ wT := wT_3 (k := 144) rfl (by decide +kernel)
theorem fl_M_20 : (.fieldLink R_M 20 "FractionDeskModel" "text" "[I" : Cond) ∈ wT := wT_3 (k := 145) rfl (by decide +kernel)
theorem fl_M_125 : (.fieldLink R_M 125 "FractionDeskModel" "length" "I" : Cond) ∈ wT := wT_3 (k := 146) rfl (by decide +kernel)
theorem fl_M_23 : (.fieldLink R_M 23 "FractionDeskModel" "wrong" "I" : Cond) ∈ wT := wT_3 (k := 147) rfl (by decide +kernel)
theorem fl_M_27 : (.fieldLink R_M 27 "FractionDeskModel" "digits" "[I" : Cond) ∈ wT := wT_3 (k := 148) rfl (by decide +kernel)
theorem ac_boolean : (.arrayClass .boolean : Cond) ∈ wT := wT_3 (k := 166) rfl (by decide +kernel)
theorem ml_L_61 : (.methodLink R_L 61 y_M_thrown : Cond) ∈ wT := wT_3 (k := 167) rfl (by decide +kernel)
theorem im_M_thrown : (.instanceMethod y_M_thrown : Cond) ∈ wT := wT_3 (k := 168) rfl (by decide +kernel)
theorem se_M_thrown : (.selects R_M y_M_thrown y_M_thrown : Cond) ∈ wT := wT_3 (k := 169) rfl (by decide +kernel)
theorem ml_L_60 : (.methodLink R_L 60 y_M_set : Cond) ∈ wT := wT_3 (k := 171) rfl (by decide +kernel)
theorem im_M_set : (.instanceMethod y_M_set : Cond) ∈ wT := wT_3 (k := 172) rfl (by decide +kernel)
theorem se_M_set : (.selects R_M y_M_set y_M_set : Cond) ∈ wT := wT_3 (k := 173) rfl (by decide +kernel)
theorem ml_M_86 : (.methodLink R_M 86 y_M_isRegister : Cond) ∈ wT := wT_3 (k := 175) rfl (by decide +kernel)
theorem st_M_isRegister : (.static y_M_isRegister : Cond) ∈ wT := wT_3 (k := 176) rfl (by decide +kernel)
theorem ml_M_89 : (.methodLink R_M 89 y_M_lay : Cond) ∈ wT := wT_3 (k := 178) rfl (by decide +kernel)
theorem im_M_lay : (.instanceMethod y_M_lay : Cond) ∈ wT := wT_3 (k := 180) rfl (by decide +kernel)
theorem ml_M_79 : (.methodLink R_M 79 y_M_common : Cond) ∈ wT := wT_3 (k := 182) rfl (by decide +kernel)
theorem im_M_common : (.instanceMethod y_M_common : Cond) ∈ wT := wT_3 (k := 184) rfl (by decide +kernel)
theorem ml_M_55 : (.methodLink R_M 55 y_M_copy : Cond) ∈ wT := wT_3 (k := 186) rfl (by decide +kernel)
theorem im_M_copy : (.instanceMethod y_M_copy : Cond) ∈ wT := wT_3 (k := 188) rfl (by decide +kernel)
theorem ml_M_72 : (.methodLink R_M 72 y_M_divide : Cond) ∈ wT := wT_3 (k := 190) rfl (by decide +kernel)
theorem im_M_divide : (.instanceMethod y_M_divide : Cond) ∈ wT := wT_3 (k := 192) rfl (by decide +kernel)
theorem ml_M_48 : (.methodLink R_M 48 y_M_compareSizes : Cond) ∈ wT := wT_3 (k := 194) rfl (by decide +kernel)
theorem im_M_compareSizes : (.instanceMethod y_M_compareSizes : Cond) ∈ wT := wT_3 (k := 196) rfl (by decide +kernel)
theorem co_M_43 : (.constant R_M 43 (65536) : Cond) ∈ wT := wT_3 (k := 198) rfl (by decide +kernel)
theorem ml_M_59 : (.methodLink R_M 59 y_M_scale : Cond) ∈ wT := wT_3 (k := 199) rfl (by decide +kernel)
theorem im_M_scale : (.instanceMethod y_M_scale : Cond) ∈ wT := wT_3 (k := 201) rfl (by decide +kernel)
theorem cj_M_62 : (.constantLong R_M 62 (65535) : Cond) ∈ wT := wT_3 (k := 203) rfl (by decide +kernel)
theorem ml_M_64 : (.methodLink R_M 64 y_M_takes : Cond) ∈ wT := wT_3 (k := 204) rfl (by decide +kernel)
theorem im_M_takes : (.instanceMethod y_M_takes : Cond) ∈ wT := wT_3 (k := 206) rfl (by decide +kernel)
theorem ml_M_68 : (.methodLink R_M 68 y_M_givesBack : Cond) ∈ wT := wT_3 (k := 208) rfl (by decide +kernel)
theorem im_M_givesBack : (.instanceMethod y_M_givesBack : Cond) ∈ wT := wT_3 (k := 210) rfl (by decide +kernel)
theorem ml_M_82 : (.methodLink R_M 82 y_M_below : Cond) ∈ wT := wT_3 (k := 212) rfl (by decide +kernel)
theorem st_M_below : (.static y_M_below : Cond) ∈ wT := wT_3 (k := 213) rfl (by decide +kernel)
theorem ml_L_68 : (.methodLink R_L 68 y_M_combine : Cond) ∈ wT := wT_3 (k := 215) rfl (by decide +kernel)
theorem im_M_combine : (.instanceMethod y_M_combine : Cond) ∈ wT := wT_3 (k := 216) rfl (by decide +kernel)
theorem se_M_combine : (.selects R_M y_M_combine y_M_combine : Cond) ∈ wT := wT_3 (k := 217) rfl (by decide +kernel)
theorem ml_M_98 : (.methodLink R_M 98 y_M_isOne : Cond) ∈ wT := wT_3 (k := 219) rfl (by decide +kernel)
theorem im_M_isOne : (.instanceMethod y_M_isOne : Cond) ∈ wT := wT_3 (k := 221) rfl (by decide +kernel)
theorem ml_M_92 : (.methodLink R_M 92 y_M_times : Cond) ∈ wT := wT_3 (k := 223) rfl (by decide +kernel)
theorem im_M_times : (.instanceMethod y_M_times : Cond) ∈ wT := wT_3 (k := 225) rfl (by decide +kernel)
theorem ml_M_75 : (.methodLink R_M 75 y_M_join : Cond) ∈ wT := wT_3 (k := 227) rfl (by decide +kernel)
theorem im_M_join : (.instanceMethod y_M_join : Cond) ∈ wT := wT_3 (k := 229) rfl (by decide +kernel)
theorem ml_M_44 : (.methodLink R_M 44 y_M_addSizes : Cond) ∈ wT := wT_3 (k := 231) rfl (by decide +kernel)
theorem im_M_addSizes : (.instanceMethod y_M_addSizes : Cond) ∈ wT := wT_3 (k := 233) rfl (by decide +kernel)
theorem ml_M_52 : (.methodLink R_M 52 y_M_takeSizes : Cond) ∈ wT := wT_3 (k := 235) rfl (by decide +kernel)
theorem im_M_takeSizes : (.instanceMethod y_M_takeSizes : Cond) ∈ wT := wT_3 (k := 237) rfl (by decide +kernel)
theorem ml_M_101 : (.methodLink R_M 101 y_M_compare : Cond) ∈ wT := wT_3 (k := 239) rfl (by decide +kernel)
theorem im_M_compare : (.instanceMethod y_M_compare : Cond) ∈ wT := wT_4 (k := 1) rfl (by decide +kernel)
theorem ml_M_104 : (.methodLink R_M 104 y_M_take : Cond) ∈ wT := wT_4 (k := 3) rfl (by decide +kernel)
theorem im_M_take : (.instanceMethod y_M_take : Cond) ∈ wT := wT_4 (k := 5) rfl (by decide +kernel)
theorem ml_M_107 : (.methodLink R_M 107 y_M_wholeQuotient : Cond) ∈ wT := wT_4 (k := 7) rfl (by decide +kernel)
theorem im_M_wholeQuotient : (.instanceMethod y_M_wholeQuotient : Cond) ∈ wT := wT_4 (k := 9) rfl (by decide +kernel)
theorem ml_M_95 : (.methodLink R_M 95 y_M_floor : Cond) ∈ wT := wT_4 (k := 11) rfl (by decide +kernel)
theorem im_M_floor : (.instanceMethod y_M_floor : Cond) ∈ wT := wT_4 (k := 13) rfl (by decide +kernel)
theorem ml_M_110 : (.methodLink R_M 110 y_M_rest : Cond) ∈ wT := wT_4 (k := 15) rfl (by decide +kernel)
theorem im_M_rest : (.instanceMethod y_M_rest : Cond) ∈ wT := wT_4 (k := 17) rfl (by decide +kernel)
theorem ml_L_72 : (.methodLink R_L 72 y_M_change : Cond) ∈ wT := wT_4 (k := 19) rfl (by decide +kernel)
theorem im_M_change : (.instanceMethod y_M_change : Cond) ∈ wT := wT_4 (k := 20) rfl (by decide +kernel)
theorem se_M_change : (.selects R_M y_M_change y_M_change : Cond) ∈ wT := wT_4 (k := 21) rfl (by decide +kernel)
theorem ml_L_75 : (.methodLink R_L 75 y_M_power : Cond) ∈ wT := wT_4 (k := 23) rfl (by decide +kernel)
theorem im_M_power : (.instanceMethod y_M_power : Cond) ∈ wT := wT_4 (k := 24) rfl (by decide +kernel)
theorem se_M_power : (.selects R_M y_M_power y_M_power : Cond) ∈ wT := wT_4 (k := 25) rfl (by decide +kernel)
theorem ml_M_114 : (.methodLink R_M 114 y_M_raise : Cond) ∈ wT := wT_4 (k := 27) rfl (by decide +kernel)
theorem im_M_raise : (.instanceMethod y_M_raise : Cond) ∈ wT := wT_4 (k := 29) rfl (by decide +kernel)
theorem ml_L_79 : (.methodLink R_L 79 y_M_order : Cond) ∈ wT := wT_4 (k := 31) rfl (by decide +kernel)
theorem im_M_order : (.instanceMethod y_M_order : Cond) ∈ wT := wT_4 (k := 32) rfl (by decide +kernel)
theorem se_M_order : (.selects R_M y_M_order y_M_order : Cond) ∈ wT := wT_4 (k := 33) rfl (by decide +kernel)
theorem ml_L_83 : (.methodLink R_L 83 y_M_sign : Cond) ∈ wT := wT_4 (k := 35) rfl (by decide +kernel)
theorem im_M_sign : (.instanceMethod y_M_sign : Cond) ∈ wT := wT_4 (k := 36) rfl (by decide +kernel)
theorem se_M_sign : (.selects R_M y_M_sign y_M_sign : Cond) ∈ wT := wT_4 (k := 37) rfl (by decide +kernel)
theorem ml_L_86 : (.methodLink R_L 86 y_M_places : Cond) ∈ wT := wT_4 (k := 39) rfl (by decide +kernel)
theorem im_M_places : (.instanceMethod y_M_places : Cond) ∈ wT := wT_4 (k := 40) rfl (by decide +kernel)
theorem se_M_places : (.selects R_M y_M_places y_M_places : Cond) ∈ wT := wT_4 (k := 41) rfl (by decide +kernel)
theorem ml_M_118 : (.methodLink R_M 118 y_M_look : Cond) ∈ wT := wT_4 (k := 43) rfl (by decide +kernel)
theorem im_M_look : (.instanceMethod y_M_look : Cond) ∈ wT := wT_4 (k := 45) rfl (by decide +kernel)
theorem ml_L_89 : (.methodLink R_L 89 y_M_part : Cond) ∈ wT := wT_4 (k := 47) rfl (by decide +kernel)
theorem im_M_part : (.instanceMethod y_M_part : Cond) ∈ wT := wT_4 (k := 48) rfl (by decide +kernel)
theorem se_M_part : (.selects R_M y_M_part y_M_part : Cond) ∈ wT := wT_4 (k := 49) rfl (by decide +kernel)
theorem ml_M_121 : (.methodLink R_M 121 y_M_partAt : Cond) ∈ wT := wT_4 (k := 51) rfl (by decide +kernel)
theorem im_M_partAt : (.instanceMethod y_M_partAt : Cond) ∈ wT := wT_4 (k := 53) rfl (by decide +kernel)
theorem ml_L_92 : (.methodLink R_L 92 y_M_write : Cond) ∈ wT := wT_4 (k := 55) rfl (by decide +kernel)
theorem im_M_write : (.instanceMethod y_M_write : Cond) ∈ wT := wT_4 (k := 56) rfl (by decide +kernel)
theorem se_M_write : (.selects R_M y_M_write y_M_write : Cond) ∈ wT := wT_4 (k := 57) rfl (by decide +kernel)
theorem ml_M_128 : (.methodLink R_M 128 y_M_print : Cond) ∈ wT := wT_4 (k := 59) rfl (by decide +kernel)
theorem im_M_print : (.instanceMethod y_M_print : Cond) ∈ wT := wT_4 (k := 61) rfl (by decide +kernel)
theorem ml_M_131 : (.methodLink R_M 131 y_M_printDigits : Cond) ∈ wT := wT_4 (k := 63) rfl (by decide +kernel)
theorem im_M_printDigits : (.instanceMethod y_M_printDigits : Cond) ∈ wT := wT_4 (k := 65) rfl (by decide +kernel)
theorem ml_L_97 : (.methodLink R_L 97 y_M_type : Cond) ∈ wT := wT_4 (k := 67) rfl (by decide +kernel)
theorem im_M_type : (.instanceMethod y_M_type : Cond) ∈ wT := wT_4 (k := 68) rfl (by decide +kernel)
theorem se_M_type : (.selects R_M y_M_type y_M_type : Cond) ∈ wT := wT_4 (k := 69) rfl (by decide +kernel)
theorem cj_M_134 : (.constantLong R_M 134 (255) : Cond) ∈ wT := wT_4 (k := 71) rfl (by decide +kernel)
theorem cj_M_136 : (.constantLong R_M 136 (32) : Cond) ∈ wT := wT_4 (k := 72) rfl (by decide +kernel)
theorem cj_M_138 : (.constantLong R_M 138 (126) : Cond) ∈ wT := wT_4 (k := 73) rfl (by decide +kernel)
theorem ml_L_101 : (.methodLink R_L 101 y_M_wipe : Cond) ∈ wT := wT_4 (k := 74) rfl (by decide +kernel)
theorem im_M_wipe : (.instanceMethod y_M_wipe : Cond) ∈ wT := wT_4 (k := 75) rfl (by decide +kernel)
theorem se_M_wipe : (.selects R_M y_M_wipe y_M_wipe : Cond) ∈ wT := wT_4 (k := 76) rfl (by decide +kernel)
theorem ml_L_105 : (.methodLink R_L 105 y_M_character : Cond) ∈ wT := wT_4 (k := 78) rfl (by decide +kernel)
theorem im_M_character : (.instanceMethod y_M_character : Cond) ∈ wT := wT_4 (k := 79) rfl (by decide +kernel)
theorem se_M_character : (.selects R_M y_M_character y_M_character : Cond) ∈ wT := wT_4 (k := 80) rfl (by decide +kernel)
theorem ml_L_108 : (.methodLink R_L 108 y_M_read : Cond) ∈ wT := wT_4 (k := 82) rfl (by decide +kernel)
theorem im_M_read : (.instanceMethod y_M_read : Cond) ∈ wT := wT_4 (k := 83) rfl (by decide +kernel)
theorem se_M_read : (.selects R_M y_M_read y_M_read : Cond) ∈ wT := wT_4 (k := 84) rfl (by decide +kernel)
theorem ml_M_143 : (.methodLink R_M 143 y_M_endOf : Cond) ∈ wT := wT_4 (k := 86) rfl (by decide +kernel)
theorem im_M_endOf : (.instanceMethod y_M_endOf : Cond) ∈ wT := wT_4 (k := 88) rfl (by decide +kernel)
theorem ml_M_140 : (.methodLink R_M 140 y_M_isDigit : Cond) ∈ wT := wT_4 (k := 90) rfl (by decide +kernel)
theorem im_M_isDigit : (.instanceMethod y_M_isDigit : Cond) ∈ wT := wT_4 (k := 92) rfl (by decide +kernel)
theorem ml_M_146 : (.methodLink R_M 146 y_M_hasMore : Cond) ∈ wT := wT_4 (k := 94) rfl (by decide +kernel)
theorem im_M_hasMore : (.instanceMethod y_M_hasMore : Cond) ∈ wT := wT_4 (k := 96) rfl (by decide +kernel)
theorem ml_M_150 : (.methodLink R_M 150 y_M_tell : Cond) ∈ wT := wT_4 (k := 98) rfl (by decide +kernel)
theorem im_M_tell : (.instanceMethod y_M_tell : Cond) ∈ wT := wT_4 (k := 100) rfl (by decide +kernel)
theorem ml_L_112 : (.methodLink R_L 112 y_M_place : Cond) ∈ wT := wT_4 (k := 102) rfl (by decide +kernel)
theorem im_M_place : (.instanceMethod y_M_place : Cond) ∈ wT := wT_4 (k := 103) rfl (by decide +kernel)
theorem se_M_place : (.selects R_M y_M_place y_M_place : Cond) ∈ wT := wT_4 (k := 104) rfl (by decide +kernel)
theorem cj_L_53 : (.constantLong R_L 53 (4294967295) : Cond) ∈ wT := wT_4 (k := 106) rfl (by decide +kernel)
theorem ac_long : (.arrayClass .long : Cond) ∈ wT := wT_4 (k := 107) rfl (by decide +kernel)
theorem m_K_init : (.code y_K_init b_K_init 2 none : Cond) ∈ wT := wT_1 (k := 20) rfl (by decide +kernel)
theorem m_F_init : (.code y_F_init b_F_init 1 none : Cond) ∈ wT := wT_1 (k := 29) rfl (by decide +kernel)
theorem m_W_init : (.code y_W_init b_W_init 2 none : Cond) ∈ wT := wT_1 (k := 35) rfl (by decide +kernel)
theorem m_JM_max : (.code y_JM_max b_JM_max 2 (some .int) : Cond) ∈ wT := wT_1 (k := 39) rfl (by decide +kernel)
theorem m_W_becomeLong : (.code y_W_becomeLong b_W_becomeLong 3 none : Cond) ∈ wT := wT_1 (k := 53) rfl (by decide +kernel)
theorem m_W_trim : (.code y_W_trim b_W_trim 3 none : Cond) ∈ wT := wT_1 (k := 58) rfl (by decide +kernel)
theorem m_JM_min : (.code y_JM_min b_JM_min 2 (some .int) : Cond) ∈ wT := wT_1 (k := 61) rfl (by decide +kernel)
theorem m_B_init : (.code y_B_init b_B_init 1 none : Cond) ∈ wT := wT_1 (k := 82) rfl (by decide +kernel)
theorem m_D_init : (.code y_D_init b_D_init 1 none : Cond) ∈ wT := wT_1 (k := 90) rfl (by decide +kernel)
theorem m_T_init : (.code y_T_init b_T_init 1 none : Cond) ∈ wT := wT_1 (k := 136) rfl (by decide +kernel)
theorem m_K_type : (.code y_K_type b_K_type 6 (some .int) : Cond) ∈ wT := wT_1 (k := 164) rfl (by decide +kernel)
theorem m_K_byteOf : (.code y_K_byteOf b_K_byteOf 3 (some .int) : Cond) ∈ wT := wT_1 (k := 167) rfl (by decide +kernel)
theorem m_T_put : (.code y_T_put b_T_put 2 none : Cond) ∈ wT := wT_1 (k := 171) rfl (by decide +kernel)
theorem m_K_wipe : (.code y_K_wipe b_K_wipe 2 (some .int) : Cond) ∈ wT := wT_1 (k := 175) rfl (by decide +kernel)
theorem m_K_character : (.code y_K_character b_K_character 2 (some .int) : Cond) ∈ wT := wT_1 (k := 179) rfl (by decide +kernel)
theorem m_T_at : (.code y_T_at b_T_at 2 (some .int) : Cond) ∈ wT := wT_1 (k := 183) rfl (by decide +kernel)
theorem m_K_place : (.code y_K_place b_K_place 1 (some .int) : Cond) ∈ wT := wT_1 (k := 187) rfl (by decide +kernel)
theorem m_L_set : (.codeWith y_L_set b_L_set 7 (some .int) [(0, 8, 11, 13)] : Cond) ∈ wT := wT_1 (k := 190) rfl (by decide +kernel)
theorem m_K_set : (.code y_K_set b_K_set 7 none : Cond) ∈ wT := wT_1 (k := 195) rfl (by decide +kernel)
theorem m_K_register : (.code y_K_register b_K_register 2 (some (.object "FractionDesk$Fraction")) : Cond) ∈ wT := wT_1 (k := 199) rfl (by decide +kernel)
theorem m_B_takeNumbers : (.code y_B_takeNumbers b_B_takeNumbers 5 none : Cond) ∈ wT := wT_2 (k := 31) rfl (by decide +kernel)
theorem m_JM_abs : (.code y_JM_abs b_JM_abs 2 (some .long) : Cond) ∈ wT := wT_2 (k := 34) rfl (by decide +kernel)
theorem m_B_keepReduced : (.code y_B_keepReduced b_B_keepReduced 3 (some .int) : Cond) ∈ wT := wT_2 (k := 39) rfl (by decide +kernel)
theorem m_W_isOne : (.code y_W_isOne b_W_isOne 1 (some .boolean) : Cond) ∈ wT := wT_2 (k := 43) rfl (by decide +kernel)
theorem m_W_become : (.code y_W_become b_W_become 3 none : Cond) ∈ wT := wT_2 (k := 47) rfl (by decide +kernel)
theorem m_D_greatestCommon : (.code y_D_greatestCommon b_D_greatestCommon 8 (some (.object "FractionDesk$Whole")) : Cond) ∈ wT := wT_2 (k := 54) rfl (by decide +kernel)
theorem m_W_compare : (.code y_W_compare b_W_compare 3 (some .int) : Cond) ∈ wT := wT_2 (k := 57) rfl (by decide +kernel)
theorem m_W_isZero : (.code y_W_isZero b_W_isZero 1 (some .boolean) : Cond) ∈ wT := wT_2 (k := 61) rfl (by decide +kernel)
theorem m_D_findLeap : (.code y_D_findLeap b_D_findLeap 17 (some .boolean) : Cond) ∈ wT := wT_2 (k := 65) rfl (by decide +kernel)
theorem m_W_spareBits : (.code y_W_spareBits b_W_spareBits 1 (some .int) : Cond) ∈ wT := wT_2 (k := 69) rfl (by decide +kernel)
theorem m_JI_numberOfLeadingZeros : (.code y_JI_numberOfLeadingZeros b_JI_numberOfLeadingZeros 2 (some .int) : Cond) ∈ wT := wT_2 (k := 72) rfl (by decide +kernel)
theorem m_D_highest : (.code y_D_highest b_D_highest 3 (some .long) : Cond) ∈ wT := wT_2 (k := 76) rfl (by decide +kernel)
theorem m_W_shiftedLimb : (.code y_W_shiftedLimb b_W_shiftedLimb 5 (some .long) : Cond) ∈ wT := wT_2 (k := 80) rfl (by decide +kernel)
theorem m_W_limb : (.code y_W_limb b_W_limb 2 (some .int) : Cond) ∈ wT := wT_2 (k := 84) rfl (by decide +kernel)
theorem m_W_becomeMix : (.code y_W_becomeMix b_W_becomeMix 15 none : Cond) ∈ wT := wT_2 (k := 90) rfl (by decide +kernel)
theorem m_W_leaveRest : (.code y_W_leaveRest b_W_leaveRest 7 none : Cond) ∈ wT := wT_2 (k := 95) rfl (by decide +kernel)
theorem m_W_trialDigit : (.code y_W_trialDigit b_W_trialDigit 18 (some .long) : Cond) ∈ wT := wT_2 (k := 99) rfl (by decide +kernel)
theorem m_W_takeAway : (.code y_W_takeAway b_W_takeAway 11 (some .boolean) : Cond) ∈ wT := wT_2 (k := 105) rfl (by decide +kernel)
theorem m_B_divideOut : (.code y_B_divideOut b_B_divideOut 3 none : Cond) ∈ wT := wT_2 (k := 110) rfl (by decide +kernel)
theorem m_B_keep : (.code y_B_keep b_B_keep 2 (some .int) : Cond) ∈ wT := wT_2 (k := 115) rfl (by decide +kernel)
theorem m_W_isSmallEnough : (.code y_W_isSmallEnough b_W_isSmallEnough 1 (some .boolean) : Cond) ∈ wT := wT_2 (k := 119) rfl (by decide +kernel)
theorem m_W_bits : (.code y_W_bits b_W_bits 1 (some .int) : Cond) ∈ wT := wT_2 (k := 123) rfl (by decide +kernel)
theorem m_L_combine : (.codeWith y_L_combine b_L_combine 7 (some .int) [(0, 14, 17, 13)] : Cond) ∈ wT := wT_2 (k := 127) rfl (by decide +kernel)
theorem m_K_combine : (.code y_K_combine b_K_combine 9 (some .int) : Cond) ∈ wT := wT_2 (k := 131) rfl (by decide +kernel)
theorem m_F_isWhole : (.code y_F_isWhole b_F_isWhole 1 (some .boolean) : Cond) ∈ wT := wT_2 (k := 136) rfl (by decide +kernel)
theorem m_F_signum : (.code y_F_signum b_F_signum 1 (some .int) : Cond) ∈ wT := wT_2 (k := 142) rfl (by decide +kernel)
theorem m_B_add : (.code y_B_add b_B_add 4 none : Cond) ∈ wT := wT_2 (k := 147) rfl (by decide +kernel)
theorem m_B_cross : (.code y_B_cross b_B_cross 3 none : Cond) ∈ wT := wT_2 (k := 151) rfl (by decide +kernel)
theorem m_W_becomeProduct : (.code y_W_becomeProduct b_W_becomeProduct 12 none : Cond) ∈ wT := wT_2 (k := 155) rfl (by decide +kernel)
theorem m_B_multiply : (.code y_B_multiply b_B_multiply 3 none : Cond) ∈ wT := wT_2 (k := 162) rfl (by decide +kernel)
theorem m_B_divide : (.code y_B_divide b_B_divide 3 none : Cond) ∈ wT := wT_2 (k := 166) rfl (by decide +kernel)
theorem m_B_takeParts : (.code y_B_takeParts b_B_takeParts 4 none : Cond) ∈ wT := wT_2 (k := 170) rfl (by decide +kernel)
theorem m_B_compareFractions : (.code y_B_compareFractions b_B_compareFractions 6 (some .int) : Cond) ∈ wT := wT_2 (k := 174) rfl (by decide +kernel)
theorem m_B_take : (.code y_B_take b_B_take 2 none : Cond) ∈ wT := wT_2 (k := 179) rfl (by decide +kernel)
theorem m_B_divideWhole : (.code y_B_divideWhole b_B_divideWhole 3 none : Cond) ∈ wT := wT_2 (k := 184) rfl (by decide +kernel)
theorem m_B_roundRatio : (.code y_B_roundRatio b_B_roundRatio 2 none : Cond) ∈ wT := wT_2 (k := 188) rfl (by decide +kernel)
theorem m_W_timesPlus : (.code y_W_timesPlus b_W_timesPlus 8 none : Cond) ∈ wT := wT_2 (k := 192) rfl (by decide +kernel)
theorem m_B_takeRest : (.code y_B_takeRest b_B_takeRest 3 none : Cond) ∈ wT := wT_2 (k := 196) rfl (by decide +kernel)
theorem m_B_takeCommonDivisor : (.code y_B_takeCommonDivisor b_B_takeCommonDivisor 3 none : Cond) ∈ wT := wT_2 (k := 200) rfl (by decide +kernel)
theorem m_B_takeWhole : (.code y_B_takeWhole b_B_takeWhole 3 none : Cond) ∈ wT := wT_2 (k := 204) rfl (by decide +kernel)
theorem m_L_change : (.codeWith y_L_change b_L_change 6 (some .int) [(0, 12, 15, 13)] : Cond) ∈ wT := wT_2 (k := 207) rfl (by decide +kernel)
theorem m_K_change : (.code y_K_change b_K_change 6 (some .int) : Cond) ∈ wT := wT_2 (k := 211) rfl (by decide +kernel)
theorem m_B_round : (.code y_B_round b_B_round 3 none : Cond) ∈ wT := wT_2 (k := 216) rfl (by decide +kernel)
theorem m_L_power : (.codeWith y_L_power b_L_power 6 (some .int) [(0, 12, 15, 13)] : Cond) ∈ wT := wT_2 (k := 220) rfl (by decide +kernel)
theorem m_K_power : (.code y_K_power b_K_power 6 (some .int) : Cond) ∈ wT := wT_2 (k := 224) rfl (by decide +kernel)
theorem m_B_raise : (.code y_B_raise b_B_raise 4 none : Cond) ∈ wT := wT_2 (k := 229) rfl (by decide +kernel)
theorem m_JM_abs2 : (.code y_JM_abs2 b_JM_abs2 1 (some .int) : Cond) ∈ wT := wT_2 (k := 232) rfl (by decide +kernel)
theorem m_B_raiseWhole : (.code y_B_raiseWhole b_B_raiseWhole 5 none : Cond) ∈ wT := wT_2 (k := 236) rfl (by decide +kernel)
theorem m_B_multiplyWhole : (.code y_B_multiplyWhole b_B_multiplyWhole 3 none : Cond) ∈ wT := wT_3 (k := 0) rfl (by decide +kernel)
theorem m_L_order : (.codeWith y_L_order b_L_order 5 (some .int) [(0, 10, 13, 13)] : Cond) ∈ wT := wT_3 (k := 3) rfl (by decide +kernel)
theorem m_K_order : (.code y_K_order b_K_order 5 (some .int) : Cond) ∈ wT := wT_3 (k := 7) rfl (by decide +kernel)
theorem m_L_sign : (.codeWith y_L_sign b_L_sign 4 (some .int) [(0, 9, 12, 13)] : Cond) ∈ wT := wT_3 (k := 10) rfl (by decide +kernel)
theorem m_K_sign : (.code y_K_sign b_K_sign 2 (some .int) : Cond) ∈ wT := wT_3 (k := 14) rfl (by decide +kernel)
theorem m_L_places : (.codeWith y_L_places b_L_places 5 (some .int) [(0, 10, 13, 13)] : Cond) ∈ wT := wT_3 (k := 17) rfl (by decide +kernel)
theorem m_K_places : (.code y_K_places b_K_places 3 (some .int) : Cond) ∈ wT := wT_3 (k := 21) rfl (by decide +kernel)
theorem m_K_half : (.code y_K_half b_K_half 4 (some (.object "FractionDesk$Whole")) : Cond) ∈ wT := wT_3 (k := 25) rfl (by decide +kernel)
theorem m_L_part : (.codeWith y_L_part b_L_part 6 (some .int) [(0, 11, 14, 13)] : Cond) ∈ wT := wT_3 (k := 30) rfl (by decide +kernel)
theorem m_K_part : (.code y_K_part b_K_part 4 (some .long) : Cond) ∈ wT := wT_3 (k := 34) rfl (by decide +kernel)
theorem m_W_word : (.code y_W_word b_W_word 8 (some .long) : Cond) ∈ wT := wT_3 (k := 38) rfl (by decide +kernel)
theorem m_L_write : (.codeWith y_L_write b_L_write 4 (some .int) [(0, 9, 12, 13)] : Cond) ∈ wT := wT_3 (k := 42) rfl (by decide +kernel)
theorem m_K_write : (.code y_K_write b_K_write 3 (some .int) : Cond) ∈ wT := wT_3 (k := 46) rfl (by decide +kernel)
theorem m_B_copyOf : (.code y_B_copyOf b_B_copyOf 2 (some (.object "FractionDesk$Whole")) : Cond) ∈ wT := wT_3 (k := 50) rfl (by decide +kernel)
theorem m_T_putDecimal : (.code y_T_putDecimal b_T_putDecimal 4 none : Cond) ∈ wT := wT_3 (k := 54) rfl (by decide +kernel)
theorem m_W_divideSmall : (.code y_W_divideSmall b_W_divideSmall 7 (some .int) : Cond) ∈ wT := wT_3 (k := 60) rfl (by decide +kernel)
theorem m_T_putNineBackwards : (.code y_T_putNineBackwards b_T_putNineBackwards 4 none : Cond) ∈ wT := wT_3 (k := 64) rfl (by decide +kernel)
theorem m_T_turnRound : (.code y_T_turnRound b_T_turnRound 6 none : Cond) ∈ wT := wT_3 (k := 69) rfl (by decide +kernel)
theorem m_L_read : (.codeWith y_L_read b_L_read 4 (some .int) [(0, 9, 12, 13), (0, 9, 15, 47)] : Cond) ∈ wT := wT_3 (k := 72) rfl (by decide +kernel)
theorem m_K_read : (.code y_K_read b_K_read 4 (some .int) : Cond) ∈ wT := wT_3 (k := 77) rfl (by decide +kernel)
theorem m_T_wrongAt : (.code y_T_wrongAt b_T_wrongAt 5 (some .int) : Cond) ∈ wT := wT_3 (k := 81) rfl (by decide +kernel)
theorem m_T_firstDigit : (.code y_T_firstDigit b_T_firstDigit 1 (some .int) : Cond) ∈ wT := wT_3 (k := 85) rfl (by decide +kernel)
theorem m_T_digitsEnd : (.code y_T_digitsEnd b_T_digitsEnd 3 (some .int) : Cond) ∈ wT := wT_3 (k := 90) rfl (by decide +kernel)
theorem m_T_isDigit : (.code y_T_isDigit b_T_isDigit 1 (some .boolean) : Cond) ∈ wT := wT_3 (k := 93) rfl (by decide +kernel)
theorem m_T_isAllZeros : (.code y_T_isAllZeros b_T_isAllZeros 4 (some .boolean) : Cond) ∈ wT := wT_3 (k := 97) rfl (by decide +kernel)
theorem m_B_takeText : (.code y_B_takeText b_B_takeText 4 (some .boolean) : Cond) ∈ wT := wT_3 (k := 117) rfl (by decide +kernel)
theorem m_T_tell : (.code y_T_tell b_T_tell 7 (some .boolean) : Cond) ∈ wT := wT_3 (k := 123) rfl (by decide +kernel)
theorem m_M_init : (.code y_M_init b_M_init 2 none : Cond) ∈ wT := wT_3 (k := 130) rfl (by decide +kernel)
theorem m_M_setLong : (.code y_M_setLong b_M_setLong 8 none : Cond) ∈ wT := wT_3 (k := 135) rfl (by decide +kernel)
theorem m_M_trim : (.code y_M_trim b_M_trim 2 none : Cond) ∈ wT := wT_3 (k := 140) rfl (by decide +kernel)
theorem m_M_thrown : (.code y_M_thrown b_M_thrown 1 (some .int) : Cond) ∈ wT := wT_3 (k := 170) rfl (by decide +kernel)
theorem m_M_set : (.code y_M_set b_M_set 6 none : Cond) ∈ wT := wT_3 (k := 174) rfl (by decide +kernel)
theorem m_M_isRegister : (.code y_M_isRegister b_M_isRegister 1 (some .boolean) : Cond) ∈ wT := wT_3 (k := 177) rfl (by decide +kernel)
theorem m_M_lay : (.code y_M_lay b_M_lay 2 (some .int) : Cond) ∈ wT := wT_3 (k := 181) rfl (by decide +kernel)
theorem m_M_common : (.code y_M_common b_M_common 3 none : Cond) ∈ wT := wT_3 (k := 185) rfl (by decide +kernel)
theorem m_M_copy : (.code y_M_copy b_M_copy 4 none : Cond) ∈ wT := wT_3 (k := 189) rfl (by decide +kernel)
theorem m_M_divide : (.code y_M_divide b_M_divide 15 none : Cond) ∈ wT := wT_3 (k := 193) rfl (by decide +kernel)
theorem m_M_compareSizes : (.code y_M_compareSizes b_M_compareSizes 4 (some .int) : Cond) ∈ wT := wT_3 (k := 197) rfl (by decide +kernel)
theorem m_M_scale : (.code y_M_scale b_M_scale 10 none : Cond) ∈ wT := wT_3 (k := 202) rfl (by decide +kernel)
theorem m_M_takes : (.code y_M_takes b_M_takes 12 (some .boolean) : Cond) ∈ wT := wT_3 (k := 207) rfl (by decide +kernel)
theorem m_M_givesBack : (.code y_M_givesBack b_M_givesBack 6 (some .boolean) : Cond) ∈ wT := wT_3 (k := 211) rfl (by decide +kernel)
theorem m_M_below : (.code y_M_below b_M_below 1 (some .int) : Cond) ∈ wT := wT_3 (k := 214) rfl (by decide +kernel)
theorem m_M_combine : (.code y_M_combine b_M_combine 7 (some .int) : Cond) ∈ wT := wT_3 (k := 218) rfl (by decide +kernel)
theorem m_M_isOne : (.code y_M_isOne b_M_isOne 2 (some .boolean) : Cond) ∈ wT := wT_3 (k := 222) rfl (by decide +kernel)
theorem m_M_times : (.code y_M_times b_M_times 11 none : Cond) ∈ wT := wT_3 (k := 226) rfl (by decide +kernel)
theorem m_M_join : (.code y_M_join b_M_join 7 none : Cond) ∈ wT := wT_3 (k := 230) rfl (by decide +kernel)
theorem m_M_addSizes : (.code y_M_addSizes b_M_addSizes 8 none : Cond) ∈ wT := wT_3 (k := 234) rfl (by decide +kernel)
theorem m_M_takeSizes : (.code y_M_takeSizes b_M_takeSizes 8 none : Cond) ∈ wT := wT_3 (k := 238) rfl (by decide +kernel)
theorem m_M_compare : (.code y_M_compare b_M_compare 3 (some .int) : Cond) ∈ wT := wT_4 (k := 2) rfl (by decide +kernel)
theorem m_M_take : (.code y_M_take b_M_take 3 (some .int) : Cond) ∈ wT := wT_4 (k := 6) rfl (by decide +kernel)
theorem m_M_wholeQuotient : (.code y_M_wholeQuotient b_M_wholeQuotient 3 none : Cond) ∈ wT := wT_4 (k := 10) rfl (by decide +kernel)
theorem m_M_floor : (.code y_M_floor b_M_floor 3 none : Cond) ∈ wT := wT_4 (k := 14) rfl (by decide +kernel)
theorem m_M_rest : (.code y_M_rest b_M_rest 4 (some .int) : Cond) ∈ wT := wT_4 (k := 18) rfl (by decide +kernel)
theorem m_M_change : (.code y_M_change b_M_change 4 (some .int) : Cond) ∈ wT := wT_4 (k := 22) rfl (by decide +kernel)
theorem m_M_power : (.code y_M_power b_M_power 5 (some .int) : Cond) ∈ wT := wT_4 (k := 26) rfl (by decide +kernel)
theorem m_M_raise : (.code y_M_raise b_M_raise 5 (some .boolean) : Cond) ∈ wT := wT_4 (k := 30) rfl (by decide +kernel)
theorem m_M_order : (.code y_M_order b_M_order 3 (some .int) : Cond) ∈ wT := wT_4 (k := 34) rfl (by decide +kernel)
theorem m_M_sign : (.code y_M_sign b_M_sign 2 (some .int) : Cond) ∈ wT := wT_4 (k := 38) rfl (by decide +kernel)
theorem m_M_places : (.code y_M_places b_M_places 6 (some .int) : Cond) ∈ wT := wT_4 (k := 42) rfl (by decide +kernel)
theorem m_M_look : (.code y_M_look b_M_look 3 none : Cond) ∈ wT := wT_4 (k := 46) rfl (by decide +kernel)
theorem m_M_part : (.code y_M_part b_M_part 5 (some .long) : Cond) ∈ wT := wT_4 (k := 50) rfl (by decide +kernel)
theorem m_M_partAt : (.code y_M_partAt b_M_partAt 3 (some .long) : Cond) ∈ wT := wT_4 (k := 54) rfl (by decide +kernel)
theorem m_M_write : (.code y_M_write b_M_write 2 (some .int) : Cond) ∈ wT := wT_4 (k := 58) rfl (by decide +kernel)
theorem m_M_print : (.code y_M_print b_M_print 2 none : Cond) ∈ wT := wT_4 (k := 62) rfl (by decide +kernel)
theorem m_M_printDigits : (.code y_M_printDigits b_M_printDigits 6 none : Cond) ∈ wT := wT_4 (k := 66) rfl (by decide +kernel)
theorem m_M_type : (.code y_M_type b_M_type 8 (some .int) : Cond) ∈ wT := wT_4 (k := 70) rfl (by decide +kernel)
theorem m_M_wipe : (.code y_M_wipe b_M_wipe 2 (some .int) : Cond) ∈ wT := wT_4 (k := 77) rfl (by decide +kernel)
theorem m_M_character : (.code y_M_character b_M_character 2 (some .int) : Cond) ∈ wT := wT_4 (k := 81) rfl (by decide +kernel)
theorem m_M_read : (.code y_M_read b_M_read 7 (some .int) : Cond) ∈ wT := wT_4 (k := 85) rfl (by decide +kernel)
theorem m_M_endOf : (.code y_M_endOf b_M_endOf 3 (some .int) : Cond) ∈ wT := wT_4 (k := 89) rfl (by decide +kernel)
theorem m_M_isDigit : (.code y_M_isDigit b_M_isDigit 2 (some .boolean) : Cond) ∈ wT := wT_4 (k := 93) rfl (by decide +kernel)
theorem m_M_hasMore : (.code y_M_hasMore b_M_hasMore 5 (some .boolean) : Cond) ∈ wT := wT_4 (k := 97) rfl (by decide +kernel)
theorem m_M_tell : (.code y_M_tell b_M_tell 8 (some .boolean) : Cond) ∈ wT := wT_4 (k := 101) rfl (by decide +kernel)
theorem m_M_place : (.code y_M_place b_M_place 1 (some .int) : Cond) ∈ wT := wT_4 (k := 105) rfl (by decide +kernel)
theorem i_W : ∀ w ∈ u_ws R_W T_W 2, w ∈ wT := by
  intro w hw
  obtain ⟨k, hk, rfl⟩ := List.mem_map.mp hw
  have hk : k < 2 := List.mem_range.mp hk
  match k, hk with
  | 0, _ => exact wT_1 (k := 44) rfl (by decide +kernel)
  | 1, _ => exact wT_1 (k := 46) rfl (by decide +kernel)
  | k + 2, h => exact absurd h (by omega)
theorem i_F : ∀ w ∈ u_ws R_F T_F 3, w ∈ wT := by
  intro w hw
  obtain ⟨k, hk, rfl⟩ := List.mem_map.mp hw
  have hk : k < 3 := List.mem_range.mp hk
  match k, hk with
  | 0, _ => exact wT_1 (k := 71) rfl (by decide +kernel)
  | 1, _ => exact wT_1 (k := 73) rfl (by decide +kernel)
  | 2, _ => exact wT_1 (k := 75) rfl (by decide +kernel)
  | k + 3, h => exact absurd h (by omega)
theorem i_T : ∀ w ∈ u_ws R_T T_T 2, w ∈ wT := by
  intro w hw
  obtain ⟨k, hk, rfl⟩ := List.mem_map.mp hw
  have hk : k < 2 := List.mem_range.mp hk
  match k, hk with
  | 0, _ => exact wT_1 (k := 142) rfl (by decide +kernel)
  | 1, _ => exact wT_1 (k := 144) rfl (by decide +kernel)
  | k + 2, h => exact absurd h (by omega)
theorem i_D : ∀ w ∈ u_ws R_D T_D 5, w ∈ wT := by
  intro w hw
  obtain ⟨k, hk, rfl⟩ := List.mem_map.mp hw
  have hk : k < 5 := List.mem_range.mp hk
  match k, hk with
  | 0, _ => exact wT_1 (k := 99) rfl (by decide +kernel)
  | 1, _ => exact wT_1 (k := 101) rfl (by decide +kernel)
  | 2, _ => exact wT_1 (k := 103) rfl (by decide +kernel)
  | 3, _ => exact wT_1 (k := 105) rfl (by decide +kernel)
  | 4, _ => exact wT_1 (k := 107) rfl (by decide +kernel)
  | k + 5, h => exact absurd h (by omega)
theorem i_B : ∀ w ∈ u_ws R_B T_B 7, w ∈ wT := by
  intro w hw
  obtain ⟨k, hk, rfl⟩ := List.mem_map.mp hw
  have hk : k < 7 := List.mem_range.mp hk
  match k, hk with
  | 0, _ => exact wT_1 (k := 117) rfl (by decide +kernel)
  | 1, _ => exact wT_1 (k := 119) rfl (by decide +kernel)
  | 2, _ => exact wT_1 (k := 121) rfl (by decide +kernel)
  | 3, _ => exact wT_1 (k := 123) rfl (by decide +kernel)
  | 4, _ => exact wT_1 (k := 125) rfl (by decide +kernel)
  | 5, _ => exact wT_1 (k := 127) rfl (by decide +kernel)
  | 6, _ => exact wT_1 (k := 129) rfl (by decide +kernel)
  | k + 7, h => exact absurd h (by omega)
theorem i_K : ∀ w ∈ u_ws R_K T_K 4, w ∈ wT := by
  intro w hw
  obtain ⟨k, hk, rfl⟩ := List.mem_map.mp hw
  have hk : k < 4 := List.mem_range.mp hk
  match k, hk with
  | 0, _ => exact wT_1 (k := 152) rfl (by decide +kernel)
  | 1, _ => exact wT_1 (k := 154) rfl (by decide +kernel)
  | 2, _ => exact wT_1 (k := 156) rfl (by decide +kernel)
  | 3, _ => exact wT_1 (k := 158) rfl (by decide +kernel)
  | k + 4, h => exact absurd h (by omega)
theorem i_M : ∀ w ∈ u_ws R_M T_M 8, w ∈ wT := by
  intro w hw
  obtain ⟨k, hk, rfl⟩ := List.mem_map.mp hw
  have hk : k < 8 := List.mem_range.mp hk
  match k, hk with
  | 0, _ => exact wT_3 (k := 149) rfl (by decide +kernel)
  | 1, _ => exact wT_3 (k := 151) rfl (by decide +kernel)
  | 2, _ => exact wT_3 (k := 153) rfl (by decide +kernel)
  | 3, _ => exact wT_3 (k := 155) rfl (by decide +kernel)
  | 4, _ => exact wT_3 (k := 157) rfl (by decide +kernel)
  | 5, _ => exact wT_3 (k := 159) rfl (by decide +kernel)
  | 6, _ => exact wT_3 (k := 161) rfl (by decide +kernel)
  | 7, _ => exact wT_3 (k := 163) rfl (by decide +kernel)
  | k + 8, h => exact absurd h (by omega)
theorem se_K_register : (.selects R_K y_K_register y_K_register : Cond) ∈ wT := wT_p (k := 0) rfl (by decide +kernel)
theorem se_D_findLeap : (.selects R_D y_D_findLeap y_D_findLeap : Cond) ∈ wT := wT_p (k := 2) rfl (by decide +kernel)
theorem se_W_trialDigit : (.selects R_W y_W_trialDigit y_W_trialDigit : Cond) ∈ wT := wT_p (k := 3) rfl (by decide +kernel)
theorem se_W_takeAway : (.selects R_W y_W_takeAway y_W_takeAway : Cond) ∈ wT := wT_p (k := 4) rfl (by decide +kernel)
theorem se_B_divideOut : (.selects R_B y_B_divideOut y_B_divideOut : Cond) ∈ wT := wT_p (k := 5) rfl (by decide +kernel)
theorem se_B_cross : (.selects R_B y_B_cross y_B_cross : Cond) ∈ wT := wT_p (k := 6) rfl (by decide +kernel)
theorem se_B_roundRatio : (.selects R_B y_B_roundRatio y_B_roundRatio : Cond) ∈ wT := wT_p (k := 7) rfl (by decide +kernel)
theorem se_B_raiseWhole : (.selects R_B y_B_raiseWhole y_B_raiseWhole : Cond) ∈ wT := wT_p (k := 8) rfl (by decide +kernel)
theorem se_B_multiplyWhole : (.selects R_B y_B_multiplyWhole y_B_multiplyWhole : Cond) ∈ wT := wT_p (k := 9) rfl (by decide +kernel)
theorem se_K_half : (.selects R_K y_K_half y_K_half : Cond) ∈ wT := wT_p (k := 10) rfl (by decide +kernel)
theorem se_T_putNineBackwards : (.selects R_T y_T_putNineBackwards y_T_putNineBackwards : Cond) ∈ wT := wT_p (k := 11) rfl (by decide +kernel)
theorem se_T_turnRound : (.selects R_T y_T_turnRound y_T_turnRound : Cond) ∈ wT := wT_p (k := 12) rfl (by decide +kernel)
theorem se_T_isAllZeros : (.selects R_T y_T_isAllZeros y_T_isAllZeros : Cond) ∈ wT := wT_p (k := 13) rfl (by decide +kernel)
theorem se_M_setLong : (.selects R_M y_M_setLong y_M_setLong : Cond) ∈ wT := wT_p (k := 14) rfl (by decide +kernel)
theorem se_M_trim : (.selects R_M y_M_trim y_M_trim : Cond) ∈ wT := wT_p (k := 15) rfl (by decide +kernel)
theorem se_M_lay : (.selects R_M y_M_lay y_M_lay : Cond) ∈ wT := wT_p (k := 16) rfl (by decide +kernel)
theorem se_M_common : (.selects R_M y_M_common y_M_common : Cond) ∈ wT := wT_p (k := 17) rfl (by decide +kernel)
theorem se_M_copy : (.selects R_M y_M_copy y_M_copy : Cond) ∈ wT := wT_p (k := 18) rfl (by decide +kernel)
theorem se_M_divide : (.selects R_M y_M_divide y_M_divide : Cond) ∈ wT := wT_p (k := 19) rfl (by decide +kernel)
theorem se_M_compareSizes : (.selects R_M y_M_compareSizes y_M_compareSizes : Cond) ∈ wT := wT_p (k := 20) rfl (by decide +kernel)
theorem se_M_scale : (.selects R_M y_M_scale y_M_scale : Cond) ∈ wT := wT_p (k := 21) rfl (by decide +kernel)
theorem se_M_takes : (.selects R_M y_M_takes y_M_takes : Cond) ∈ wT := wT_p (k := 22) rfl (by decide +kernel)
theorem se_M_givesBack : (.selects R_M y_M_givesBack y_M_givesBack : Cond) ∈ wT := wT_p (k := 23) rfl (by decide +kernel)
theorem se_M_isOne : (.selects R_M y_M_isOne y_M_isOne : Cond) ∈ wT := wT_p (k := 24) rfl (by decide +kernel)
theorem se_M_times : (.selects R_M y_M_times y_M_times : Cond) ∈ wT := wT_p (k := 25) rfl (by decide +kernel)
theorem se_M_join : (.selects R_M y_M_join y_M_join : Cond) ∈ wT := wT_p (k := 26) rfl (by decide +kernel)
theorem se_M_addSizes : (.selects R_M y_M_addSizes y_M_addSizes : Cond) ∈ wT := wT_p (k := 27) rfl (by decide +kernel)
theorem se_M_takeSizes : (.selects R_M y_M_takeSizes y_M_takeSizes : Cond) ∈ wT := wT_p (k := 28) rfl (by decide +kernel)
theorem se_M_compare : (.selects R_M y_M_compare y_M_compare : Cond) ∈ wT := wT_p (k := 29) rfl (by decide +kernel)
theorem se_M_take : (.selects R_M y_M_take y_M_take : Cond) ∈ wT := wT_p (k := 30) rfl (by decide +kernel)
theorem se_M_wholeQuotient : (.selects R_M y_M_wholeQuotient y_M_wholeQuotient : Cond) ∈ wT := wT_p (k := 31) rfl (by decide +kernel)
theorem se_M_floor : (.selects R_M y_M_floor y_M_floor : Cond) ∈ wT := wT_p (k := 32) rfl (by decide +kernel)
theorem se_M_rest : (.selects R_M y_M_rest y_M_rest : Cond) ∈ wT := wT_p (k := 33) rfl (by decide +kernel)
theorem se_M_raise : (.selects R_M y_M_raise y_M_raise : Cond) ∈ wT := wT_p (k := 34) rfl (by decide +kernel)
theorem se_M_look : (.selects R_M y_M_look y_M_look : Cond) ∈ wT := wT_p (k := 35) rfl (by decide +kernel)
theorem se_M_partAt : (.selects R_M y_M_partAt y_M_partAt : Cond) ∈ wT := wT_p (k := 36) rfl (by decide +kernel)
theorem se_M_print : (.selects R_M y_M_print y_M_print : Cond) ∈ wT := wT_p (k := 37) rfl (by decide +kernel)
theorem se_M_printDigits : (.selects R_M y_M_printDigits y_M_printDigits : Cond) ∈ wT := wT_p (k := 38) rfl (by decide +kernel)
theorem se_M_endOf : (.selects R_M y_M_endOf y_M_endOf : Cond) ∈ wT := wT_p (k := 39) rfl (by decide +kernel)
theorem se_M_isDigit : (.selects R_M y_M_isDigit y_M_isDigit : Cond) ∈ wT := wT_p (k := 40) rfl (by decide +kernel)
theorem se_M_hasMore : (.selects R_M y_M_hasMore y_M_hasMore : Cond) ∈ wT := wT_p (k := 41) rfl (by decide +kernel)
theorem se_M_tell : (.selects R_M y_M_tell y_M_tell : Cond) ∈ wT := wT_p (k := 42) rfl (by decide +kernel)
end
section
/-! the instructions, by program -/
theorem d_K_init_0 : decode b_K_init 0 = .ok (.aload_n 0, 1) := by decide +kernel
theorem d_K_init_1 : decode b_K_init 1 = .ok (.invokespecial 1, 3) := by decide +kernel
theorem d_K_init_4 : decode b_K_init 4 = .ok (.aload_n 0, 1) := by decide +kernel
theorem d_K_init_5 : decode b_K_init 5 = .ok (.bipush 16, 2) := by decide +kernel
theorem d_K_init_7 : decode b_K_init 7 = .ok (.anewarray 9, 3) := by decide +kernel
theorem d_K_init_10 : decode b_K_init 10 = .ok (.putfield 11, 3) := by decide +kernel
theorem d_K_init_13 : decode b_K_init 13 = .ok (.iconst 0, 1) := by decide +kernel
theorem d_K_init_14 : decode b_K_init 14 = .ok (.istore_n 1, 1) := by decide +kernel
theorem d_K_init_15 : decode b_K_init 15 = .ok (.iload_n 1, 1) := by decide +kernel
theorem d_K_init_16 : decode b_K_init 16 = .ok (.bipush 16, 2) := by decide +kernel
theorem d_K_init_18 : decode b_K_init 18 = .ok (.if_icmp .ge 22, 3) := by decide +kernel
theorem d_K_init_21 : decode b_K_init 21 = .ok (.aload_n 0, 1) := by decide +kernel
theorem d_K_init_22 : decode b_K_init 22 = .ok (.getfield 11, 3) := by decide +kernel
theorem d_K_init_25 : decode b_K_init 25 = .ok (.iload_n 1, 1) := by decide +kernel
theorem d_K_init_26 : decode b_K_init 26 = .ok (.new 9, 3) := by decide +kernel
theorem d_K_init_29 : decode b_K_init 29 = .ok (.dup, 1) := by decide +kernel
theorem d_K_init_30 : decode b_K_init 30 = .ok (.invokespecial 15, 3) := by decide +kernel
theorem d_K_init_33 : decode b_K_init 33 = .ok (.aastore, 1) := by decide +kernel
theorem d_K_init_34 : decode b_K_init 34 = .ok (.iinc 1 1, 3) := by decide +kernel
theorem d_K_init_37 : decode b_K_init 37 = .ok (.goto (-22), 3) := by decide +kernel
theorem d_K_init_40 : decode b_K_init 40 = .ok (.aload_n 0, 1) := by decide +kernel
theorem d_K_init_41 : decode b_K_init 41 = .ok (.new 16, 3) := by decide +kernel
theorem d_K_init_44 : decode b_K_init 44 = .ok (.dup, 1) := by decide +kernel
theorem d_K_init_45 : decode b_K_init 45 = .ok (.invokespecial 18, 3) := by decide +kernel
theorem d_K_init_48 : decode b_K_init 48 = .ok (.putfield 19, 3) := by decide +kernel
theorem d_K_init_51 : decode b_K_init 51 = .ok (.aload_n 0, 1) := by decide +kernel
theorem d_K_init_52 : decode b_K_init 52 = .ok (.new 23, 3) := by decide +kernel
theorem d_K_init_55 : decode b_K_init 55 = .ok (.dup, 1) := by decide +kernel
theorem d_K_init_56 : decode b_K_init 56 = .ok (.invokespecial 25, 3) := by decide +kernel
theorem d_K_init_59 : decode b_K_init 59 = .ok (.putfield 26, 3) := by decide +kernel
theorem d_K_init_62 : decode b_K_init 62 = .ok (.aload_n 0, 1) := by decide +kernel
theorem d_K_init_63 : decode b_K_init 63 = .ok (.iconst (-1), 1) := by decide +kernel
theorem d_K_init_64 : decode b_K_init 64 = .ok (.putfield 30, 3) := by decide +kernel
theorem d_K_init_67 : decode b_K_init 67 = .ok (.return_, 1) := by decide +kernel
theorem d_F_init_0 : decode b_F_init 0 = .ok (.aload_n 0, 1) := by decide +kernel
theorem d_F_init_1 : decode b_F_init 1 = .ok (.invokespecial 1, 3) := by decide +kernel
theorem d_F_init_4 : decode b_F_init 4 = .ok (.aload_n 0, 1) := by decide +kernel
theorem d_F_init_5 : decode b_F_init 5 = .ok (.new 7, 3) := by decide +kernel
theorem d_F_init_8 : decode b_F_init 8 = .ok (.dup, 1) := by decide +kernel
theorem d_F_init_9 : decode b_F_init 9 = .ok (.bipush 67, 2) := by decide +kernel
theorem d_F_init_11 : decode b_F_init 11 = .ok (.invokespecial 11, 3) := by decide +kernel
theorem d_F_init_14 : decode b_F_init 14 = .ok (.putfield 14, 3) := by decide +kernel
theorem d_F_init_17 : decode b_F_init 17 = .ok (.aload_n 0, 1) := by decide +kernel
theorem d_F_init_18 : decode b_F_init 18 = .ok (.new 7, 3) := by decide +kernel
theorem d_F_init_21 : decode b_F_init 21 = .ok (.dup, 1) := by decide +kernel
theorem d_F_init_22 : decode b_F_init 22 = .ok (.bipush 67, 2) := by decide +kernel
theorem d_F_init_24 : decode b_F_init 24 = .ok (.invokespecial 11, 3) := by decide +kernel
theorem d_F_init_27 : decode b_F_init 27 = .ok (.putfield 18, 3) := by decide +kernel
theorem d_F_init_30 : decode b_F_init 30 = .ok (.aload_n 0, 1) := by decide +kernel
theorem d_F_init_31 : decode b_F_init 31 = .ok (.getfield 18, 3) := by decide +kernel
theorem d_F_init_34 : decode b_F_init 34 = .ok (.lconst 1, 1) := by decide +kernel
theorem d_F_init_35 : decode b_F_init 35 = .ok (.invokevirtual 21, 3) := by decide +kernel
theorem d_F_init_38 : decode b_F_init 38 = .ok (.aload_n 0, 1) := by decide +kernel
theorem d_F_init_39 : decode b_F_init 39 = .ok (.iconst 0, 1) := by decide +kernel
theorem d_F_init_40 : decode b_F_init 40 = .ok (.putfield 25, 3) := by decide +kernel
theorem d_F_init_43 : decode b_F_init 43 = .ok (.return_, 1) := by decide +kernel
theorem d_W_init_0 : decode b_W_init 0 = .ok (.aload_n 0, 1) := by decide +kernel
theorem d_W_init_1 : decode b_W_init 1 = .ok (.invokespecial 3, 3) := by decide +kernel
theorem d_W_init_4 : decode b_W_init 4 = .ok (.aload_n 0, 1) := by decide +kernel
theorem d_W_init_5 : decode b_W_init 5 = .ok (.iload_n 1, 1) := by decide +kernel
theorem d_W_init_6 : decode b_W_init 6 = .ok (.iconst 3, 1) := by decide +kernel
theorem d_W_init_7 : decode b_W_init 7 = .ok (.invokestatic 11, 3) := by decide +kernel
theorem d_W_init_10 : decode b_W_init 10 = .ok (.newarray .int, 2) := by decide +kernel
theorem d_W_init_12 : decode b_W_init 12 = .ok (.putfield 17, 3) := by decide +kernel
theorem d_W_init_15 : decode b_W_init 15 = .ok (.aload_n 0, 1) := by decide +kernel
theorem d_W_init_16 : decode b_W_init 16 = .ok (.iconst 0, 1) := by decide +kernel
theorem d_W_init_17 : decode b_W_init 17 = .ok (.putfield 21, 3) := by decide +kernel
theorem d_W_init_20 : decode b_W_init 20 = .ok (.return_, 1) := by decide +kernel
theorem d_JM_max_0 : decode b_JM_max 0 = .ok (.iload_n 0, 1) := by decide +kernel
theorem d_JM_max_1 : decode b_JM_max 1 = .ok (.iload_n 1, 1) := by decide +kernel
theorem d_JM_max_2 : decode b_JM_max 2 = .ok (.if_icmp .lt 7, 3) := by decide +kernel
theorem d_JM_max_5 : decode b_JM_max 5 = .ok (.iload_n 0, 1) := by decide +kernel
theorem d_JM_max_6 : decode b_JM_max 6 = .ok (.goto 4, 3) := by decide +kernel
theorem d_JM_max_9 : decode b_JM_max 9 = .ok (.iload_n 1, 1) := by decide +kernel
theorem d_JM_max_10 : decode b_JM_max 10 = .ok (.ireturn, 1) := by decide +kernel
theorem d_W_becomeLong_0 : decode b_W_becomeLong 0 = .ok (.aload_n 0, 1) := by decide +kernel
theorem d_W_becomeLong_1 : decode b_W_becomeLong 1 = .ok (.getfield 17, 3) := by decide +kernel
theorem d_W_becomeLong_4 : decode b_W_becomeLong 4 = .ok (.iconst 0, 1) := by decide +kernel
theorem d_W_becomeLong_5 : decode b_W_becomeLong 5 = .ok (.lload_n 1, 1) := by decide +kernel
theorem d_W_becomeLong_6 : decode b_W_becomeLong 6 = .ok (.ldc2_w 43, 3) := by decide +kernel
theorem d_W_becomeLong_9 : decode b_W_becomeLong 9 = .ok (.land, 1) := by decide +kernel
theorem d_W_becomeLong_10 : decode b_W_becomeLong 10 = .ok (.l2i, 1) := by decide +kernel
theorem d_W_becomeLong_11 : decode b_W_becomeLong 11 = .ok (.iastore, 1) := by decide +kernel
theorem d_W_becomeLong_12 : decode b_W_becomeLong 12 = .ok (.aload_n 0, 1) := by decide +kernel
theorem d_W_becomeLong_13 : decode b_W_becomeLong 13 = .ok (.getfield 17, 3) := by decide +kernel
theorem d_W_becomeLong_16 : decode b_W_becomeLong 16 = .ok (.iconst 1, 1) := by decide +kernel
theorem d_W_becomeLong_17 : decode b_W_becomeLong 17 = .ok (.lload_n 1, 1) := by decide +kernel
theorem d_W_becomeLong_18 : decode b_W_becomeLong 18 = .ok (.bipush 31, 2) := by decide +kernel
theorem d_W_becomeLong_20 : decode b_W_becomeLong 20 = .ok (.lushr, 1) := by decide +kernel
theorem d_W_becomeLong_21 : decode b_W_becomeLong 21 = .ok (.ldc2_w 43, 3) := by decide +kernel
theorem d_W_becomeLong_24 : decode b_W_becomeLong 24 = .ok (.land, 1) := by decide +kernel
theorem d_W_becomeLong_25 : decode b_W_becomeLong 25 = .ok (.l2i, 1) := by decide +kernel
theorem d_W_becomeLong_26 : decode b_W_becomeLong 26 = .ok (.iastore, 1) := by decide +kernel
theorem d_W_becomeLong_27 : decode b_W_becomeLong 27 = .ok (.aload_n 0, 1) := by decide +kernel
theorem d_W_becomeLong_28 : decode b_W_becomeLong 28 = .ok (.getfield 17, 3) := by decide +kernel
theorem d_W_becomeLong_31 : decode b_W_becomeLong 31 = .ok (.iconst 2, 1) := by decide +kernel
theorem d_W_becomeLong_32 : decode b_W_becomeLong 32 = .ok (.lload_n 1, 1) := by decide +kernel
theorem d_W_becomeLong_33 : decode b_W_becomeLong 33 = .ok (.bipush 62, 2) := by decide +kernel
theorem d_W_becomeLong_35 : decode b_W_becomeLong 35 = .ok (.lushr, 1) := by decide +kernel
theorem d_W_becomeLong_36 : decode b_W_becomeLong 36 = .ok (.l2i, 1) := by decide +kernel
theorem d_W_becomeLong_37 : decode b_W_becomeLong 37 = .ok (.iastore, 1) := by decide +kernel
theorem d_W_becomeLong_38 : decode b_W_becomeLong 38 = .ok (.aload_n 0, 1) := by decide +kernel
theorem d_W_becomeLong_39 : decode b_W_becomeLong 39 = .ok (.iconst 3, 1) := by decide +kernel
theorem d_W_becomeLong_40 : decode b_W_becomeLong 40 = .ok (.invokevirtual 48, 3) := by decide +kernel
theorem d_W_becomeLong_43 : decode b_W_becomeLong 43 = .ok (.return_, 1) := by decide +kernel
theorem d_W_trim_0 : decode b_W_trim 0 = .ok (.iload_n 1, 1) := by decide +kernel
theorem d_W_trim_1 : decode b_W_trim 1 = .ok (.aload_n 0, 1) := by decide +kernel
theorem d_W_trim_2 : decode b_W_trim 2 = .ok (.getfield 17, 3) := by decide +kernel
theorem d_W_trim_5 : decode b_W_trim 5 = .ok (.arraylength, 1) := by decide +kernel
theorem d_W_trim_6 : decode b_W_trim 6 = .ok (.invokestatic 45, 3) := by decide +kernel
theorem d_W_trim_9 : decode b_W_trim 9 = .ok (.istore_n 2, 1) := by decide +kernel
theorem d_W_trim_10 : decode b_W_trim 10 = .ok (.iload_n 2, 1) := by decide +kernel
theorem d_W_trim_11 : decode b_W_trim 11 = .ok (.ifCond .le 20, 3) := by decide +kernel
theorem d_W_trim_14 : decode b_W_trim 14 = .ok (.aload_n 0, 1) := by decide +kernel
theorem d_W_trim_15 : decode b_W_trim 15 = .ok (.getfield 17, 3) := by decide +kernel
theorem d_W_trim_18 : decode b_W_trim 18 = .ok (.iload_n 2, 1) := by decide +kernel
theorem d_W_trim_19 : decode b_W_trim 19 = .ok (.iconst 1, 1) := by decide +kernel
theorem d_W_trim_20 : decode b_W_trim 20 = .ok (.isub, 1) := by decide +kernel
theorem d_W_trim_21 : decode b_W_trim 21 = .ok (.iaload, 1) := by decide +kernel
theorem d_W_trim_22 : decode b_W_trim 22 = .ok (.ifCond .ne 9, 3) := by decide +kernel
theorem d_W_trim_25 : decode b_W_trim 25 = .ok (.iinc 2 (-1), 3) := by decide +kernel
theorem d_W_trim_28 : decode b_W_trim 28 = .ok (.goto (-18), 3) := by decide +kernel
theorem d_W_trim_31 : decode b_W_trim 31 = .ok (.aload_n 0, 1) := by decide +kernel
theorem d_W_trim_32 : decode b_W_trim 32 = .ok (.iload_n 2, 1) := by decide +kernel
theorem d_W_trim_33 : decode b_W_trim 33 = .ok (.iconst 0, 1) := by decide +kernel
theorem d_W_trim_34 : decode b_W_trim 34 = .ok (.invokestatic 11, 3) := by decide +kernel
theorem d_W_trim_37 : decode b_W_trim 37 = .ok (.putfield 21, 3) := by decide +kernel
theorem d_W_trim_40 : decode b_W_trim 40 = .ok (.return_, 1) := by decide +kernel
theorem d_JM_min_0 : decode b_JM_min 0 = .ok (.iload_n 0, 1) := by decide +kernel
theorem d_JM_min_1 : decode b_JM_min 1 = .ok (.iload_n 1, 1) := by decide +kernel
theorem d_JM_min_2 : decode b_JM_min 2 = .ok (.if_icmp .gt 7, 3) := by decide +kernel
theorem d_JM_min_5 : decode b_JM_min 5 = .ok (.iload_n 0, 1) := by decide +kernel
theorem d_JM_min_6 : decode b_JM_min 6 = .ok (.goto 4, 3) := by decide +kernel
theorem d_JM_min_9 : decode b_JM_min 9 = .ok (.iload_n 1, 1) := by decide +kernel
theorem d_JM_min_10 : decode b_JM_min 10 = .ok (.ireturn, 1) := by decide +kernel
theorem d_B_init_0 : decode b_B_init 0 = .ok (.aload_n 0, 1) := by decide +kernel
theorem d_B_init_1 : decode b_B_init 1 = .ok (.invokespecial 3, 3) := by decide +kernel
theorem d_B_init_4 : decode b_B_init 4 = .ok (.aload_n 0, 1) := by decide +kernel
theorem d_B_init_5 : decode b_B_init 5 = .ok (.new 9, 3) := by decide +kernel
theorem d_B_init_8 : decode b_B_init 8 = .ok (.dup, 1) := by decide +kernel
theorem d_B_init_9 : decode b_B_init 9 = .ok (.sipush 136, 3) := by decide +kernel
theorem d_B_init_12 : decode b_B_init 12 = .ok (.invokespecial 13, 3) := by decide +kernel
theorem d_B_init_15 : decode b_B_init 15 = .ok (.putfield 16, 3) := by decide +kernel
theorem d_B_init_18 : decode b_B_init 18 = .ok (.aload_n 0, 1) := by decide +kernel
theorem d_B_init_19 : decode b_B_init 19 = .ok (.new 9, 3) := by decide +kernel
theorem d_B_init_22 : decode b_B_init 22 = .ok (.dup, 1) := by decide +kernel
theorem d_B_init_23 : decode b_B_init 23 = .ok (.sipush 136, 3) := by decide +kernel
theorem d_B_init_26 : decode b_B_init 26 = .ok (.invokespecial 13, 3) := by decide +kernel
theorem d_B_init_29 : decode b_B_init 29 = .ok (.putfield 20, 3) := by decide +kernel
theorem d_B_init_32 : decode b_B_init 32 = .ok (.aload_n 0, 1) := by decide +kernel
theorem d_B_init_33 : decode b_B_init 33 = .ok (.new 9, 3) := by decide +kernel
theorem d_B_init_36 : decode b_B_init 36 = .ok (.dup, 1) := by decide +kernel
theorem d_B_init_37 : decode b_B_init 37 = .ok (.sipush 136, 3) := by decide +kernel
theorem d_B_init_40 : decode b_B_init 40 = .ok (.invokespecial 13, 3) := by decide +kernel
theorem d_B_init_43 : decode b_B_init 43 = .ok (.putfield 23, 3) := by decide +kernel
theorem d_B_init_46 : decode b_B_init 46 = .ok (.aload_n 0, 1) := by decide +kernel
theorem d_B_init_47 : decode b_B_init 47 = .ok (.new 9, 3) := by decide +kernel
theorem d_B_init_50 : decode b_B_init 50 = .ok (.dup, 1) := by decide +kernel
theorem d_B_init_51 : decode b_B_init 51 = .ok (.sipush 136, 3) := by decide +kernel
theorem d_B_init_54 : decode b_B_init 54 = .ok (.invokespecial 13, 3) := by decide +kernel
theorem d_B_init_57 : decode b_B_init 57 = .ok (.putfield 26, 3) := by decide +kernel
theorem d_B_init_60 : decode b_B_init 60 = .ok (.aload_n 0, 1) := by decide +kernel
theorem d_B_init_61 : decode b_B_init 61 = .ok (.new 9, 3) := by decide +kernel
theorem d_B_init_64 : decode b_B_init 64 = .ok (.dup, 1) := by decide +kernel
theorem d_B_init_65 : decode b_B_init 65 = .ok (.sipush 136, 3) := by decide +kernel
theorem d_B_init_68 : decode b_B_init 68 = .ok (.invokespecial 13, 3) := by decide +kernel
theorem d_B_init_71 : decode b_B_init 71 = .ok (.putfield 29, 3) := by decide +kernel
theorem d_B_init_74 : decode b_B_init 74 = .ok (.aload_n 0, 1) := by decide +kernel
theorem d_B_init_75 : decode b_B_init 75 = .ok (.new 32, 3) := by decide +kernel
theorem d_B_init_78 : decode b_B_init 78 = .ok (.dup, 1) := by decide +kernel
theorem d_B_init_79 : decode b_B_init 79 = .ok (.invokespecial 34, 3) := by decide +kernel
theorem d_B_init_82 : decode b_B_init 82 = .ok (.putfield 35, 3) := by decide +kernel
theorem d_B_init_85 : decode b_B_init 85 = .ok (.aload_n 0, 1) := by decide +kernel
theorem d_B_init_86 : decode b_B_init 86 = .ok (.iconst 0, 1) := by decide +kernel
theorem d_B_init_87 : decode b_B_init 87 = .ok (.putfield 39, 3) := by decide +kernel
theorem d_B_init_90 : decode b_B_init 90 = .ok (.return_, 1) := by decide +kernel
theorem d_D_init_0 : decode b_D_init 0 = .ok (.aload_n 0, 1) := by decide +kernel
theorem d_D_init_1 : decode b_D_init 1 = .ok (.invokespecial 3, 3) := by decide +kernel
theorem d_D_init_4 : decode b_D_init 4 = .ok (.aload_n 0, 1) := by decide +kernel
theorem d_D_init_5 : decode b_D_init 5 = .ok (.new 1, 3) := by decide +kernel
theorem d_D_init_8 : decode b_D_init 8 = .ok (.dup, 1) := by decide +kernel
theorem d_D_init_9 : decode b_D_init 9 = .ok (.sipush 136, 3) := by decide +kernel
theorem d_D_init_12 : decode b_D_init 12 = .ok (.invokespecial 11, 3) := by decide +kernel
theorem d_D_init_15 : decode b_D_init 15 = .ok (.putfield 14, 3) := by decide +kernel
theorem d_D_init_18 : decode b_D_init 18 = .ok (.return_, 1) := by decide +kernel
theorem d_T_init_0 : decode b_T_init 0 = .ok (.aload_n 0, 1) := by decide +kernel
theorem d_T_init_1 : decode b_T_init 1 = .ok (.invokespecial 3, 3) := by decide +kernel
theorem d_T_init_4 : decode b_T_init 4 = .ok (.aload_n 0, 1) := by decide +kernel
theorem d_T_init_5 : decode b_T_init 5 = .ok (.sipush 1400, 3) := by decide +kernel
theorem d_T_init_8 : decode b_T_init 8 = .ok (.newarray .char, 2) := by decide +kernel
theorem d_T_init_10 : decode b_T_init 10 = .ok (.putfield 9, 3) := by decide +kernel
theorem d_T_init_13 : decode b_T_init 13 = .ok (.aload_n 0, 1) := by decide +kernel
theorem d_T_init_14 : decode b_T_init 14 = .ok (.iconst 0, 1) := by decide +kernel
theorem d_T_init_15 : decode b_T_init 15 = .ok (.putfield 15, 3) := by decide +kernel
theorem d_T_init_18 : decode b_T_init 18 = .ok (.return_, 1) := by decide +kernel
theorem d_K_type_0 : decode b_K_type 0 = .ok (.iload_n 3, 1) := by decide +kernel
theorem d_K_type_1 : decode b_K_type 1 = .ok (.iconst 1, 1) := by decide +kernel
theorem d_K_type_2 : decode b_K_type 2 = .ok (.if_icmp .lt 24, 3) := by decide +kernel
theorem d_K_type_5 : decode b_K_type 5 = .ok (.iload_n 3, 1) := by decide +kernel
theorem d_K_type_6 : decode b_K_type 6 = .ok (.bipush 8, 2) := by decide +kernel
theorem d_K_type_8 : decode b_K_type 8 = .ok (.if_icmp .gt 18, 3) := by decide +kernel
theorem d_K_type_11 : decode b_K_type 11 = .ok (.aload_n 0, 1) := by decide +kernel
theorem d_K_type_12 : decode b_K_type 12 = .ok (.getfield 26, 3) := by decide +kernel
theorem d_K_type_15 : decode b_K_type 15 = .ok (.getfield 138, 3) := by decide +kernel
theorem d_K_type_18 : decode b_K_type 18 = .ok (.iload_n 3, 1) := by decide +kernel
theorem d_K_type_19 : decode b_K_type 19 = .ok (.iadd, 1) := by decide +kernel
theorem d_K_type_20 : decode b_K_type 20 = .ok (.sipush 1400, 3) := by decide +kernel
theorem d_K_type_23 : decode b_K_type 23 = .ok (.if_icmp .le 5, 3) := by decide +kernel
theorem d_K_type_26 : decode b_K_type 26 = .ok (.iconst (-1), 1) := by decide +kernel
theorem d_K_type_27 : decode b_K_type 27 = .ok (.ireturn, 1) := by decide +kernel
theorem d_K_type_28 : decode b_K_type 28 = .ok (.iconst 0, 1) := by decide +kernel
theorem d_K_type_29 : decode b_K_type 29 = .ok (.istore 4, 2) := by decide +kernel
theorem d_K_type_31 : decode b_K_type 31 = .ok (.iload 4, 2) := by decide +kernel
theorem d_K_type_33 : decode b_K_type 33 = .ok (.iload_n 3, 1) := by decide +kernel
theorem d_K_type_34 : decode b_K_type 34 = .ok (.if_icmp .ge 33, 3) := by decide +kernel
theorem d_K_type_37 : decode b_K_type 37 = .ok (.lload_n 1, 1) := by decide +kernel
theorem d_K_type_38 : decode b_K_type 38 = .ok (.iload 4, 2) := by decide +kernel
theorem d_K_type_40 : decode b_K_type 40 = .ok (.invokestatic 153, 3) := by decide +kernel
theorem d_K_type_43 : decode b_K_type 43 = .ok (.istore 5, 2) := by decide +kernel
theorem d_K_type_45 : decode b_K_type 45 = .ok (.iload 5, 2) := by decide +kernel
theorem d_K_type_47 : decode b_K_type 47 = .ok (.bipush 32, 2) := by decide +kernel
theorem d_K_type_49 : decode b_K_type 49 = .ok (.if_icmp .lt 10, 3) := by decide +kernel
theorem d_K_type_52 : decode b_K_type 52 = .ok (.iload 5, 2) := by decide +kernel
theorem d_K_type_54 : decode b_K_type 54 = .ok (.bipush 126, 2) := by decide +kernel
theorem d_K_type_56 : decode b_K_type 56 = .ok (.if_icmp .le 5, 3) := by decide +kernel
theorem d_K_type_59 : decode b_K_type 59 = .ok (.iconst (-1), 1) := by decide +kernel
theorem d_K_type_60 : decode b_K_type 60 = .ok (.ireturn, 1) := by decide +kernel
theorem d_K_type_61 : decode b_K_type 61 = .ok (.iinc 4 1, 3) := by decide +kernel
theorem d_K_type_64 : decode b_K_type 64 = .ok (.goto (-33), 3) := by decide +kernel
theorem d_K_type_67 : decode b_K_type 67 = .ok (.iload_n 3, 1) := by decide +kernel
theorem d_K_type_68 : decode b_K_type 68 = .ok (.iconst 1, 1) := by decide +kernel
theorem d_K_type_69 : decode b_K_type 69 = .ok (.isub, 1) := by decide +kernel
theorem d_K_type_70 : decode b_K_type 70 = .ok (.istore 4, 2) := by decide +kernel
theorem d_K_type_72 : decode b_K_type 72 = .ok (.iload 4, 2) := by decide +kernel
theorem d_K_type_74 : decode b_K_type 74 = .ok (.ifCond .lt 23, 3) := by decide +kernel
theorem d_K_type_77 : decode b_K_type 77 = .ok (.aload_n 0, 1) := by decide +kernel
theorem d_K_type_78 : decode b_K_type 78 = .ok (.getfield 26, 3) := by decide +kernel
theorem d_K_type_81 : decode b_K_type 81 = .ok (.lload_n 1, 1) := by decide +kernel
theorem d_K_type_82 : decode b_K_type 82 = .ok (.iload 4, 2) := by decide +kernel
theorem d_K_type_84 : decode b_K_type 84 = .ok (.invokestatic 153, 3) := by decide +kernel
theorem d_K_type_87 : decode b_K_type 87 = .ok (.i2c, 1) := by decide +kernel
theorem d_K_type_88 : decode b_K_type 88 = .ok (.invokevirtual 141, 3) := by decide +kernel
theorem d_K_type_91 : decode b_K_type 91 = .ok (.iinc 4 (-1), 3) := by decide +kernel
theorem d_K_type_94 : decode b_K_type 94 = .ok (.goto (-22), 3) := by decide +kernel
theorem d_K_type_97 : decode b_K_type 97 = .ok (.aload_n 0, 1) := by decide +kernel
theorem d_K_type_98 : decode b_K_type 98 = .ok (.getfield 26, 3) := by decide +kernel
theorem d_K_type_101 : decode b_K_type 101 = .ok (.getfield 138, 3) := by decide +kernel
theorem d_K_type_104 : decode b_K_type 104 = .ok (.ireturn, 1) := by decide +kernel
theorem d_K_byteOf_0 : decode b_K_byteOf 0 = .ok (.lload_n 0, 1) := by decide +kernel
theorem d_K_byteOf_1 : decode b_K_byteOf 1 = .ok (.bipush 8, 2) := by decide +kernel
theorem d_K_byteOf_3 : decode b_K_byteOf 3 = .ok (.iload_n 2, 1) := by decide +kernel
theorem d_K_byteOf_4 : decode b_K_byteOf 4 = .ok (.imul, 1) := by decide +kernel
theorem d_K_byteOf_5 : decode b_K_byteOf 5 = .ok (.lushr, 1) := by decide +kernel
theorem d_K_byteOf_6 : decode b_K_byteOf 6 = .ok (.l2i, 1) := by decide +kernel
theorem d_K_byteOf_7 : decode b_K_byteOf 7 = .ok (.sipush 255, 3) := by decide +kernel
theorem d_K_byteOf_10 : decode b_K_byteOf 10 = .ok (.iand, 1) := by decide +kernel
theorem d_K_byteOf_11 : decode b_K_byteOf 11 = .ok (.ireturn, 1) := by decide +kernel
theorem d_T_put_0 : decode b_T_put 0 = .ok (.aload_n 0, 1) := by decide +kernel
theorem d_T_put_1 : decode b_T_put 1 = .ok (.getfield 15, 3) := by decide +kernel
theorem d_T_put_4 : decode b_T_put 4 = .ok (.aload_n 0, 1) := by decide +kernel
theorem d_T_put_5 : decode b_T_put 5 = .ok (.getfield 9, 3) := by decide +kernel
theorem d_T_put_8 : decode b_T_put 8 = .ok (.arraylength, 1) := by decide +kernel
theorem d_T_put_9 : decode b_T_put 9 = .ok (.if_icmp .ge 23, 3) := by decide +kernel
theorem d_T_put_12 : decode b_T_put 12 = .ok (.aload_n 0, 1) := by decide +kernel
theorem d_T_put_13 : decode b_T_put 13 = .ok (.getfield 9, 3) := by decide +kernel
theorem d_T_put_16 : decode b_T_put 16 = .ok (.aload_n 0, 1) := by decide +kernel
theorem d_T_put_17 : decode b_T_put 17 = .ok (.getfield 15, 3) := by decide +kernel
theorem d_T_put_20 : decode b_T_put 20 = .ok (.iload_n 1, 1) := by decide +kernel
theorem d_T_put_21 : decode b_T_put 21 = .ok (.castore, 1) := by decide +kernel
theorem d_T_put_22 : decode b_T_put 22 = .ok (.aload_n 0, 1) := by decide +kernel
theorem d_T_put_23 : decode b_T_put 23 = .ok (.dup, 1) := by decide +kernel
theorem d_T_put_24 : decode b_T_put 24 = .ok (.getfield 15, 3) := by decide +kernel
theorem d_T_put_27 : decode b_T_put 27 = .ok (.iconst 1, 1) := by decide +kernel
theorem d_T_put_28 : decode b_T_put 28 = .ok (.iadd, 1) := by decide +kernel
theorem d_T_put_29 : decode b_T_put 29 = .ok (.putfield 15, 3) := by decide +kernel
theorem d_T_put_32 : decode b_T_put 32 = .ok (.return_, 1) := by decide +kernel
theorem d_K_wipe_0 : decode b_K_wipe 0 = .ok (.aload_n 0, 1) := by decide +kernel
theorem d_K_wipe_1 : decode b_K_wipe 1 = .ok (.getfield 26, 3) := by decide +kernel
theorem d_K_wipe_4 : decode b_K_wipe 4 = .ok (.getfield 138, 3) := by decide +kernel
theorem d_K_wipe_7 : decode b_K_wipe 7 = .ok (.istore_n 1, 1) := by decide +kernel
theorem d_K_wipe_8 : decode b_K_wipe 8 = .ok (.aload_n 0, 1) := by decide +kernel
theorem d_K_wipe_9 : decode b_K_wipe 9 = .ok (.getfield 26, 3) := by decide +kernel
theorem d_K_wipe_12 : decode b_K_wipe 12 = .ok (.iconst 0, 1) := by decide +kernel
theorem d_K_wipe_13 : decode b_K_wipe 13 = .ok (.putfield 138, 3) := by decide +kernel
theorem d_K_wipe_16 : decode b_K_wipe 16 = .ok (.iload_n 1, 1) := by decide +kernel
theorem d_K_wipe_17 : decode b_K_wipe 17 = .ok (.ireturn, 1) := by decide +kernel
theorem d_K_character_0 : decode b_K_character 0 = .ok (.aload_n 0, 1) := by decide +kernel
theorem d_K_character_1 : decode b_K_character 1 = .ok (.getfield 26, 3) := by decide +kernel
theorem d_K_character_4 : decode b_K_character 4 = .ok (.iload_n 1, 1) := by decide +kernel
theorem d_K_character_5 : decode b_K_character 5 = .ok (.invokevirtual 157, 3) := by decide +kernel
theorem d_K_character_8 : decode b_K_character 8 = .ok (.ireturn, 1) := by decide +kernel
theorem d_T_at_0 : decode b_T_at 0 = .ok (.iload_n 1, 1) := by decide +kernel
theorem d_T_at_1 : decode b_T_at 1 = .ok (.ifCond .lt 20, 3) := by decide +kernel
theorem d_T_at_4 : decode b_T_at 4 = .ok (.iload_n 1, 1) := by decide +kernel
theorem d_T_at_5 : decode b_T_at 5 = .ok (.aload_n 0, 1) := by decide +kernel
theorem d_T_at_6 : decode b_T_at 6 = .ok (.getfield 15, 3) := by decide +kernel
theorem d_T_at_9 : decode b_T_at 9 = .ok (.if_icmp .ge 12, 3) := by decide +kernel
theorem d_T_at_12 : decode b_T_at 12 = .ok (.aload_n 0, 1) := by decide +kernel
theorem d_T_at_13 : decode b_T_at 13 = .ok (.getfield 9, 3) := by decide +kernel
theorem d_T_at_16 : decode b_T_at 16 = .ok (.iload_n 1, 1) := by decide +kernel
theorem d_T_at_17 : decode b_T_at 17 = .ok (.caload, 1) := by decide +kernel
theorem d_T_at_18 : decode b_T_at 18 = .ok (.goto 4, 3) := by decide +kernel
theorem d_T_at_21 : decode b_T_at 21 = .ok (.iconst (-1), 1) := by decide +kernel
theorem d_T_at_22 : decode b_T_at 22 = .ok (.ireturn, 1) := by decide +kernel
theorem d_K_place_0 : decode b_K_place 0 = .ok (.aload_n 0, 1) := by decide +kernel
theorem d_K_place_1 : decode b_K_place 1 = .ok (.getfield 30, 3) := by decide +kernel
theorem d_K_place_4 : decode b_K_place 4 = .ok (.ireturn, 1) := by decide +kernel
theorem d_L_set_0 : decode b_L_set 0 = .ok (.aload_n 0, 1) := by decide +kernel
theorem d_L_set_1 : decode b_L_set 1 = .ok (.iload_n 1, 1) := by decide +kernel
theorem d_L_set_2 : decode b_L_set 2 = .ok (.lload_n 2, 1) := by decide +kernel
theorem d_L_set_3 : decode b_L_set 3 = .ok (.lload 4, 2) := by decide +kernel
theorem d_L_set_5 : decode b_L_set 5 = .ok (.invokevirtual 7, 3) := by decide +kernel
theorem d_L_set_8 : decode b_L_set 8 = .ok (.goto 7, 3) := by decide +kernel
theorem d_L_set_11 : decode b_L_set 11 = .ok (.astore 6, 2) := by decide +kernel
theorem d_L_set_13 : decode b_L_set 13 = .ok (.iconst 1, 1) := by decide +kernel
theorem d_L_set_14 : decode b_L_set 14 = .ok (.ireturn, 1) := by decide +kernel
theorem d_L_set_15 : decode b_L_set 15 = .ok (.iconst 0, 1) := by decide +kernel
theorem d_L_set_16 : decode b_L_set 16 = .ok (.ireturn, 1) := by decide +kernel
theorem d_K_set_0 : decode b_K_set 0 = .ok (.aload_n 0, 1) := by decide +kernel
theorem d_K_set_1 : decode b_K_set 1 = .ok (.iload_n 1, 1) := by decide +kernel
theorem d_K_set_2 : decode b_K_set 2 = .ok (.invokevirtual 34, 3) := by decide +kernel
theorem d_K_set_5 : decode b_K_set 5 = .ok (.astore 6, 2) := by decide +kernel
theorem d_K_set_7 : decode b_K_set 7 = .ok (.lload 4, 2) := by decide +kernel
theorem d_K_set_9 : decode b_K_set 9 = .ok (.lconst 0, 1) := by decide +kernel
theorem d_K_set_10 : decode b_K_set 10 = .ok (.lcmp, 1) := by decide +kernel
theorem d_K_set_11 : decode b_K_set 11 = .ok (.ifCond .ne 13, 3) := by decide +kernel
theorem d_K_set_14 : decode b_K_set 14 = .ok (.new 38, 3) := by decide +kernel
theorem d_K_set_17 : decode b_K_set 17 = .ok (.dup, 1) := by decide +kernel
theorem d_K_set_18 : decode b_K_set 18 = .ok (.ldc 40, 2) := by decide +kernel
theorem d_K_set_20 : decode b_K_set 20 = .ok (.invokespecial 42, 3) := by decide +kernel
theorem d_K_set_23 : decode b_K_set 23 = .ok (.athrow, 1) := by decide +kernel
theorem d_K_set_24 : decode b_K_set 24 = .ok (.aload_n 0, 1) := by decide +kernel
theorem d_K_set_25 : decode b_K_set 25 = .ok (.getfield 19, 3) := by decide +kernel
theorem d_K_set_28 : decode b_K_set 28 = .ok (.lload_n 2, 1) := by decide +kernel
theorem d_K_set_29 : decode b_K_set 29 = .ok (.lload 4, 2) := by decide +kernel
theorem d_K_set_31 : decode b_K_set 31 = .ok (.invokevirtual 45, 3) := by decide +kernel
theorem d_K_set_34 : decode b_K_set 34 = .ok (.aload_n 0, 1) := by decide +kernel
theorem d_K_set_35 : decode b_K_set 35 = .ok (.getfield 19, 3) := by decide +kernel
theorem d_K_set_38 : decode b_K_set 38 = .ok (.aload 6, 2) := by decide +kernel
theorem d_K_set_40 : decode b_K_set 40 = .ok (.invokevirtual 49, 3) := by decide +kernel
theorem d_K_set_43 : decode b_K_set 43 = .ok (.pop, 1) := by decide +kernel
theorem d_K_set_44 : decode b_K_set 44 = .ok (.return_, 1) := by decide +kernel
theorem d_K_register_0 : decode b_K_register 0 = .ok (.iload_n 1, 1) := by decide +kernel
theorem d_K_register_1 : decode b_K_register 1 = .ok (.ifCond .lt 9, 3) := by decide +kernel
theorem d_K_register_4 : decode b_K_register 4 = .ok (.iload_n 1, 1) := by decide +kernel
theorem d_K_register_5 : decode b_K_register 5 = .ok (.bipush 16, 2) := by decide +kernel
theorem d_K_register_7 : decode b_K_register 7 = .ok (.if_icmp .lt 13, 3) := by decide +kernel
theorem d_K_register_10 : decode b_K_register 10 = .ok (.new 38, 3) := by decide +kernel
theorem d_K_register_13 : decode b_K_register 13 = .ok (.dup, 1) := by decide +kernel
theorem d_K_register_14 : decode b_K_register 14 = .ok (.ldc 173, 2) := by decide +kernel
theorem d_K_register_16 : decode b_K_register 16 = .ok (.invokespecial 42, 3) := by decide +kernel
theorem d_K_register_19 : decode b_K_register 19 = .ok (.athrow, 1) := by decide +kernel
theorem d_K_register_20 : decode b_K_register 20 = .ok (.aload_n 0, 1) := by decide +kernel
theorem d_K_register_21 : decode b_K_register 21 = .ok (.getfield 11, 3) := by decide +kernel
theorem d_K_register_24 : decode b_K_register 24 = .ok (.iload_n 1, 1) := by decide +kernel
theorem d_K_register_25 : decode b_K_register 25 = .ok (.aaload, 1) := by decide +kernel
theorem d_K_register_26 : decode b_K_register 26 = .ok (.areturn, 1) := by decide +kernel
theorem d_B_takeNumbers_0 : decode b_B_takeNumbers 0 = .ok (.aload_n 0, 1) := by decide +kernel
theorem d_B_takeNumbers_1 : decode b_B_takeNumbers 1 = .ok (.getfield 16, 3) := by decide +kernel
theorem d_B_takeNumbers_4 : decode b_B_takeNumbers 4 = .ok (.lload_n 1, 1) := by decide +kernel
theorem d_B_takeNumbers_5 : decode b_B_takeNumbers 5 = .ok (.invokestatic 77, 3) := by decide +kernel
theorem d_B_takeNumbers_8 : decode b_B_takeNumbers 8 = .ok (.invokevirtual 83, 3) := by decide +kernel
theorem d_B_takeNumbers_11 : decode b_B_takeNumbers 11 = .ok (.aload_n 0, 1) := by decide +kernel
theorem d_B_takeNumbers_12 : decode b_B_takeNumbers 12 = .ok (.getfield 20, 3) := by decide +kernel
theorem d_B_takeNumbers_15 : decode b_B_takeNumbers 15 = .ok (.lload_n 3, 1) := by decide +kernel
theorem d_B_takeNumbers_16 : decode b_B_takeNumbers 16 = .ok (.invokestatic 77, 3) := by decide +kernel
theorem d_B_takeNumbers_19 : decode b_B_takeNumbers 19 = .ok (.invokevirtual 83, 3) := by decide +kernel
theorem d_B_takeNumbers_22 : decode b_B_takeNumbers 22 = .ok (.aload_n 0, 1) := by decide +kernel
theorem d_B_takeNumbers_23 : decode b_B_takeNumbers 23 = .ok (.lload_n 1, 1) := by decide +kernel
theorem d_B_takeNumbers_24 : decode b_B_takeNumbers 24 = .ok (.lconst 0, 1) := by decide +kernel
theorem d_B_takeNumbers_25 : decode b_B_takeNumbers 25 = .ok (.lcmp, 1) := by decide +kernel
theorem d_B_takeNumbers_26 : decode b_B_takeNumbers 26 = .ok (.ifCond .ge 7, 3) := by decide +kernel
theorem d_B_takeNumbers_29 : decode b_B_takeNumbers 29 = .ok (.iconst 1, 1) := by decide +kernel
theorem d_B_takeNumbers_30 : decode b_B_takeNumbers 30 = .ok (.goto 4, 3) := by decide +kernel
theorem d_B_takeNumbers_33 : decode b_B_takeNumbers 33 = .ok (.iconst 0, 1) := by decide +kernel
theorem d_B_takeNumbers_34 : decode b_B_takeNumbers 34 = .ok (.lload_n 3, 1) := by decide +kernel
theorem d_B_takeNumbers_35 : decode b_B_takeNumbers 35 = .ok (.lconst 0, 1) := by decide +kernel
theorem d_B_takeNumbers_36 : decode b_B_takeNumbers 36 = .ok (.lcmp, 1) := by decide +kernel
theorem d_B_takeNumbers_37 : decode b_B_takeNumbers 37 = .ok (.ifCond .ge 7, 3) := by decide +kernel
theorem d_B_takeNumbers_40 : decode b_B_takeNumbers 40 = .ok (.iconst 1, 1) := by decide +kernel
theorem d_B_takeNumbers_41 : decode b_B_takeNumbers 41 = .ok (.goto 4, 3) := by decide +kernel
theorem d_B_takeNumbers_44 : decode b_B_takeNumbers 44 = .ok (.iconst 0, 1) := by decide +kernel
theorem d_B_takeNumbers_45 : decode b_B_takeNumbers 45 = .ok (.if_icmp .eq 7, 3) := by decide +kernel
theorem d_B_takeNumbers_48 : decode b_B_takeNumbers 48 = .ok (.iconst 1, 1) := by decide +kernel
theorem d_B_takeNumbers_49 : decode b_B_takeNumbers 49 = .ok (.goto 4, 3) := by decide +kernel
theorem d_B_takeNumbers_52 : decode b_B_takeNumbers 52 = .ok (.iconst 0, 1) := by decide +kernel
theorem d_B_takeNumbers_53 : decode b_B_takeNumbers 53 = .ok (.putfield 39, 3) := by decide +kernel
theorem d_B_takeNumbers_56 : decode b_B_takeNumbers 56 = .ok (.return_, 1) := by decide +kernel
theorem d_JM_abs_0 : decode b_JM_abs 0 = .ok (.lload_n 0, 1) := by decide +kernel
theorem d_JM_abs_1 : decode b_JM_abs 1 = .ok (.lconst 0, 1) := by decide +kernel
theorem d_JM_abs_2 : decode b_JM_abs 2 = .ok (.lcmp, 1) := by decide +kernel
theorem d_JM_abs_3 : decode b_JM_abs 3 = .ok (.ifCond .ge 8, 3) := by decide +kernel
theorem d_JM_abs_6 : decode b_JM_abs 6 = .ok (.lload_n 0, 1) := by decide +kernel
theorem d_JM_abs_7 : decode b_JM_abs 7 = .ok (.lneg, 1) := by decide +kernel
theorem d_JM_abs_8 : decode b_JM_abs 8 = .ok (.goto 4, 3) := by decide +kernel
theorem d_JM_abs_11 : decode b_JM_abs 11 = .ok (.lload_n 0, 1) := by decide +kernel
theorem d_JM_abs_12 : decode b_JM_abs 12 = .ok (.lreturn, 1) := by decide +kernel
theorem d_B_keepReduced_0 : decode b_B_keepReduced 0 = .ok (.aload_n 0, 1) := by decide +kernel
theorem d_B_keepReduced_1 : decode b_B_keepReduced 1 = .ok (.getfield 20, 3) := by decide +kernel
theorem d_B_keepReduced_4 : decode b_B_keepReduced 4 = .ok (.invokevirtual 43, 3) := by decide +kernel
theorem d_B_keepReduced_7 : decode b_B_keepReduced 7 = .ok (.ifCond .ne 59, 3) := by decide +kernel
theorem d_B_keepReduced_10 : decode b_B_keepReduced 10 = .ok (.aload_n 0, 1) := by decide +kernel
theorem d_B_keepReduced_11 : decode b_B_keepReduced 11 = .ok (.getfield 23, 3) := by decide +kernel
theorem d_B_keepReduced_14 : decode b_B_keepReduced 14 = .ok (.aload_n 0, 1) := by decide +kernel
theorem d_B_keepReduced_15 : decode b_B_keepReduced 15 = .ok (.getfield 16, 3) := by decide +kernel
theorem d_B_keepReduced_18 : decode b_B_keepReduced 18 = .ok (.invokevirtual 47, 3) := by decide +kernel
theorem d_B_keepReduced_21 : decode b_B_keepReduced 21 = .ok (.aload_n 0, 1) := by decide +kernel
theorem d_B_keepReduced_22 : decode b_B_keepReduced 22 = .ok (.getfield 26, 3) := by decide +kernel
theorem d_B_keepReduced_25 : decode b_B_keepReduced 25 = .ok (.aload_n 0, 1) := by decide +kernel
theorem d_B_keepReduced_26 : decode b_B_keepReduced 26 = .ok (.getfield 20, 3) := by decide +kernel
theorem d_B_keepReduced_29 : decode b_B_keepReduced 29 = .ok (.invokevirtual 47, 3) := by decide +kernel
theorem d_B_keepReduced_32 : decode b_B_keepReduced 32 = .ok (.aload_n 0, 1) := by decide +kernel
theorem d_B_keepReduced_33 : decode b_B_keepReduced 33 = .ok (.getfield 35, 3) := by decide +kernel
theorem d_B_keepReduced_36 : decode b_B_keepReduced 36 = .ok (.aload_n 0, 1) := by decide +kernel
theorem d_B_keepReduced_37 : decode b_B_keepReduced 37 = .ok (.getfield 23, 3) := by decide +kernel
theorem d_B_keepReduced_40 : decode b_B_keepReduced 40 = .ok (.aload_n 0, 1) := by decide +kernel
theorem d_B_keepReduced_41 : decode b_B_keepReduced 41 = .ok (.getfield 26, 3) := by decide +kernel
theorem d_B_keepReduced_44 : decode b_B_keepReduced 44 = .ok (.invokevirtual 51, 3) := by decide +kernel
theorem d_B_keepReduced_47 : decode b_B_keepReduced 47 = .ok (.astore_n 2, 1) := by decide +kernel
theorem d_B_keepReduced_48 : decode b_B_keepReduced 48 = .ok (.aload_n 0, 1) := by decide +kernel
theorem d_B_keepReduced_49 : decode b_B_keepReduced 49 = .ok (.aload_n 0, 1) := by decide +kernel
theorem d_B_keepReduced_50 : decode b_B_keepReduced 50 = .ok (.getfield 16, 3) := by decide +kernel
theorem d_B_keepReduced_53 : decode b_B_keepReduced 53 = .ok (.aload_n 2, 1) := by decide +kernel
theorem d_B_keepReduced_54 : decode b_B_keepReduced 54 = .ok (.invokevirtual 55, 3) := by decide +kernel
theorem d_B_keepReduced_57 : decode b_B_keepReduced 57 = .ok (.aload_n 0, 1) := by decide +kernel
theorem d_B_keepReduced_58 : decode b_B_keepReduced 58 = .ok (.aload_n 0, 1) := by decide +kernel
theorem d_B_keepReduced_59 : decode b_B_keepReduced 59 = .ok (.getfield 20, 3) := by decide +kernel
theorem d_B_keepReduced_62 : decode b_B_keepReduced 62 = .ok (.aload_n 2, 1) := by decide +kernel
theorem d_B_keepReduced_63 : decode b_B_keepReduced 63 = .ok (.invokevirtual 55, 3) := by decide +kernel
theorem d_B_keepReduced_66 : decode b_B_keepReduced 66 = .ok (.aload_n 0, 1) := by decide +kernel
theorem d_B_keepReduced_67 : decode b_B_keepReduced 67 = .ok (.aload_n 1, 1) := by decide +kernel
theorem d_B_keepReduced_68 : decode b_B_keepReduced 68 = .ok (.invokevirtual 59, 3) := by decide +kernel
theorem d_B_keepReduced_71 : decode b_B_keepReduced 71 = .ok (.ireturn, 1) := by decide +kernel
theorem d_W_isOne_0 : decode b_W_isOne 0 = .ok (.aload_n 0, 1) := by decide +kernel
theorem d_W_isOne_1 : decode b_W_isOne 1 = .ok (.getfield 21, 3) := by decide +kernel
theorem d_W_isOne_4 : decode b_W_isOne 4 = .ok (.iconst 1, 1) := by decide +kernel
theorem d_W_isOne_5 : decode b_W_isOne 5 = .ok (.if_icmp .ne 17, 3) := by decide +kernel
theorem d_W_isOne_8 : decode b_W_isOne 8 = .ok (.aload_n 0, 1) := by decide +kernel
theorem d_W_isOne_9 : decode b_W_isOne 9 = .ok (.getfield 17, 3) := by decide +kernel
theorem d_W_isOne_12 : decode b_W_isOne 12 = .ok (.iconst 0, 1) := by decide +kernel
theorem d_W_isOne_13 : decode b_W_isOne 13 = .ok (.iaload, 1) := by decide +kernel
theorem d_W_isOne_14 : decode b_W_isOne 14 = .ok (.iconst 1, 1) := by decide +kernel
theorem d_W_isOne_15 : decode b_W_isOne 15 = .ok (.if_icmp .ne 7, 3) := by decide +kernel
theorem d_W_isOne_18 : decode b_W_isOne 18 = .ok (.iconst 1, 1) := by decide +kernel
theorem d_W_isOne_19 : decode b_W_isOne 19 = .ok (.goto 4, 3) := by decide +kernel
theorem d_W_isOne_22 : decode b_W_isOne 22 = .ok (.iconst 0, 1) := by decide +kernel
theorem d_W_isOne_23 : decode b_W_isOne 23 = .ok (.ireturn, 1) := by decide +kernel
theorem d_W_become_0 : decode b_W_become 0 = .ok (.aload_n 1, 1) := by decide +kernel
theorem d_W_become_1 : decode b_W_become 1 = .ok (.getfield 21, 3) := by decide +kernel
theorem d_W_become_4 : decode b_W_become 4 = .ok (.aload_n 0, 1) := by decide +kernel
theorem d_W_become_5 : decode b_W_become 5 = .ok (.getfield 17, 3) := by decide +kernel
theorem d_W_become_8 : decode b_W_become 8 = .ok (.arraylength, 1) := by decide +kernel
theorem d_W_become_9 : decode b_W_become 9 = .ok (.invokestatic 45, 3) := by decide +kernel
theorem d_W_become_12 : decode b_W_become 12 = .ok (.istore_n 2, 1) := by decide +kernel
theorem d_W_become_13 : decode b_W_become 13 = .ok (.aload_n 1, 1) := by decide +kernel
theorem d_W_become_14 : decode b_W_become 14 = .ok (.getfield 17, 3) := by decide +kernel
theorem d_W_become_17 : decode b_W_become 17 = .ok (.iconst 0, 1) := by decide +kernel
theorem d_W_become_18 : decode b_W_become 18 = .ok (.aload_n 0, 1) := by decide +kernel
theorem d_W_become_19 : decode b_W_become 19 = .ok (.getfield 17, 3) := by decide +kernel
theorem d_W_become_22 : decode b_W_become 22 = .ok (.iconst 0, 1) := by decide +kernel
theorem d_W_become_23 : decode b_W_become 23 = .ok (.iload_n 2, 1) := by decide +kernel
theorem d_W_become_24 : decode b_W_become 24 = .ok (.invokestatic 52, 3) := by decide +kernel
theorem d_W_become_27 : decode b_W_become 27 = .ok (.aload_n 0, 1) := by decide +kernel
theorem d_W_become_28 : decode b_W_become 28 = .ok (.iload_n 2, 1) := by decide +kernel
theorem d_W_become_29 : decode b_W_become 29 = .ok (.invokevirtual 48, 3) := by decide +kernel
theorem d_W_become_32 : decode b_W_become 32 = .ok (.return_, 1) := by decide +kernel
theorem d_D_greatestCommon_0 : decode b_D_greatestCommon 0 = .ok (.aload_n 1, 1) := by decide +kernel
theorem d_D_greatestCommon_1 : decode b_D_greatestCommon 1 = .ok (.aload_n 2, 1) := by decide +kernel
theorem d_D_greatestCommon_2 : decode b_D_greatestCommon 2 = .ok (.invokestatic 20, 3) := by decide +kernel
theorem d_D_greatestCommon_5 : decode b_D_greatestCommon 5 = .ok (.ifCond .lt 7, 3) := by decide +kernel
theorem d_D_greatestCommon_8 : decode b_D_greatestCommon 8 = .ok (.iconst 1, 1) := by decide +kernel
theorem d_D_greatestCommon_9 : decode b_D_greatestCommon 9 = .ok (.goto 4, 3) := by decide +kernel
theorem d_D_greatestCommon_12 : decode b_D_greatestCommon 12 = .ok (.iconst 0, 1) := by decide +kernel
theorem d_D_greatestCommon_13 : decode b_D_greatestCommon 13 = .ok (.istore_n 3, 1) := by decide +kernel
theorem d_D_greatestCommon_14 : decode b_D_greatestCommon 14 = .ok (.iload_n 3, 1) := by decide +kernel
theorem d_D_greatestCommon_15 : decode b_D_greatestCommon 15 = .ok (.ifCond .eq 7, 3) := by decide +kernel
theorem d_D_greatestCommon_18 : decode b_D_greatestCommon 18 = .ok (.aload_n 1, 1) := by decide +kernel
theorem d_D_greatestCommon_19 : decode b_D_greatestCommon 19 = .ok (.goto 4, 3) := by decide +kernel
theorem d_D_greatestCommon_22 : decode b_D_greatestCommon 22 = .ok (.aload_n 2, 1) := by decide +kernel
theorem d_D_greatestCommon_23 : decode b_D_greatestCommon 23 = .ok (.astore 4, 2) := by decide +kernel
theorem d_D_greatestCommon_25 : decode b_D_greatestCommon 25 = .ok (.iload_n 3, 1) := by decide +kernel
theorem d_D_greatestCommon_26 : decode b_D_greatestCommon 26 = .ok (.ifCond .eq 7, 3) := by decide +kernel
theorem d_D_greatestCommon_29 : decode b_D_greatestCommon 29 = .ok (.aload_n 2, 1) := by decide +kernel
theorem d_D_greatestCommon_30 : decode b_D_greatestCommon 30 = .ok (.goto 4, 3) := by decide +kernel
theorem d_D_greatestCommon_33 : decode b_D_greatestCommon 33 = .ok (.aload_n 1, 1) := by decide +kernel
theorem d_D_greatestCommon_34 : decode b_D_greatestCommon 34 = .ok (.astore 5, 2) := by decide +kernel
theorem d_D_greatestCommon_36 : decode b_D_greatestCommon 36 = .ok (.iconst 0, 1) := by decide +kernel
theorem d_D_greatestCommon_37 : decode b_D_greatestCommon 37 = .ok (.istore 6, 2) := by decide +kernel
theorem d_D_greatestCommon_39 : decode b_D_greatestCommon 39 = .ok (.iload 6, 2) := by decide +kernel
theorem d_D_greatestCommon_41 : decode b_D_greatestCommon 41 = .ok (.sipush 6200, 3) := by decide +kernel
theorem d_D_greatestCommon_44 : decode b_D_greatestCommon 44 = .ok (.if_icmp .ge 99, 3) := by decide +kernel
theorem d_D_greatestCommon_47 : decode b_D_greatestCommon 47 = .ok (.aload 5, 2) := by decide +kernel
theorem d_D_greatestCommon_49 : decode b_D_greatestCommon 49 = .ok (.invokevirtual 24, 3) := by decide +kernel
theorem d_D_greatestCommon_52 : decode b_D_greatestCommon 52 = .ok (.ifCond .ne 91, 3) := by decide +kernel
theorem d_D_greatestCommon_55 : decode b_D_greatestCommon 55 = .ok (.aload_n 0, 1) := by decide +kernel
theorem d_D_greatestCommon_56 : decode b_D_greatestCommon 56 = .ok (.aload 4, 2) := by decide +kernel
theorem d_D_greatestCommon_58 : decode b_D_greatestCommon 58 = .ok (.aload 5, 2) := by decide +kernel
theorem d_D_greatestCommon_60 : decode b_D_greatestCommon 60 = .ok (.invokevirtual 28, 3) := by decide +kernel
theorem d_D_greatestCommon_63 : decode b_D_greatestCommon 63 = .ok (.ifCond .eq 51, 3) := by decide +kernel
theorem d_D_greatestCommon_66 : decode b_D_greatestCommon 66 = .ok (.aload_n 0, 1) := by decide +kernel
theorem d_D_greatestCommon_67 : decode b_D_greatestCommon 67 = .ok (.getfield 14, 3) := by decide +kernel
theorem d_D_greatestCommon_70 : decode b_D_greatestCommon 70 = .ok (.aload_n 0, 1) := by decide +kernel
theorem d_D_greatestCommon_71 : decode b_D_greatestCommon 71 = .ok (.getfield 32, 3) := by decide +kernel
theorem d_D_greatestCommon_74 : decode b_D_greatestCommon 74 = .ok (.aload 4, 2) := by decide +kernel
theorem d_D_greatestCommon_76 : decode b_D_greatestCommon 76 = .ok (.aload_n 0, 1) := by decide +kernel
theorem d_D_greatestCommon_77 : decode b_D_greatestCommon 77 = .ok (.getfield 36, 3) := by decide +kernel
theorem d_D_greatestCommon_80 : decode b_D_greatestCommon 80 = .ok (.aload 5, 2) := by decide +kernel
theorem d_D_greatestCommon_82 : decode b_D_greatestCommon 82 = .ok (.invokevirtual 39, 3) := by decide +kernel
theorem d_D_greatestCommon_85 : decode b_D_greatestCommon 85 = .ok (.aload 5, 2) := by decide +kernel
theorem d_D_greatestCommon_87 : decode b_D_greatestCommon 87 = .ok (.aload_n 0, 1) := by decide +kernel
theorem d_D_greatestCommon_88 : decode b_D_greatestCommon 88 = .ok (.getfield 43, 3) := by decide +kernel
theorem d_D_greatestCommon_91 : decode b_D_greatestCommon 91 = .ok (.aload 4, 2) := by decide +kernel
theorem d_D_greatestCommon_93 : decode b_D_greatestCommon 93 = .ok (.aload_n 0, 1) := by decide +kernel
theorem d_D_greatestCommon_94 : decode b_D_greatestCommon 94 = .ok (.getfield 46, 3) := by decide +kernel
theorem d_D_greatestCommon_97 : decode b_D_greatestCommon 97 = .ok (.aload 5, 2) := by decide +kernel
theorem d_D_greatestCommon_99 : decode b_D_greatestCommon 99 = .ok (.invokevirtual 39, 3) := by decide +kernel
theorem d_D_greatestCommon_102 : decode b_D_greatestCommon 102 = .ok (.aload 4, 2) := by decide +kernel
theorem d_D_greatestCommon_104 : decode b_D_greatestCommon 104 = .ok (.aload_n 0, 1) := by decide +kernel
theorem d_D_greatestCommon_105 : decode b_D_greatestCommon 105 = .ok (.getfield 14, 3) := by decide +kernel
theorem d_D_greatestCommon_108 : decode b_D_greatestCommon 108 = .ok (.invokevirtual 49, 3) := by decide +kernel
theorem d_D_greatestCommon_111 : decode b_D_greatestCommon 111 = .ok (.goto 26, 3) := by decide +kernel
theorem d_D_greatestCommon_114 : decode b_D_greatestCommon 114 = .ok (.aload 4, 2) := by decide +kernel
theorem d_D_greatestCommon_116 : decode b_D_greatestCommon 116 = .ok (.aload 5, 2) := by decide +kernel
theorem d_D_greatestCommon_118 : decode b_D_greatestCommon 118 = .ok (.aload_n 0, 1) := by decide +kernel
theorem d_D_greatestCommon_119 : decode b_D_greatestCommon 119 = .ok (.getfield 14, 3) := by decide +kernel
theorem d_D_greatestCommon_122 : decode b_D_greatestCommon 122 = .ok (.invokevirtual 53, 3) := by decide +kernel
theorem d_D_greatestCommon_125 : decode b_D_greatestCommon 125 = .ok (.aload 4, 2) := by decide +kernel
theorem d_D_greatestCommon_127 : decode b_D_greatestCommon 127 = .ok (.astore 7, 2) := by decide +kernel
theorem d_D_greatestCommon_129 : decode b_D_greatestCommon 129 = .ok (.aload 5, 2) := by decide +kernel
theorem d_D_greatestCommon_131 : decode b_D_greatestCommon 131 = .ok (.astore 4, 2) := by decide +kernel
theorem d_D_greatestCommon_133 : decode b_D_greatestCommon 133 = .ok (.aload 7, 2) := by decide +kernel
theorem d_D_greatestCommon_135 : decode b_D_greatestCommon 135 = .ok (.astore 5, 2) := by decide +kernel
theorem d_D_greatestCommon_137 : decode b_D_greatestCommon 137 = .ok (.iinc 6 1, 3) := by decide +kernel
theorem d_D_greatestCommon_140 : decode b_D_greatestCommon 140 = .ok (.goto (-101), 3) := by decide +kernel
theorem d_D_greatestCommon_143 : decode b_D_greatestCommon 143 = .ok (.aload 4, 2) := by decide +kernel
theorem d_D_greatestCommon_145 : decode b_D_greatestCommon 145 = .ok (.areturn, 1) := by decide +kernel
theorem d_W_compare_0 : decode b_W_compare 0 = .ok (.aload_n 0, 1) := by decide +kernel
theorem d_W_compare_1 : decode b_W_compare 1 = .ok (.getfield 21, 3) := by decide +kernel
theorem d_W_compare_4 : decode b_W_compare 4 = .ok (.aload_n 1, 1) := by decide +kernel
theorem d_W_compare_5 : decode b_W_compare 5 = .ok (.getfield 21, 3) := by decide +kernel
theorem d_W_compare_8 : decode b_W_compare 8 = .ok (.if_icmp .eq 20, 3) := by decide +kernel
theorem d_W_compare_11 : decode b_W_compare 11 = .ok (.aload_n 0, 1) := by decide +kernel
theorem d_W_compare_12 : decode b_W_compare 12 = .ok (.getfield 21, 3) := by decide +kernel
theorem d_W_compare_15 : decode b_W_compare 15 = .ok (.aload_n 1, 1) := by decide +kernel
theorem d_W_compare_16 : decode b_W_compare 16 = .ok (.getfield 21, 3) := by decide +kernel
theorem d_W_compare_19 : decode b_W_compare 19 = .ok (.if_icmp .ge 7, 3) := by decide +kernel
theorem d_W_compare_22 : decode b_W_compare 22 = .ok (.iconst (-1), 1) := by decide +kernel
theorem d_W_compare_23 : decode b_W_compare 23 = .ok (.goto 4, 3) := by decide +kernel
theorem d_W_compare_26 : decode b_W_compare 26 = .ok (.iconst 1, 1) := by decide +kernel
theorem d_W_compare_27 : decode b_W_compare 27 = .ok (.ireturn, 1) := by decide +kernel
theorem d_W_compare_28 : decode b_W_compare 28 = .ok (.aload_n 0, 1) := by decide +kernel
theorem d_W_compare_29 : decode b_W_compare 29 = .ok (.getfield 21, 3) := by decide +kernel
theorem d_W_compare_32 : decode b_W_compare 32 = .ok (.iconst 1, 1) := by decide +kernel
theorem d_W_compare_33 : decode b_W_compare 33 = .ok (.isub, 1) := by decide +kernel
theorem d_W_compare_34 : decode b_W_compare 34 = .ok (.istore_n 2, 1) := by decide +kernel
theorem d_W_compare_35 : decode b_W_compare 35 = .ok (.iload_n 2, 1) := by decide +kernel
theorem d_W_compare_36 : decode b_W_compare 36 = .ok (.ifCond .lt 45, 3) := by decide +kernel
theorem d_W_compare_39 : decode b_W_compare 39 = .ok (.aload_n 0, 1) := by decide +kernel
theorem d_W_compare_40 : decode b_W_compare 40 = .ok (.getfield 17, 3) := by decide +kernel
theorem d_W_compare_43 : decode b_W_compare 43 = .ok (.iload_n 2, 1) := by decide +kernel
theorem d_W_compare_44 : decode b_W_compare 44 = .ok (.iaload, 1) := by decide +kernel
theorem d_W_compare_45 : decode b_W_compare 45 = .ok (.aload_n 1, 1) := by decide +kernel
theorem d_W_compare_46 : decode b_W_compare 46 = .ok (.getfield 17, 3) := by decide +kernel
theorem d_W_compare_49 : decode b_W_compare 49 = .ok (.iload_n 2, 1) := by decide +kernel
theorem d_W_compare_50 : decode b_W_compare 50 = .ok (.iaload, 1) := by decide +kernel
theorem d_W_compare_51 : decode b_W_compare 51 = .ok (.if_icmp .eq 24, 3) := by decide +kernel
theorem d_W_compare_54 : decode b_W_compare 54 = .ok (.aload_n 0, 1) := by decide +kernel
theorem d_W_compare_55 : decode b_W_compare 55 = .ok (.getfield 17, 3) := by decide +kernel
theorem d_W_compare_58 : decode b_W_compare 58 = .ok (.iload_n 2, 1) := by decide +kernel
theorem d_W_compare_59 : decode b_W_compare 59 = .ok (.iaload, 1) := by decide +kernel
theorem d_W_compare_60 : decode b_W_compare 60 = .ok (.aload_n 1, 1) := by decide +kernel
theorem d_W_compare_61 : decode b_W_compare 61 = .ok (.getfield 17, 3) := by decide +kernel
theorem d_W_compare_64 : decode b_W_compare 64 = .ok (.iload_n 2, 1) := by decide +kernel
theorem d_W_compare_65 : decode b_W_compare 65 = .ok (.iaload, 1) := by decide +kernel
theorem d_W_compare_66 : decode b_W_compare 66 = .ok (.if_icmp .ge 7, 3) := by decide +kernel
theorem d_W_compare_69 : decode b_W_compare 69 = .ok (.iconst (-1), 1) := by decide +kernel
theorem d_W_compare_70 : decode b_W_compare 70 = .ok (.goto 4, 3) := by decide +kernel
theorem d_W_compare_73 : decode b_W_compare 73 = .ok (.iconst 1, 1) := by decide +kernel
theorem d_W_compare_74 : decode b_W_compare 74 = .ok (.ireturn, 1) := by decide +kernel
theorem d_W_compare_75 : decode b_W_compare 75 = .ok (.iinc 2 (-1), 3) := by decide +kernel
theorem d_W_compare_78 : decode b_W_compare 78 = .ok (.goto (-43), 3) := by decide +kernel
theorem d_W_compare_81 : decode b_W_compare 81 = .ok (.iconst 0, 1) := by decide +kernel
theorem d_W_compare_82 : decode b_W_compare 82 = .ok (.ireturn, 1) := by decide +kernel
theorem d_W_isZero_0 : decode b_W_isZero 0 = .ok (.aload_n 0, 1) := by decide +kernel
theorem d_W_isZero_1 : decode b_W_isZero 1 = .ok (.getfield 21, 3) := by decide +kernel
theorem d_W_isZero_4 : decode b_W_isZero 4 = .ok (.ifCond .ne 7, 3) := by decide +kernel
theorem d_W_isZero_7 : decode b_W_isZero 7 = .ok (.iconst 1, 1) := by decide +kernel
theorem d_W_isZero_8 : decode b_W_isZero 8 = .ok (.goto 4, 3) := by decide +kernel
theorem d_W_isZero_11 : decode b_W_isZero 11 = .ok (.iconst 0, 1) := by decide +kernel
theorem d_W_isZero_12 : decode b_W_isZero 12 = .ok (.ireturn, 1) := by decide +kernel
theorem d_D_findLeap_0 : decode b_D_findLeap 0 = .ok (.aload_n 0, 1) := by decide +kernel
theorem d_D_findLeap_1 : decode b_D_findLeap 1 = .ok (.lconst 1, 1) := by decide +kernel
theorem d_D_findLeap_2 : decode b_D_findLeap 2 = .ok (.putfield 32, 3) := by decide +kernel
theorem d_D_findLeap_5 : decode b_D_findLeap 5 = .ok (.aload_n 0, 1) := by decide +kernel
theorem d_D_findLeap_6 : decode b_D_findLeap 6 = .ok (.lconst 0, 1) := by decide +kernel
theorem d_D_findLeap_7 : decode b_D_findLeap 7 = .ok (.putfield 36, 3) := by decide +kernel
theorem d_D_findLeap_10 : decode b_D_findLeap 10 = .ok (.aload_n 0, 1) := by decide +kernel
theorem d_D_findLeap_11 : decode b_D_findLeap 11 = .ok (.lconst 0, 1) := by decide +kernel
theorem d_D_findLeap_12 : decode b_D_findLeap 12 = .ok (.putfield 43, 3) := by decide +kernel
theorem d_D_findLeap_15 : decode b_D_findLeap 15 = .ok (.aload_n 0, 1) := by decide +kernel
theorem d_D_findLeap_16 : decode b_D_findLeap 16 = .ok (.lconst 1, 1) := by decide +kernel
theorem d_D_findLeap_17 : decode b_D_findLeap 17 = .ok (.putfield 46, 3) := by decide +kernel
theorem d_D_findLeap_20 : decode b_D_findLeap 20 = .ok (.aload_n 1, 1) := by decide +kernel
theorem d_D_findLeap_21 : decode b_D_findLeap 21 = .ok (.invokevirtual 57, 3) := by decide +kernel
theorem d_D_findLeap_24 : decode b_D_findLeap 24 = .ok (.istore_n 3, 1) := by decide +kernel
theorem d_D_findLeap_25 : decode b_D_findLeap 25 = .ok (.aload_n 1, 1) := by decide +kernel
theorem d_D_findLeap_26 : decode b_D_findLeap 26 = .ok (.aload_n 1, 1) := by decide +kernel
theorem d_D_findLeap_27 : decode b_D_findLeap 27 = .ok (.getfield 61, 3) := by decide +kernel
theorem d_D_findLeap_30 : decode b_D_findLeap 30 = .ok (.iload_n 3, 1) := by decide +kernel
theorem d_D_findLeap_31 : decode b_D_findLeap 31 = .ok (.invokestatic 65, 3) := by decide +kernel
theorem d_D_findLeap_34 : decode b_D_findLeap 34 = .ok (.lstore 4, 2) := by decide +kernel
theorem d_D_findLeap_36 : decode b_D_findLeap 36 = .ok (.aload_n 2, 1) := by decide +kernel
theorem d_D_findLeap_37 : decode b_D_findLeap 37 = .ok (.aload_n 1, 1) := by decide +kernel
theorem d_D_findLeap_38 : decode b_D_findLeap 38 = .ok (.getfield 61, 3) := by decide +kernel
theorem d_D_findLeap_41 : decode b_D_findLeap 41 = .ok (.iload_n 3, 1) := by decide +kernel
theorem d_D_findLeap_42 : decode b_D_findLeap 42 = .ok (.invokestatic 65, 3) := by decide +kernel
theorem d_D_findLeap_45 : decode b_D_findLeap 45 = .ok (.lstore 6, 2) := by decide +kernel
theorem d_D_findLeap_47 : decode b_D_findLeap 47 = .ok (.iconst 0, 1) := by decide +kernel
theorem d_D_findLeap_48 : decode b_D_findLeap 48 = .ok (.istore 8, 2) := by decide +kernel
theorem d_D_findLeap_50 : decode b_D_findLeap 50 = .ok (.iload 8, 2) := by decide +kernel
theorem d_D_findLeap_52 : decode b_D_findLeap 52 = .ok (.bipush 64, 2) := by decide +kernel
theorem d_D_findLeap_54 : decode b_D_findLeap 54 = .ok (.if_icmp .ge 184, 3) := by decide +kernel
theorem d_D_findLeap_57 : decode b_D_findLeap 57 = .ok (.lload 6, 2) := by decide +kernel
theorem d_D_findLeap_59 : decode b_D_findLeap 59 = .ok (.aload_n 0, 1) := by decide +kernel
theorem d_D_findLeap_60 : decode b_D_findLeap 60 = .ok (.getfield 43, 3) := by decide +kernel
theorem d_D_findLeap_63 : decode b_D_findLeap 63 = .ok (.ladd, 1) := by decide +kernel
theorem d_D_findLeap_64 : decode b_D_findLeap 64 = .ok (.lconst 0, 1) := by decide +kernel
theorem d_D_findLeap_65 : decode b_D_findLeap 65 = .ok (.lcmp, 1) := by decide +kernel
theorem d_D_findLeap_66 : decode b_D_findLeap 66 = .ok (.ifCond .le 172, 3) := by decide +kernel
theorem d_D_findLeap_69 : decode b_D_findLeap 69 = .ok (.lload 6, 2) := by decide +kernel
theorem d_D_findLeap_71 : decode b_D_findLeap 71 = .ok (.aload_n 0, 1) := by decide +kernel
theorem d_D_findLeap_72 : decode b_D_findLeap 72 = .ok (.getfield 46, 3) := by decide +kernel
theorem d_D_findLeap_75 : decode b_D_findLeap 75 = .ok (.ladd, 1) := by decide +kernel
theorem d_D_findLeap_76 : decode b_D_findLeap 76 = .ok (.lconst 0, 1) := by decide +kernel
theorem d_D_findLeap_77 : decode b_D_findLeap 77 = .ok (.lcmp, 1) := by decide +kernel
theorem d_D_findLeap_78 : decode b_D_findLeap 78 = .ok (.ifCond .le 160, 3) := by decide +kernel
theorem d_D_findLeap_81 : decode b_D_findLeap 81 = .ok (.lload 4, 2) := by decide +kernel
theorem d_D_findLeap_83 : decode b_D_findLeap 83 = .ok (.aload_n 0, 1) := by decide +kernel
theorem d_D_findLeap_84 : decode b_D_findLeap 84 = .ok (.getfield 32, 3) := by decide +kernel
theorem d_D_findLeap_87 : decode b_D_findLeap 87 = .ok (.ladd, 1) := by decide +kernel
theorem d_D_findLeap_88 : decode b_D_findLeap 88 = .ok (.lload 6, 2) := by decide +kernel
theorem d_D_findLeap_90 : decode b_D_findLeap 90 = .ok (.aload_n 0, 1) := by decide +kernel
theorem d_D_findLeap_91 : decode b_D_findLeap 91 = .ok (.getfield 43, 3) := by decide +kernel
theorem d_D_findLeap_94 : decode b_D_findLeap 94 = .ok (.ladd, 1) := by decide +kernel
theorem d_D_findLeap_95 : decode b_D_findLeap 95 = .ok (.ldiv, 1) := by decide +kernel
theorem d_D_findLeap_96 : decode b_D_findLeap 96 = .ok (.lstore 9, 2) := by decide +kernel
theorem d_D_findLeap_98 : decode b_D_findLeap 98 = .ok (.lload 9, 2) := by decide +kernel
theorem d_D_findLeap_100 : decode b_D_findLeap 100 = .ok (.ldc2_w 69, 3) := by decide +kernel
theorem d_D_findLeap_103 : decode b_D_findLeap 103 = .ok (.lcmp, 1) := by decide +kernel
theorem d_D_findLeap_104 : decode b_D_findLeap 104 = .ok (.ifCond .ge 134, 3) := by decide +kernel
theorem d_D_findLeap_107 : decode b_D_findLeap 107 = .ok (.lload 9, 2) := by decide +kernel
theorem d_D_findLeap_109 : decode b_D_findLeap 109 = .ok (.lload 4, 2) := by decide +kernel
theorem d_D_findLeap_111 : decode b_D_findLeap 111 = .ok (.aload_n 0, 1) := by decide +kernel
theorem d_D_findLeap_112 : decode b_D_findLeap 112 = .ok (.getfield 36, 3) := by decide +kernel
theorem d_D_findLeap_115 : decode b_D_findLeap 115 = .ok (.ladd, 1) := by decide +kernel
theorem d_D_findLeap_116 : decode b_D_findLeap 116 = .ok (.lload 6, 2) := by decide +kernel
theorem d_D_findLeap_118 : decode b_D_findLeap 118 = .ok (.aload_n 0, 1) := by decide +kernel
theorem d_D_findLeap_119 : decode b_D_findLeap 119 = .ok (.getfield 46, 3) := by decide +kernel
theorem d_D_findLeap_122 : decode b_D_findLeap 122 = .ok (.ladd, 1) := by decide +kernel
theorem d_D_findLeap_123 : decode b_D_findLeap 123 = .ok (.ldiv, 1) := by decide +kernel
theorem d_D_findLeap_124 : decode b_D_findLeap 124 = .ok (.lcmp, 1) := by decide +kernel
theorem d_D_findLeap_125 : decode b_D_findLeap 125 = .ok (.ifCond .eq 6, 3) := by decide +kernel
theorem d_D_findLeap_128 : decode b_D_findLeap 128 = .ok (.goto 110, 3) := by decide +kernel
theorem d_D_findLeap_131 : decode b_D_findLeap 131 = .ok (.aload_n 0, 1) := by decide +kernel
theorem d_D_findLeap_132 : decode b_D_findLeap 132 = .ok (.getfield 32, 3) := by decide +kernel
theorem d_D_findLeap_135 : decode b_D_findLeap 135 = .ok (.lload 9, 2) := by decide +kernel
theorem d_D_findLeap_137 : decode b_D_findLeap 137 = .ok (.aload_n 0, 1) := by decide +kernel
theorem d_D_findLeap_138 : decode b_D_findLeap 138 = .ok (.getfield 43, 3) := by decide +kernel
theorem d_D_findLeap_141 : decode b_D_findLeap 141 = .ok (.lmul, 1) := by decide +kernel
theorem d_D_findLeap_142 : decode b_D_findLeap 142 = .ok (.lsub, 1) := by decide +kernel
theorem d_D_findLeap_143 : decode b_D_findLeap 143 = .ok (.lstore 11, 2) := by decide +kernel
theorem d_D_findLeap_145 : decode b_D_findLeap 145 = .ok (.aload_n 0, 1) := by decide +kernel
theorem d_D_findLeap_146 : decode b_D_findLeap 146 = .ok (.getfield 36, 3) := by decide +kernel
theorem d_D_findLeap_149 : decode b_D_findLeap 149 = .ok (.lload 9, 2) := by decide +kernel
theorem d_D_findLeap_151 : decode b_D_findLeap 151 = .ok (.aload_n 0, 1) := by decide +kernel
theorem d_D_findLeap_152 : decode b_D_findLeap 152 = .ok (.getfield 46, 3) := by decide +kernel
theorem d_D_findLeap_155 : decode b_D_findLeap 155 = .ok (.lmul, 1) := by decide +kernel
theorem d_D_findLeap_156 : decode b_D_findLeap 156 = .ok (.lsub, 1) := by decide +kernel
theorem d_D_findLeap_157 : decode b_D_findLeap 157 = .ok (.lstore 13, 2) := by decide +kernel
theorem d_D_findLeap_159 : decode b_D_findLeap 159 = .ok (.lload 11, 2) := by decide +kernel
theorem d_D_findLeap_161 : decode b_D_findLeap 161 = .ok (.invokestatic 71, 3) := by decide +kernel
theorem d_D_findLeap_164 : decode b_D_findLeap 164 = .ok (.ldc2_w 69, 3) := by decide +kernel
theorem d_D_findLeap_167 : decode b_D_findLeap 167 = .ok (.lcmp, 1) := by decide +kernel
theorem d_D_findLeap_168 : decode b_D_findLeap 168 = .ok (.ifCond .ge 70, 3) := by decide +kernel
theorem d_D_findLeap_171 : decode b_D_findLeap 171 = .ok (.lload 13, 2) := by decide +kernel
theorem d_D_findLeap_173 : decode b_D_findLeap 173 = .ok (.invokestatic 71, 3) := by decide +kernel
theorem d_D_findLeap_176 : decode b_D_findLeap 176 = .ok (.ldc2_w 69, 3) := by decide +kernel
theorem d_D_findLeap_179 : decode b_D_findLeap 179 = .ok (.lcmp, 1) := by decide +kernel
theorem d_D_findLeap_180 : decode b_D_findLeap 180 = .ok (.ifCond .lt 6, 3) := by decide +kernel
theorem d_D_findLeap_183 : decode b_D_findLeap 183 = .ok (.goto 55, 3) := by decide +kernel
theorem d_D_findLeap_186 : decode b_D_findLeap 186 = .ok (.aload_n 0, 1) := by decide +kernel
theorem d_D_findLeap_187 : decode b_D_findLeap 187 = .ok (.aload_n 0, 1) := by decide +kernel
theorem d_D_findLeap_188 : decode b_D_findLeap 188 = .ok (.getfield 43, 3) := by decide +kernel
theorem d_D_findLeap_191 : decode b_D_findLeap 191 = .ok (.putfield 32, 3) := by decide +kernel
theorem d_D_findLeap_194 : decode b_D_findLeap 194 = .ok (.aload_n 0, 1) := by decide +kernel
theorem d_D_findLeap_195 : decode b_D_findLeap 195 = .ok (.aload_n 0, 1) := by decide +kernel
theorem d_D_findLeap_196 : decode b_D_findLeap 196 = .ok (.getfield 46, 3) := by decide +kernel
theorem d_D_findLeap_199 : decode b_D_findLeap 199 = .ok (.putfield 36, 3) := by decide +kernel
theorem d_D_findLeap_202 : decode b_D_findLeap 202 = .ok (.aload_n 0, 1) := by decide +kernel
theorem d_D_findLeap_203 : decode b_D_findLeap 203 = .ok (.lload 11, 2) := by decide +kernel
theorem d_D_findLeap_205 : decode b_D_findLeap 205 = .ok (.putfield 43, 3) := by decide +kernel
theorem d_D_findLeap_208 : decode b_D_findLeap 208 = .ok (.aload_n 0, 1) := by decide +kernel
theorem d_D_findLeap_209 : decode b_D_findLeap 209 = .ok (.lload 13, 2) := by decide +kernel
theorem d_D_findLeap_211 : decode b_D_findLeap 211 = .ok (.putfield 46, 3) := by decide +kernel
theorem d_D_findLeap_214 : decode b_D_findLeap 214 = .ok (.lload 4, 2) := by decide +kernel
theorem d_D_findLeap_216 : decode b_D_findLeap 216 = .ok (.lload 9, 2) := by decide +kernel
theorem d_D_findLeap_218 : decode b_D_findLeap 218 = .ok (.lload 6, 2) := by decide +kernel
theorem d_D_findLeap_220 : decode b_D_findLeap 220 = .ok (.lmul, 1) := by decide +kernel
theorem d_D_findLeap_221 : decode b_D_findLeap 221 = .ok (.lsub, 1) := by decide +kernel
theorem d_D_findLeap_222 : decode b_D_findLeap 222 = .ok (.lstore 15, 2) := by decide +kernel
theorem d_D_findLeap_224 : decode b_D_findLeap 224 = .ok (.lload 6, 2) := by decide +kernel
theorem d_D_findLeap_226 : decode b_D_findLeap 226 = .ok (.lstore 4, 2) := by decide +kernel
theorem d_D_findLeap_228 : decode b_D_findLeap 228 = .ok (.lload 15, 2) := by decide +kernel
theorem d_D_findLeap_230 : decode b_D_findLeap 230 = .ok (.lstore 6, 2) := by decide +kernel
theorem d_D_findLeap_232 : decode b_D_findLeap 232 = .ok (.iinc 8 1, 3) := by decide +kernel
theorem d_D_findLeap_235 : decode b_D_findLeap 235 = .ok (.goto (-185), 3) := by decide +kernel
theorem d_D_findLeap_238 : decode b_D_findLeap 238 = .ok (.aload_n 0, 1) := by decide +kernel
theorem d_D_findLeap_239 : decode b_D_findLeap 239 = .ok (.getfield 36, 3) := by decide +kernel
theorem d_D_findLeap_242 : decode b_D_findLeap 242 = .ok (.lconst 0, 1) := by decide +kernel
theorem d_D_findLeap_243 : decode b_D_findLeap 243 = .ok (.lcmp, 1) := by decide +kernel
theorem d_D_findLeap_244 : decode b_D_findLeap 244 = .ok (.ifCond .eq 7, 3) := by decide +kernel
theorem d_D_findLeap_247 : decode b_D_findLeap 247 = .ok (.iconst 1, 1) := by decide +kernel
theorem d_D_findLeap_248 : decode b_D_findLeap 248 = .ok (.goto 4, 3) := by decide +kernel
theorem d_D_findLeap_251 : decode b_D_findLeap 251 = .ok (.iconst 0, 1) := by decide +kernel
theorem d_D_findLeap_252 : decode b_D_findLeap 252 = .ok (.ireturn, 1) := by decide +kernel
theorem d_W_spareBits_0 : decode b_W_spareBits 0 = .ok (.aload_n 0, 1) := by decide +kernel
theorem d_W_spareBits_1 : decode b_W_spareBits 1 = .ok (.getfield 21, 3) := by decide +kernel
theorem d_W_spareBits_4 : decode b_W_spareBits 4 = .ok (.ifCond .ne 7, 3) := by decide +kernel
theorem d_W_spareBits_7 : decode b_W_spareBits 7 = .ok (.iconst 0, 1) := by decide +kernel
theorem d_W_spareBits_8 : decode b_W_spareBits 8 = .ok (.goto 19, 3) := by decide +kernel
theorem d_W_spareBits_11 : decode b_W_spareBits 11 = .ok (.aload_n 0, 1) := by decide +kernel
theorem d_W_spareBits_12 : decode b_W_spareBits 12 = .ok (.getfield 17, 3) := by decide +kernel
theorem d_W_spareBits_15 : decode b_W_spareBits 15 = .ok (.aload_n 0, 1) := by decide +kernel
theorem d_W_spareBits_16 : decode b_W_spareBits 16 = .ok (.getfield 21, 3) := by decide +kernel
theorem d_W_spareBits_19 : decode b_W_spareBits 19 = .ok (.iconst 1, 1) := by decide +kernel
theorem d_W_spareBits_20 : decode b_W_spareBits 20 = .ok (.isub, 1) := by decide +kernel
theorem d_W_spareBits_21 : decode b_W_spareBits 21 = .ok (.iaload, 1) := by decide +kernel
theorem d_W_spareBits_22 : decode b_W_spareBits 22 = .ok (.invokestatic 32, 3) := by decide +kernel
theorem d_W_spareBits_25 : decode b_W_spareBits 25 = .ok (.iconst 1, 1) := by decide +kernel
theorem d_W_spareBits_26 : decode b_W_spareBits 26 = .ok (.isub, 1) := by decide +kernel
theorem d_W_spareBits_27 : decode b_W_spareBits 27 = .ok (.ireturn, 1) := by decide +kernel
theorem d_JI_numberOfLeadingZeros_0 : decode b_JI_numberOfLeadingZeros 0 = .ok (.iload_n 0, 1) := by decide +kernel
theorem d_JI_numberOfLeadingZeros_1 : decode b_JI_numberOfLeadingZeros 1 = .ok (.ifCond .gt 14, 3) := by decide +kernel
theorem d_JI_numberOfLeadingZeros_4 : decode b_JI_numberOfLeadingZeros 4 = .ok (.iload_n 0, 1) := by decide +kernel
theorem d_JI_numberOfLeadingZeros_5 : decode b_JI_numberOfLeadingZeros 5 = .ok (.ifCond .ne 8, 3) := by decide +kernel
theorem d_JI_numberOfLeadingZeros_8 : decode b_JI_numberOfLeadingZeros 8 = .ok (.bipush 32, 2) := by decide +kernel
theorem d_JI_numberOfLeadingZeros_10 : decode b_JI_numberOfLeadingZeros 10 = .ok (.goto 4, 3) := by decide +kernel
theorem d_JI_numberOfLeadingZeros_13 : decode b_JI_numberOfLeadingZeros 13 = .ok (.iconst 0, 1) := by decide +kernel
theorem d_JI_numberOfLeadingZeros_14 : decode b_JI_numberOfLeadingZeros 14 = .ok (.ireturn, 1) := by decide +kernel
theorem d_JI_numberOfLeadingZeros_15 : decode b_JI_numberOfLeadingZeros 15 = .ok (.bipush 31, 2) := by decide +kernel
theorem d_JI_numberOfLeadingZeros_17 : decode b_JI_numberOfLeadingZeros 17 = .ok (.istore_n 1, 1) := by decide +kernel
theorem d_JI_numberOfLeadingZeros_18 : decode b_JI_numberOfLeadingZeros 18 = .ok (.iload_n 0, 1) := by decide +kernel
theorem d_JI_numberOfLeadingZeros_19 : decode b_JI_numberOfLeadingZeros 19 = .ok (.ldc_w 264, 3) := by decide +kernel
theorem d_JI_numberOfLeadingZeros_22 : decode b_JI_numberOfLeadingZeros 22 = .ok (.if_icmp .lt 11, 3) := by decide +kernel
theorem d_JI_numberOfLeadingZeros_25 : decode b_JI_numberOfLeadingZeros 25 = .ok (.iinc 1 (-16), 3) := by decide +kernel
theorem d_JI_numberOfLeadingZeros_28 : decode b_JI_numberOfLeadingZeros 28 = .ok (.iload_n 0, 1) := by decide +kernel
theorem d_JI_numberOfLeadingZeros_29 : decode b_JI_numberOfLeadingZeros 29 = .ok (.bipush 16, 2) := by decide +kernel
theorem d_JI_numberOfLeadingZeros_31 : decode b_JI_numberOfLeadingZeros 31 = .ok (.iushr, 1) := by decide +kernel
theorem d_JI_numberOfLeadingZeros_32 : decode b_JI_numberOfLeadingZeros 32 = .ok (.istore_n 0, 1) := by decide +kernel
theorem d_JI_numberOfLeadingZeros_33 : decode b_JI_numberOfLeadingZeros 33 = .ok (.iload_n 0, 1) := by decide +kernel
theorem d_JI_numberOfLeadingZeros_34 : decode b_JI_numberOfLeadingZeros 34 = .ok (.sipush 256, 3) := by decide +kernel
theorem d_JI_numberOfLeadingZeros_37 : decode b_JI_numberOfLeadingZeros 37 = .ok (.if_icmp .lt 11, 3) := by decide +kernel
theorem d_JI_numberOfLeadingZeros_40 : decode b_JI_numberOfLeadingZeros 40 = .ok (.iinc 1 (-8), 3) := by decide +kernel
theorem d_JI_numberOfLeadingZeros_43 : decode b_JI_numberOfLeadingZeros 43 = .ok (.iload_n 0, 1) := by decide +kernel
theorem d_JI_numberOfLeadingZeros_44 : decode b_JI_numberOfLeadingZeros 44 = .ok (.bipush 8, 2) := by decide +kernel
theorem d_JI_numberOfLeadingZeros_46 : decode b_JI_numberOfLeadingZeros 46 = .ok (.iushr, 1) := by decide +kernel
theorem d_JI_numberOfLeadingZeros_47 : decode b_JI_numberOfLeadingZeros 47 = .ok (.istore_n 0, 1) := by decide +kernel
theorem d_JI_numberOfLeadingZeros_48 : decode b_JI_numberOfLeadingZeros 48 = .ok (.iload_n 0, 1) := by decide +kernel
theorem d_JI_numberOfLeadingZeros_49 : decode b_JI_numberOfLeadingZeros 49 = .ok (.bipush 16, 2) := by decide +kernel
theorem d_JI_numberOfLeadingZeros_51 : decode b_JI_numberOfLeadingZeros 51 = .ok (.if_icmp .lt 10, 3) := by decide +kernel
theorem d_JI_numberOfLeadingZeros_54 : decode b_JI_numberOfLeadingZeros 54 = .ok (.iinc 1 (-4), 3) := by decide +kernel
theorem d_JI_numberOfLeadingZeros_57 : decode b_JI_numberOfLeadingZeros 57 = .ok (.iload_n 0, 1) := by decide +kernel
theorem d_JI_numberOfLeadingZeros_58 : decode b_JI_numberOfLeadingZeros 58 = .ok (.iconst 4, 1) := by decide +kernel
theorem d_JI_numberOfLeadingZeros_59 : decode b_JI_numberOfLeadingZeros 59 = .ok (.iushr, 1) := by decide +kernel
theorem d_JI_numberOfLeadingZeros_60 : decode b_JI_numberOfLeadingZeros 60 = .ok (.istore_n 0, 1) := by decide +kernel
theorem d_JI_numberOfLeadingZeros_61 : decode b_JI_numberOfLeadingZeros 61 = .ok (.iload_n 0, 1) := by decide +kernel
theorem d_JI_numberOfLeadingZeros_62 : decode b_JI_numberOfLeadingZeros 62 = .ok (.iconst 4, 1) := by decide +kernel
theorem d_JI_numberOfLeadingZeros_63 : decode b_JI_numberOfLeadingZeros 63 = .ok (.if_icmp .lt 10, 3) := by decide +kernel
theorem d_JI_numberOfLeadingZeros_66 : decode b_JI_numberOfLeadingZeros 66 = .ok (.iinc 1 (-2), 3) := by decide +kernel
theorem d_JI_numberOfLeadingZeros_69 : decode b_JI_numberOfLeadingZeros 69 = .ok (.iload_n 0, 1) := by decide +kernel
theorem d_JI_numberOfLeadingZeros_70 : decode b_JI_numberOfLeadingZeros 70 = .ok (.iconst 2, 1) := by decide +kernel
theorem d_JI_numberOfLeadingZeros_71 : decode b_JI_numberOfLeadingZeros 71 = .ok (.iushr, 1) := by decide +kernel
theorem d_JI_numberOfLeadingZeros_72 : decode b_JI_numberOfLeadingZeros 72 = .ok (.istore_n 0, 1) := by decide +kernel
theorem d_JI_numberOfLeadingZeros_73 : decode b_JI_numberOfLeadingZeros 73 = .ok (.iload_n 1, 1) := by decide +kernel
theorem d_JI_numberOfLeadingZeros_74 : decode b_JI_numberOfLeadingZeros 74 = .ok (.iload_n 0, 1) := by decide +kernel
theorem d_JI_numberOfLeadingZeros_75 : decode b_JI_numberOfLeadingZeros 75 = .ok (.iconst 1, 1) := by decide +kernel
theorem d_JI_numberOfLeadingZeros_76 : decode b_JI_numberOfLeadingZeros 76 = .ok (.iushr, 1) := by decide +kernel
theorem d_JI_numberOfLeadingZeros_77 : decode b_JI_numberOfLeadingZeros 77 = .ok (.isub, 1) := by decide +kernel
theorem d_JI_numberOfLeadingZeros_78 : decode b_JI_numberOfLeadingZeros 78 = .ok (.ireturn, 1) := by decide +kernel
theorem d_D_highest_0 : decode b_D_highest 0 = .ok (.aload_n 0, 1) := by decide +kernel
theorem d_D_highest_1 : decode b_D_highest 1 = .ok (.iload_n 1, 1) := by decide +kernel
theorem d_D_highest_2 : decode b_D_highest 2 = .ok (.iconst 1, 1) := by decide +kernel
theorem d_D_highest_3 : decode b_D_highest 3 = .ok (.isub, 1) := by decide +kernel
theorem d_D_highest_4 : decode b_D_highest 4 = .ok (.iload_n 2, 1) := by decide +kernel
theorem d_D_highest_5 : decode b_D_highest 5 = .ok (.invokevirtual 77, 3) := by decide +kernel
theorem d_D_highest_8 : decode b_D_highest 8 = .ok (.bipush 31, 2) := by decide +kernel
theorem d_D_highest_10 : decode b_D_highest 10 = .ok (.lshl, 1) := by decide +kernel
theorem d_D_highest_11 : decode b_D_highest 11 = .ok (.aload_n 0, 1) := by decide +kernel
theorem d_D_highest_12 : decode b_D_highest 12 = .ok (.iload_n 1, 1) := by decide +kernel
theorem d_D_highest_13 : decode b_D_highest 13 = .ok (.iconst 2, 1) := by decide +kernel
end
section
/-! the instructions, by program -/
theorem d_D_highest_14 : decode b_D_highest 14 = .ok (.isub, 1) := by decide +kernel
theorem d_D_highest_15 : decode b_D_highest 15 = .ok (.iload_n 2, 1) := by decide +kernel
theorem d_D_highest_16 : decode b_D_highest 16 = .ok (.invokevirtual 77, 3) := by decide +kernel
theorem d_D_highest_19 : decode b_D_highest 19 = .ok (.lor, 1) := by decide +kernel
theorem d_D_highest_20 : decode b_D_highest 20 = .ok (.lreturn, 1) := by decide +kernel
theorem d_W_shiftedLimb_0 : decode b_W_shiftedLimb 0 = .ok (.aload_n 0, 1) := by decide +kernel
theorem d_W_shiftedLimb_1 : decode b_W_shiftedLimb 1 = .ok (.iload_n 1, 1) := by decide +kernel
theorem d_W_shiftedLimb_2 : decode b_W_shiftedLimb 2 = .ok (.invokevirtual 38, 3) := by decide +kernel
theorem d_W_shiftedLimb_5 : decode b_W_shiftedLimb 5 = .ok (.i2l, 1) := by decide +kernel
theorem d_W_shiftedLimb_6 : decode b_W_shiftedLimb 6 = .ok (.iload_n 2, 1) := by decide +kernel
theorem d_W_shiftedLimb_7 : decode b_W_shiftedLimb 7 = .ok (.lshl, 1) := by decide +kernel
theorem d_W_shiftedLimb_8 : decode b_W_shiftedLimb 8 = .ok (.aload_n 0, 1) := by decide +kernel
theorem d_W_shiftedLimb_9 : decode b_W_shiftedLimb 9 = .ok (.iload_n 1, 1) := by decide +kernel
theorem d_W_shiftedLimb_10 : decode b_W_shiftedLimb 10 = .ok (.iconst 1, 1) := by decide +kernel
theorem d_W_shiftedLimb_11 : decode b_W_shiftedLimb 11 = .ok (.isub, 1) := by decide +kernel
theorem d_W_shiftedLimb_12 : decode b_W_shiftedLimb 12 = .ok (.invokevirtual 38, 3) := by decide +kernel
theorem d_W_shiftedLimb_15 : decode b_W_shiftedLimb 15 = .ok (.bipush 31, 2) := by decide +kernel
theorem d_W_shiftedLimb_17 : decode b_W_shiftedLimb 17 = .ok (.iload_n 2, 1) := by decide +kernel
theorem d_W_shiftedLimb_18 : decode b_W_shiftedLimb 18 = .ok (.isub, 1) := by decide +kernel
theorem d_W_shiftedLimb_19 : decode b_W_shiftedLimb 19 = .ok (.iushr, 1) := by decide +kernel
theorem d_W_shiftedLimb_20 : decode b_W_shiftedLimb 20 = .ok (.i2l, 1) := by decide +kernel
theorem d_W_shiftedLimb_21 : decode b_W_shiftedLimb 21 = .ok (.lor, 1) := by decide +kernel
theorem d_W_shiftedLimb_22 : decode b_W_shiftedLimb 22 = .ok (.lstore_n 3, 1) := by decide +kernel
theorem d_W_shiftedLimb_23 : decode b_W_shiftedLimb 23 = .ok (.lload_n 3, 1) := by decide +kernel
theorem d_W_shiftedLimb_24 : decode b_W_shiftedLimb 24 = .ok (.ldc2_w 43, 3) := by decide +kernel
theorem d_W_shiftedLimb_27 : decode b_W_shiftedLimb 27 = .ok (.land, 1) := by decide +kernel
theorem d_W_shiftedLimb_28 : decode b_W_shiftedLimb 28 = .ok (.lreturn, 1) := by decide +kernel
theorem d_W_limb_0 : decode b_W_limb 0 = .ok (.iload_n 1, 1) := by decide +kernel
theorem d_W_limb_1 : decode b_W_limb 1 = .ok (.ifCond .lt 20, 3) := by decide +kernel
theorem d_W_limb_4 : decode b_W_limb 4 = .ok (.iload_n 1, 1) := by decide +kernel
theorem d_W_limb_5 : decode b_W_limb 5 = .ok (.aload_n 0, 1) := by decide +kernel
theorem d_W_limb_6 : decode b_W_limb 6 = .ok (.getfield 21, 3) := by decide +kernel
theorem d_W_limb_9 : decode b_W_limb 9 = .ok (.if_icmp .ge 12, 3) := by decide +kernel
theorem d_W_limb_12 : decode b_W_limb 12 = .ok (.aload_n 0, 1) := by decide +kernel
theorem d_W_limb_13 : decode b_W_limb 13 = .ok (.getfield 17, 3) := by decide +kernel
theorem d_W_limb_16 : decode b_W_limb 16 = .ok (.iload_n 1, 1) := by decide +kernel
theorem d_W_limb_17 : decode b_W_limb 17 = .ok (.iaload, 1) := by decide +kernel
theorem d_W_limb_18 : decode b_W_limb 18 = .ok (.goto 4, 3) := by decide +kernel
theorem d_W_limb_21 : decode b_W_limb 21 = .ok (.iconst 0, 1) := by decide +kernel
theorem d_W_limb_22 : decode b_W_limb 22 = .ok (.ireturn, 1) := by decide +kernel
theorem d_W_becomeMix_0 : decode b_W_becomeMix 0 = .ok (.aload_n 3, 1) := by decide +kernel
theorem d_W_becomeMix_1 : decode b_W_becomeMix 1 = .ok (.getfield 21, 3) := by decide +kernel
theorem d_W_becomeMix_4 : decode b_W_becomeMix 4 = .ok (.aload 6, 2) := by decide +kernel
theorem d_W_becomeMix_6 : decode b_W_becomeMix 6 = .ok (.getfield 21, 3) := by decide +kernel
theorem d_W_becomeMix_9 : decode b_W_becomeMix 9 = .ok (.invokestatic 11, 3) := by decide +kernel
theorem d_W_becomeMix_12 : decode b_W_becomeMix 12 = .ok (.istore 7, 2) := by decide +kernel
theorem d_W_becomeMix_14 : decode b_W_becomeMix 14 = .ok (.iload 7, 2) := by decide +kernel
theorem d_W_becomeMix_16 : decode b_W_becomeMix 16 = .ok (.aload_n 0, 1) := by decide +kernel
theorem d_W_becomeMix_17 : decode b_W_becomeMix 17 = .ok (.getfield 17, 3) := by decide +kernel
theorem d_W_becomeMix_20 : decode b_W_becomeMix 20 = .ok (.arraylength, 1) := by decide +kernel
theorem d_W_becomeMix_21 : decode b_W_becomeMix 21 = .ok (.if_icmp .lt 9, 3) := by decide +kernel
theorem d_W_becomeMix_24 : decode b_W_becomeMix 24 = .ok (.aload_n 0, 1) := by decide +kernel
theorem d_W_becomeMix_25 : decode b_W_becomeMix 25 = .ok (.iconst 0, 1) := by decide +kernel
theorem d_W_becomeMix_26 : decode b_W_becomeMix 26 = .ok (.putfield 21, 3) := by decide +kernel
theorem d_W_becomeMix_29 : decode b_W_becomeMix 29 = .ok (.return_, 1) := by decide +kernel
theorem d_W_becomeMix_30 : decode b_W_becomeMix 30 = .ok (.lconst 0, 1) := by decide +kernel
theorem d_W_becomeMix_31 : decode b_W_becomeMix 31 = .ok (.lstore 8, 2) := by decide +kernel
theorem d_W_becomeMix_33 : decode b_W_becomeMix 33 = .ok (.iconst 0, 1) := by decide +kernel
theorem d_W_becomeMix_34 : decode b_W_becomeMix 34 = .ok (.istore 10, 2) := by decide +kernel
theorem d_W_becomeMix_36 : decode b_W_becomeMix 36 = .ok (.iload 10, 2) := by decide +kernel
theorem d_W_becomeMix_38 : decode b_W_becomeMix 38 = .ok (.iload 7, 2) := by decide +kernel
theorem d_W_becomeMix_40 : decode b_W_becomeMix 40 = .ok (.if_icmp .ge 93, 3) := by decide +kernel
theorem d_W_becomeMix_43 : decode b_W_becomeMix 43 = .ok (.iload 10, 2) := by decide +kernel
theorem d_W_becomeMix_45 : decode b_W_becomeMix 45 = .ok (.aload_n 3, 1) := by decide +kernel
theorem d_W_becomeMix_46 : decode b_W_becomeMix 46 = .ok (.getfield 21, 3) := by decide +kernel
theorem d_W_becomeMix_49 : decode b_W_becomeMix 49 = .ok (.if_icmp .ge 13, 3) := by decide +kernel
theorem d_W_becomeMix_52 : decode b_W_becomeMix 52 = .ok (.aload_n 3, 1) := by decide +kernel
theorem d_W_becomeMix_53 : decode b_W_becomeMix 53 = .ok (.getfield 17, 3) := by decide +kernel
theorem d_W_becomeMix_56 : decode b_W_becomeMix 56 = .ok (.iload 10, 2) := by decide +kernel
theorem d_W_becomeMix_58 : decode b_W_becomeMix 58 = .ok (.iaload, 1) := by decide +kernel
theorem d_W_becomeMix_59 : decode b_W_becomeMix 59 = .ok (.goto 4, 3) := by decide +kernel
theorem d_W_becomeMix_62 : decode b_W_becomeMix 62 = .ok (.iconst 0, 1) := by decide +kernel
theorem d_W_becomeMix_63 : decode b_W_becomeMix 63 = .ok (.istore 11, 2) := by decide +kernel
theorem d_W_becomeMix_65 : decode b_W_becomeMix 65 = .ok (.iload 10, 2) := by decide +kernel
theorem d_W_becomeMix_67 : decode b_W_becomeMix 67 = .ok (.aload 6, 2) := by decide +kernel
theorem d_W_becomeMix_69 : decode b_W_becomeMix 69 = .ok (.getfield 21, 3) := by decide +kernel
theorem d_W_becomeMix_72 : decode b_W_becomeMix 72 = .ok (.if_icmp .ge 14, 3) := by decide +kernel
theorem d_W_becomeMix_75 : decode b_W_becomeMix 75 = .ok (.aload 6, 2) := by decide +kernel
theorem d_W_becomeMix_77 : decode b_W_becomeMix 77 = .ok (.getfield 17, 3) := by decide +kernel
theorem d_W_becomeMix_80 : decode b_W_becomeMix 80 = .ok (.iload 10, 2) := by decide +kernel
theorem d_W_becomeMix_82 : decode b_W_becomeMix 82 = .ok (.iaload, 1) := by decide +kernel
theorem d_W_becomeMix_83 : decode b_W_becomeMix 83 = .ok (.goto 4, 3) := by decide +kernel
theorem d_W_becomeMix_86 : decode b_W_becomeMix 86 = .ok (.iconst 0, 1) := by decide +kernel
theorem d_W_becomeMix_87 : decode b_W_becomeMix 87 = .ok (.istore 12, 2) := by decide +kernel
theorem d_W_becomeMix_89 : decode b_W_becomeMix 89 = .ok (.lload_n 1, 1) := by decide +kernel
theorem d_W_becomeMix_90 : decode b_W_becomeMix 90 = .ok (.iload 11, 2) := by decide +kernel
theorem d_W_becomeMix_92 : decode b_W_becomeMix 92 = .ok (.i2l, 1) := by decide +kernel
theorem d_W_becomeMix_93 : decode b_W_becomeMix 93 = .ok (.lmul, 1) := by decide +kernel
theorem d_W_becomeMix_94 : decode b_W_becomeMix 94 = .ok (.lload 4, 2) := by decide +kernel
theorem d_W_becomeMix_96 : decode b_W_becomeMix 96 = .ok (.iload 12, 2) := by decide +kernel
theorem d_W_becomeMix_98 : decode b_W_becomeMix 98 = .ok (.i2l, 1) := by decide +kernel
theorem d_W_becomeMix_99 : decode b_W_becomeMix 99 = .ok (.lmul, 1) := by decide +kernel
theorem d_W_becomeMix_100 : decode b_W_becomeMix 100 = .ok (.ladd, 1) := by decide +kernel
theorem d_W_becomeMix_101 : decode b_W_becomeMix 101 = .ok (.lload 8, 2) := by decide +kernel
theorem d_W_becomeMix_103 : decode b_W_becomeMix 103 = .ok (.ladd, 1) := by decide +kernel
theorem d_W_becomeMix_104 : decode b_W_becomeMix 104 = .ok (.lstore 13, 2) := by decide +kernel
theorem d_W_becomeMix_106 : decode b_W_becomeMix 106 = .ok (.aload_n 0, 1) := by decide +kernel
theorem d_W_becomeMix_107 : decode b_W_becomeMix 107 = .ok (.getfield 17, 3) := by decide +kernel
theorem d_W_becomeMix_110 : decode b_W_becomeMix 110 = .ok (.iload 10, 2) := by decide +kernel
theorem d_W_becomeMix_112 : decode b_W_becomeMix 112 = .ok (.lload 13, 2) := by decide +kernel
theorem d_W_becomeMix_114 : decode b_W_becomeMix 114 = .ok (.ldc2_w 43, 3) := by decide +kernel
theorem d_W_becomeMix_117 : decode b_W_becomeMix 117 = .ok (.land, 1) := by decide +kernel
theorem d_W_becomeMix_118 : decode b_W_becomeMix 118 = .ok (.l2i, 1) := by decide +kernel
theorem d_W_becomeMix_119 : decode b_W_becomeMix 119 = .ok (.iastore, 1) := by decide +kernel
theorem d_W_becomeMix_120 : decode b_W_becomeMix 120 = .ok (.lload 13, 2) := by decide +kernel
theorem d_W_becomeMix_122 : decode b_W_becomeMix 122 = .ok (.bipush 31, 2) := by decide +kernel
theorem d_W_becomeMix_124 : decode b_W_becomeMix 124 = .ok (.lshr, 1) := by decide +kernel
theorem d_W_becomeMix_125 : decode b_W_becomeMix 125 = .ok (.lstore 8, 2) := by decide +kernel
theorem d_W_becomeMix_127 : decode b_W_becomeMix 127 = .ok (.iinc 10 1, 3) := by decide +kernel
theorem d_W_becomeMix_130 : decode b_W_becomeMix 130 = .ok (.goto (-94), 3) := by decide +kernel
theorem d_W_becomeMix_133 : decode b_W_becomeMix 133 = .ok (.aload_n 0, 1) := by decide +kernel
theorem d_W_becomeMix_134 : decode b_W_becomeMix 134 = .ok (.getfield 17, 3) := by decide +kernel
theorem d_W_becomeMix_137 : decode b_W_becomeMix 137 = .ok (.iload 7, 2) := by decide +kernel
theorem d_W_becomeMix_139 : decode b_W_becomeMix 139 = .ok (.lload 8, 2) := by decide +kernel
theorem d_W_becomeMix_141 : decode b_W_becomeMix 141 = .ok (.ldc2_w 43, 3) := by decide +kernel
theorem d_W_becomeMix_144 : decode b_W_becomeMix 144 = .ok (.land, 1) := by decide +kernel
theorem d_W_becomeMix_145 : decode b_W_becomeMix 145 = .ok (.l2i, 1) := by decide +kernel
theorem d_W_becomeMix_146 : decode b_W_becomeMix 146 = .ok (.iastore, 1) := by decide +kernel
theorem d_W_becomeMix_147 : decode b_W_becomeMix 147 = .ok (.aload_n 0, 1) := by decide +kernel
theorem d_W_becomeMix_148 : decode b_W_becomeMix 148 = .ok (.iload 7, 2) := by decide +kernel
theorem d_W_becomeMix_150 : decode b_W_becomeMix 150 = .ok (.iconst 1, 1) := by decide +kernel
theorem d_W_becomeMix_151 : decode b_W_becomeMix 151 = .ok (.iadd, 1) := by decide +kernel
theorem d_W_becomeMix_152 : decode b_W_becomeMix 152 = .ok (.invokevirtual 48, 3) := by decide +kernel
theorem d_W_becomeMix_155 : decode b_W_becomeMix 155 = .ok (.return_, 1) := by decide +kernel
theorem d_W_leaveRest_0 : decode b_W_leaveRest 0 = .ok (.aload_n 0, 1) := by decide +kernel
theorem d_W_leaveRest_1 : decode b_W_leaveRest 1 = .ok (.getfield 21, 3) := by decide +kernel
theorem d_W_leaveRest_4 : decode b_W_leaveRest 4 = .ok (.aload_n 1, 1) := by decide +kernel
theorem d_W_leaveRest_5 : decode b_W_leaveRest 5 = .ok (.getfield 21, 3) := by decide +kernel
theorem d_W_leaveRest_8 : decode b_W_leaveRest 8 = .ok (.isub, 1) := by decide +kernel
theorem d_W_leaveRest_9 : decode b_W_leaveRest 9 = .ok (.iconst 1, 1) := by decide +kernel
theorem d_W_leaveRest_10 : decode b_W_leaveRest 10 = .ok (.iadd, 1) := by decide +kernel
theorem d_W_leaveRest_11 : decode b_W_leaveRest 11 = .ok (.istore_n 3, 1) := by decide +kernel
theorem d_W_leaveRest_12 : decode b_W_leaveRest 12 = .ok (.aload_n 2, 1) := by decide +kernel
theorem d_W_leaveRest_13 : decode b_W_leaveRest 13 = .ok (.iconst 0, 1) := by decide +kernel
theorem d_W_leaveRest_14 : decode b_W_leaveRest 14 = .ok (.putfield 21, 3) := by decide +kernel
theorem d_W_leaveRest_17 : decode b_W_leaveRest 17 = .ok (.aload_n 1, 1) := by decide +kernel
theorem d_W_leaveRest_18 : decode b_W_leaveRest 18 = .ok (.getfield 21, 3) := by decide +kernel
theorem d_W_leaveRest_21 : decode b_W_leaveRest 21 = .ok (.ifCond .eq 28, 3) := by decide +kernel
theorem d_W_leaveRest_24 : decode b_W_leaveRest 24 = .ok (.iload_n 3, 1) := by decide +kernel
theorem d_W_leaveRest_25 : decode b_W_leaveRest 25 = .ok (.ifCond .le 24, 3) := by decide +kernel
theorem d_W_leaveRest_28 : decode b_W_leaveRest 28 = .ok (.iload_n 3, 1) := by decide +kernel
theorem d_W_leaveRest_29 : decode b_W_leaveRest 29 = .ok (.aload_n 2, 1) := by decide +kernel
theorem d_W_leaveRest_30 : decode b_W_leaveRest 30 = .ok (.getfield 17, 3) := by decide +kernel
theorem d_W_leaveRest_33 : decode b_W_leaveRest 33 = .ok (.arraylength, 1) := by decide +kernel
theorem d_W_leaveRest_34 : decode b_W_leaveRest 34 = .ok (.if_icmp .gt 15, 3) := by decide +kernel
theorem d_W_leaveRest_37 : decode b_W_leaveRest 37 = .ok (.aload_n 0, 1) := by decide +kernel
theorem d_W_leaveRest_38 : decode b_W_leaveRest 38 = .ok (.getfield 21, 3) := by decide +kernel
theorem d_W_leaveRest_41 : decode b_W_leaveRest 41 = .ok (.aload_n 0, 1) := by decide +kernel
theorem d_W_leaveRest_42 : decode b_W_leaveRest 42 = .ok (.getfield 17, 3) := by decide +kernel
theorem d_W_leaveRest_45 : decode b_W_leaveRest 45 = .ok (.arraylength, 1) := by decide +kernel
theorem d_W_leaveRest_46 : decode b_W_leaveRest 46 = .ok (.if_icmp .lt 4, 3) := by decide +kernel
theorem d_W_leaveRest_49 : decode b_W_leaveRest 49 = .ok (.return_, 1) := by decide +kernel
theorem d_W_leaveRest_50 : decode b_W_leaveRest 50 = .ok (.aload_n 0, 1) := by decide +kernel
theorem d_W_leaveRest_51 : decode b_W_leaveRest 51 = .ok (.getfield 17, 3) := by decide +kernel
theorem d_W_leaveRest_54 : decode b_W_leaveRest 54 = .ok (.aload_n 0, 1) := by decide +kernel
theorem d_W_leaveRest_55 : decode b_W_leaveRest 55 = .ok (.getfield 21, 3) := by decide +kernel
theorem d_W_leaveRest_58 : decode b_W_leaveRest 58 = .ok (.iconst 0, 1) := by decide +kernel
theorem d_W_leaveRest_59 : decode b_W_leaveRest 59 = .ok (.iastore, 1) := by decide +kernel
theorem d_W_leaveRest_60 : decode b_W_leaveRest 60 = .ok (.iload_n 3, 1) := by decide +kernel
theorem d_W_leaveRest_61 : decode b_W_leaveRest 61 = .ok (.iconst 1, 1) := by decide +kernel
theorem d_W_leaveRest_62 : decode b_W_leaveRest 62 = .ok (.isub, 1) := by decide +kernel
theorem d_W_leaveRest_63 : decode b_W_leaveRest 63 = .ok (.istore 4, 2) := by decide +kernel
theorem d_W_leaveRest_65 : decode b_W_leaveRest 65 = .ok (.iload 4, 2) := by decide +kernel
theorem d_W_leaveRest_67 : decode b_W_leaveRest 67 = .ok (.ifCond .lt 57, 3) := by decide +kernel
theorem d_W_leaveRest_70 : decode b_W_leaveRest 70 = .ok (.aload_n 0, 1) := by decide +kernel
theorem d_W_leaveRest_71 : decode b_W_leaveRest 71 = .ok (.aload_n 1, 1) := by decide +kernel
theorem d_W_leaveRest_72 : decode b_W_leaveRest 72 = .ok (.iload 4, 2) := by decide +kernel
theorem d_W_leaveRest_74 : decode b_W_leaveRest 74 = .ok (.invokevirtual 58, 3) := by decide +kernel
theorem d_W_leaveRest_77 : decode b_W_leaveRest 77 = .ok (.lstore 5, 2) := by decide +kernel
theorem d_W_leaveRest_79 : decode b_W_leaveRest 79 = .ok (.aload_n 0, 1) := by decide +kernel
theorem d_W_leaveRest_80 : decode b_W_leaveRest 80 = .ok (.aload_n 1, 1) := by decide +kernel
theorem d_W_leaveRest_81 : decode b_W_leaveRest 81 = .ok (.lload 5, 2) := by decide +kernel
theorem d_W_leaveRest_83 : decode b_W_leaveRest 83 = .ok (.iload 4, 2) := by decide +kernel
theorem d_W_leaveRest_85 : decode b_W_leaveRest 85 = .ok (.invokevirtual 62, 3) := by decide +kernel
theorem d_W_leaveRest_88 : decode b_W_leaveRest 88 = .ok (.ifCond .eq 20, 3) := by decide +kernel
theorem d_W_leaveRest_91 : decode b_W_leaveRest 91 = .ok (.lload 5, 2) := by decide +kernel
theorem d_W_leaveRest_93 : decode b_W_leaveRest 93 = .ok (.lconst 1, 1) := by decide +kernel
theorem d_W_leaveRest_94 : decode b_W_leaveRest 94 = .ok (.lsub, 1) := by decide +kernel
theorem d_W_leaveRest_95 : decode b_W_leaveRest 95 = .ok (.lstore 5, 2) := by decide +kernel
theorem d_W_leaveRest_97 : decode b_W_leaveRest 97 = .ok (.aload_n 0, 1) := by decide +kernel
theorem d_W_leaveRest_98 : decode b_W_leaveRest 98 = .ok (.aload_n 1, 1) := by decide +kernel
theorem d_W_leaveRest_99 : decode b_W_leaveRest 99 = .ok (.ldc2_w 66, 3) := by decide +kernel
theorem d_W_leaveRest_102 : decode b_W_leaveRest 102 = .ok (.iload 4, 2) := by decide +kernel
theorem d_W_leaveRest_104 : decode b_W_leaveRest 104 = .ok (.invokevirtual 62, 3) := by decide +kernel
theorem d_W_leaveRest_107 : decode b_W_leaveRest 107 = .ok (.pop, 1) := by decide +kernel
theorem d_W_leaveRest_108 : decode b_W_leaveRest 108 = .ok (.aload_n 2, 1) := by decide +kernel
theorem d_W_leaveRest_109 : decode b_W_leaveRest 109 = .ok (.getfield 17, 3) := by decide +kernel
theorem d_W_leaveRest_112 : decode b_W_leaveRest 112 = .ok (.iload 4, 2) := by decide +kernel
theorem d_W_leaveRest_114 : decode b_W_leaveRest 114 = .ok (.lload 5, 2) := by decide +kernel
theorem d_W_leaveRest_116 : decode b_W_leaveRest 116 = .ok (.l2i, 1) := by decide +kernel
theorem d_W_leaveRest_117 : decode b_W_leaveRest 117 = .ok (.iastore, 1) := by decide +kernel
theorem d_W_leaveRest_118 : decode b_W_leaveRest 118 = .ok (.iinc 4 (-1), 3) := by decide +kernel
theorem d_W_leaveRest_121 : decode b_W_leaveRest 121 = .ok (.goto (-56), 3) := by decide +kernel
theorem d_W_leaveRest_124 : decode b_W_leaveRest 124 = .ok (.aload_n 2, 1) := by decide +kernel
theorem d_W_leaveRest_125 : decode b_W_leaveRest 125 = .ok (.iload_n 3, 1) := by decide +kernel
theorem d_W_leaveRest_126 : decode b_W_leaveRest 126 = .ok (.invokevirtual 48, 3) := by decide +kernel
theorem d_W_leaveRest_129 : decode b_W_leaveRest 129 = .ok (.aload_n 0, 1) := by decide +kernel
theorem d_W_leaveRest_130 : decode b_W_leaveRest 130 = .ok (.aload_n 1, 1) := by decide +kernel
theorem d_W_leaveRest_131 : decode b_W_leaveRest 131 = .ok (.getfield 21, 3) := by decide +kernel
theorem d_W_leaveRest_134 : decode b_W_leaveRest 134 = .ok (.invokevirtual 48, 3) := by decide +kernel
theorem d_W_leaveRest_137 : decode b_W_leaveRest 137 = .ok (.return_, 1) := by decide +kernel
theorem d_W_trialDigit_0 : decode b_W_trialDigit 0 = .ok (.aload_n 1, 1) := by decide +kernel
theorem d_W_trialDigit_1 : decode b_W_trialDigit 1 = .ok (.invokevirtual 29, 3) := by decide +kernel
theorem d_W_trialDigit_4 : decode b_W_trialDigit 4 = .ok (.istore_n 3, 1) := by decide +kernel
theorem d_W_trialDigit_5 : decode b_W_trialDigit 5 = .ok (.iload_n 2, 1) := by decide +kernel
theorem d_W_trialDigit_6 : decode b_W_trialDigit 6 = .ok (.aload_n 1, 1) := by decide +kernel
theorem d_W_trialDigit_7 : decode b_W_trialDigit 7 = .ok (.getfield 21, 3) := by decide +kernel
theorem d_W_trialDigit_10 : decode b_W_trialDigit 10 = .ok (.iadd, 1) := by decide +kernel
theorem d_W_trialDigit_11 : decode b_W_trialDigit 11 = .ok (.istore 4, 2) := by decide +kernel
theorem d_W_trialDigit_13 : decode b_W_trialDigit 13 = .ok (.aload_n 1, 1) := by decide +kernel
theorem d_W_trialDigit_14 : decode b_W_trialDigit 14 = .ok (.aload_n 1, 1) := by decide +kernel
theorem d_W_trialDigit_15 : decode b_W_trialDigit 15 = .ok (.getfield 21, 3) := by decide +kernel
theorem d_W_trialDigit_18 : decode b_W_trialDigit 18 = .ok (.iconst 1, 1) := by decide +kernel
theorem d_W_trialDigit_19 : decode b_W_trialDigit 19 = .ok (.isub, 1) := by decide +kernel
theorem d_W_trialDigit_20 : decode b_W_trialDigit 20 = .ok (.iload_n 3, 1) := by decide +kernel
theorem d_W_trialDigit_21 : decode b_W_trialDigit 21 = .ok (.invokevirtual 68, 3) := by decide +kernel
theorem d_W_trialDigit_24 : decode b_W_trialDigit 24 = .ok (.lstore 5, 2) := by decide +kernel
theorem d_W_trialDigit_26 : decode b_W_trialDigit 26 = .ok (.aload_n 1, 1) := by decide +kernel
theorem d_W_trialDigit_27 : decode b_W_trialDigit 27 = .ok (.aload_n 1, 1) := by decide +kernel
theorem d_W_trialDigit_28 : decode b_W_trialDigit 28 = .ok (.getfield 21, 3) := by decide +kernel
theorem d_W_trialDigit_31 : decode b_W_trialDigit 31 = .ok (.iconst 2, 1) := by decide +kernel
theorem d_W_trialDigit_32 : decode b_W_trialDigit 32 = .ok (.isub, 1) := by decide +kernel
theorem d_W_trialDigit_33 : decode b_W_trialDigit 33 = .ok (.iload_n 3, 1) := by decide +kernel
theorem d_W_trialDigit_34 : decode b_W_trialDigit 34 = .ok (.invokevirtual 68, 3) := by decide +kernel
theorem d_W_trialDigit_37 : decode b_W_trialDigit 37 = .ok (.lstore 7, 2) := by decide +kernel
theorem d_W_trialDigit_39 : decode b_W_trialDigit 39 = .ok (.lload 5, 2) := by decide +kernel
theorem d_W_trialDigit_41 : decode b_W_trialDigit 41 = .ok (.lconst 0, 1) := by decide +kernel
theorem d_W_trialDigit_42 : decode b_W_trialDigit 42 = .ok (.lcmp, 1) := by decide +kernel
theorem d_W_trialDigit_43 : decode b_W_trialDigit 43 = .ok (.ifCond .gt 5, 3) := by decide +kernel
theorem d_W_trialDigit_46 : decode b_W_trialDigit 46 = .ok (.lconst 0, 1) := by decide +kernel
theorem d_W_trialDigit_47 : decode b_W_trialDigit 47 = .ok (.lreturn, 1) := by decide +kernel
theorem d_W_trialDigit_48 : decode b_W_trialDigit 48 = .ok (.aload_n 0, 1) := by decide +kernel
theorem d_W_trialDigit_49 : decode b_W_trialDigit 49 = .ok (.iload 4, 2) := by decide +kernel
theorem d_W_trialDigit_51 : decode b_W_trialDigit 51 = .ok (.iload_n 3, 1) := by decide +kernel
theorem d_W_trialDigit_52 : decode b_W_trialDigit 52 = .ok (.invokevirtual 68, 3) := by decide +kernel
theorem d_W_trialDigit_55 : decode b_W_trialDigit 55 = .ok (.bipush 31, 2) := by decide +kernel
theorem d_W_trialDigit_57 : decode b_W_trialDigit 57 = .ok (.lshl, 1) := by decide +kernel
theorem d_W_trialDigit_58 : decode b_W_trialDigit 58 = .ok (.aload_n 0, 1) := by decide +kernel
theorem d_W_trialDigit_59 : decode b_W_trialDigit 59 = .ok (.iload 4, 2) := by decide +kernel
theorem d_W_trialDigit_61 : decode b_W_trialDigit 61 = .ok (.iconst 1, 1) := by decide +kernel
theorem d_W_trialDigit_62 : decode b_W_trialDigit 62 = .ok (.isub, 1) := by decide +kernel
theorem d_W_trialDigit_63 : decode b_W_trialDigit 63 = .ok (.iload_n 3, 1) := by decide +kernel
theorem d_W_trialDigit_64 : decode b_W_trialDigit 64 = .ok (.invokevirtual 68, 3) := by decide +kernel
theorem d_W_trialDigit_67 : decode b_W_trialDigit 67 = .ok (.lor, 1) := by decide +kernel
theorem d_W_trialDigit_68 : decode b_W_trialDigit 68 = .ok (.lstore 9, 2) := by decide +kernel
theorem d_W_trialDigit_70 : decode b_W_trialDigit 70 = .ok (.aload_n 0, 1) := by decide +kernel
theorem d_W_trialDigit_71 : decode b_W_trialDigit 71 = .ok (.iload 4, 2) := by decide +kernel
theorem d_W_trialDigit_73 : decode b_W_trialDigit 73 = .ok (.iconst 2, 1) := by decide +kernel
theorem d_W_trialDigit_74 : decode b_W_trialDigit 74 = .ok (.isub, 1) := by decide +kernel
theorem d_W_trialDigit_75 : decode b_W_trialDigit 75 = .ok (.iload_n 3, 1) := by decide +kernel
theorem d_W_trialDigit_76 : decode b_W_trialDigit 76 = .ok (.invokevirtual 68, 3) := by decide +kernel
theorem d_W_trialDigit_79 : decode b_W_trialDigit 79 = .ok (.lstore 11, 2) := by decide +kernel
theorem d_W_trialDigit_81 : decode b_W_trialDigit 81 = .ok (.lload 9, 2) := by decide +kernel
theorem d_W_trialDigit_83 : decode b_W_trialDigit 83 = .ok (.lload 5, 2) := by decide +kernel
theorem d_W_trialDigit_85 : decode b_W_trialDigit 85 = .ok (.ldiv, 1) := by decide +kernel
theorem d_W_trialDigit_86 : decode b_W_trialDigit 86 = .ok (.lstore 13, 2) := by decide +kernel
theorem d_W_trialDigit_88 : decode b_W_trialDigit 88 = .ok (.lload 9, 2) := by decide +kernel
theorem d_W_trialDigit_90 : decode b_W_trialDigit 90 = .ok (.lload 5, 2) := by decide +kernel
theorem d_W_trialDigit_92 : decode b_W_trialDigit 92 = .ok (.lrem, 1) := by decide +kernel
theorem d_W_trialDigit_93 : decode b_W_trialDigit 93 = .ok (.lstore 15, 2) := by decide +kernel
theorem d_W_trialDigit_95 : decode b_W_trialDigit 95 = .ok (.iconst 0, 1) := by decide +kernel
theorem d_W_trialDigit_96 : decode b_W_trialDigit 96 = .ok (.istore 17, 2) := by decide +kernel
theorem d_W_trialDigit_98 : decode b_W_trialDigit 98 = .ok (.iload 17, 2) := by decide +kernel
theorem d_W_trialDigit_100 : decode b_W_trialDigit 100 = .ok (.iconst 2, 1) := by decide +kernel
theorem d_W_trialDigit_101 : decode b_W_trialDigit 101 = .ok (.if_icmp .ge 60, 3) := by decide +kernel
theorem d_W_trialDigit_104 : decode b_W_trialDigit 104 = .ok (.lload 15, 2) := by decide +kernel
theorem d_W_trialDigit_106 : decode b_W_trialDigit 106 = .ok (.ldc2_w 43, 3) := by decide +kernel
theorem d_W_trialDigit_109 : decode b_W_trialDigit 109 = .ok (.lcmp, 1) := by decide +kernel
theorem d_W_trialDigit_110 : decode b_W_trialDigit 110 = .ok (.ifCond .gt 51, 3) := by decide +kernel
theorem d_W_trialDigit_113 : decode b_W_trialDigit 113 = .ok (.lload 13, 2) := by decide +kernel
theorem d_W_trialDigit_115 : decode b_W_trialDigit 115 = .ok (.ldc2_w 43, 3) := by decide +kernel
theorem d_W_trialDigit_118 : decode b_W_trialDigit 118 = .ok (.lcmp, 1) := by decide +kernel
theorem d_W_trialDigit_119 : decode b_W_trialDigit 119 = .ok (.ifCond .gt 23, 3) := by decide +kernel
theorem d_W_trialDigit_122 : decode b_W_trialDigit 122 = .ok (.lload 13, 2) := by decide +kernel
theorem d_W_trialDigit_124 : decode b_W_trialDigit 124 = .ok (.lload 7, 2) := by decide +kernel
theorem d_W_trialDigit_126 : decode b_W_trialDigit 126 = .ok (.lmul, 1) := by decide +kernel
theorem d_W_trialDigit_127 : decode b_W_trialDigit 127 = .ok (.lload 15, 2) := by decide +kernel
theorem d_W_trialDigit_129 : decode b_W_trialDigit 129 = .ok (.bipush 31, 2) := by decide +kernel
theorem d_W_trialDigit_131 : decode b_W_trialDigit 131 = .ok (.lshl, 1) := by decide +kernel
theorem d_W_trialDigit_132 : decode b_W_trialDigit 132 = .ok (.lload 11, 2) := by decide +kernel
theorem d_W_trialDigit_134 : decode b_W_trialDigit 134 = .ok (.lor, 1) := by decide +kernel
theorem d_W_trialDigit_135 : decode b_W_trialDigit 135 = .ok (.lcmp, 1) := by decide +kernel
theorem d_W_trialDigit_136 : decode b_W_trialDigit 136 = .ok (.ifCond .gt 6, 3) := by decide +kernel
theorem d_W_trialDigit_139 : decode b_W_trialDigit 139 = .ok (.goto 22, 3) := by decide +kernel
theorem d_W_trialDigit_142 : decode b_W_trialDigit 142 = .ok (.lload 13, 2) := by decide +kernel
theorem d_W_trialDigit_144 : decode b_W_trialDigit 144 = .ok (.lconst 1, 1) := by decide +kernel
theorem d_W_trialDigit_145 : decode b_W_trialDigit 145 = .ok (.lsub, 1) := by decide +kernel
theorem d_W_trialDigit_146 : decode b_W_trialDigit 146 = .ok (.lstore 13, 2) := by decide +kernel
theorem d_W_trialDigit_148 : decode b_W_trialDigit 148 = .ok (.lload 15, 2) := by decide +kernel
theorem d_W_trialDigit_150 : decode b_W_trialDigit 150 = .ok (.lload 5, 2) := by decide +kernel
theorem d_W_trialDigit_152 : decode b_W_trialDigit 152 = .ok (.ladd, 1) := by decide +kernel
theorem d_W_trialDigit_153 : decode b_W_trialDigit 153 = .ok (.lstore 15, 2) := by decide +kernel
theorem d_W_trialDigit_155 : decode b_W_trialDigit 155 = .ok (.iinc 17 1, 3) := by decide +kernel
theorem d_W_trialDigit_158 : decode b_W_trialDigit 158 = .ok (.goto (-60), 3) := by decide +kernel
theorem d_W_trialDigit_161 : decode b_W_trialDigit 161 = .ok (.lload 13, 2) := by decide +kernel
theorem d_W_trialDigit_163 : decode b_W_trialDigit 163 = .ok (.lreturn, 1) := by decide +kernel
theorem d_W_takeAway_0 : decode b_W_takeAway 0 = .ok (.iload 4, 2) := by decide +kernel
theorem d_W_takeAway_2 : decode b_W_takeAway 2 = .ok (.aload_n 1, 1) := by decide +kernel
theorem d_W_takeAway_3 : decode b_W_takeAway 3 = .ok (.getfield 21, 3) := by decide +kernel
theorem d_W_takeAway_6 : decode b_W_takeAway 6 = .ok (.iadd, 1) := by decide +kernel
theorem d_W_takeAway_7 : decode b_W_takeAway 7 = .ok (.istore 5, 2) := by decide +kernel
theorem d_W_takeAway_9 : decode b_W_takeAway 9 = .ok (.iload 4, 2) := by decide +kernel
theorem d_W_takeAway_11 : decode b_W_takeAway 11 = .ok (.ifCond .lt 13, 3) := by decide +kernel
theorem d_W_takeAway_14 : decode b_W_takeAway 14 = .ok (.iload 5, 2) := by decide +kernel
theorem d_W_takeAway_16 : decode b_W_takeAway 16 = .ok (.aload_n 0, 1) := by decide +kernel
theorem d_W_takeAway_17 : decode b_W_takeAway 17 = .ok (.getfield 17, 3) := by decide +kernel
theorem d_W_takeAway_20 : decode b_W_takeAway 20 = .ok (.arraylength, 1) := by decide +kernel
theorem d_W_takeAway_21 : decode b_W_takeAway 21 = .ok (.if_icmp .lt 5, 3) := by decide +kernel
theorem d_W_takeAway_24 : decode b_W_takeAway 24 = .ok (.iconst 0, 1) := by decide +kernel
theorem d_W_takeAway_25 : decode b_W_takeAway 25 = .ok (.ireturn, 1) := by decide +kernel
theorem d_W_takeAway_26 : decode b_W_takeAway 26 = .ok (.lconst 0, 1) := by decide +kernel
theorem d_W_takeAway_27 : decode b_W_takeAway 27 = .ok (.lstore 6, 2) := by decide +kernel
theorem d_W_takeAway_29 : decode b_W_takeAway 29 = .ok (.iconst 0, 1) := by decide +kernel
theorem d_W_takeAway_30 : decode b_W_takeAway 30 = .ok (.istore 8, 2) := by decide +kernel
theorem d_W_takeAway_32 : decode b_W_takeAway 32 = .ok (.iload 8, 2) := by decide +kernel
theorem d_W_takeAway_34 : decode b_W_takeAway 34 = .ok (.aload_n 1, 1) := by decide +kernel
theorem d_W_takeAway_35 : decode b_W_takeAway 35 = .ok (.getfield 21, 3) := by decide +kernel
theorem d_W_takeAway_38 : decode b_W_takeAway 38 = .ok (.if_icmp .ge 60, 3) := by decide +kernel
theorem d_W_takeAway_41 : decode b_W_takeAway 41 = .ok (.aload_n 0, 1) := by decide +kernel
theorem d_W_takeAway_42 : decode b_W_takeAway 42 = .ok (.getfield 17, 3) := by decide +kernel
theorem d_W_takeAway_45 : decode b_W_takeAway 45 = .ok (.iload 4, 2) := by decide +kernel
theorem d_W_takeAway_47 : decode b_W_takeAway 47 = .ok (.iload 8, 2) := by decide +kernel
theorem d_W_takeAway_49 : decode b_W_takeAway 49 = .ok (.iadd, 1) := by decide +kernel
theorem d_W_takeAway_50 : decode b_W_takeAway 50 = .ok (.iaload, 1) := by decide +kernel
theorem d_W_takeAway_51 : decode b_W_takeAway 51 = .ok (.i2l, 1) := by decide +kernel
theorem d_W_takeAway_52 : decode b_W_takeAway 52 = .ok (.lload_n 2, 1) := by decide +kernel
theorem d_W_takeAway_53 : decode b_W_takeAway 53 = .ok (.aload_n 1, 1) := by decide +kernel
theorem d_W_takeAway_54 : decode b_W_takeAway 54 = .ok (.getfield 17, 3) := by decide +kernel
theorem d_W_takeAway_57 : decode b_W_takeAway 57 = .ok (.iload 8, 2) := by decide +kernel
theorem d_W_takeAway_59 : decode b_W_takeAway 59 = .ok (.iaload, 1) := by decide +kernel
theorem d_W_takeAway_60 : decode b_W_takeAway 60 = .ok (.i2l, 1) := by decide +kernel
theorem d_W_takeAway_61 : decode b_W_takeAway 61 = .ok (.lmul, 1) := by decide +kernel
theorem d_W_takeAway_62 : decode b_W_takeAway 62 = .ok (.lsub, 1) := by decide +kernel
theorem d_W_takeAway_63 : decode b_W_takeAway 63 = .ok (.lload 6, 2) := by decide +kernel
theorem d_W_takeAway_65 : decode b_W_takeAway 65 = .ok (.ladd, 1) := by decide +kernel
theorem d_W_takeAway_66 : decode b_W_takeAway 66 = .ok (.lstore 9, 2) := by decide +kernel
theorem d_W_takeAway_68 : decode b_W_takeAway 68 = .ok (.aload_n 0, 1) := by decide +kernel
theorem d_W_takeAway_69 : decode b_W_takeAway 69 = .ok (.getfield 17, 3) := by decide +kernel
theorem d_W_takeAway_72 : decode b_W_takeAway 72 = .ok (.iload 4, 2) := by decide +kernel
theorem d_W_takeAway_74 : decode b_W_takeAway 74 = .ok (.iload 8, 2) := by decide +kernel
theorem d_W_takeAway_76 : decode b_W_takeAway 76 = .ok (.iadd, 1) := by decide +kernel
theorem d_W_takeAway_77 : decode b_W_takeAway 77 = .ok (.lload 9, 2) := by decide +kernel
theorem d_W_takeAway_79 : decode b_W_takeAway 79 = .ok (.ldc2_w 43, 3) := by decide +kernel
theorem d_W_takeAway_82 : decode b_W_takeAway 82 = .ok (.land, 1) := by decide +kernel
theorem d_W_takeAway_83 : decode b_W_takeAway 83 = .ok (.l2i, 1) := by decide +kernel
theorem d_W_takeAway_84 : decode b_W_takeAway 84 = .ok (.iastore, 1) := by decide +kernel
theorem d_W_takeAway_85 : decode b_W_takeAway 85 = .ok (.lload 9, 2) := by decide +kernel
theorem d_W_takeAway_87 : decode b_W_takeAway 87 = .ok (.bipush 31, 2) := by decide +kernel
theorem d_W_takeAway_89 : decode b_W_takeAway 89 = .ok (.lshr, 1) := by decide +kernel
theorem d_W_takeAway_90 : decode b_W_takeAway 90 = .ok (.lstore 6, 2) := by decide +kernel
theorem d_W_takeAway_92 : decode b_W_takeAway 92 = .ok (.iinc 8 1, 3) := by decide +kernel
theorem d_W_takeAway_95 : decode b_W_takeAway 95 = .ok (.goto (-63), 3) := by decide +kernel
theorem d_W_takeAway_98 : decode b_W_takeAway 98 = .ok (.aload_n 0, 1) := by decide +kernel
theorem d_W_takeAway_99 : decode b_W_takeAway 99 = .ok (.getfield 17, 3) := by decide +kernel
theorem d_W_takeAway_102 : decode b_W_takeAway 102 = .ok (.iload 5, 2) := by decide +kernel
theorem d_W_takeAway_104 : decode b_W_takeAway 104 = .ok (.iaload, 1) := by decide +kernel
theorem d_W_takeAway_105 : decode b_W_takeAway 105 = .ok (.i2l, 1) := by decide +kernel
theorem d_W_takeAway_106 : decode b_W_takeAway 106 = .ok (.lload 6, 2) := by decide +kernel
theorem d_W_takeAway_108 : decode b_W_takeAway 108 = .ok (.ladd, 1) := by decide +kernel
theorem d_W_takeAway_109 : decode b_W_takeAway 109 = .ok (.lconst 0, 1) := by decide +kernel
theorem d_W_takeAway_110 : decode b_W_takeAway 110 = .ok (.lcmp, 1) := by decide +kernel
theorem d_W_takeAway_111 : decode b_W_takeAway 111 = .ok (.ifCond .ge 7, 3) := by decide +kernel
theorem d_W_takeAway_114 : decode b_W_takeAway 114 = .ok (.iconst 1, 1) := by decide +kernel
theorem d_W_takeAway_115 : decode b_W_takeAway 115 = .ok (.goto 4, 3) := by decide +kernel
theorem d_W_takeAway_118 : decode b_W_takeAway 118 = .ok (.iconst 0, 1) := by decide +kernel
theorem d_W_takeAway_119 : decode b_W_takeAway 119 = .ok (.ireturn, 1) := by decide +kernel
theorem d_B_divideOut_0 : decode b_B_divideOut 0 = .ok (.aload_n 2, 1) := by decide +kernel
theorem d_B_divideOut_1 : decode b_B_divideOut 1 = .ok (.invokevirtual 43, 3) := by decide +kernel
theorem d_B_divideOut_4 : decode b_B_divideOut 4 = .ok (.ifCond .ne 20, 3) := by decide +kernel
theorem d_B_divideOut_7 : decode b_B_divideOut 7 = .ok (.aload_n 1, 1) := by decide +kernel
theorem d_B_divideOut_8 : decode b_B_divideOut 8 = .ok (.aload_n 2, 1) := by decide +kernel
theorem d_B_divideOut_9 : decode b_B_divideOut 9 = .ok (.aload_n 0, 1) := by decide +kernel
theorem d_B_divideOut_10 : decode b_B_divideOut 10 = .ok (.getfield 29, 3) := by decide +kernel
theorem d_B_divideOut_13 : decode b_B_divideOut 13 = .ok (.invokevirtual 63, 3) := by decide +kernel
theorem d_B_divideOut_16 : decode b_B_divideOut 16 = .ok (.aload_n 1, 1) := by decide +kernel
theorem d_B_divideOut_17 : decode b_B_divideOut 17 = .ok (.aload_n 0, 1) := by decide +kernel
theorem d_B_divideOut_18 : decode b_B_divideOut 18 = .ok (.getfield 29, 3) := by decide +kernel
theorem d_B_divideOut_21 : decode b_B_divideOut 21 = .ok (.invokevirtual 47, 3) := by decide +kernel
theorem d_B_divideOut_24 : decode b_B_divideOut 24 = .ok (.return_, 1) := by decide +kernel
theorem d_B_keep_0 : decode b_B_keep 0 = .ok (.aload_n 0, 1) := by decide +kernel
theorem d_B_keep_1 : decode b_B_keep 1 = .ok (.getfield 16, 3) := by decide +kernel
theorem d_B_keep_4 : decode b_B_keep 4 = .ok (.invokevirtual 66, 3) := by decide +kernel
theorem d_B_keep_7 : decode b_B_keep 7 = .ok (.ifCond .eq 13, 3) := by decide +kernel
theorem d_B_keep_10 : decode b_B_keep 10 = .ok (.aload_n 0, 1) := by decide +kernel
theorem d_B_keep_11 : decode b_B_keep 11 = .ok (.getfield 20, 3) := by decide +kernel
theorem d_B_keep_14 : decode b_B_keep 14 = .ok (.invokevirtual 66, 3) := by decide +kernel
theorem d_B_keep_17 : decode b_B_keep 17 = .ok (.ifCond .ne 5, 3) := by decide +kernel
theorem d_B_keep_20 : decode b_B_keep 20 = .ok (.iconst (-1), 1) := by decide +kernel
theorem d_B_keep_21 : decode b_B_keep 21 = .ok (.ireturn, 1) := by decide +kernel
theorem d_B_keep_22 : decode b_B_keep 22 = .ok (.aload_n 1, 1) := by decide +kernel
theorem d_B_keep_23 : decode b_B_keep 23 = .ok (.getfield 69, 3) := by decide +kernel
theorem d_B_keep_26 : decode b_B_keep 26 = .ok (.aload_n 0, 1) := by decide +kernel
theorem d_B_keep_27 : decode b_B_keep 27 = .ok (.getfield 16, 3) := by decide +kernel
theorem d_B_keep_30 : decode b_B_keep 30 = .ok (.invokevirtual 47, 3) := by decide +kernel
theorem d_B_keep_33 : decode b_B_keep 33 = .ok (.aload_n 1, 1) := by decide +kernel
theorem d_B_keep_34 : decode b_B_keep 34 = .ok (.getfield 72, 3) := by decide +kernel
theorem d_B_keep_37 : decode b_B_keep 37 = .ok (.aload_n 0, 1) := by decide +kernel
theorem d_B_keep_38 : decode b_B_keep 38 = .ok (.getfield 20, 3) := by decide +kernel
theorem d_B_keep_41 : decode b_B_keep 41 = .ok (.invokevirtual 47, 3) := by decide +kernel
theorem d_B_keep_44 : decode b_B_keep 44 = .ok (.aload_n 1, 1) := by decide +kernel
theorem d_B_keep_45 : decode b_B_keep 45 = .ok (.aload_n 0, 1) := by decide +kernel
theorem d_B_keep_46 : decode b_B_keep 46 = .ok (.getfield 39, 3) := by decide +kernel
theorem d_B_keep_49 : decode b_B_keep 49 = .ok (.ifCond .eq 17, 3) := by decide +kernel
theorem d_B_keep_52 : decode b_B_keep 52 = .ok (.aload_n 0, 1) := by decide +kernel
theorem d_B_keep_53 : decode b_B_keep 53 = .ok (.getfield 16, 3) := by decide +kernel
theorem d_B_keep_56 : decode b_B_keep 56 = .ok (.invokevirtual 73, 3) := by decide +kernel
theorem d_B_keep_59 : decode b_B_keep 59 = .ok (.ifCond .ne 7, 3) := by decide +kernel
theorem d_B_keep_62 : decode b_B_keep 62 = .ok (.iconst 1, 1) := by decide +kernel
theorem d_B_keep_63 : decode b_B_keep 63 = .ok (.goto 4, 3) := by decide +kernel
theorem d_B_keep_66 : decode b_B_keep 66 = .ok (.iconst 0, 1) := by decide +kernel
theorem d_B_keep_67 : decode b_B_keep 67 = .ok (.putfield 76, 3) := by decide +kernel
theorem d_B_keep_70 : decode b_B_keep 70 = .ok (.iconst 0, 1) := by decide +kernel
theorem d_B_keep_71 : decode b_B_keep 71 = .ok (.ireturn, 1) := by decide +kernel
theorem d_W_isSmallEnough_0 : decode b_W_isSmallEnough 0 = .ok (.aload_n 0, 1) := by decide +kernel
theorem d_W_isSmallEnough_1 : decode b_W_isSmallEnough 1 = .ok (.invokevirtual 25, 3) := by decide +kernel
theorem d_W_isSmallEnough_4 : decode b_W_isSmallEnough 4 = .ok (.sipush 2048, 3) := by decide +kernel
theorem d_W_isSmallEnough_7 : decode b_W_isSmallEnough 7 = .ok (.if_icmp .gt 7, 3) := by decide +kernel
theorem d_W_isSmallEnough_10 : decode b_W_isSmallEnough 10 = .ok (.iconst 1, 1) := by decide +kernel
theorem d_W_isSmallEnough_11 : decode b_W_isSmallEnough 11 = .ok (.goto 4, 3) := by decide +kernel
theorem d_W_isSmallEnough_14 : decode b_W_isSmallEnough 14 = .ok (.iconst 0, 1) := by decide +kernel
theorem d_W_isSmallEnough_15 : decode b_W_isSmallEnough 15 = .ok (.ireturn, 1) := by decide +kernel
theorem d_W_bits_0 : decode b_W_bits 0 = .ok (.aload_n 0, 1) := by decide +kernel
theorem d_W_bits_1 : decode b_W_bits 1 = .ok (.getfield 21, 3) := by decide +kernel
theorem d_W_bits_4 : decode b_W_bits 4 = .ok (.ifCond .ne 5, 3) := by decide +kernel
theorem d_W_bits_7 : decode b_W_bits 7 = .ok (.iconst 0, 1) := by decide +kernel
theorem d_W_bits_8 : decode b_W_bits 8 = .ok (.ireturn, 1) := by decide +kernel
theorem d_W_bits_9 : decode b_W_bits 9 = .ok (.aload_n 0, 1) := by decide +kernel
theorem d_W_bits_10 : decode b_W_bits 10 = .ok (.getfield 21, 3) := by decide +kernel
theorem d_W_bits_13 : decode b_W_bits 13 = .ok (.bipush 31, 2) := by decide +kernel
theorem d_W_bits_15 : decode b_W_bits 15 = .ok (.imul, 1) := by decide +kernel
theorem d_W_bits_16 : decode b_W_bits 16 = .ok (.aload_n 0, 1) := by decide +kernel
theorem d_W_bits_17 : decode b_W_bits 17 = .ok (.invokevirtual 29, 3) := by decide +kernel
theorem d_W_bits_20 : decode b_W_bits 20 = .ok (.isub, 1) := by decide +kernel
theorem d_W_bits_21 : decode b_W_bits 21 = .ok (.ireturn, 1) := by decide +kernel
theorem d_L_combine_0 : decode b_L_combine 0 = .ok (.aload 5, 2) := by decide +kernel
theorem d_L_combine_2 : decode b_L_combine 2 = .ok (.iconst 0, 1) := by decide +kernel
theorem d_L_combine_3 : decode b_L_combine 3 = .ok (.aload_n 0, 1) := by decide +kernel
theorem d_L_combine_4 : decode b_L_combine 4 = .ok (.iload_n 1, 1) := by decide +kernel
theorem d_L_combine_5 : decode b_L_combine 5 = .ok (.iload_n 2, 1) := by decide +kernel
theorem d_L_combine_6 : decode b_L_combine 6 = .ok (.iload_n 3, 1) := by decide +kernel
theorem d_L_combine_7 : decode b_L_combine 7 = .ok (.iload 4, 2) := by decide +kernel
theorem d_L_combine_9 : decode b_L_combine 9 = .ok (.invokevirtual 15, 3) := by decide +kernel
theorem d_L_combine_12 : decode b_L_combine 12 = .ok (.i2l, 1) := by decide +kernel
theorem d_L_combine_13 : decode b_L_combine 13 = .ok (.lastore, 1) := by decide +kernel
theorem d_L_combine_14 : decode b_L_combine 14 = .ok (.goto 7, 3) := by decide +kernel
theorem d_L_combine_17 : decode b_L_combine 17 = .ok (.astore 6, 2) := by decide +kernel
theorem d_L_combine_19 : decode b_L_combine 19 = .ok (.iconst 1, 1) := by decide +kernel
theorem d_L_combine_20 : decode b_L_combine 20 = .ok (.ireturn, 1) := by decide +kernel
theorem d_L_combine_21 : decode b_L_combine 21 = .ok (.iconst 0, 1) := by decide +kernel
theorem d_L_combine_22 : decode b_L_combine 22 = .ok (.ireturn, 1) := by decide +kernel
theorem d_K_combine_0 : decode b_K_combine 0 = .ok (.aload_n 0, 1) := by decide +kernel
theorem d_K_combine_1 : decode b_K_combine 1 = .ok (.iload_n 1, 1) := by decide +kernel
theorem d_K_combine_2 : decode b_K_combine 2 = .ok (.invokevirtual 34, 3) := by decide +kernel
theorem d_K_combine_5 : decode b_K_combine 5 = .ok (.astore 5, 2) := by decide +kernel
theorem d_K_combine_7 : decode b_K_combine 7 = .ok (.aload_n 0, 1) := by decide +kernel
theorem d_K_combine_8 : decode b_K_combine 8 = .ok (.iload_n 3, 1) := by decide +kernel
theorem d_K_combine_9 : decode b_K_combine 9 = .ok (.invokevirtual 34, 3) := by decide +kernel
theorem d_K_combine_12 : decode b_K_combine 12 = .ok (.astore 6, 2) := by decide +kernel
theorem d_K_combine_14 : decode b_K_combine 14 = .ok (.aload_n 0, 1) := by decide +kernel
theorem d_K_combine_15 : decode b_K_combine 15 = .ok (.iload 4, 2) := by decide +kernel
theorem d_K_combine_17 : decode b_K_combine 17 = .ok (.invokevirtual 34, 3) := by decide +kernel
theorem d_K_combine_20 : decode b_K_combine 20 = .ok (.astore 7, 2) := by decide +kernel
theorem d_K_combine_22 : decode b_K_combine 22 = .ok (.iload_n 2, 1) := by decide +kernel
theorem d_K_combine_23 : decode b_K_combine 23 = .ok (.ifCond .lt 9, 3) := by decide +kernel
theorem d_K_combine_26 : decode b_K_combine 26 = .ok (.iload_n 2, 1) := by decide +kernel
theorem d_K_combine_27 : decode b_K_combine 27 = .ok (.bipush 8, 2) := by decide +kernel
theorem d_K_combine_29 : decode b_K_combine 29 = .ok (.if_icmp .le 13, 3) := by decide +kernel
theorem d_K_combine_32 : decode b_K_combine 32 = .ok (.new 38, 3) := by decide +kernel
theorem d_K_combine_35 : decode b_K_combine 35 = .ok (.dup, 1) := by decide +kernel
theorem d_K_combine_36 : decode b_K_combine 36 = .ok (.ldc 53, 2) := by decide +kernel
theorem d_K_combine_38 : decode b_K_combine 38 = .ok (.invokespecial 42, 3) := by decide +kernel
theorem d_K_combine_41 : decode b_K_combine 41 = .ok (.athrow, 1) := by decide +kernel
theorem d_K_combine_42 : decode b_K_combine 42 = .ok (.iload_n 2, 1) := by decide +kernel
theorem d_K_combine_43 : decode b_K_combine 43 = .ok (.bipush 8, 2) := by decide +kernel
theorem d_K_combine_45 : decode b_K_combine 45 = .ok (.if_icmp .ne 29, 3) := by decide +kernel
theorem d_K_combine_48 : decode b_K_combine 48 = .ok (.aload 6, 2) := by decide +kernel
theorem d_K_combine_50 : decode b_K_combine 50 = .ok (.invokevirtual 55, 3) := by decide +kernel
theorem d_K_combine_53 : decode b_K_combine 53 = .ok (.ifCond .eq 11, 3) := by decide +kernel
theorem d_K_combine_56 : decode b_K_combine 56 = .ok (.aload 7, 2) := by decide +kernel
theorem d_K_combine_58 : decode b_K_combine 58 = .ok (.invokevirtual 55, 3) := by decide +kernel
theorem d_K_combine_61 : decode b_K_combine 61 = .ok (.ifCond .ne 13, 3) := by decide +kernel
theorem d_K_combine_64 : decode b_K_combine 64 = .ok (.new 38, 3) := by decide +kernel
theorem d_K_combine_67 : decode b_K_combine 67 = .ok (.dup, 1) := by decide +kernel
theorem d_K_combine_68 : decode b_K_combine 68 = .ok (.ldc 59, 2) := by decide +kernel
theorem d_K_combine_70 : decode b_K_combine 70 = .ok (.invokespecial 42, 3) := by decide +kernel
theorem d_K_combine_73 : decode b_K_combine 73 = .ok (.athrow, 1) := by decide +kernel
theorem d_K_combine_74 : decode b_K_combine 74 = .ok (.iload_n 2, 1) := by decide +kernel
theorem d_K_combine_75 : decode b_K_combine 75 = .ok (.iconst 3, 1) := by decide +kernel
theorem d_K_combine_76 : decode b_K_combine 76 = .ok (.if_icmp .eq 15, 3) := by decide +kernel
theorem d_K_combine_79 : decode b_K_combine 79 = .ok (.iload_n 2, 1) := by decide +kernel
theorem d_K_combine_80 : decode b_K_combine 80 = .ok (.bipush 6, 2) := by decide +kernel
theorem d_K_combine_82 : decode b_K_combine 82 = .ok (.if_icmp .eq 9, 3) := by decide +kernel
theorem d_K_combine_85 : decode b_K_combine 85 = .ok (.iload_n 2, 1) := by decide +kernel
theorem d_K_combine_86 : decode b_K_combine 86 = .ok (.bipush 7, 2) := by decide +kernel
theorem d_K_combine_88 : decode b_K_combine 88 = .ok (.if_icmp .ne 7, 3) := by decide +kernel
theorem d_K_combine_91 : decode b_K_combine 91 = .ok (.iconst 1, 1) := by decide +kernel
theorem d_K_combine_92 : decode b_K_combine 92 = .ok (.goto 4, 3) := by decide +kernel
theorem d_K_combine_95 : decode b_K_combine 95 = .ok (.iconst 0, 1) := by decide +kernel
theorem d_K_combine_96 : decode b_K_combine 96 = .ok (.istore 8, 2) := by decide +kernel
theorem d_K_combine_98 : decode b_K_combine 98 = .ok (.iload 8, 2) := by decide +kernel
theorem d_K_combine_100 : decode b_K_combine 100 = .ok (.ifCond .eq 14, 3) := by decide +kernel
theorem d_K_combine_103 : decode b_K_combine 103 = .ok (.aload 7, 2) := by decide +kernel
theorem d_K_combine_105 : decode b_K_combine 105 = .ok (.invokevirtual 61, 3) := by decide +kernel
theorem d_K_combine_108 : decode b_K_combine 108 = .ok (.ifCond .ne 6, 3) := by decide +kernel
theorem d_K_combine_111 : decode b_K_combine 111 = .ok (.bipush (-2), 2) := by decide +kernel
theorem d_K_combine_113 : decode b_K_combine 113 = .ok (.ireturn, 1) := by decide +kernel
theorem d_K_combine_114 : decode b_K_combine 114 = .ok (.iload_n 2, 1) := by decide +kernel
theorem d_K_combine_115 : decode b_K_combine 115 = .ok (.tableswitch 265 0 7 #[45, 71, 105, 126, 147, 185, 223, 244], 45) := by decide +kernel
theorem d_K_combine_160 : decode b_K_combine 160 = .ok (.aload_n 0, 1) := by decide +kernel
theorem d_K_combine_161 : decode b_K_combine 161 = .ok (.getfield 19, 3) := by decide +kernel
theorem d_K_combine_164 : decode b_K_combine 164 = .ok (.aload 6, 2) := by decide +kernel
theorem d_K_combine_166 : decode b_K_combine 166 = .ok (.aload 7, 2) := by decide +kernel
theorem d_K_combine_168 : decode b_K_combine 168 = .ok (.aload 7, 2) := by decide +kernel
theorem d_K_combine_170 : decode b_K_combine 170 = .ok (.getfield 65, 3) := by decide +kernel
theorem d_K_combine_173 : decode b_K_combine 173 = .ok (.invokevirtual 69, 3) := by decide +kernel
theorem d_K_combine_176 : decode b_K_combine 176 = .ok (.aload_n 0, 1) := by decide +kernel
theorem d_K_combine_177 : decode b_K_combine 177 = .ok (.getfield 19, 3) := by decide +kernel
theorem d_K_combine_180 : decode b_K_combine 180 = .ok (.aload 5, 2) := by decide +kernel
theorem d_K_combine_182 : decode b_K_combine 182 = .ok (.invokevirtual 49, 3) := by decide +kernel
theorem d_K_combine_185 : decode b_K_combine 185 = .ok (.ireturn, 1) := by decide +kernel
theorem d_K_combine_186 : decode b_K_combine 186 = .ok (.aload_n 0, 1) := by decide +kernel
theorem d_K_combine_187 : decode b_K_combine 187 = .ok (.getfield 19, 3) := by decide +kernel
theorem d_K_combine_190 : decode b_K_combine 190 = .ok (.aload 6, 2) := by decide +kernel
theorem d_K_combine_192 : decode b_K_combine 192 = .ok (.aload 7, 2) := by decide +kernel
theorem d_K_combine_194 : decode b_K_combine 194 = .ok (.aload 7, 2) := by decide +kernel
theorem d_K_combine_196 : decode b_K_combine 196 = .ok (.getfield 65, 3) := by decide +kernel
theorem d_K_combine_199 : decode b_K_combine 199 = .ok (.ifCond .ne 7, 3) := by decide +kernel
theorem d_K_combine_202 : decode b_K_combine 202 = .ok (.iconst 1, 1) := by decide +kernel
theorem d_K_combine_203 : decode b_K_combine 203 = .ok (.goto 4, 3) := by decide +kernel
theorem d_K_combine_206 : decode b_K_combine 206 = .ok (.iconst 0, 1) := by decide +kernel
theorem d_K_combine_207 : decode b_K_combine 207 = .ok (.invokevirtual 69, 3) := by decide +kernel
theorem d_K_combine_210 : decode b_K_combine 210 = .ok (.aload_n 0, 1) := by decide +kernel
theorem d_K_combine_211 : decode b_K_combine 211 = .ok (.getfield 19, 3) := by decide +kernel
theorem d_K_combine_214 : decode b_K_combine 214 = .ok (.aload 5, 2) := by decide +kernel
theorem d_K_combine_216 : decode b_K_combine 216 = .ok (.invokevirtual 49, 3) := by decide +kernel
theorem d_K_combine_219 : decode b_K_combine 219 = .ok (.ireturn, 1) := by decide +kernel
theorem d_K_combine_220 : decode b_K_combine 220 = .ok (.aload_n 0, 1) := by decide +kernel
theorem d_K_combine_221 : decode b_K_combine 221 = .ok (.getfield 19, 3) := by decide +kernel
theorem d_K_combine_224 : decode b_K_combine 224 = .ok (.aload 6, 2) := by decide +kernel
theorem d_K_combine_226 : decode b_K_combine 226 = .ok (.aload 7, 2) := by decide +kernel
theorem d_K_combine_228 : decode b_K_combine 228 = .ok (.invokevirtual 73, 3) := by decide +kernel
theorem d_K_combine_231 : decode b_K_combine 231 = .ok (.aload_n 0, 1) := by decide +kernel
theorem d_K_combine_232 : decode b_K_combine 232 = .ok (.getfield 19, 3) := by decide +kernel
theorem d_K_combine_235 : decode b_K_combine 235 = .ok (.aload 5, 2) := by decide +kernel
theorem d_K_combine_237 : decode b_K_combine 237 = .ok (.invokevirtual 49, 3) := by decide +kernel
theorem d_K_combine_240 : decode b_K_combine 240 = .ok (.ireturn, 1) := by decide +kernel
theorem d_K_combine_241 : decode b_K_combine 241 = .ok (.aload_n 0, 1) := by decide +kernel
theorem d_K_combine_242 : decode b_K_combine 242 = .ok (.getfield 19, 3) := by decide +kernel
theorem d_K_combine_245 : decode b_K_combine 245 = .ok (.aload 6, 2) := by decide +kernel
theorem d_K_combine_247 : decode b_K_combine 247 = .ok (.aload 7, 2) := by decide +kernel
theorem d_K_combine_249 : decode b_K_combine 249 = .ok (.invokevirtual 77, 3) := by decide +kernel
theorem d_K_combine_252 : decode b_K_combine 252 = .ok (.aload_n 0, 1) := by decide +kernel
theorem d_K_combine_253 : decode b_K_combine 253 = .ok (.getfield 19, 3) := by decide +kernel
theorem d_K_combine_256 : decode b_K_combine 256 = .ok (.aload 5, 2) := by decide +kernel
theorem d_K_combine_258 : decode b_K_combine 258 = .ok (.invokevirtual 49, 3) := by decide +kernel
theorem d_K_combine_261 : decode b_K_combine 261 = .ok (.ireturn, 1) := by decide +kernel
theorem d_K_combine_262 : decode b_K_combine 262 = .ok (.aload_n 0, 1) := by decide +kernel
theorem d_K_combine_263 : decode b_K_combine 263 = .ok (.getfield 19, 3) := by decide +kernel
theorem d_K_combine_266 : decode b_K_combine 266 = .ok (.aload_n 0, 1) := by decide +kernel
theorem d_K_combine_267 : decode b_K_combine 267 = .ok (.getfield 19, 3) := by decide +kernel
theorem d_K_combine_270 : decode b_K_combine 270 = .ok (.aload 6, 2) := by decide +kernel
theorem d_K_combine_272 : decode b_K_combine 272 = .ok (.aload 7, 2) := by decide +kernel
theorem d_K_combine_274 : decode b_K_combine 274 = .ok (.invokevirtual 80, 3) := by decide +kernel
theorem d_K_combine_277 : decode b_K_combine 277 = .ok (.ifCond .gt 8, 3) := by decide +kernel
theorem d_K_combine_280 : decode b_K_combine 280 = .ok (.aload 6, 2) := by decide +kernel
theorem d_K_combine_282 : decode b_K_combine 282 = .ok (.goto 5, 3) := by decide +kernel
theorem d_K_combine_285 : decode b_K_combine 285 = .ok (.aload 7, 2) := by decide +kernel
theorem d_K_combine_287 : decode b_K_combine 287 = .ok (.invokevirtual 84, 3) := by decide +kernel
theorem d_K_combine_290 : decode b_K_combine 290 = .ok (.aload_n 0, 1) := by decide +kernel
theorem d_K_combine_291 : decode b_K_combine 291 = .ok (.getfield 19, 3) := by decide +kernel
theorem d_K_combine_294 : decode b_K_combine 294 = .ok (.aload 5, 2) := by decide +kernel
theorem d_K_combine_296 : decode b_K_combine 296 = .ok (.invokevirtual 88, 3) := by decide +kernel
theorem d_K_combine_299 : decode b_K_combine 299 = .ok (.ireturn, 1) := by decide +kernel
theorem d_K_combine_300 : decode b_K_combine 300 = .ok (.aload_n 0, 1) := by decide +kernel
theorem d_K_combine_301 : decode b_K_combine 301 = .ok (.getfield 19, 3) := by decide +kernel
theorem d_K_combine_304 : decode b_K_combine 304 = .ok (.aload_n 0, 1) := by decide +kernel
theorem d_K_combine_305 : decode b_K_combine 305 = .ok (.getfield 19, 3) := by decide +kernel
theorem d_K_combine_308 : decode b_K_combine 308 = .ok (.aload 6, 2) := by decide +kernel
theorem d_K_combine_310 : decode b_K_combine 310 = .ok (.aload 7, 2) := by decide +kernel
theorem d_K_combine_312 : decode b_K_combine 312 = .ok (.invokevirtual 80, 3) := by decide +kernel
theorem d_K_combine_315 : decode b_K_combine 315 = .ok (.ifCond .lt 8, 3) := by decide +kernel
theorem d_K_combine_318 : decode b_K_combine 318 = .ok (.aload 6, 2) := by decide +kernel
theorem d_K_combine_320 : decode b_K_combine 320 = .ok (.goto 5, 3) := by decide +kernel
theorem d_K_combine_323 : decode b_K_combine 323 = .ok (.aload 7, 2) := by decide +kernel
theorem d_K_combine_325 : decode b_K_combine 325 = .ok (.invokevirtual 84, 3) := by decide +kernel
theorem d_K_combine_328 : decode b_K_combine 328 = .ok (.aload_n 0, 1) := by decide +kernel
theorem d_K_combine_329 : decode b_K_combine 329 = .ok (.getfield 19, 3) := by decide +kernel
theorem d_K_combine_332 : decode b_K_combine 332 = .ok (.aload 5, 2) := by decide +kernel
theorem d_K_combine_334 : decode b_K_combine 334 = .ok (.invokevirtual 88, 3) := by decide +kernel
theorem d_K_combine_337 : decode b_K_combine 337 = .ok (.ireturn, 1) := by decide +kernel
theorem d_K_combine_338 : decode b_K_combine 338 = .ok (.aload_n 0, 1) := by decide +kernel
theorem d_K_combine_339 : decode b_K_combine 339 = .ok (.getfield 19, 3) := by decide +kernel
theorem d_K_combine_342 : decode b_K_combine 342 = .ok (.aload 6, 2) := by decide +kernel
theorem d_K_combine_344 : decode b_K_combine 344 = .ok (.aload 7, 2) := by decide +kernel
theorem d_K_combine_346 : decode b_K_combine 346 = .ok (.invokevirtual 91, 3) := by decide +kernel
theorem d_K_combine_349 : decode b_K_combine 349 = .ok (.aload_n 0, 1) := by decide +kernel
theorem d_K_combine_350 : decode b_K_combine 350 = .ok (.getfield 19, 3) := by decide +kernel
theorem d_K_combine_353 : decode b_K_combine 353 = .ok (.aload 5, 2) := by decide +kernel
theorem d_K_combine_355 : decode b_K_combine 355 = .ok (.invokevirtual 88, 3) := by decide +kernel
theorem d_K_combine_358 : decode b_K_combine 358 = .ok (.ireturn, 1) := by decide +kernel
theorem d_K_combine_359 : decode b_K_combine 359 = .ok (.aload_n 0, 1) := by decide +kernel
theorem d_K_combine_360 : decode b_K_combine 360 = .ok (.getfield 19, 3) := by decide +kernel
theorem d_K_combine_363 : decode b_K_combine 363 = .ok (.aload 6, 2) := by decide +kernel
theorem d_K_combine_365 : decode b_K_combine 365 = .ok (.aload 7, 2) := by decide +kernel
theorem d_K_combine_367 : decode b_K_combine 367 = .ok (.invokevirtual 94, 3) := by decide +kernel
theorem d_K_combine_370 : decode b_K_combine 370 = .ok (.aload_n 0, 1) := by decide +kernel
theorem d_K_combine_371 : decode b_K_combine 371 = .ok (.getfield 19, 3) := by decide +kernel
theorem d_K_combine_374 : decode b_K_combine 374 = .ok (.aload 5, 2) := by decide +kernel
theorem d_K_combine_376 : decode b_K_combine 376 = .ok (.invokevirtual 49, 3) := by decide +kernel
theorem d_K_combine_379 : decode b_K_combine 379 = .ok (.ireturn, 1) := by decide +kernel
theorem d_K_combine_380 : decode b_K_combine 380 = .ok (.aload_n 0, 1) := by decide +kernel
theorem d_K_combine_381 : decode b_K_combine 381 = .ok (.getfield 19, 3) := by decide +kernel
theorem d_K_combine_384 : decode b_K_combine 384 = .ok (.aload 6, 2) := by decide +kernel
theorem d_K_combine_386 : decode b_K_combine 386 = .ok (.aload 7, 2) := by decide +kernel
theorem d_K_combine_388 : decode b_K_combine 388 = .ok (.invokevirtual 97, 3) := by decide +kernel
theorem d_K_combine_391 : decode b_K_combine 391 = .ok (.aload_n 0, 1) := by decide +kernel
theorem d_K_combine_392 : decode b_K_combine 392 = .ok (.getfield 19, 3) := by decide +kernel
theorem d_K_combine_395 : decode b_K_combine 395 = .ok (.aload 5, 2) := by decide +kernel
theorem d_K_combine_397 : decode b_K_combine 397 = .ok (.invokevirtual 88, 3) := by decide +kernel
theorem d_K_combine_400 : decode b_K_combine 400 = .ok (.ireturn, 1) := by decide +kernel
theorem d_F_isWhole_0 : decode b_F_isWhole 0 = .ok (.aload_n 0, 1) := by decide +kernel
theorem d_F_isWhole_1 : decode b_F_isWhole 1 = .ok (.getfield 18, 3) := by decide +kernel
theorem d_F_isWhole_4 : decode b_F_isWhole 4 = .ok (.invokevirtual 29, 3) := by decide +kernel
theorem d_F_isWhole_7 : decode b_F_isWhole 7 = .ok (.ireturn, 1) := by decide +kernel
theorem d_F_signum_0 : decode b_F_signum 0 = .ok (.aload_n 0, 1) := by decide +kernel
theorem d_F_signum_1 : decode b_F_signum 1 = .ok (.getfield 14, 3) := by decide +kernel
theorem d_F_signum_4 : decode b_F_signum 4 = .ok (.invokevirtual 33, 3) := by decide +kernel
theorem d_F_signum_7 : decode b_F_signum 7 = .ok (.ifCond .eq 5, 3) := by decide +kernel
theorem d_F_signum_10 : decode b_F_signum 10 = .ok (.iconst 0, 1) := by decide +kernel
theorem d_F_signum_11 : decode b_F_signum 11 = .ok (.ireturn, 1) := by decide +kernel
theorem d_F_signum_12 : decode b_F_signum 12 = .ok (.aload_n 0, 1) := by decide +kernel
theorem d_F_signum_13 : decode b_F_signum 13 = .ok (.getfield 25, 3) := by decide +kernel
theorem d_F_signum_16 : decode b_F_signum 16 = .ok (.ifCond .eq 7, 3) := by decide +kernel
theorem d_F_signum_19 : decode b_F_signum 19 = .ok (.iconst (-1), 1) := by decide +kernel
theorem d_F_signum_20 : decode b_F_signum 20 = .ok (.goto 4, 3) := by decide +kernel
theorem d_F_signum_23 : decode b_F_signum 23 = .ok (.iconst 1, 1) := by decide +kernel
theorem d_F_signum_24 : decode b_F_signum 24 = .ok (.ireturn, 1) := by decide +kernel
theorem d_B_add_0 : decode b_B_add 0 = .ok (.aload_n 0, 1) := by decide +kernel
theorem d_B_add_1 : decode b_B_add 1 = .ok (.aload_n 1, 1) := by decide +kernel
theorem d_B_add_2 : decode b_B_add 2 = .ok (.aload_n 2, 1) := by decide +kernel
theorem d_B_add_3 : decode b_B_add 3 = .ok (.invokevirtual 115, 3) := by decide +kernel
theorem d_B_add_6 : decode b_B_add 6 = .ok (.aload_n 0, 1) := by decide +kernel
theorem d_B_add_7 : decode b_B_add 7 = .ok (.getfield 20, 3) := by decide +kernel
theorem d_B_add_10 : decode b_B_add 10 = .ok (.aload_n 1, 1) := by decide +kernel
theorem d_B_add_11 : decode b_B_add 11 = .ok (.getfield 72, 3) := by decide +kernel
theorem d_B_add_14 : decode b_B_add 14 = .ok (.aload_n 2, 1) := by decide +kernel
theorem d_B_add_15 : decode b_B_add 15 = .ok (.getfield 72, 3) := by decide +kernel
theorem d_B_add_18 : decode b_B_add 18 = .ok (.invokevirtual 109, 3) := by decide +kernel
theorem d_B_add_21 : decode b_B_add 21 = .ok (.aload_n 0, 1) := by decide +kernel
theorem d_B_add_22 : decode b_B_add 22 = .ok (.aload_n 1, 1) := by decide +kernel
theorem d_B_add_23 : decode b_B_add 23 = .ok (.getfield 76, 3) := by decide +kernel
theorem d_B_add_26 : decode b_B_add 26 = .ok (.putfield 39, 3) := by decide +kernel
theorem d_B_add_29 : decode b_B_add 29 = .ok (.aload_n 1, 1) := by decide +kernel
theorem d_B_add_30 : decode b_B_add 30 = .ok (.getfield 76, 3) := by decide +kernel
theorem d_B_add_33 : decode b_B_add 33 = .ok (.iload_n 3, 1) := by decide +kernel
theorem d_B_add_34 : decode b_B_add 34 = .ok (.if_icmp .ne 23, 3) := by decide +kernel
theorem d_B_add_37 : decode b_B_add 37 = .ok (.aload_n 0, 1) := by decide +kernel
theorem d_B_add_38 : decode b_B_add 38 = .ok (.getfield 16, 3) := by decide +kernel
theorem d_B_add_41 : decode b_B_add 41 = .ok (.lconst 1, 1) := by decide +kernel
theorem d_B_add_42 : decode b_B_add 42 = .ok (.aload_n 0, 1) := by decide +kernel
theorem d_B_add_43 : decode b_B_add 43 = .ok (.getfield 23, 3) := by decide +kernel
theorem d_B_add_46 : decode b_B_add 46 = .ok (.lconst 1, 1) := by decide +kernel
theorem d_B_add_47 : decode b_B_add 47 = .ok (.aload_n 0, 1) := by decide +kernel
theorem d_B_add_48 : decode b_B_add 48 = .ok (.getfield 26, 3) := by decide +kernel
theorem d_B_add_51 : decode b_B_add 51 = .ok (.invokevirtual 123, 3) := by decide +kernel
theorem d_B_add_54 : decode b_B_add 54 = .ok (.goto 63, 3) := by decide +kernel
theorem d_B_add_57 : decode b_B_add 57 = .ok (.aload_n 0, 1) := by decide +kernel
theorem d_B_add_58 : decode b_B_add 58 = .ok (.getfield 23, 3) := by decide +kernel
theorem d_B_add_61 : decode b_B_add 61 = .ok (.aload_n 0, 1) := by decide +kernel
theorem d_B_add_62 : decode b_B_add 62 = .ok (.getfield 26, 3) := by decide +kernel
theorem d_B_add_65 : decode b_B_add 65 = .ok (.invokestatic 119, 3) := by decide +kernel
theorem d_B_add_68 : decode b_B_add 68 = .ok (.ifCond .lt 25, 3) := by decide +kernel
theorem d_B_add_71 : decode b_B_add 71 = .ok (.aload_n 0, 1) := by decide +kernel
theorem d_B_add_72 : decode b_B_add 72 = .ok (.getfield 16, 3) := by decide +kernel
theorem d_B_add_75 : decode b_B_add 75 = .ok (.lconst 1, 1) := by decide +kernel
theorem d_B_add_76 : decode b_B_add 76 = .ok (.aload_n 0, 1) := by decide +kernel
theorem d_B_add_77 : decode b_B_add 77 = .ok (.getfield 23, 3) := by decide +kernel
theorem d_B_add_80 : decode b_B_add 80 = .ok (.ldc2_w 127, 3) := by decide +kernel
theorem d_B_add_83 : decode b_B_add 83 = .ok (.aload_n 0, 1) := by decide +kernel
theorem d_B_add_84 : decode b_B_add 84 = .ok (.getfield 26, 3) := by decide +kernel
theorem d_B_add_87 : decode b_B_add 87 = .ok (.invokevirtual 123, 3) := by decide +kernel
theorem d_B_add_90 : decode b_B_add 90 = .ok (.goto 27, 3) := by decide +kernel
theorem d_B_add_93 : decode b_B_add 93 = .ok (.aload_n 0, 1) := by decide +kernel
theorem d_B_add_94 : decode b_B_add 94 = .ok (.getfield 16, 3) := by decide +kernel
theorem d_B_add_97 : decode b_B_add 97 = .ok (.lconst 1, 1) := by decide +kernel
theorem d_B_add_98 : decode b_B_add 98 = .ok (.aload_n 0, 1) := by decide +kernel
theorem d_B_add_99 : decode b_B_add 99 = .ok (.getfield 26, 3) := by decide +kernel
theorem d_B_add_102 : decode b_B_add 102 = .ok (.ldc2_w 127, 3) := by decide +kernel
theorem d_B_add_105 : decode b_B_add 105 = .ok (.aload_n 0, 1) := by decide +kernel
theorem d_B_add_106 : decode b_B_add 106 = .ok (.getfield 23, 3) := by decide +kernel
theorem d_B_add_109 : decode b_B_add 109 = .ok (.invokevirtual 123, 3) := by decide +kernel
theorem d_B_add_112 : decode b_B_add 112 = .ok (.aload_n 0, 1) := by decide +kernel
theorem d_B_add_113 : decode b_B_add 113 = .ok (.iload_n 3, 1) := by decide +kernel
theorem d_B_add_114 : decode b_B_add 114 = .ok (.putfield 39, 3) := by decide +kernel
theorem d_B_add_117 : decode b_B_add 117 = .ok (.return_, 1) := by decide +kernel
theorem d_B_cross_0 : decode b_B_cross 0 = .ok (.aload_n 0, 1) := by decide +kernel
theorem d_B_cross_1 : decode b_B_cross 1 = .ok (.getfield 23, 3) := by decide +kernel
theorem d_B_cross_4 : decode b_B_cross 4 = .ok (.aload_n 1, 1) := by decide +kernel
theorem d_B_cross_5 : decode b_B_cross 5 = .ok (.getfield 69, 3) := by decide +kernel
theorem d_B_cross_8 : decode b_B_cross 8 = .ok (.aload_n 2, 1) := by decide +kernel
theorem d_B_cross_9 : decode b_B_cross 9 = .ok (.getfield 72, 3) := by decide +kernel
theorem d_B_cross_12 : decode b_B_cross 12 = .ok (.invokevirtual 109, 3) := by decide +kernel
theorem d_B_cross_15 : decode b_B_cross 15 = .ok (.aload_n 0, 1) := by decide +kernel
theorem d_B_cross_16 : decode b_B_cross 16 = .ok (.getfield 26, 3) := by decide +kernel
theorem d_B_cross_19 : decode b_B_cross 19 = .ok (.aload_n 2, 1) := by decide +kernel
theorem d_B_cross_20 : decode b_B_cross 20 = .ok (.getfield 69, 3) := by decide +kernel
theorem d_B_cross_23 : decode b_B_cross 23 = .ok (.aload_n 1, 1) := by decide +kernel
theorem d_B_cross_24 : decode b_B_cross 24 = .ok (.getfield 72, 3) := by decide +kernel
theorem d_B_cross_27 : decode b_B_cross 27 = .ok (.invokevirtual 109, 3) := by decide +kernel
theorem d_B_cross_30 : decode b_B_cross 30 = .ok (.return_, 1) := by decide +kernel
theorem d_W_becomeProduct_0 : decode b_W_becomeProduct 0 = .ok (.aload_n 1, 1) := by decide +kernel
theorem d_W_becomeProduct_1 : decode b_W_becomeProduct 1 = .ok (.getfield 21, 3) := by decide +kernel
theorem d_W_becomeProduct_4 : decode b_W_becomeProduct 4 = .ok (.aload_n 2, 1) := by decide +kernel
theorem d_W_becomeProduct_5 : decode b_W_becomeProduct 5 = .ok (.getfield 21, 3) := by decide +kernel
theorem d_W_becomeProduct_8 : decode b_W_becomeProduct 8 = .ok (.iadd, 1) := by decide +kernel
theorem d_W_becomeProduct_9 : decode b_W_becomeProduct 9 = .ok (.istore_n 3, 1) := by decide +kernel
theorem d_W_becomeProduct_10 : decode b_W_becomeProduct 10 = .ok (.iload_n 3, 1) := by decide +kernel
theorem d_W_becomeProduct_11 : decode b_W_becomeProduct 11 = .ok (.aload_n 0, 1) := by decide +kernel
theorem d_W_becomeProduct_12 : decode b_W_becomeProduct 12 = .ok (.getfield 17, 3) := by decide +kernel
theorem d_W_becomeProduct_15 : decode b_W_becomeProduct 15 = .ok (.arraylength, 1) := by decide +kernel
theorem d_W_becomeProduct_16 : decode b_W_becomeProduct 16 = .ok (.if_icmp .le 9, 3) := by decide +kernel
theorem d_W_becomeProduct_19 : decode b_W_becomeProduct 19 = .ok (.aload_n 0, 1) := by decide +kernel
theorem d_W_becomeProduct_20 : decode b_W_becomeProduct 20 = .ok (.iconst 0, 1) := by decide +kernel
theorem d_W_becomeProduct_21 : decode b_W_becomeProduct 21 = .ok (.putfield 21, 3) := by decide +kernel
theorem d_W_becomeProduct_24 : decode b_W_becomeProduct 24 = .ok (.return_, 1) := by decide +kernel
theorem d_W_becomeProduct_25 : decode b_W_becomeProduct 25 = .ok (.iconst 0, 1) := by decide +kernel
theorem d_W_becomeProduct_26 : decode b_W_becomeProduct 26 = .ok (.istore 4, 2) := by decide +kernel
theorem d_W_becomeProduct_28 : decode b_W_becomeProduct 28 = .ok (.iload 4, 2) := by decide +kernel
theorem d_W_becomeProduct_30 : decode b_W_becomeProduct 30 = .ok (.aload_n 2, 1) := by decide +kernel
theorem d_W_becomeProduct_31 : decode b_W_becomeProduct 31 = .ok (.getfield 21, 3) := by decide +kernel
theorem d_W_becomeProduct_34 : decode b_W_becomeProduct 34 = .ok (.if_icmp .ge 17, 3) := by decide +kernel
theorem d_W_becomeProduct_37 : decode b_W_becomeProduct 37 = .ok (.aload_n 0, 1) := by decide +kernel
theorem d_W_becomeProduct_38 : decode b_W_becomeProduct 38 = .ok (.getfield 17, 3) := by decide +kernel
theorem d_W_becomeProduct_41 : decode b_W_becomeProduct 41 = .ok (.iload 4, 2) := by decide +kernel
theorem d_W_becomeProduct_43 : decode b_W_becomeProduct 43 = .ok (.iconst 0, 1) := by decide +kernel
theorem d_W_becomeProduct_44 : decode b_W_becomeProduct 44 = .ok (.iastore, 1) := by decide +kernel
theorem d_W_becomeProduct_45 : decode b_W_becomeProduct 45 = .ok (.iinc 4 1, 3) := by decide +kernel
theorem d_W_becomeProduct_48 : decode b_W_becomeProduct 48 = .ok (.goto (-20), 3) := by decide +kernel
theorem d_W_becomeProduct_51 : decode b_W_becomeProduct 51 = .ok (.iconst 0, 1) := by decide +kernel
theorem d_W_becomeProduct_52 : decode b_W_becomeProduct 52 = .ok (.istore 4, 2) := by decide +kernel
theorem d_W_becomeProduct_54 : decode b_W_becomeProduct 54 = .ok (.iload 4, 2) := by decide +kernel
theorem d_W_becomeProduct_56 : decode b_W_becomeProduct 56 = .ok (.aload_n 1, 1) := by decide +kernel
theorem d_W_becomeProduct_57 : decode b_W_becomeProduct 57 = .ok (.getfield 21, 3) := by decide +kernel
theorem d_W_becomeProduct_60 : decode b_W_becomeProduct 60 = .ok (.if_icmp .ge 107, 3) := by decide +kernel
theorem d_W_becomeProduct_63 : decode b_W_becomeProduct 63 = .ok (.aload_n 1, 1) := by decide +kernel
theorem d_W_becomeProduct_64 : decode b_W_becomeProduct 64 = .ok (.getfield 17, 3) := by decide +kernel
theorem d_W_becomeProduct_67 : decode b_W_becomeProduct 67 = .ok (.iload 4, 2) := by decide +kernel
theorem d_W_becomeProduct_69 : decode b_W_becomeProduct 69 = .ok (.iaload, 1) := by decide +kernel
theorem d_W_becomeProduct_70 : decode b_W_becomeProduct 70 = .ok (.i2l, 1) := by decide +kernel
theorem d_W_becomeProduct_71 : decode b_W_becomeProduct 71 = .ok (.lstore 5, 2) := by decide +kernel
theorem d_W_becomeProduct_73 : decode b_W_becomeProduct 73 = .ok (.lconst 0, 1) := by decide +kernel
theorem d_W_becomeProduct_74 : decode b_W_becomeProduct 74 = .ok (.lstore 7, 2) := by decide +kernel
theorem d_W_becomeProduct_76 : decode b_W_becomeProduct 76 = .ok (.iconst 0, 1) := by decide +kernel
theorem d_W_becomeProduct_77 : decode b_W_becomeProduct 77 = .ok (.istore 9, 2) := by decide +kernel
theorem d_W_becomeProduct_79 : decode b_W_becomeProduct 79 = .ok (.iload 9, 2) := by decide +kernel
theorem d_W_becomeProduct_81 : decode b_W_becomeProduct 81 = .ok (.aload_n 2, 1) := by decide +kernel
theorem d_W_becomeProduct_82 : decode b_W_becomeProduct 82 = .ok (.getfield 21, 3) := by decide +kernel
theorem d_W_becomeProduct_85 : decode b_W_becomeProduct 85 = .ok (.if_icmp .ge 61, 3) := by decide +kernel
theorem d_W_becomeProduct_88 : decode b_W_becomeProduct 88 = .ok (.lload 5, 2) := by decide +kernel
theorem d_W_becomeProduct_90 : decode b_W_becomeProduct 90 = .ok (.aload_n 2, 1) := by decide +kernel
theorem d_W_becomeProduct_91 : decode b_W_becomeProduct 91 = .ok (.getfield 17, 3) := by decide +kernel
theorem d_W_becomeProduct_94 : decode b_W_becomeProduct 94 = .ok (.iload 9, 2) := by decide +kernel
theorem d_W_becomeProduct_96 : decode b_W_becomeProduct 96 = .ok (.iaload, 1) := by decide +kernel
theorem d_W_becomeProduct_97 : decode b_W_becomeProduct 97 = .ok (.i2l, 1) := by decide +kernel
theorem d_W_becomeProduct_98 : decode b_W_becomeProduct 98 = .ok (.lmul, 1) := by decide +kernel
theorem d_W_becomeProduct_99 : decode b_W_becomeProduct 99 = .ok (.aload_n 0, 1) := by decide +kernel
theorem d_W_becomeProduct_100 : decode b_W_becomeProduct 100 = .ok (.getfield 17, 3) := by decide +kernel
theorem d_W_becomeProduct_103 : decode b_W_becomeProduct 103 = .ok (.iload 4, 2) := by decide +kernel
theorem d_W_becomeProduct_105 : decode b_W_becomeProduct 105 = .ok (.iload 9, 2) := by decide +kernel
theorem d_W_becomeProduct_107 : decode b_W_becomeProduct 107 = .ok (.iadd, 1) := by decide +kernel
theorem d_W_becomeProduct_108 : decode b_W_becomeProduct 108 = .ok (.iaload, 1) := by decide +kernel
theorem d_W_becomeProduct_109 : decode b_W_becomeProduct 109 = .ok (.i2l, 1) := by decide +kernel
theorem d_W_becomeProduct_110 : decode b_W_becomeProduct 110 = .ok (.ladd, 1) := by decide +kernel
theorem d_W_becomeProduct_111 : decode b_W_becomeProduct 111 = .ok (.lload 7, 2) := by decide +kernel
theorem d_W_becomeProduct_113 : decode b_W_becomeProduct 113 = .ok (.ladd, 1) := by decide +kernel
theorem d_W_becomeProduct_114 : decode b_W_becomeProduct 114 = .ok (.lstore 10, 2) := by decide +kernel
theorem d_W_becomeProduct_116 : decode b_W_becomeProduct 116 = .ok (.aload_n 0, 1) := by decide +kernel
theorem d_W_becomeProduct_117 : decode b_W_becomeProduct 117 = .ok (.getfield 17, 3) := by decide +kernel
theorem d_W_becomeProduct_120 : decode b_W_becomeProduct 120 = .ok (.iload 4, 2) := by decide +kernel
theorem d_W_becomeProduct_122 : decode b_W_becomeProduct 122 = .ok (.iload 9, 2) := by decide +kernel
theorem d_W_becomeProduct_124 : decode b_W_becomeProduct 124 = .ok (.iadd, 1) := by decide +kernel
theorem d_W_becomeProduct_125 : decode b_W_becomeProduct 125 = .ok (.lload 10, 2) := by decide +kernel
theorem d_W_becomeProduct_127 : decode b_W_becomeProduct 127 = .ok (.ldc2_w 43, 3) := by decide +kernel
theorem d_W_becomeProduct_130 : decode b_W_becomeProduct 130 = .ok (.land, 1) := by decide +kernel
theorem d_W_becomeProduct_131 : decode b_W_becomeProduct 131 = .ok (.l2i, 1) := by decide +kernel
theorem d_W_becomeProduct_132 : decode b_W_becomeProduct 132 = .ok (.iastore, 1) := by decide +kernel
theorem d_W_becomeProduct_133 : decode b_W_becomeProduct 133 = .ok (.lload 10, 2) := by decide +kernel
theorem d_W_becomeProduct_135 : decode b_W_becomeProduct 135 = .ok (.bipush 31, 2) := by decide +kernel
theorem d_W_becomeProduct_137 : decode b_W_becomeProduct 137 = .ok (.lushr, 1) := by decide +kernel
theorem d_W_becomeProduct_138 : decode b_W_becomeProduct 138 = .ok (.lstore 7, 2) := by decide +kernel
theorem d_W_becomeProduct_140 : decode b_W_becomeProduct 140 = .ok (.iinc 9 1, 3) := by decide +kernel
theorem d_W_becomeProduct_143 : decode b_W_becomeProduct 143 = .ok (.goto (-64), 3) := by decide +kernel
theorem d_W_becomeProduct_146 : decode b_W_becomeProduct 146 = .ok (.aload_n 0, 1) := by decide +kernel
theorem d_W_becomeProduct_147 : decode b_W_becomeProduct 147 = .ok (.getfield 17, 3) := by decide +kernel
theorem d_W_becomeProduct_150 : decode b_W_becomeProduct 150 = .ok (.iload 4, 2) := by decide +kernel
theorem d_W_becomeProduct_152 : decode b_W_becomeProduct 152 = .ok (.aload_n 2, 1) := by decide +kernel
theorem d_W_becomeProduct_153 : decode b_W_becomeProduct 153 = .ok (.getfield 21, 3) := by decide +kernel
theorem d_W_becomeProduct_156 : decode b_W_becomeProduct 156 = .ok (.iadd, 1) := by decide +kernel
theorem d_W_becomeProduct_157 : decode b_W_becomeProduct 157 = .ok (.lload 7, 2) := by decide +kernel
theorem d_W_becomeProduct_159 : decode b_W_becomeProduct 159 = .ok (.l2i, 1) := by decide +kernel
end
section
/-! the instructions, by program -/
theorem d_W_becomeProduct_160 : decode b_W_becomeProduct 160 = .ok (.iastore, 1) := by decide +kernel
theorem d_W_becomeProduct_161 : decode b_W_becomeProduct 161 = .ok (.iinc 4 1, 3) := by decide +kernel
theorem d_W_becomeProduct_164 : decode b_W_becomeProduct 164 = .ok (.goto (-110), 3) := by decide +kernel
theorem d_W_becomeProduct_167 : decode b_W_becomeProduct 167 = .ok (.aload_n 0, 1) := by decide +kernel
theorem d_W_becomeProduct_168 : decode b_W_becomeProduct 168 = .ok (.iload_n 3, 1) := by decide +kernel
theorem d_W_becomeProduct_169 : decode b_W_becomeProduct 169 = .ok (.invokevirtual 48, 3) := by decide +kernel
theorem d_W_becomeProduct_172 : decode b_W_becomeProduct 172 = .ok (.return_, 1) := by decide +kernel
theorem d_B_multiply_0 : decode b_B_multiply 0 = .ok (.aload_n 0, 1) := by decide +kernel
theorem d_B_multiply_1 : decode b_B_multiply 1 = .ok (.getfield 16, 3) := by decide +kernel
theorem d_B_multiply_4 : decode b_B_multiply 4 = .ok (.aload_n 1, 1) := by decide +kernel
theorem d_B_multiply_5 : decode b_B_multiply 5 = .ok (.getfield 69, 3) := by decide +kernel
theorem d_B_multiply_8 : decode b_B_multiply 8 = .ok (.aload_n 2, 1) := by decide +kernel
theorem d_B_multiply_9 : decode b_B_multiply 9 = .ok (.getfield 69, 3) := by decide +kernel
theorem d_B_multiply_12 : decode b_B_multiply 12 = .ok (.invokevirtual 109, 3) := by decide +kernel
theorem d_B_multiply_15 : decode b_B_multiply 15 = .ok (.aload_n 0, 1) := by decide +kernel
theorem d_B_multiply_16 : decode b_B_multiply 16 = .ok (.getfield 20, 3) := by decide +kernel
theorem d_B_multiply_19 : decode b_B_multiply 19 = .ok (.aload_n 1, 1) := by decide +kernel
theorem d_B_multiply_20 : decode b_B_multiply 20 = .ok (.getfield 72, 3) := by decide +kernel
theorem d_B_multiply_23 : decode b_B_multiply 23 = .ok (.aload_n 2, 1) := by decide +kernel
theorem d_B_multiply_24 : decode b_B_multiply 24 = .ok (.getfield 72, 3) := by decide +kernel
theorem d_B_multiply_27 : decode b_B_multiply 27 = .ok (.invokevirtual 109, 3) := by decide +kernel
theorem d_B_multiply_30 : decode b_B_multiply 30 = .ok (.aload_n 0, 1) := by decide +kernel
theorem d_B_multiply_31 : decode b_B_multiply 31 = .ok (.aload_n 1, 1) := by decide +kernel
theorem d_B_multiply_32 : decode b_B_multiply 32 = .ok (.getfield 76, 3) := by decide +kernel
theorem d_B_multiply_35 : decode b_B_multiply 35 = .ok (.aload_n 2, 1) := by decide +kernel
theorem d_B_multiply_36 : decode b_B_multiply 36 = .ok (.getfield 76, 3) := by decide +kernel
theorem d_B_multiply_39 : decode b_B_multiply 39 = .ok (.if_icmp .eq 7, 3) := by decide +kernel
theorem d_B_multiply_42 : decode b_B_multiply 42 = .ok (.iconst 1, 1) := by decide +kernel
theorem d_B_multiply_43 : decode b_B_multiply 43 = .ok (.goto 4, 3) := by decide +kernel
theorem d_B_multiply_46 : decode b_B_multiply 46 = .ok (.iconst 0, 1) := by decide +kernel
theorem d_B_multiply_47 : decode b_B_multiply 47 = .ok (.putfield 39, 3) := by decide +kernel
theorem d_B_multiply_50 : decode b_B_multiply 50 = .ok (.return_, 1) := by decide +kernel
theorem d_B_divide_0 : decode b_B_divide 0 = .ok (.aload_n 0, 1) := by decide +kernel
theorem d_B_divide_1 : decode b_B_divide 1 = .ok (.aload_n 1, 1) := by decide +kernel
theorem d_B_divide_2 : decode b_B_divide 2 = .ok (.aload_n 2, 1) := by decide +kernel
theorem d_B_divide_3 : decode b_B_divide 3 = .ok (.invokevirtual 115, 3) := by decide +kernel
theorem d_B_divide_6 : decode b_B_divide 6 = .ok (.aload_n 0, 1) := by decide +kernel
theorem d_B_divide_7 : decode b_B_divide 7 = .ok (.aload_n 0, 1) := by decide +kernel
theorem d_B_divide_8 : decode b_B_divide 8 = .ok (.getfield 23, 3) := by decide +kernel
theorem d_B_divide_11 : decode b_B_divide 11 = .ok (.aload_n 0, 1) := by decide +kernel
theorem d_B_divide_12 : decode b_B_divide 12 = .ok (.getfield 26, 3) := by decide +kernel
theorem d_B_divide_15 : decode b_B_divide 15 = .ok (.aload_n 1, 1) := by decide +kernel
theorem d_B_divide_16 : decode b_B_divide 16 = .ok (.getfield 76, 3) := by decide +kernel
theorem d_B_divide_19 : decode b_B_divide 19 = .ok (.aload_n 2, 1) := by decide +kernel
theorem d_B_divide_20 : decode b_B_divide 20 = .ok (.getfield 76, 3) := by decide +kernel
theorem d_B_divide_23 : decode b_B_divide 23 = .ok (.if_icmp .eq 7, 3) := by decide +kernel
theorem d_B_divide_26 : decode b_B_divide 26 = .ok (.iconst 1, 1) := by decide +kernel
theorem d_B_divide_27 : decode b_B_divide 27 = .ok (.goto 4, 3) := by decide +kernel
theorem d_B_divide_30 : decode b_B_divide 30 = .ok (.iconst 0, 1) := by decide +kernel
theorem d_B_divide_31 : decode b_B_divide 31 = .ok (.invokevirtual 105, 3) := by decide +kernel
theorem d_B_divide_34 : decode b_B_divide 34 = .ok (.return_, 1) := by decide +kernel
theorem d_B_takeParts_0 : decode b_B_takeParts 0 = .ok (.aload_n 0, 1) := by decide +kernel
theorem d_B_takeParts_1 : decode b_B_takeParts 1 = .ok (.getfield 16, 3) := by decide +kernel
theorem d_B_takeParts_4 : decode b_B_takeParts 4 = .ok (.aload_n 1, 1) := by decide +kernel
theorem d_B_takeParts_5 : decode b_B_takeParts 5 = .ok (.invokevirtual 47, 3) := by decide +kernel
theorem d_B_takeParts_8 : decode b_B_takeParts 8 = .ok (.aload_n 0, 1) := by decide +kernel
theorem d_B_takeParts_9 : decode b_B_takeParts 9 = .ok (.getfield 20, 3) := by decide +kernel
theorem d_B_takeParts_12 : decode b_B_takeParts 12 = .ok (.aload_n 2, 1) := by decide +kernel
theorem d_B_takeParts_13 : decode b_B_takeParts 13 = .ok (.invokevirtual 47, 3) := by decide +kernel
theorem d_B_takeParts_16 : decode b_B_takeParts 16 = .ok (.aload_n 0, 1) := by decide +kernel
theorem d_B_takeParts_17 : decode b_B_takeParts 17 = .ok (.iload_n 3, 1) := by decide +kernel
theorem d_B_takeParts_18 : decode b_B_takeParts 18 = .ok (.putfield 39, 3) := by decide +kernel
theorem d_B_takeParts_21 : decode b_B_takeParts 21 = .ok (.return_, 1) := by decide +kernel
theorem d_B_compareFractions_0 : decode b_B_compareFractions 0 = .ok (.aload_n 1, 1) := by decide +kernel
theorem d_B_compareFractions_1 : decode b_B_compareFractions 1 = .ok (.invokevirtual 112, 3) := by decide +kernel
theorem d_B_compareFractions_4 : decode b_B_compareFractions 4 = .ok (.istore_n 3, 1) := by decide +kernel
theorem d_B_compareFractions_5 : decode b_B_compareFractions 5 = .ok (.aload_n 2, 1) := by decide +kernel
theorem d_B_compareFractions_6 : decode b_B_compareFractions 6 = .ok (.invokevirtual 112, 3) := by decide +kernel
theorem d_B_compareFractions_9 : decode b_B_compareFractions 9 = .ok (.istore 4, 2) := by decide +kernel
theorem d_B_compareFractions_11 : decode b_B_compareFractions 11 = .ok (.iload_n 3, 1) := by decide +kernel
theorem d_B_compareFractions_12 : decode b_B_compareFractions 12 = .ok (.iload 4, 2) := by decide +kernel
theorem d_B_compareFractions_14 : decode b_B_compareFractions 14 = .ok (.if_icmp .eq 15, 3) := by decide +kernel
theorem d_B_compareFractions_17 : decode b_B_compareFractions 17 = .ok (.iload_n 3, 1) := by decide +kernel
theorem d_B_compareFractions_18 : decode b_B_compareFractions 18 = .ok (.iload 4, 2) := by decide +kernel
theorem d_B_compareFractions_20 : decode b_B_compareFractions 20 = .ok (.if_icmp .ge 7, 3) := by decide +kernel
theorem d_B_compareFractions_23 : decode b_B_compareFractions 23 = .ok (.iconst (-1), 1) := by decide +kernel
theorem d_B_compareFractions_24 : decode b_B_compareFractions 24 = .ok (.goto 4, 3) := by decide +kernel
theorem d_B_compareFractions_27 : decode b_B_compareFractions 27 = .ok (.iconst 1, 1) := by decide +kernel
theorem d_B_compareFractions_28 : decode b_B_compareFractions 28 = .ok (.ireturn, 1) := by decide +kernel
theorem d_B_compareFractions_29 : decode b_B_compareFractions 29 = .ok (.aload_n 0, 1) := by decide +kernel
theorem d_B_compareFractions_30 : decode b_B_compareFractions 30 = .ok (.aload_n 1, 1) := by decide +kernel
theorem d_B_compareFractions_31 : decode b_B_compareFractions 31 = .ok (.aload_n 2, 1) := by decide +kernel
theorem d_B_compareFractions_32 : decode b_B_compareFractions 32 = .ok (.invokevirtual 115, 3) := by decide +kernel
theorem d_B_compareFractions_35 : decode b_B_compareFractions 35 = .ok (.aload_n 0, 1) := by decide +kernel
theorem d_B_compareFractions_36 : decode b_B_compareFractions 36 = .ok (.getfield 23, 3) := by decide +kernel
theorem d_B_compareFractions_39 : decode b_B_compareFractions 39 = .ok (.aload_n 0, 1) := by decide +kernel
theorem d_B_compareFractions_40 : decode b_B_compareFractions 40 = .ok (.getfield 26, 3) := by decide +kernel
theorem d_B_compareFractions_43 : decode b_B_compareFractions 43 = .ok (.invokestatic 119, 3) := by decide +kernel
theorem d_B_compareFractions_46 : decode b_B_compareFractions 46 = .ok (.istore 5, 2) := by decide +kernel
theorem d_B_compareFractions_48 : decode b_B_compareFractions 48 = .ok (.iload_n 3, 1) := by decide +kernel
theorem d_B_compareFractions_49 : decode b_B_compareFractions 49 = .ok (.ifCond .ge 9, 3) := by decide +kernel
theorem d_B_compareFractions_52 : decode b_B_compareFractions 52 = .ok (.iload 5, 2) := by decide +kernel
theorem d_B_compareFractions_54 : decode b_B_compareFractions 54 = .ok (.ineg, 1) := by decide +kernel
theorem d_B_compareFractions_55 : decode b_B_compareFractions 55 = .ok (.goto 5, 3) := by decide +kernel
theorem d_B_compareFractions_58 : decode b_B_compareFractions 58 = .ok (.iload 5, 2) := by decide +kernel
theorem d_B_compareFractions_60 : decode b_B_compareFractions 60 = .ok (.ireturn, 1) := by decide +kernel
theorem d_B_take_0 : decode b_B_take 0 = .ok (.aload_n 0, 1) := by decide +kernel
theorem d_B_take_1 : decode b_B_take 1 = .ok (.aload_n 1, 1) := by decide +kernel
theorem d_B_take_2 : decode b_B_take 2 = .ok (.getfield 69, 3) := by decide +kernel
theorem d_B_take_5 : decode b_B_take 5 = .ok (.aload_n 1, 1) := by decide +kernel
theorem d_B_take_6 : decode b_B_take 6 = .ok (.getfield 72, 3) := by decide +kernel
theorem d_B_take_9 : decode b_B_take 9 = .ok (.aload_n 1, 1) := by decide +kernel
theorem d_B_take_10 : decode b_B_take 10 = .ok (.getfield 76, 3) := by decide +kernel
theorem d_B_take_13 : decode b_B_take 13 = .ok (.invokevirtual 105, 3) := by decide +kernel
theorem d_B_take_16 : decode b_B_take 16 = .ok (.return_, 1) := by decide +kernel
theorem d_B_divideWhole_0 : decode b_B_divideWhole 0 = .ok (.aload_n 0, 1) := by decide +kernel
theorem d_B_divideWhole_1 : decode b_B_divideWhole 1 = .ok (.aload_n 1, 1) := by decide +kernel
theorem d_B_divideWhole_2 : decode b_B_divideWhole 2 = .ok (.aload_n 2, 1) := by decide +kernel
theorem d_B_divideWhole_3 : decode b_B_divideWhole 3 = .ok (.invokevirtual 115, 3) := by decide +kernel
theorem d_B_divideWhole_6 : decode b_B_divideWhole 6 = .ok (.aload_n 0, 1) := by decide +kernel
theorem d_B_divideWhole_7 : decode b_B_divideWhole 7 = .ok (.aload_n 1, 1) := by decide +kernel
theorem d_B_divideWhole_8 : decode b_B_divideWhole 8 = .ok (.getfield 76, 3) := by decide +kernel
theorem d_B_divideWhole_11 : decode b_B_divideWhole 11 = .ok (.aload_n 2, 1) := by decide +kernel
theorem d_B_divideWhole_12 : decode b_B_divideWhole 12 = .ok (.getfield 76, 3) := by decide +kernel
theorem d_B_divideWhole_15 : decode b_B_divideWhole 15 = .ok (.if_icmp .eq 7, 3) := by decide +kernel
theorem d_B_divideWhole_18 : decode b_B_divideWhole 18 = .ok (.iconst 1, 1) := by decide +kernel
theorem d_B_divideWhole_19 : decode b_B_divideWhole 19 = .ok (.goto 4, 3) := by decide +kernel
theorem d_B_divideWhole_22 : decode b_B_divideWhole 22 = .ok (.iconst 0, 1) := by decide +kernel
theorem d_B_divideWhole_23 : decode b_B_divideWhole 23 = .ok (.putfield 39, 3) := by decide +kernel
theorem d_B_divideWhole_26 : decode b_B_divideWhole 26 = .ok (.aload_n 0, 1) := by decide +kernel
theorem d_B_divideWhole_27 : decode b_B_divideWhole 27 = .ok (.aload_n 0, 1) := by decide +kernel
theorem d_B_divideWhole_28 : decode b_B_divideWhole 28 = .ok (.getfield 39, 3) := by decide +kernel
theorem d_B_divideWhole_31 : decode b_B_divideWhole 31 = .ok (.invokevirtual 129, 3) := by decide +kernel
theorem d_B_divideWhole_34 : decode b_B_divideWhole 34 = .ok (.return_, 1) := by decide +kernel
theorem d_B_roundRatio_0 : decode b_B_roundRatio 0 = .ok (.aload_n 0, 1) := by decide +kernel
theorem d_B_roundRatio_1 : decode b_B_roundRatio 1 = .ok (.getfield 23, 3) := by decide +kernel
theorem d_B_roundRatio_4 : decode b_B_roundRatio 4 = .ok (.aload_n 0, 1) := by decide +kernel
theorem d_B_roundRatio_5 : decode b_B_roundRatio 5 = .ok (.getfield 26, 3) := by decide +kernel
theorem d_B_roundRatio_8 : decode b_B_roundRatio 8 = .ok (.aload_n 0, 1) := by decide +kernel
theorem d_B_roundRatio_9 : decode b_B_roundRatio 9 = .ok (.getfield 16, 3) := by decide +kernel
theorem d_B_roundRatio_12 : decode b_B_roundRatio 12 = .ok (.invokevirtual 63, 3) := by decide +kernel
theorem d_B_roundRatio_15 : decode b_B_roundRatio 15 = .ok (.iload_n 1, 1) := by decide +kernel
theorem d_B_roundRatio_16 : decode b_B_roundRatio 16 = .ok (.ifCond .eq 22, 3) := by decide +kernel
theorem d_B_roundRatio_19 : decode b_B_roundRatio 19 = .ok (.aload_n 0, 1) := by decide +kernel
theorem d_B_roundRatio_20 : decode b_B_roundRatio 20 = .ok (.getfield 23, 3) := by decide +kernel
theorem d_B_roundRatio_23 : decode b_B_roundRatio 23 = .ok (.invokevirtual 73, 3) := by decide +kernel
theorem d_B_roundRatio_26 : decode b_B_roundRatio 26 = .ok (.ifCond .ne 12, 3) := by decide +kernel
theorem d_B_roundRatio_29 : decode b_B_roundRatio 29 = .ok (.aload_n 0, 1) := by decide +kernel
theorem d_B_roundRatio_30 : decode b_B_roundRatio 30 = .ok (.getfield 16, 3) := by decide +kernel
theorem d_B_roundRatio_33 : decode b_B_roundRatio 33 = .ok (.iconst 1, 1) := by decide +kernel
theorem d_B_roundRatio_34 : decode b_B_roundRatio 34 = .ok (.iconst 1, 1) := by decide +kernel
theorem d_B_roundRatio_35 : decode b_B_roundRatio 35 = .ok (.invokevirtual 133, 3) := by decide +kernel
theorem d_B_roundRatio_38 : decode b_B_roundRatio 38 = .ok (.aload_n 0, 1) := by decide +kernel
theorem d_B_roundRatio_39 : decode b_B_roundRatio 39 = .ok (.getfield 20, 3) := by decide +kernel
theorem d_B_roundRatio_42 : decode b_B_roundRatio 42 = .ok (.lconst 1, 1) := by decide +kernel
theorem d_B_roundRatio_43 : decode b_B_roundRatio 43 = .ok (.invokevirtual 83, 3) := by decide +kernel
theorem d_B_roundRatio_46 : decode b_B_roundRatio 46 = .ok (.return_, 1) := by decide +kernel
theorem d_W_timesPlus_0 : decode b_W_timesPlus 0 = .ok (.iload_n 2, 1) := by decide +kernel
theorem d_W_timesPlus_1 : decode b_W_timesPlus 1 = .ok (.i2l, 1) := by decide +kernel
theorem d_W_timesPlus_2 : decode b_W_timesPlus 2 = .ok (.lstore_n 3, 1) := by decide +kernel
theorem d_W_timesPlus_3 : decode b_W_timesPlus 3 = .ok (.iconst 0, 1) := by decide +kernel
theorem d_W_timesPlus_4 : decode b_W_timesPlus 4 = .ok (.istore 5, 2) := by decide +kernel
theorem d_W_timesPlus_6 : decode b_W_timesPlus 6 = .ok (.iload 5, 2) := by decide +kernel
theorem d_W_timesPlus_8 : decode b_W_timesPlus 8 = .ok (.aload_n 0, 1) := by decide +kernel
theorem d_W_timesPlus_9 : decode b_W_timesPlus 9 = .ok (.getfield 21, 3) := by decide +kernel
theorem d_W_timesPlus_12 : decode b_W_timesPlus 12 = .ok (.if_icmp .ge 44, 3) := by decide +kernel
theorem d_W_timesPlus_15 : decode b_W_timesPlus 15 = .ok (.iload_n 1, 1) := by decide +kernel
theorem d_W_timesPlus_16 : decode b_W_timesPlus 16 = .ok (.i2l, 1) := by decide +kernel
theorem d_W_timesPlus_17 : decode b_W_timesPlus 17 = .ok (.aload_n 0, 1) := by decide +kernel
theorem d_W_timesPlus_18 : decode b_W_timesPlus 18 = .ok (.getfield 17, 3) := by decide +kernel
theorem d_W_timesPlus_21 : decode b_W_timesPlus 21 = .ok (.iload 5, 2) := by decide +kernel
theorem d_W_timesPlus_23 : decode b_W_timesPlus 23 = .ok (.iaload, 1) := by decide +kernel
theorem d_W_timesPlus_24 : decode b_W_timesPlus 24 = .ok (.i2l, 1) := by decide +kernel
theorem d_W_timesPlus_25 : decode b_W_timesPlus 25 = .ok (.lmul, 1) := by decide +kernel
theorem d_W_timesPlus_26 : decode b_W_timesPlus 26 = .ok (.lload_n 3, 1) := by decide +kernel
theorem d_W_timesPlus_27 : decode b_W_timesPlus 27 = .ok (.ladd, 1) := by decide +kernel
theorem d_W_timesPlus_28 : decode b_W_timesPlus 28 = .ok (.lstore 6, 2) := by decide +kernel
theorem d_W_timesPlus_30 : decode b_W_timesPlus 30 = .ok (.aload_n 0, 1) := by decide +kernel
theorem d_W_timesPlus_31 : decode b_W_timesPlus 31 = .ok (.getfield 17, 3) := by decide +kernel
theorem d_W_timesPlus_34 : decode b_W_timesPlus 34 = .ok (.iload 5, 2) := by decide +kernel
theorem d_W_timesPlus_36 : decode b_W_timesPlus 36 = .ok (.lload 6, 2) := by decide +kernel
theorem d_W_timesPlus_38 : decode b_W_timesPlus 38 = .ok (.ldc2_w 43, 3) := by decide +kernel
theorem d_W_timesPlus_41 : decode b_W_timesPlus 41 = .ok (.land, 1) := by decide +kernel
theorem d_W_timesPlus_42 : decode b_W_timesPlus 42 = .ok (.l2i, 1) := by decide +kernel
theorem d_W_timesPlus_43 : decode b_W_timesPlus 43 = .ok (.iastore, 1) := by decide +kernel
theorem d_W_timesPlus_44 : decode b_W_timesPlus 44 = .ok (.lload 6, 2) := by decide +kernel
theorem d_W_timesPlus_46 : decode b_W_timesPlus 46 = .ok (.bipush 31, 2) := by decide +kernel
theorem d_W_timesPlus_48 : decode b_W_timesPlus 48 = .ok (.lushr, 1) := by decide +kernel
theorem d_W_timesPlus_49 : decode b_W_timesPlus 49 = .ok (.lstore_n 3, 1) := by decide +kernel
theorem d_W_timesPlus_50 : decode b_W_timesPlus 50 = .ok (.iinc 5 1, 3) := by decide +kernel
theorem d_W_timesPlus_53 : decode b_W_timesPlus 53 = .ok (.goto (-47), 3) := by decide +kernel
theorem d_W_timesPlus_56 : decode b_W_timesPlus 56 = .ok (.lload_n 3, 1) := by decide +kernel
theorem d_W_timesPlus_57 : decode b_W_timesPlus 57 = .ok (.lconst 0, 1) := by decide +kernel
theorem d_W_timesPlus_58 : decode b_W_timesPlus 58 = .ok (.lcmp, 1) := by decide +kernel
theorem d_W_timesPlus_59 : decode b_W_timesPlus 59 = .ok (.ifCond .eq 36, 3) := by decide +kernel
theorem d_W_timesPlus_62 : decode b_W_timesPlus 62 = .ok (.aload_n 0, 1) := by decide +kernel
theorem d_W_timesPlus_63 : decode b_W_timesPlus 63 = .ok (.getfield 21, 3) := by decide +kernel
theorem d_W_timesPlus_66 : decode b_W_timesPlus 66 = .ok (.aload_n 0, 1) := by decide +kernel
theorem d_W_timesPlus_67 : decode b_W_timesPlus 67 = .ok (.getfield 17, 3) := by decide +kernel
theorem d_W_timesPlus_70 : decode b_W_timesPlus 70 = .ok (.arraylength, 1) := by decide +kernel
theorem d_W_timesPlus_71 : decode b_W_timesPlus 71 = .ok (.if_icmp .ge 24, 3) := by decide +kernel
theorem d_W_timesPlus_74 : decode b_W_timesPlus 74 = .ok (.aload_n 0, 1) := by decide +kernel
theorem d_W_timesPlus_75 : decode b_W_timesPlus 75 = .ok (.getfield 17, 3) := by decide +kernel
theorem d_W_timesPlus_78 : decode b_W_timesPlus 78 = .ok (.aload_n 0, 1) := by decide +kernel
theorem d_W_timesPlus_79 : decode b_W_timesPlus 79 = .ok (.getfield 21, 3) := by decide +kernel
theorem d_W_timesPlus_82 : decode b_W_timesPlus 82 = .ok (.lload_n 3, 1) := by decide +kernel
theorem d_W_timesPlus_83 : decode b_W_timesPlus 83 = .ok (.l2i, 1) := by decide +kernel
theorem d_W_timesPlus_84 : decode b_W_timesPlus 84 = .ok (.iastore, 1) := by decide +kernel
theorem d_W_timesPlus_85 : decode b_W_timesPlus 85 = .ok (.aload_n 0, 1) := by decide +kernel
theorem d_W_timesPlus_86 : decode b_W_timesPlus 86 = .ok (.dup, 1) := by decide +kernel
theorem d_W_timesPlus_87 : decode b_W_timesPlus 87 = .ok (.getfield 21, 3) := by decide +kernel
theorem d_W_timesPlus_90 : decode b_W_timesPlus 90 = .ok (.iconst 1, 1) := by decide +kernel
theorem d_W_timesPlus_91 : decode b_W_timesPlus 91 = .ok (.iadd, 1) := by decide +kernel
theorem d_W_timesPlus_92 : decode b_W_timesPlus 92 = .ok (.putfield 21, 3) := by decide +kernel
theorem d_W_timesPlus_95 : decode b_W_timesPlus 95 = .ok (.return_, 1) := by decide +kernel
theorem d_B_takeRest_0 : decode b_B_takeRest 0 = .ok (.aload_n 0, 1) := by decide +kernel
theorem d_B_takeRest_1 : decode b_B_takeRest 1 = .ok (.aload_n 1, 1) := by decide +kernel
theorem d_B_takeRest_2 : decode b_B_takeRest 2 = .ok (.aload_n 2, 1) := by decide +kernel
theorem d_B_takeRest_3 : decode b_B_takeRest 3 = .ok (.invokevirtual 115, 3) := by decide +kernel
theorem d_B_takeRest_6 : decode b_B_takeRest 6 = .ok (.aload_n 0, 1) := by decide +kernel
theorem d_B_takeRest_7 : decode b_B_takeRest 7 = .ok (.getfield 20, 3) := by decide +kernel
theorem d_B_takeRest_10 : decode b_B_takeRest 10 = .ok (.aload_n 1, 1) := by decide +kernel
theorem d_B_takeRest_11 : decode b_B_takeRest 11 = .ok (.getfield 72, 3) := by decide +kernel
theorem d_B_takeRest_14 : decode b_B_takeRest 14 = .ok (.aload_n 2, 1) := by decide +kernel
theorem d_B_takeRest_15 : decode b_B_takeRest 15 = .ok (.getfield 72, 3) := by decide +kernel
theorem d_B_takeRest_18 : decode b_B_takeRest 18 = .ok (.invokevirtual 109, 3) := by decide +kernel
theorem d_B_takeRest_21 : decode b_B_takeRest 21 = .ok (.aload_n 0, 1) := by decide +kernel
theorem d_B_takeRest_22 : decode b_B_takeRest 22 = .ok (.aload_n 2, 1) := by decide +kernel
theorem d_B_takeRest_23 : decode b_B_takeRest 23 = .ok (.getfield 76, 3) := by decide +kernel
theorem d_B_takeRest_26 : decode b_B_takeRest 26 = .ok (.putfield 39, 3) := by decide +kernel
theorem d_B_takeRest_29 : decode b_B_takeRest 29 = .ok (.aload_n 0, 1) := by decide +kernel
theorem d_B_takeRest_30 : decode b_B_takeRest 30 = .ok (.getfield 23, 3) := by decide +kernel
theorem d_B_takeRest_33 : decode b_B_takeRest 33 = .ok (.aload_n 0, 1) := by decide +kernel
theorem d_B_takeRest_34 : decode b_B_takeRest 34 = .ok (.getfield 26, 3) := by decide +kernel
theorem d_B_takeRest_37 : decode b_B_takeRest 37 = .ok (.aload_n 0, 1) := by decide +kernel
theorem d_B_takeRest_38 : decode b_B_takeRest 38 = .ok (.getfield 29, 3) := by decide +kernel
theorem d_B_takeRest_41 : decode b_B_takeRest 41 = .ok (.invokevirtual 63, 3) := by decide +kernel
theorem d_B_takeRest_44 : decode b_B_takeRest 44 = .ok (.aload_n 1, 1) := by decide +kernel
theorem d_B_takeRest_45 : decode b_B_takeRest 45 = .ok (.getfield 76, 3) := by decide +kernel
theorem d_B_takeRest_48 : decode b_B_takeRest 48 = .ok (.aload_n 2, 1) := by decide +kernel
theorem d_B_takeRest_49 : decode b_B_takeRest 49 = .ok (.getfield 76, 3) := by decide +kernel
theorem d_B_takeRest_52 : decode b_B_takeRest 52 = .ok (.if_icmp .eq 13, 3) := by decide +kernel
theorem d_B_takeRest_55 : decode b_B_takeRest 55 = .ok (.aload_n 0, 1) := by decide +kernel
theorem d_B_takeRest_56 : decode b_B_takeRest 56 = .ok (.getfield 23, 3) := by decide +kernel
theorem d_B_takeRest_59 : decode b_B_takeRest 59 = .ok (.invokevirtual 73, 3) := by decide +kernel
theorem d_B_takeRest_62 : decode b_B_takeRest 62 = .ok (.ifCond .eq 17, 3) := by decide +kernel
theorem d_B_takeRest_65 : decode b_B_takeRest 65 = .ok (.aload_n 0, 1) := by decide +kernel
theorem d_B_takeRest_66 : decode b_B_takeRest 66 = .ok (.getfield 16, 3) := by decide +kernel
theorem d_B_takeRest_69 : decode b_B_takeRest 69 = .ok (.aload_n 0, 1) := by decide +kernel
theorem d_B_takeRest_70 : decode b_B_takeRest 70 = .ok (.getfield 23, 3) := by decide +kernel
theorem d_B_takeRest_73 : decode b_B_takeRest 73 = .ok (.invokevirtual 47, 3) := by decide +kernel
theorem d_B_takeRest_76 : decode b_B_takeRest 76 = .ok (.goto 22, 3) := by decide +kernel
theorem d_B_takeRest_79 : decode b_B_takeRest 79 = .ok (.aload_n 0, 1) := by decide +kernel
theorem d_B_takeRest_80 : decode b_B_takeRest 80 = .ok (.getfield 16, 3) := by decide +kernel
theorem d_B_takeRest_83 : decode b_B_takeRest 83 = .ok (.lconst 1, 1) := by decide +kernel
theorem d_B_takeRest_84 : decode b_B_takeRest 84 = .ok (.aload_n 0, 1) := by decide +kernel
theorem d_B_takeRest_85 : decode b_B_takeRest 85 = .ok (.getfield 26, 3) := by decide +kernel
theorem d_B_takeRest_88 : decode b_B_takeRest 88 = .ok (.ldc2_w 127, 3) := by decide +kernel
theorem d_B_takeRest_91 : decode b_B_takeRest 91 = .ok (.aload_n 0, 1) := by decide +kernel
theorem d_B_takeRest_92 : decode b_B_takeRest 92 = .ok (.getfield 23, 3) := by decide +kernel
theorem d_B_takeRest_95 : decode b_B_takeRest 95 = .ok (.invokevirtual 123, 3) := by decide +kernel
theorem d_B_takeRest_98 : decode b_B_takeRest 98 = .ok (.return_, 1) := by decide +kernel
theorem d_B_takeCommonDivisor_0 : decode b_B_takeCommonDivisor 0 = .ok (.aload_n 0, 1) := by decide +kernel
theorem d_B_takeCommonDivisor_1 : decode b_B_takeCommonDivisor 1 = .ok (.getfield 23, 3) := by decide +kernel
theorem d_B_takeCommonDivisor_4 : decode b_B_takeCommonDivisor 4 = .ok (.aload_n 1, 1) := by decide +kernel
theorem d_B_takeCommonDivisor_5 : decode b_B_takeCommonDivisor 5 = .ok (.getfield 69, 3) := by decide +kernel
theorem d_B_takeCommonDivisor_8 : decode b_B_takeCommonDivisor 8 = .ok (.invokevirtual 47, 3) := by decide +kernel
theorem d_B_takeCommonDivisor_11 : decode b_B_takeCommonDivisor 11 = .ok (.aload_n 0, 1) := by decide +kernel
theorem d_B_takeCommonDivisor_12 : decode b_B_takeCommonDivisor 12 = .ok (.getfield 26, 3) := by decide +kernel
theorem d_B_takeCommonDivisor_15 : decode b_B_takeCommonDivisor 15 = .ok (.aload_n 2, 1) := by decide +kernel
theorem d_B_takeCommonDivisor_16 : decode b_B_takeCommonDivisor 16 = .ok (.getfield 69, 3) := by decide +kernel
theorem d_B_takeCommonDivisor_19 : decode b_B_takeCommonDivisor 19 = .ok (.invokevirtual 47, 3) := by decide +kernel
theorem d_B_takeCommonDivisor_22 : decode b_B_takeCommonDivisor 22 = .ok (.aload_n 0, 1) := by decide +kernel
theorem d_B_takeCommonDivisor_23 : decode b_B_takeCommonDivisor 23 = .ok (.aload_n 0, 1) := by decide +kernel
theorem d_B_takeCommonDivisor_24 : decode b_B_takeCommonDivisor 24 = .ok (.getfield 35, 3) := by decide +kernel
theorem d_B_takeCommonDivisor_27 : decode b_B_takeCommonDivisor 27 = .ok (.aload_n 0, 1) := by decide +kernel
theorem d_B_takeCommonDivisor_28 : decode b_B_takeCommonDivisor 28 = .ok (.getfield 23, 3) := by decide +kernel
theorem d_B_takeCommonDivisor_31 : decode b_B_takeCommonDivisor 31 = .ok (.aload_n 0, 1) := by decide +kernel
theorem d_B_takeCommonDivisor_32 : decode b_B_takeCommonDivisor 32 = .ok (.getfield 26, 3) := by decide +kernel
theorem d_B_takeCommonDivisor_35 : decode b_B_takeCommonDivisor 35 = .ok (.invokevirtual 51, 3) := by decide +kernel
theorem d_B_takeCommonDivisor_38 : decode b_B_takeCommonDivisor 38 = .ok (.iconst 0, 1) := by decide +kernel
theorem d_B_takeCommonDivisor_39 : decode b_B_takeCommonDivisor 39 = .ok (.invokevirtual 137, 3) := by decide +kernel
theorem d_B_takeCommonDivisor_42 : decode b_B_takeCommonDivisor 42 = .ok (.return_, 1) := by decide +kernel
theorem d_B_takeWhole_0 : decode b_B_takeWhole 0 = .ok (.aload_n 0, 1) := by decide +kernel
theorem d_B_takeWhole_1 : decode b_B_takeWhole 1 = .ok (.getfield 16, 3) := by decide +kernel
theorem d_B_takeWhole_4 : decode b_B_takeWhole 4 = .ok (.aload_n 1, 1) := by decide +kernel
theorem d_B_takeWhole_5 : decode b_B_takeWhole 5 = .ok (.invokevirtual 47, 3) := by decide +kernel
theorem d_B_takeWhole_8 : decode b_B_takeWhole 8 = .ok (.aload_n 0, 1) := by decide +kernel
theorem d_B_takeWhole_9 : decode b_B_takeWhole 9 = .ok (.getfield 20, 3) := by decide +kernel
theorem d_B_takeWhole_12 : decode b_B_takeWhole 12 = .ok (.lconst 1, 1) := by decide +kernel
theorem d_B_takeWhole_13 : decode b_B_takeWhole 13 = .ok (.invokevirtual 83, 3) := by decide +kernel
theorem d_B_takeWhole_16 : decode b_B_takeWhole 16 = .ok (.aload_n 0, 1) := by decide +kernel
theorem d_B_takeWhole_17 : decode b_B_takeWhole 17 = .ok (.iload_n 2, 1) := by decide +kernel
theorem d_B_takeWhole_18 : decode b_B_takeWhole 18 = .ok (.putfield 39, 3) := by decide +kernel
theorem d_B_takeWhole_21 : decode b_B_takeWhole 21 = .ok (.return_, 1) := by decide +kernel
theorem d_L_change_0 : decode b_L_change 0 = .ok (.aload 4, 2) := by decide +kernel
theorem d_L_change_2 : decode b_L_change 2 = .ok (.iconst 0, 1) := by decide +kernel
theorem d_L_change_3 : decode b_L_change 3 = .ok (.aload_n 0, 1) := by decide +kernel
theorem d_L_change_4 : decode b_L_change 4 = .ok (.iload_n 1, 1) := by decide +kernel
theorem d_L_change_5 : decode b_L_change 5 = .ok (.iload_n 2, 1) := by decide +kernel
theorem d_L_change_6 : decode b_L_change 6 = .ok (.iload_n 3, 1) := by decide +kernel
theorem d_L_change_7 : decode b_L_change 7 = .ok (.invokevirtual 19, 3) := by decide +kernel
theorem d_L_change_10 : decode b_L_change 10 = .ok (.i2l, 1) := by decide +kernel
theorem d_L_change_11 : decode b_L_change 11 = .ok (.lastore, 1) := by decide +kernel
theorem d_L_change_12 : decode b_L_change 12 = .ok (.goto 7, 3) := by decide +kernel
theorem d_L_change_15 : decode b_L_change 15 = .ok (.astore 5, 2) := by decide +kernel
theorem d_L_change_17 : decode b_L_change 17 = .ok (.iconst 1, 1) := by decide +kernel
theorem d_L_change_18 : decode b_L_change 18 = .ok (.ireturn, 1) := by decide +kernel
theorem d_L_change_19 : decode b_L_change 19 = .ok (.iconst 0, 1) := by decide +kernel
theorem d_L_change_20 : decode b_L_change 20 = .ok (.ireturn, 1) := by decide +kernel
theorem d_K_change_0 : decode b_K_change 0 = .ok (.aload_n 0, 1) := by decide +kernel
theorem d_K_change_1 : decode b_K_change 1 = .ok (.iload_n 1, 1) := by decide +kernel
theorem d_K_change_2 : decode b_K_change 2 = .ok (.invokevirtual 34, 3) := by decide +kernel
theorem d_K_change_5 : decode b_K_change 5 = .ok (.astore 4, 2) := by decide +kernel
theorem d_K_change_7 : decode b_K_change 7 = .ok (.aload_n 0, 1) := by decide +kernel
theorem d_K_change_8 : decode b_K_change 8 = .ok (.iload_n 3, 1) := by decide +kernel
theorem d_K_change_9 : decode b_K_change 9 = .ok (.invokevirtual 34, 3) := by decide +kernel
theorem d_K_change_12 : decode b_K_change 12 = .ok (.astore 5, 2) := by decide +kernel
theorem d_K_change_14 : decode b_K_change 14 = .ok (.iload_n 2, 1) := by decide +kernel
theorem d_K_change_15 : decode b_K_change 15 = .ok (.ifCond .lt 9, 3) := by decide +kernel
theorem d_K_change_18 : decode b_K_change 18 = .ok (.iload_n 2, 1) := by decide +kernel
theorem d_K_change_19 : decode b_K_change 19 = .ok (.bipush 6, 2) := by decide +kernel
theorem d_K_change_21 : decode b_K_change 21 = .ok (.if_icmp .le 13, 3) := by decide +kernel
theorem d_K_change_24 : decode b_K_change 24 = .ok (.new 38, 3) := by decide +kernel
theorem d_K_change_27 : decode b_K_change 27 = .ok (.dup, 1) := by decide +kernel
theorem d_K_change_28 : decode b_K_change 28 = .ok (.ldc 53, 2) := by decide +kernel
theorem d_K_change_30 : decode b_K_change 30 = .ok (.invokespecial 42, 3) := by decide +kernel
theorem d_K_change_33 : decode b_K_change 33 = .ok (.athrow, 1) := by decide +kernel
theorem d_K_change_34 : decode b_K_change 34 = .ok (.iload_n 2, 1) := by decide +kernel
theorem d_K_change_35 : decode b_K_change 35 = .ok (.iconst 2, 1) := by decide +kernel
theorem d_K_change_36 : decode b_K_change 36 = .ok (.if_icmp .ne 14, 3) := by decide +kernel
theorem d_K_change_39 : decode b_K_change 39 = .ok (.aload 5, 2) := by decide +kernel
theorem d_K_change_41 : decode b_K_change 41 = .ok (.invokevirtual 61, 3) := by decide +kernel
theorem d_K_change_44 : decode b_K_change 44 = .ok (.ifCond .ne 6, 3) := by decide +kernel
theorem d_K_change_47 : decode b_K_change 47 = .ok (.bipush (-2), 2) := by decide +kernel
theorem d_K_change_49 : decode b_K_change 49 = .ok (.ireturn, 1) := by decide +kernel
theorem d_K_change_50 : decode b_K_change 50 = .ok (.iload_n 2, 1) := by decide +kernel
theorem d_K_change_51 : decode b_K_change 51 = .ok (.tableswitch 178 0 5 #[37, 70, 91, 116, 133, 158], 37) := by decide +kernel
theorem d_K_change_88 : decode b_K_change 88 = .ok (.aload_n 0, 1) := by decide +kernel
theorem d_K_change_89 : decode b_K_change 89 = .ok (.getfield 19, 3) := by decide +kernel
theorem d_K_change_92 : decode b_K_change 92 = .ok (.aload 5, 2) := by decide +kernel
theorem d_K_change_94 : decode b_K_change 94 = .ok (.getfield 100, 3) := by decide +kernel
theorem d_K_change_97 : decode b_K_change 97 = .ok (.aload 5, 2) := by decide +kernel
theorem d_K_change_99 : decode b_K_change 99 = .ok (.getfield 104, 3) := by decide +kernel
theorem d_K_change_102 : decode b_K_change 102 = .ok (.aload 5, 2) := by decide +kernel
theorem d_K_change_104 : decode b_K_change 104 = .ok (.getfield 65, 3) := by decide +kernel
theorem d_K_change_107 : decode b_K_change 107 = .ok (.ifCond .ne 7, 3) := by decide +kernel
theorem d_K_change_110 : decode b_K_change 110 = .ok (.iconst 1, 1) := by decide +kernel
theorem d_K_change_111 : decode b_K_change 111 = .ok (.goto 4, 3) := by decide +kernel
theorem d_K_change_114 : decode b_K_change 114 = .ok (.iconst 0, 1) := by decide +kernel
theorem d_K_change_115 : decode b_K_change 115 = .ok (.invokevirtual 107, 3) := by decide +kernel
theorem d_K_change_118 : decode b_K_change 118 = .ok (.goto 124, 3) := by decide +kernel
theorem d_K_change_121 : decode b_K_change 121 = .ok (.aload_n 0, 1) := by decide +kernel
theorem d_K_change_122 : decode b_K_change 122 = .ok (.getfield 19, 3) := by decide +kernel
theorem d_K_change_125 : decode b_K_change 125 = .ok (.aload 5, 2) := by decide +kernel
theorem d_K_change_127 : decode b_K_change 127 = .ok (.getfield 100, 3) := by decide +kernel
theorem d_K_change_130 : decode b_K_change 130 = .ok (.aload 5, 2) := by decide +kernel
theorem d_K_change_132 : decode b_K_change 132 = .ok (.getfield 104, 3) := by decide +kernel
theorem d_K_change_135 : decode b_K_change 135 = .ok (.iconst 0, 1) := by decide +kernel
theorem d_K_change_136 : decode b_K_change 136 = .ok (.invokevirtual 107, 3) := by decide +kernel
theorem d_K_change_139 : decode b_K_change 139 = .ok (.goto 103, 3) := by decide +kernel
theorem d_K_change_142 : decode b_K_change 142 = .ok (.aload_n 0, 1) := by decide +kernel
theorem d_K_change_143 : decode b_K_change 143 = .ok (.getfield 19, 3) := by decide +kernel
theorem d_K_change_146 : decode b_K_change 146 = .ok (.aload 5, 2) := by decide +kernel
theorem d_K_change_148 : decode b_K_change 148 = .ok (.getfield 104, 3) := by decide +kernel
theorem d_K_change_151 : decode b_K_change 151 = .ok (.aload 5, 2) := by decide +kernel
theorem d_K_change_153 : decode b_K_change 153 = .ok (.getfield 100, 3) := by decide +kernel
theorem d_K_change_156 : decode b_K_change 156 = .ok (.aload 5, 2) := by decide +kernel
theorem d_K_change_158 : decode b_K_change 158 = .ok (.getfield 65, 3) := by decide +kernel
theorem d_K_change_161 : decode b_K_change 161 = .ok (.invokevirtual 107, 3) := by decide +kernel
theorem d_K_change_164 : decode b_K_change 164 = .ok (.goto 78, 3) := by decide +kernel
theorem d_K_change_167 : decode b_K_change 167 = .ok (.aload_n 0, 1) := by decide +kernel
theorem d_K_change_168 : decode b_K_change 168 = .ok (.getfield 19, 3) := by decide +kernel
theorem d_K_change_171 : decode b_K_change 171 = .ok (.aload 5, 2) := by decide +kernel
theorem d_K_change_173 : decode b_K_change 173 = .ok (.aload 5, 2) := by decide +kernel
theorem d_K_change_175 : decode b_K_change 175 = .ok (.getfield 65, 3) := by decide +kernel
theorem d_K_change_178 : decode b_K_change 178 = .ok (.invokevirtual 111, 3) := by decide +kernel
theorem d_K_change_181 : decode b_K_change 181 = .ok (.goto 61, 3) := by decide +kernel
theorem d_K_change_184 : decode b_K_change 184 = .ok (.aload_n 0, 1) := by decide +kernel
theorem d_K_change_185 : decode b_K_change 185 = .ok (.getfield 19, 3) := by decide +kernel
theorem d_K_change_188 : decode b_K_change 188 = .ok (.aload 5, 2) := by decide +kernel
theorem d_K_change_190 : decode b_K_change 190 = .ok (.aload 5, 2) := by decide +kernel
theorem d_K_change_192 : decode b_K_change 192 = .ok (.getfield 65, 3) := by decide +kernel
theorem d_K_change_195 : decode b_K_change 195 = .ok (.ifCond .ne 7, 3) := by decide +kernel
theorem d_K_change_198 : decode b_K_change 198 = .ok (.iconst 1, 1) := by decide +kernel
theorem d_K_change_199 : decode b_K_change 199 = .ok (.goto 4, 3) := by decide +kernel
theorem d_K_change_202 : decode b_K_change 202 = .ok (.iconst 0, 1) := by decide +kernel
theorem d_K_change_203 : decode b_K_change 203 = .ok (.invokevirtual 111, 3) := by decide +kernel
theorem d_K_change_206 : decode b_K_change 206 = .ok (.goto 36, 3) := by decide +kernel
theorem d_K_change_209 : decode b_K_change 209 = .ok (.aload_n 0, 1) := by decide +kernel
theorem d_K_change_210 : decode b_K_change 210 = .ok (.getfield 19, 3) := by decide +kernel
theorem d_K_change_213 : decode b_K_change 213 = .ok (.aload 5, 2) := by decide +kernel
theorem d_K_change_215 : decode b_K_change 215 = .ok (.getfield 100, 3) := by decide +kernel
theorem d_K_change_218 : decode b_K_change 218 = .ok (.aload 5, 2) := by decide +kernel
theorem d_K_change_220 : decode b_K_change 220 = .ok (.getfield 65, 3) := by decide +kernel
theorem d_K_change_223 : decode b_K_change 223 = .ok (.invokevirtual 115, 3) := by decide +kernel
theorem d_K_change_226 : decode b_K_change 226 = .ok (.goto 16, 3) := by decide +kernel
theorem d_K_change_229 : decode b_K_change 229 = .ok (.aload_n 0, 1) := by decide +kernel
theorem d_K_change_230 : decode b_K_change 230 = .ok (.getfield 19, 3) := by decide +kernel
theorem d_K_change_233 : decode b_K_change 233 = .ok (.aload 5, 2) := by decide +kernel
theorem d_K_change_235 : decode b_K_change 235 = .ok (.getfield 104, 3) := by decide +kernel
theorem d_K_change_238 : decode b_K_change 238 = .ok (.iconst 0, 1) := by decide +kernel
theorem d_K_change_239 : decode b_K_change 239 = .ok (.invokevirtual 115, 3) := by decide +kernel
theorem d_K_change_242 : decode b_K_change 242 = .ok (.aload_n 0, 1) := by decide +kernel
theorem d_K_change_243 : decode b_K_change 243 = .ok (.getfield 19, 3) := by decide +kernel
theorem d_K_change_246 : decode b_K_change 246 = .ok (.aload 4, 2) := by decide +kernel
theorem d_K_change_248 : decode b_K_change 248 = .ok (.invokevirtual 88, 3) := by decide +kernel
theorem d_K_change_251 : decode b_K_change 251 = .ok (.ireturn, 1) := by decide +kernel
theorem d_B_round_0 : decode b_B_round 0 = .ok (.aload_n 0, 1) := by decide +kernel
theorem d_B_round_1 : decode b_B_round 1 = .ok (.getfield 23, 3) := by decide +kernel
theorem d_B_round_4 : decode b_B_round 4 = .ok (.aload_n 1, 1) := by decide +kernel
theorem d_B_round_5 : decode b_B_round 5 = .ok (.getfield 69, 3) := by decide +kernel
theorem d_B_round_8 : decode b_B_round 8 = .ok (.invokevirtual 47, 3) := by decide +kernel
theorem d_B_round_11 : decode b_B_round 11 = .ok (.aload_n 0, 1) := by decide +kernel
theorem d_B_round_12 : decode b_B_round 12 = .ok (.getfield 26, 3) := by decide +kernel
theorem d_B_round_15 : decode b_B_round 15 = .ok (.aload_n 1, 1) := by decide +kernel
theorem d_B_round_16 : decode b_B_round 16 = .ok (.getfield 72, 3) := by decide +kernel
theorem d_B_round_19 : decode b_B_round 19 = .ok (.invokevirtual 47, 3) := by decide +kernel
theorem d_B_round_22 : decode b_B_round 22 = .ok (.aload_n 0, 1) := by decide +kernel
theorem d_B_round_23 : decode b_B_round 23 = .ok (.aload_n 1, 1) := by decide +kernel
theorem d_B_round_24 : decode b_B_round 24 = .ok (.getfield 76, 3) := by decide +kernel
theorem d_B_round_27 : decode b_B_round 27 = .ok (.putfield 39, 3) := by decide +kernel
theorem d_B_round_30 : decode b_B_round 30 = .ok (.aload_n 0, 1) := by decide +kernel
theorem d_B_round_31 : decode b_B_round 31 = .ok (.iload_n 2, 1) := by decide +kernel
theorem d_B_round_32 : decode b_B_round 32 = .ok (.invokevirtual 129, 3) := by decide +kernel
theorem d_B_round_35 : decode b_B_round 35 = .ok (.return_, 1) := by decide +kernel
theorem d_L_power_0 : decode b_L_power 0 = .ok (.aload 4, 2) := by decide +kernel
theorem d_L_power_2 : decode b_L_power 2 = .ok (.iconst 0, 1) := by decide +kernel
theorem d_L_power_3 : decode b_L_power 3 = .ok (.aload_n 0, 1) := by decide +kernel
theorem d_L_power_4 : decode b_L_power 4 = .ok (.iload_n 1, 1) := by decide +kernel
theorem d_L_power_5 : decode b_L_power 5 = .ok (.iload_n 2, 1) := by decide +kernel
theorem d_L_power_6 : decode b_L_power 6 = .ok (.iload_n 3, 1) := by decide +kernel
theorem d_L_power_7 : decode b_L_power 7 = .ok (.invokevirtual 23, 3) := by decide +kernel
theorem d_L_power_10 : decode b_L_power 10 = .ok (.i2l, 1) := by decide +kernel
theorem d_L_power_11 : decode b_L_power 11 = .ok (.lastore, 1) := by decide +kernel
theorem d_L_power_12 : decode b_L_power 12 = .ok (.goto 7, 3) := by decide +kernel
theorem d_L_power_15 : decode b_L_power 15 = .ok (.astore 5, 2) := by decide +kernel
theorem d_L_power_17 : decode b_L_power 17 = .ok (.iconst 1, 1) := by decide +kernel
theorem d_L_power_18 : decode b_L_power 18 = .ok (.ireturn, 1) := by decide +kernel
theorem d_L_power_19 : decode b_L_power 19 = .ok (.iconst 0, 1) := by decide +kernel
theorem d_L_power_20 : decode b_L_power 20 = .ok (.ireturn, 1) := by decide +kernel
theorem d_K_power_0 : decode b_K_power 0 = .ok (.aload_n 0, 1) := by decide +kernel
theorem d_K_power_1 : decode b_K_power 1 = .ok (.iload_n 1, 1) := by decide +kernel
theorem d_K_power_2 : decode b_K_power 2 = .ok (.invokevirtual 34, 3) := by decide +kernel
theorem d_K_power_5 : decode b_K_power 5 = .ok (.astore 4, 2) := by decide +kernel
theorem d_K_power_7 : decode b_K_power 7 = .ok (.aload_n 0, 1) := by decide +kernel
theorem d_K_power_8 : decode b_K_power 8 = .ok (.iload_n 2, 1) := by decide +kernel
theorem d_K_power_9 : decode b_K_power 9 = .ok (.invokevirtual 34, 3) := by decide +kernel
theorem d_K_power_12 : decode b_K_power 12 = .ok (.astore 5, 2) := by decide +kernel
theorem d_K_power_14 : decode b_K_power 14 = .ok (.iload_n 3, 1) := by decide +kernel
theorem d_K_power_15 : decode b_K_power 15 = .ok (.sipush (-2048), 3) := by decide +kernel
theorem d_K_power_18 : decode b_K_power 18 = .ok (.if_icmp .lt 10, 3) := by decide +kernel
theorem d_K_power_21 : decode b_K_power 21 = .ok (.iload_n 3, 1) := by decide +kernel
theorem d_K_power_22 : decode b_K_power 22 = .ok (.sipush 2048, 3) := by decide +kernel
theorem d_K_power_25 : decode b_K_power 25 = .ok (.if_icmp .le 13, 3) := by decide +kernel
theorem d_K_power_28 : decode b_K_power 28 = .ok (.new 38, 3) := by decide +kernel
theorem d_K_power_31 : decode b_K_power 31 = .ok (.dup, 1) := by decide +kernel
theorem d_K_power_32 : decode b_K_power 32 = .ok (.ldc 119, 2) := by decide +kernel
theorem d_K_power_34 : decode b_K_power 34 = .ok (.invokespecial 42, 3) := by decide +kernel
theorem d_K_power_37 : decode b_K_power 37 = .ok (.athrow, 1) := by decide +kernel
theorem d_K_power_38 : decode b_K_power 38 = .ok (.iload_n 3, 1) := by decide +kernel
theorem d_K_power_39 : decode b_K_power 39 = .ok (.ifCond .ge 14, 3) := by decide +kernel
theorem d_K_power_42 : decode b_K_power 42 = .ok (.aload 5, 2) := by decide +kernel
theorem d_K_power_44 : decode b_K_power 44 = .ok (.invokevirtual 61, 3) := by decide +kernel
theorem d_K_power_47 : decode b_K_power 47 = .ok (.ifCond .ne 6, 3) := by decide +kernel
theorem d_K_power_50 : decode b_K_power 50 = .ok (.bipush (-2), 2) := by decide +kernel
theorem d_K_power_52 : decode b_K_power 52 = .ok (.ireturn, 1) := by decide +kernel
theorem d_K_power_53 : decode b_K_power 53 = .ok (.aload_n 0, 1) := by decide +kernel
theorem d_K_power_54 : decode b_K_power 54 = .ok (.getfield 19, 3) := by decide +kernel
theorem d_K_power_57 : decode b_K_power 57 = .ok (.aload 5, 2) := by decide +kernel
theorem d_K_power_59 : decode b_K_power 59 = .ok (.iload_n 3, 1) := by decide +kernel
theorem d_K_power_60 : decode b_K_power 60 = .ok (.invokevirtual 121, 3) := by decide +kernel
theorem d_K_power_63 : decode b_K_power 63 = .ok (.aload_n 0, 1) := by decide +kernel
theorem d_K_power_64 : decode b_K_power 64 = .ok (.getfield 19, 3) := by decide +kernel
theorem d_K_power_67 : decode b_K_power 67 = .ok (.aload 4, 2) := by decide +kernel
theorem d_K_power_69 : decode b_K_power 69 = .ok (.invokevirtual 88, 3) := by decide +kernel
theorem d_K_power_72 : decode b_K_power 72 = .ok (.ireturn, 1) := by decide +kernel
theorem d_B_raise_0 : decode b_B_raise 0 = .ok (.iload_n 2, 1) := by decide +kernel
theorem d_B_raise_1 : decode b_B_raise 1 = .ok (.invokestatic 141, 3) := by decide +kernel
theorem d_B_raise_4 : decode b_B_raise 4 = .ok (.istore_n 3, 1) := by decide +kernel
theorem d_B_raise_5 : decode b_B_raise 5 = .ok (.aload_n 0, 1) := by decide +kernel
theorem d_B_raise_6 : decode b_B_raise 6 = .ok (.aload_n 1, 1) := by decide +kernel
theorem d_B_raise_7 : decode b_B_raise 7 = .ok (.getfield 76, 3) := by decide +kernel
theorem d_B_raise_10 : decode b_B_raise 10 = .ok (.ifCond .eq 14, 3) := by decide +kernel
theorem d_B_raise_13 : decode b_B_raise 13 = .ok (.iload_n 3, 1) := by decide +kernel
theorem d_B_raise_14 : decode b_B_raise 14 = .ok (.iconst 2, 1) := by decide +kernel
theorem d_B_raise_15 : decode b_B_raise 15 = .ok (.irem, 1) := by decide +kernel
theorem d_B_raise_16 : decode b_B_raise 16 = .ok (.iconst 1, 1) := by decide +kernel
theorem d_B_raise_17 : decode b_B_raise 17 = .ok (.if_icmp .ne 7, 3) := by decide +kernel
theorem d_B_raise_20 : decode b_B_raise 20 = .ok (.iconst 1, 1) := by decide +kernel
theorem d_B_raise_21 : decode b_B_raise 21 = .ok (.goto 4, 3) := by decide +kernel
theorem d_B_raise_24 : decode b_B_raise 24 = .ok (.iconst 0, 1) := by decide +kernel
theorem d_B_raise_25 : decode b_B_raise 25 = .ok (.putfield 39, 3) := by decide +kernel
theorem d_B_raise_28 : decode b_B_raise 28 = .ok (.aload_n 0, 1) := by decide +kernel
theorem d_B_raise_29 : decode b_B_raise 29 = .ok (.aload_n 0, 1) := by decide +kernel
theorem d_B_raise_30 : decode b_B_raise 30 = .ok (.getfield 16, 3) := by decide +kernel
theorem d_B_raise_33 : decode b_B_raise 33 = .ok (.iload_n 2, 1) := by decide +kernel
theorem d_B_raise_34 : decode b_B_raise 34 = .ok (.ifCond .ge 10, 3) := by decide +kernel
theorem d_B_raise_37 : decode b_B_raise 37 = .ok (.aload_n 1, 1) := by decide +kernel
theorem d_B_raise_38 : decode b_B_raise 38 = .ok (.getfield 72, 3) := by decide +kernel
theorem d_B_raise_41 : decode b_B_raise 41 = .ok (.goto 7, 3) := by decide +kernel
theorem d_B_raise_44 : decode b_B_raise 44 = .ok (.aload_n 1, 1) := by decide +kernel
theorem d_B_raise_45 : decode b_B_raise 45 = .ok (.getfield 69, 3) := by decide +kernel
theorem d_B_raise_48 : decode b_B_raise 48 = .ok (.iload_n 3, 1) := by decide +kernel
theorem d_B_raise_49 : decode b_B_raise 49 = .ok (.invokevirtual 143, 3) := by decide +kernel
theorem d_B_raise_52 : decode b_B_raise 52 = .ok (.aload_n 0, 1) := by decide +kernel
theorem d_B_raise_53 : decode b_B_raise 53 = .ok (.aload_n 0, 1) := by decide +kernel
theorem d_B_raise_54 : decode b_B_raise 54 = .ok (.getfield 20, 3) := by decide +kernel
theorem d_B_raise_57 : decode b_B_raise 57 = .ok (.iload_n 2, 1) := by decide +kernel
theorem d_B_raise_58 : decode b_B_raise 58 = .ok (.ifCond .ge 10, 3) := by decide +kernel
theorem d_B_raise_61 : decode b_B_raise 61 = .ok (.aload_n 1, 1) := by decide +kernel
theorem d_B_raise_62 : decode b_B_raise 62 = .ok (.getfield 69, 3) := by decide +kernel
theorem d_B_raise_65 : decode b_B_raise 65 = .ok (.goto 7, 3) := by decide +kernel
theorem d_B_raise_68 : decode b_B_raise 68 = .ok (.aload_n 1, 1) := by decide +kernel
theorem d_B_raise_69 : decode b_B_raise 69 = .ok (.getfield 72, 3) := by decide +kernel
theorem d_B_raise_72 : decode b_B_raise 72 = .ok (.iload_n 3, 1) := by decide +kernel
theorem d_B_raise_73 : decode b_B_raise 73 = .ok (.invokevirtual 143, 3) := by decide +kernel
theorem d_B_raise_76 : decode b_B_raise 76 = .ok (.return_, 1) := by decide +kernel
theorem d_JM_abs2_0 : decode b_JM_abs2 0 = .ok (.iload_n 0, 1) := by decide +kernel
theorem d_JM_abs2_1 : decode b_JM_abs2 1 = .ok (.ifCond .ge 8, 3) := by decide +kernel
theorem d_JM_abs2_4 : decode b_JM_abs2 4 = .ok (.iload_n 0, 1) := by decide +kernel
theorem d_JM_abs2_5 : decode b_JM_abs2 5 = .ok (.ineg, 1) := by decide +kernel
theorem d_JM_abs2_6 : decode b_JM_abs2 6 = .ok (.goto 4, 3) := by decide +kernel
theorem d_JM_abs2_9 : decode b_JM_abs2 9 = .ok (.iload_n 0, 1) := by decide +kernel
theorem d_JM_abs2_10 : decode b_JM_abs2 10 = .ok (.ireturn, 1) := by decide +kernel
theorem d_B_raiseWhole_0 : decode b_B_raiseWhole 0 = .ok (.aload_n 1, 1) := by decide +kernel
theorem d_B_raiseWhole_1 : decode b_B_raiseWhole 1 = .ok (.lconst 1, 1) := by decide +kernel
theorem d_B_raiseWhole_2 : decode b_B_raiseWhole 2 = .ok (.invokevirtual 83, 3) := by decide +kernel
theorem d_B_raiseWhole_5 : decode b_B_raiseWhole 5 = .ok (.bipush 11, 2) := by decide +kernel
theorem d_B_raiseWhole_7 : decode b_B_raiseWhole 7 = .ok (.istore 4, 2) := by decide +kernel
theorem d_B_raiseWhole_9 : decode b_B_raiseWhole 9 = .ok (.iload 4, 2) := by decide +kernel
theorem d_B_raiseWhole_11 : decode b_B_raiseWhole 11 = .ok (.ifCond .lt 45, 3) := by decide +kernel
theorem d_B_raiseWhole_14 : decode b_B_raiseWhole 14 = .ok (.aload_n 1, 1) := by decide +kernel
theorem d_B_raiseWhole_15 : decode b_B_raiseWhole 15 = .ok (.invokevirtual 66, 3) := by decide +kernel
theorem d_B_raiseWhole_18 : decode b_B_raiseWhole 18 = .ok (.ifCond .eq 38, 3) := by decide +kernel
theorem d_B_raiseWhole_21 : decode b_B_raiseWhole 21 = .ok (.aload_n 0, 1) := by decide +kernel
theorem d_B_raiseWhole_22 : decode b_B_raiseWhole 22 = .ok (.aload_n 1, 1) := by decide +kernel
theorem d_B_raiseWhole_23 : decode b_B_raiseWhole 23 = .ok (.aload_n 1, 1) := by decide +kernel
theorem d_B_raiseWhole_24 : decode b_B_raiseWhole 24 = .ok (.invokevirtual 147, 3) := by decide +kernel
theorem d_B_raiseWhole_27 : decode b_B_raiseWhole 27 = .ok (.iload_n 3, 1) := by decide +kernel
theorem d_B_raiseWhole_28 : decode b_B_raiseWhole 28 = .ok (.iload 4, 2) := by decide +kernel
theorem d_B_raiseWhole_30 : decode b_B_raiseWhole 30 = .ok (.ishr, 1) := by decide +kernel
theorem d_B_raiseWhole_31 : decode b_B_raiseWhole 31 = .ok (.iconst 1, 1) := by decide +kernel
theorem d_B_raiseWhole_32 : decode b_B_raiseWhole 32 = .ok (.iand, 1) := by decide +kernel
theorem d_B_raiseWhole_33 : decode b_B_raiseWhole 33 = .ok (.iconst 1, 1) := by decide +kernel
theorem d_B_raiseWhole_34 : decode b_B_raiseWhole 34 = .ok (.if_icmp .ne 16, 3) := by decide +kernel
theorem d_B_raiseWhole_37 : decode b_B_raiseWhole 37 = .ok (.aload_n 1, 1) := by decide +kernel
theorem d_B_raiseWhole_38 : decode b_B_raiseWhole 38 = .ok (.invokevirtual 66, 3) := by decide +kernel
theorem d_B_raiseWhole_41 : decode b_B_raiseWhole 41 = .ok (.ifCond .eq 9, 3) := by decide +kernel
theorem d_B_raiseWhole_44 : decode b_B_raiseWhole 44 = .ok (.aload_n 0, 1) := by decide +kernel
theorem d_B_raiseWhole_45 : decode b_B_raiseWhole 45 = .ok (.aload_n 1, 1) := by decide +kernel
theorem d_B_raiseWhole_46 : decode b_B_raiseWhole 46 = .ok (.aload_n 2, 1) := by decide +kernel
theorem d_B_raiseWhole_47 : decode b_B_raiseWhole 47 = .ok (.invokevirtual 147, 3) := by decide +kernel
theorem d_B_raiseWhole_50 : decode b_B_raiseWhole 50 = .ok (.iinc 4 (-1), 3) := by decide +kernel
theorem d_B_raiseWhole_53 : decode b_B_raiseWhole 53 = .ok (.goto (-44), 3) := by decide +kernel
theorem d_B_raiseWhole_56 : decode b_B_raiseWhole 56 = .ok (.return_, 1) := by decide +kernel
theorem d_B_multiplyWhole_0 : decode b_B_multiplyWhole 0 = .ok (.aload_n 0, 1) := by decide +kernel
theorem d_B_multiplyWhole_1 : decode b_B_multiplyWhole 1 = .ok (.getfield 29, 3) := by decide +kernel
theorem d_B_multiplyWhole_4 : decode b_B_multiplyWhole 4 = .ok (.aload_n 1, 1) := by decide +kernel
theorem d_B_multiplyWhole_5 : decode b_B_multiplyWhole 5 = .ok (.aload_n 2, 1) := by decide +kernel
theorem d_B_multiplyWhole_6 : decode b_B_multiplyWhole 6 = .ok (.invokevirtual 109, 3) := by decide +kernel
theorem d_B_multiplyWhole_9 : decode b_B_multiplyWhole 9 = .ok (.aload_n 1, 1) := by decide +kernel
theorem d_B_multiplyWhole_10 : decode b_B_multiplyWhole 10 = .ok (.aload_n 0, 1) := by decide +kernel
theorem d_B_multiplyWhole_11 : decode b_B_multiplyWhole 11 = .ok (.getfield 29, 3) := by decide +kernel
theorem d_B_multiplyWhole_14 : decode b_B_multiplyWhole 14 = .ok (.invokevirtual 47, 3) := by decide +kernel
theorem d_B_multiplyWhole_17 : decode b_B_multiplyWhole 17 = .ok (.return_, 1) := by decide +kernel
theorem d_L_order_0 : decode b_L_order 0 = .ok (.aload_n 3, 1) := by decide +kernel
theorem d_L_order_1 : decode b_L_order 1 = .ok (.iconst 0, 1) := by decide +kernel
theorem d_L_order_2 : decode b_L_order 2 = .ok (.aload_n 0, 1) := by decide +kernel
theorem d_L_order_3 : decode b_L_order 3 = .ok (.iload_n 1, 1) := by decide +kernel
theorem d_L_order_4 : decode b_L_order 4 = .ok (.iload_n 2, 1) := by decide +kernel
theorem d_L_order_5 : decode b_L_order 5 = .ok (.invokevirtual 26, 3) := by decide +kernel
theorem d_L_order_8 : decode b_L_order 8 = .ok (.i2l, 1) := by decide +kernel
theorem d_L_order_9 : decode b_L_order 9 = .ok (.lastore, 1) := by decide +kernel
theorem d_L_order_10 : decode b_L_order 10 = .ok (.goto 7, 3) := by decide +kernel
theorem d_L_order_13 : decode b_L_order 13 = .ok (.astore 4, 2) := by decide +kernel
theorem d_L_order_15 : decode b_L_order 15 = .ok (.iconst 1, 1) := by decide +kernel
theorem d_L_order_16 : decode b_L_order 16 = .ok (.ireturn, 1) := by decide +kernel
theorem d_L_order_17 : decode b_L_order 17 = .ok (.iconst 0, 1) := by decide +kernel
theorem d_L_order_18 : decode b_L_order 18 = .ok (.ireturn, 1) := by decide +kernel
theorem d_K_order_0 : decode b_K_order 0 = .ok (.aload_n 0, 1) := by decide +kernel
theorem d_K_order_1 : decode b_K_order 1 = .ok (.iload_n 1, 1) := by decide +kernel
theorem d_K_order_2 : decode b_K_order 2 = .ok (.invokevirtual 34, 3) := by decide +kernel
theorem d_K_order_5 : decode b_K_order 5 = .ok (.astore_n 3, 1) := by decide +kernel
theorem d_K_order_6 : decode b_K_order 6 = .ok (.aload_n 0, 1) := by decide +kernel
theorem d_K_order_7 : decode b_K_order 7 = .ok (.iload_n 2, 1) := by decide +kernel
theorem d_K_order_8 : decode b_K_order 8 = .ok (.invokevirtual 34, 3) := by decide +kernel
theorem d_K_order_11 : decode b_K_order 11 = .ok (.astore 4, 2) := by decide +kernel
theorem d_K_order_13 : decode b_K_order 13 = .ok (.aload_n 0, 1) := by decide +kernel
theorem d_K_order_14 : decode b_K_order 14 = .ok (.getfield 19, 3) := by decide +kernel
theorem d_K_order_17 : decode b_K_order 17 = .ok (.aload_n 3, 1) := by decide +kernel
theorem d_K_order_18 : decode b_K_order 18 = .ok (.aload 4, 2) := by decide +kernel
theorem d_K_order_20 : decode b_K_order 20 = .ok (.invokevirtual 80, 3) := by decide +kernel
theorem d_K_order_23 : decode b_K_order 23 = .ok (.ireturn, 1) := by decide +kernel
theorem d_L_sign_0 : decode b_L_sign 0 = .ok (.aload_n 2, 1) := by decide +kernel
theorem d_L_sign_1 : decode b_L_sign 1 = .ok (.iconst 0, 1) := by decide +kernel
theorem d_L_sign_2 : decode b_L_sign 2 = .ok (.aload_n 0, 1) := by decide +kernel
theorem d_L_sign_3 : decode b_L_sign 3 = .ok (.iload_n 1, 1) := by decide +kernel
theorem d_L_sign_4 : decode b_L_sign 4 = .ok (.invokevirtual 30, 3) := by decide +kernel
theorem d_L_sign_7 : decode b_L_sign 7 = .ok (.i2l, 1) := by decide +kernel
theorem d_L_sign_8 : decode b_L_sign 8 = .ok (.lastore, 1) := by decide +kernel
theorem d_L_sign_9 : decode b_L_sign 9 = .ok (.goto 6, 3) := by decide +kernel
theorem d_L_sign_12 : decode b_L_sign 12 = .ok (.astore_n 3, 1) := by decide +kernel
theorem d_L_sign_13 : decode b_L_sign 13 = .ok (.iconst 1, 1) := by decide +kernel
theorem d_L_sign_14 : decode b_L_sign 14 = .ok (.ireturn, 1) := by decide +kernel
theorem d_L_sign_15 : decode b_L_sign 15 = .ok (.iconst 0, 1) := by decide +kernel
theorem d_L_sign_16 : decode b_L_sign 16 = .ok (.ireturn, 1) := by decide +kernel
theorem d_K_sign_0 : decode b_K_sign 0 = .ok (.aload_n 0, 1) := by decide +kernel
theorem d_K_sign_1 : decode b_K_sign 1 = .ok (.iload_n 1, 1) := by decide +kernel
theorem d_K_sign_2 : decode b_K_sign 2 = .ok (.invokevirtual 34, 3) := by decide +kernel
theorem d_K_sign_5 : decode b_K_sign 5 = .ok (.invokevirtual 61, 3) := by decide +kernel
theorem d_K_sign_8 : decode b_K_sign 8 = .ok (.ireturn, 1) := by decide +kernel
theorem d_L_places_0 : decode b_L_places 0 = .ok (.aload_n 3, 1) := by decide +kernel
theorem d_L_places_1 : decode b_L_places 1 = .ok (.iconst 0, 1) := by decide +kernel
theorem d_L_places_2 : decode b_L_places 2 = .ok (.aload_n 0, 1) := by decide +kernel
theorem d_L_places_3 : decode b_L_places 3 = .ok (.iload_n 1, 1) := by decide +kernel
theorem d_L_places_4 : decode b_L_places 4 = .ok (.iload_n 2, 1) := by decide +kernel
theorem d_L_places_5 : decode b_L_places 5 = .ok (.invokevirtual 34, 3) := by decide +kernel
theorem d_L_places_8 : decode b_L_places 8 = .ok (.i2l, 1) := by decide +kernel
theorem d_L_places_9 : decode b_L_places 9 = .ok (.lastore, 1) := by decide +kernel
theorem d_L_places_10 : decode b_L_places 10 = .ok (.goto 7, 3) := by decide +kernel
theorem d_L_places_13 : decode b_L_places 13 = .ok (.astore 4, 2) := by decide +kernel
theorem d_L_places_15 : decode b_L_places 15 = .ok (.iconst 1, 1) := by decide +kernel
theorem d_L_places_16 : decode b_L_places 16 = .ok (.ireturn, 1) := by decide +kernel
theorem d_L_places_17 : decode b_L_places 17 = .ok (.iconst 0, 1) := by decide +kernel
theorem d_L_places_18 : decode b_L_places 18 = .ok (.ireturn, 1) := by decide +kernel
theorem d_K_places_0 : decode b_K_places 0 = .ok (.aload_n 0, 1) := by decide +kernel
theorem d_K_places_1 : decode b_K_places 1 = .ok (.iload_n 1, 1) := by decide +kernel
theorem d_K_places_2 : decode b_K_places 2 = .ok (.iload_n 2, 1) := by decide +kernel
theorem d_K_places_3 : decode b_K_places 3 = .ok (.invokevirtual 125, 3) := by decide +kernel
theorem d_K_places_6 : decode b_K_places 6 = .ok (.invokevirtual 129, 3) := by decide +kernel
theorem d_K_places_9 : decode b_K_places 9 = .ok (.ireturn, 1) := by decide +kernel
theorem d_K_half_0 : decode b_K_half 0 = .ok (.aload_n 0, 1) := by decide +kernel
theorem d_K_half_1 : decode b_K_half 1 = .ok (.iload_n 1, 1) := by decide +kernel
theorem d_K_half_2 : decode b_K_half 2 = .ok (.invokevirtual 34, 3) := by decide +kernel
theorem d_K_half_5 : decode b_K_half 5 = .ok (.astore_n 3, 1) := by decide +kernel
theorem d_K_half_6 : decode b_K_half 6 = .ok (.iload_n 2, 1) := by decide +kernel
theorem d_K_half_7 : decode b_K_half 7 = .ok (.ifCond .eq 18, 3) := by decide +kernel
theorem d_K_half_10 : decode b_K_half 10 = .ok (.iload_n 2, 1) := by decide +kernel
theorem d_K_half_11 : decode b_K_half 11 = .ok (.iconst 1, 1) := by decide +kernel
theorem d_K_half_12 : decode b_K_half 12 = .ok (.if_icmp .eq 13, 3) := by decide +kernel
theorem d_K_half_15 : decode b_K_half 15 = .ok (.new 38, 3) := by decide +kernel
theorem d_K_half_18 : decode b_K_half 18 = .ok (.dup, 1) := by decide +kernel
theorem d_K_half_19 : decode b_K_half 19 = .ok (.ldc 175, 2) := by decide +kernel
theorem d_K_half_21 : decode b_K_half 21 = .ok (.invokespecial 42, 3) := by decide +kernel
theorem d_K_half_24 : decode b_K_half 24 = .ok (.athrow, 1) := by decide +kernel
theorem d_K_half_25 : decode b_K_half 25 = .ok (.iload_n 2, 1) := by decide +kernel
theorem d_K_half_26 : decode b_K_half 26 = .ok (.ifCond .ne 10, 3) := by decide +kernel
theorem d_K_half_29 : decode b_K_half 29 = .ok (.aload_n 3, 1) := by decide +kernel
theorem d_K_half_30 : decode b_K_half 30 = .ok (.getfield 100, 3) := by decide +kernel
theorem d_K_half_33 : decode b_K_half 33 = .ok (.goto 7, 3) := by decide +kernel
theorem d_K_half_36 : decode b_K_half 36 = .ok (.aload_n 3, 1) := by decide +kernel
theorem d_K_half_37 : decode b_K_half 37 = .ok (.getfield 104, 3) := by decide +kernel
theorem d_K_half_40 : decode b_K_half 40 = .ok (.areturn, 1) := by decide +kernel
theorem d_L_part_0 : decode b_L_part 0 = .ok (.aload 4, 2) := by decide +kernel
theorem d_L_part_2 : decode b_L_part 2 = .ok (.iconst 0, 1) := by decide +kernel
theorem d_L_part_3 : decode b_L_part 3 = .ok (.aload_n 0, 1) := by decide +kernel
theorem d_L_part_4 : decode b_L_part 4 = .ok (.iload_n 1, 1) := by decide +kernel
theorem d_L_part_5 : decode b_L_part 5 = .ok (.iload_n 2, 1) := by decide +kernel
theorem d_L_part_6 : decode b_L_part 6 = .ok (.iload_n 3, 1) := by decide +kernel
theorem d_L_part_7 : decode b_L_part 7 = .ok (.invokevirtual 37, 3) := by decide +kernel
theorem d_L_part_10 : decode b_L_part 10 = .ok (.lastore, 1) := by decide +kernel
theorem d_L_part_11 : decode b_L_part 11 = .ok (.goto 7, 3) := by decide +kernel
theorem d_L_part_14 : decode b_L_part 14 = .ok (.astore 5, 2) := by decide +kernel
theorem d_L_part_16 : decode b_L_part 16 = .ok (.iconst 1, 1) := by decide +kernel
theorem d_L_part_17 : decode b_L_part 17 = .ok (.ireturn, 1) := by decide +kernel
theorem d_L_part_18 : decode b_L_part 18 = .ok (.iconst 0, 1) := by decide +kernel
theorem d_L_part_19 : decode b_L_part 19 = .ok (.ireturn, 1) := by decide +kernel
theorem d_K_part_0 : decode b_K_part 0 = .ok (.aload_n 0, 1) := by decide +kernel
theorem d_K_part_1 : decode b_K_part 1 = .ok (.iload_n 1, 1) := by decide +kernel
theorem d_K_part_2 : decode b_K_part 2 = .ok (.iload_n 2, 1) := by decide +kernel
theorem d_K_part_3 : decode b_K_part 3 = .ok (.invokevirtual 125, 3) := by decide +kernel
theorem d_K_part_6 : decode b_K_part 6 = .ok (.iload_n 3, 1) := by decide +kernel
theorem d_K_part_7 : decode b_K_part 7 = .ok (.invokevirtual 134, 3) := by decide +kernel
theorem d_K_part_10 : decode b_K_part 10 = .ok (.lreturn, 1) := by decide +kernel
theorem d_W_word_0 : decode b_W_word 0 = .ok (.iload_n 1, 1) := by decide +kernel
theorem d_W_word_1 : decode b_W_word 1 = .ok (.ifCond .lt 11, 3) := by decide +kernel
theorem d_W_word_4 : decode b_W_word 4 = .ok (.iload_n 1, 1) := by decide +kernel
theorem d_W_word_5 : decode b_W_word 5 = .ok (.aload_n 0, 1) := by decide +kernel
theorem d_W_word_6 : decode b_W_word 6 = .ok (.getfield 21, 3) := by decide +kernel
theorem d_W_word_9 : decode b_W_word 9 = .ok (.if_icmp .lt 5, 3) := by decide +kernel
theorem d_W_word_12 : decode b_W_word 12 = .ok (.lconst 0, 1) := by decide +kernel
theorem d_W_word_13 : decode b_W_word 13 = .ok (.lreturn, 1) := by decide +kernel
theorem d_W_word_14 : decode b_W_word 14 = .ok (.iload_n 1, 1) := by decide +kernel
theorem d_W_word_15 : decode b_W_word 15 = .ok (.bipush 32, 2) := by decide +kernel
theorem d_W_word_17 : decode b_W_word 17 = .ok (.imul, 1) := by decide +kernel
theorem d_W_word_18 : decode b_W_word 18 = .ok (.bipush 31, 2) := by decide +kernel
theorem d_W_word_20 : decode b_W_word 20 = .ok (.idiv, 1) := by decide +kernel
theorem d_W_word_21 : decode b_W_word 21 = .ok (.istore_n 2, 1) := by decide +kernel
theorem d_W_word_22 : decode b_W_word 22 = .ok (.iload_n 1, 1) := by decide +kernel
theorem d_W_word_23 : decode b_W_word 23 = .ok (.bipush 32, 2) := by decide +kernel
theorem d_W_word_25 : decode b_W_word 25 = .ok (.imul, 1) := by decide +kernel
theorem d_W_word_26 : decode b_W_word 26 = .ok (.bipush 31, 2) := by decide +kernel
theorem d_W_word_28 : decode b_W_word 28 = .ok (.irem, 1) := by decide +kernel
theorem d_W_word_29 : decode b_W_word 29 = .ok (.istore_n 3, 1) := by decide +kernel
theorem d_W_word_30 : decode b_W_word 30 = .ok (.aload_n 0, 1) := by decide +kernel
theorem d_W_word_31 : decode b_W_word 31 = .ok (.iload_n 2, 1) := by decide +kernel
theorem d_W_word_32 : decode b_W_word 32 = .ok (.invokevirtual 38, 3) := by decide +kernel
theorem d_W_word_35 : decode b_W_word 35 = .ok (.iload_n 3, 1) := by decide +kernel
theorem d_W_word_36 : decode b_W_word 36 = .ok (.iushr, 1) := by decide +kernel
theorem d_W_word_37 : decode b_W_word 37 = .ok (.i2l, 1) := by decide +kernel
theorem d_W_word_38 : decode b_W_word 38 = .ok (.lstore 4, 2) := by decide +kernel
theorem d_W_word_40 : decode b_W_word 40 = .ok (.aload_n 0, 1) := by decide +kernel
theorem d_W_word_41 : decode b_W_word 41 = .ok (.iload_n 2, 1) := by decide +kernel
theorem d_W_word_42 : decode b_W_word 42 = .ok (.iconst 1, 1) := by decide +kernel
theorem d_W_word_43 : decode b_W_word 43 = .ok (.iadd, 1) := by decide +kernel
theorem d_W_word_44 : decode b_W_word 44 = .ok (.invokevirtual 38, 3) := by decide +kernel
theorem d_W_word_47 : decode b_W_word 47 = .ok (.i2l, 1) := by decide +kernel
theorem d_W_word_48 : decode b_W_word 48 = .ok (.bipush 31, 2) := by decide +kernel
theorem d_W_word_50 : decode b_W_word 50 = .ok (.iload_n 3, 1) := by decide +kernel
theorem d_W_word_51 : decode b_W_word 51 = .ok (.isub, 1) := by decide +kernel
theorem d_W_word_52 : decode b_W_word 52 = .ok (.lshl, 1) := by decide +kernel
theorem d_W_word_53 : decode b_W_word 53 = .ok (.lstore 6, 2) := by decide +kernel
theorem d_W_word_55 : decode b_W_word 55 = .ok (.lload 4, 2) := by decide +kernel
theorem d_W_word_57 : decode b_W_word 57 = .ok (.lload 6, 2) := by decide +kernel
theorem d_W_word_59 : decode b_W_word 59 = .ok (.lor, 1) := by decide +kernel
theorem d_W_word_60 : decode b_W_word 60 = .ok (.ldc2_w 41, 3) := by decide +kernel
theorem d_W_word_63 : decode b_W_word 63 = .ok (.land, 1) := by decide +kernel
theorem d_W_word_64 : decode b_W_word 64 = .ok (.lreturn, 1) := by decide +kernel
theorem d_L_write_0 : decode b_L_write 0 = .ok (.aload_n 2, 1) := by decide +kernel
theorem d_L_write_1 : decode b_L_write 1 = .ok (.iconst 0, 1) := by decide +kernel
theorem d_L_write_2 : decode b_L_write 2 = .ok (.aload_n 0, 1) := by decide +kernel
theorem d_L_write_3 : decode b_L_write 3 = .ok (.iload_n 1, 1) := by decide +kernel
theorem d_L_write_4 : decode b_L_write 4 = .ok (.invokevirtual 41, 3) := by decide +kernel
theorem d_L_write_7 : decode b_L_write 7 = .ok (.i2l, 1) := by decide +kernel
theorem d_L_write_8 : decode b_L_write 8 = .ok (.lastore, 1) := by decide +kernel
theorem d_L_write_9 : decode b_L_write 9 = .ok (.goto 6, 3) := by decide +kernel
theorem d_L_write_12 : decode b_L_write 12 = .ok (.astore_n 3, 1) := by decide +kernel
theorem d_L_write_13 : decode b_L_write 13 = .ok (.iconst 1, 1) := by decide +kernel
theorem d_L_write_14 : decode b_L_write 14 = .ok (.ireturn, 1) := by decide +kernel
theorem d_L_write_15 : decode b_L_write 15 = .ok (.iconst 0, 1) := by decide +kernel
theorem d_L_write_16 : decode b_L_write 16 = .ok (.ireturn, 1) := by decide +kernel
theorem d_K_write_0 : decode b_K_write 0 = .ok (.aload_n 0, 1) := by decide +kernel
theorem d_K_write_1 : decode b_K_write 1 = .ok (.iload_n 1, 1) := by decide +kernel
theorem d_K_write_2 : decode b_K_write 2 = .ok (.invokevirtual 34, 3) := by decide +kernel
theorem d_K_write_5 : decode b_K_write 5 = .ok (.astore_n 2, 1) := by decide +kernel
theorem d_K_write_6 : decode b_K_write 6 = .ok (.aload_n 0, 1) := by decide +kernel
theorem d_K_write_7 : decode b_K_write 7 = .ok (.getfield 26, 3) := by decide +kernel
theorem d_K_write_10 : decode b_K_write 10 = .ok (.iconst 0, 1) := by decide +kernel
theorem d_K_write_11 : decode b_K_write 11 = .ok (.putfield 138, 3) := by decide +kernel
theorem d_K_write_14 : decode b_K_write 14 = .ok (.aload_n 2, 1) := by decide +kernel
theorem d_K_write_15 : decode b_K_write 15 = .ok (.getfield 65, 3) := by decide +kernel
theorem d_K_write_18 : decode b_K_write 18 = .ok (.ifCond .eq 12, 3) := by decide +kernel
theorem d_K_write_21 : decode b_K_write 21 = .ok (.aload_n 0, 1) := by decide +kernel
theorem d_K_write_22 : decode b_K_write 22 = .ok (.getfield 26, 3) := by decide +kernel
theorem d_K_write_25 : decode b_K_write 25 = .ok (.bipush 45, 2) := by decide +kernel
theorem d_K_write_27 : decode b_K_write 27 = .ok (.invokevirtual 141, 3) := by decide +kernel
theorem d_K_write_30 : decode b_K_write 30 = .ok (.aload_n 0, 1) := by decide +kernel
theorem d_K_write_31 : decode b_K_write 31 = .ok (.getfield 26, 3) := by decide +kernel
theorem d_K_write_34 : decode b_K_write 34 = .ok (.aload_n 0, 1) := by decide +kernel
theorem d_K_write_35 : decode b_K_write 35 = .ok (.getfield 19, 3) := by decide +kernel
theorem d_K_write_38 : decode b_K_write 38 = .ok (.aload_n 2, 1) := by decide +kernel
theorem d_K_write_39 : decode b_K_write 39 = .ok (.getfield 100, 3) := by decide +kernel
theorem d_K_write_42 : decode b_K_write 42 = .ok (.invokevirtual 145, 3) := by decide +kernel
theorem d_K_write_45 : decode b_K_write 45 = .ok (.invokevirtual 149, 3) := by decide +kernel
theorem d_K_write_48 : decode b_K_write 48 = .ok (.aload_n 2, 1) := by decide +kernel
theorem d_K_write_49 : decode b_K_write 49 = .ok (.invokevirtual 55, 3) := by decide +kernel
theorem d_K_write_52 : decode b_K_write 52 = .ok (.ifCond .ne 30, 3) := by decide +kernel
theorem d_K_write_55 : decode b_K_write 55 = .ok (.aload_n 0, 1) := by decide +kernel
theorem d_K_write_56 : decode b_K_write 56 = .ok (.getfield 26, 3) := by decide +kernel
theorem d_K_write_59 : decode b_K_write 59 = .ok (.bipush 47, 2) := by decide +kernel
theorem d_K_write_61 : decode b_K_write 61 = .ok (.invokevirtual 141, 3) := by decide +kernel
theorem d_K_write_64 : decode b_K_write 64 = .ok (.aload_n 0, 1) := by decide +kernel
theorem d_K_write_65 : decode b_K_write 65 = .ok (.getfield 26, 3) := by decide +kernel
theorem d_K_write_68 : decode b_K_write 68 = .ok (.aload_n 0, 1) := by decide +kernel
theorem d_K_write_69 : decode b_K_write 69 = .ok (.getfield 19, 3) := by decide +kernel
theorem d_K_write_72 : decode b_K_write 72 = .ok (.aload_n 2, 1) := by decide +kernel
theorem d_K_write_73 : decode b_K_write 73 = .ok (.getfield 104, 3) := by decide +kernel
theorem d_K_write_76 : decode b_K_write 76 = .ok (.invokevirtual 145, 3) := by decide +kernel
theorem d_K_write_79 : decode b_K_write 79 = .ok (.invokevirtual 149, 3) := by decide +kernel
theorem d_K_write_82 : decode b_K_write 82 = .ok (.aload_n 0, 1) := by decide +kernel
theorem d_K_write_83 : decode b_K_write 83 = .ok (.getfield 26, 3) := by decide +kernel
theorem d_K_write_86 : decode b_K_write 86 = .ok (.getfield 138, 3) := by decide +kernel
theorem d_K_write_89 : decode b_K_write 89 = .ok (.ireturn, 1) := by decide +kernel
theorem d_B_copyOf_0 : decode b_B_copyOf 0 = .ok (.aload_n 0, 1) := by decide +kernel
theorem d_B_copyOf_1 : decode b_B_copyOf 1 = .ok (.getfield 29, 3) := by decide +kernel
theorem d_B_copyOf_4 : decode b_B_copyOf 4 = .ok (.aload_n 1, 1) := by decide +kernel
theorem d_B_copyOf_5 : decode b_B_copyOf 5 = .ok (.invokevirtual 47, 3) := by decide +kernel
theorem d_B_copyOf_8 : decode b_B_copyOf 8 = .ok (.aload_n 0, 1) := by decide +kernel
theorem d_B_copyOf_9 : decode b_B_copyOf 9 = .ok (.getfield 29, 3) := by decide +kernel
theorem d_B_copyOf_12 : decode b_B_copyOf 12 = .ok (.areturn, 1) := by decide +kernel
theorem d_T_putDecimal_0 : decode b_T_putDecimal 0 = .ok (.aload_n 0, 1) := by decide +kernel
theorem d_T_putDecimal_1 : decode b_T_putDecimal 1 = .ok (.getfield 15, 3) := by decide +kernel
theorem d_T_putDecimal_4 : decode b_T_putDecimal 4 = .ok (.istore_n 2, 1) := by decide +kernel
theorem d_T_putDecimal_5 : decode b_T_putDecimal 5 = .ok (.iconst 0, 1) := by decide +kernel
theorem d_T_putDecimal_6 : decode b_T_putDecimal 6 = .ok (.istore_n 3, 1) := by decide +kernel
theorem d_T_putDecimal_7 : decode b_T_putDecimal 7 = .ok (.iload_n 3, 1) := by decide +kernel
theorem d_T_putDecimal_8 : decode b_T_putDecimal 8 = .ok (.sipush 1400, 3) := by decide +kernel
theorem d_T_putDecimal_11 : decode b_T_putDecimal 11 = .ok (.if_icmp .ge 26, 3) := by decide +kernel
theorem d_T_putDecimal_14 : decode b_T_putDecimal 14 = .ok (.aload_n 1, 1) := by decide +kernel
theorem d_T_putDecimal_15 : decode b_T_putDecimal 15 = .ok (.invokevirtual 19, 3) := by decide +kernel
theorem d_T_putDecimal_18 : decode b_T_putDecimal 18 = .ok (.ifCond .ne 19, 3) := by decide +kernel
theorem d_T_putDecimal_21 : decode b_T_putDecimal 21 = .ok (.aload_n 0, 1) := by decide +kernel
theorem d_T_putDecimal_22 : decode b_T_putDecimal 22 = .ok (.aload_n 1, 1) := by decide +kernel
theorem d_T_putDecimal_23 : decode b_T_putDecimal 23 = .ok (.ldc 25, 2) := by decide +kernel
theorem d_T_putDecimal_25 : decode b_T_putDecimal 25 = .ok (.invokevirtual 26, 3) := by decide +kernel
theorem d_T_putDecimal_28 : decode b_T_putDecimal 28 = .ok (.invokevirtual 30, 3) := by decide +kernel
theorem d_T_putDecimal_31 : decode b_T_putDecimal 31 = .ok (.iinc 3 1, 3) := by decide +kernel
theorem d_T_putDecimal_34 : decode b_T_putDecimal 34 = .ok (.goto (-27), 3) := by decide +kernel
theorem d_T_putDecimal_37 : decode b_T_putDecimal 37 = .ok (.aload_n 0, 1) := by decide +kernel
theorem d_T_putDecimal_38 : decode b_T_putDecimal 38 = .ok (.getfield 15, 3) := by decide +kernel
theorem d_T_putDecimal_41 : decode b_T_putDecimal 41 = .ok (.iload_n 2, 1) := by decide +kernel
theorem d_T_putDecimal_42 : decode b_T_putDecimal 42 = .ok (.if_icmp .le 32, 3) := by decide +kernel
theorem d_T_putDecimal_45 : decode b_T_putDecimal 45 = .ok (.aload_n 0, 1) := by decide +kernel
theorem d_T_putDecimal_46 : decode b_T_putDecimal 46 = .ok (.getfield 9, 3) := by decide +kernel
theorem d_T_putDecimal_49 : decode b_T_putDecimal 49 = .ok (.aload_n 0, 1) := by decide +kernel
theorem d_T_putDecimal_50 : decode b_T_putDecimal 50 = .ok (.getfield 15, 3) := by decide +kernel
theorem d_T_putDecimal_53 : decode b_T_putDecimal 53 = .ok (.iconst 1, 1) := by decide +kernel
theorem d_T_putDecimal_54 : decode b_T_putDecimal 54 = .ok (.isub, 1) := by decide +kernel
theorem d_T_putDecimal_55 : decode b_T_putDecimal 55 = .ok (.caload, 1) := by decide +kernel
end
section
/-! the instructions, by program -/
theorem d_T_putDecimal_56 : decode b_T_putDecimal 56 = .ok (.bipush 48, 2) := by decide +kernel
theorem d_T_putDecimal_58 : decode b_T_putDecimal 58 = .ok (.if_icmp .ne 16, 3) := by decide +kernel
theorem d_T_putDecimal_61 : decode b_T_putDecimal 61 = .ok (.aload_n 0, 1) := by decide +kernel
theorem d_T_putDecimal_62 : decode b_T_putDecimal 62 = .ok (.dup, 1) := by decide +kernel
theorem d_T_putDecimal_63 : decode b_T_putDecimal 63 = .ok (.getfield 15, 3) := by decide +kernel
theorem d_T_putDecimal_66 : decode b_T_putDecimal 66 = .ok (.iconst 1, 1) := by decide +kernel
theorem d_T_putDecimal_67 : decode b_T_putDecimal 67 = .ok (.isub, 1) := by decide +kernel
theorem d_T_putDecimal_68 : decode b_T_putDecimal 68 = .ok (.putfield 15, 3) := by decide +kernel
theorem d_T_putDecimal_71 : decode b_T_putDecimal 71 = .ok (.goto (-34), 3) := by decide +kernel
theorem d_T_putDecimal_74 : decode b_T_putDecimal 74 = .ok (.aload_n 0, 1) := by decide +kernel
theorem d_T_putDecimal_75 : decode b_T_putDecimal 75 = .ok (.getfield 15, 3) := by decide +kernel
theorem d_T_putDecimal_78 : decode b_T_putDecimal 78 = .ok (.iload_n 2, 1) := by decide +kernel
theorem d_T_putDecimal_79 : decode b_T_putDecimal 79 = .ok (.if_icmp .ne 9, 3) := by decide +kernel
theorem d_T_putDecimal_82 : decode b_T_putDecimal 82 = .ok (.aload_n 0, 1) := by decide +kernel
theorem d_T_putDecimal_83 : decode b_T_putDecimal 83 = .ok (.bipush 48, 2) := by decide +kernel
theorem d_T_putDecimal_85 : decode b_T_putDecimal 85 = .ok (.invokevirtual 34, 3) := by decide +kernel
theorem d_T_putDecimal_88 : decode b_T_putDecimal 88 = .ok (.aload_n 0, 1) := by decide +kernel
theorem d_T_putDecimal_89 : decode b_T_putDecimal 89 = .ok (.iload_n 2, 1) := by decide +kernel
theorem d_T_putDecimal_90 : decode b_T_putDecimal 90 = .ok (.aload_n 0, 1) := by decide +kernel
theorem d_T_putDecimal_91 : decode b_T_putDecimal 91 = .ok (.getfield 15, 3) := by decide +kernel
theorem d_T_putDecimal_94 : decode b_T_putDecimal 94 = .ok (.iconst 1, 1) := by decide +kernel
theorem d_T_putDecimal_95 : decode b_T_putDecimal 95 = .ok (.isub, 1) := by decide +kernel
theorem d_T_putDecimal_96 : decode b_T_putDecimal 96 = .ok (.invokevirtual 38, 3) := by decide +kernel
theorem d_T_putDecimal_99 : decode b_T_putDecimal 99 = .ok (.return_, 1) := by decide +kernel
theorem d_W_divideSmall_0 : decode b_W_divideSmall 0 = .ok (.iload_n 1, 1) := by decide +kernel
theorem d_W_divideSmall_1 : decode b_W_divideSmall 1 = .ok (.ifCond .gt 5, 3) := by decide +kernel
theorem d_W_divideSmall_4 : decode b_W_divideSmall 4 = .ok (.iconst 0, 1) := by decide +kernel
theorem d_W_divideSmall_5 : decode b_W_divideSmall 5 = .ok (.ireturn, 1) := by decide +kernel
theorem d_W_divideSmall_6 : decode b_W_divideSmall 6 = .ok (.lconst 0, 1) := by decide +kernel
theorem d_W_divideSmall_7 : decode b_W_divideSmall 7 = .ok (.lstore_n 2, 1) := by decide +kernel
theorem d_W_divideSmall_8 : decode b_W_divideSmall 8 = .ok (.aload_n 0, 1) := by decide +kernel
theorem d_W_divideSmall_9 : decode b_W_divideSmall 9 = .ok (.getfield 21, 3) := by decide +kernel
theorem d_W_divideSmall_12 : decode b_W_divideSmall 12 = .ok (.iconst 1, 1) := by decide +kernel
theorem d_W_divideSmall_13 : decode b_W_divideSmall 13 = .ok (.isub, 1) := by decide +kernel
theorem d_W_divideSmall_14 : decode b_W_divideSmall 14 = .ok (.istore 4, 2) := by decide +kernel
theorem d_W_divideSmall_16 : decode b_W_divideSmall 16 = .ok (.iload 4, 2) := by decide +kernel
theorem d_W_divideSmall_18 : decode b_W_divideSmall 18 = .ok (.ifCond .lt 43, 3) := by decide +kernel
theorem d_W_divideSmall_21 : decode b_W_divideSmall 21 = .ok (.lload_n 2, 1) := by decide +kernel
theorem d_W_divideSmall_22 : decode b_W_divideSmall 22 = .ok (.bipush 31, 2) := by decide +kernel
theorem d_W_divideSmall_24 : decode b_W_divideSmall 24 = .ok (.lshl, 1) := by decide +kernel
theorem d_W_divideSmall_25 : decode b_W_divideSmall 25 = .ok (.aload_n 0, 1) := by decide +kernel
theorem d_W_divideSmall_26 : decode b_W_divideSmall 26 = .ok (.getfield 17, 3) := by decide +kernel
theorem d_W_divideSmall_29 : decode b_W_divideSmall 29 = .ok (.iload 4, 2) := by decide +kernel
theorem d_W_divideSmall_31 : decode b_W_divideSmall 31 = .ok (.iaload, 1) := by decide +kernel
theorem d_W_divideSmall_32 : decode b_W_divideSmall 32 = .ok (.i2l, 1) := by decide +kernel
theorem d_W_divideSmall_33 : decode b_W_divideSmall 33 = .ok (.lor, 1) := by decide +kernel
theorem d_W_divideSmall_34 : decode b_W_divideSmall 34 = .ok (.lstore 5, 2) := by decide +kernel
theorem d_W_divideSmall_36 : decode b_W_divideSmall 36 = .ok (.aload_n 0, 1) := by decide +kernel
theorem d_W_divideSmall_37 : decode b_W_divideSmall 37 = .ok (.getfield 17, 3) := by decide +kernel
theorem d_W_divideSmall_40 : decode b_W_divideSmall 40 = .ok (.iload 4, 2) := by decide +kernel
theorem d_W_divideSmall_42 : decode b_W_divideSmall 42 = .ok (.lload 5, 2) := by decide +kernel
theorem d_W_divideSmall_44 : decode b_W_divideSmall 44 = .ok (.iload_n 1, 1) := by decide +kernel
theorem d_W_divideSmall_45 : decode b_W_divideSmall 45 = .ok (.i2l, 1) := by decide +kernel
theorem d_W_divideSmall_46 : decode b_W_divideSmall 46 = .ok (.ldiv, 1) := by decide +kernel
theorem d_W_divideSmall_47 : decode b_W_divideSmall 47 = .ok (.l2i, 1) := by decide +kernel
theorem d_W_divideSmall_48 : decode b_W_divideSmall 48 = .ok (.iastore, 1) := by decide +kernel
theorem d_W_divideSmall_49 : decode b_W_divideSmall 49 = .ok (.lload 5, 2) := by decide +kernel
theorem d_W_divideSmall_51 : decode b_W_divideSmall 51 = .ok (.iload_n 1, 1) := by decide +kernel
theorem d_W_divideSmall_52 : decode b_W_divideSmall 52 = .ok (.i2l, 1) := by decide +kernel
theorem d_W_divideSmall_53 : decode b_W_divideSmall 53 = .ok (.lrem, 1) := by decide +kernel
theorem d_W_divideSmall_54 : decode b_W_divideSmall 54 = .ok (.lstore_n 2, 1) := by decide +kernel
theorem d_W_divideSmall_55 : decode b_W_divideSmall 55 = .ok (.iinc 4 (-1), 3) := by decide +kernel
theorem d_W_divideSmall_58 : decode b_W_divideSmall 58 = .ok (.goto (-42), 3) := by decide +kernel
theorem d_W_divideSmall_61 : decode b_W_divideSmall 61 = .ok (.aload_n 0, 1) := by decide +kernel
theorem d_W_divideSmall_62 : decode b_W_divideSmall 62 = .ok (.aload_n 0, 1) := by decide +kernel
theorem d_W_divideSmall_63 : decode b_W_divideSmall 63 = .ok (.getfield 21, 3) := by decide +kernel
theorem d_W_divideSmall_66 : decode b_W_divideSmall 66 = .ok (.invokevirtual 48, 3) := by decide +kernel
theorem d_W_divideSmall_69 : decode b_W_divideSmall 69 = .ok (.lload_n 2, 1) := by decide +kernel
theorem d_W_divideSmall_70 : decode b_W_divideSmall 70 = .ok (.l2i, 1) := by decide +kernel
theorem d_W_divideSmall_71 : decode b_W_divideSmall 71 = .ok (.ireturn, 1) := by decide +kernel
theorem d_T_putNineBackwards_0 : decode b_T_putNineBackwards 0 = .ok (.iload_n 1, 1) := by decide +kernel
theorem d_T_putNineBackwards_1 : decode b_T_putNineBackwards 1 = .ok (.istore_n 2, 1) := by decide +kernel
theorem d_T_putNineBackwards_2 : decode b_T_putNineBackwards 2 = .ok (.iconst 0, 1) := by decide +kernel
theorem d_T_putNineBackwards_3 : decode b_T_putNineBackwards 3 = .ok (.istore_n 3, 1) := by decide +kernel
theorem d_T_putNineBackwards_4 : decode b_T_putNineBackwards 4 = .ok (.iload_n 3, 1) := by decide +kernel
theorem d_T_putNineBackwards_5 : decode b_T_putNineBackwards 5 = .ok (.bipush 9, 2) := by decide +kernel
theorem d_T_putNineBackwards_7 : decode b_T_putNineBackwards 7 = .ok (.if_icmp .ge 26, 3) := by decide +kernel
theorem d_T_putNineBackwards_10 : decode b_T_putNineBackwards 10 = .ok (.aload_n 0, 1) := by decide +kernel
theorem d_T_putNineBackwards_11 : decode b_T_putNineBackwards 11 = .ok (.bipush 48, 2) := by decide +kernel
theorem d_T_putNineBackwards_13 : decode b_T_putNineBackwards 13 = .ok (.iload_n 2, 1) := by decide +kernel
theorem d_T_putNineBackwards_14 : decode b_T_putNineBackwards 14 = .ok (.bipush 10, 2) := by decide +kernel
theorem d_T_putNineBackwards_16 : decode b_T_putNineBackwards 16 = .ok (.irem, 1) := by decide +kernel
theorem d_T_putNineBackwards_17 : decode b_T_putNineBackwards 17 = .ok (.iadd, 1) := by decide +kernel
theorem d_T_putNineBackwards_18 : decode b_T_putNineBackwards 18 = .ok (.i2c, 1) := by decide +kernel
theorem d_T_putNineBackwards_19 : decode b_T_putNineBackwards 19 = .ok (.invokevirtual 34, 3) := by decide +kernel
theorem d_T_putNineBackwards_22 : decode b_T_putNineBackwards 22 = .ok (.iload_n 2, 1) := by decide +kernel
theorem d_T_putNineBackwards_23 : decode b_T_putNineBackwards 23 = .ok (.bipush 10, 2) := by decide +kernel
theorem d_T_putNineBackwards_25 : decode b_T_putNineBackwards 25 = .ok (.idiv, 1) := by decide +kernel
theorem d_T_putNineBackwards_26 : decode b_T_putNineBackwards 26 = .ok (.istore_n 2, 1) := by decide +kernel
theorem d_T_putNineBackwards_27 : decode b_T_putNineBackwards 27 = .ok (.iinc 3 1, 3) := by decide +kernel
theorem d_T_putNineBackwards_30 : decode b_T_putNineBackwards 30 = .ok (.goto (-26), 3) := by decide +kernel
theorem d_T_putNineBackwards_33 : decode b_T_putNineBackwards 33 = .ok (.return_, 1) := by decide +kernel
theorem d_T_turnRound_0 : decode b_T_turnRound 0 = .ok (.iload_n 1, 1) := by decide +kernel
theorem d_T_turnRound_1 : decode b_T_turnRound 1 = .ok (.ifCond .lt 12, 3) := by decide +kernel
theorem d_T_turnRound_4 : decode b_T_turnRound 4 = .ok (.iload_n 2, 1) := by decide +kernel
theorem d_T_turnRound_5 : decode b_T_turnRound 5 = .ok (.aload_n 0, 1) := by decide +kernel
theorem d_T_turnRound_6 : decode b_T_turnRound 6 = .ok (.getfield 9, 3) := by decide +kernel
theorem d_T_turnRound_9 : decode b_T_turnRound 9 = .ok (.arraylength, 1) := by decide +kernel
theorem d_T_turnRound_10 : decode b_T_turnRound 10 = .ok (.if_icmp .lt 4, 3) := by decide +kernel
theorem d_T_turnRound_13 : decode b_T_turnRound 13 = .ok (.return_, 1) := by decide +kernel
theorem d_T_turnRound_14 : decode b_T_turnRound 14 = .ok (.iload_n 1, 1) := by decide +kernel
theorem d_T_turnRound_15 : decode b_T_turnRound 15 = .ok (.istore_n 3, 1) := by decide +kernel
theorem d_T_turnRound_16 : decode b_T_turnRound 16 = .ok (.iload_n 2, 1) := by decide +kernel
theorem d_T_turnRound_17 : decode b_T_turnRound 17 = .ok (.istore 4, 2) := by decide +kernel
theorem d_T_turnRound_19 : decode b_T_turnRound 19 = .ok (.iload_n 3, 1) := by decide +kernel
theorem d_T_turnRound_20 : decode b_T_turnRound 20 = .ok (.iload 4, 2) := by decide +kernel
theorem d_T_turnRound_22 : decode b_T_turnRound 22 = .ok (.if_icmp .ge 42, 3) := by decide +kernel
theorem d_T_turnRound_25 : decode b_T_turnRound 25 = .ok (.aload_n 0, 1) := by decide +kernel
theorem d_T_turnRound_26 : decode b_T_turnRound 26 = .ok (.getfield 9, 3) := by decide +kernel
theorem d_T_turnRound_29 : decode b_T_turnRound 29 = .ok (.iload_n 3, 1) := by decide +kernel
theorem d_T_turnRound_30 : decode b_T_turnRound 30 = .ok (.caload, 1) := by decide +kernel
theorem d_T_turnRound_31 : decode b_T_turnRound 31 = .ok (.istore 5, 2) := by decide +kernel
theorem d_T_turnRound_33 : decode b_T_turnRound 33 = .ok (.aload_n 0, 1) := by decide +kernel
theorem d_T_turnRound_34 : decode b_T_turnRound 34 = .ok (.getfield 9, 3) := by decide +kernel
theorem d_T_turnRound_37 : decode b_T_turnRound 37 = .ok (.iload_n 3, 1) := by decide +kernel
theorem d_T_turnRound_38 : decode b_T_turnRound 38 = .ok (.aload_n 0, 1) := by decide +kernel
theorem d_T_turnRound_39 : decode b_T_turnRound 39 = .ok (.getfield 9, 3) := by decide +kernel
theorem d_T_turnRound_42 : decode b_T_turnRound 42 = .ok (.iload 4, 2) := by decide +kernel
theorem d_T_turnRound_44 : decode b_T_turnRound 44 = .ok (.caload, 1) := by decide +kernel
theorem d_T_turnRound_45 : decode b_T_turnRound 45 = .ok (.castore, 1) := by decide +kernel
theorem d_T_turnRound_46 : decode b_T_turnRound 46 = .ok (.aload_n 0, 1) := by decide +kernel
theorem d_T_turnRound_47 : decode b_T_turnRound 47 = .ok (.getfield 9, 3) := by decide +kernel
theorem d_T_turnRound_50 : decode b_T_turnRound 50 = .ok (.iload 4, 2) := by decide +kernel
theorem d_T_turnRound_52 : decode b_T_turnRound 52 = .ok (.iload 5, 2) := by decide +kernel
theorem d_T_turnRound_54 : decode b_T_turnRound 54 = .ok (.castore, 1) := by decide +kernel
theorem d_T_turnRound_55 : decode b_T_turnRound 55 = .ok (.iinc 3 1, 3) := by decide +kernel
theorem d_T_turnRound_58 : decode b_T_turnRound 58 = .ok (.iinc 4 (-1), 3) := by decide +kernel
theorem d_T_turnRound_61 : decode b_T_turnRound 61 = .ok (.goto (-42), 3) := by decide +kernel
theorem d_T_turnRound_64 : decode b_T_turnRound 64 = .ok (.return_, 1) := by decide +kernel
theorem d_L_read_0 : decode b_L_read 0 = .ok (.aload_n 2, 1) := by decide +kernel
theorem d_L_read_1 : decode b_L_read 1 = .ok (.iconst 0, 1) := by decide +kernel
theorem d_L_read_2 : decode b_L_read 2 = .ok (.aload_n 0, 1) := by decide +kernel
theorem d_L_read_3 : decode b_L_read 3 = .ok (.iload_n 1, 1) := by decide +kernel
theorem d_L_read_4 : decode b_L_read 4 = .ok (.invokevirtual 44, 3) := by decide +kernel
theorem d_L_read_7 : decode b_L_read 7 = .ok (.i2l, 1) := by decide +kernel
theorem d_L_read_8 : decode b_L_read 8 = .ok (.lastore, 1) := by decide +kernel
theorem d_L_read_9 : decode b_L_read 9 = .ok (.goto 9, 3) := by decide +kernel
theorem d_L_read_12 : decode b_L_read 12 = .ok (.astore_n 3, 1) := by decide +kernel
theorem d_L_read_13 : decode b_L_read 13 = .ok (.iconst 1, 1) := by decide +kernel
theorem d_L_read_14 : decode b_L_read 14 = .ok (.ireturn, 1) := by decide +kernel
theorem d_L_read_15 : decode b_L_read 15 = .ok (.astore_n 3, 1) := by decide +kernel
theorem d_L_read_16 : decode b_L_read 16 = .ok (.iconst 2, 1) := by decide +kernel
theorem d_L_read_17 : decode b_L_read 17 = .ok (.ireturn, 1) := by decide +kernel
theorem d_L_read_18 : decode b_L_read 18 = .ok (.iconst 0, 1) := by decide +kernel
theorem d_L_read_19 : decode b_L_read 19 = .ok (.ireturn, 1) := by decide +kernel
theorem d_K_read_0 : decode b_K_read 0 = .ok (.aload_n 0, 1) := by decide +kernel
theorem d_K_read_1 : decode b_K_read 1 = .ok (.iload_n 1, 1) := by decide +kernel
theorem d_K_read_2 : decode b_K_read 2 = .ok (.invokevirtual 34, 3) := by decide +kernel
theorem d_K_read_5 : decode b_K_read 5 = .ok (.astore_n 2, 1) := by decide +kernel
theorem d_K_read_6 : decode b_K_read 6 = .ok (.aload_n 0, 1) := by decide +kernel
theorem d_K_read_7 : decode b_K_read 7 = .ok (.getfield 26, 3) := by decide +kernel
theorem d_K_read_10 : decode b_K_read 10 = .ok (.invokevirtual 161, 3) := by decide +kernel
theorem d_K_read_13 : decode b_K_read 13 = .ok (.istore_n 3, 1) := by decide +kernel
theorem d_K_read_14 : decode b_K_read 14 = .ok (.iload_n 3, 1) := by decide +kernel
theorem d_K_read_15 : decode b_K_read 15 = .ok (.iconst (-1), 1) := by decide +kernel
theorem d_K_read_16 : decode b_K_read 16 = .ok (.if_icmp .eq 18, 3) := by decide +kernel
theorem d_K_read_19 : decode b_K_read 19 = .ok (.aload_n 0, 1) := by decide +kernel
theorem d_K_read_20 : decode b_K_read 20 = .ok (.iload_n 3, 1) := by decide +kernel
theorem d_K_read_21 : decode b_K_read 21 = .ok (.putfield 30, 3) := by decide +kernel
theorem d_K_read_24 : decode b_K_read 24 = .ok (.new 164, 3) := by decide +kernel
theorem d_K_read_27 : decode b_K_read 27 = .ok (.dup, 1) := by decide +kernel
theorem d_K_read_28 : decode b_K_read 28 = .ok (.ldc 166, 2) := by decide +kernel
theorem d_K_read_30 : decode b_K_read 30 = .ok (.invokespecial 168, 3) := by decide +kernel
theorem d_K_read_33 : decode b_K_read 33 = .ok (.athrow, 1) := by decide +kernel
theorem d_K_read_34 : decode b_K_read 34 = .ok (.aload_n 0, 1) := by decide +kernel
theorem d_K_read_35 : decode b_K_read 35 = .ok (.getfield 19, 3) := by decide +kernel
theorem d_K_read_38 : decode b_K_read 38 = .ok (.aload_n 0, 1) := by decide +kernel
theorem d_K_read_39 : decode b_K_read 39 = .ok (.getfield 26, 3) := by decide +kernel
theorem d_K_read_42 : decode b_K_read 42 = .ok (.invokevirtual 169, 3) := by decide +kernel
theorem d_K_read_45 : decode b_K_read 45 = .ok (.ifCond .ne 5, 3) := by decide +kernel
theorem d_K_read_48 : decode b_K_read 48 = .ok (.iconst (-1), 1) := by decide +kernel
theorem d_K_read_49 : decode b_K_read 49 = .ok (.ireturn, 1) := by decide +kernel
theorem d_K_read_50 : decode b_K_read 50 = .ok (.aload_n 0, 1) := by decide +kernel
theorem d_K_read_51 : decode b_K_read 51 = .ok (.getfield 26, 3) := by decide +kernel
theorem d_K_read_54 : decode b_K_read 54 = .ok (.iconst 0, 1) := by decide +kernel
theorem d_K_read_55 : decode b_K_read 55 = .ok (.putfield 138, 3) := by decide +kernel
theorem d_K_read_58 : decode b_K_read 58 = .ok (.aload_n 0, 1) := by decide +kernel
theorem d_K_read_59 : decode b_K_read 59 = .ok (.getfield 19, 3) := by decide +kernel
theorem d_K_read_62 : decode b_K_read 62 = .ok (.aload_n 2, 1) := by decide +kernel
theorem d_K_read_63 : decode b_K_read 63 = .ok (.invokevirtual 49, 3) := by decide +kernel
theorem d_K_read_66 : decode b_K_read 66 = .ok (.ireturn, 1) := by decide +kernel
theorem d_T_wrongAt_0 : decode b_T_wrongAt 0 = .ok (.aload_n 0, 1) := by decide +kernel
theorem d_T_wrongAt_1 : decode b_T_wrongAt 1 = .ok (.invokevirtual 49, 3) := by decide +kernel
theorem d_T_wrongAt_4 : decode b_T_wrongAt 4 = .ok (.istore_n 1, 1) := by decide +kernel
theorem d_T_wrongAt_5 : decode b_T_wrongAt 5 = .ok (.aload_n 0, 1) := by decide +kernel
theorem d_T_wrongAt_6 : decode b_T_wrongAt 6 = .ok (.iload_n 1, 1) := by decide +kernel
theorem d_T_wrongAt_7 : decode b_T_wrongAt 7 = .ok (.invokevirtual 53, 3) := by decide +kernel
theorem d_T_wrongAt_10 : decode b_T_wrongAt 10 = .ok (.istore_n 2, 1) := by decide +kernel
theorem d_T_wrongAt_11 : decode b_T_wrongAt 11 = .ok (.iload_n 2, 1) := by decide +kernel
theorem d_T_wrongAt_12 : decode b_T_wrongAt 12 = .ok (.iload_n 1, 1) := by decide +kernel
theorem d_T_wrongAt_13 : decode b_T_wrongAt 13 = .ok (.if_icmp .le 13, 3) := by decide +kernel
theorem d_T_wrongAt_16 : decode b_T_wrongAt 16 = .ok (.iload_n 2, 1) := by decide +kernel
theorem d_T_wrongAt_17 : decode b_T_wrongAt 17 = .ok (.aload_n 0, 1) := by decide +kernel
theorem d_T_wrongAt_18 : decode b_T_wrongAt 18 = .ok (.getfield 15, 3) := by decide +kernel
theorem d_T_wrongAt_21 : decode b_T_wrongAt 21 = .ok (.if_icmp .ne 5, 3) := by decide +kernel
theorem d_T_wrongAt_24 : decode b_T_wrongAt 24 = .ok (.iconst (-1), 1) := by decide +kernel
theorem d_T_wrongAt_25 : decode b_T_wrongAt 25 = .ok (.ireturn, 1) := by decide +kernel
theorem d_T_wrongAt_26 : decode b_T_wrongAt 26 = .ok (.iload_n 2, 1) := by decide +kernel
theorem d_T_wrongAt_27 : decode b_T_wrongAt 27 = .ok (.iload_n 1, 1) := by decide +kernel
theorem d_T_wrongAt_28 : decode b_T_wrongAt 28 = .ok (.if_icmp .eq 13, 3) := by decide +kernel
theorem d_T_wrongAt_31 : decode b_T_wrongAt 31 = .ok (.aload_n 0, 1) := by decide +kernel
theorem d_T_wrongAt_32 : decode b_T_wrongAt 32 = .ok (.iload_n 2, 1) := by decide +kernel
theorem d_T_wrongAt_33 : decode b_T_wrongAt 33 = .ok (.invokevirtual 42, 3) := by decide +kernel
theorem d_T_wrongAt_36 : decode b_T_wrongAt 36 = .ok (.bipush 47, 2) := by decide +kernel
theorem d_T_wrongAt_38 : decode b_T_wrongAt 38 = .ok (.if_icmp .eq 5, 3) := by decide +kernel
theorem d_T_wrongAt_41 : decode b_T_wrongAt 41 = .ok (.iload_n 2, 1) := by decide +kernel
theorem d_T_wrongAt_42 : decode b_T_wrongAt 42 = .ok (.ireturn, 1) := by decide +kernel
theorem d_T_wrongAt_43 : decode b_T_wrongAt 43 = .ok (.aload_n 0, 1) := by decide +kernel
theorem d_T_wrongAt_44 : decode b_T_wrongAt 44 = .ok (.iload_n 2, 1) := by decide +kernel
theorem d_T_wrongAt_45 : decode b_T_wrongAt 45 = .ok (.iconst 1, 1) := by decide +kernel
theorem d_T_wrongAt_46 : decode b_T_wrongAt 46 = .ok (.iadd, 1) := by decide +kernel
theorem d_T_wrongAt_47 : decode b_T_wrongAt 47 = .ok (.invokevirtual 53, 3) := by decide +kernel
theorem d_T_wrongAt_50 : decode b_T_wrongAt 50 = .ok (.istore_n 3, 1) := by decide +kernel
theorem d_T_wrongAt_51 : decode b_T_wrongAt 51 = .ok (.iload_n 3, 1) := by decide +kernel
theorem d_T_wrongAt_52 : decode b_T_wrongAt 52 = .ok (.aload_n 0, 1) := by decide +kernel
theorem d_T_wrongAt_53 : decode b_T_wrongAt 53 = .ok (.getfield 15, 3) := by decide +kernel
theorem d_T_wrongAt_56 : decode b_T_wrongAt 56 = .ok (.if_icmp .ne 18, 3) := by decide +kernel
theorem d_T_wrongAt_59 : decode b_T_wrongAt 59 = .ok (.aload_n 0, 1) := by decide +kernel
theorem d_T_wrongAt_60 : decode b_T_wrongAt 60 = .ok (.iload_n 2, 1) := by decide +kernel
theorem d_T_wrongAt_61 : decode b_T_wrongAt 61 = .ok (.iconst 1, 1) := by decide +kernel
theorem d_T_wrongAt_62 : decode b_T_wrongAt 62 = .ok (.iadd, 1) := by decide +kernel
theorem d_T_wrongAt_63 : decode b_T_wrongAt 63 = .ok (.iload_n 3, 1) := by decide +kernel
theorem d_T_wrongAt_64 : decode b_T_wrongAt 64 = .ok (.invokevirtual 56, 3) := by decide +kernel
theorem d_T_wrongAt_67 : decode b_T_wrongAt 67 = .ok (.ifCond .ne 7, 3) := by decide +kernel
theorem d_T_wrongAt_70 : decode b_T_wrongAt 70 = .ok (.iconst 1, 1) := by decide +kernel
theorem d_T_wrongAt_71 : decode b_T_wrongAt 71 = .ok (.goto 4, 3) := by decide +kernel
theorem d_T_wrongAt_74 : decode b_T_wrongAt 74 = .ok (.iconst 0, 1) := by decide +kernel
theorem d_T_wrongAt_75 : decode b_T_wrongAt 75 = .ok (.istore 4, 2) := by decide +kernel
theorem d_T_wrongAt_77 : decode b_T_wrongAt 77 = .ok (.iload 4, 2) := by decide +kernel
theorem d_T_wrongAt_79 : decode b_T_wrongAt 79 = .ok (.ifCond .eq 7, 3) := by decide +kernel
theorem d_T_wrongAt_82 : decode b_T_wrongAt 82 = .ok (.iconst (-1), 1) := by decide +kernel
theorem d_T_wrongAt_83 : decode b_T_wrongAt 83 = .ok (.goto 4, 3) := by decide +kernel
theorem d_T_wrongAt_86 : decode b_T_wrongAt 86 = .ok (.iload_n 3, 1) := by decide +kernel
theorem d_T_wrongAt_87 : decode b_T_wrongAt 87 = .ok (.ireturn, 1) := by decide +kernel
theorem d_T_firstDigit_0 : decode b_T_firstDigit 0 = .ok (.aload_n 0, 1) := by decide +kernel
theorem d_T_firstDigit_1 : decode b_T_firstDigit 1 = .ok (.iconst 0, 1) := by decide +kernel
theorem d_T_firstDigit_2 : decode b_T_firstDigit 2 = .ok (.invokevirtual 42, 3) := by decide +kernel
theorem d_T_firstDigit_5 : decode b_T_firstDigit 5 = .ok (.bipush 45, 2) := by decide +kernel
theorem d_T_firstDigit_7 : decode b_T_firstDigit 7 = .ok (.if_icmp .ne 7, 3) := by decide +kernel
theorem d_T_firstDigit_10 : decode b_T_firstDigit 10 = .ok (.iconst 1, 1) := by decide +kernel
theorem d_T_firstDigit_11 : decode b_T_firstDigit 11 = .ok (.goto 4, 3) := by decide +kernel
theorem d_T_firstDigit_14 : decode b_T_firstDigit 14 = .ok (.iconst 0, 1) := by decide +kernel
theorem d_T_firstDigit_15 : decode b_T_firstDigit 15 = .ok (.ireturn, 1) := by decide +kernel
theorem d_T_digitsEnd_0 : decode b_T_digitsEnd 0 = .ok (.iload_n 1, 1) := by decide +kernel
theorem d_T_digitsEnd_1 : decode b_T_digitsEnd 1 = .ok (.istore_n 2, 1) := by decide +kernel
theorem d_T_digitsEnd_2 : decode b_T_digitsEnd 2 = .ok (.iload_n 2, 1) := by decide +kernel
theorem d_T_digitsEnd_3 : decode b_T_digitsEnd 3 = .ok (.aload_n 0, 1) := by decide +kernel
theorem d_T_digitsEnd_4 : decode b_T_digitsEnd 4 = .ok (.getfield 15, 3) := by decide +kernel
theorem d_T_digitsEnd_7 : decode b_T_digitsEnd 7 = .ok (.if_icmp .ge 20, 3) := by decide +kernel
theorem d_T_digitsEnd_10 : decode b_T_digitsEnd 10 = .ok (.aload_n 0, 1) := by decide +kernel
theorem d_T_digitsEnd_11 : decode b_T_digitsEnd 11 = .ok (.iload_n 2, 1) := by decide +kernel
theorem d_T_digitsEnd_12 : decode b_T_digitsEnd 12 = .ok (.invokevirtual 42, 3) := by decide +kernel
theorem d_T_digitsEnd_15 : decode b_T_digitsEnd 15 = .ok (.invokestatic 45, 3) := by decide +kernel
theorem d_T_digitsEnd_18 : decode b_T_digitsEnd 18 = .ok (.ifCond .eq 9, 3) := by decide +kernel
theorem d_T_digitsEnd_21 : decode b_T_digitsEnd 21 = .ok (.iinc 2 1, 3) := by decide +kernel
theorem d_T_digitsEnd_24 : decode b_T_digitsEnd 24 = .ok (.goto (-22), 3) := by decide +kernel
theorem d_T_digitsEnd_27 : decode b_T_digitsEnd 27 = .ok (.iload_n 2, 1) := by decide +kernel
theorem d_T_digitsEnd_28 : decode b_T_digitsEnd 28 = .ok (.ireturn, 1) := by decide +kernel
theorem d_T_isDigit_0 : decode b_T_isDigit 0 = .ok (.iload_n 0, 1) := by decide +kernel
theorem d_T_isDigit_1 : decode b_T_isDigit 1 = .ok (.bipush 48, 2) := by decide +kernel
theorem d_T_isDigit_3 : decode b_T_isDigit 3 = .ok (.if_icmp .lt 13, 3) := by decide +kernel
theorem d_T_isDigit_6 : decode b_T_isDigit 6 = .ok (.iload_n 0, 1) := by decide +kernel
theorem d_T_isDigit_7 : decode b_T_isDigit 7 = .ok (.bipush 57, 2) := by decide +kernel
theorem d_T_isDigit_9 : decode b_T_isDigit 9 = .ok (.if_icmp .gt 7, 3) := by decide +kernel
theorem d_T_isDigit_12 : decode b_T_isDigit 12 = .ok (.iconst 1, 1) := by decide +kernel
theorem d_T_isDigit_13 : decode b_T_isDigit 13 = .ok (.goto 4, 3) := by decide +kernel
theorem d_T_isDigit_16 : decode b_T_isDigit 16 = .ok (.iconst 0, 1) := by decide +kernel
theorem d_T_isDigit_17 : decode b_T_isDigit 17 = .ok (.ireturn, 1) := by decide +kernel
theorem d_T_isAllZeros_0 : decode b_T_isAllZeros 0 = .ok (.iload_n 1, 1) := by decide +kernel
theorem d_T_isAllZeros_1 : decode b_T_isAllZeros 1 = .ok (.istore_n 3, 1) := by decide +kernel
theorem d_T_isAllZeros_2 : decode b_T_isAllZeros 2 = .ok (.iload_n 3, 1) := by decide +kernel
theorem d_T_isAllZeros_3 : decode b_T_isAllZeros 3 = .ok (.iload_n 2, 1) := by decide +kernel
theorem d_T_isAllZeros_4 : decode b_T_isAllZeros 4 = .ok (.if_icmp .ge 21, 3) := by decide +kernel
theorem d_T_isAllZeros_7 : decode b_T_isAllZeros 7 = .ok (.aload_n 0, 1) := by decide +kernel
theorem d_T_isAllZeros_8 : decode b_T_isAllZeros 8 = .ok (.iload_n 3, 1) := by decide +kernel
theorem d_T_isAllZeros_9 : decode b_T_isAllZeros 9 = .ok (.invokevirtual 42, 3) := by decide +kernel
theorem d_T_isAllZeros_12 : decode b_T_isAllZeros 12 = .ok (.bipush 48, 2) := by decide +kernel
theorem d_T_isAllZeros_14 : decode b_T_isAllZeros 14 = .ok (.if_icmp .eq 5, 3) := by decide +kernel
theorem d_T_isAllZeros_17 : decode b_T_isAllZeros 17 = .ok (.iconst 0, 1) := by decide +kernel
theorem d_T_isAllZeros_18 : decode b_T_isAllZeros 18 = .ok (.ireturn, 1) := by decide +kernel
theorem d_T_isAllZeros_19 : decode b_T_isAllZeros 19 = .ok (.iinc 3 1, 3) := by decide +kernel
theorem d_T_isAllZeros_22 : decode b_T_isAllZeros 22 = .ok (.goto (-20), 3) := by decide +kernel
theorem d_T_isAllZeros_25 : decode b_T_isAllZeros 25 = .ok (.iconst 1, 1) := by decide +kernel
theorem d_T_isAllZeros_26 : decode b_T_isAllZeros 26 = .ok (.ireturn, 1) := by decide +kernel
theorem d_B_takeText_0 : decode b_B_takeText 0 = .ok (.aload_n 1, 1) := by decide +kernel
theorem d_B_takeText_1 : decode b_B_takeText 1 = .ok (.invokevirtual 87, 3) := by decide +kernel
theorem d_B_takeText_4 : decode b_B_takeText 4 = .ok (.istore_n 2, 1) := by decide +kernel
theorem d_B_takeText_5 : decode b_B_takeText 5 = .ok (.aload_n 1, 1) := by decide +kernel
theorem d_B_takeText_6 : decode b_B_takeText 6 = .ok (.iload_n 2, 1) := by decide +kernel
theorem d_B_takeText_7 : decode b_B_takeText 7 = .ok (.invokevirtual 93, 3) := by decide +kernel
theorem d_B_takeText_10 : decode b_B_takeText 10 = .ok (.istore_n 3, 1) := by decide +kernel
theorem d_B_takeText_11 : decode b_B_takeText 11 = .ok (.aload_n 0, 1) := by decide +kernel
theorem d_B_takeText_12 : decode b_B_takeText 12 = .ok (.iload_n 2, 1) := by decide +kernel
theorem d_B_takeText_13 : decode b_B_takeText 13 = .ok (.ifCond .le 7, 3) := by decide +kernel
theorem d_B_takeText_16 : decode b_B_takeText 16 = .ok (.iconst 1, 1) := by decide +kernel
theorem d_B_takeText_17 : decode b_B_takeText 17 = .ok (.goto 4, 3) := by decide +kernel
theorem d_B_takeText_20 : decode b_B_takeText 20 = .ok (.iconst 0, 1) := by decide +kernel
theorem d_B_takeText_21 : decode b_B_takeText 21 = .ok (.putfield 39, 3) := by decide +kernel
theorem d_B_takeText_24 : decode b_B_takeText 24 = .ok (.aload_n 0, 1) := by decide +kernel
theorem d_B_takeText_25 : decode b_B_takeText 25 = .ok (.getfield 20, 3) := by decide +kernel
theorem d_B_takeText_28 : decode b_B_takeText 28 = .ok (.lconst 1, 1) := by decide +kernel
theorem d_B_takeText_29 : decode b_B_takeText 29 = .ok (.invokevirtual 83, 3) := by decide +kernel
theorem d_B_takeText_32 : decode b_B_takeText 32 = .ok (.aload_n 1, 1) := by decide +kernel
theorem d_B_takeText_33 : decode b_B_takeText 33 = .ok (.iload_n 2, 1) := by decide +kernel
theorem d_B_takeText_34 : decode b_B_takeText 34 = .ok (.iload_n 3, 1) := by decide +kernel
theorem d_B_takeText_35 : decode b_B_takeText 35 = .ok (.aload_n 0, 1) := by decide +kernel
theorem d_B_takeText_36 : decode b_B_takeText 36 = .ok (.getfield 16, 3) := by decide +kernel
theorem d_B_takeText_39 : decode b_B_takeText 39 = .ok (.invokevirtual 97, 3) := by decide +kernel
theorem d_B_takeText_42 : decode b_B_takeText 42 = .ok (.ifCond .ne 5, 3) := by decide +kernel
theorem d_B_takeText_45 : decode b_B_takeText 45 = .ok (.iconst 0, 1) := by decide +kernel
theorem d_B_takeText_46 : decode b_B_takeText 46 = .ok (.ireturn, 1) := by decide +kernel
theorem d_B_takeText_47 : decode b_B_takeText 47 = .ok (.iload_n 3, 1) := by decide +kernel
theorem d_B_takeText_48 : decode b_B_takeText 48 = .ok (.aload_n 1, 1) := by decide +kernel
theorem d_B_takeText_49 : decode b_B_takeText 49 = .ok (.getfield 101, 3) := by decide +kernel
theorem d_B_takeText_52 : decode b_B_takeText 52 = .ok (.if_icmp .ge 21, 3) := by decide +kernel
theorem d_B_takeText_55 : decode b_B_takeText 55 = .ok (.aload_n 1, 1) := by decide +kernel
theorem d_B_takeText_56 : decode b_B_takeText 56 = .ok (.iload_n 3, 1) := by decide +kernel
theorem d_B_takeText_57 : decode b_B_takeText 57 = .ok (.iconst 1, 1) := by decide +kernel
theorem d_B_takeText_58 : decode b_B_takeText 58 = .ok (.iadd, 1) := by decide +kernel
theorem d_B_takeText_59 : decode b_B_takeText 59 = .ok (.aload_n 1, 1) := by decide +kernel
theorem d_B_takeText_60 : decode b_B_takeText 60 = .ok (.getfield 101, 3) := by decide +kernel
theorem d_B_takeText_63 : decode b_B_takeText 63 = .ok (.aload_n 0, 1) := by decide +kernel
theorem d_B_takeText_64 : decode b_B_takeText 64 = .ok (.getfield 20, 3) := by decide +kernel
theorem d_B_takeText_67 : decode b_B_takeText 67 = .ok (.invokevirtual 97, 3) := by decide +kernel
theorem d_B_takeText_70 : decode b_B_takeText 70 = .ok (.ifCond .eq 7, 3) := by decide +kernel
theorem d_B_takeText_73 : decode b_B_takeText 73 = .ok (.iconst 1, 1) := by decide +kernel
theorem d_B_takeText_74 : decode b_B_takeText 74 = .ok (.goto 4, 3) := by decide +kernel
theorem d_B_takeText_77 : decode b_B_takeText 77 = .ok (.iconst 0, 1) := by decide +kernel
theorem d_B_takeText_78 : decode b_B_takeText 78 = .ok (.ireturn, 1) := by decide +kernel
theorem d_T_tell_0 : decode b_T_tell 0 = .ok (.aload_n 3, 1) := by decide +kernel
theorem d_T_tell_1 : decode b_T_tell 1 = .ok (.iconst 0, 1) := by decide +kernel
theorem d_T_tell_2 : decode b_T_tell 2 = .ok (.putfield 60, 3) := by decide +kernel
theorem d_T_tell_5 : decode b_T_tell 5 = .ok (.iconst 0, 1) := by decide +kernel
theorem d_T_tell_6 : decode b_T_tell 6 = .ok (.istore 4, 2) := by decide +kernel
theorem d_T_tell_8 : decode b_T_tell 8 = .ok (.iconst 1, 1) := by decide +kernel
theorem d_T_tell_9 : decode b_T_tell 9 = .ok (.istore 5, 2) := by decide +kernel
theorem d_T_tell_11 : decode b_T_tell 11 = .ok (.iload_n 1, 1) := by decide +kernel
theorem d_T_tell_12 : decode b_T_tell 12 = .ok (.istore 6, 2) := by decide +kernel
theorem d_T_tell_14 : decode b_T_tell 14 = .ok (.iload 6, 2) := by decide +kernel
theorem d_T_tell_16 : decode b_T_tell 16 = .ok (.iload_n 2, 1) := by decide +kernel
theorem d_T_tell_17 : decode b_T_tell 17 = .ok (.if_icmp .ge 71, 3) := by decide +kernel
theorem d_T_tell_20 : decode b_T_tell 20 = .ok (.iload 4, 2) := by decide +kernel
theorem d_T_tell_22 : decode b_T_tell 22 = .ok (.bipush 10, 2) := by decide +kernel
theorem d_T_tell_24 : decode b_T_tell 24 = .ok (.imul, 1) := by decide +kernel
theorem d_T_tell_25 : decode b_T_tell 25 = .ok (.aload_n 0, 1) := by decide +kernel
theorem d_T_tell_26 : decode b_T_tell 26 = .ok (.iload 6, 2) := by decide +kernel
theorem d_T_tell_28 : decode b_T_tell 28 = .ok (.invokevirtual 42, 3) := by decide +kernel
theorem d_T_tell_31 : decode b_T_tell 31 = .ok (.bipush 48, 2) := by decide +kernel
theorem d_T_tell_33 : decode b_T_tell 33 = .ok (.isub, 1) := by decide +kernel
theorem d_T_tell_34 : decode b_T_tell 34 = .ok (.iadd, 1) := by decide +kernel
theorem d_T_tell_35 : decode b_T_tell 35 = .ok (.istore 4, 2) := by decide +kernel
theorem d_T_tell_37 : decode b_T_tell 37 = .ok (.iload 5, 2) := by decide +kernel
theorem d_T_tell_39 : decode b_T_tell 39 = .ok (.bipush 10, 2) := by decide +kernel
theorem d_T_tell_41 : decode b_T_tell 41 = .ok (.imul, 1) := by decide +kernel
theorem d_T_tell_42 : decode b_T_tell 42 = .ok (.istore 5, 2) := by decide +kernel
theorem d_T_tell_44 : decode b_T_tell 44 = .ok (.iload 5, 2) := by decide +kernel
theorem d_T_tell_46 : decode b_T_tell 46 = .ok (.ldc 25, 2) := by decide +kernel
theorem d_T_tell_48 : decode b_T_tell 48 = .ok (.if_icmp .eq 11, 3) := by decide +kernel
theorem d_T_tell_51 : decode b_T_tell 51 = .ok (.iload 6, 2) := by decide +kernel
theorem d_T_tell_53 : decode b_T_tell 53 = .ok (.iload_n 2, 1) := by decide +kernel
theorem d_T_tell_54 : decode b_T_tell 54 = .ok (.iconst 1, 1) := by decide +kernel
theorem d_T_tell_55 : decode b_T_tell 55 = .ok (.isub, 1) := by decide +kernel
theorem d_T_tell_56 : decode b_T_tell 56 = .ok (.if_icmp .ne 26, 3) := by decide +kernel
theorem d_T_tell_59 : decode b_T_tell 59 = .ok (.aload_n 3, 1) := by decide +kernel
theorem d_T_tell_60 : decode b_T_tell 60 = .ok (.iload 5, 2) := by decide +kernel
theorem d_T_tell_62 : decode b_T_tell 62 = .ok (.iload 4, 2) := by decide +kernel
theorem d_T_tell_64 : decode b_T_tell 64 = .ok (.invokevirtual 63, 3) := by decide +kernel
theorem d_T_tell_67 : decode b_T_tell 67 = .ok (.aload_n 3, 1) := by decide +kernel
theorem d_T_tell_68 : decode b_T_tell 68 = .ok (.invokevirtual 66, 3) := by decide +kernel
theorem d_T_tell_71 : decode b_T_tell 71 = .ok (.ifCond .ne 5, 3) := by decide +kernel
theorem d_T_tell_74 : decode b_T_tell 74 = .ok (.iconst 0, 1) := by decide +kernel
theorem d_T_tell_75 : decode b_T_tell 75 = .ok (.ireturn, 1) := by decide +kernel
theorem d_T_tell_76 : decode b_T_tell 76 = .ok (.iconst 0, 1) := by decide +kernel
theorem d_T_tell_77 : decode b_T_tell 77 = .ok (.istore 4, 2) := by decide +kernel
theorem d_T_tell_79 : decode b_T_tell 79 = .ok (.iconst 1, 1) := by decide +kernel
theorem d_T_tell_80 : decode b_T_tell 80 = .ok (.istore 5, 2) := by decide +kernel
theorem d_T_tell_82 : decode b_T_tell 82 = .ok (.iinc 6 1, 3) := by decide +kernel
theorem d_T_tell_85 : decode b_T_tell 85 = .ok (.goto (-71), 3) := by decide +kernel
theorem d_T_tell_88 : decode b_T_tell 88 = .ok (.iconst 1, 1) := by decide +kernel
theorem d_T_tell_89 : decode b_T_tell 89 = .ok (.ireturn, 1) := by decide +kernel
theorem d_M_init_0 : decode b_M_init 0 = .ok (.aload_n 0, 1) := by decide +kernel
theorem d_M_init_1 : decode b_M_init 1 = .ok (.invokespecial 1, 3) := by decide +kernel
theorem d_M_init_4 : decode b_M_init 4 = .ok (.aload_n 0, 1) := by decide +kernel
theorem d_M_init_5 : decode b_M_init 5 = .ok (.sipush 12900, 3) := by decide +kernel
theorem d_M_init_8 : decode b_M_init 8 = .ok (.newarray .int, 2) := by decide +kernel
theorem d_M_init_10 : decode b_M_init 10 = .ok (.putfield 7, 3) := by decide +kernel
theorem d_M_init_13 : decode b_M_init 13 = .ok (.aload_n 0, 1) := by decide +kernel
theorem d_M_init_14 : decode b_M_init 14 = .ok (.bipush 43, 2) := by decide +kernel
theorem d_M_init_16 : decode b_M_init 16 = .ok (.newarray .int, 2) := by decide +kernel
theorem d_M_init_18 : decode b_M_init 18 = .ok (.putfield 13, 3) := by decide +kernel
theorem d_M_init_21 : decode b_M_init 21 = .ok (.aload_n 0, 1) := by decide +kernel
theorem d_M_init_22 : decode b_M_init 22 = .ok (.bipush 43, 2) := by decide +kernel
theorem d_M_init_24 : decode b_M_init 24 = .ok (.newarray .boolean, 2) := by decide +kernel
theorem d_M_init_26 : decode b_M_init 26 = .ok (.putfield 16, 3) := by decide +kernel
theorem d_M_init_29 : decode b_M_init 29 = .ok (.aload_n 0, 1) := by decide +kernel
theorem d_M_init_30 : decode b_M_init 30 = .ok (.sipush 1400, 3) := by decide +kernel
theorem d_M_init_33 : decode b_M_init 33 = .ok (.newarray .int, 2) := by decide +kernel
theorem d_M_init_35 : decode b_M_init 35 = .ok (.putfield 20, 3) := by decide +kernel
theorem d_M_init_38 : decode b_M_init 38 = .ok (.aload_n 0, 1) := by decide +kernel
theorem d_M_init_39 : decode b_M_init 39 = .ok (.iconst (-1), 1) := by decide +kernel
theorem d_M_init_40 : decode b_M_init 40 = .ok (.putfield 23, 3) := by decide +kernel
theorem d_M_init_43 : decode b_M_init 43 = .ok (.aload_n 0, 1) := by decide +kernel
theorem d_M_init_44 : decode b_M_init 44 = .ok (.sipush 700, 3) := by decide +kernel
theorem d_M_init_47 : decode b_M_init 47 = .ok (.newarray .int, 2) := by decide +kernel
theorem d_M_init_49 : decode b_M_init 49 = .ok (.putfield 27, 3) := by decide +kernel
theorem d_M_init_52 : decode b_M_init 52 = .ok (.iconst 0, 1) := by decide +kernel
theorem d_M_init_53 : decode b_M_init 53 = .ok (.istore_n 1, 1) := by decide +kernel
theorem d_M_init_54 : decode b_M_init 54 = .ok (.iload_n 1, 1) := by decide +kernel
theorem d_M_init_55 : decode b_M_init 55 = .ok (.bipush 16, 2) := by decide +kernel
theorem d_M_init_57 : decode b_M_init 57 = .ok (.if_icmp .ge 18, 3) := by decide +kernel
theorem d_M_init_60 : decode b_M_init 60 = .ok (.aload_n 0, 1) := by decide +kernel
theorem d_M_init_61 : decode b_M_init 61 = .ok (.bipush 16, 2) := by decide +kernel
theorem d_M_init_63 : decode b_M_init 63 = .ok (.iload_n 1, 1) := by decide +kernel
theorem d_M_init_64 : decode b_M_init 64 = .ok (.iadd, 1) := by decide +kernel
theorem d_M_init_65 : decode b_M_init 65 = .ok (.lconst 1, 1) := by decide +kernel
theorem d_M_init_66 : decode b_M_init 66 = .ok (.invokevirtual 30, 3) := by decide +kernel
theorem d_M_init_69 : decode b_M_init 69 = .ok (.iinc 1 1, 3) := by decide +kernel
theorem d_M_init_72 : decode b_M_init 72 = .ok (.goto (-18), 3) := by decide +kernel
theorem d_M_init_75 : decode b_M_init 75 = .ok (.return_, 1) := by decide +kernel
theorem d_M_setLong_0 : decode b_M_setLong 0 = .ok (.lload_n 2, 1) := by decide +kernel
theorem d_M_setLong_1 : decode b_M_setLong 1 = .ok (.lconst 0, 1) := by decide +kernel
theorem d_M_setLong_2 : decode b_M_setLong 2 = .ok (.lcmp, 1) := by decide +kernel
theorem d_M_setLong_3 : decode b_M_setLong 3 = .ok (.ifCond .ge 12, 3) := by decide +kernel
theorem d_M_setLong_6 : decode b_M_setLong 6 = .ok (.lload_n 2, 1) := by decide +kernel
theorem d_M_setLong_7 : decode b_M_setLong 7 = .ok (.ldc2_w 37, 3) := by decide +kernel
theorem d_M_setLong_10 : decode b_M_setLong 10 = .ok (.ldiv, 1) := by decide +kernel
theorem d_M_setLong_11 : decode b_M_setLong 11 = .ok (.lneg, 1) := by decide +kernel
theorem d_M_setLong_12 : decode b_M_setLong 12 = .ok (.goto 8, 3) := by decide +kernel
theorem d_M_setLong_15 : decode b_M_setLong 15 = .ok (.lload_n 2, 1) := by decide +kernel
theorem d_M_setLong_16 : decode b_M_setLong 16 = .ok (.ldc2_w 37, 3) := by decide +kernel
theorem d_M_setLong_19 : decode b_M_setLong 19 = .ok (.ldiv, 1) := by decide +kernel
theorem d_M_setLong_20 : decode b_M_setLong 20 = .ok (.lstore 4, 2) := by decide +kernel
theorem d_M_setLong_22 : decode b_M_setLong 22 = .ok (.lload_n 2, 1) := by decide +kernel
theorem d_M_setLong_23 : decode b_M_setLong 23 = .ok (.ldc2_w 37, 3) := by decide +kernel
theorem d_M_setLong_26 : decode b_M_setLong 26 = .ok (.lrem, 1) := by decide +kernel
theorem d_M_setLong_27 : decode b_M_setLong 27 = .ok (.l2i, 1) := by decide +kernel
theorem d_M_setLong_28 : decode b_M_setLong 28 = .ok (.istore 6, 2) := by decide +kernel
theorem d_M_setLong_30 : decode b_M_setLong 30 = .ok (.aload_n 0, 1) := by decide +kernel
theorem d_M_setLong_31 : decode b_M_setLong 31 = .ok (.getfield 7, 3) := by decide +kernel
theorem d_M_setLong_34 : decode b_M_setLong 34 = .ok (.sipush 300, 3) := by decide +kernel
theorem d_M_setLong_37 : decode b_M_setLong 37 = .ok (.iload_n 1, 1) := by decide +kernel
theorem d_M_setLong_38 : decode b_M_setLong 38 = .ok (.imul, 1) := by decide +kernel
theorem d_M_setLong_39 : decode b_M_setLong 39 = .ok (.iload 6, 2) := by decide +kernel
theorem d_M_setLong_41 : decode b_M_setLong 41 = .ok (.ifCond .ge 9, 3) := by decide +kernel
theorem d_M_setLong_44 : decode b_M_setLong 44 = .ok (.iload 6, 2) := by decide +kernel
theorem d_M_setLong_46 : decode b_M_setLong 46 = .ok (.ineg, 1) := by decide +kernel
theorem d_M_setLong_47 : decode b_M_setLong 47 = .ok (.goto 5, 3) := by decide +kernel
theorem d_M_setLong_50 : decode b_M_setLong 50 = .ok (.iload 6, 2) := by decide +kernel
theorem d_M_setLong_52 : decode b_M_setLong 52 = .ok (.iastore, 1) := by decide +kernel
theorem d_M_setLong_53 : decode b_M_setLong 53 = .ok (.iconst 1, 1) := by decide +kernel
theorem d_M_setLong_54 : decode b_M_setLong 54 = .ok (.istore 7, 2) := by decide +kernel
theorem d_M_setLong_56 : decode b_M_setLong 56 = .ok (.lload 4, 2) := by decide +kernel
theorem d_M_setLong_58 : decode b_M_setLong 58 = .ok (.lconst 0, 1) := by decide +kernel
theorem d_M_setLong_59 : decode b_M_setLong 59 = .ok (.lcmp, 1) := by decide +kernel
theorem d_M_setLong_60 : decode b_M_setLong 60 = .ok (.ifCond .le 37, 3) := by decide +kernel
theorem d_M_setLong_63 : decode b_M_setLong 63 = .ok (.aload_n 0, 1) := by decide +kernel
theorem d_M_setLong_64 : decode b_M_setLong 64 = .ok (.getfield 7, 3) := by decide +kernel
theorem d_M_setLong_67 : decode b_M_setLong 67 = .ok (.sipush 300, 3) := by decide +kernel
theorem d_M_setLong_70 : decode b_M_setLong 70 = .ok (.iload_n 1, 1) := by decide +kernel
theorem d_M_setLong_71 : decode b_M_setLong 71 = .ok (.imul, 1) := by decide +kernel
theorem d_M_setLong_72 : decode b_M_setLong 72 = .ok (.iload 7, 2) := by decide +kernel
theorem d_M_setLong_74 : decode b_M_setLong 74 = .ok (.iadd, 1) := by decide +kernel
theorem d_M_setLong_75 : decode b_M_setLong 75 = .ok (.lload 4, 2) := by decide +kernel
theorem d_M_setLong_77 : decode b_M_setLong 77 = .ok (.ldc2_w 37, 3) := by decide +kernel
theorem d_M_setLong_80 : decode b_M_setLong 80 = .ok (.lrem, 1) := by decide +kernel
theorem d_M_setLong_81 : decode b_M_setLong 81 = .ok (.l2i, 1) := by decide +kernel
theorem d_M_setLong_82 : decode b_M_setLong 82 = .ok (.iastore, 1) := by decide +kernel
theorem d_M_setLong_83 : decode b_M_setLong 83 = .ok (.lload 4, 2) := by decide +kernel
theorem d_M_setLong_85 : decode b_M_setLong 85 = .ok (.ldc2_w 37, 3) := by decide +kernel
theorem d_M_setLong_88 : decode b_M_setLong 88 = .ok (.ldiv, 1) := by decide +kernel
theorem d_M_setLong_89 : decode b_M_setLong 89 = .ok (.lstore 4, 2) := by decide +kernel
theorem d_M_setLong_91 : decode b_M_setLong 91 = .ok (.iinc 7 1, 3) := by decide +kernel
theorem d_M_setLong_94 : decode b_M_setLong 94 = .ok (.goto (-38), 3) := by decide +kernel
theorem d_M_setLong_97 : decode b_M_setLong 97 = .ok (.aload_n 0, 1) := by decide +kernel
theorem d_M_setLong_98 : decode b_M_setLong 98 = .ok (.getfield 13, 3) := by decide +kernel
theorem d_M_setLong_101 : decode b_M_setLong 101 = .ok (.iload_n 1, 1) := by decide +kernel
theorem d_M_setLong_102 : decode b_M_setLong 102 = .ok (.iload 7, 2) := by decide +kernel
theorem d_M_setLong_104 : decode b_M_setLong 104 = .ok (.iastore, 1) := by decide +kernel
theorem d_M_setLong_105 : decode b_M_setLong 105 = .ok (.aload_n 0, 1) := by decide +kernel
theorem d_M_setLong_106 : decode b_M_setLong 106 = .ok (.getfield 16, 3) := by decide +kernel
theorem d_M_setLong_109 : decode b_M_setLong 109 = .ok (.iload_n 1, 1) := by decide +kernel
theorem d_M_setLong_110 : decode b_M_setLong 110 = .ok (.lload_n 2, 1) := by decide +kernel
theorem d_M_setLong_111 : decode b_M_setLong 111 = .ok (.lconst 0, 1) := by decide +kernel
theorem d_M_setLong_112 : decode b_M_setLong 112 = .ok (.lcmp, 1) := by decide +kernel
theorem d_M_setLong_113 : decode b_M_setLong 113 = .ok (.ifCond .ge 7, 3) := by decide +kernel
theorem d_M_setLong_116 : decode b_M_setLong 116 = .ok (.iconst 1, 1) := by decide +kernel
theorem d_M_setLong_117 : decode b_M_setLong 117 = .ok (.goto 4, 3) := by decide +kernel
theorem d_M_setLong_120 : decode b_M_setLong 120 = .ok (.iconst 0, 1) := by decide +kernel
theorem d_M_setLong_121 : decode b_M_setLong 121 = .ok (.bastore, 1) := by decide +kernel
theorem d_M_setLong_122 : decode b_M_setLong 122 = .ok (.aload_n 0, 1) := by decide +kernel
theorem d_M_setLong_123 : decode b_M_setLong 123 = .ok (.iload_n 1, 1) := by decide +kernel
theorem d_M_setLong_124 : decode b_M_setLong 124 = .ok (.invokevirtual 39, 3) := by decide +kernel
theorem d_M_setLong_127 : decode b_M_setLong 127 = .ok (.return_, 1) := by decide +kernel
theorem d_M_trim_0 : decode b_M_trim 0 = .ok (.aload_n 0, 1) := by decide +kernel
theorem d_M_trim_1 : decode b_M_trim 1 = .ok (.getfield 13, 3) := by decide +kernel
theorem d_M_trim_4 : decode b_M_trim 4 = .ok (.iload_n 1, 1) := by decide +kernel
theorem d_M_trim_5 : decode b_M_trim 5 = .ok (.iaload, 1) := by decide +kernel
theorem d_M_trim_6 : decode b_M_trim 6 = .ok (.ifCond .le 38, 3) := by decide +kernel
theorem d_M_trim_9 : decode b_M_trim 9 = .ok (.aload_n 0, 1) := by decide +kernel
theorem d_M_trim_10 : decode b_M_trim 10 = .ok (.getfield 7, 3) := by decide +kernel
theorem d_M_trim_13 : decode b_M_trim 13 = .ok (.sipush 300, 3) := by decide +kernel
theorem d_M_trim_16 : decode b_M_trim 16 = .ok (.iload_n 1, 1) := by decide +kernel
theorem d_M_trim_17 : decode b_M_trim 17 = .ok (.imul, 1) := by decide +kernel
theorem d_M_trim_18 : decode b_M_trim 18 = .ok (.aload_n 0, 1) := by decide +kernel
theorem d_M_trim_19 : decode b_M_trim 19 = .ok (.getfield 13, 3) := by decide +kernel
theorem d_M_trim_22 : decode b_M_trim 22 = .ok (.iload_n 1, 1) := by decide +kernel
theorem d_M_trim_23 : decode b_M_trim 23 = .ok (.iaload, 1) := by decide +kernel
theorem d_M_trim_24 : decode b_M_trim 24 = .ok (.iadd, 1) := by decide +kernel
theorem d_M_trim_25 : decode b_M_trim 25 = .ok (.iconst 1, 1) := by decide +kernel
theorem d_M_trim_26 : decode b_M_trim 26 = .ok (.isub, 1) := by decide +kernel
theorem d_M_trim_27 : decode b_M_trim 27 = .ok (.iaload, 1) := by decide +kernel
theorem d_M_trim_28 : decode b_M_trim 28 = .ok (.ifCond .ne 16, 3) := by decide +kernel
theorem d_M_trim_31 : decode b_M_trim 31 = .ok (.aload_n 0, 1) := by decide +kernel
theorem d_M_trim_32 : decode b_M_trim 32 = .ok (.getfield 13, 3) := by decide +kernel
theorem d_M_trim_35 : decode b_M_trim 35 = .ok (.iload_n 1, 1) := by decide +kernel
theorem d_M_trim_36 : decode b_M_trim 36 = .ok (.dup2, 1) := by decide +kernel
theorem d_M_trim_37 : decode b_M_trim 37 = .ok (.iaload, 1) := by decide +kernel
theorem d_M_trim_38 : decode b_M_trim 38 = .ok (.iconst 1, 1) := by decide +kernel
theorem d_M_trim_39 : decode b_M_trim 39 = .ok (.isub, 1) := by decide +kernel
theorem d_M_trim_40 : decode b_M_trim 40 = .ok (.iastore, 1) := by decide +kernel
theorem d_M_trim_41 : decode b_M_trim 41 = .ok (.goto (-41), 3) := by decide +kernel
theorem d_M_trim_44 : decode b_M_trim 44 = .ok (.aload_n 0, 1) := by decide +kernel
theorem d_M_trim_45 : decode b_M_trim 45 = .ok (.getfield 16, 3) := by decide +kernel
theorem d_M_trim_48 : decode b_M_trim 48 = .ok (.iload_n 1, 1) := by decide +kernel
theorem d_M_trim_49 : decode b_M_trim 49 = .ok (.aload_n 0, 1) := by decide +kernel
theorem d_M_trim_50 : decode b_M_trim 50 = .ok (.getfield 16, 3) := by decide +kernel
theorem d_M_trim_53 : decode b_M_trim 53 = .ok (.iload_n 1, 1) := by decide +kernel
theorem d_M_trim_54 : decode b_M_trim 54 = .ok (.baload, 1) := by decide +kernel
theorem d_M_trim_55 : decode b_M_trim 55 = .ok (.ifCond .eq 16, 3) := by decide +kernel
theorem d_M_trim_58 : decode b_M_trim 58 = .ok (.aload_n 0, 1) := by decide +kernel
theorem d_M_trim_59 : decode b_M_trim 59 = .ok (.getfield 13, 3) := by decide +kernel
theorem d_M_trim_62 : decode b_M_trim 62 = .ok (.iload_n 1, 1) := by decide +kernel
theorem d_M_trim_63 : decode b_M_trim 63 = .ok (.iaload, 1) := by decide +kernel
theorem d_M_trim_64 : decode b_M_trim 64 = .ok (.ifCond .le 7, 3) := by decide +kernel
theorem d_M_trim_67 : decode b_M_trim 67 = .ok (.iconst 1, 1) := by decide +kernel
theorem d_M_trim_68 : decode b_M_trim 68 = .ok (.goto 4, 3) := by decide +kernel
theorem d_M_trim_71 : decode b_M_trim 71 = .ok (.iconst 0, 1) := by decide +kernel
theorem d_M_trim_72 : decode b_M_trim 72 = .ok (.bastore, 1) := by decide +kernel
theorem d_M_trim_73 : decode b_M_trim 73 = .ok (.return_, 1) := by decide +kernel
theorem d_M_thrown_0 : decode b_M_thrown 0 = .ok (.aload_n 0, 1) := by decide +kernel
theorem d_M_thrown_1 : decode b_M_thrown 1 = .ok (.getfield 34, 3) := by decide +kernel
theorem d_M_thrown_4 : decode b_M_thrown 4 = .ok (.ireturn, 1) := by decide +kernel
theorem d_M_set_0 : decode b_M_set 0 = .ok (.aload_n 0, 1) := by decide +kernel
theorem d_M_set_1 : decode b_M_set 1 = .ok (.iload_n 1, 1) := by decide +kernel
theorem d_M_set_2 : decode b_M_set 2 = .ok (.invokestatic 86, 3) := by decide +kernel
theorem d_M_set_5 : decode b_M_set 5 = .ok (.ifCond .eq 14, 3) := by decide +kernel
theorem d_M_set_8 : decode b_M_set 8 = .ok (.lload 4, 2) := by decide +kernel
theorem d_M_set_10 : decode b_M_set 10 = .ok (.lconst 0, 1) := by decide +kernel
theorem d_M_set_11 : decode b_M_set 11 = .ok (.lcmp, 1) := by decide +kernel
theorem d_M_set_12 : decode b_M_set 12 = .ok (.ifCond .eq 7, 3) := by decide +kernel
theorem d_M_set_15 : decode b_M_set 15 = .ok (.iconst 0, 1) := by decide +kernel
theorem d_M_set_16 : decode b_M_set 16 = .ok (.goto 4, 3) := by decide +kernel
theorem d_M_set_19 : decode b_M_set 19 = .ok (.iconst 1, 1) := by decide +kernel
theorem d_M_set_20 : decode b_M_set 20 = .ok (.putfield 34, 3) := by decide +kernel
theorem d_M_set_23 : decode b_M_set 23 = .ok (.aload_n 0, 1) := by decide +kernel
theorem d_M_set_24 : decode b_M_set 24 = .ok (.getfield 34, 3) := by decide +kernel
theorem d_M_set_27 : decode b_M_set 27 = .ok (.ifCond .ne 24, 3) := by decide +kernel
theorem d_M_set_30 : decode b_M_set 30 = .ok (.aload_n 0, 1) := by decide +kernel
theorem d_M_set_31 : decode b_M_set 31 = .ok (.bipush 32, 2) := by decide +kernel
theorem d_M_set_33 : decode b_M_set 33 = .ok (.lload_n 2, 1) := by decide +kernel
theorem d_M_set_34 : decode b_M_set 34 = .ok (.invokevirtual 30, 3) := by decide +kernel
theorem d_M_set_37 : decode b_M_set 37 = .ok (.aload_n 0, 1) := by decide +kernel
theorem d_M_set_38 : decode b_M_set 38 = .ok (.bipush 33, 2) := by decide +kernel
theorem d_M_set_40 : decode b_M_set 40 = .ok (.lload 4, 2) := by decide +kernel
theorem d_M_set_42 : decode b_M_set 42 = .ok (.invokevirtual 30, 3) := by decide +kernel
theorem d_M_set_45 : decode b_M_set 45 = .ok (.aload_n 0, 1) := by decide +kernel
theorem d_M_set_46 : decode b_M_set 46 = .ok (.iload_n 1, 1) := by decide +kernel
theorem d_M_set_47 : decode b_M_set 47 = .ok (.invokevirtual 89, 3) := by decide +kernel
theorem d_M_set_50 : decode b_M_set 50 = .ok (.pop, 1) := by decide +kernel
theorem d_M_set_51 : decode b_M_set 51 = .ok (.return_, 1) := by decide +kernel
theorem d_M_isRegister_0 : decode b_M_isRegister 0 = .ok (.iload_n 0, 1) := by decide +kernel
theorem d_M_isRegister_1 : decode b_M_isRegister 1 = .ok (.ifCond .lt 13, 3) := by decide +kernel
theorem d_M_isRegister_4 : decode b_M_isRegister 4 = .ok (.iload_n 0, 1) := by decide +kernel
theorem d_M_isRegister_5 : decode b_M_isRegister 5 = .ok (.bipush 16, 2) := by decide +kernel
theorem d_M_isRegister_7 : decode b_M_isRegister 7 = .ok (.if_icmp .ge 7, 3) := by decide +kernel
theorem d_M_isRegister_10 : decode b_M_isRegister 10 = .ok (.iconst 1, 1) := by decide +kernel
theorem d_M_isRegister_11 : decode b_M_isRegister 11 = .ok (.goto 4, 3) := by decide +kernel
theorem d_M_isRegister_14 : decode b_M_isRegister 14 = .ok (.iconst 0, 1) := by decide +kernel
theorem d_M_isRegister_15 : decode b_M_isRegister 15 = .ok (.ireturn, 1) := by decide +kernel
theorem d_M_lay_0 : decode b_M_lay 0 = .ok (.aload_n 0, 1) := by decide +kernel
theorem d_M_lay_1 : decode b_M_lay 1 = .ok (.getfield 16, 3) := by decide +kernel
theorem d_M_lay_4 : decode b_M_lay 4 = .ok (.bipush 33, 2) := by decide +kernel
theorem d_M_lay_6 : decode b_M_lay 6 = .ok (.baload, 1) := by decide +kernel
theorem d_M_lay_7 : decode b_M_lay 7 = .ok (.ifCond .eq 43, 3) := by decide +kernel
theorem d_M_lay_10 : decode b_M_lay 10 = .ok (.aload_n 0, 1) := by decide +kernel
theorem d_M_lay_11 : decode b_M_lay 11 = .ok (.getfield 16, 3) := by decide +kernel
theorem d_M_lay_14 : decode b_M_lay 14 = .ok (.bipush 33, 2) := by decide +kernel
theorem d_M_lay_16 : decode b_M_lay 16 = .ok (.iconst 0, 1) := by decide +kernel
theorem d_M_lay_17 : decode b_M_lay 17 = .ok (.bastore, 1) := by decide +kernel
theorem d_M_lay_18 : decode b_M_lay 18 = .ok (.aload_n 0, 1) := by decide +kernel
theorem d_M_lay_19 : decode b_M_lay 19 = .ok (.getfield 16, 3) := by decide +kernel
theorem d_M_lay_22 : decode b_M_lay 22 = .ok (.bipush 32, 2) := by decide +kernel
theorem d_M_lay_24 : decode b_M_lay 24 = .ok (.aload_n 0, 1) := by decide +kernel
theorem d_M_lay_25 : decode b_M_lay 25 = .ok (.getfield 16, 3) := by decide +kernel
theorem d_M_lay_28 : decode b_M_lay 28 = .ok (.bipush 32, 2) := by decide +kernel
theorem d_M_lay_30 : decode b_M_lay 30 = .ok (.baload, 1) := by decide +kernel
theorem d_M_lay_31 : decode b_M_lay 31 = .ok (.ifCond .ne 17, 3) := by decide +kernel
theorem d_M_lay_34 : decode b_M_lay 34 = .ok (.aload_n 0, 1) := by decide +kernel
theorem d_M_lay_35 : decode b_M_lay 35 = .ok (.getfield 13, 3) := by decide +kernel
theorem d_M_lay_38 : decode b_M_lay 38 = .ok (.bipush 32, 2) := by decide +kernel
theorem d_M_lay_40 : decode b_M_lay 40 = .ok (.iaload, 1) := by decide +kernel
theorem d_M_lay_41 : decode b_M_lay 41 = .ok (.ifCond .le 7, 3) := by decide +kernel
theorem d_M_lay_44 : decode b_M_lay 44 = .ok (.iconst 1, 1) := by decide +kernel
theorem d_M_lay_45 : decode b_M_lay 45 = .ok (.goto 4, 3) := by decide +kernel
theorem d_M_lay_48 : decode b_M_lay 48 = .ok (.iconst 0, 1) := by decide +kernel
theorem d_M_lay_49 : decode b_M_lay 49 = .ok (.bastore, 1) := by decide +kernel
theorem d_M_lay_50 : decode b_M_lay 50 = .ok (.aload_n 0, 1) := by decide +kernel
theorem d_M_lay_51 : decode b_M_lay 51 = .ok (.bipush 32, 2) := by decide +kernel
theorem d_M_lay_53 : decode b_M_lay 53 = .ok (.bipush 33, 2) := by decide +kernel
theorem d_M_lay_55 : decode b_M_lay 55 = .ok (.invokevirtual 79, 3) := by decide +kernel
theorem d_M_lay_58 : decode b_M_lay 58 = .ok (.aload_n 0, 1) := by decide +kernel
theorem d_M_lay_59 : decode b_M_lay 59 = .ok (.bipush 42, 2) := by decide +kernel
theorem d_M_lay_61 : decode b_M_lay 61 = .ok (.bipush 34, 2) := by decide +kernel
theorem d_M_lay_63 : decode b_M_lay 63 = .ok (.invokevirtual 55, 3) := by decide +kernel
theorem d_M_lay_66 : decode b_M_lay 66 = .ok (.aload_n 0, 1) := by decide +kernel
theorem d_M_lay_67 : decode b_M_lay 67 = .ok (.bipush 32, 2) := by decide +kernel
theorem d_M_lay_69 : decode b_M_lay 69 = .ok (.bipush 42, 2) := by decide +kernel
theorem d_M_lay_71 : decode b_M_lay 71 = .ok (.invokevirtual 72, 3) := by decide +kernel
theorem d_M_lay_74 : decode b_M_lay 74 = .ok (.aload_n 0, 1) := by decide +kernel
theorem d_M_lay_75 : decode b_M_lay 75 = .ok (.bipush 32, 2) := by decide +kernel
theorem d_M_lay_77 : decode b_M_lay 77 = .ok (.bipush 37, 2) := by decide +kernel
theorem d_M_lay_79 : decode b_M_lay 79 = .ok (.invokevirtual 55, 3) := by decide +kernel
theorem d_M_lay_82 : decode b_M_lay 82 = .ok (.aload_n 0, 1) := by decide +kernel
theorem d_M_lay_83 : decode b_M_lay 83 = .ok (.bipush 33, 2) := by decide +kernel
theorem d_M_lay_85 : decode b_M_lay 85 = .ok (.bipush 42, 2) := by decide +kernel
theorem d_M_lay_87 : decode b_M_lay 87 = .ok (.invokevirtual 72, 3) := by decide +kernel
theorem d_M_lay_90 : decode b_M_lay 90 = .ok (.aload_n 0, 1) := by decide +kernel
theorem d_M_lay_91 : decode b_M_lay 91 = .ok (.bipush 33, 2) := by decide +kernel
theorem d_M_lay_93 : decode b_M_lay 93 = .ok (.bipush 37, 2) := by decide +kernel
theorem d_M_lay_95 : decode b_M_lay 95 = .ok (.invokevirtual 55, 3) := by decide +kernel
theorem d_M_lay_98 : decode b_M_lay 98 = .ok (.aload_n 0, 1) := by decide +kernel
theorem d_M_lay_99 : decode b_M_lay 99 = .ok (.getfield 13, 3) := by decide +kernel
theorem d_M_lay_102 : decode b_M_lay 102 = .ok (.bipush 32, 2) := by decide +kernel
theorem d_M_lay_104 : decode b_M_lay 104 = .ok (.iaload, 1) := by decide +kernel
theorem d_M_lay_105 : decode b_M_lay 105 = .ok (.sipush 128, 3) := by decide +kernel
theorem d_M_lay_108 : decode b_M_lay 108 = .ok (.if_icmp .gt 16, 3) := by decide +kernel
theorem d_M_lay_111 : decode b_M_lay 111 = .ok (.aload_n 0, 1) := by decide +kernel
theorem d_M_lay_112 : decode b_M_lay 112 = .ok (.getfield 13, 3) := by decide +kernel
theorem d_M_lay_115 : decode b_M_lay 115 = .ok (.bipush 33, 2) := by decide +kernel
theorem d_M_lay_117 : decode b_M_lay 117 = .ok (.iaload, 1) := by decide +kernel
theorem d_M_lay_118 : decode b_M_lay 118 = .ok (.sipush 128, 3) := by decide +kernel
theorem d_M_lay_121 : decode b_M_lay 121 = .ok (.if_icmp .le 5, 3) := by decide +kernel
theorem d_M_lay_124 : decode b_M_lay 124 = .ok (.iconst (-1), 1) := by decide +kernel
theorem d_M_lay_125 : decode b_M_lay 125 = .ok (.ireturn, 1) := by decide +kernel
theorem d_M_lay_126 : decode b_M_lay 126 = .ok (.aload_n 0, 1) := by decide +kernel
theorem d_M_lay_127 : decode b_M_lay 127 = .ok (.iload_n 1, 1) := by decide +kernel
theorem d_M_lay_128 : decode b_M_lay 128 = .ok (.bipush 32, 2) := by decide +kernel
theorem d_M_lay_130 : decode b_M_lay 130 = .ok (.invokevirtual 55, 3) := by decide +kernel
theorem d_M_lay_133 : decode b_M_lay 133 = .ok (.aload_n 0, 1) := by decide +kernel
theorem d_M_lay_134 : decode b_M_lay 134 = .ok (.iload_n 1, 1) := by decide +kernel
theorem d_M_lay_135 : decode b_M_lay 135 = .ok (.invokestatic 82, 3) := by decide +kernel
theorem d_M_lay_138 : decode b_M_lay 138 = .ok (.bipush 33, 2) := by decide +kernel
theorem d_M_lay_140 : decode b_M_lay 140 = .ok (.invokevirtual 55, 3) := by decide +kernel
theorem d_M_lay_143 : decode b_M_lay 143 = .ok (.iconst 0, 1) := by decide +kernel
theorem d_M_lay_144 : decode b_M_lay 144 = .ok (.ireturn, 1) := by decide +kernel
theorem d_M_common_0 : decode b_M_common 0 = .ok (.aload_n 0, 1) := by decide +kernel
theorem d_M_common_1 : decode b_M_common 1 = .ok (.bipush 34, 2) := by decide +kernel
theorem d_M_common_3 : decode b_M_common 3 = .ok (.iload_n 1, 1) := by decide +kernel
theorem d_M_common_4 : decode b_M_common 4 = .ok (.invokevirtual 55, 3) := by decide +kernel
theorem d_M_common_7 : decode b_M_common 7 = .ok (.aload_n 0, 1) := by decide +kernel
theorem d_M_common_8 : decode b_M_common 8 = .ok (.bipush 35, 2) := by decide +kernel
theorem d_M_common_10 : decode b_M_common 10 = .ok (.iload_n 2, 1) := by decide +kernel
theorem d_M_common_11 : decode b_M_common 11 = .ok (.invokevirtual 55, 3) := by decide +kernel
theorem d_M_common_14 : decode b_M_common 14 = .ok (.aload_n 0, 1) := by decide +kernel
theorem d_M_common_15 : decode b_M_common 15 = .ok (.getfield 13, 3) := by decide +kernel
theorem d_M_common_18 : decode b_M_common 18 = .ok (.bipush 35, 2) := by decide +kernel
theorem d_M_common_20 : decode b_M_common 20 = .ok (.iaload, 1) := by decide +kernel
theorem d_M_common_21 : decode b_M_common 21 = .ok (.ifCond .le 30, 3) := by decide +kernel
theorem d_M_common_24 : decode b_M_common 24 = .ok (.aload_n 0, 1) := by decide +kernel
theorem d_M_common_25 : decode b_M_common 25 = .ok (.bipush 34, 2) := by decide +kernel
theorem d_M_common_27 : decode b_M_common 27 = .ok (.bipush 35, 2) := by decide +kernel
theorem d_M_common_29 : decode b_M_common 29 = .ok (.invokevirtual 72, 3) := by decide +kernel
theorem d_M_common_32 : decode b_M_common 32 = .ok (.aload_n 0, 1) := by decide +kernel
theorem d_M_common_33 : decode b_M_common 33 = .ok (.bipush 34, 2) := by decide +kernel
theorem d_M_common_35 : decode b_M_common 35 = .ok (.bipush 35, 2) := by decide +kernel
theorem d_M_common_37 : decode b_M_common 37 = .ok (.invokevirtual 55, 3) := by decide +kernel
theorem d_M_common_40 : decode b_M_common 40 = .ok (.aload_n 0, 1) := by decide +kernel
theorem d_M_common_41 : decode b_M_common 41 = .ok (.bipush 35, 2) := by decide +kernel
theorem d_M_common_43 : decode b_M_common 43 = .ok (.bipush 36, 2) := by decide +kernel
theorem d_M_common_45 : decode b_M_common 45 = .ok (.invokevirtual 55, 3) := by decide +kernel
theorem d_M_common_48 : decode b_M_common 48 = .ok (.goto (-34), 3) := by decide +kernel
theorem d_M_common_51 : decode b_M_common 51 = .ok (.aload_n 0, 1) := by decide +kernel
theorem d_M_common_52 : decode b_M_common 52 = .ok (.getfield 16, 3) := by decide +kernel
theorem d_M_common_55 : decode b_M_common 55 = .ok (.bipush 34, 2) := by decide +kernel
theorem d_M_common_57 : decode b_M_common 57 = .ok (.iconst 0, 1) := by decide +kernel
theorem d_M_common_58 : decode b_M_common 58 = .ok (.bastore, 1) := by decide +kernel
theorem d_M_common_59 : decode b_M_common 59 = .ok (.return_, 1) := by decide +kernel
theorem d_M_copy_0 : decode b_M_copy 0 = .ok (.iconst 0, 1) := by decide +kernel
theorem d_M_copy_1 : decode b_M_copy 1 = .ok (.istore_n 3, 1) := by decide +kernel
theorem d_M_copy_2 : decode b_M_copy 2 = .ok (.iload_n 3, 1) := by decide +kernel
theorem d_M_copy_3 : decode b_M_copy 3 = .ok (.aload_n 0, 1) := by decide +kernel
theorem d_M_copy_4 : decode b_M_copy 4 = .ok (.getfield 13, 3) := by decide +kernel
theorem d_M_copy_7 : decode b_M_copy 7 = .ok (.iload_n 2, 1) := by decide +kernel
theorem d_M_copy_8 : decode b_M_copy 8 = .ok (.iaload, 1) := by decide +kernel
theorem d_M_copy_9 : decode b_M_copy 9 = .ok (.if_icmp .ge 33, 3) := by decide +kernel
theorem d_M_copy_12 : decode b_M_copy 12 = .ok (.aload_n 0, 1) := by decide +kernel
theorem d_M_copy_13 : decode b_M_copy 13 = .ok (.getfield 7, 3) := by decide +kernel
theorem d_M_copy_16 : decode b_M_copy 16 = .ok (.sipush 300, 3) := by decide +kernel
theorem d_M_copy_19 : decode b_M_copy 19 = .ok (.iload_n 1, 1) := by decide +kernel
theorem d_M_copy_20 : decode b_M_copy 20 = .ok (.imul, 1) := by decide +kernel
theorem d_M_copy_21 : decode b_M_copy 21 = .ok (.iload_n 3, 1) := by decide +kernel
theorem d_M_copy_22 : decode b_M_copy 22 = .ok (.iadd, 1) := by decide +kernel
theorem d_M_copy_23 : decode b_M_copy 23 = .ok (.aload_n 0, 1) := by decide +kernel
theorem d_M_copy_24 : decode b_M_copy 24 = .ok (.getfield 7, 3) := by decide +kernel
theorem d_M_copy_27 : decode b_M_copy 27 = .ok (.sipush 300, 3) := by decide +kernel
theorem d_M_copy_30 : decode b_M_copy 30 = .ok (.iload_n 2, 1) := by decide +kernel
theorem d_M_copy_31 : decode b_M_copy 31 = .ok (.imul, 1) := by decide +kernel
theorem d_M_copy_32 : decode b_M_copy 32 = .ok (.iload_n 3, 1) := by decide +kernel
theorem d_M_copy_33 : decode b_M_copy 33 = .ok (.iadd, 1) := by decide +kernel
theorem d_M_copy_34 : decode b_M_copy 34 = .ok (.iaload, 1) := by decide +kernel
theorem d_M_copy_35 : decode b_M_copy 35 = .ok (.iastore, 1) := by decide +kernel
theorem d_M_copy_36 : decode b_M_copy 36 = .ok (.iinc 3 1, 3) := by decide +kernel
theorem d_M_copy_39 : decode b_M_copy 39 = .ok (.goto (-37), 3) := by decide +kernel
theorem d_M_copy_42 : decode b_M_copy 42 = .ok (.aload_n 0, 1) := by decide +kernel
theorem d_M_copy_43 : decode b_M_copy 43 = .ok (.getfield 13, 3) := by decide +kernel
theorem d_M_copy_46 : decode b_M_copy 46 = .ok (.iload_n 1, 1) := by decide +kernel
theorem d_M_copy_47 : decode b_M_copy 47 = .ok (.aload_n 0, 1) := by decide +kernel
theorem d_M_copy_48 : decode b_M_copy 48 = .ok (.getfield 13, 3) := by decide +kernel
theorem d_M_copy_51 : decode b_M_copy 51 = .ok (.iload_n 2, 1) := by decide +kernel
theorem d_M_copy_52 : decode b_M_copy 52 = .ok (.iaload, 1) := by decide +kernel
theorem d_M_copy_53 : decode b_M_copy 53 = .ok (.iastore, 1) := by decide +kernel
theorem d_M_copy_54 : decode b_M_copy 54 = .ok (.aload_n 0, 1) := by decide +kernel
theorem d_M_copy_55 : decode b_M_copy 55 = .ok (.getfield 16, 3) := by decide +kernel
theorem d_M_copy_58 : decode b_M_copy 58 = .ok (.iload_n 1, 1) := by decide +kernel
theorem d_M_copy_59 : decode b_M_copy 59 = .ok (.aload_n 0, 1) := by decide +kernel
theorem d_M_copy_60 : decode b_M_copy 60 = .ok (.getfield 16, 3) := by decide +kernel
theorem d_M_copy_63 : decode b_M_copy 63 = .ok (.iload_n 2, 1) := by decide +kernel
theorem d_M_copy_64 : decode b_M_copy 64 = .ok (.baload, 1) := by decide +kernel
theorem d_M_copy_65 : decode b_M_copy 65 = .ok (.bastore, 1) := by decide +kernel
theorem d_M_copy_66 : decode b_M_copy 66 = .ok (.return_, 1) := by decide +kernel
theorem d_M_divide_0 : decode b_M_divide 0 = .ok (.aload_n 0, 1) := by decide +kernel
theorem d_M_divide_1 : decode b_M_divide 1 = .ok (.getfield 16, 3) := by decide +kernel
theorem d_M_divide_4 : decode b_M_divide 4 = .ok (.iload_n 1, 1) := by decide +kernel
theorem d_M_divide_5 : decode b_M_divide 5 = .ok (.baload, 1) := by decide +kernel
theorem d_M_divide_6 : decode b_M_divide 6 = .ok (.istore_n 3, 1) := by decide +kernel
theorem d_M_divide_7 : decode b_M_divide 7 = .ok (.aload_n 0, 1) := by decide +kernel
theorem d_M_divide_8 : decode b_M_divide 8 = .ok (.getfield 16, 3) := by decide +kernel
theorem d_M_divide_11 : decode b_M_divide 11 = .ok (.iload_n 1, 1) := by decide +kernel
theorem d_M_divide_12 : decode b_M_divide 12 = .ok (.baload, 1) := by decide +kernel
theorem d_M_divide_13 : decode b_M_divide 13 = .ok (.aload_n 0, 1) := by decide +kernel
theorem d_M_divide_14 : decode b_M_divide 14 = .ok (.getfield 16, 3) := by decide +kernel
theorem d_M_divide_17 : decode b_M_divide 17 = .ok (.iload_n 2, 1) := by decide +kernel
theorem d_M_divide_18 : decode b_M_divide 18 = .ok (.baload, 1) := by decide +kernel
theorem d_M_divide_19 : decode b_M_divide 19 = .ok (.if_icmp .eq 7, 3) := by decide +kernel
theorem d_M_divide_22 : decode b_M_divide 22 = .ok (.iconst 1, 1) := by decide +kernel
theorem d_M_divide_23 : decode b_M_divide 23 = .ok (.goto 4, 3) := by decide +kernel
theorem d_M_divide_26 : decode b_M_divide 26 = .ok (.iconst 0, 1) := by decide +kernel
theorem d_M_divide_27 : decode b_M_divide 27 = .ok (.istore 4, 2) := by decide +kernel
theorem d_M_divide_29 : decode b_M_divide 29 = .ok (.aload_n 0, 1) := by decide +kernel
theorem d_M_divide_30 : decode b_M_divide 30 = .ok (.iload_n 1, 1) := by decide +kernel
theorem d_M_divide_31 : decode b_M_divide 31 = .ok (.iload_n 2, 1) := by decide +kernel
theorem d_M_divide_32 : decode b_M_divide 32 = .ok (.invokevirtual 48, 3) := by decide +kernel
theorem d_M_divide_35 : decode b_M_divide 35 = .ok (.ifCond .ge 27, 3) := by decide +kernel
theorem d_M_divide_38 : decode b_M_divide 38 = .ok (.aload_n 0, 1) := by decide +kernel
theorem d_M_divide_39 : decode b_M_divide 39 = .ok (.bipush 36, 2) := by decide +kernel
theorem d_M_divide_41 : decode b_M_divide 41 = .ok (.iload_n 1, 1) := by decide +kernel
theorem d_M_divide_42 : decode b_M_divide 42 = .ok (.invokevirtual 55, 3) := by decide +kernel
theorem d_M_divide_45 : decode b_M_divide 45 = .ok (.aload_n 0, 1) := by decide +kernel
theorem d_M_divide_46 : decode b_M_divide 46 = .ok (.getfield 13, 3) := by decide +kernel
theorem d_M_divide_49 : decode b_M_divide 49 = .ok (.bipush 37, 2) := by decide +kernel
theorem d_M_divide_51 : decode b_M_divide 51 = .ok (.iconst 0, 1) := by decide +kernel
theorem d_M_divide_52 : decode b_M_divide 52 = .ok (.iastore, 1) := by decide +kernel
theorem d_M_divide_53 : decode b_M_divide 53 = .ok (.aload_n 0, 1) := by decide +kernel
theorem d_M_divide_54 : decode b_M_divide 54 = .ok (.getfield 16, 3) := by decide +kernel
theorem d_M_divide_57 : decode b_M_divide 57 = .ok (.bipush 37, 2) := by decide +kernel
theorem d_M_divide_59 : decode b_M_divide 59 = .ok (.iconst 0, 1) := by decide +kernel
theorem d_M_divide_60 : decode b_M_divide 60 = .ok (.bastore, 1) := by decide +kernel
theorem d_M_divide_61 : decode b_M_divide 61 = .ok (.return_, 1) := by decide +kernel
theorem d_M_divide_62 : decode b_M_divide 62 = .ok (.ldc 43, 2) := by decide +kernel
theorem d_M_divide_64 : decode b_M_divide 64 = .ok (.aload_n 0, 1) := by decide +kernel
theorem d_M_divide_65 : decode b_M_divide 65 = .ok (.getfield 7, 3) := by decide +kernel
theorem d_M_divide_68 : decode b_M_divide 68 = .ok (.sipush 300, 3) := by decide +kernel
theorem d_M_divide_71 : decode b_M_divide 71 = .ok (.iload_n 2, 1) := by decide +kernel
theorem d_M_divide_72 : decode b_M_divide 72 = .ok (.imul, 1) := by decide +kernel
theorem d_M_divide_73 : decode b_M_divide 73 = .ok (.aload_n 0, 1) := by decide +kernel
theorem d_M_divide_74 : decode b_M_divide 74 = .ok (.getfield 13, 3) := by decide +kernel
theorem d_M_divide_77 : decode b_M_divide 77 = .ok (.iload_n 2, 1) := by decide +kernel
theorem d_M_divide_78 : decode b_M_divide 78 = .ok (.iaload, 1) := by decide +kernel
theorem d_M_divide_79 : decode b_M_divide 79 = .ok (.iadd, 1) := by decide +kernel
theorem d_M_divide_80 : decode b_M_divide 80 = .ok (.iconst 1, 1) := by decide +kernel
theorem d_M_divide_81 : decode b_M_divide 81 = .ok (.isub, 1) := by decide +kernel
theorem d_M_divide_82 : decode b_M_divide 82 = .ok (.iaload, 1) := by decide +kernel
theorem d_M_divide_83 : decode b_M_divide 83 = .ok (.iconst 1, 1) := by decide +kernel
theorem d_M_divide_84 : decode b_M_divide 84 = .ok (.iadd, 1) := by decide +kernel
theorem d_M_divide_85 : decode b_M_divide 85 = .ok (.idiv, 1) := by decide +kernel
theorem d_M_divide_86 : decode b_M_divide 86 = .ok (.istore 5, 2) := by decide +kernel
theorem d_M_divide_88 : decode b_M_divide 88 = .ok (.aload_n 0, 1) := by decide +kernel
theorem d_M_divide_89 : decode b_M_divide 89 = .ok (.getfield 13, 3) := by decide +kernel
theorem d_M_divide_92 : decode b_M_divide 92 = .ok (.iload_n 1, 1) := by decide +kernel
theorem d_M_divide_93 : decode b_M_divide 93 = .ok (.iaload, 1) := by decide +kernel
theorem d_M_divide_94 : decode b_M_divide 94 = .ok (.istore 6, 2) := by decide +kernel
theorem d_M_divide_96 : decode b_M_divide 96 = .ok (.aload_n 0, 1) := by decide +kernel
theorem d_M_divide_97 : decode b_M_divide 97 = .ok (.bipush 36, 2) := by decide +kernel
theorem d_M_divide_99 : decode b_M_divide 99 = .ok (.iload_n 1, 1) := by decide +kernel
theorem d_M_divide_100 : decode b_M_divide 100 = .ok (.iload 5, 2) := by decide +kernel
theorem d_M_divide_102 : decode b_M_divide 102 = .ok (.invokevirtual 59, 3) := by decide +kernel
theorem d_M_divide_105 : decode b_M_divide 105 = .ok (.aload_n 0, 1) := by decide +kernel
theorem d_M_divide_106 : decode b_M_divide 106 = .ok (.bipush 38, 2) := by decide +kernel
theorem d_M_divide_108 : decode b_M_divide 108 = .ok (.iload_n 2, 1) := by decide +kernel
theorem d_M_divide_109 : decode b_M_divide 109 = .ok (.iload 5, 2) := by decide +kernel
end
section
/-! the instructions, by program -/
theorem d_M_divide_111 : decode b_M_divide 111 = .ok (.invokevirtual 59, 3) := by decide +kernel
theorem d_M_divide_114 : decode b_M_divide 114 = .ok (.aload_n 0, 1) := by decide +kernel
theorem d_M_divide_115 : decode b_M_divide 115 = .ok (.getfield 13, 3) := by decide +kernel
theorem d_M_divide_118 : decode b_M_divide 118 = .ok (.bipush 38, 2) := by decide +kernel
theorem d_M_divide_120 : decode b_M_divide 120 = .ok (.iaload, 1) := by decide +kernel
theorem d_M_divide_121 : decode b_M_divide 121 = .ok (.istore 7, 2) := by decide +kernel
theorem d_M_divide_123 : decode b_M_divide 123 = .ok (.aload_n 0, 1) := by decide +kernel
theorem d_M_divide_124 : decode b_M_divide 124 = .ok (.getfield 13, 3) := by decide +kernel
theorem d_M_divide_127 : decode b_M_divide 127 = .ok (.bipush 36, 2) := by decide +kernel
theorem d_M_divide_129 : decode b_M_divide 129 = .ok (.iaload, 1) := by decide +kernel
theorem d_M_divide_130 : decode b_M_divide 130 = .ok (.istore 8, 2) := by decide +kernel
theorem d_M_divide_132 : decode b_M_divide 132 = .ok (.iload 8, 2) := by decide +kernel
theorem d_M_divide_134 : decode b_M_divide 134 = .ok (.iload 6, 2) := by decide +kernel
theorem d_M_divide_136 : decode b_M_divide 136 = .ok (.iconst 1, 1) := by decide +kernel
theorem d_M_divide_137 : decode b_M_divide 137 = .ok (.iadd, 1) := by decide +kernel
theorem d_M_divide_138 : decode b_M_divide 138 = .ok (.if_icmp .gt 21, 3) := by decide +kernel
theorem d_M_divide_141 : decode b_M_divide 141 = .ok (.aload_n 0, 1) := by decide +kernel
theorem d_M_divide_142 : decode b_M_divide 142 = .ok (.getfield 7, 3) := by decide +kernel
theorem d_M_divide_145 : decode b_M_divide 145 = .ok (.sipush 10800, 3) := by decide +kernel
theorem d_M_divide_148 : decode b_M_divide 148 = .ok (.iload 8, 2) := by decide +kernel
theorem d_M_divide_150 : decode b_M_divide 150 = .ok (.iadd, 1) := by decide +kernel
theorem d_M_divide_151 : decode b_M_divide 151 = .ok (.iconst 0, 1) := by decide +kernel
theorem d_M_divide_152 : decode b_M_divide 152 = .ok (.iastore, 1) := by decide +kernel
theorem d_M_divide_153 : decode b_M_divide 153 = .ok (.iinc 8 1, 3) := by decide +kernel
theorem d_M_divide_156 : decode b_M_divide 156 = .ok (.goto (-24), 3) := by decide +kernel
theorem d_M_divide_159 : decode b_M_divide 159 = .ok (.iload 6, 2) := by decide +kernel
theorem d_M_divide_161 : decode b_M_divide 161 = .ok (.iconst 1, 1) := by decide +kernel
theorem d_M_divide_162 : decode b_M_divide 162 = .ok (.iadd, 1) := by decide +kernel
theorem d_M_divide_163 : decode b_M_divide 163 = .ok (.iload 7, 2) := by decide +kernel
theorem d_M_divide_165 : decode b_M_divide 165 = .ok (.isub, 1) := by decide +kernel
theorem d_M_divide_166 : decode b_M_divide 166 = .ok (.istore 8, 2) := by decide +kernel
theorem d_M_divide_168 : decode b_M_divide 168 = .ok (.aload_n 0, 1) := by decide +kernel
theorem d_M_divide_169 : decode b_M_divide 169 = .ok (.getfield 7, 3) := by decide +kernel
theorem d_M_divide_172 : decode b_M_divide 172 = .ok (.sipush 11400, 3) := by decide +kernel
theorem d_M_divide_175 : decode b_M_divide 175 = .ok (.iload 7, 2) := by decide +kernel
theorem d_M_divide_177 : decode b_M_divide 177 = .ok (.iadd, 1) := by decide +kernel
theorem d_M_divide_178 : decode b_M_divide 178 = .ok (.iconst 1, 1) := by decide +kernel
theorem d_M_divide_179 : decode b_M_divide 179 = .ok (.isub, 1) := by decide +kernel
theorem d_M_divide_180 : decode b_M_divide 180 = .ok (.iaload, 1) := by decide +kernel
theorem d_M_divide_181 : decode b_M_divide 181 = .ok (.i2l, 1) := by decide +kernel
theorem d_M_divide_182 : decode b_M_divide 182 = .ok (.lstore 9, 2) := by decide +kernel
theorem d_M_divide_184 : decode b_M_divide 184 = .ok (.iload 8, 2) := by decide +kernel
theorem d_M_divide_186 : decode b_M_divide 186 = .ok (.istore 11, 2) := by decide +kernel
theorem d_M_divide_188 : decode b_M_divide 188 = .ok (.iload 11, 2) := by decide +kernel
theorem d_M_divide_190 : decode b_M_divide 190 = .ok (.ifCond .lt 116, 3) := by decide +kernel
theorem d_M_divide_193 : decode b_M_divide 193 = .ok (.sipush 10800, 3) := by decide +kernel
theorem d_M_divide_196 : decode b_M_divide 196 = .ok (.iload 11, 2) := by decide +kernel
theorem d_M_divide_198 : decode b_M_divide 198 = .ok (.iadd, 1) := by decide +kernel
theorem d_M_divide_199 : decode b_M_divide 199 = .ok (.iload 7, 2) := by decide +kernel
theorem d_M_divide_201 : decode b_M_divide 201 = .ok (.iadd, 1) := by decide +kernel
theorem d_M_divide_202 : decode b_M_divide 202 = .ok (.istore 12, 2) := by decide +kernel
theorem d_M_divide_204 : decode b_M_divide 204 = .ok (.aload_n 0, 1) := by decide +kernel
theorem d_M_divide_205 : decode b_M_divide 205 = .ok (.getfield 7, 3) := by decide +kernel
theorem d_M_divide_208 : decode b_M_divide 208 = .ok (.iload 12, 2) := by decide +kernel
theorem d_M_divide_210 : decode b_M_divide 210 = .ok (.iaload, 1) := by decide +kernel
theorem d_M_divide_211 : decode b_M_divide 211 = .ok (.i2l, 1) := by decide +kernel
theorem d_M_divide_212 : decode b_M_divide 212 = .ok (.ldc2_w 37, 3) := by decide +kernel
theorem d_M_divide_215 : decode b_M_divide 215 = .ok (.lmul, 1) := by decide +kernel
theorem d_M_divide_216 : decode b_M_divide 216 = .ok (.aload_n 0, 1) := by decide +kernel
theorem d_M_divide_217 : decode b_M_divide 217 = .ok (.getfield 7, 3) := by decide +kernel
theorem d_M_divide_220 : decode b_M_divide 220 = .ok (.iload 12, 2) := by decide +kernel
theorem d_M_divide_222 : decode b_M_divide 222 = .ok (.iconst 1, 1) := by decide +kernel
theorem d_M_divide_223 : decode b_M_divide 223 = .ok (.isub, 1) := by decide +kernel
theorem d_M_divide_224 : decode b_M_divide 224 = .ok (.iaload, 1) := by decide +kernel
theorem d_M_divide_225 : decode b_M_divide 225 = .ok (.i2l, 1) := by decide +kernel
theorem d_M_divide_226 : decode b_M_divide 226 = .ok (.ladd, 1) := by decide +kernel
theorem d_M_divide_227 : decode b_M_divide 227 = .ok (.lload 9, 2) := by decide +kernel
theorem d_M_divide_229 : decode b_M_divide 229 = .ok (.ldiv, 1) := by decide +kernel
theorem d_M_divide_230 : decode b_M_divide 230 = .ok (.lstore 13, 2) := by decide +kernel
theorem d_M_divide_232 : decode b_M_divide 232 = .ok (.lload 13, 2) := by decide +kernel
theorem d_M_divide_234 : decode b_M_divide 234 = .ok (.ldc2_w 37, 3) := by decide +kernel
theorem d_M_divide_237 : decode b_M_divide 237 = .ok (.lcmp, 1) := by decide +kernel
theorem d_M_divide_238 : decode b_M_divide 238 = .ok (.ifCond .lt 9, 3) := by decide +kernel
theorem d_M_divide_241 : decode b_M_divide 241 = .ok (.ldc2_w 62, 3) := by decide +kernel
theorem d_M_divide_244 : decode b_M_divide 244 = .ok (.goto 5, 3) := by decide +kernel
theorem d_M_divide_247 : decode b_M_divide 247 = .ok (.lload 13, 2) := by decide +kernel
theorem d_M_divide_249 : decode b_M_divide 249 = .ok (.lstore 13, 2) := by decide +kernel
theorem d_M_divide_251 : decode b_M_divide 251 = .ok (.aload_n 0, 1) := by decide +kernel
theorem d_M_divide_252 : decode b_M_divide 252 = .ok (.iload 11, 2) := by decide +kernel
theorem d_M_divide_254 : decode b_M_divide 254 = .ok (.lload 13, 2) := by decide +kernel
theorem d_M_divide_256 : decode b_M_divide 256 = .ok (.invokevirtual 64, 3) := by decide +kernel
theorem d_M_divide_259 : decode b_M_divide 259 = .ok (.ifCond .eq 27, 3) := by decide +kernel
theorem d_M_divide_262 : decode b_M_divide 262 = .ok (.lload 13, 2) := by decide +kernel
theorem d_M_divide_264 : decode b_M_divide 264 = .ok (.lconst 1, 1) := by decide +kernel
theorem d_M_divide_265 : decode b_M_divide 265 = .ok (.lsub, 1) := by decide +kernel
theorem d_M_divide_266 : decode b_M_divide 266 = .ok (.lstore 13, 2) := by decide +kernel
theorem d_M_divide_268 : decode b_M_divide 268 = .ok (.aload_n 0, 1) := by decide +kernel
theorem d_M_divide_269 : decode b_M_divide 269 = .ok (.iload 11, 2) := by decide +kernel
theorem d_M_divide_271 : decode b_M_divide 271 = .ok (.invokevirtual 68, 3) := by decide +kernel
theorem d_M_divide_274 : decode b_M_divide 274 = .ok (.ifCond .ne 12, 3) := by decide +kernel
theorem d_M_divide_277 : decode b_M_divide 277 = .ok (.lload 13, 2) := by decide +kernel
theorem d_M_divide_279 : decode b_M_divide 279 = .ok (.lconst 1, 1) := by decide +kernel
theorem d_M_divide_280 : decode b_M_divide 280 = .ok (.lsub, 1) := by decide +kernel
theorem d_M_divide_281 : decode b_M_divide 281 = .ok (.lstore 13, 2) := by decide +kernel
theorem d_M_divide_283 : decode b_M_divide 283 = .ok (.goto (-15), 3) := by decide +kernel
theorem d_M_divide_286 : decode b_M_divide 286 = .ok (.aload_n 0, 1) := by decide +kernel
theorem d_M_divide_287 : decode b_M_divide 287 = .ok (.getfield 7, 3) := by decide +kernel
theorem d_M_divide_290 : decode b_M_divide 290 = .ok (.sipush 11100, 3) := by decide +kernel
theorem d_M_divide_293 : decode b_M_divide 293 = .ok (.iload 11, 2) := by decide +kernel
theorem d_M_divide_295 : decode b_M_divide 295 = .ok (.iadd, 1) := by decide +kernel
theorem d_M_divide_296 : decode b_M_divide 296 = .ok (.lload 13, 2) := by decide +kernel
theorem d_M_divide_298 : decode b_M_divide 298 = .ok (.l2i, 1) := by decide +kernel
theorem d_M_divide_299 : decode b_M_divide 299 = .ok (.iastore, 1) := by decide +kernel
theorem d_M_divide_300 : decode b_M_divide 300 = .ok (.iinc 11 (-1), 3) := by decide +kernel
theorem d_M_divide_303 : decode b_M_divide 303 = .ok (.goto (-115), 3) := by decide +kernel
theorem d_M_divide_306 : decode b_M_divide 306 = .ok (.aload_n 0, 1) := by decide +kernel
theorem d_M_divide_307 : decode b_M_divide 307 = .ok (.getfield 13, 3) := by decide +kernel
theorem d_M_divide_310 : decode b_M_divide 310 = .ok (.bipush 37, 2) := by decide +kernel
theorem d_M_divide_312 : decode b_M_divide 312 = .ok (.iload 8, 2) := by decide +kernel
theorem d_M_divide_314 : decode b_M_divide 314 = .ok (.iconst 1, 1) := by decide +kernel
theorem d_M_divide_315 : decode b_M_divide 315 = .ok (.iadd, 1) := by decide +kernel
theorem d_M_divide_316 : decode b_M_divide 316 = .ok (.iastore, 1) := by decide +kernel
theorem d_M_divide_317 : decode b_M_divide 317 = .ok (.aload_n 0, 1) := by decide +kernel
theorem d_M_divide_318 : decode b_M_divide 318 = .ok (.getfield 16, 3) := by decide +kernel
theorem d_M_divide_321 : decode b_M_divide 321 = .ok (.bipush 37, 2) := by decide +kernel
theorem d_M_divide_323 : decode b_M_divide 323 = .ok (.iload 4, 2) := by decide +kernel
theorem d_M_divide_325 : decode b_M_divide 325 = .ok (.bastore, 1) := by decide +kernel
theorem d_M_divide_326 : decode b_M_divide 326 = .ok (.aload_n 0, 1) := by decide +kernel
theorem d_M_divide_327 : decode b_M_divide 327 = .ok (.bipush 37, 2) := by decide +kernel
theorem d_M_divide_329 : decode b_M_divide 329 = .ok (.invokevirtual 39, 3) := by decide +kernel
theorem d_M_divide_332 : decode b_M_divide 332 = .ok (.iconst 0, 1) := by decide +kernel
theorem d_M_divide_333 : decode b_M_divide 333 = .ok (.istore 11, 2) := by decide +kernel
theorem d_M_divide_335 : decode b_M_divide 335 = .ok (.iload 7, 2) := by decide +kernel
theorem d_M_divide_337 : decode b_M_divide 337 = .ok (.iconst 1, 1) := by decide +kernel
theorem d_M_divide_338 : decode b_M_divide 338 = .ok (.isub, 1) := by decide +kernel
theorem d_M_divide_339 : decode b_M_divide 339 = .ok (.istore 12, 2) := by decide +kernel
theorem d_M_divide_341 : decode b_M_divide 341 = .ok (.iload 12, 2) := by decide +kernel
theorem d_M_divide_343 : decode b_M_divide 343 = .ok (.ifCond .lt 58, 3) := by decide +kernel
theorem d_M_divide_346 : decode b_M_divide 346 = .ok (.iload 11, 2) := by decide +kernel
theorem d_M_divide_348 : decode b_M_divide 348 = .ok (.i2l, 1) := by decide +kernel
theorem d_M_divide_349 : decode b_M_divide 349 = .ok (.ldc2_w 37, 3) := by decide +kernel
theorem d_M_divide_352 : decode b_M_divide 352 = .ok (.lmul, 1) := by decide +kernel
theorem d_M_divide_353 : decode b_M_divide 353 = .ok (.aload_n 0, 1) := by decide +kernel
theorem d_M_divide_354 : decode b_M_divide 354 = .ok (.getfield 7, 3) := by decide +kernel
theorem d_M_divide_357 : decode b_M_divide 357 = .ok (.sipush 10800, 3) := by decide +kernel
theorem d_M_divide_360 : decode b_M_divide 360 = .ok (.iload 12, 2) := by decide +kernel
theorem d_M_divide_362 : decode b_M_divide 362 = .ok (.iadd, 1) := by decide +kernel
theorem d_M_divide_363 : decode b_M_divide 363 = .ok (.iaload, 1) := by decide +kernel
theorem d_M_divide_364 : decode b_M_divide 364 = .ok (.i2l, 1) := by decide +kernel
theorem d_M_divide_365 : decode b_M_divide 365 = .ok (.ladd, 1) := by decide +kernel
theorem d_M_divide_366 : decode b_M_divide 366 = .ok (.lstore 13, 2) := by decide +kernel
theorem d_M_divide_368 : decode b_M_divide 368 = .ok (.aload_n 0, 1) := by decide +kernel
theorem d_M_divide_369 : decode b_M_divide 369 = .ok (.getfield 7, 3) := by decide +kernel
theorem d_M_divide_372 : decode b_M_divide 372 = .ok (.sipush 10800, 3) := by decide +kernel
theorem d_M_divide_375 : decode b_M_divide 375 = .ok (.iload 12, 2) := by decide +kernel
theorem d_M_divide_377 : decode b_M_divide 377 = .ok (.iadd, 1) := by decide +kernel
theorem d_M_divide_378 : decode b_M_divide 378 = .ok (.lload 13, 2) := by decide +kernel
theorem d_M_divide_380 : decode b_M_divide 380 = .ok (.iload 5, 2) := by decide +kernel
theorem d_M_divide_382 : decode b_M_divide 382 = .ok (.i2l, 1) := by decide +kernel
theorem d_M_divide_383 : decode b_M_divide 383 = .ok (.ldiv, 1) := by decide +kernel
theorem d_M_divide_384 : decode b_M_divide 384 = .ok (.l2i, 1) := by decide +kernel
theorem d_M_divide_385 : decode b_M_divide 385 = .ok (.iastore, 1) := by decide +kernel
theorem d_M_divide_386 : decode b_M_divide 386 = .ok (.lload 13, 2) := by decide +kernel
theorem d_M_divide_388 : decode b_M_divide 388 = .ok (.iload 5, 2) := by decide +kernel
theorem d_M_divide_390 : decode b_M_divide 390 = .ok (.i2l, 1) := by decide +kernel
theorem d_M_divide_391 : decode b_M_divide 391 = .ok (.lrem, 1) := by decide +kernel
theorem d_M_divide_392 : decode b_M_divide 392 = .ok (.l2i, 1) := by decide +kernel
theorem d_M_divide_393 : decode b_M_divide 393 = .ok (.istore 11, 2) := by decide +kernel
theorem d_M_divide_395 : decode b_M_divide 395 = .ok (.iinc 12 (-1), 3) := by decide +kernel
theorem d_M_divide_398 : decode b_M_divide 398 = .ok (.goto (-57), 3) := by decide +kernel
theorem d_M_divide_401 : decode b_M_divide 401 = .ok (.aload_n 0, 1) := by decide +kernel
theorem d_M_divide_402 : decode b_M_divide 402 = .ok (.getfield 13, 3) := by decide +kernel
theorem d_M_divide_405 : decode b_M_divide 405 = .ok (.bipush 36, 2) := by decide +kernel
theorem d_M_divide_407 : decode b_M_divide 407 = .ok (.iload 7, 2) := by decide +kernel
theorem d_M_divide_409 : decode b_M_divide 409 = .ok (.iastore, 1) := by decide +kernel
theorem d_M_divide_410 : decode b_M_divide 410 = .ok (.aload_n 0, 1) := by decide +kernel
theorem d_M_divide_411 : decode b_M_divide 411 = .ok (.getfield 16, 3) := by decide +kernel
theorem d_M_divide_414 : decode b_M_divide 414 = .ok (.bipush 36, 2) := by decide +kernel
theorem d_M_divide_416 : decode b_M_divide 416 = .ok (.iload_n 3, 1) := by decide +kernel
theorem d_M_divide_417 : decode b_M_divide 417 = .ok (.bastore, 1) := by decide +kernel
theorem d_M_divide_418 : decode b_M_divide 418 = .ok (.aload_n 0, 1) := by decide +kernel
theorem d_M_divide_419 : decode b_M_divide 419 = .ok (.bipush 36, 2) := by decide +kernel
theorem d_M_divide_421 : decode b_M_divide 421 = .ok (.invokevirtual 39, 3) := by decide +kernel
theorem d_M_divide_424 : decode b_M_divide 424 = .ok (.return_, 1) := by decide +kernel
theorem d_M_compareSizes_0 : decode b_M_compareSizes 0 = .ok (.aload_n 0, 1) := by decide +kernel
theorem d_M_compareSizes_1 : decode b_M_compareSizes 1 = .ok (.getfield 13, 3) := by decide +kernel
theorem d_M_compareSizes_4 : decode b_M_compareSizes 4 = .ok (.iload_n 1, 1) := by decide +kernel
theorem d_M_compareSizes_5 : decode b_M_compareSizes 5 = .ok (.iaload, 1) := by decide +kernel
theorem d_M_compareSizes_6 : decode b_M_compareSizes 6 = .ok (.aload_n 0, 1) := by decide +kernel
theorem d_M_compareSizes_7 : decode b_M_compareSizes 7 = .ok (.getfield 13, 3) := by decide +kernel
theorem d_M_compareSizes_10 : decode b_M_compareSizes 10 = .ok (.iload_n 2, 1) := by decide +kernel
theorem d_M_compareSizes_11 : decode b_M_compareSizes 11 = .ok (.iaload, 1) := by decide +kernel
theorem d_M_compareSizes_12 : decode b_M_compareSizes 12 = .ok (.if_icmp .eq 24, 3) := by decide +kernel
theorem d_M_compareSizes_15 : decode b_M_compareSizes 15 = .ok (.aload_n 0, 1) := by decide +kernel
theorem d_M_compareSizes_16 : decode b_M_compareSizes 16 = .ok (.getfield 13, 3) := by decide +kernel
theorem d_M_compareSizes_19 : decode b_M_compareSizes 19 = .ok (.iload_n 1, 1) := by decide +kernel
theorem d_M_compareSizes_20 : decode b_M_compareSizes 20 = .ok (.iaload, 1) := by decide +kernel
theorem d_M_compareSizes_21 : decode b_M_compareSizes 21 = .ok (.aload_n 0, 1) := by decide +kernel
theorem d_M_compareSizes_22 : decode b_M_compareSizes 22 = .ok (.getfield 13, 3) := by decide +kernel
theorem d_M_compareSizes_25 : decode b_M_compareSizes 25 = .ok (.iload_n 2, 1) := by decide +kernel
theorem d_M_compareSizes_26 : decode b_M_compareSizes 26 = .ok (.iaload, 1) := by decide +kernel
theorem d_M_compareSizes_27 : decode b_M_compareSizes 27 = .ok (.if_icmp .ge 7, 3) := by decide +kernel
theorem d_M_compareSizes_30 : decode b_M_compareSizes 30 = .ok (.iconst (-1), 1) := by decide +kernel
theorem d_M_compareSizes_31 : decode b_M_compareSizes 31 = .ok (.goto 4, 3) := by decide +kernel
theorem d_M_compareSizes_34 : decode b_M_compareSizes 34 = .ok (.iconst 1, 1) := by decide +kernel
theorem d_M_compareSizes_35 : decode b_M_compareSizes 35 = .ok (.ireturn, 1) := by decide +kernel
theorem d_M_compareSizes_36 : decode b_M_compareSizes 36 = .ok (.aload_n 0, 1) := by decide +kernel
theorem d_M_compareSizes_37 : decode b_M_compareSizes 37 = .ok (.getfield 13, 3) := by decide +kernel
theorem d_M_compareSizes_40 : decode b_M_compareSizes 40 = .ok (.iload_n 1, 1) := by decide +kernel
theorem d_M_compareSizes_41 : decode b_M_compareSizes 41 = .ok (.iaload, 1) := by decide +kernel
theorem d_M_compareSizes_42 : decode b_M_compareSizes 42 = .ok (.iconst 1, 1) := by decide +kernel
theorem d_M_compareSizes_43 : decode b_M_compareSizes 43 = .ok (.isub, 1) := by decide +kernel
theorem d_M_compareSizes_44 : decode b_M_compareSizes 44 = .ok (.istore_n 3, 1) := by decide +kernel
theorem d_M_compareSizes_45 : decode b_M_compareSizes 45 = .ok (.iload_n 3, 1) := by decide +kernel
theorem d_M_compareSizes_46 : decode b_M_compareSizes 46 = .ok (.ifCond .lt 36, 3) := by decide +kernel
theorem d_M_compareSizes_49 : decode b_M_compareSizes 49 = .ok (.aload_n 0, 1) := by decide +kernel
theorem d_M_compareSizes_50 : decode b_M_compareSizes 50 = .ok (.getfield 7, 3) := by decide +kernel
theorem d_M_compareSizes_53 : decode b_M_compareSizes 53 = .ok (.sipush 300, 3) := by decide +kernel
theorem d_M_compareSizes_56 : decode b_M_compareSizes 56 = .ok (.iload_n 1, 1) := by decide +kernel
theorem d_M_compareSizes_57 : decode b_M_compareSizes 57 = .ok (.imul, 1) := by decide +kernel
theorem d_M_compareSizes_58 : decode b_M_compareSizes 58 = .ok (.iload_n 3, 1) := by decide +kernel
theorem d_M_compareSizes_59 : decode b_M_compareSizes 59 = .ok (.iadd, 1) := by decide +kernel
theorem d_M_compareSizes_60 : decode b_M_compareSizes 60 = .ok (.iaload, 1) := by decide +kernel
theorem d_M_compareSizes_61 : decode b_M_compareSizes 61 = .ok (.aload_n 0, 1) := by decide +kernel
theorem d_M_compareSizes_62 : decode b_M_compareSizes 62 = .ok (.getfield 7, 3) := by decide +kernel
theorem d_M_compareSizes_65 : decode b_M_compareSizes 65 = .ok (.sipush 300, 3) := by decide +kernel
theorem d_M_compareSizes_68 : decode b_M_compareSizes 68 = .ok (.iload_n 2, 1) := by decide +kernel
theorem d_M_compareSizes_69 : decode b_M_compareSizes 69 = .ok (.imul, 1) := by decide +kernel
theorem d_M_compareSizes_70 : decode b_M_compareSizes 70 = .ok (.iload_n 3, 1) := by decide +kernel
theorem d_M_compareSizes_71 : decode b_M_compareSizes 71 = .ok (.iadd, 1) := by decide +kernel
theorem d_M_compareSizes_72 : decode b_M_compareSizes 72 = .ok (.iaload, 1) := by decide +kernel
theorem d_M_compareSizes_73 : decode b_M_compareSizes 73 = .ok (.if_icmp .ne 9, 3) := by decide +kernel
theorem d_M_compareSizes_76 : decode b_M_compareSizes 76 = .ok (.iinc 3 (-1), 3) := by decide +kernel
theorem d_M_compareSizes_79 : decode b_M_compareSizes 79 = .ok (.goto (-34), 3) := by decide +kernel
theorem d_M_compareSizes_82 : decode b_M_compareSizes 82 = .ok (.iload_n 3, 1) := by decide +kernel
theorem d_M_compareSizes_83 : decode b_M_compareSizes 83 = .ok (.ifCond .ge 7, 3) := by decide +kernel
theorem d_M_compareSizes_86 : decode b_M_compareSizes 86 = .ok (.iconst 0, 1) := by decide +kernel
theorem d_M_compareSizes_87 : decode b_M_compareSizes 87 = .ok (.goto 35, 3) := by decide +kernel
theorem d_M_compareSizes_90 : decode b_M_compareSizes 90 = .ok (.aload_n 0, 1) := by decide +kernel
theorem d_M_compareSizes_91 : decode b_M_compareSizes 91 = .ok (.getfield 7, 3) := by decide +kernel
theorem d_M_compareSizes_94 : decode b_M_compareSizes 94 = .ok (.sipush 300, 3) := by decide +kernel
theorem d_M_compareSizes_97 : decode b_M_compareSizes 97 = .ok (.iload_n 1, 1) := by decide +kernel
theorem d_M_compareSizes_98 : decode b_M_compareSizes 98 = .ok (.imul, 1) := by decide +kernel
theorem d_M_compareSizes_99 : decode b_M_compareSizes 99 = .ok (.iload_n 3, 1) := by decide +kernel
theorem d_M_compareSizes_100 : decode b_M_compareSizes 100 = .ok (.iadd, 1) := by decide +kernel
theorem d_M_compareSizes_101 : decode b_M_compareSizes 101 = .ok (.iaload, 1) := by decide +kernel
theorem d_M_compareSizes_102 : decode b_M_compareSizes 102 = .ok (.aload_n 0, 1) := by decide +kernel
theorem d_M_compareSizes_103 : decode b_M_compareSizes 103 = .ok (.getfield 7, 3) := by decide +kernel
theorem d_M_compareSizes_106 : decode b_M_compareSizes 106 = .ok (.sipush 300, 3) := by decide +kernel
theorem d_M_compareSizes_109 : decode b_M_compareSizes 109 = .ok (.iload_n 2, 1) := by decide +kernel
theorem d_M_compareSizes_110 : decode b_M_compareSizes 110 = .ok (.imul, 1) := by decide +kernel
theorem d_M_compareSizes_111 : decode b_M_compareSizes 111 = .ok (.iload_n 3, 1) := by decide +kernel
theorem d_M_compareSizes_112 : decode b_M_compareSizes 112 = .ok (.iadd, 1) := by decide +kernel
theorem d_M_compareSizes_113 : decode b_M_compareSizes 113 = .ok (.iaload, 1) := by decide +kernel
theorem d_M_compareSizes_114 : decode b_M_compareSizes 114 = .ok (.if_icmp .ge 7, 3) := by decide +kernel
theorem d_M_compareSizes_117 : decode b_M_compareSizes 117 = .ok (.iconst (-1), 1) := by decide +kernel
theorem d_M_compareSizes_118 : decode b_M_compareSizes 118 = .ok (.goto 4, 3) := by decide +kernel
theorem d_M_compareSizes_121 : decode b_M_compareSizes 121 = .ok (.iconst 1, 1) := by decide +kernel
theorem d_M_compareSizes_122 : decode b_M_compareSizes 122 = .ok (.ireturn, 1) := by decide +kernel
theorem d_M_scale_0 : decode b_M_scale 0 = .ok (.lconst 0, 1) := by decide +kernel
theorem d_M_scale_1 : decode b_M_scale 1 = .ok (.lstore 4, 2) := by decide +kernel
theorem d_M_scale_3 : decode b_M_scale 3 = .ok (.aload_n 0, 1) := by decide +kernel
theorem d_M_scale_4 : decode b_M_scale 4 = .ok (.getfield 13, 3) := by decide +kernel
theorem d_M_scale_7 : decode b_M_scale 7 = .ok (.iload_n 2, 1) := by decide +kernel
theorem d_M_scale_8 : decode b_M_scale 8 = .ok (.iaload, 1) := by decide +kernel
theorem d_M_scale_9 : decode b_M_scale 9 = .ok (.istore 6, 2) := by decide +kernel
theorem d_M_scale_11 : decode b_M_scale 11 = .ok (.iconst 0, 1) := by decide +kernel
theorem d_M_scale_12 : decode b_M_scale 12 = .ok (.istore 7, 2) := by decide +kernel
theorem d_M_scale_14 : decode b_M_scale 14 = .ok (.iload 7, 2) := by decide +kernel
theorem d_M_scale_16 : decode b_M_scale 16 = .ok (.iload 6, 2) := by decide +kernel
theorem d_M_scale_18 : decode b_M_scale 18 = .ok (.if_icmp .ge 59, 3) := by decide +kernel
theorem d_M_scale_21 : decode b_M_scale 21 = .ok (.aload_n 0, 1) := by decide +kernel
theorem d_M_scale_22 : decode b_M_scale 22 = .ok (.getfield 7, 3) := by decide +kernel
theorem d_M_scale_25 : decode b_M_scale 25 = .ok (.sipush 300, 3) := by decide +kernel
theorem d_M_scale_28 : decode b_M_scale 28 = .ok (.iload_n 2, 1) := by decide +kernel
theorem d_M_scale_29 : decode b_M_scale 29 = .ok (.imul, 1) := by decide +kernel
theorem d_M_scale_30 : decode b_M_scale 30 = .ok (.iload 7, 2) := by decide +kernel
theorem d_M_scale_32 : decode b_M_scale 32 = .ok (.iadd, 1) := by decide +kernel
theorem d_M_scale_33 : decode b_M_scale 33 = .ok (.iaload, 1) := by decide +kernel
theorem d_M_scale_34 : decode b_M_scale 34 = .ok (.i2l, 1) := by decide +kernel
theorem d_M_scale_35 : decode b_M_scale 35 = .ok (.iload_n 3, 1) := by decide +kernel
theorem d_M_scale_36 : decode b_M_scale 36 = .ok (.i2l, 1) := by decide +kernel
theorem d_M_scale_37 : decode b_M_scale 37 = .ok (.lmul, 1) := by decide +kernel
theorem d_M_scale_38 : decode b_M_scale 38 = .ok (.lload 4, 2) := by decide +kernel
theorem d_M_scale_40 : decode b_M_scale 40 = .ok (.ladd, 1) := by decide +kernel
theorem d_M_scale_41 : decode b_M_scale 41 = .ok (.lstore 8, 2) := by decide +kernel
theorem d_M_scale_43 : decode b_M_scale 43 = .ok (.aload_n 0, 1) := by decide +kernel
theorem d_M_scale_44 : decode b_M_scale 44 = .ok (.getfield 7, 3) := by decide +kernel
theorem d_M_scale_47 : decode b_M_scale 47 = .ok (.sipush 300, 3) := by decide +kernel
theorem d_M_scale_50 : decode b_M_scale 50 = .ok (.iload_n 1, 1) := by decide +kernel
theorem d_M_scale_51 : decode b_M_scale 51 = .ok (.imul, 1) := by decide +kernel
theorem d_M_scale_52 : decode b_M_scale 52 = .ok (.iload 7, 2) := by decide +kernel
theorem d_M_scale_54 : decode b_M_scale 54 = .ok (.iadd, 1) := by decide +kernel
theorem d_M_scale_55 : decode b_M_scale 55 = .ok (.lload 8, 2) := by decide +kernel
theorem d_M_scale_57 : decode b_M_scale 57 = .ok (.ldc2_w 37, 3) := by decide +kernel
theorem d_M_scale_60 : decode b_M_scale 60 = .ok (.lrem, 1) := by decide +kernel
theorem d_M_scale_61 : decode b_M_scale 61 = .ok (.l2i, 1) := by decide +kernel
theorem d_M_scale_62 : decode b_M_scale 62 = .ok (.iastore, 1) := by decide +kernel
theorem d_M_scale_63 : decode b_M_scale 63 = .ok (.lload 8, 2) := by decide +kernel
theorem d_M_scale_65 : decode b_M_scale 65 = .ok (.ldc2_w 37, 3) := by decide +kernel
theorem d_M_scale_68 : decode b_M_scale 68 = .ok (.ldiv, 1) := by decide +kernel
theorem d_M_scale_69 : decode b_M_scale 69 = .ok (.lstore 4, 2) := by decide +kernel
theorem d_M_scale_71 : decode b_M_scale 71 = .ok (.iinc 7 1, 3) := by decide +kernel
theorem d_M_scale_74 : decode b_M_scale 74 = .ok (.goto (-60), 3) := by decide +kernel
theorem d_M_scale_77 : decode b_M_scale 77 = .ok (.aload_n 0, 1) := by decide +kernel
theorem d_M_scale_78 : decode b_M_scale 78 = .ok (.getfield 7, 3) := by decide +kernel
theorem d_M_scale_81 : decode b_M_scale 81 = .ok (.sipush 300, 3) := by decide +kernel
theorem d_M_scale_84 : decode b_M_scale 84 = .ok (.iload_n 1, 1) := by decide +kernel
theorem d_M_scale_85 : decode b_M_scale 85 = .ok (.imul, 1) := by decide +kernel
theorem d_M_scale_86 : decode b_M_scale 86 = .ok (.iload 6, 2) := by decide +kernel
theorem d_M_scale_88 : decode b_M_scale 88 = .ok (.iadd, 1) := by decide +kernel
theorem d_M_scale_89 : decode b_M_scale 89 = .ok (.lload 4, 2) := by decide +kernel
theorem d_M_scale_91 : decode b_M_scale 91 = .ok (.l2i, 1) := by decide +kernel
theorem d_M_scale_92 : decode b_M_scale 92 = .ok (.iastore, 1) := by decide +kernel
theorem d_M_scale_93 : decode b_M_scale 93 = .ok (.aload_n 0, 1) := by decide +kernel
theorem d_M_scale_94 : decode b_M_scale 94 = .ok (.getfield 13, 3) := by decide +kernel
theorem d_M_scale_97 : decode b_M_scale 97 = .ok (.iload_n 1, 1) := by decide +kernel
theorem d_M_scale_98 : decode b_M_scale 98 = .ok (.iload 6, 2) := by decide +kernel
theorem d_M_scale_100 : decode b_M_scale 100 = .ok (.iconst 1, 1) := by decide +kernel
theorem d_M_scale_101 : decode b_M_scale 101 = .ok (.iadd, 1) := by decide +kernel
theorem d_M_scale_102 : decode b_M_scale 102 = .ok (.iastore, 1) := by decide +kernel
theorem d_M_scale_103 : decode b_M_scale 103 = .ok (.aload_n 0, 1) := by decide +kernel
theorem d_M_scale_104 : decode b_M_scale 104 = .ok (.iload_n 1, 1) := by decide +kernel
theorem d_M_scale_105 : decode b_M_scale 105 = .ok (.invokevirtual 39, 3) := by decide +kernel
theorem d_M_scale_108 : decode b_M_scale 108 = .ok (.return_, 1) := by decide +kernel
theorem d_M_takes_0 : decode b_M_takes 0 = .ok (.aload_n 0, 1) := by decide +kernel
theorem d_M_takes_1 : decode b_M_takes 1 = .ok (.getfield 13, 3) := by decide +kernel
theorem d_M_takes_4 : decode b_M_takes 4 = .ok (.bipush 38, 2) := by decide +kernel
theorem d_M_takes_6 : decode b_M_takes 6 = .ok (.iaload, 1) := by decide +kernel
theorem d_M_takes_7 : decode b_M_takes 7 = .ok (.istore 4, 2) := by decide +kernel
theorem d_M_takes_9 : decode b_M_takes 9 = .ok (.lconst 0, 1) := by decide +kernel
theorem d_M_takes_10 : decode b_M_takes 10 = .ok (.lstore 5, 2) := by decide +kernel
theorem d_M_takes_12 : decode b_M_takes 12 = .ok (.iconst 0, 1) := by decide +kernel
theorem d_M_takes_13 : decode b_M_takes 13 = .ok (.istore 7, 2) := by decide +kernel
theorem d_M_takes_15 : decode b_M_takes 15 = .ok (.iload 7, 2) := by decide +kernel
theorem d_M_takes_17 : decode b_M_takes 17 = .ok (.iload 4, 2) := by decide +kernel
theorem d_M_takes_19 : decode b_M_takes 19 = .ok (.if_icmp .gt 109, 3) := by decide +kernel
theorem d_M_takes_22 : decode b_M_takes 22 = .ok (.aload_n 0, 1) := by decide +kernel
theorem d_M_takes_23 : decode b_M_takes 23 = .ok (.getfield 7, 3) := by decide +kernel
theorem d_M_takes_26 : decode b_M_takes 26 = .ok (.sipush 10800, 3) := by decide +kernel
theorem d_M_takes_29 : decode b_M_takes 29 = .ok (.iload_n 1, 1) := by decide +kernel
theorem d_M_takes_30 : decode b_M_takes 30 = .ok (.iadd, 1) := by decide +kernel
theorem d_M_takes_31 : decode b_M_takes 31 = .ok (.iload 7, 2) := by decide +kernel
theorem d_M_takes_33 : decode b_M_takes 33 = .ok (.iadd, 1) := by decide +kernel
theorem d_M_takes_34 : decode b_M_takes 34 = .ok (.iaload, 1) := by decide +kernel
theorem d_M_takes_35 : decode b_M_takes 35 = .ok (.i2l, 1) := by decide +kernel
theorem d_M_takes_36 : decode b_M_takes 36 = .ok (.iload 7, 2) := by decide +kernel
theorem d_M_takes_38 : decode b_M_takes 38 = .ok (.iload 4, 2) := by decide +kernel
theorem d_M_takes_40 : decode b_M_takes 40 = .ok (.if_icmp .ge 20, 3) := by decide +kernel
theorem d_M_takes_43 : decode b_M_takes 43 = .ok (.aload_n 0, 1) := by decide +kernel
theorem d_M_takes_44 : decode b_M_takes 44 = .ok (.getfield 7, 3) := by decide +kernel
theorem d_M_takes_47 : decode b_M_takes 47 = .ok (.sipush 11400, 3) := by decide +kernel
theorem d_M_takes_50 : decode b_M_takes 50 = .ok (.iload 7, 2) := by decide +kernel
theorem d_M_takes_52 : decode b_M_takes 52 = .ok (.iadd, 1) := by decide +kernel
theorem d_M_takes_53 : decode b_M_takes 53 = .ok (.iaload, 1) := by decide +kernel
theorem d_M_takes_54 : decode b_M_takes 54 = .ok (.i2l, 1) := by decide +kernel
theorem d_M_takes_55 : decode b_M_takes 55 = .ok (.lload_n 2, 1) := by decide +kernel
theorem d_M_takes_56 : decode b_M_takes 56 = .ok (.lmul, 1) := by decide +kernel
theorem d_M_takes_57 : decode b_M_takes 57 = .ok (.goto 4, 3) := by decide +kernel
theorem d_M_takes_60 : decode b_M_takes 60 = .ok (.lconst 0, 1) := by decide +kernel
theorem d_M_takes_61 : decode b_M_takes 61 = .ok (.lsub, 1) := by decide +kernel
theorem d_M_takes_62 : decode b_M_takes 62 = .ok (.lload 5, 2) := by decide +kernel
theorem d_M_takes_64 : decode b_M_takes 64 = .ok (.lsub, 1) := by decide +kernel
theorem d_M_takes_65 : decode b_M_takes 65 = .ok (.lstore 8, 2) := by decide +kernel
theorem d_M_takes_67 : decode b_M_takes 67 = .ok (.lload 8, 2) := by decide +kernel
theorem d_M_takes_69 : decode b_M_takes 69 = .ok (.ldc2_w 37, 3) := by decide +kernel
theorem d_M_takes_72 : decode b_M_takes 72 = .ok (.lrem, 1) := by decide +kernel
theorem d_M_takes_73 : decode b_M_takes 73 = .ok (.lstore 10, 2) := by decide +kernel
theorem d_M_takes_75 : decode b_M_takes 75 = .ok (.lload 10, 2) := by decide +kernel
theorem d_M_takes_77 : decode b_M_takes 77 = .ok (.lconst 0, 1) := by decide +kernel
theorem d_M_takes_78 : decode b_M_takes 78 = .ok (.lcmp, 1) := by decide +kernel
theorem d_M_takes_79 : decode b_M_takes 79 = .ok (.ifCond .ge 12, 3) := by decide +kernel
theorem d_M_takes_82 : decode b_M_takes 82 = .ok (.lload 10, 2) := by decide +kernel
theorem d_M_takes_84 : decode b_M_takes 84 = .ok (.ldc2_w 37, 3) := by decide +kernel
theorem d_M_takes_87 : decode b_M_takes 87 = .ok (.ladd, 1) := by decide +kernel
theorem d_M_takes_88 : decode b_M_takes 88 = .ok (.goto 5, 3) := by decide +kernel
theorem d_M_takes_91 : decode b_M_takes 91 = .ok (.lload 10, 2) := by decide +kernel
theorem d_M_takes_93 : decode b_M_takes 93 = .ok (.lstore 10, 2) := by decide +kernel
theorem d_M_takes_95 : decode b_M_takes 95 = .ok (.aload_n 0, 1) := by decide +kernel
theorem d_M_takes_96 : decode b_M_takes 96 = .ok (.getfield 7, 3) := by decide +kernel
theorem d_M_takes_99 : decode b_M_takes 99 = .ok (.sipush 10800, 3) := by decide +kernel
theorem d_M_takes_102 : decode b_M_takes 102 = .ok (.iload_n 1, 1) := by decide +kernel
theorem d_M_takes_103 : decode b_M_takes 103 = .ok (.iadd, 1) := by decide +kernel
theorem d_M_takes_104 : decode b_M_takes 104 = .ok (.iload 7, 2) := by decide +kernel
theorem d_M_takes_106 : decode b_M_takes 106 = .ok (.iadd, 1) := by decide +kernel
theorem d_M_takes_107 : decode b_M_takes 107 = .ok (.lload 10, 2) := by decide +kernel
theorem d_M_takes_109 : decode b_M_takes 109 = .ok (.l2i, 1) := by decide +kernel
theorem d_M_takes_110 : decode b_M_takes 110 = .ok (.iastore, 1) := by decide +kernel
theorem d_M_takes_111 : decode b_M_takes 111 = .ok (.lload 10, 2) := by decide +kernel
theorem d_M_takes_113 : decode b_M_takes 113 = .ok (.lload 8, 2) := by decide +kernel
theorem d_M_takes_115 : decode b_M_takes 115 = .ok (.lsub, 1) := by decide +kernel
theorem d_M_takes_116 : decode b_M_takes 116 = .ok (.ldc2_w 37, 3) := by decide +kernel
theorem d_M_takes_119 : decode b_M_takes 119 = .ok (.ldiv, 1) := by decide +kernel
theorem d_M_takes_120 : decode b_M_takes 120 = .ok (.lstore 5, 2) := by decide +kernel
theorem d_M_takes_122 : decode b_M_takes 122 = .ok (.iinc 7 1, 3) := by decide +kernel
theorem d_M_takes_125 : decode b_M_takes 125 = .ok (.goto (-110), 3) := by decide +kernel
theorem d_M_takes_128 : decode b_M_takes 128 = .ok (.lload 5, 2) := by decide +kernel
theorem d_M_takes_130 : decode b_M_takes 130 = .ok (.lconst 0, 1) := by decide +kernel
theorem d_M_takes_131 : decode b_M_takes 131 = .ok (.lcmp, 1) := by decide +kernel
theorem d_M_takes_132 : decode b_M_takes 132 = .ok (.ifCond .le 7, 3) := by decide +kernel
theorem d_M_takes_135 : decode b_M_takes 135 = .ok (.iconst 1, 1) := by decide +kernel
theorem d_M_takes_136 : decode b_M_takes 136 = .ok (.goto 4, 3) := by decide +kernel
theorem d_M_takes_139 : decode b_M_takes 139 = .ok (.iconst 0, 1) := by decide +kernel
theorem d_M_takes_140 : decode b_M_takes 140 = .ok (.ireturn, 1) := by decide +kernel
theorem d_M_givesBack_0 : decode b_M_givesBack 0 = .ok (.aload_n 0, 1) := by decide +kernel
theorem d_M_givesBack_1 : decode b_M_givesBack 1 = .ok (.getfield 13, 3) := by decide +kernel
theorem d_M_givesBack_4 : decode b_M_givesBack 4 = .ok (.bipush 38, 2) := by decide +kernel
theorem d_M_givesBack_6 : decode b_M_givesBack 6 = .ok (.iaload, 1) := by decide +kernel
theorem d_M_givesBack_7 : decode b_M_givesBack 7 = .ok (.istore_n 2, 1) := by decide +kernel
theorem d_M_givesBack_8 : decode b_M_givesBack 8 = .ok (.iconst 0, 1) := by decide +kernel
theorem d_M_givesBack_9 : decode b_M_givesBack 9 = .ok (.istore_n 3, 1) := by decide +kernel
theorem d_M_givesBack_10 : decode b_M_givesBack 10 = .ok (.iconst 0, 1) := by decide +kernel
theorem d_M_givesBack_11 : decode b_M_givesBack 11 = .ok (.istore 4, 2) := by decide +kernel
theorem d_M_givesBack_13 : decode b_M_givesBack 13 = .ok (.iload 4, 2) := by decide +kernel
theorem d_M_givesBack_15 : decode b_M_givesBack 15 = .ok (.iload_n 2, 1) := by decide +kernel
theorem d_M_givesBack_16 : decode b_M_givesBack 16 = .ok (.if_icmp .gt 72, 3) := by decide +kernel
theorem d_M_givesBack_19 : decode b_M_givesBack 19 = .ok (.aload_n 0, 1) := by decide +kernel
theorem d_M_givesBack_20 : decode b_M_givesBack 20 = .ok (.getfield 7, 3) := by decide +kernel
theorem d_M_givesBack_23 : decode b_M_givesBack 23 = .ok (.sipush 10800, 3) := by decide +kernel
theorem d_M_givesBack_26 : decode b_M_givesBack 26 = .ok (.iload_n 1, 1) := by decide +kernel
theorem d_M_givesBack_27 : decode b_M_givesBack 27 = .ok (.iadd, 1) := by decide +kernel
theorem d_M_givesBack_28 : decode b_M_givesBack 28 = .ok (.iload 4, 2) := by decide +kernel
theorem d_M_givesBack_30 : decode b_M_givesBack 30 = .ok (.iadd, 1) := by decide +kernel
theorem d_M_givesBack_31 : decode b_M_givesBack 31 = .ok (.iaload, 1) := by decide +kernel
theorem d_M_givesBack_32 : decode b_M_givesBack 32 = .ok (.iload 4, 2) := by decide +kernel
theorem d_M_givesBack_34 : decode b_M_givesBack 34 = .ok (.iload_n 2, 1) := by decide +kernel
theorem d_M_givesBack_35 : decode b_M_givesBack 35 = .ok (.if_icmp .ge 17, 3) := by decide +kernel
theorem d_M_givesBack_38 : decode b_M_givesBack 38 = .ok (.aload_n 0, 1) := by decide +kernel
theorem d_M_givesBack_39 : decode b_M_givesBack 39 = .ok (.getfield 7, 3) := by decide +kernel
theorem d_M_givesBack_42 : decode b_M_givesBack 42 = .ok (.sipush 11400, 3) := by decide +kernel
theorem d_M_givesBack_45 : decode b_M_givesBack 45 = .ok (.iload 4, 2) := by decide +kernel
theorem d_M_givesBack_47 : decode b_M_givesBack 47 = .ok (.iadd, 1) := by decide +kernel
theorem d_M_givesBack_48 : decode b_M_givesBack 48 = .ok (.iaload, 1) := by decide +kernel
theorem d_M_givesBack_49 : decode b_M_givesBack 49 = .ok (.goto 4, 3) := by decide +kernel
theorem d_M_givesBack_52 : decode b_M_givesBack 52 = .ok (.iconst 0, 1) := by decide +kernel
theorem d_M_givesBack_53 : decode b_M_givesBack 53 = .ok (.iadd, 1) := by decide +kernel
theorem d_M_givesBack_54 : decode b_M_givesBack 54 = .ok (.iload_n 3, 1) := by decide +kernel
theorem d_M_givesBack_55 : decode b_M_givesBack 55 = .ok (.iadd, 1) := by decide +kernel
theorem d_M_givesBack_56 : decode b_M_givesBack 56 = .ok (.istore 5, 2) := by decide +kernel
theorem d_M_givesBack_58 : decode b_M_givesBack 58 = .ok (.aload_n 0, 1) := by decide +kernel
theorem d_M_givesBack_59 : decode b_M_givesBack 59 = .ok (.getfield 7, 3) := by decide +kernel
theorem d_M_givesBack_62 : decode b_M_givesBack 62 = .ok (.sipush 10800, 3) := by decide +kernel
theorem d_M_givesBack_65 : decode b_M_givesBack 65 = .ok (.iload_n 1, 1) := by decide +kernel
theorem d_M_givesBack_66 : decode b_M_givesBack 66 = .ok (.iadd, 1) := by decide +kernel
theorem d_M_givesBack_67 : decode b_M_givesBack 67 = .ok (.iload 4, 2) := by decide +kernel
theorem d_M_givesBack_69 : decode b_M_givesBack 69 = .ok (.iadd, 1) := by decide +kernel
theorem d_M_givesBack_70 : decode b_M_givesBack 70 = .ok (.iload 5, 2) := by decide +kernel
theorem d_M_givesBack_72 : decode b_M_givesBack 72 = .ok (.ldc 43, 2) := by decide +kernel
theorem d_M_givesBack_74 : decode b_M_givesBack 74 = .ok (.irem, 1) := by decide +kernel
theorem d_M_givesBack_75 : decode b_M_givesBack 75 = .ok (.iastore, 1) := by decide +kernel
theorem d_M_givesBack_76 : decode b_M_givesBack 76 = .ok (.iload 5, 2) := by decide +kernel
theorem d_M_givesBack_78 : decode b_M_givesBack 78 = .ok (.ldc 43, 2) := by decide +kernel
theorem d_M_givesBack_80 : decode b_M_givesBack 80 = .ok (.idiv, 1) := by decide +kernel
theorem d_M_givesBack_81 : decode b_M_givesBack 81 = .ok (.istore_n 3, 1) := by decide +kernel
theorem d_M_givesBack_82 : decode b_M_givesBack 82 = .ok (.iinc 4 1, 3) := by decide +kernel
theorem d_M_givesBack_85 : decode b_M_givesBack 85 = .ok (.goto (-72), 3) := by decide +kernel
theorem d_M_givesBack_88 : decode b_M_givesBack 88 = .ok (.iload_n 3, 1) := by decide +kernel
theorem d_M_givesBack_89 : decode b_M_givesBack 89 = .ok (.ifCond .le 7, 3) := by decide +kernel
theorem d_M_givesBack_92 : decode b_M_givesBack 92 = .ok (.iconst 1, 1) := by decide +kernel
theorem d_M_givesBack_93 : decode b_M_givesBack 93 = .ok (.goto 4, 3) := by decide +kernel
theorem d_M_givesBack_96 : decode b_M_givesBack 96 = .ok (.iconst 0, 1) := by decide +kernel
theorem d_M_givesBack_97 : decode b_M_givesBack 97 = .ok (.ireturn, 1) := by decide +kernel
theorem d_M_below_0 : decode b_M_below 0 = .ok (.bipush 16, 2) := by decide +kernel
theorem d_M_below_2 : decode b_M_below 2 = .ok (.iload_n 0, 1) := by decide +kernel
theorem d_M_below_3 : decode b_M_below 3 = .ok (.iadd, 1) := by decide +kernel
theorem d_M_below_4 : decode b_M_below 4 = .ok (.ireturn, 1) := by decide +kernel
theorem d_M_combine_0 : decode b_M_combine 0 = .ok (.iload_n 1, 1) := by decide +kernel
theorem d_M_combine_1 : decode b_M_combine 1 = .ok (.invokestatic 86, 3) := by decide +kernel
theorem d_M_combine_4 : decode b_M_combine 4 = .ok (.ifCond .eq 32, 3) := by decide +kernel
theorem d_M_combine_7 : decode b_M_combine 7 = .ok (.iload_n 3, 1) := by decide +kernel
theorem d_M_combine_8 : decode b_M_combine 8 = .ok (.invokestatic 86, 3) := by decide +kernel
theorem d_M_combine_11 : decode b_M_combine 11 = .ok (.ifCond .eq 25, 3) := by decide +kernel
theorem d_M_combine_14 : decode b_M_combine 14 = .ok (.iload 4, 2) := by decide +kernel
theorem d_M_combine_16 : decode b_M_combine 16 = .ok (.invokestatic 86, 3) := by decide +kernel
theorem d_M_combine_19 : decode b_M_combine 19 = .ok (.ifCond .eq 17, 3) := by decide +kernel
theorem d_M_combine_22 : decode b_M_combine 22 = .ok (.iload_n 2, 1) := by decide +kernel
theorem d_M_combine_23 : decode b_M_combine 23 = .ok (.ifCond .lt 13, 3) := by decide +kernel
theorem d_M_combine_26 : decode b_M_combine 26 = .ok (.iload_n 2, 1) := by decide +kernel
theorem d_M_combine_27 : decode b_M_combine 27 = .ok (.bipush 8, 2) := by decide +kernel
theorem d_M_combine_29 : decode b_M_combine 29 = .ok (.if_icmp .gt 7, 3) := by decide +kernel
theorem d_M_combine_32 : decode b_M_combine 32 = .ok (.iconst 1, 1) := by decide +kernel
theorem d_M_combine_33 : decode b_M_combine 33 = .ok (.goto 4, 3) := by decide +kernel
theorem d_M_combine_36 : decode b_M_combine 36 = .ok (.iconst 0, 1) := by decide +kernel
theorem d_M_combine_37 : decode b_M_combine 37 = .ok (.istore 5, 2) := by decide +kernel
theorem d_M_combine_39 : decode b_M_combine 39 = .ok (.aload_n 0, 1) := by decide +kernel
theorem d_M_combine_40 : decode b_M_combine 40 = .ok (.iload 5, 2) := by decide +kernel
theorem d_M_combine_42 : decode b_M_combine 42 = .ok (.ifCond .eq 36, 3) := by decide +kernel
theorem d_M_combine_45 : decode b_M_combine 45 = .ok (.iload_n 2, 1) := by decide +kernel
theorem d_M_combine_46 : decode b_M_combine 46 = .ok (.bipush 8, 2) := by decide +kernel
theorem d_M_combine_48 : decode b_M_combine 48 = .ok (.if_icmp .lt 26, 3) := by decide +kernel
theorem d_M_combine_51 : decode b_M_combine 51 = .ok (.aload_n 0, 1) := by decide +kernel
theorem d_M_combine_52 : decode b_M_combine 52 = .ok (.iload_n 3, 1) := by decide +kernel
theorem d_M_combine_53 : decode b_M_combine 53 = .ok (.invokestatic 82, 3) := by decide +kernel
theorem d_M_combine_56 : decode b_M_combine 56 = .ok (.invokevirtual 98, 3) := by decide +kernel
theorem d_M_combine_59 : decode b_M_combine 59 = .ok (.ifCond .eq 19, 3) := by decide +kernel
theorem d_M_combine_62 : decode b_M_combine 62 = .ok (.aload_n 0, 1) := by decide +kernel
theorem d_M_combine_63 : decode b_M_combine 63 = .ok (.iload 4, 2) := by decide +kernel
theorem d_M_combine_65 : decode b_M_combine 65 = .ok (.invokestatic 82, 3) := by decide +kernel
theorem d_M_combine_68 : decode b_M_combine 68 = .ok (.invokevirtual 98, 3) := by decide +kernel
theorem d_M_combine_71 : decode b_M_combine 71 = .ok (.ifCond .eq 7, 3) := by decide +kernel
theorem d_M_combine_74 : decode b_M_combine 74 = .ok (.iconst 0, 1) := by decide +kernel
theorem d_M_combine_75 : decode b_M_combine 75 = .ok (.goto 4, 3) := by decide +kernel
theorem d_M_combine_78 : decode b_M_combine 78 = .ok (.iconst 1, 1) := by decide +kernel
theorem d_M_combine_79 : decode b_M_combine 79 = .ok (.putfield 34, 3) := by decide +kernel
theorem d_M_combine_82 : decode b_M_combine 82 = .ok (.aload_n 0, 1) := by decide +kernel
theorem d_M_combine_83 : decode b_M_combine 83 = .ok (.getfield 34, 3) := by decide +kernel
theorem d_M_combine_86 : decode b_M_combine 86 = .ok (.ifCond .le 5, 3) := by decide +kernel
theorem d_M_combine_89 : decode b_M_combine 89 = .ok (.iconst 0, 1) := by decide +kernel
theorem d_M_combine_90 : decode b_M_combine 90 = .ok (.ireturn, 1) := by decide +kernel
theorem d_M_combine_91 : decode b_M_combine 91 = .ok (.iload_n 2, 1) := by decide +kernel
theorem d_M_combine_92 : decode b_M_combine 92 = .ok (.iconst 3, 1) := by decide +kernel
theorem d_M_combine_93 : decode b_M_combine 93 = .ok (.if_icmp .eq 15, 3) := by decide +kernel
theorem d_M_combine_96 : decode b_M_combine 96 = .ok (.iload_n 2, 1) := by decide +kernel
theorem d_M_combine_97 : decode b_M_combine 97 = .ok (.bipush 6, 2) := by decide +kernel
theorem d_M_combine_99 : decode b_M_combine 99 = .ok (.if_icmp .eq 9, 3) := by decide +kernel
theorem d_M_combine_102 : decode b_M_combine 102 = .ok (.iload_n 2, 1) := by decide +kernel
theorem d_M_combine_103 : decode b_M_combine 103 = .ok (.bipush 7, 2) := by decide +kernel
theorem d_M_combine_105 : decode b_M_combine 105 = .ok (.if_icmp .ne 7, 3) := by decide +kernel
theorem d_M_combine_108 : decode b_M_combine 108 = .ok (.iconst 1, 1) := by decide +kernel
theorem d_M_combine_109 : decode b_M_combine 109 = .ok (.goto 4, 3) := by decide +kernel
theorem d_M_combine_112 : decode b_M_combine 112 = .ok (.iconst 0, 1) := by decide +kernel
theorem d_M_combine_113 : decode b_M_combine 113 = .ok (.istore 6, 2) := by decide +kernel
theorem d_M_combine_115 : decode b_M_combine 115 = .ok (.iload 6, 2) := by decide +kernel
theorem d_M_combine_117 : decode b_M_combine 117 = .ok (.ifCond .eq 16, 3) := by decide +kernel
theorem d_M_combine_120 : decode b_M_combine 120 = .ok (.aload_n 0, 1) := by decide +kernel
theorem d_M_combine_121 : decode b_M_combine 121 = .ok (.getfield 13, 3) := by decide +kernel
theorem d_M_combine_124 : decode b_M_combine 124 = .ok (.iload 4, 2) := by decide +kernel
theorem d_M_combine_126 : decode b_M_combine 126 = .ok (.iaload, 1) := by decide +kernel
theorem d_M_combine_127 : decode b_M_combine 127 = .ok (.ifCond .ne 6, 3) := by decide +kernel
theorem d_M_combine_130 : decode b_M_combine 130 = .ok (.bipush (-2), 2) := by decide +kernel
theorem d_M_combine_132 : decode b_M_combine 132 = .ok (.ireturn, 1) := by decide +kernel
theorem d_M_combine_133 : decode b_M_combine 133 = .ok (.iload_n 2, 1) := by decide +kernel
theorem d_M_combine_134 : decode b_M_combine 134 = .ok (.tableswitch 252 0 7 #[46, 46, 111, 141, 171, 193, 215, 243], 46) := by decide +kernel
theorem d_M_combine_180 : decode b_M_combine 180 = .ok (.aload_n 0, 1) := by decide +kernel
theorem d_M_combine_181 : decode b_M_combine 181 = .ok (.bipush 39, 2) := by decide +kernel
theorem d_M_combine_183 : decode b_M_combine 183 = .ok (.iload_n 3, 1) := by decide +kernel
theorem d_M_combine_184 : decode b_M_combine 184 = .ok (.iload 4, 2) := by decide +kernel
theorem d_M_combine_186 : decode b_M_combine 186 = .ok (.invokestatic 82, 3) := by decide +kernel
theorem d_M_combine_189 : decode b_M_combine 189 = .ok (.invokevirtual 92, 3) := by decide +kernel
theorem d_M_combine_192 : decode b_M_combine 192 = .ok (.aload_n 0, 1) := by decide +kernel
theorem d_M_combine_193 : decode b_M_combine 193 = .ok (.bipush 40, 2) := by decide +kernel
theorem d_M_combine_195 : decode b_M_combine 195 = .ok (.iload 4, 2) := by decide +kernel
theorem d_M_combine_197 : decode b_M_combine 197 = .ok (.iload_n 3, 1) := by decide +kernel
theorem d_M_combine_198 : decode b_M_combine 198 = .ok (.invokestatic 82, 3) := by decide +kernel
theorem d_M_combine_201 : decode b_M_combine 201 = .ok (.invokevirtual 92, 3) := by decide +kernel
theorem d_M_combine_204 : decode b_M_combine 204 = .ok (.aload_n 0, 1) := by decide +kernel
theorem d_M_combine_205 : decode b_M_combine 205 = .ok (.bipush 32, 2) := by decide +kernel
theorem d_M_combine_207 : decode b_M_combine 207 = .ok (.bipush 39, 2) := by decide +kernel
theorem d_M_combine_209 : decode b_M_combine 209 = .ok (.bipush 40, 2) := by decide +kernel
theorem d_M_combine_211 : decode b_M_combine 211 = .ok (.iload_n 2, 1) := by decide +kernel
theorem d_M_combine_212 : decode b_M_combine 212 = .ok (.iconst 1, 1) := by decide +kernel
theorem d_M_combine_213 : decode b_M_combine 213 = .ok (.if_icmp .ne 7, 3) := by decide +kernel
theorem d_M_combine_216 : decode b_M_combine 216 = .ok (.iconst 1, 1) := by decide +kernel
theorem d_M_combine_217 : decode b_M_combine 217 = .ok (.goto 4, 3) := by decide +kernel
theorem d_M_combine_220 : decode b_M_combine 220 = .ok (.iconst 0, 1) := by decide +kernel
theorem d_M_combine_221 : decode b_M_combine 221 = .ok (.invokevirtual 75, 3) := by decide +kernel
theorem d_M_combine_224 : decode b_M_combine 224 = .ok (.aload_n 0, 1) := by decide +kernel
theorem d_M_combine_225 : decode b_M_combine 225 = .ok (.bipush 33, 2) := by decide +kernel
theorem d_M_combine_227 : decode b_M_combine 227 = .ok (.iload_n 3, 1) := by decide +kernel
theorem d_M_combine_228 : decode b_M_combine 228 = .ok (.invokestatic 82, 3) := by decide +kernel
theorem d_M_combine_231 : decode b_M_combine 231 = .ok (.iload 4, 2) := by decide +kernel
theorem d_M_combine_233 : decode b_M_combine 233 = .ok (.invokestatic 82, 3) := by decide +kernel
theorem d_M_combine_236 : decode b_M_combine 236 = .ok (.invokevirtual 92, 3) := by decide +kernel
theorem d_M_combine_239 : decode b_M_combine 239 = .ok (.aload_n 0, 1) := by decide +kernel
theorem d_M_combine_240 : decode b_M_combine 240 = .ok (.iload_n 1, 1) := by decide +kernel
theorem d_M_combine_241 : decode b_M_combine 241 = .ok (.invokevirtual 89, 3) := by decide +kernel
theorem d_M_combine_244 : decode b_M_combine 244 = .ok (.ireturn, 1) := by decide +kernel
theorem d_M_combine_245 : decode b_M_combine 245 = .ok (.aload_n 0, 1) := by decide +kernel
theorem d_M_combine_246 : decode b_M_combine 246 = .ok (.bipush 32, 2) := by decide +kernel
theorem d_M_combine_248 : decode b_M_combine 248 = .ok (.iload_n 3, 1) := by decide +kernel
theorem d_M_combine_249 : decode b_M_combine 249 = .ok (.iload 4, 2) := by decide +kernel
theorem d_M_combine_251 : decode b_M_combine 251 = .ok (.invokevirtual 92, 3) := by decide +kernel
theorem d_M_combine_254 : decode b_M_combine 254 = .ok (.aload_n 0, 1) := by decide +kernel
theorem d_M_combine_255 : decode b_M_combine 255 = .ok (.bipush 33, 2) := by decide +kernel
theorem d_M_combine_257 : decode b_M_combine 257 = .ok (.iload_n 3, 1) := by decide +kernel
theorem d_M_combine_258 : decode b_M_combine 258 = .ok (.invokestatic 82, 3) := by decide +kernel
theorem d_M_combine_261 : decode b_M_combine 261 = .ok (.iload 4, 2) := by decide +kernel
theorem d_M_combine_263 : decode b_M_combine 263 = .ok (.invokestatic 82, 3) := by decide +kernel
theorem d_M_combine_266 : decode b_M_combine 266 = .ok (.invokevirtual 92, 3) := by decide +kernel
theorem d_M_combine_269 : decode b_M_combine 269 = .ok (.aload_n 0, 1) := by decide +kernel
theorem d_M_combine_270 : decode b_M_combine 270 = .ok (.iload_n 1, 1) := by decide +kernel
theorem d_M_combine_271 : decode b_M_combine 271 = .ok (.invokevirtual 89, 3) := by decide +kernel
theorem d_M_combine_274 : decode b_M_combine 274 = .ok (.ireturn, 1) := by decide +kernel
theorem d_M_combine_275 : decode b_M_combine 275 = .ok (.aload_n 0, 1) := by decide +kernel
theorem d_M_combine_276 : decode b_M_combine 276 = .ok (.bipush 32, 2) := by decide +kernel
theorem d_M_combine_278 : decode b_M_combine 278 = .ok (.iload_n 3, 1) := by decide +kernel
theorem d_M_combine_279 : decode b_M_combine 279 = .ok (.iload 4, 2) := by decide +kernel
theorem d_M_combine_281 : decode b_M_combine 281 = .ok (.invokestatic 82, 3) := by decide +kernel
theorem d_M_combine_284 : decode b_M_combine 284 = .ok (.invokevirtual 92, 3) := by decide +kernel
theorem d_M_combine_287 : decode b_M_combine 287 = .ok (.aload_n 0, 1) := by decide +kernel
theorem d_M_combine_288 : decode b_M_combine 288 = .ok (.bipush 33, 2) := by decide +kernel
theorem d_M_combine_290 : decode b_M_combine 290 = .ok (.iload_n 3, 1) := by decide +kernel
theorem d_M_combine_291 : decode b_M_combine 291 = .ok (.invokestatic 82, 3) := by decide +kernel
theorem d_M_combine_294 : decode b_M_combine 294 = .ok (.iload 4, 2) := by decide +kernel
theorem d_M_combine_296 : decode b_M_combine 296 = .ok (.invokevirtual 92, 3) := by decide +kernel
theorem d_M_combine_299 : decode b_M_combine 299 = .ok (.aload_n 0, 1) := by decide +kernel
theorem d_M_combine_300 : decode b_M_combine 300 = .ok (.iload_n 1, 1) := by decide +kernel
theorem d_M_combine_301 : decode b_M_combine 301 = .ok (.invokevirtual 89, 3) := by decide +kernel
theorem d_M_combine_304 : decode b_M_combine 304 = .ok (.ireturn, 1) := by decide +kernel
theorem d_M_combine_305 : decode b_M_combine 305 = .ok (.aload_n 0, 1) := by decide +kernel
theorem d_M_combine_306 : decode b_M_combine 306 = .ok (.iload_n 1, 1) := by decide +kernel
theorem d_M_combine_307 : decode b_M_combine 307 = .ok (.aload_n 0, 1) := by decide +kernel
theorem d_M_combine_308 : decode b_M_combine 308 = .ok (.iload_n 3, 1) := by decide +kernel
theorem d_M_combine_309 : decode b_M_combine 309 = .ok (.iload 4, 2) := by decide +kernel
theorem d_M_combine_311 : decode b_M_combine 311 = .ok (.invokevirtual 101, 3) := by decide +kernel
theorem d_M_combine_314 : decode b_M_combine 314 = .ok (.ifCond .gt 7, 3) := by decide +kernel
theorem d_M_combine_317 : decode b_M_combine 317 = .ok (.iload_n 3, 1) := by decide +kernel
theorem d_M_combine_318 : decode b_M_combine 318 = .ok (.goto 5, 3) := by decide +kernel
theorem d_M_combine_321 : decode b_M_combine 321 = .ok (.iload 4, 2) := by decide +kernel
theorem d_M_combine_323 : decode b_M_combine 323 = .ok (.invokevirtual 104, 3) := by decide +kernel
theorem d_M_combine_326 : decode b_M_combine 326 = .ok (.ireturn, 1) := by decide +kernel
theorem d_M_combine_327 : decode b_M_combine 327 = .ok (.aload_n 0, 1) := by decide +kernel
theorem d_M_combine_328 : decode b_M_combine 328 = .ok (.iload_n 1, 1) := by decide +kernel
theorem d_M_combine_329 : decode b_M_combine 329 = .ok (.aload_n 0, 1) := by decide +kernel
theorem d_M_combine_330 : decode b_M_combine 330 = .ok (.iload_n 3, 1) := by decide +kernel
theorem d_M_combine_331 : decode b_M_combine 331 = .ok (.iload 4, 2) := by decide +kernel
theorem d_M_combine_333 : decode b_M_combine 333 = .ok (.invokevirtual 101, 3) := by decide +kernel
theorem d_M_combine_336 : decode b_M_combine 336 = .ok (.ifCond .lt 7, 3) := by decide +kernel
theorem d_M_combine_339 : decode b_M_combine 339 = .ok (.iload_n 3, 1) := by decide +kernel
theorem d_M_combine_340 : decode b_M_combine 340 = .ok (.goto 5, 3) := by decide +kernel
theorem d_M_combine_343 : decode b_M_combine 343 = .ok (.iload 4, 2) := by decide +kernel
theorem d_M_combine_345 : decode b_M_combine 345 = .ok (.invokevirtual 104, 3) := by decide +kernel
theorem d_M_combine_348 : decode b_M_combine 348 = .ok (.ireturn, 1) := by decide +kernel
theorem d_M_combine_349 : decode b_M_combine 349 = .ok (.aload_n 0, 1) := by decide +kernel
theorem d_M_combine_350 : decode b_M_combine 350 = .ok (.iload_n 3, 1) := by decide +kernel
theorem d_M_combine_351 : decode b_M_combine 351 = .ok (.iload 4, 2) := by decide +kernel
theorem d_M_combine_353 : decode b_M_combine 353 = .ok (.invokevirtual 107, 3) := by decide +kernel
theorem d_M_combine_356 : decode b_M_combine 356 = .ok (.aload_n 0, 1) := by decide +kernel
theorem d_M_combine_357 : decode b_M_combine 357 = .ok (.bipush 32, 2) := by decide +kernel
theorem d_M_combine_359 : decode b_M_combine 359 = .ok (.bipush 41, 2) := by decide +kernel
theorem d_M_combine_361 : decode b_M_combine 361 = .ok (.invokevirtual 55, 3) := by decide +kernel
theorem d_M_combine_364 : decode b_M_combine 364 = .ok (.aload_n 0, 1) := by decide +kernel
theorem d_M_combine_365 : decode b_M_combine 365 = .ok (.bipush 33, 2) := by decide +kernel
theorem d_M_combine_367 : decode b_M_combine 367 = .ok (.lconst 1, 1) := by decide +kernel
theorem d_M_combine_368 : decode b_M_combine 368 = .ok (.invokevirtual 30, 3) := by decide +kernel
theorem d_M_combine_371 : decode b_M_combine 371 = .ok (.aload_n 0, 1) := by decide +kernel
theorem d_M_combine_372 : decode b_M_combine 372 = .ok (.iload_n 1, 1) := by decide +kernel
theorem d_M_combine_373 : decode b_M_combine 373 = .ok (.invokevirtual 89, 3) := by decide +kernel
theorem d_M_combine_376 : decode b_M_combine 376 = .ok (.ireturn, 1) := by decide +kernel
theorem d_M_combine_377 : decode b_M_combine 377 = .ok (.aload_n 0, 1) := by decide +kernel
theorem d_M_combine_378 : decode b_M_combine 378 = .ok (.iload_n 1, 1) := by decide +kernel
theorem d_M_combine_379 : decode b_M_combine 379 = .ok (.iload_n 3, 1) := by decide +kernel
theorem d_M_combine_380 : decode b_M_combine 380 = .ok (.iload 4, 2) := by decide +kernel
theorem d_M_combine_382 : decode b_M_combine 382 = .ok (.invokevirtual 110, 3) := by decide +kernel
theorem d_M_combine_385 : decode b_M_combine 385 = .ok (.ireturn, 1) := by decide +kernel
theorem d_M_combine_386 : decode b_M_combine 386 = .ok (.aload_n 0, 1) := by decide +kernel
theorem d_M_combine_387 : decode b_M_combine 387 = .ok (.iload_n 3, 1) := by decide +kernel
theorem d_M_combine_388 : decode b_M_combine 388 = .ok (.iload 4, 2) := by decide +kernel
theorem d_M_combine_390 : decode b_M_combine 390 = .ok (.invokevirtual 79, 3) := by decide +kernel
theorem d_M_combine_393 : decode b_M_combine 393 = .ok (.aload_n 0, 1) := by decide +kernel
theorem d_M_combine_394 : decode b_M_combine 394 = .ok (.bipush 32, 2) := by decide +kernel
theorem d_M_combine_396 : decode b_M_combine 396 = .ok (.bipush 34, 2) := by decide +kernel
theorem d_M_combine_398 : decode b_M_combine 398 = .ok (.invokevirtual 55, 3) := by decide +kernel
theorem d_M_combine_401 : decode b_M_combine 401 = .ok (.aload_n 0, 1) := by decide +kernel
theorem d_M_combine_402 : decode b_M_combine 402 = .ok (.bipush 33, 2) := by decide +kernel
theorem d_M_combine_404 : decode b_M_combine 404 = .ok (.lconst 1, 1) := by decide +kernel
theorem d_M_combine_405 : decode b_M_combine 405 = .ok (.invokevirtual 30, 3) := by decide +kernel
theorem d_M_combine_408 : decode b_M_combine 408 = .ok (.aload_n 0, 1) := by decide +kernel
theorem d_M_combine_409 : decode b_M_combine 409 = .ok (.iload_n 1, 1) := by decide +kernel
theorem d_M_combine_410 : decode b_M_combine 410 = .ok (.invokevirtual 89, 3) := by decide +kernel
theorem d_M_combine_413 : decode b_M_combine 413 = .ok (.ireturn, 1) := by decide +kernel
theorem d_M_isOne_0 : decode b_M_isOne 0 = .ok (.aload_n 0, 1) := by decide +kernel
theorem d_M_isOne_1 : decode b_M_isOne 1 = .ok (.getfield 13, 3) := by decide +kernel
theorem d_M_isOne_4 : decode b_M_isOne 4 = .ok (.iload_n 1, 1) := by decide +kernel
theorem d_M_isOne_5 : decode b_M_isOne 5 = .ok (.iaload, 1) := by decide +kernel
theorem d_M_isOne_6 : decode b_M_isOne 6 = .ok (.iconst 1, 1) := by decide +kernel
theorem d_M_isOne_7 : decode b_M_isOne 7 = .ok (.if_icmp .ne 30, 3) := by decide +kernel
theorem d_M_isOne_10 : decode b_M_isOne 10 = .ok (.aload_n 0, 1) := by decide +kernel
theorem d_M_isOne_11 : decode b_M_isOne 11 = .ok (.getfield 7, 3) := by decide +kernel
theorem d_M_isOne_14 : decode b_M_isOne 14 = .ok (.sipush 300, 3) := by decide +kernel
theorem d_M_isOne_17 : decode b_M_isOne 17 = .ok (.iload_n 1, 1) := by decide +kernel
theorem d_M_isOne_18 : decode b_M_isOne 18 = .ok (.imul, 1) := by decide +kernel
theorem d_M_isOne_19 : decode b_M_isOne 19 = .ok (.iaload, 1) := by decide +kernel
theorem d_M_isOne_20 : decode b_M_isOne 20 = .ok (.iconst 1, 1) := by decide +kernel
theorem d_M_isOne_21 : decode b_M_isOne 21 = .ok (.if_icmp .ne 16, 3) := by decide +kernel
theorem d_M_isOne_24 : decode b_M_isOne 24 = .ok (.aload_n 0, 1) := by decide +kernel
theorem d_M_isOne_25 : decode b_M_isOne 25 = .ok (.getfield 16, 3) := by decide +kernel
theorem d_M_isOne_28 : decode b_M_isOne 28 = .ok (.iload_n 1, 1) := by decide +kernel
theorem d_M_isOne_29 : decode b_M_isOne 29 = .ok (.baload, 1) := by decide +kernel
theorem d_M_isOne_30 : decode b_M_isOne 30 = .ok (.ifCond .ne 7, 3) := by decide +kernel
theorem d_M_isOne_33 : decode b_M_isOne 33 = .ok (.iconst 1, 1) := by decide +kernel
theorem d_M_isOne_34 : decode b_M_isOne 34 = .ok (.goto 4, 3) := by decide +kernel
theorem d_M_isOne_37 : decode b_M_isOne 37 = .ok (.iconst 0, 1) := by decide +kernel
theorem d_M_isOne_38 : decode b_M_isOne 38 = .ok (.ireturn, 1) := by decide +kernel
theorem d_M_times_0 : decode b_M_times 0 = .ok (.aload_n 0, 1) := by decide +kernel
theorem d_M_times_1 : decode b_M_times 1 = .ok (.getfield 13, 3) := by decide +kernel
theorem d_M_times_4 : decode b_M_times 4 = .ok (.iload_n 2, 1) := by decide +kernel
theorem d_M_times_5 : decode b_M_times 5 = .ok (.iaload, 1) := by decide +kernel
theorem d_M_times_6 : decode b_M_times 6 = .ok (.aload_n 0, 1) := by decide +kernel
theorem d_M_times_7 : decode b_M_times 7 = .ok (.getfield 13, 3) := by decide +kernel
theorem d_M_times_10 : decode b_M_times 10 = .ok (.iload_n 3, 1) := by decide +kernel
theorem d_M_times_11 : decode b_M_times 11 = .ok (.iaload, 1) := by decide +kernel
theorem d_M_times_12 : decode b_M_times 12 = .ok (.iadd, 1) := by decide +kernel
theorem d_M_times_13 : decode b_M_times 13 = .ok (.istore 4, 2) := by decide +kernel
theorem d_M_times_15 : decode b_M_times 15 = .ok (.iconst 0, 1) := by decide +kernel
theorem d_M_times_16 : decode b_M_times 16 = .ok (.istore 5, 2) := by decide +kernel
theorem d_M_times_18 : decode b_M_times 18 = .ok (.iload 5, 2) := by decide +kernel
theorem d_M_times_20 : decode b_M_times 20 = .ok (.iload 4, 2) := by decide +kernel
theorem d_M_times_22 : decode b_M_times 22 = .ok (.if_icmp .ge 23, 3) := by decide +kernel
theorem d_M_times_25 : decode b_M_times 25 = .ok (.aload_n 0, 1) := by decide +kernel
theorem d_M_times_26 : decode b_M_times 26 = .ok (.getfield 7, 3) := by decide +kernel
theorem d_M_times_29 : decode b_M_times 29 = .ok (.sipush 300, 3) := by decide +kernel
theorem d_M_times_32 : decode b_M_times 32 = .ok (.iload_n 1, 1) := by decide +kernel
theorem d_M_times_33 : decode b_M_times 33 = .ok (.imul, 1) := by decide +kernel
theorem d_M_times_34 : decode b_M_times 34 = .ok (.iload 5, 2) := by decide +kernel
theorem d_M_times_36 : decode b_M_times 36 = .ok (.iadd, 1) := by decide +kernel
theorem d_M_times_37 : decode b_M_times 37 = .ok (.iconst 0, 1) := by decide +kernel
theorem d_M_times_38 : decode b_M_times 38 = .ok (.iastore, 1) := by decide +kernel
theorem d_M_times_39 : decode b_M_times 39 = .ok (.iinc 5 1, 3) := by decide +kernel
theorem d_M_times_42 : decode b_M_times 42 = .ok (.goto (-24), 3) := by decide +kernel
theorem d_M_times_45 : decode b_M_times 45 = .ok (.iconst 0, 1) := by decide +kernel
theorem d_M_times_46 : decode b_M_times 46 = .ok (.istore 5, 2) := by decide +kernel
theorem d_M_times_48 : decode b_M_times 48 = .ok (.iload 5, 2) := by decide +kernel
theorem d_M_times_50 : decode b_M_times 50 = .ok (.aload_n 0, 1) := by decide +kernel
theorem d_M_times_51 : decode b_M_times 51 = .ok (.getfield 13, 3) := by decide +kernel
theorem d_M_times_54 : decode b_M_times 54 = .ok (.iload_n 2, 1) := by decide +kernel
theorem d_M_times_55 : decode b_M_times 55 = .ok (.iaload, 1) := by decide +kernel
theorem d_M_times_56 : decode b_M_times 56 = .ok (.if_icmp .ge 138, 3) := by decide +kernel
theorem d_M_times_59 : decode b_M_times 59 = .ok (.lconst 0, 1) := by decide +kernel
theorem d_M_times_60 : decode b_M_times 60 = .ok (.lstore 6, 2) := by decide +kernel
theorem d_M_times_62 : decode b_M_times 62 = .ok (.iconst 0, 1) := by decide +kernel
theorem d_M_times_63 : decode b_M_times 63 = .ok (.istore 8, 2) := by decide +kernel
theorem d_M_times_65 : decode b_M_times 65 = .ok (.iload 8, 2) := by decide +kernel
theorem d_M_times_67 : decode b_M_times 67 = .ok (.aload_n 0, 1) := by decide +kernel
theorem d_M_times_68 : decode b_M_times 68 = .ok (.getfield 13, 3) := by decide +kernel
theorem d_M_times_71 : decode b_M_times 71 = .ok (.iload_n 3, 1) := by decide +kernel
theorem d_M_times_72 : decode b_M_times 72 = .ok (.iaload, 1) := by decide +kernel
theorem d_M_times_73 : decode b_M_times 73 = .ok (.if_icmp .ge 92, 3) := by decide +kernel
theorem d_M_times_76 : decode b_M_times 76 = .ok (.aload_n 0, 1) := by decide +kernel
theorem d_M_times_77 : decode b_M_times 77 = .ok (.getfield 7, 3) := by decide +kernel
theorem d_M_times_80 : decode b_M_times 80 = .ok (.sipush 300, 3) := by decide +kernel
theorem d_M_times_83 : decode b_M_times 83 = .ok (.iload_n 2, 1) := by decide +kernel
theorem d_M_times_84 : decode b_M_times 84 = .ok (.imul, 1) := by decide +kernel
theorem d_M_times_85 : decode b_M_times 85 = .ok (.iload 5, 2) := by decide +kernel
theorem d_M_times_87 : decode b_M_times 87 = .ok (.iadd, 1) := by decide +kernel
theorem d_M_times_88 : decode b_M_times 88 = .ok (.iaload, 1) := by decide +kernel
theorem d_M_times_89 : decode b_M_times 89 = .ok (.i2l, 1) := by decide +kernel
theorem d_M_times_90 : decode b_M_times 90 = .ok (.aload_n 0, 1) := by decide +kernel
theorem d_M_times_91 : decode b_M_times 91 = .ok (.getfield 7, 3) := by decide +kernel
theorem d_M_times_94 : decode b_M_times 94 = .ok (.sipush 300, 3) := by decide +kernel
theorem d_M_times_97 : decode b_M_times 97 = .ok (.iload_n 3, 1) := by decide +kernel
theorem d_M_times_98 : decode b_M_times 98 = .ok (.imul, 1) := by decide +kernel
theorem d_M_times_99 : decode b_M_times 99 = .ok (.iload 8, 2) := by decide +kernel
theorem d_M_times_101 : decode b_M_times 101 = .ok (.iadd, 1) := by decide +kernel
theorem d_M_times_102 : decode b_M_times 102 = .ok (.iaload, 1) := by decide +kernel
theorem d_M_times_103 : decode b_M_times 103 = .ok (.i2l, 1) := by decide +kernel
theorem d_M_times_104 : decode b_M_times 104 = .ok (.lmul, 1) := by decide +kernel
theorem d_M_times_105 : decode b_M_times 105 = .ok (.aload_n 0, 1) := by decide +kernel
theorem d_M_times_106 : decode b_M_times 106 = .ok (.getfield 7, 3) := by decide +kernel
theorem d_M_times_109 : decode b_M_times 109 = .ok (.sipush 300, 3) := by decide +kernel
theorem d_M_times_112 : decode b_M_times 112 = .ok (.iload_n 1, 1) := by decide +kernel
theorem d_M_times_113 : decode b_M_times 113 = .ok (.imul, 1) := by decide +kernel
theorem d_M_times_114 : decode b_M_times 114 = .ok (.iload 5, 2) := by decide +kernel
theorem d_M_times_116 : decode b_M_times 116 = .ok (.iadd, 1) := by decide +kernel
theorem d_M_times_117 : decode b_M_times 117 = .ok (.iload 8, 2) := by decide +kernel
theorem d_M_times_119 : decode b_M_times 119 = .ok (.iadd, 1) := by decide +kernel
theorem d_M_times_120 : decode b_M_times 120 = .ok (.iaload, 1) := by decide +kernel
theorem d_M_times_121 : decode b_M_times 121 = .ok (.i2l, 1) := by decide +kernel
theorem d_M_times_122 : decode b_M_times 122 = .ok (.ladd, 1) := by decide +kernel
theorem d_M_times_123 : decode b_M_times 123 = .ok (.lload 6, 2) := by decide +kernel
theorem d_M_times_125 : decode b_M_times 125 = .ok (.ladd, 1) := by decide +kernel
theorem d_M_times_126 : decode b_M_times 126 = .ok (.lstore 9, 2) := by decide +kernel
theorem d_M_times_128 : decode b_M_times 128 = .ok (.aload_n 0, 1) := by decide +kernel
theorem d_M_times_129 : decode b_M_times 129 = .ok (.getfield 7, 3) := by decide +kernel
theorem d_M_times_132 : decode b_M_times 132 = .ok (.sipush 300, 3) := by decide +kernel
theorem d_M_times_135 : decode b_M_times 135 = .ok (.iload_n 1, 1) := by decide +kernel
theorem d_M_times_136 : decode b_M_times 136 = .ok (.imul, 1) := by decide +kernel
theorem d_M_times_137 : decode b_M_times 137 = .ok (.iload 5, 2) := by decide +kernel
theorem d_M_times_139 : decode b_M_times 139 = .ok (.iadd, 1) := by decide +kernel
theorem d_M_times_140 : decode b_M_times 140 = .ok (.iload 8, 2) := by decide +kernel
theorem d_M_times_142 : decode b_M_times 142 = .ok (.iadd, 1) := by decide +kernel
theorem d_M_times_143 : decode b_M_times 143 = .ok (.lload 9, 2) := by decide +kernel
theorem d_M_times_145 : decode b_M_times 145 = .ok (.ldc2_w 37, 3) := by decide +kernel
theorem d_M_times_148 : decode b_M_times 148 = .ok (.lrem, 1) := by decide +kernel
theorem d_M_times_149 : decode b_M_times 149 = .ok (.l2i, 1) := by decide +kernel
theorem d_M_times_150 : decode b_M_times 150 = .ok (.iastore, 1) := by decide +kernel
theorem d_M_times_151 : decode b_M_times 151 = .ok (.lload 9, 2) := by decide +kernel
theorem d_M_times_153 : decode b_M_times 153 = .ok (.ldc2_w 37, 3) := by decide +kernel
theorem d_M_times_156 : decode b_M_times 156 = .ok (.ldiv, 1) := by decide +kernel
theorem d_M_times_157 : decode b_M_times 157 = .ok (.lstore 6, 2) := by decide +kernel
theorem d_M_times_159 : decode b_M_times 159 = .ok (.iinc 8 1, 3) := by decide +kernel
theorem d_M_times_162 : decode b_M_times 162 = .ok (.goto (-97), 3) := by decide +kernel
theorem d_M_times_165 : decode b_M_times 165 = .ok (.aload_n 0, 1) := by decide +kernel
theorem d_M_times_166 : decode b_M_times 166 = .ok (.getfield 7, 3) := by decide +kernel
theorem d_M_times_169 : decode b_M_times 169 = .ok (.sipush 300, 3) := by decide +kernel
theorem d_M_times_172 : decode b_M_times 172 = .ok (.iload_n 1, 1) := by decide +kernel
theorem d_M_times_173 : decode b_M_times 173 = .ok (.imul, 1) := by decide +kernel
theorem d_M_times_174 : decode b_M_times 174 = .ok (.iload 5, 2) := by decide +kernel
theorem d_M_times_176 : decode b_M_times 176 = .ok (.iadd, 1) := by decide +kernel
theorem d_M_times_177 : decode b_M_times 177 = .ok (.aload_n 0, 1) := by decide +kernel
theorem d_M_times_178 : decode b_M_times 178 = .ok (.getfield 13, 3) := by decide +kernel
theorem d_M_times_181 : decode b_M_times 181 = .ok (.iload_n 3, 1) := by decide +kernel
theorem d_M_times_182 : decode b_M_times 182 = .ok (.iaload, 1) := by decide +kernel
theorem d_M_times_183 : decode b_M_times 183 = .ok (.iadd, 1) := by decide +kernel
theorem d_M_times_184 : decode b_M_times 184 = .ok (.lload 6, 2) := by decide +kernel
theorem d_M_times_186 : decode b_M_times 186 = .ok (.l2i, 1) := by decide +kernel
theorem d_M_times_187 : decode b_M_times 187 = .ok (.iastore, 1) := by decide +kernel
theorem d_M_times_188 : decode b_M_times 188 = .ok (.iinc 5 1, 3) := by decide +kernel
theorem d_M_times_191 : decode b_M_times 191 = .ok (.goto (-143), 3) := by decide +kernel
theorem d_M_times_194 : decode b_M_times 194 = .ok (.aload_n 0, 1) := by decide +kernel
theorem d_M_times_195 : decode b_M_times 195 = .ok (.getfield 13, 3) := by decide +kernel
theorem d_M_times_198 : decode b_M_times 198 = .ok (.iload_n 1, 1) := by decide +kernel
theorem d_M_times_199 : decode b_M_times 199 = .ok (.iload 4, 2) := by decide +kernel
theorem d_M_times_201 : decode b_M_times 201 = .ok (.iastore, 1) := by decide +kernel
theorem d_M_times_202 : decode b_M_times 202 = .ok (.aload_n 0, 1) := by decide +kernel
theorem d_M_times_203 : decode b_M_times 203 = .ok (.getfield 16, 3) := by decide +kernel
theorem d_M_times_206 : decode b_M_times 206 = .ok (.iload_n 1, 1) := by decide +kernel
theorem d_M_times_207 : decode b_M_times 207 = .ok (.aload_n 0, 1) := by decide +kernel
theorem d_M_times_208 : decode b_M_times 208 = .ok (.getfield 16, 3) := by decide +kernel
theorem d_M_times_211 : decode b_M_times 211 = .ok (.iload_n 2, 1) := by decide +kernel
end
section
/-! the instructions, by program -/
theorem d_M_times_212 : decode b_M_times 212 = .ok (.baload, 1) := by decide +kernel
theorem d_M_times_213 : decode b_M_times 213 = .ok (.aload_n 0, 1) := by decide +kernel
theorem d_M_times_214 : decode b_M_times 214 = .ok (.getfield 16, 3) := by decide +kernel
theorem d_M_times_217 : decode b_M_times 217 = .ok (.iload_n 3, 1) := by decide +kernel
theorem d_M_times_218 : decode b_M_times 218 = .ok (.baload, 1) := by decide +kernel
theorem d_M_times_219 : decode b_M_times 219 = .ok (.if_icmp .eq 7, 3) := by decide +kernel
theorem d_M_times_222 : decode b_M_times 222 = .ok (.iconst 1, 1) := by decide +kernel
theorem d_M_times_223 : decode b_M_times 223 = .ok (.goto 4, 3) := by decide +kernel
theorem d_M_times_226 : decode b_M_times 226 = .ok (.iconst 0, 1) := by decide +kernel
theorem d_M_times_227 : decode b_M_times 227 = .ok (.bastore, 1) := by decide +kernel
theorem d_M_times_228 : decode b_M_times 228 = .ok (.aload_n 0, 1) := by decide +kernel
theorem d_M_times_229 : decode b_M_times 229 = .ok (.iload_n 1, 1) := by decide +kernel
theorem d_M_times_230 : decode b_M_times 230 = .ok (.invokevirtual 39, 3) := by decide +kernel
theorem d_M_times_233 : decode b_M_times 233 = .ok (.return_, 1) := by decide +kernel
theorem d_M_join_0 : decode b_M_join 0 = .ok (.aload_n 0, 1) := by decide +kernel
theorem d_M_join_1 : decode b_M_join 1 = .ok (.getfield 16, 3) := by decide +kernel
theorem d_M_join_4 : decode b_M_join 4 = .ok (.iload_n 2, 1) := by decide +kernel
theorem d_M_join_5 : decode b_M_join 5 = .ok (.baload, 1) := by decide +kernel
theorem d_M_join_6 : decode b_M_join 6 = .ok (.istore 5, 2) := by decide +kernel
theorem d_M_join_8 : decode b_M_join 8 = .ok (.aload_n 0, 1) := by decide +kernel
theorem d_M_join_9 : decode b_M_join 9 = .ok (.getfield 16, 3) := by decide +kernel
theorem d_M_join_12 : decode b_M_join 12 = .ok (.iload_n 3, 1) := by decide +kernel
theorem d_M_join_13 : decode b_M_join 13 = .ok (.baload, 1) := by decide +kernel
theorem d_M_join_14 : decode b_M_join 14 = .ok (.iload 4, 2) := by decide +kernel
theorem d_M_join_16 : decode b_M_join 16 = .ok (.if_icmp .eq 7, 3) := by decide +kernel
theorem d_M_join_19 : decode b_M_join 19 = .ok (.iconst 1, 1) := by decide +kernel
theorem d_M_join_20 : decode b_M_join 20 = .ok (.goto 4, 3) := by decide +kernel
theorem d_M_join_23 : decode b_M_join 23 = .ok (.iconst 0, 1) := by decide +kernel
theorem d_M_join_24 : decode b_M_join 24 = .ok (.istore 6, 2) := by decide +kernel
theorem d_M_join_26 : decode b_M_join 26 = .ok (.iload 5, 2) := by decide +kernel
theorem d_M_join_28 : decode b_M_join 28 = .ok (.iload 6, 2) := by decide +kernel
theorem d_M_join_30 : decode b_M_join 30 = .ok (.if_icmp .ne 21, 3) := by decide +kernel
theorem d_M_join_33 : decode b_M_join 33 = .ok (.aload_n 0, 1) := by decide +kernel
theorem d_M_join_34 : decode b_M_join 34 = .ok (.iload_n 1, 1) := by decide +kernel
theorem d_M_join_35 : decode b_M_join 35 = .ok (.iload_n 2, 1) := by decide +kernel
theorem d_M_join_36 : decode b_M_join 36 = .ok (.iload_n 3, 1) := by decide +kernel
theorem d_M_join_37 : decode b_M_join 37 = .ok (.invokevirtual 44, 3) := by decide +kernel
theorem d_M_join_40 : decode b_M_join 40 = .ok (.aload_n 0, 1) := by decide +kernel
theorem d_M_join_41 : decode b_M_join 41 = .ok (.getfield 16, 3) := by decide +kernel
theorem d_M_join_44 : decode b_M_join 44 = .ok (.iload_n 1, 1) := by decide +kernel
theorem d_M_join_45 : decode b_M_join 45 = .ok (.iload 5, 2) := by decide +kernel
theorem d_M_join_47 : decode b_M_join 47 = .ok (.bastore, 1) := by decide +kernel
theorem d_M_join_48 : decode b_M_join 48 = .ok (.goto 45, 3) := by decide +kernel
theorem d_M_join_51 : decode b_M_join 51 = .ok (.aload_n 0, 1) := by decide +kernel
theorem d_M_join_52 : decode b_M_join 52 = .ok (.iload_n 2, 1) := by decide +kernel
theorem d_M_join_53 : decode b_M_join 53 = .ok (.iload_n 3, 1) := by decide +kernel
theorem d_M_join_54 : decode b_M_join 54 = .ok (.invokevirtual 48, 3) := by decide +kernel
theorem d_M_join_57 : decode b_M_join 57 = .ok (.ifCond .lt 21, 3) := by decide +kernel
theorem d_M_join_60 : decode b_M_join 60 = .ok (.aload_n 0, 1) := by decide +kernel
theorem d_M_join_61 : decode b_M_join 61 = .ok (.iload_n 1, 1) := by decide +kernel
theorem d_M_join_62 : decode b_M_join 62 = .ok (.iload_n 2, 1) := by decide +kernel
theorem d_M_join_63 : decode b_M_join 63 = .ok (.iload_n 3, 1) := by decide +kernel
theorem d_M_join_64 : decode b_M_join 64 = .ok (.invokevirtual 52, 3) := by decide +kernel
theorem d_M_join_67 : decode b_M_join 67 = .ok (.aload_n 0, 1) := by decide +kernel
theorem d_M_join_68 : decode b_M_join 68 = .ok (.getfield 16, 3) := by decide +kernel
theorem d_M_join_71 : decode b_M_join 71 = .ok (.iload_n 1, 1) := by decide +kernel
theorem d_M_join_72 : decode b_M_join 72 = .ok (.iload 5, 2) := by decide +kernel
theorem d_M_join_74 : decode b_M_join 74 = .ok (.bastore, 1) := by decide +kernel
theorem d_M_join_75 : decode b_M_join 75 = .ok (.goto 18, 3) := by decide +kernel
theorem d_M_join_78 : decode b_M_join 78 = .ok (.aload_n 0, 1) := by decide +kernel
theorem d_M_join_79 : decode b_M_join 79 = .ok (.iload_n 1, 1) := by decide +kernel
theorem d_M_join_80 : decode b_M_join 80 = .ok (.iload_n 3, 1) := by decide +kernel
theorem d_M_join_81 : decode b_M_join 81 = .ok (.iload_n 2, 1) := by decide +kernel
theorem d_M_join_82 : decode b_M_join 82 = .ok (.invokevirtual 52, 3) := by decide +kernel
theorem d_M_join_85 : decode b_M_join 85 = .ok (.aload_n 0, 1) := by decide +kernel
theorem d_M_join_86 : decode b_M_join 86 = .ok (.getfield 16, 3) := by decide +kernel
theorem d_M_join_89 : decode b_M_join 89 = .ok (.iload_n 1, 1) := by decide +kernel
theorem d_M_join_90 : decode b_M_join 90 = .ok (.iload 6, 2) := by decide +kernel
theorem d_M_join_92 : decode b_M_join 92 = .ok (.bastore, 1) := by decide +kernel
theorem d_M_join_93 : decode b_M_join 93 = .ok (.aload_n 0, 1) := by decide +kernel
theorem d_M_join_94 : decode b_M_join 94 = .ok (.iload_n 1, 1) := by decide +kernel
theorem d_M_join_95 : decode b_M_join 95 = .ok (.invokevirtual 39, 3) := by decide +kernel
theorem d_M_join_98 : decode b_M_join 98 = .ok (.return_, 1) := by decide +kernel
theorem d_M_addSizes_0 : decode b_M_addSizes 0 = .ok (.aload_n 0, 1) := by decide +kernel
theorem d_M_addSizes_1 : decode b_M_addSizes 1 = .ok (.getfield 13, 3) := by decide +kernel
theorem d_M_addSizes_4 : decode b_M_addSizes 4 = .ok (.iload_n 2, 1) := by decide +kernel
theorem d_M_addSizes_5 : decode b_M_addSizes 5 = .ok (.iaload, 1) := by decide +kernel
theorem d_M_addSizes_6 : decode b_M_addSizes 6 = .ok (.aload_n 0, 1) := by decide +kernel
theorem d_M_addSizes_7 : decode b_M_addSizes 7 = .ok (.getfield 13, 3) := by decide +kernel
theorem d_M_addSizes_10 : decode b_M_addSizes 10 = .ok (.iload_n 3, 1) := by decide +kernel
theorem d_M_addSizes_11 : decode b_M_addSizes 11 = .ok (.iaload, 1) := by decide +kernel
theorem d_M_addSizes_12 : decode b_M_addSizes 12 = .ok (.if_icmp .le 12, 3) := by decide +kernel
theorem d_M_addSizes_15 : decode b_M_addSizes 15 = .ok (.aload_n 0, 1) := by decide +kernel
theorem d_M_addSizes_16 : decode b_M_addSizes 16 = .ok (.getfield 13, 3) := by decide +kernel
theorem d_M_addSizes_19 : decode b_M_addSizes 19 = .ok (.iload_n 2, 1) := by decide +kernel
theorem d_M_addSizes_20 : decode b_M_addSizes 20 = .ok (.iaload, 1) := by decide +kernel
theorem d_M_addSizes_21 : decode b_M_addSizes 21 = .ok (.goto 9, 3) := by decide +kernel
theorem d_M_addSizes_24 : decode b_M_addSizes 24 = .ok (.aload_n 0, 1) := by decide +kernel
theorem d_M_addSizes_25 : decode b_M_addSizes 25 = .ok (.getfield 13, 3) := by decide +kernel
theorem d_M_addSizes_28 : decode b_M_addSizes 28 = .ok (.iload_n 3, 1) := by decide +kernel
theorem d_M_addSizes_29 : decode b_M_addSizes 29 = .ok (.iaload, 1) := by decide +kernel
theorem d_M_addSizes_30 : decode b_M_addSizes 30 = .ok (.istore 4, 2) := by decide +kernel
theorem d_M_addSizes_32 : decode b_M_addSizes 32 = .ok (.iconst 0, 1) := by decide +kernel
theorem d_M_addSizes_33 : decode b_M_addSizes 33 = .ok (.istore 5, 2) := by decide +kernel
theorem d_M_addSizes_35 : decode b_M_addSizes 35 = .ok (.iconst 0, 1) := by decide +kernel
theorem d_M_addSizes_36 : decode b_M_addSizes 36 = .ok (.istore 6, 2) := by decide +kernel
theorem d_M_addSizes_38 : decode b_M_addSizes 38 = .ok (.iload 6, 2) := by decide +kernel
theorem d_M_addSizes_40 : decode b_M_addSizes 40 = .ok (.iload 4, 2) := by decide +kernel
theorem d_M_addSizes_42 : decode b_M_addSizes 42 = .ok (.if_icmp .ge 96, 3) := by decide +kernel
theorem d_M_addSizes_45 : decode b_M_addSizes 45 = .ok (.iload 5, 2) := by decide +kernel
theorem d_M_addSizes_47 : decode b_M_addSizes 47 = .ok (.iload 6, 2) := by decide +kernel
theorem d_M_addSizes_49 : decode b_M_addSizes 49 = .ok (.aload_n 0, 1) := by decide +kernel
theorem d_M_addSizes_50 : decode b_M_addSizes 50 = .ok (.getfield 13, 3) := by decide +kernel
theorem d_M_addSizes_53 : decode b_M_addSizes 53 = .ok (.iload_n 2, 1) := by decide +kernel
theorem d_M_addSizes_54 : decode b_M_addSizes 54 = .ok (.iaload, 1) := by decide +kernel
theorem d_M_addSizes_55 : decode b_M_addSizes 55 = .ok (.if_icmp .ge 19, 3) := by decide +kernel
theorem d_M_addSizes_58 : decode b_M_addSizes 58 = .ok (.aload_n 0, 1) := by decide +kernel
theorem d_M_addSizes_59 : decode b_M_addSizes 59 = .ok (.getfield 7, 3) := by decide +kernel
theorem d_M_addSizes_62 : decode b_M_addSizes 62 = .ok (.sipush 300, 3) := by decide +kernel
theorem d_M_addSizes_65 : decode b_M_addSizes 65 = .ok (.iload_n 2, 1) := by decide +kernel
theorem d_M_addSizes_66 : decode b_M_addSizes 66 = .ok (.imul, 1) := by decide +kernel
theorem d_M_addSizes_67 : decode b_M_addSizes 67 = .ok (.iload 6, 2) := by decide +kernel
theorem d_M_addSizes_69 : decode b_M_addSizes 69 = .ok (.iadd, 1) := by decide +kernel
theorem d_M_addSizes_70 : decode b_M_addSizes 70 = .ok (.iaload, 1) := by decide +kernel
theorem d_M_addSizes_71 : decode b_M_addSizes 71 = .ok (.goto 4, 3) := by decide +kernel
theorem d_M_addSizes_74 : decode b_M_addSizes 74 = .ok (.iconst 0, 1) := by decide +kernel
theorem d_M_addSizes_75 : decode b_M_addSizes 75 = .ok (.iadd, 1) := by decide +kernel
theorem d_M_addSizes_76 : decode b_M_addSizes 76 = .ok (.iload 6, 2) := by decide +kernel
theorem d_M_addSizes_78 : decode b_M_addSizes 78 = .ok (.aload_n 0, 1) := by decide +kernel
theorem d_M_addSizes_79 : decode b_M_addSizes 79 = .ok (.getfield 13, 3) := by decide +kernel
theorem d_M_addSizes_82 : decode b_M_addSizes 82 = .ok (.iload_n 3, 1) := by decide +kernel
theorem d_M_addSizes_83 : decode b_M_addSizes 83 = .ok (.iaload, 1) := by decide +kernel
theorem d_M_addSizes_84 : decode b_M_addSizes 84 = .ok (.if_icmp .ge 19, 3) := by decide +kernel
theorem d_M_addSizes_87 : decode b_M_addSizes 87 = .ok (.aload_n 0, 1) := by decide +kernel
theorem d_M_addSizes_88 : decode b_M_addSizes 88 = .ok (.getfield 7, 3) := by decide +kernel
theorem d_M_addSizes_91 : decode b_M_addSizes 91 = .ok (.sipush 300, 3) := by decide +kernel
theorem d_M_addSizes_94 : decode b_M_addSizes 94 = .ok (.iload_n 3, 1) := by decide +kernel
theorem d_M_addSizes_95 : decode b_M_addSizes 95 = .ok (.imul, 1) := by decide +kernel
theorem d_M_addSizes_96 : decode b_M_addSizes 96 = .ok (.iload 6, 2) := by decide +kernel
theorem d_M_addSizes_98 : decode b_M_addSizes 98 = .ok (.iadd, 1) := by decide +kernel
theorem d_M_addSizes_99 : decode b_M_addSizes 99 = .ok (.iaload, 1) := by decide +kernel
theorem d_M_addSizes_100 : decode b_M_addSizes 100 = .ok (.goto 4, 3) := by decide +kernel
theorem d_M_addSizes_103 : decode b_M_addSizes 103 = .ok (.iconst 0, 1) := by decide +kernel
theorem d_M_addSizes_104 : decode b_M_addSizes 104 = .ok (.iadd, 1) := by decide +kernel
theorem d_M_addSizes_105 : decode b_M_addSizes 105 = .ok (.istore 7, 2) := by decide +kernel
theorem d_M_addSizes_107 : decode b_M_addSizes 107 = .ok (.aload_n 0, 1) := by decide +kernel
theorem d_M_addSizes_108 : decode b_M_addSizes 108 = .ok (.getfield 7, 3) := by decide +kernel
theorem d_M_addSizes_111 : decode b_M_addSizes 111 = .ok (.sipush 300, 3) := by decide +kernel
theorem d_M_addSizes_114 : decode b_M_addSizes 114 = .ok (.iload_n 1, 1) := by decide +kernel
theorem d_M_addSizes_115 : decode b_M_addSizes 115 = .ok (.imul, 1) := by decide +kernel
theorem d_M_addSizes_116 : decode b_M_addSizes 116 = .ok (.iload 6, 2) := by decide +kernel
theorem d_M_addSizes_118 : decode b_M_addSizes 118 = .ok (.iadd, 1) := by decide +kernel
theorem d_M_addSizes_119 : decode b_M_addSizes 119 = .ok (.iload 7, 2) := by decide +kernel
theorem d_M_addSizes_121 : decode b_M_addSizes 121 = .ok (.ldc 43, 2) := by decide +kernel
theorem d_M_addSizes_123 : decode b_M_addSizes 123 = .ok (.irem, 1) := by decide +kernel
theorem d_M_addSizes_124 : decode b_M_addSizes 124 = .ok (.iastore, 1) := by decide +kernel
theorem d_M_addSizes_125 : decode b_M_addSizes 125 = .ok (.iload 7, 2) := by decide +kernel
theorem d_M_addSizes_127 : decode b_M_addSizes 127 = .ok (.ldc 43, 2) := by decide +kernel
theorem d_M_addSizes_129 : decode b_M_addSizes 129 = .ok (.idiv, 1) := by decide +kernel
theorem d_M_addSizes_130 : decode b_M_addSizes 130 = .ok (.istore 5, 2) := by decide +kernel
theorem d_M_addSizes_132 : decode b_M_addSizes 132 = .ok (.iinc 6 1, 3) := by decide +kernel
theorem d_M_addSizes_135 : decode b_M_addSizes 135 = .ok (.goto (-97), 3) := by decide +kernel
theorem d_M_addSizes_138 : decode b_M_addSizes 138 = .ok (.aload_n 0, 1) := by decide +kernel
theorem d_M_addSizes_139 : decode b_M_addSizes 139 = .ok (.getfield 7, 3) := by decide +kernel
theorem d_M_addSizes_142 : decode b_M_addSizes 142 = .ok (.sipush 300, 3) := by decide +kernel
theorem d_M_addSizes_145 : decode b_M_addSizes 145 = .ok (.iload_n 1, 1) := by decide +kernel
theorem d_M_addSizes_146 : decode b_M_addSizes 146 = .ok (.imul, 1) := by decide +kernel
theorem d_M_addSizes_147 : decode b_M_addSizes 147 = .ok (.iload 4, 2) := by decide +kernel
theorem d_M_addSizes_149 : decode b_M_addSizes 149 = .ok (.iadd, 1) := by decide +kernel
theorem d_M_addSizes_150 : decode b_M_addSizes 150 = .ok (.iload 5, 2) := by decide +kernel
theorem d_M_addSizes_152 : decode b_M_addSizes 152 = .ok (.iastore, 1) := by decide +kernel
theorem d_M_addSizes_153 : decode b_M_addSizes 153 = .ok (.aload_n 0, 1) := by decide +kernel
theorem d_M_addSizes_154 : decode b_M_addSizes 154 = .ok (.getfield 13, 3) := by decide +kernel
theorem d_M_addSizes_157 : decode b_M_addSizes 157 = .ok (.iload_n 1, 1) := by decide +kernel
theorem d_M_addSizes_158 : decode b_M_addSizes 158 = .ok (.iload 4, 2) := by decide +kernel
theorem d_M_addSizes_160 : decode b_M_addSizes 160 = .ok (.iconst 1, 1) := by decide +kernel
theorem d_M_addSizes_161 : decode b_M_addSizes 161 = .ok (.iadd, 1) := by decide +kernel
theorem d_M_addSizes_162 : decode b_M_addSizes 162 = .ok (.iastore, 1) := by decide +kernel
theorem d_M_addSizes_163 : decode b_M_addSizes 163 = .ok (.return_, 1) := by decide +kernel
theorem d_M_takeSizes_0 : decode b_M_takeSizes 0 = .ok (.aload_n 0, 1) := by decide +kernel
theorem d_M_takeSizes_1 : decode b_M_takeSizes 1 = .ok (.getfield 13, 3) := by decide +kernel
theorem d_M_takeSizes_4 : decode b_M_takeSizes 4 = .ok (.iload_n 2, 1) := by decide +kernel
theorem d_M_takeSizes_5 : decode b_M_takeSizes 5 = .ok (.iaload, 1) := by decide +kernel
theorem d_M_takeSizes_6 : decode b_M_takeSizes 6 = .ok (.istore 4, 2) := by decide +kernel
theorem d_M_takeSizes_8 : decode b_M_takeSizes 8 = .ok (.iconst 0, 1) := by decide +kernel
theorem d_M_takeSizes_9 : decode b_M_takeSizes 9 = .ok (.istore 5, 2) := by decide +kernel
theorem d_M_takeSizes_11 : decode b_M_takeSizes 11 = .ok (.iconst 0, 1) := by decide +kernel
theorem d_M_takeSizes_12 : decode b_M_takeSizes 12 = .ok (.istore 6, 2) := by decide +kernel
theorem d_M_takeSizes_14 : decode b_M_takeSizes 14 = .ok (.iload 6, 2) := by decide +kernel
theorem d_M_takeSizes_16 : decode b_M_takeSizes 16 = .ok (.iload 4, 2) := by decide +kernel
theorem d_M_takeSizes_18 : decode b_M_takeSizes 18 = .ok (.if_icmp .ge 96, 3) := by decide +kernel
theorem d_M_takeSizes_21 : decode b_M_takeSizes 21 = .ok (.aload_n 0, 1) := by decide +kernel
theorem d_M_takeSizes_22 : decode b_M_takeSizes 22 = .ok (.getfield 7, 3) := by decide +kernel
theorem d_M_takeSizes_25 : decode b_M_takeSizes 25 = .ok (.sipush 300, 3) := by decide +kernel
theorem d_M_takeSizes_28 : decode b_M_takeSizes 28 = .ok (.iload_n 2, 1) := by decide +kernel
theorem d_M_takeSizes_29 : decode b_M_takeSizes 29 = .ok (.imul, 1) := by decide +kernel
theorem d_M_takeSizes_30 : decode b_M_takeSizes 30 = .ok (.iload 6, 2) := by decide +kernel
theorem d_M_takeSizes_32 : decode b_M_takeSizes 32 = .ok (.iadd, 1) := by decide +kernel
theorem d_M_takeSizes_33 : decode b_M_takeSizes 33 = .ok (.iaload, 1) := by decide +kernel
theorem d_M_takeSizes_34 : decode b_M_takeSizes 34 = .ok (.iload 5, 2) := by decide +kernel
theorem d_M_takeSizes_36 : decode b_M_takeSizes 36 = .ok (.isub, 1) := by decide +kernel
theorem d_M_takeSizes_37 : decode b_M_takeSizes 37 = .ok (.iload 6, 2) := by decide +kernel
theorem d_M_takeSizes_39 : decode b_M_takeSizes 39 = .ok (.aload_n 0, 1) := by decide +kernel
theorem d_M_takeSizes_40 : decode b_M_takeSizes 40 = .ok (.getfield 13, 3) := by decide +kernel
theorem d_M_takeSizes_43 : decode b_M_takeSizes 43 = .ok (.iload_n 3, 1) := by decide +kernel
theorem d_M_takeSizes_44 : decode b_M_takeSizes 44 = .ok (.iaload, 1) := by decide +kernel
theorem d_M_takeSizes_45 : decode b_M_takeSizes 45 = .ok (.if_icmp .ge 19, 3) := by decide +kernel
theorem d_M_takeSizes_48 : decode b_M_takeSizes 48 = .ok (.aload_n 0, 1) := by decide +kernel
theorem d_M_takeSizes_49 : decode b_M_takeSizes 49 = .ok (.getfield 7, 3) := by decide +kernel
theorem d_M_takeSizes_52 : decode b_M_takeSizes 52 = .ok (.sipush 300, 3) := by decide +kernel
theorem d_M_takeSizes_55 : decode b_M_takeSizes 55 = .ok (.iload_n 3, 1) := by decide +kernel
theorem d_M_takeSizes_56 : decode b_M_takeSizes 56 = .ok (.imul, 1) := by decide +kernel
theorem d_M_takeSizes_57 : decode b_M_takeSizes 57 = .ok (.iload 6, 2) := by decide +kernel
theorem d_M_takeSizes_59 : decode b_M_takeSizes 59 = .ok (.iadd, 1) := by decide +kernel
theorem d_M_takeSizes_60 : decode b_M_takeSizes 60 = .ok (.iaload, 1) := by decide +kernel
theorem d_M_takeSizes_61 : decode b_M_takeSizes 61 = .ok (.goto 4, 3) := by decide +kernel
theorem d_M_takeSizes_64 : decode b_M_takeSizes 64 = .ok (.iconst 0, 1) := by decide +kernel
theorem d_M_takeSizes_65 : decode b_M_takeSizes 65 = .ok (.isub, 1) := by decide +kernel
theorem d_M_takeSizes_66 : decode b_M_takeSizes 66 = .ok (.istore 7, 2) := by decide +kernel
theorem d_M_takeSizes_68 : decode b_M_takeSizes 68 = .ok (.iload 7, 2) := by decide +kernel
theorem d_M_takeSizes_70 : decode b_M_takeSizes 70 = .ok (.ifCond .ge 7, 3) := by decide +kernel
theorem d_M_takeSizes_73 : decode b_M_takeSizes 73 = .ok (.iconst 1, 1) := by decide +kernel
theorem d_M_takeSizes_74 : decode b_M_takeSizes 74 = .ok (.goto 4, 3) := by decide +kernel
theorem d_M_takeSizes_77 : decode b_M_takeSizes 77 = .ok (.iconst 0, 1) := by decide +kernel
theorem d_M_takeSizes_78 : decode b_M_takeSizes 78 = .ok (.istore 5, 2) := by decide +kernel
theorem d_M_takeSizes_80 : decode b_M_takeSizes 80 = .ok (.aload_n 0, 1) := by decide +kernel
theorem d_M_takeSizes_81 : decode b_M_takeSizes 81 = .ok (.getfield 7, 3) := by decide +kernel
theorem d_M_takeSizes_84 : decode b_M_takeSizes 84 = .ok (.sipush 300, 3) := by decide +kernel
theorem d_M_takeSizes_87 : decode b_M_takeSizes 87 = .ok (.iload_n 1, 1) := by decide +kernel
theorem d_M_takeSizes_88 : decode b_M_takeSizes 88 = .ok (.imul, 1) := by decide +kernel
theorem d_M_takeSizes_89 : decode b_M_takeSizes 89 = .ok (.iload 6, 2) := by decide +kernel
theorem d_M_takeSizes_91 : decode b_M_takeSizes 91 = .ok (.iadd, 1) := by decide +kernel
theorem d_M_takeSizes_92 : decode b_M_takeSizes 92 = .ok (.iload 7, 2) := by decide +kernel
theorem d_M_takeSizes_94 : decode b_M_takeSizes 94 = .ok (.ifCond .ge 11, 3) := by decide +kernel
theorem d_M_takeSizes_97 : decode b_M_takeSizes 97 = .ok (.iload 7, 2) := by decide +kernel
theorem d_M_takeSizes_99 : decode b_M_takeSizes 99 = .ok (.ldc 43, 2) := by decide +kernel
theorem d_M_takeSizes_101 : decode b_M_takeSizes 101 = .ok (.iadd, 1) := by decide +kernel
theorem d_M_takeSizes_102 : decode b_M_takeSizes 102 = .ok (.goto 5, 3) := by decide +kernel
theorem d_M_takeSizes_105 : decode b_M_takeSizes 105 = .ok (.iload 7, 2) := by decide +kernel
theorem d_M_takeSizes_107 : decode b_M_takeSizes 107 = .ok (.iastore, 1) := by decide +kernel
theorem d_M_takeSizes_108 : decode b_M_takeSizes 108 = .ok (.iinc 6 1, 3) := by decide +kernel
theorem d_M_takeSizes_111 : decode b_M_takeSizes 111 = .ok (.goto (-97), 3) := by decide +kernel
theorem d_M_takeSizes_114 : decode b_M_takeSizes 114 = .ok (.aload_n 0, 1) := by decide +kernel
theorem d_M_takeSizes_115 : decode b_M_takeSizes 115 = .ok (.getfield 13, 3) := by decide +kernel
theorem d_M_takeSizes_118 : decode b_M_takeSizes 118 = .ok (.iload_n 1, 1) := by decide +kernel
theorem d_M_takeSizes_119 : decode b_M_takeSizes 119 = .ok (.iload 4, 2) := by decide +kernel
theorem d_M_takeSizes_121 : decode b_M_takeSizes 121 = .ok (.iastore, 1) := by decide +kernel
theorem d_M_takeSizes_122 : decode b_M_takeSizes 122 = .ok (.return_, 1) := by decide +kernel
theorem d_M_compare_0 : decode b_M_compare 0 = .ok (.aload_n 0, 1) := by decide +kernel
theorem d_M_compare_1 : decode b_M_compare 1 = .ok (.bipush 39, 2) := by decide +kernel
theorem d_M_compare_3 : decode b_M_compare 3 = .ok (.iload_n 1, 1) := by decide +kernel
theorem d_M_compare_4 : decode b_M_compare 4 = .ok (.iload_n 2, 1) := by decide +kernel
theorem d_M_compare_5 : decode b_M_compare 5 = .ok (.invokestatic 82, 3) := by decide +kernel
theorem d_M_compare_8 : decode b_M_compare 8 = .ok (.invokevirtual 92, 3) := by decide +kernel
theorem d_M_compare_11 : decode b_M_compare 11 = .ok (.aload_n 0, 1) := by decide +kernel
theorem d_M_compare_12 : decode b_M_compare 12 = .ok (.bipush 40, 2) := by decide +kernel
theorem d_M_compare_14 : decode b_M_compare 14 = .ok (.iload_n 2, 1) := by decide +kernel
theorem d_M_compare_15 : decode b_M_compare 15 = .ok (.iload_n 1, 1) := by decide +kernel
theorem d_M_compare_16 : decode b_M_compare 16 = .ok (.invokestatic 82, 3) := by decide +kernel
theorem d_M_compare_19 : decode b_M_compare 19 = .ok (.invokevirtual 92, 3) := by decide +kernel
theorem d_M_compare_22 : decode b_M_compare 22 = .ok (.aload_n 0, 1) := by decide +kernel
theorem d_M_compare_23 : decode b_M_compare 23 = .ok (.bipush 41, 2) := by decide +kernel
theorem d_M_compare_25 : decode b_M_compare 25 = .ok (.bipush 39, 2) := by decide +kernel
theorem d_M_compare_27 : decode b_M_compare 27 = .ok (.bipush 40, 2) := by decide +kernel
theorem d_M_compare_29 : decode b_M_compare 29 = .ok (.iconst 1, 1) := by decide +kernel
theorem d_M_compare_30 : decode b_M_compare 30 = .ok (.invokevirtual 75, 3) := by decide +kernel
theorem d_M_compare_33 : decode b_M_compare 33 = .ok (.aload_n 0, 1) := by decide +kernel
theorem d_M_compare_34 : decode b_M_compare 34 = .ok (.getfield 13, 3) := by decide +kernel
theorem d_M_compare_37 : decode b_M_compare 37 = .ok (.bipush 41, 2) := by decide +kernel
theorem d_M_compare_39 : decode b_M_compare 39 = .ok (.iaload, 1) := by decide +kernel
theorem d_M_compare_40 : decode b_M_compare 40 = .ok (.ifCond .ne 7, 3) := by decide +kernel
theorem d_M_compare_43 : decode b_M_compare 43 = .ok (.iconst 0, 1) := by decide +kernel
theorem d_M_compare_44 : decode b_M_compare 44 = .ok (.goto 18, 3) := by decide +kernel
theorem d_M_compare_47 : decode b_M_compare 47 = .ok (.aload_n 0, 1) := by decide +kernel
theorem d_M_compare_48 : decode b_M_compare 48 = .ok (.getfield 16, 3) := by decide +kernel
theorem d_M_compare_51 : decode b_M_compare 51 = .ok (.bipush 41, 2) := by decide +kernel
theorem d_M_compare_53 : decode b_M_compare 53 = .ok (.baload, 1) := by decide +kernel
theorem d_M_compare_54 : decode b_M_compare 54 = .ok (.ifCond .eq 7, 3) := by decide +kernel
theorem d_M_compare_57 : decode b_M_compare 57 = .ok (.iconst (-1), 1) := by decide +kernel
theorem d_M_compare_58 : decode b_M_compare 58 = .ok (.goto 4, 3) := by decide +kernel
theorem d_M_compare_61 : decode b_M_compare 61 = .ok (.iconst 1, 1) := by decide +kernel
theorem d_M_compare_62 : decode b_M_compare 62 = .ok (.ireturn, 1) := by decide +kernel
theorem d_M_take_0 : decode b_M_take 0 = .ok (.aload_n 0, 1) := by decide +kernel
theorem d_M_take_1 : decode b_M_take 1 = .ok (.bipush 32, 2) := by decide +kernel
theorem d_M_take_3 : decode b_M_take 3 = .ok (.iload_n 2, 1) := by decide +kernel
theorem d_M_take_4 : decode b_M_take 4 = .ok (.invokevirtual 55, 3) := by decide +kernel
theorem d_M_take_7 : decode b_M_take 7 = .ok (.aload_n 0, 1) := by decide +kernel
theorem d_M_take_8 : decode b_M_take 8 = .ok (.bipush 33, 2) := by decide +kernel
theorem d_M_take_10 : decode b_M_take 10 = .ok (.iload_n 2, 1) := by decide +kernel
theorem d_M_take_11 : decode b_M_take 11 = .ok (.invokestatic 82, 3) := by decide +kernel
theorem d_M_take_14 : decode b_M_take 14 = .ok (.invokevirtual 55, 3) := by decide +kernel
theorem d_M_take_17 : decode b_M_take 17 = .ok (.aload_n 0, 1) := by decide +kernel
theorem d_M_take_18 : decode b_M_take 18 = .ok (.iload_n 1, 1) := by decide +kernel
theorem d_M_take_19 : decode b_M_take 19 = .ok (.invokevirtual 89, 3) := by decide +kernel
theorem d_M_take_22 : decode b_M_take 22 = .ok (.ireturn, 1) := by decide +kernel
theorem d_M_wholeQuotient_0 : decode b_M_wholeQuotient 0 = .ok (.aload_n 0, 1) := by decide +kernel
theorem d_M_wholeQuotient_1 : decode b_M_wholeQuotient 1 = .ok (.bipush 39, 2) := by decide +kernel
theorem d_M_wholeQuotient_3 : decode b_M_wholeQuotient 3 = .ok (.iload_n 1, 1) := by decide +kernel
theorem d_M_wholeQuotient_4 : decode b_M_wholeQuotient 4 = .ok (.iload_n 2, 1) := by decide +kernel
theorem d_M_wholeQuotient_5 : decode b_M_wholeQuotient 5 = .ok (.invokestatic 82, 3) := by decide +kernel
theorem d_M_wholeQuotient_8 : decode b_M_wholeQuotient 8 = .ok (.invokevirtual 92, 3) := by decide +kernel
theorem d_M_wholeQuotient_11 : decode b_M_wholeQuotient 11 = .ok (.aload_n 0, 1) := by decide +kernel
theorem d_M_wholeQuotient_12 : decode b_M_wholeQuotient 12 = .ok (.bipush 40, 2) := by decide +kernel
theorem d_M_wholeQuotient_14 : decode b_M_wholeQuotient 14 = .ok (.iload_n 2, 1) := by decide +kernel
theorem d_M_wholeQuotient_15 : decode b_M_wholeQuotient 15 = .ok (.iload_n 1, 1) := by decide +kernel
theorem d_M_wholeQuotient_16 : decode b_M_wholeQuotient 16 = .ok (.invokestatic 82, 3) := by decide +kernel
theorem d_M_wholeQuotient_19 : decode b_M_wholeQuotient 19 = .ok (.invokevirtual 92, 3) := by decide +kernel
theorem d_M_wholeQuotient_22 : decode b_M_wholeQuotient 22 = .ok (.aload_n 0, 1) := by decide +kernel
theorem d_M_wholeQuotient_23 : decode b_M_wholeQuotient 23 = .ok (.getfield 16, 3) := by decide +kernel
theorem d_M_wholeQuotient_26 : decode b_M_wholeQuotient 26 = .ok (.bipush 40, 2) := by decide +kernel
theorem d_M_wholeQuotient_28 : decode b_M_wholeQuotient 28 = .ok (.baload, 1) := by decide +kernel
theorem d_M_wholeQuotient_29 : decode b_M_wholeQuotient 29 = .ok (.ifCond .eq 43, 3) := by decide +kernel
theorem d_M_wholeQuotient_32 : decode b_M_wholeQuotient 32 = .ok (.aload_n 0, 1) := by decide +kernel
theorem d_M_wholeQuotient_33 : decode b_M_wholeQuotient 33 = .ok (.getfield 16, 3) := by decide +kernel
theorem d_M_wholeQuotient_36 : decode b_M_wholeQuotient 36 = .ok (.bipush 40, 2) := by decide +kernel
theorem d_M_wholeQuotient_38 : decode b_M_wholeQuotient 38 = .ok (.iconst 0, 1) := by decide +kernel
theorem d_M_wholeQuotient_39 : decode b_M_wholeQuotient 39 = .ok (.bastore, 1) := by decide +kernel
theorem d_M_wholeQuotient_40 : decode b_M_wholeQuotient 40 = .ok (.aload_n 0, 1) := by decide +kernel
theorem d_M_wholeQuotient_41 : decode b_M_wholeQuotient 41 = .ok (.getfield 16, 3) := by decide +kernel
theorem d_M_wholeQuotient_44 : decode b_M_wholeQuotient 44 = .ok (.bipush 39, 2) := by decide +kernel
theorem d_M_wholeQuotient_46 : decode b_M_wholeQuotient 46 = .ok (.aload_n 0, 1) := by decide +kernel
theorem d_M_wholeQuotient_47 : decode b_M_wholeQuotient 47 = .ok (.getfield 16, 3) := by decide +kernel
theorem d_M_wholeQuotient_50 : decode b_M_wholeQuotient 50 = .ok (.bipush 39, 2) := by decide +kernel
theorem d_M_wholeQuotient_52 : decode b_M_wholeQuotient 52 = .ok (.baload, 1) := by decide +kernel
theorem d_M_wholeQuotient_53 : decode b_M_wholeQuotient 53 = .ok (.ifCond .ne 17, 3) := by decide +kernel
theorem d_M_wholeQuotient_56 : decode b_M_wholeQuotient 56 = .ok (.aload_n 0, 1) := by decide +kernel
theorem d_M_wholeQuotient_57 : decode b_M_wholeQuotient 57 = .ok (.getfield 13, 3) := by decide +kernel
theorem d_M_wholeQuotient_60 : decode b_M_wholeQuotient 60 = .ok (.bipush 39, 2) := by decide +kernel
theorem d_M_wholeQuotient_62 : decode b_M_wholeQuotient 62 = .ok (.iaload, 1) := by decide +kernel
theorem d_M_wholeQuotient_63 : decode b_M_wholeQuotient 63 = .ok (.ifCond .le 7, 3) := by decide +kernel
theorem d_M_wholeQuotient_66 : decode b_M_wholeQuotient 66 = .ok (.iconst 1, 1) := by decide +kernel
theorem d_M_wholeQuotient_67 : decode b_M_wholeQuotient 67 = .ok (.goto 4, 3) := by decide +kernel
theorem d_M_wholeQuotient_70 : decode b_M_wholeQuotient 70 = .ok (.iconst 0, 1) := by decide +kernel
theorem d_M_wholeQuotient_71 : decode b_M_wholeQuotient 71 = .ok (.bastore, 1) := by decide +kernel
theorem d_M_wholeQuotient_72 : decode b_M_wholeQuotient 72 = .ok (.aload_n 0, 1) := by decide +kernel
theorem d_M_wholeQuotient_73 : decode b_M_wholeQuotient 73 = .ok (.bipush 39, 2) := by decide +kernel
theorem d_M_wholeQuotient_75 : decode b_M_wholeQuotient 75 = .ok (.bipush 40, 2) := by decide +kernel
theorem d_M_wholeQuotient_77 : decode b_M_wholeQuotient 77 = .ok (.invokevirtual 95, 3) := by decide +kernel
theorem d_M_wholeQuotient_80 : decode b_M_wholeQuotient 80 = .ok (.return_, 1) := by decide +kernel
theorem d_M_floor_0 : decode b_M_floor 0 = .ok (.aload_n 0, 1) := by decide +kernel
theorem d_M_floor_1 : decode b_M_floor 1 = .ok (.iload_n 1, 1) := by decide +kernel
theorem d_M_floor_2 : decode b_M_floor 2 = .ok (.iload_n 2, 1) := by decide +kernel
theorem d_M_floor_3 : decode b_M_floor 3 = .ok (.invokevirtual 72, 3) := by decide +kernel
theorem d_M_floor_6 : decode b_M_floor 6 = .ok (.aload_n 0, 1) := by decide +kernel
theorem d_M_floor_7 : decode b_M_floor 7 = .ok (.bipush 41, 2) := by decide +kernel
theorem d_M_floor_9 : decode b_M_floor 9 = .ok (.bipush 37, 2) := by decide +kernel
theorem d_M_floor_11 : decode b_M_floor 11 = .ok (.invokevirtual 55, 3) := by decide +kernel
theorem d_M_floor_14 : decode b_M_floor 14 = .ok (.aload_n 0, 1) := by decide +kernel
theorem d_M_floor_15 : decode b_M_floor 15 = .ok (.getfield 13, 3) := by decide +kernel
theorem d_M_floor_18 : decode b_M_floor 18 = .ok (.bipush 36, 2) := by decide +kernel
theorem d_M_floor_20 : decode b_M_floor 20 = .ok (.iaload, 1) := by decide +kernel
theorem d_M_floor_21 : decode b_M_floor 21 = .ok (.ifCond .le 31, 3) := by decide +kernel
theorem d_M_floor_24 : decode b_M_floor 24 = .ok (.aload_n 0, 1) := by decide +kernel
theorem d_M_floor_25 : decode b_M_floor 25 = .ok (.getfield 16, 3) := by decide +kernel
theorem d_M_floor_28 : decode b_M_floor 28 = .ok (.bipush 36, 2) := by decide +kernel
theorem d_M_floor_30 : decode b_M_floor 30 = .ok (.baload, 1) := by decide +kernel
theorem d_M_floor_31 : decode b_M_floor 31 = .ok (.ifCond .eq 21, 3) := by decide +kernel
theorem d_M_floor_34 : decode b_M_floor 34 = .ok (.aload_n 0, 1) := by decide +kernel
theorem d_M_floor_35 : decode b_M_floor 35 = .ok (.bipush 42, 2) := by decide +kernel
theorem d_M_floor_37 : decode b_M_floor 37 = .ok (.lconst 1, 1) := by decide +kernel
theorem d_M_floor_38 : decode b_M_floor 38 = .ok (.invokevirtual 30, 3) := by decide +kernel
theorem d_M_floor_41 : decode b_M_floor 41 = .ok (.aload_n 0, 1) := by decide +kernel
theorem d_M_floor_42 : decode b_M_floor 42 = .ok (.bipush 41, 2) := by decide +kernel
theorem d_M_floor_44 : decode b_M_floor 44 = .ok (.bipush 41, 2) := by decide +kernel
theorem d_M_floor_46 : decode b_M_floor 46 = .ok (.bipush 42, 2) := by decide +kernel
theorem d_M_floor_48 : decode b_M_floor 48 = .ok (.iconst 1, 1) := by decide +kernel
theorem d_M_floor_49 : decode b_M_floor 49 = .ok (.invokevirtual 75, 3) := by decide +kernel
theorem d_M_floor_52 : decode b_M_floor 52 = .ok (.return_, 1) := by decide +kernel
theorem d_M_rest_0 : decode b_M_rest 0 = .ok (.aload_n 0, 1) := by decide +kernel
theorem d_M_rest_1 : decode b_M_rest 1 = .ok (.iload_n 2, 1) := by decide +kernel
theorem d_M_rest_2 : decode b_M_rest 2 = .ok (.iload_n 3, 1) := by decide +kernel
theorem d_M_rest_3 : decode b_M_rest 3 = .ok (.invokevirtual 107, 3) := by decide +kernel
theorem d_M_rest_6 : decode b_M_rest 6 = .ok (.aload_n 0, 1) := by decide +kernel
theorem d_M_rest_7 : decode b_M_rest 7 = .ok (.bipush 32, 2) := by decide +kernel
theorem d_M_rest_9 : decode b_M_rest 9 = .ok (.bipush 41, 2) := by decide +kernel
theorem d_M_rest_11 : decode b_M_rest 11 = .ok (.bipush 40, 2) := by decide +kernel
theorem d_M_rest_13 : decode b_M_rest 13 = .ok (.invokevirtual 92, 3) := by decide +kernel
theorem d_M_rest_16 : decode b_M_rest 16 = .ok (.aload_n 0, 1) := by decide +kernel
theorem d_M_rest_17 : decode b_M_rest 17 = .ok (.bipush 32, 2) := by decide +kernel
theorem d_M_rest_19 : decode b_M_rest 19 = .ok (.bipush 39, 2) := by decide +kernel
theorem d_M_rest_21 : decode b_M_rest 21 = .ok (.bipush 32, 2) := by decide +kernel
theorem d_M_rest_23 : decode b_M_rest 23 = .ok (.iconst 1, 1) := by decide +kernel
theorem d_M_rest_24 : decode b_M_rest 24 = .ok (.invokevirtual 75, 3) := by decide +kernel
theorem d_M_rest_27 : decode b_M_rest 27 = .ok (.aload_n 0, 1) := by decide +kernel
theorem d_M_rest_28 : decode b_M_rest 28 = .ok (.getfield 16, 3) := by decide +kernel
theorem d_M_rest_31 : decode b_M_rest 31 = .ok (.iload_n 3, 1) := by decide +kernel
theorem d_M_rest_32 : decode b_M_rest 32 = .ok (.baload, 1) := by decide +kernel
theorem d_M_rest_33 : decode b_M_rest 33 = .ok (.ifCond .eq 35, 3) := by decide +kernel
theorem d_M_rest_36 : decode b_M_rest 36 = .ok (.aload_n 0, 1) := by decide +kernel
theorem d_M_rest_37 : decode b_M_rest 37 = .ok (.getfield 16, 3) := by decide +kernel
theorem d_M_rest_40 : decode b_M_rest 40 = .ok (.bipush 32, 2) := by decide +kernel
theorem d_M_rest_42 : decode b_M_rest 42 = .ok (.aload_n 0, 1) := by decide +kernel
theorem d_M_rest_43 : decode b_M_rest 43 = .ok (.getfield 16, 3) := by decide +kernel
theorem d_M_rest_46 : decode b_M_rest 46 = .ok (.bipush 32, 2) := by decide +kernel
theorem d_M_rest_48 : decode b_M_rest 48 = .ok (.baload, 1) := by decide +kernel
theorem d_M_rest_49 : decode b_M_rest 49 = .ok (.ifCond .ne 17, 3) := by decide +kernel
theorem d_M_rest_52 : decode b_M_rest 52 = .ok (.aload_n 0, 1) := by decide +kernel
theorem d_M_rest_53 : decode b_M_rest 53 = .ok (.getfield 13, 3) := by decide +kernel
theorem d_M_rest_56 : decode b_M_rest 56 = .ok (.bipush 32, 2) := by decide +kernel
theorem d_M_rest_58 : decode b_M_rest 58 = .ok (.iaload, 1) := by decide +kernel
theorem d_M_rest_59 : decode b_M_rest 59 = .ok (.ifCond .le 7, 3) := by decide +kernel
theorem d_M_rest_62 : decode b_M_rest 62 = .ok (.iconst 1, 1) := by decide +kernel
theorem d_M_rest_63 : decode b_M_rest 63 = .ok (.goto 4, 3) := by decide +kernel
theorem d_M_rest_66 : decode b_M_rest 66 = .ok (.iconst 0, 1) := by decide +kernel
theorem d_M_rest_67 : decode b_M_rest 67 = .ok (.bastore, 1) := by decide +kernel
theorem d_M_rest_68 : decode b_M_rest 68 = .ok (.aload_n 0, 1) := by decide +kernel
theorem d_M_rest_69 : decode b_M_rest 69 = .ok (.bipush 33, 2) := by decide +kernel
theorem d_M_rest_71 : decode b_M_rest 71 = .ok (.iload_n 2, 1) := by decide +kernel
theorem d_M_rest_72 : decode b_M_rest 72 = .ok (.invokestatic 82, 3) := by decide +kernel
theorem d_M_rest_75 : decode b_M_rest 75 = .ok (.iload_n 3, 1) := by decide +kernel
theorem d_M_rest_76 : decode b_M_rest 76 = .ok (.invokestatic 82, 3) := by decide +kernel
theorem d_M_rest_79 : decode b_M_rest 79 = .ok (.invokevirtual 92, 3) := by decide +kernel
theorem d_M_rest_82 : decode b_M_rest 82 = .ok (.aload_n 0, 1) := by decide +kernel
theorem d_M_rest_83 : decode b_M_rest 83 = .ok (.iload_n 1, 1) := by decide +kernel
theorem d_M_rest_84 : decode b_M_rest 84 = .ok (.invokevirtual 89, 3) := by decide +kernel
theorem d_M_rest_87 : decode b_M_rest 87 = .ok (.ireturn, 1) := by decide +kernel
theorem d_M_change_0 : decode b_M_change 0 = .ok (.aload_n 0, 1) := by decide +kernel
theorem d_M_change_1 : decode b_M_change 1 = .ok (.iload_n 1, 1) := by decide +kernel
theorem d_M_change_2 : decode b_M_change 2 = .ok (.invokestatic 86, 3) := by decide +kernel
theorem d_M_change_5 : decode b_M_change 5 = .ok (.ifCond .eq 24, 3) := by decide +kernel
theorem d_M_change_8 : decode b_M_change 8 = .ok (.iload_n 3, 1) := by decide +kernel
theorem d_M_change_9 : decode b_M_change 9 = .ok (.invokestatic 86, 3) := by decide +kernel
theorem d_M_change_12 : decode b_M_change 12 = .ok (.ifCond .eq 17, 3) := by decide +kernel
theorem d_M_change_15 : decode b_M_change 15 = .ok (.iload_n 2, 1) := by decide +kernel
theorem d_M_change_16 : decode b_M_change 16 = .ok (.ifCond .lt 13, 3) := by decide +kernel
theorem d_M_change_19 : decode b_M_change 19 = .ok (.iload_n 2, 1) := by decide +kernel
theorem d_M_change_20 : decode b_M_change 20 = .ok (.bipush 6, 2) := by decide +kernel
theorem d_M_change_22 : decode b_M_change 22 = .ok (.if_icmp .gt 7, 3) := by decide +kernel
theorem d_M_change_25 : decode b_M_change 25 = .ok (.iconst 0, 1) := by decide +kernel
theorem d_M_change_26 : decode b_M_change 26 = .ok (.goto 4, 3) := by decide +kernel
theorem d_M_change_29 : decode b_M_change 29 = .ok (.iconst 1, 1) := by decide +kernel
theorem d_M_change_30 : decode b_M_change 30 = .ok (.putfield 34, 3) := by decide +kernel
theorem d_M_change_33 : decode b_M_change 33 = .ok (.aload_n 0, 1) := by decide +kernel
theorem d_M_change_34 : decode b_M_change 34 = .ok (.getfield 34, 3) := by decide +kernel
theorem d_M_change_37 : decode b_M_change 37 = .ok (.ifCond .le 5, 3) := by decide +kernel
theorem d_M_change_40 : decode b_M_change 40 = .ok (.iconst 0, 1) := by decide +kernel
theorem d_M_change_41 : decode b_M_change 41 = .ok (.ireturn, 1) := by decide +kernel
theorem d_M_change_42 : decode b_M_change 42 = .ok (.iload_n 2, 1) := by decide +kernel
theorem d_M_change_43 : decode b_M_change 43 = .ok (.iconst 2, 1) := by decide +kernel
theorem d_M_change_44 : decode b_M_change 44 = .ok (.if_icmp .ne 15, 3) := by decide +kernel
theorem d_M_change_47 : decode b_M_change 47 = .ok (.aload_n 0, 1) := by decide +kernel
theorem d_M_change_48 : decode b_M_change 48 = .ok (.getfield 13, 3) := by decide +kernel
theorem d_M_change_51 : decode b_M_change 51 = .ok (.iload_n 3, 1) := by decide +kernel
theorem d_M_change_52 : decode b_M_change 52 = .ok (.iaload, 1) := by decide +kernel
theorem d_M_change_53 : decode b_M_change 53 = .ok (.ifCond .ne 6, 3) := by decide +kernel
theorem d_M_change_56 : decode b_M_change 56 = .ok (.bipush (-2), 2) := by decide +kernel
theorem d_M_change_58 : decode b_M_change 58 = .ok (.ireturn, 1) := by decide +kernel
theorem d_M_change_59 : decode b_M_change 59 = .ok (.aload_n 0, 1) := by decide +kernel
theorem d_M_change_60 : decode b_M_change 60 = .ok (.bipush 32, 2) := by decide +kernel
theorem d_M_change_62 : decode b_M_change 62 = .ok (.iload_n 3, 1) := by decide +kernel
theorem d_M_change_63 : decode b_M_change 63 = .ok (.invokevirtual 55, 3) := by decide +kernel
theorem d_M_change_66 : decode b_M_change 66 = .ok (.aload_n 0, 1) := by decide +kernel
theorem d_M_change_67 : decode b_M_change 67 = .ok (.bipush 33, 2) := by decide +kernel
theorem d_M_change_69 : decode b_M_change 69 = .ok (.iload_n 3, 1) := by decide +kernel
theorem d_M_change_70 : decode b_M_change 70 = .ok (.invokestatic 82, 3) := by decide +kernel
theorem d_M_change_73 : decode b_M_change 73 = .ok (.invokevirtual 55, 3) := by decide +kernel
theorem d_M_change_76 : decode b_M_change 76 = .ok (.iload_n 2, 1) := by decide +kernel
theorem d_M_change_77 : decode b_M_change 77 = .ok (.tableswitch 225 0 5 #[39, 74, 85, 105, 105, 215], 39) := by decide +kernel
theorem d_M_change_116 : decode b_M_change 116 = .ok (.aload_n 0, 1) := by decide +kernel
theorem d_M_change_117 : decode b_M_change 117 = .ok (.getfield 16, 3) := by decide +kernel
theorem d_M_change_120 : decode b_M_change 120 = .ok (.bipush 32, 2) := by decide +kernel
theorem d_M_change_122 : decode b_M_change 122 = .ok (.aload_n 0, 1) := by decide +kernel
theorem d_M_change_123 : decode b_M_change 123 = .ok (.getfield 16, 3) := by decide +kernel
theorem d_M_change_126 : decode b_M_change 126 = .ok (.bipush 32, 2) := by decide +kernel
theorem d_M_change_128 : decode b_M_change 128 = .ok (.baload, 1) := by decide +kernel
theorem d_M_change_129 : decode b_M_change 129 = .ok (.ifCond .ne 17, 3) := by decide +kernel
theorem d_M_change_132 : decode b_M_change 132 = .ok (.aload_n 0, 1) := by decide +kernel
theorem d_M_change_133 : decode b_M_change 133 = .ok (.getfield 13, 3) := by decide +kernel
theorem d_M_change_136 : decode b_M_change 136 = .ok (.bipush 32, 2) := by decide +kernel
theorem d_M_change_138 : decode b_M_change 138 = .ok (.iaload, 1) := by decide +kernel
theorem d_M_change_139 : decode b_M_change 139 = .ok (.ifCond .le 7, 3) := by decide +kernel
theorem d_M_change_142 : decode b_M_change 142 = .ok (.iconst 1, 1) := by decide +kernel
theorem d_M_change_143 : decode b_M_change 143 = .ok (.goto 4, 3) := by decide +kernel
theorem d_M_change_146 : decode b_M_change 146 = .ok (.iconst 0, 1) := by decide +kernel
theorem d_M_change_147 : decode b_M_change 147 = .ok (.bastore, 1) := by decide +kernel
theorem d_M_change_148 : decode b_M_change 148 = .ok (.goto 171, 3) := by decide +kernel
theorem d_M_change_151 : decode b_M_change 151 = .ok (.aload_n 0, 1) := by decide +kernel
theorem d_M_change_152 : decode b_M_change 152 = .ok (.getfield 16, 3) := by decide +kernel
theorem d_M_change_155 : decode b_M_change 155 = .ok (.bipush 32, 2) := by decide +kernel
theorem d_M_change_157 : decode b_M_change 157 = .ok (.iconst 0, 1) := by decide +kernel
theorem d_M_change_158 : decode b_M_change 158 = .ok (.bastore, 1) := by decide +kernel
theorem d_M_change_159 : decode b_M_change 159 = .ok (.goto 160, 3) := by decide +kernel
theorem d_M_change_162 : decode b_M_change 162 = .ok (.aload_n 0, 1) := by decide +kernel
theorem d_M_change_163 : decode b_M_change 163 = .ok (.bipush 32, 2) := by decide +kernel
theorem d_M_change_165 : decode b_M_change 165 = .ok (.iload_n 3, 1) := by decide +kernel
theorem d_M_change_166 : decode b_M_change 166 = .ok (.invokestatic 82, 3) := by decide +kernel
theorem d_M_change_169 : decode b_M_change 169 = .ok (.invokevirtual 55, 3) := by decide +kernel
theorem d_M_change_172 : decode b_M_change 172 = .ok (.aload_n 0, 1) := by decide +kernel
theorem d_M_change_173 : decode b_M_change 173 = .ok (.bipush 33, 2) := by decide +kernel
theorem d_M_change_175 : decode b_M_change 175 = .ok (.iload_n 3, 1) := by decide +kernel
theorem d_M_change_176 : decode b_M_change 176 = .ok (.invokevirtual 55, 3) := by decide +kernel
theorem d_M_change_179 : decode b_M_change 179 = .ok (.goto 140, 3) := by decide +kernel
theorem d_M_change_182 : decode b_M_change 182 = .ok (.aload_n 0, 1) := by decide +kernel
theorem d_M_change_183 : decode b_M_change 183 = .ok (.getfield 16, 3) := by decide +kernel
theorem d_M_change_186 : decode b_M_change 186 = .ok (.bipush 32, 2) := by decide +kernel
theorem d_M_change_188 : decode b_M_change 188 = .ok (.aload_n 0, 1) := by decide +kernel
theorem d_M_change_189 : decode b_M_change 189 = .ok (.getfield 16, 3) := by decide +kernel
theorem d_M_change_192 : decode b_M_change 192 = .ok (.bipush 32, 2) := by decide +kernel
theorem d_M_change_194 : decode b_M_change 194 = .ok (.baload, 1) := by decide +kernel
theorem d_M_change_195 : decode b_M_change 195 = .ok (.iload_n 2, 1) := by decide +kernel
theorem d_M_change_196 : decode b_M_change 196 = .ok (.iconst 4, 1) := by decide +kernel
theorem d_M_change_197 : decode b_M_change 197 = .ok (.if_icmp .ne 7, 3) := by decide +kernel
theorem d_M_change_200 : decode b_M_change 200 = .ok (.iconst 1, 1) := by decide +kernel
theorem d_M_change_201 : decode b_M_change 201 = .ok (.goto 4, 3) := by decide +kernel
theorem d_M_change_204 : decode b_M_change 204 = .ok (.iconst 0, 1) := by decide +kernel
theorem d_M_change_205 : decode b_M_change 205 = .ok (.if_icmp .eq 17, 3) := by decide +kernel
theorem d_M_change_208 : decode b_M_change 208 = .ok (.aload_n 0, 1) := by decide +kernel
theorem d_M_change_209 : decode b_M_change 209 = .ok (.getfield 13, 3) := by decide +kernel
theorem d_M_change_212 : decode b_M_change 212 = .ok (.bipush 32, 2) := by decide +kernel
theorem d_M_change_214 : decode b_M_change 214 = .ok (.iaload, 1) := by decide +kernel
theorem d_M_change_215 : decode b_M_change 215 = .ok (.ifCond .le 7, 3) := by decide +kernel
theorem d_M_change_218 : decode b_M_change 218 = .ok (.iconst 1, 1) := by decide +kernel
theorem d_M_change_219 : decode b_M_change 219 = .ok (.goto 4, 3) := by decide +kernel
theorem d_M_change_222 : decode b_M_change 222 = .ok (.iconst 0, 1) := by decide +kernel
theorem d_M_change_223 : decode b_M_change 223 = .ok (.bastore, 1) := by decide +kernel
theorem d_M_change_224 : decode b_M_change 224 = .ok (.aload_n 0, 1) := by decide +kernel
theorem d_M_change_225 : decode b_M_change 225 = .ok (.bipush 32, 2) := by decide +kernel
theorem d_M_change_227 : decode b_M_change 227 = .ok (.bipush 33, 2) := by decide +kernel
theorem d_M_change_229 : decode b_M_change 229 = .ok (.invokevirtual 95, 3) := by decide +kernel
theorem d_M_change_232 : decode b_M_change 232 = .ok (.aload_n 0, 1) := by decide +kernel
theorem d_M_change_233 : decode b_M_change 233 = .ok (.bipush 32, 2) := by decide +kernel
theorem d_M_change_235 : decode b_M_change 235 = .ok (.bipush 41, 2) := by decide +kernel
theorem d_M_change_237 : decode b_M_change 237 = .ok (.invokevirtual 55, 3) := by decide +kernel
theorem d_M_change_240 : decode b_M_change 240 = .ok (.aload_n 0, 1) := by decide +kernel
theorem d_M_change_241 : decode b_M_change 241 = .ok (.getfield 16, 3) := by decide +kernel
theorem d_M_change_244 : decode b_M_change 244 = .ok (.bipush 32, 2) := by decide +kernel
theorem d_M_change_246 : decode b_M_change 246 = .ok (.aload_n 0, 1) := by decide +kernel
theorem d_M_change_247 : decode b_M_change 247 = .ok (.getfield 16, 3) := by decide +kernel
theorem d_M_change_250 : decode b_M_change 250 = .ok (.bipush 32, 2) := by decide +kernel
theorem d_M_change_252 : decode b_M_change 252 = .ok (.baload, 1) := by decide +kernel
theorem d_M_change_253 : decode b_M_change 253 = .ok (.iload_n 2, 1) := by decide +kernel
theorem d_M_change_254 : decode b_M_change 254 = .ok (.iconst 4, 1) := by decide +kernel
theorem d_M_change_255 : decode b_M_change 255 = .ok (.if_icmp .ne 7, 3) := by decide +kernel
theorem d_M_change_258 : decode b_M_change 258 = .ok (.iconst 1, 1) := by decide +kernel
theorem d_M_change_259 : decode b_M_change 259 = .ok (.goto 4, 3) := by decide +kernel
theorem d_M_change_262 : decode b_M_change 262 = .ok (.iconst 0, 1) := by decide +kernel
theorem d_M_change_263 : decode b_M_change 263 = .ok (.if_icmp .eq 17, 3) := by decide +kernel
theorem d_M_change_266 : decode b_M_change 266 = .ok (.aload_n 0, 1) := by decide +kernel
theorem d_M_change_267 : decode b_M_change 267 = .ok (.getfield 13, 3) := by decide +kernel
theorem d_M_change_270 : decode b_M_change 270 = .ok (.bipush 32, 2) := by decide +kernel
theorem d_M_change_272 : decode b_M_change 272 = .ok (.iaload, 1) := by decide +kernel
theorem d_M_change_273 : decode b_M_change 273 = .ok (.ifCond .le 7, 3) := by decide +kernel
theorem d_M_change_276 : decode b_M_change 276 = .ok (.iconst 1, 1) := by decide +kernel
theorem d_M_change_277 : decode b_M_change 277 = .ok (.goto 4, 3) := by decide +kernel
theorem d_M_change_280 : decode b_M_change 280 = .ok (.iconst 0, 1) := by decide +kernel
theorem d_M_change_281 : decode b_M_change 281 = .ok (.bastore, 1) := by decide +kernel
theorem d_M_change_282 : decode b_M_change 282 = .ok (.aload_n 0, 1) := by decide +kernel
theorem d_M_change_283 : decode b_M_change 283 = .ok (.bipush 33, 2) := by decide +kernel
theorem d_M_change_285 : decode b_M_change 285 = .ok (.lconst 1, 1) := by decide +kernel
theorem d_M_change_286 : decode b_M_change 286 = .ok (.invokevirtual 30, 3) := by decide +kernel
theorem d_M_change_289 : decode b_M_change 289 = .ok (.goto 30, 3) := by decide +kernel
theorem d_M_change_292 : decode b_M_change 292 = .ok (.aload_n 0, 1) := by decide +kernel
theorem d_M_change_293 : decode b_M_change 293 = .ok (.bipush 33, 2) := by decide +kernel
theorem d_M_change_295 : decode b_M_change 295 = .ok (.lconst 1, 1) := by decide +kernel
theorem d_M_change_296 : decode b_M_change 296 = .ok (.invokevirtual 30, 3) := by decide +kernel
theorem d_M_change_299 : decode b_M_change 299 = .ok (.goto 20, 3) := by decide +kernel
theorem d_M_change_302 : decode b_M_change 302 = .ok (.aload_n 0, 1) := by decide +kernel
theorem d_M_change_303 : decode b_M_change 303 = .ok (.bipush 32, 2) := by decide +kernel
theorem d_M_change_305 : decode b_M_change 305 = .ok (.iload_n 3, 1) := by decide +kernel
theorem d_M_change_306 : decode b_M_change 306 = .ok (.invokestatic 82, 3) := by decide +kernel
theorem d_M_change_309 : decode b_M_change 309 = .ok (.invokevirtual 55, 3) := by decide +kernel
theorem d_M_change_312 : decode b_M_change 312 = .ok (.aload_n 0, 1) := by decide +kernel
theorem d_M_change_313 : decode b_M_change 313 = .ok (.bipush 33, 2) := by decide +kernel
theorem d_M_change_315 : decode b_M_change 315 = .ok (.lconst 1, 1) := by decide +kernel
theorem d_M_change_316 : decode b_M_change 316 = .ok (.invokevirtual 30, 3) := by decide +kernel
theorem d_M_change_319 : decode b_M_change 319 = .ok (.aload_n 0, 1) := by decide +kernel
theorem d_M_change_320 : decode b_M_change 320 = .ok (.iload_n 1, 1) := by decide +kernel
theorem d_M_change_321 : decode b_M_change 321 = .ok (.invokevirtual 89, 3) := by decide +kernel
theorem d_M_change_324 : decode b_M_change 324 = .ok (.ireturn, 1) := by decide +kernel
theorem d_M_power_0 : decode b_M_power 0 = .ok (.aload_n 0, 1) := by decide +kernel
theorem d_M_power_1 : decode b_M_power 1 = .ok (.iload_n 1, 1) := by decide +kernel
theorem d_M_power_2 : decode b_M_power 2 = .ok (.invokestatic 86, 3) := by decide +kernel
theorem d_M_power_5 : decode b_M_power 5 = .ok (.ifCond .eq 28, 3) := by decide +kernel
theorem d_M_power_8 : decode b_M_power 8 = .ok (.iload_n 2, 1) := by decide +kernel
theorem d_M_power_9 : decode b_M_power 9 = .ok (.invokestatic 86, 3) := by decide +kernel
theorem d_M_power_12 : decode b_M_power 12 = .ok (.ifCond .eq 21, 3) := by decide +kernel
theorem d_M_power_15 : decode b_M_power 15 = .ok (.iload_n 3, 1) := by decide +kernel
theorem d_M_power_16 : decode b_M_power 16 = .ok (.sipush (-2048), 3) := by decide +kernel
theorem d_M_power_19 : decode b_M_power 19 = .ok (.if_icmp .lt 14, 3) := by decide +kernel
theorem d_M_power_22 : decode b_M_power 22 = .ok (.iload_n 3, 1) := by decide +kernel
theorem d_M_power_23 : decode b_M_power 23 = .ok (.sipush 2048, 3) := by decide +kernel
theorem d_M_power_26 : decode b_M_power 26 = .ok (.if_icmp .gt 7, 3) := by decide +kernel
theorem d_M_power_29 : decode b_M_power 29 = .ok (.iconst 0, 1) := by decide +kernel
theorem d_M_power_30 : decode b_M_power 30 = .ok (.goto 4, 3) := by decide +kernel
theorem d_M_power_33 : decode b_M_power 33 = .ok (.iconst 1, 1) := by decide +kernel
theorem d_M_power_34 : decode b_M_power 34 = .ok (.putfield 34, 3) := by decide +kernel
theorem d_M_power_37 : decode b_M_power 37 = .ok (.aload_n 0, 1) := by decide +kernel
theorem d_M_power_38 : decode b_M_power 38 = .ok (.getfield 34, 3) := by decide +kernel
theorem d_M_power_41 : decode b_M_power 41 = .ok (.ifCond .le 5, 3) := by decide +kernel
theorem d_M_power_44 : decode b_M_power 44 = .ok (.iconst 0, 1) := by decide +kernel
theorem d_M_power_45 : decode b_M_power 45 = .ok (.ireturn, 1) := by decide +kernel
theorem d_M_power_46 : decode b_M_power 46 = .ok (.iload_n 3, 1) := by decide +kernel
theorem d_M_power_47 : decode b_M_power 47 = .ok (.ifCond .ge 15, 3) := by decide +kernel
theorem d_M_power_50 : decode b_M_power 50 = .ok (.aload_n 0, 1) := by decide +kernel
theorem d_M_power_51 : decode b_M_power 51 = .ok (.getfield 13, 3) := by decide +kernel
theorem d_M_power_54 : decode b_M_power 54 = .ok (.iload_n 2, 1) := by decide +kernel
theorem d_M_power_55 : decode b_M_power 55 = .ok (.iaload, 1) := by decide +kernel
theorem d_M_power_56 : decode b_M_power 56 = .ok (.ifCond .ne 6, 3) := by decide +kernel
theorem d_M_power_59 : decode b_M_power 59 = .ok (.bipush (-2), 2) := by decide +kernel
theorem d_M_power_61 : decode b_M_power 61 = .ok (.ireturn, 1) := by decide +kernel
theorem d_M_power_62 : decode b_M_power 62 = .ok (.iload_n 3, 1) := by decide +kernel
theorem d_M_power_63 : decode b_M_power 63 = .ok (.ifCond .ge 8, 3) := by decide +kernel
theorem d_M_power_66 : decode b_M_power 66 = .ok (.iload_n 3, 1) := by decide +kernel
theorem d_M_power_67 : decode b_M_power 67 = .ok (.ineg, 1) := by decide +kernel
theorem d_M_power_68 : decode b_M_power 68 = .ok (.goto 4, 3) := by decide +kernel
theorem d_M_power_71 : decode b_M_power 71 = .ok (.iload_n 3, 1) := by decide +kernel
theorem d_M_power_72 : decode b_M_power 72 = .ok (.istore 4, 2) := by decide +kernel
theorem d_M_power_74 : decode b_M_power 74 = .ok (.aload_n 0, 1) := by decide +kernel
theorem d_M_power_75 : decode b_M_power 75 = .ok (.bipush 39, 2) := by decide +kernel
theorem d_M_power_77 : decode b_M_power 77 = .ok (.iload_n 2, 1) := by decide +kernel
theorem d_M_power_78 : decode b_M_power 78 = .ok (.iload 4, 2) := by decide +kernel
theorem d_M_power_80 : decode b_M_power 80 = .ok (.invokevirtual 114, 3) := by decide +kernel
theorem d_M_power_83 : decode b_M_power 83 = .ok (.ifCond .eq 18, 3) := by decide +kernel
theorem d_M_power_86 : decode b_M_power 86 = .ok (.aload_n 0, 1) := by decide +kernel
theorem d_M_power_87 : decode b_M_power 87 = .ok (.bipush 40, 2) := by decide +kernel
theorem d_M_power_89 : decode b_M_power 89 = .ok (.iload_n 2, 1) := by decide +kernel
theorem d_M_power_90 : decode b_M_power 90 = .ok (.invokestatic 82, 3) := by decide +kernel
theorem d_M_power_93 : decode b_M_power 93 = .ok (.iload 4, 2) := by decide +kernel
theorem d_M_power_95 : decode b_M_power 95 = .ok (.invokevirtual 114, 3) := by decide +kernel
theorem d_M_power_98 : decode b_M_power 98 = .ok (.ifCond .ne 5, 3) := by decide +kernel
theorem d_M_power_101 : decode b_M_power 101 = .ok (.iconst (-1), 1) := by decide +kernel
theorem d_M_power_102 : decode b_M_power 102 = .ok (.ireturn, 1) := by decide +kernel
theorem d_M_power_103 : decode b_M_power 103 = .ok (.aload_n 0, 1) := by decide +kernel
theorem d_M_power_104 : decode b_M_power 104 = .ok (.bipush 32, 2) := by decide +kernel
theorem d_M_power_106 : decode b_M_power 106 = .ok (.iload_n 3, 1) := by decide +kernel
theorem d_M_power_107 : decode b_M_power 107 = .ok (.ifCond .ge 8, 3) := by decide +kernel
theorem d_M_power_110 : decode b_M_power 110 = .ok (.bipush 40, 2) := by decide +kernel
theorem d_M_power_112 : decode b_M_power 112 = .ok (.goto 5, 3) := by decide +kernel
theorem d_M_power_115 : decode b_M_power 115 = .ok (.bipush 39, 2) := by decide +kernel
theorem d_M_power_117 : decode b_M_power 117 = .ok (.invokevirtual 55, 3) := by decide +kernel
theorem d_M_power_120 : decode b_M_power 120 = .ok (.aload_n 0, 1) := by decide +kernel
theorem d_M_power_121 : decode b_M_power 121 = .ok (.bipush 33, 2) := by decide +kernel
theorem d_M_power_123 : decode b_M_power 123 = .ok (.iload_n 3, 1) := by decide +kernel
theorem d_M_power_124 : decode b_M_power 124 = .ok (.ifCond .ge 8, 3) := by decide +kernel
theorem d_M_power_127 : decode b_M_power 127 = .ok (.bipush 39, 2) := by decide +kernel
theorem d_M_power_129 : decode b_M_power 129 = .ok (.goto 5, 3) := by decide +kernel
theorem d_M_power_132 : decode b_M_power 132 = .ok (.bipush 40, 2) := by decide +kernel
theorem d_M_power_134 : decode b_M_power 134 = .ok (.invokevirtual 55, 3) := by decide +kernel
theorem d_M_power_137 : decode b_M_power 137 = .ok (.aload_n 0, 1) := by decide +kernel
theorem d_M_power_138 : decode b_M_power 138 = .ok (.iload_n 1, 1) := by decide +kernel
theorem d_M_power_139 : decode b_M_power 139 = .ok (.invokevirtual 89, 3) := by decide +kernel
theorem d_M_power_142 : decode b_M_power 142 = .ok (.ireturn, 1) := by decide +kernel
theorem d_M_raise_0 : decode b_M_raise 0 = .ok (.aload_n 0, 1) := by decide +kernel
theorem d_M_raise_1 : decode b_M_raise 1 = .ok (.iload_n 1, 1) := by decide +kernel
theorem d_M_raise_2 : decode b_M_raise 2 = .ok (.lconst 1, 1) := by decide +kernel
theorem d_M_raise_3 : decode b_M_raise 3 = .ok (.invokevirtual 30, 3) := by decide +kernel
theorem d_M_raise_6 : decode b_M_raise 6 = .ok (.iconst 0, 1) := by decide +kernel
theorem d_M_raise_7 : decode b_M_raise 7 = .ok (.istore 4, 2) := by decide +kernel
theorem d_M_raise_9 : decode b_M_raise 9 = .ok (.iload 4, 2) := by decide +kernel
theorem d_M_raise_11 : decode b_M_raise 11 = .ok (.iload_n 3, 1) := by decide +kernel
theorem d_M_raise_12 : decode b_M_raise 12 = .ok (.if_icmp .ge 39, 3) := by decide +kernel
theorem d_M_raise_15 : decode b_M_raise 15 = .ok (.aload_n 0, 1) := by decide +kernel
theorem d_M_raise_16 : decode b_M_raise 16 = .ok (.bipush 41, 2) := by decide +kernel
theorem d_M_raise_18 : decode b_M_raise 18 = .ok (.iload_n 1, 1) := by decide +kernel
theorem d_M_raise_19 : decode b_M_raise 19 = .ok (.iload_n 2, 1) := by decide +kernel
theorem d_M_raise_20 : decode b_M_raise 20 = .ok (.invokevirtual 92, 3) := by decide +kernel
theorem d_M_raise_23 : decode b_M_raise 23 = .ok (.aload_n 0, 1) := by decide +kernel
theorem d_M_raise_24 : decode b_M_raise 24 = .ok (.getfield 13, 3) := by decide +kernel
theorem d_M_raise_27 : decode b_M_raise 27 = .ok (.bipush 41, 2) := by decide +kernel
theorem d_M_raise_29 : decode b_M_raise 29 = .ok (.iaload, 1) := by decide +kernel
theorem d_M_raise_30 : decode b_M_raise 30 = .ok (.sipush 128, 3) := by decide +kernel
theorem d_M_raise_33 : decode b_M_raise 33 = .ok (.if_icmp .le 5, 3) := by decide +kernel
theorem d_M_raise_36 : decode b_M_raise 36 = .ok (.iconst 0, 1) := by decide +kernel
theorem d_M_raise_37 : decode b_M_raise 37 = .ok (.ireturn, 1) := by decide +kernel
theorem d_M_raise_38 : decode b_M_raise 38 = .ok (.aload_n 0, 1) := by decide +kernel
theorem d_M_raise_39 : decode b_M_raise 39 = .ok (.iload_n 1, 1) := by decide +kernel
theorem d_M_raise_40 : decode b_M_raise 40 = .ok (.bipush 41, 2) := by decide +kernel
theorem d_M_raise_42 : decode b_M_raise 42 = .ok (.invokevirtual 55, 3) := by decide +kernel
theorem d_M_raise_45 : decode b_M_raise 45 = .ok (.iinc 4 1, 3) := by decide +kernel
theorem d_M_raise_48 : decode b_M_raise 48 = .ok (.goto (-39), 3) := by decide +kernel
theorem d_M_raise_51 : decode b_M_raise 51 = .ok (.iconst 1, 1) := by decide +kernel
theorem d_M_raise_52 : decode b_M_raise 52 = .ok (.ireturn, 1) := by decide +kernel
theorem d_M_order_0 : decode b_M_order 0 = .ok (.aload_n 0, 1) := by decide +kernel
theorem d_M_order_1 : decode b_M_order 1 = .ok (.iload_n 1, 1) := by decide +kernel
theorem d_M_order_2 : decode b_M_order 2 = .ok (.invokestatic 86, 3) := by decide +kernel
theorem d_M_order_5 : decode b_M_order 5 = .ok (.ifCond .eq 14, 3) := by decide +kernel
theorem d_M_order_8 : decode b_M_order 8 = .ok (.iload_n 2, 1) := by decide +kernel
theorem d_M_order_9 : decode b_M_order 9 = .ok (.invokestatic 86, 3) := by decide +kernel
theorem d_M_order_12 : decode b_M_order 12 = .ok (.ifCond .eq 7, 3) := by decide +kernel
theorem d_M_order_15 : decode b_M_order 15 = .ok (.iconst 0, 1) := by decide +kernel
theorem d_M_order_16 : decode b_M_order 16 = .ok (.goto 4, 3) := by decide +kernel
theorem d_M_order_19 : decode b_M_order 19 = .ok (.iconst 1, 1) := by decide +kernel
theorem d_M_order_20 : decode b_M_order 20 = .ok (.putfield 34, 3) := by decide +kernel
theorem d_M_order_23 : decode b_M_order 23 = .ok (.aload_n 0, 1) := by decide +kernel
theorem d_M_order_24 : decode b_M_order 24 = .ok (.getfield 34, 3) := by decide +kernel
theorem d_M_order_27 : decode b_M_order 27 = .ok (.ifCond .le 7, 3) := by decide +kernel
theorem d_M_order_30 : decode b_M_order 30 = .ok (.iconst 0, 1) := by decide +kernel
theorem d_M_order_31 : decode b_M_order 31 = .ok (.goto 9, 3) := by decide +kernel
theorem d_M_order_34 : decode b_M_order 34 = .ok (.aload_n 0, 1) := by decide +kernel
theorem d_M_order_35 : decode b_M_order 35 = .ok (.iload_n 1, 1) := by decide +kernel
theorem d_M_order_36 : decode b_M_order 36 = .ok (.iload_n 2, 1) := by decide +kernel
theorem d_M_order_37 : decode b_M_order 37 = .ok (.invokevirtual 101, 3) := by decide +kernel
theorem d_M_order_40 : decode b_M_order 40 = .ok (.ireturn, 1) := by decide +kernel
theorem d_M_sign_0 : decode b_M_sign 0 = .ok (.aload_n 0, 1) := by decide +kernel
theorem d_M_sign_1 : decode b_M_sign 1 = .ok (.iload_n 1, 1) := by decide +kernel
theorem d_M_sign_2 : decode b_M_sign 2 = .ok (.invokestatic 86, 3) := by decide +kernel
theorem d_M_sign_5 : decode b_M_sign 5 = .ok (.ifCond .eq 7, 3) := by decide +kernel
theorem d_M_sign_8 : decode b_M_sign 8 = .ok (.iconst 0, 1) := by decide +kernel
theorem d_M_sign_9 : decode b_M_sign 9 = .ok (.goto 4, 3) := by decide +kernel
theorem d_M_sign_12 : decode b_M_sign 12 = .ok (.iconst 1, 1) := by decide +kernel
theorem d_M_sign_13 : decode b_M_sign 13 = .ok (.putfield 34, 3) := by decide +kernel
theorem d_M_sign_16 : decode b_M_sign 16 = .ok (.aload_n 0, 1) := by decide +kernel
theorem d_M_sign_17 : decode b_M_sign 17 = .ok (.getfield 34, 3) := by decide +kernel
theorem d_M_sign_20 : decode b_M_sign 20 = .ok (.ifCond .gt 12, 3) := by decide +kernel
theorem d_M_sign_23 : decode b_M_sign 23 = .ok (.aload_n 0, 1) := by decide +kernel
theorem d_M_sign_24 : decode b_M_sign 24 = .ok (.getfield 13, 3) := by decide +kernel
theorem d_M_sign_27 : decode b_M_sign 27 = .ok (.iload_n 1, 1) := by decide +kernel
theorem d_M_sign_28 : decode b_M_sign 28 = .ok (.iaload, 1) := by decide +kernel
theorem d_M_sign_29 : decode b_M_sign 29 = .ok (.ifCond .ne 7, 3) := by decide +kernel
theorem d_M_sign_32 : decode b_M_sign 32 = .ok (.iconst 0, 1) := by decide +kernel
theorem d_M_sign_33 : decode b_M_sign 33 = .ok (.goto 17, 3) := by decide +kernel
theorem d_M_sign_36 : decode b_M_sign 36 = .ok (.aload_n 0, 1) := by decide +kernel
theorem d_M_sign_37 : decode b_M_sign 37 = .ok (.getfield 16, 3) := by decide +kernel
theorem d_M_sign_40 : decode b_M_sign 40 = .ok (.iload_n 1, 1) := by decide +kernel
theorem d_M_sign_41 : decode b_M_sign 41 = .ok (.baload, 1) := by decide +kernel
theorem d_M_sign_42 : decode b_M_sign 42 = .ok (.ifCond .eq 7, 3) := by decide +kernel
theorem d_M_sign_45 : decode b_M_sign 45 = .ok (.iconst (-1), 1) := by decide +kernel
theorem d_M_sign_46 : decode b_M_sign 46 = .ok (.goto 4, 3) := by decide +kernel
theorem d_M_sign_49 : decode b_M_sign 49 = .ok (.iconst 1, 1) := by decide +kernel
theorem d_M_sign_50 : decode b_M_sign 50 = .ok (.ireturn, 1) := by decide +kernel
theorem d_M_places_0 : decode b_M_places 0 = .ok (.aload_n 0, 1) := by decide +kernel
theorem d_M_places_1 : decode b_M_places 1 = .ok (.iload_n 1, 1) := by decide +kernel
theorem d_M_places_2 : decode b_M_places 2 = .ok (.iload_n 2, 1) := by decide +kernel
theorem d_M_places_3 : decode b_M_places 3 = .ok (.invokevirtual 118, 3) := by decide +kernel
theorem d_M_places_6 : decode b_M_places 6 = .ok (.aload_n 0, 1) := by decide +kernel
theorem d_M_places_7 : decode b_M_places 7 = .ok (.getfield 34, 3) := by decide +kernel
theorem d_M_places_10 : decode b_M_places 10 = .ok (.ifCond .le 5, 3) := by decide +kernel
theorem d_M_places_13 : decode b_M_places 13 = .ok (.iconst 0, 1) := by decide +kernel
theorem d_M_places_14 : decode b_M_places 14 = .ok (.ireturn, 1) := by decide +kernel
theorem d_M_places_15 : decode b_M_places 15 = .ok (.iload_n 2, 1) := by decide +kernel
theorem d_M_places_16 : decode b_M_places 16 = .ok (.ifCond .ne 7, 3) := by decide +kernel
theorem d_M_places_19 : decode b_M_places 19 = .ok (.iload_n 1, 1) := by decide +kernel
theorem d_M_places_20 : decode b_M_places 20 = .ok (.goto 7, 3) := by decide +kernel
theorem d_M_places_23 : decode b_M_places 23 = .ok (.iload_n 1, 1) := by decide +kernel
theorem d_M_places_24 : decode b_M_places 24 = .ok (.invokestatic 82, 3) := by decide +kernel
theorem d_M_places_27 : decode b_M_places 27 = .ok (.istore_n 3, 1) := by decide +kernel
theorem d_M_places_28 : decode b_M_places 28 = .ok (.aload_n 0, 1) := by decide +kernel
theorem d_M_places_29 : decode b_M_places 29 = .ok (.getfield 13, 3) := by decide +kernel
theorem d_M_places_32 : decode b_M_places 32 = .ok (.iload_n 3, 1) := by decide +kernel
theorem d_M_places_33 : decode b_M_places 33 = .ok (.iaload, 1) := by decide +kernel
theorem d_M_places_34 : decode b_M_places 34 = .ok (.ifCond .ne 7, 3) := by decide +kernel
theorem d_M_places_37 : decode b_M_places 37 = .ok (.iconst 0, 1) := by decide +kernel
theorem d_M_places_38 : decode b_M_places 38 = .ok (.goto 14, 3) := by decide +kernel
theorem d_M_places_41 : decode b_M_places 41 = .ok (.bipush 16, 2) := by decide +kernel
theorem d_M_places_43 : decode b_M_places 43 = .ok (.aload_n 0, 1) := by decide +kernel
theorem d_M_places_44 : decode b_M_places 44 = .ok (.getfield 13, 3) := by decide +kernel
theorem d_M_places_47 : decode b_M_places 47 = .ok (.iload_n 3, 1) := by decide +kernel
theorem d_M_places_48 : decode b_M_places 48 = .ok (.iaload, 1) := by decide +kernel
theorem d_M_places_49 : decode b_M_places 49 = .ok (.iconst 1, 1) := by decide +kernel
theorem d_M_places_50 : decode b_M_places 50 = .ok (.isub, 1) := by decide +kernel
theorem d_M_places_51 : decode b_M_places 51 = .ok (.imul, 1) := by decide +kernel
theorem d_M_places_52 : decode b_M_places 52 = .ok (.istore 4, 2) := by decide +kernel
theorem d_M_places_54 : decode b_M_places 54 = .ok (.aload_n 0, 1) := by decide +kernel
theorem d_M_places_55 : decode b_M_places 55 = .ok (.getfield 13, 3) := by decide +kernel
theorem d_M_places_58 : decode b_M_places 58 = .ok (.iload_n 3, 1) := by decide +kernel
theorem d_M_places_59 : decode b_M_places 59 = .ok (.iaload, 1) := by decide +kernel
theorem d_M_places_60 : decode b_M_places 60 = .ok (.ifCond .ne 7, 3) := by decide +kernel
theorem d_M_places_63 : decode b_M_places 63 = .ok (.iconst 0, 1) := by decide +kernel
theorem d_M_places_64 : decode b_M_places 64 = .ok (.goto 22, 3) := by decide +kernel
theorem d_M_places_67 : decode b_M_places 67 = .ok (.aload_n 0, 1) := by decide +kernel
theorem d_M_places_68 : decode b_M_places 68 = .ok (.getfield 7, 3) := by decide +kernel
theorem d_M_places_71 : decode b_M_places 71 = .ok (.sipush 300, 3) := by decide +kernel
theorem d_M_places_74 : decode b_M_places 74 = .ok (.iload_n 3, 1) := by decide +kernel
theorem d_M_places_75 : decode b_M_places 75 = .ok (.imul, 1) := by decide +kernel
theorem d_M_places_76 : decode b_M_places 76 = .ok (.aload_n 0, 1) := by decide +kernel
theorem d_M_places_77 : decode b_M_places 77 = .ok (.getfield 13, 3) := by decide +kernel
theorem d_M_places_80 : decode b_M_places 80 = .ok (.iload_n 3, 1) := by decide +kernel
theorem d_M_places_81 : decode b_M_places 81 = .ok (.iaload, 1) := by decide +kernel
theorem d_M_places_82 : decode b_M_places 82 = .ok (.iadd, 1) := by decide +kernel
theorem d_M_places_83 : decode b_M_places 83 = .ok (.iconst 1, 1) := by decide +kernel
theorem d_M_places_84 : decode b_M_places 84 = .ok (.isub, 1) := by decide +kernel
theorem d_M_places_85 : decode b_M_places 85 = .ok (.iaload, 1) := by decide +kernel
theorem d_M_places_86 : decode b_M_places 86 = .ok (.istore 5, 2) := by decide +kernel
theorem d_M_places_88 : decode b_M_places 88 = .ok (.iload 5, 2) := by decide +kernel
theorem d_M_places_90 : decode b_M_places 90 = .ok (.ifCond .le 15, 3) := by decide +kernel
theorem d_M_places_93 : decode b_M_places 93 = .ok (.iinc 4 1, 3) := by decide +kernel
theorem d_M_places_96 : decode b_M_places 96 = .ok (.iload 5, 2) := by decide +kernel
theorem d_M_places_98 : decode b_M_places 98 = .ok (.iconst 2, 1) := by decide +kernel
theorem d_M_places_99 : decode b_M_places 99 = .ok (.idiv, 1) := by decide +kernel
theorem d_M_places_100 : decode b_M_places 100 = .ok (.istore 5, 2) := by decide +kernel
theorem d_M_places_102 : decode b_M_places 102 = .ok (.goto (-14), 3) := by decide +kernel
theorem d_M_places_105 : decode b_M_places 105 = .ok (.iload 4, 2) := by decide +kernel
theorem d_M_places_107 : decode b_M_places 107 = .ok (.ireturn, 1) := by decide +kernel
theorem d_M_look_0 : decode b_M_look 0 = .ok (.aload_n 0, 1) := by decide +kernel
theorem d_M_look_1 : decode b_M_look 1 = .ok (.iload_n 1, 1) := by decide +kernel
theorem d_M_look_2 : decode b_M_look 2 = .ok (.invokestatic 86, 3) := by decide +kernel
theorem d_M_look_5 : decode b_M_look 5 = .ok (.ifCond .eq 16, 3) := by decide +kernel
theorem d_M_look_8 : decode b_M_look 8 = .ok (.iload_n 2, 1) := by decide +kernel
theorem d_M_look_9 : decode b_M_look 9 = .ok (.ifCond .lt 12, 3) := by decide +kernel
theorem d_M_look_12 : decode b_M_look 12 = .ok (.iload_n 2, 1) := by decide +kernel
theorem d_M_look_13 : decode b_M_look 13 = .ok (.iconst 1, 1) := by decide +kernel
theorem d_M_look_14 : decode b_M_look 14 = .ok (.if_icmp .gt 7, 3) := by decide +kernel
theorem d_M_look_17 : decode b_M_look 17 = .ok (.iconst 0, 1) := by decide +kernel
theorem d_M_look_18 : decode b_M_look 18 = .ok (.goto 4, 3) := by decide +kernel
theorem d_M_look_21 : decode b_M_look 21 = .ok (.iconst 1, 1) := by decide +kernel
theorem d_M_look_22 : decode b_M_look 22 = .ok (.putfield 34, 3) := by decide +kernel
theorem d_M_look_25 : decode b_M_look 25 = .ok (.return_, 1) := by decide +kernel
theorem d_M_part_0 : decode b_M_part 0 = .ok (.aload_n 0, 1) := by decide +kernel
theorem d_M_part_1 : decode b_M_part 1 = .ok (.iload_n 1, 1) := by decide +kernel
theorem d_M_part_2 : decode b_M_part 2 = .ok (.iload_n 2, 1) := by decide +kernel
theorem d_M_part_3 : decode b_M_part 3 = .ok (.invokevirtual 118, 3) := by decide +kernel
theorem d_M_part_6 : decode b_M_part 6 = .ok (.aload_n 0, 1) := by decide +kernel
theorem d_M_part_7 : decode b_M_part 7 = .ok (.getfield 34, 3) := by decide +kernel
theorem d_M_part_10 : decode b_M_part 10 = .ok (.ifCond .gt 14, 3) := by decide +kernel
theorem d_M_part_13 : decode b_M_part 13 = .ok (.iload_n 3, 1) := by decide +kernel
theorem d_M_part_14 : decode b_M_part 14 = .ok (.ifCond .lt 10, 3) := by decide +kernel
theorem d_M_part_17 : decode b_M_part 17 = .ok (.iload_n 3, 1) := by decide +kernel
theorem d_M_part_18 : decode b_M_part 18 = .ok (.sipush 128, 3) := by decide +kernel
theorem d_M_part_21 : decode b_M_part 21 = .ok (.if_icmp .le 5, 3) := by decide +kernel
theorem d_M_part_24 : decode b_M_part 24 = .ok (.lconst 0, 1) := by decide +kernel
end
section
/-! the instructions, by program -/
theorem d_M_part_25 : decode b_M_part 25 = .ok (.lreturn, 1) := by decide +kernel
theorem d_M_part_26 : decode b_M_part 26 = .ok (.iload_n 2, 1) := by decide +kernel
theorem d_M_part_27 : decode b_M_part 27 = .ok (.ifCond .ne 7, 3) := by decide +kernel
theorem d_M_part_30 : decode b_M_part 30 = .ok (.iload_n 1, 1) := by decide +kernel
theorem d_M_part_31 : decode b_M_part 31 = .ok (.goto 7, 3) := by decide +kernel
theorem d_M_part_34 : decode b_M_part 34 = .ok (.iload_n 1, 1) := by decide +kernel
theorem d_M_part_35 : decode b_M_part 35 = .ok (.invokestatic 82, 3) := by decide +kernel
theorem d_M_part_38 : decode b_M_part 38 = .ok (.istore 4, 2) := by decide +kernel
theorem d_M_part_40 : decode b_M_part 40 = .ok (.aload_n 0, 1) := by decide +kernel
theorem d_M_part_41 : decode b_M_part 41 = .ok (.iload 4, 2) := by decide +kernel
theorem d_M_part_43 : decode b_M_part 43 = .ok (.iconst 2, 1) := by decide +kernel
theorem d_M_part_44 : decode b_M_part 44 = .ok (.iload_n 3, 1) := by decide +kernel
theorem d_M_part_45 : decode b_M_part 45 = .ok (.imul, 1) := by decide +kernel
theorem d_M_part_46 : decode b_M_part 46 = .ok (.invokevirtual 121, 3) := by decide +kernel
theorem d_M_part_49 : decode b_M_part 49 = .ok (.ldc2_w 37, 3) := by decide +kernel
theorem d_M_part_52 : decode b_M_part 52 = .ok (.aload_n 0, 1) := by decide +kernel
theorem d_M_part_53 : decode b_M_part 53 = .ok (.iload 4, 2) := by decide +kernel
theorem d_M_part_55 : decode b_M_part 55 = .ok (.iconst 2, 1) := by decide +kernel
theorem d_M_part_56 : decode b_M_part 56 = .ok (.iload_n 3, 1) := by decide +kernel
theorem d_M_part_57 : decode b_M_part 57 = .ok (.imul, 1) := by decide +kernel
theorem d_M_part_58 : decode b_M_part 58 = .ok (.iconst 1, 1) := by decide +kernel
theorem d_M_part_59 : decode b_M_part 59 = .ok (.iadd, 1) := by decide +kernel
theorem d_M_part_60 : decode b_M_part 60 = .ok (.invokevirtual 121, 3) := by decide +kernel
theorem d_M_part_63 : decode b_M_part 63 = .ok (.lmul, 1) := by decide +kernel
theorem d_M_part_64 : decode b_M_part 64 = .ok (.ladd, 1) := by decide +kernel
theorem d_M_part_65 : decode b_M_part 65 = .ok (.lreturn, 1) := by decide +kernel
theorem d_M_partAt_0 : decode b_M_partAt 0 = .ok (.iload_n 2, 1) := by decide +kernel
theorem d_M_partAt_1 : decode b_M_partAt 1 = .ok (.aload_n 0, 1) := by decide +kernel
theorem d_M_partAt_2 : decode b_M_partAt 2 = .ok (.getfield 13, 3) := by decide +kernel
theorem d_M_partAt_5 : decode b_M_partAt 5 = .ok (.iload_n 1, 1) := by decide +kernel
theorem d_M_partAt_6 : decode b_M_partAt 6 = .ok (.iaload, 1) := by decide +kernel
theorem d_M_partAt_7 : decode b_M_partAt 7 = .ok (.if_icmp .ge 19, 3) := by decide +kernel
theorem d_M_partAt_10 : decode b_M_partAt 10 = .ok (.aload_n 0, 1) := by decide +kernel
theorem d_M_partAt_11 : decode b_M_partAt 11 = .ok (.getfield 7, 3) := by decide +kernel
theorem d_M_partAt_14 : decode b_M_partAt 14 = .ok (.sipush 300, 3) := by decide +kernel
theorem d_M_partAt_17 : decode b_M_partAt 17 = .ok (.iload_n 1, 1) := by decide +kernel
theorem d_M_partAt_18 : decode b_M_partAt 18 = .ok (.imul, 1) := by decide +kernel
theorem d_M_partAt_19 : decode b_M_partAt 19 = .ok (.iload_n 2, 1) := by decide +kernel
theorem d_M_partAt_20 : decode b_M_partAt 20 = .ok (.iadd, 1) := by decide +kernel
theorem d_M_partAt_21 : decode b_M_partAt 21 = .ok (.iaload, 1) := by decide +kernel
theorem d_M_partAt_22 : decode b_M_partAt 22 = .ok (.i2l, 1) := by decide +kernel
theorem d_M_partAt_23 : decode b_M_partAt 23 = .ok (.goto 4, 3) := by decide +kernel
theorem d_M_partAt_26 : decode b_M_partAt 26 = .ok (.lconst 0, 1) := by decide +kernel
theorem d_M_partAt_27 : decode b_M_partAt 27 = .ok (.lreturn, 1) := by decide +kernel
theorem d_M_write_0 : decode b_M_write 0 = .ok (.aload_n 0, 1) := by decide +kernel
theorem d_M_write_1 : decode b_M_write 1 = .ok (.iload_n 1, 1) := by decide +kernel
theorem d_M_write_2 : decode b_M_write 2 = .ok (.invokestatic 86, 3) := by decide +kernel
theorem d_M_write_5 : decode b_M_write 5 = .ok (.ifCond .eq 7, 3) := by decide +kernel
theorem d_M_write_8 : decode b_M_write 8 = .ok (.iconst 0, 1) := by decide +kernel
theorem d_M_write_9 : decode b_M_write 9 = .ok (.goto 4, 3) := by decide +kernel
theorem d_M_write_12 : decode b_M_write 12 = .ok (.iconst 1, 1) := by decide +kernel
theorem d_M_write_13 : decode b_M_write 13 = .ok (.putfield 34, 3) := by decide +kernel
theorem d_M_write_16 : decode b_M_write 16 = .ok (.aload_n 0, 1) := by decide +kernel
theorem d_M_write_17 : decode b_M_write 17 = .ok (.getfield 34, 3) := by decide +kernel
theorem d_M_write_20 : decode b_M_write 20 = .ok (.ifCond .le 5, 3) := by decide +kernel
theorem d_M_write_23 : decode b_M_write 23 = .ok (.iconst 0, 1) := by decide +kernel
theorem d_M_write_24 : decode b_M_write 24 = .ok (.ireturn, 1) := by decide +kernel
theorem d_M_write_25 : decode b_M_write 25 = .ok (.aload_n 0, 1) := by decide +kernel
theorem d_M_write_26 : decode b_M_write 26 = .ok (.iconst 0, 1) := by decide +kernel
theorem d_M_write_27 : decode b_M_write 27 = .ok (.putfield 125, 3) := by decide +kernel
theorem d_M_write_30 : decode b_M_write 30 = .ok (.aload_n 0, 1) := by decide +kernel
theorem d_M_write_31 : decode b_M_write 31 = .ok (.getfield 16, 3) := by decide +kernel
theorem d_M_write_34 : decode b_M_write 34 = .ok (.iload_n 1, 1) := by decide +kernel
theorem d_M_write_35 : decode b_M_write 35 = .ok (.baload, 1) := by decide +kernel
theorem d_M_write_36 : decode b_M_write 36 = .ok (.ifCond .eq 9, 3) := by decide +kernel
theorem d_M_write_39 : decode b_M_write 39 = .ok (.aload_n 0, 1) := by decide +kernel
theorem d_M_write_40 : decode b_M_write 40 = .ok (.bipush 45, 2) := by decide +kernel
theorem d_M_write_42 : decode b_M_write 42 = .ok (.invokevirtual 128, 3) := by decide +kernel
theorem d_M_write_45 : decode b_M_write 45 = .ok (.aload_n 0, 1) := by decide +kernel
theorem d_M_write_46 : decode b_M_write 46 = .ok (.iload_n 1, 1) := by decide +kernel
theorem d_M_write_47 : decode b_M_write 47 = .ok (.invokevirtual 131, 3) := by decide +kernel
theorem d_M_write_50 : decode b_M_write 50 = .ok (.aload_n 0, 1) := by decide +kernel
theorem d_M_write_51 : decode b_M_write 51 = .ok (.iload_n 1, 1) := by decide +kernel
theorem d_M_write_52 : decode b_M_write 52 = .ok (.invokestatic 82, 3) := by decide +kernel
theorem d_M_write_55 : decode b_M_write 55 = .ok (.invokevirtual 98, 3) := by decide +kernel
theorem d_M_write_58 : decode b_M_write 58 = .ok (.ifCond .ne 17, 3) := by decide +kernel
theorem d_M_write_61 : decode b_M_write 61 = .ok (.aload_n 0, 1) := by decide +kernel
theorem d_M_write_62 : decode b_M_write 62 = .ok (.bipush 47, 2) := by decide +kernel
theorem d_M_write_64 : decode b_M_write 64 = .ok (.invokevirtual 128, 3) := by decide +kernel
theorem d_M_write_67 : decode b_M_write 67 = .ok (.aload_n 0, 1) := by decide +kernel
theorem d_M_write_68 : decode b_M_write 68 = .ok (.iload_n 1, 1) := by decide +kernel
theorem d_M_write_69 : decode b_M_write 69 = .ok (.invokestatic 82, 3) := by decide +kernel
theorem d_M_write_72 : decode b_M_write 72 = .ok (.invokevirtual 131, 3) := by decide +kernel
theorem d_M_write_75 : decode b_M_write 75 = .ok (.aload_n 0, 1) := by decide +kernel
theorem d_M_write_76 : decode b_M_write 76 = .ok (.getfield 125, 3) := by decide +kernel
theorem d_M_write_79 : decode b_M_write 79 = .ok (.ireturn, 1) := by decide +kernel
theorem d_M_print_0 : decode b_M_print 0 = .ok (.aload_n 0, 1) := by decide +kernel
theorem d_M_print_1 : decode b_M_print 1 = .ok (.getfield 20, 3) := by decide +kernel
theorem d_M_print_4 : decode b_M_print 4 = .ok (.aload_n 0, 1) := by decide +kernel
theorem d_M_print_5 : decode b_M_print 5 = .ok (.getfield 125, 3) := by decide +kernel
theorem d_M_print_8 : decode b_M_print 8 = .ok (.iload_n 1, 1) := by decide +kernel
theorem d_M_print_9 : decode b_M_print 9 = .ok (.iastore, 1) := by decide +kernel
theorem d_M_print_10 : decode b_M_print 10 = .ok (.aload_n 0, 1) := by decide +kernel
theorem d_M_print_11 : decode b_M_print 11 = .ok (.dup, 1) := by decide +kernel
theorem d_M_print_12 : decode b_M_print 12 = .ok (.getfield 125, 3) := by decide +kernel
theorem d_M_print_15 : decode b_M_print 15 = .ok (.iconst 1, 1) := by decide +kernel
theorem d_M_print_16 : decode b_M_print 16 = .ok (.iadd, 1) := by decide +kernel
theorem d_M_print_17 : decode b_M_print 17 = .ok (.putfield 125, 3) := by decide +kernel
theorem d_M_print_20 : decode b_M_print 20 = .ok (.return_, 1) := by decide +kernel
theorem d_M_printDigits_0 : decode b_M_printDigits 0 = .ok (.aload_n 0, 1) := by decide +kernel
theorem d_M_printDigits_1 : decode b_M_printDigits 1 = .ok (.bipush 41, 2) := by decide +kernel
theorem d_M_printDigits_3 : decode b_M_printDigits 3 = .ok (.iload_n 1, 1) := by decide +kernel
theorem d_M_printDigits_4 : decode b_M_printDigits 4 = .ok (.invokevirtual 55, 3) := by decide +kernel
theorem d_M_printDigits_7 : decode b_M_printDigits 7 = .ok (.iconst 0, 1) := by decide +kernel
theorem d_M_printDigits_8 : decode b_M_printDigits 8 = .ok (.istore_n 2, 1) := by decide +kernel
theorem d_M_printDigits_9 : decode b_M_printDigits 9 = .ok (.aload_n 0, 1) := by decide +kernel
theorem d_M_printDigits_10 : decode b_M_printDigits 10 = .ok (.getfield 13, 3) := by decide +kernel
theorem d_M_printDigits_13 : decode b_M_printDigits 13 = .ok (.bipush 41, 2) := by decide +kernel
theorem d_M_printDigits_15 : decode b_M_printDigits 15 = .ok (.iaload, 1) := by decide +kernel
theorem d_M_printDigits_16 : decode b_M_printDigits 16 = .ok (.ifCond .le 86, 3) := by decide +kernel
theorem d_M_printDigits_19 : decode b_M_printDigits 19 = .ok (.iconst 0, 1) := by decide +kernel
theorem d_M_printDigits_20 : decode b_M_printDigits 20 = .ok (.istore_n 3, 1) := by decide +kernel
theorem d_M_printDigits_21 : decode b_M_printDigits 21 = .ok (.aload_n 0, 1) := by decide +kernel
theorem d_M_printDigits_22 : decode b_M_printDigits 22 = .ok (.getfield 13, 3) := by decide +kernel
theorem d_M_printDigits_25 : decode b_M_printDigits 25 = .ok (.bipush 41, 2) := by decide +kernel
theorem d_M_printDigits_27 : decode b_M_printDigits 27 = .ok (.iaload, 1) := by decide +kernel
theorem d_M_printDigits_28 : decode b_M_printDigits 28 = .ok (.iconst 1, 1) := by decide +kernel
theorem d_M_printDigits_29 : decode b_M_printDigits 29 = .ok (.isub, 1) := by decide +kernel
theorem d_M_printDigits_30 : decode b_M_printDigits 30 = .ok (.istore 4, 2) := by decide +kernel
theorem d_M_printDigits_32 : decode b_M_printDigits 32 = .ok (.iload 4, 2) := by decide +kernel
theorem d_M_printDigits_34 : decode b_M_printDigits 34 = .ok (.ifCond .lt 49, 3) := by decide +kernel
theorem d_M_printDigits_37 : decode b_M_printDigits 37 = .ok (.iload_n 3, 1) := by decide +kernel
theorem d_M_printDigits_38 : decode b_M_printDigits 38 = .ok (.ldc 43, 2) := by decide +kernel
theorem d_M_printDigits_40 : decode b_M_printDigits 40 = .ok (.imul, 1) := by decide +kernel
theorem d_M_printDigits_41 : decode b_M_printDigits 41 = .ok (.aload_n 0, 1) := by decide +kernel
theorem d_M_printDigits_42 : decode b_M_printDigits 42 = .ok (.getfield 7, 3) := by decide +kernel
theorem d_M_printDigits_45 : decode b_M_printDigits 45 = .ok (.sipush 12300, 3) := by decide +kernel
theorem d_M_printDigits_48 : decode b_M_printDigits 48 = .ok (.iload 4, 2) := by decide +kernel
theorem d_M_printDigits_50 : decode b_M_printDigits 50 = .ok (.iadd, 1) := by decide +kernel
theorem d_M_printDigits_51 : decode b_M_printDigits 51 = .ok (.iaload, 1) := by decide +kernel
theorem d_M_printDigits_52 : decode b_M_printDigits 52 = .ok (.iadd, 1) := by decide +kernel
theorem d_M_printDigits_53 : decode b_M_printDigits 53 = .ok (.istore 5, 2) := by decide +kernel
theorem d_M_printDigits_55 : decode b_M_printDigits 55 = .ok (.aload_n 0, 1) := by decide +kernel
theorem d_M_printDigits_56 : decode b_M_printDigits 56 = .ok (.getfield 7, 3) := by decide +kernel
theorem d_M_printDigits_59 : decode b_M_printDigits 59 = .ok (.sipush 12300, 3) := by decide +kernel
theorem d_M_printDigits_62 : decode b_M_printDigits 62 = .ok (.iload 4, 2) := by decide +kernel
theorem d_M_printDigits_64 : decode b_M_printDigits 64 = .ok (.iadd, 1) := by decide +kernel
theorem d_M_printDigits_65 : decode b_M_printDigits 65 = .ok (.iload 5, 2) := by decide +kernel
theorem d_M_printDigits_67 : decode b_M_printDigits 67 = .ok (.bipush 10, 2) := by decide +kernel
theorem d_M_printDigits_69 : decode b_M_printDigits 69 = .ok (.idiv, 1) := by decide +kernel
theorem d_M_printDigits_70 : decode b_M_printDigits 70 = .ok (.iastore, 1) := by decide +kernel
theorem d_M_printDigits_71 : decode b_M_printDigits 71 = .ok (.iload 5, 2) := by decide +kernel
theorem d_M_printDigits_73 : decode b_M_printDigits 73 = .ok (.bipush 10, 2) := by decide +kernel
theorem d_M_printDigits_75 : decode b_M_printDigits 75 = .ok (.irem, 1) := by decide +kernel
theorem d_M_printDigits_76 : decode b_M_printDigits 76 = .ok (.istore_n 3, 1) := by decide +kernel
theorem d_M_printDigits_77 : decode b_M_printDigits 77 = .ok (.iinc 4 (-1), 3) := by decide +kernel
theorem d_M_printDigits_80 : decode b_M_printDigits 80 = .ok (.goto (-48), 3) := by decide +kernel
theorem d_M_printDigits_83 : decode b_M_printDigits 83 = .ok (.aload_n 0, 1) := by decide +kernel
theorem d_M_printDigits_84 : decode b_M_printDigits 84 = .ok (.bipush 41, 2) := by decide +kernel
theorem d_M_printDigits_86 : decode b_M_printDigits 86 = .ok (.invokevirtual 39, 3) := by decide +kernel
theorem d_M_printDigits_89 : decode b_M_printDigits 89 = .ok (.aload_n 0, 1) := by decide +kernel
theorem d_M_printDigits_90 : decode b_M_printDigits 90 = .ok (.getfield 27, 3) := by decide +kernel
theorem d_M_printDigits_93 : decode b_M_printDigits 93 = .ok (.iload_n 2, 1) := by decide +kernel
theorem d_M_printDigits_94 : decode b_M_printDigits 94 = .ok (.iload_n 3, 1) := by decide +kernel
theorem d_M_printDigits_95 : decode b_M_printDigits 95 = .ok (.iastore, 1) := by decide +kernel
theorem d_M_printDigits_96 : decode b_M_printDigits 96 = .ok (.iinc 2 1, 3) := by decide +kernel
theorem d_M_printDigits_99 : decode b_M_printDigits 99 = .ok (.goto (-90), 3) := by decide +kernel
theorem d_M_printDigits_102 : decode b_M_printDigits 102 = .ok (.iload_n 2, 1) := by decide +kernel
theorem d_M_printDigits_103 : decode b_M_printDigits 103 = .ok (.ifCond .ne 9, 3) := by decide +kernel
theorem d_M_printDigits_106 : decode b_M_printDigits 106 = .ok (.aload_n 0, 1) := by decide +kernel
theorem d_M_printDigits_107 : decode b_M_printDigits 107 = .ok (.bipush 48, 2) := by decide +kernel
theorem d_M_printDigits_109 : decode b_M_printDigits 109 = .ok (.invokevirtual 128, 3) := by decide +kernel
theorem d_M_printDigits_112 : decode b_M_printDigits 112 = .ok (.iload_n 2, 1) := by decide +kernel
theorem d_M_printDigits_113 : decode b_M_printDigits 113 = .ok (.iconst 1, 1) := by decide +kernel
theorem d_M_printDigits_114 : decode b_M_printDigits 114 = .ok (.isub, 1) := by decide +kernel
theorem d_M_printDigits_115 : decode b_M_printDigits 115 = .ok (.istore_n 3, 1) := by decide +kernel
theorem d_M_printDigits_116 : decode b_M_printDigits 116 = .ok (.iload_n 3, 1) := by decide +kernel
theorem d_M_printDigits_117 : decode b_M_printDigits 117 = .ok (.ifCond .lt 22, 3) := by decide +kernel
theorem d_M_printDigits_120 : decode b_M_printDigits 120 = .ok (.aload_n 0, 1) := by decide +kernel
theorem d_M_printDigits_121 : decode b_M_printDigits 121 = .ok (.bipush 48, 2) := by decide +kernel
theorem d_M_printDigits_123 : decode b_M_printDigits 123 = .ok (.aload_n 0, 1) := by decide +kernel
theorem d_M_printDigits_124 : decode b_M_printDigits 124 = .ok (.getfield 27, 3) := by decide +kernel
theorem d_M_printDigits_127 : decode b_M_printDigits 127 = .ok (.iload_n 3, 1) := by decide +kernel
theorem d_M_printDigits_128 : decode b_M_printDigits 128 = .ok (.iaload, 1) := by decide +kernel
theorem d_M_printDigits_129 : decode b_M_printDigits 129 = .ok (.iadd, 1) := by decide +kernel
theorem d_M_printDigits_130 : decode b_M_printDigits 130 = .ok (.invokevirtual 128, 3) := by decide +kernel
theorem d_M_printDigits_133 : decode b_M_printDigits 133 = .ok (.iinc 3 (-1), 3) := by decide +kernel
theorem d_M_printDigits_136 : decode b_M_printDigits 136 = .ok (.goto (-20), 3) := by decide +kernel
theorem d_M_printDigits_139 : decode b_M_printDigits 139 = .ok (.return_, 1) := by decide +kernel
theorem d_M_type_0 : decode b_M_type 0 = .ok (.aload_n 0, 1) := by decide +kernel
theorem d_M_type_1 : decode b_M_type 1 = .ok (.iconst 0, 1) := by decide +kernel
theorem d_M_type_2 : decode b_M_type 2 = .ok (.putfield 34, 3) := by decide +kernel
theorem d_M_type_5 : decode b_M_type 5 = .ok (.iload_n 3, 1) := by decide +kernel
theorem d_M_type_6 : decode b_M_type 6 = .ok (.iconst 1, 1) := by decide +kernel
theorem d_M_type_7 : decode b_M_type 7 = .ok (.if_icmp .lt 25, 3) := by decide +kernel
theorem d_M_type_10 : decode b_M_type 10 = .ok (.iload_n 3, 1) := by decide +kernel
theorem d_M_type_11 : decode b_M_type 11 = .ok (.bipush 8, 2) := by decide +kernel
theorem d_M_type_13 : decode b_M_type 13 = .ok (.if_icmp .gt 19, 3) := by decide +kernel
theorem d_M_type_16 : decode b_M_type 16 = .ok (.aload_n 0, 1) := by decide +kernel
theorem d_M_type_17 : decode b_M_type 17 = .ok (.getfield 125, 3) := by decide +kernel
theorem d_M_type_20 : decode b_M_type 20 = .ok (.iload_n 3, 1) := by decide +kernel
theorem d_M_type_21 : decode b_M_type 21 = .ok (.iadd, 1) := by decide +kernel
theorem d_M_type_22 : decode b_M_type 22 = .ok (.sipush 1400, 3) := by decide +kernel
theorem d_M_type_25 : decode b_M_type 25 = .ok (.if_icmp .gt 7, 3) := by decide +kernel
theorem d_M_type_28 : decode b_M_type 28 = .ok (.iconst 1, 1) := by decide +kernel
theorem d_M_type_29 : decode b_M_type 29 = .ok (.goto 4, 3) := by decide +kernel
theorem d_M_type_32 : decode b_M_type 32 = .ok (.iconst 0, 1) := by decide +kernel
theorem d_M_type_33 : decode b_M_type 33 = .ok (.istore 4, 2) := by decide +kernel
theorem d_M_type_35 : decode b_M_type 35 = .ok (.iconst 0, 1) := by decide +kernel
theorem d_M_type_36 : decode b_M_type 36 = .ok (.istore 5, 2) := by decide +kernel
theorem d_M_type_38 : decode b_M_type 38 = .ok (.iload 5, 2) := by decide +kernel
theorem d_M_type_40 : decode b_M_type 40 = .ok (.iload_n 3, 1) := by decide +kernel
theorem d_M_type_41 : decode b_M_type 41 = .ok (.if_icmp .ge 52, 3) := by decide +kernel
theorem d_M_type_44 : decode b_M_type 44 = .ok (.iload 4, 2) := by decide +kernel
theorem d_M_type_46 : decode b_M_type 46 = .ok (.ifCond .eq 47, 3) := by decide +kernel
theorem d_M_type_49 : decode b_M_type 49 = .ok (.lload_n 1, 1) := by decide +kernel
theorem d_M_type_50 : decode b_M_type 50 = .ok (.bipush 8, 2) := by decide +kernel
theorem d_M_type_52 : decode b_M_type 52 = .ok (.iload 5, 2) := by decide +kernel
theorem d_M_type_54 : decode b_M_type 54 = .ok (.imul, 1) := by decide +kernel
theorem d_M_type_55 : decode b_M_type 55 = .ok (.lshr, 1) := by decide +kernel
theorem d_M_type_56 : decode b_M_type 56 = .ok (.ldc2_w 134, 3) := by decide +kernel
theorem d_M_type_59 : decode b_M_type 59 = .ok (.land, 1) := by decide +kernel
theorem d_M_type_60 : decode b_M_type 60 = .ok (.lstore 6, 2) := by decide +kernel
theorem d_M_type_62 : decode b_M_type 62 = .ok (.lload 6, 2) := by decide +kernel
theorem d_M_type_64 : decode b_M_type 64 = .ok (.ldc2_w 136, 3) := by decide +kernel
theorem d_M_type_67 : decode b_M_type 67 = .ok (.lcmp, 1) := by decide +kernel
theorem d_M_type_68 : decode b_M_type 68 = .ok (.ifCond .lt 16, 3) := by decide +kernel
theorem d_M_type_71 : decode b_M_type 71 = .ok (.lload 6, 2) := by decide +kernel
theorem d_M_type_73 : decode b_M_type 73 = .ok (.ldc2_w 138, 3) := by decide +kernel
theorem d_M_type_76 : decode b_M_type 76 = .ok (.lcmp, 1) := by decide +kernel
theorem d_M_type_77 : decode b_M_type 77 = .ok (.ifCond .gt 7, 3) := by decide +kernel
theorem d_M_type_80 : decode b_M_type 80 = .ok (.iconst 1, 1) := by decide +kernel
theorem d_M_type_81 : decode b_M_type 81 = .ok (.goto 4, 3) := by decide +kernel
theorem d_M_type_84 : decode b_M_type 84 = .ok (.iconst 0, 1) := by decide +kernel
theorem d_M_type_85 : decode b_M_type 85 = .ok (.istore 4, 2) := by decide +kernel
theorem d_M_type_87 : decode b_M_type 87 = .ok (.iinc 5 1, 3) := by decide +kernel
theorem d_M_type_90 : decode b_M_type 90 = .ok (.goto (-52), 3) := by decide +kernel
theorem d_M_type_93 : decode b_M_type 93 = .ok (.iload 4, 2) := by decide +kernel
theorem d_M_type_95 : decode b_M_type 95 = .ok (.ifCond .ne 5, 3) := by decide +kernel
theorem d_M_type_98 : decode b_M_type 98 = .ok (.iconst (-1), 1) := by decide +kernel
theorem d_M_type_99 : decode b_M_type 99 = .ok (.ireturn, 1) := by decide +kernel
theorem d_M_type_100 : decode b_M_type 100 = .ok (.iload_n 3, 1) := by decide +kernel
theorem d_M_type_101 : decode b_M_type 101 = .ok (.iconst 1, 1) := by decide +kernel
theorem d_M_type_102 : decode b_M_type 102 = .ok (.isub, 1) := by decide +kernel
theorem d_M_type_103 : decode b_M_type 103 = .ok (.istore 5, 2) := by decide +kernel
theorem d_M_type_105 : decode b_M_type 105 = .ok (.iload 5, 2) := by decide +kernel
theorem d_M_type_107 : decode b_M_type 107 = .ok (.ifCond .lt 25, 3) := by decide +kernel
theorem d_M_type_110 : decode b_M_type 110 = .ok (.aload_n 0, 1) := by decide +kernel
theorem d_M_type_111 : decode b_M_type 111 = .ok (.lload_n 1, 1) := by decide +kernel
theorem d_M_type_112 : decode b_M_type 112 = .ok (.bipush 8, 2) := by decide +kernel
theorem d_M_type_114 : decode b_M_type 114 = .ok (.iload 5, 2) := by decide +kernel
theorem d_M_type_116 : decode b_M_type 116 = .ok (.imul, 1) := by decide +kernel
theorem d_M_type_117 : decode b_M_type 117 = .ok (.lshr, 1) := by decide +kernel
theorem d_M_type_118 : decode b_M_type 118 = .ok (.ldc2_w 134, 3) := by decide +kernel
theorem d_M_type_121 : decode b_M_type 121 = .ok (.land, 1) := by decide +kernel
theorem d_M_type_122 : decode b_M_type 122 = .ok (.l2i, 1) := by decide +kernel
theorem d_M_type_123 : decode b_M_type 123 = .ok (.invokevirtual 128, 3) := by decide +kernel
theorem d_M_type_126 : decode b_M_type 126 = .ok (.iinc 5 (-1), 3) := by decide +kernel
theorem d_M_type_129 : decode b_M_type 129 = .ok (.goto (-24), 3) := by decide +kernel
theorem d_M_type_132 : decode b_M_type 132 = .ok (.aload_n 0, 1) := by decide +kernel
theorem d_M_type_133 : decode b_M_type 133 = .ok (.getfield 125, 3) := by decide +kernel
theorem d_M_type_136 : decode b_M_type 136 = .ok (.ireturn, 1) := by decide +kernel
theorem d_M_wipe_0 : decode b_M_wipe 0 = .ok (.aload_n 0, 1) := by decide +kernel
theorem d_M_wipe_1 : decode b_M_wipe 1 = .ok (.iconst 0, 1) := by decide +kernel
theorem d_M_wipe_2 : decode b_M_wipe 2 = .ok (.putfield 34, 3) := by decide +kernel
theorem d_M_wipe_5 : decode b_M_wipe 5 = .ok (.aload_n 0, 1) := by decide +kernel
theorem d_M_wipe_6 : decode b_M_wipe 6 = .ok (.getfield 125, 3) := by decide +kernel
theorem d_M_wipe_9 : decode b_M_wipe 9 = .ok (.istore_n 1, 1) := by decide +kernel
theorem d_M_wipe_10 : decode b_M_wipe 10 = .ok (.aload_n 0, 1) := by decide +kernel
theorem d_M_wipe_11 : decode b_M_wipe 11 = .ok (.iconst 0, 1) := by decide +kernel
theorem d_M_wipe_12 : decode b_M_wipe 12 = .ok (.putfield 125, 3) := by decide +kernel
theorem d_M_wipe_15 : decode b_M_wipe 15 = .ok (.iload_n 1, 1) := by decide +kernel
theorem d_M_wipe_16 : decode b_M_wipe 16 = .ok (.ireturn, 1) := by decide +kernel
theorem d_M_character_0 : decode b_M_character 0 = .ok (.aload_n 0, 1) := by decide +kernel
theorem d_M_character_1 : decode b_M_character 1 = .ok (.iconst 0, 1) := by decide +kernel
theorem d_M_character_2 : decode b_M_character 2 = .ok (.putfield 34, 3) := by decide +kernel
theorem d_M_character_5 : decode b_M_character 5 = .ok (.iload_n 1, 1) := by decide +kernel
theorem d_M_character_6 : decode b_M_character 6 = .ok (.ifCond .lt 20, 3) := by decide +kernel
theorem d_M_character_9 : decode b_M_character 9 = .ok (.iload_n 1, 1) := by decide +kernel
theorem d_M_character_10 : decode b_M_character 10 = .ok (.aload_n 0, 1) := by decide +kernel
theorem d_M_character_11 : decode b_M_character 11 = .ok (.getfield 125, 3) := by decide +kernel
theorem d_M_character_14 : decode b_M_character 14 = .ok (.if_icmp .ge 12, 3) := by decide +kernel
theorem d_M_character_17 : decode b_M_character 17 = .ok (.aload_n 0, 1) := by decide +kernel
theorem d_M_character_18 : decode b_M_character 18 = .ok (.getfield 20, 3) := by decide +kernel
theorem d_M_character_21 : decode b_M_character 21 = .ok (.iload_n 1, 1) := by decide +kernel
theorem d_M_character_22 : decode b_M_character 22 = .ok (.iaload, 1) := by decide +kernel
theorem d_M_character_23 : decode b_M_character 23 = .ok (.goto 4, 3) := by decide +kernel
theorem d_M_character_26 : decode b_M_character 26 = .ok (.iconst (-1), 1) := by decide +kernel
theorem d_M_character_27 : decode b_M_character 27 = .ok (.ireturn, 1) := by decide +kernel
theorem d_M_read_0 : decode b_M_read 0 = .ok (.aload_n 0, 1) := by decide +kernel
theorem d_M_read_1 : decode b_M_read 1 = .ok (.iload_n 1, 1) := by decide +kernel
theorem d_M_read_2 : decode b_M_read 2 = .ok (.invokestatic 86, 3) := by decide +kernel
theorem d_M_read_5 : decode b_M_read 5 = .ok (.ifCond .eq 7, 3) := by decide +kernel
theorem d_M_read_8 : decode b_M_read 8 = .ok (.iconst 0, 1) := by decide +kernel
theorem d_M_read_9 : decode b_M_read 9 = .ok (.goto 4, 3) := by decide +kernel
theorem d_M_read_12 : decode b_M_read 12 = .ok (.iconst 1, 1) := by decide +kernel
theorem d_M_read_13 : decode b_M_read 13 = .ok (.putfield 34, 3) := by decide +kernel
theorem d_M_read_16 : decode b_M_read 16 = .ok (.aload_n 0, 1) := by decide +kernel
theorem d_M_read_17 : decode b_M_read 17 = .ok (.getfield 34, 3) := by decide +kernel
theorem d_M_read_20 : decode b_M_read 20 = .ok (.ifCond .le 5, 3) := by decide +kernel
theorem d_M_read_23 : decode b_M_read 23 = .ok (.iconst 0, 1) := by decide +kernel
theorem d_M_read_24 : decode b_M_read 24 = .ok (.ireturn, 1) := by decide +kernel
theorem d_M_read_25 : decode b_M_read 25 = .ok (.aload_n 0, 1) := by decide +kernel
theorem d_M_read_26 : decode b_M_read 26 = .ok (.getfield 125, 3) := by decide +kernel
theorem d_M_read_29 : decode b_M_read 29 = .ok (.ifCond .le 18, 3) := by decide +kernel
theorem d_M_read_32 : decode b_M_read 32 = .ok (.aload_n 0, 1) := by decide +kernel
theorem d_M_read_33 : decode b_M_read 33 = .ok (.getfield 20, 3) := by decide +kernel
theorem d_M_read_36 : decode b_M_read 36 = .ok (.iconst 0, 1) := by decide +kernel
theorem d_M_read_37 : decode b_M_read 37 = .ok (.iaload, 1) := by decide +kernel
theorem d_M_read_38 : decode b_M_read 38 = .ok (.bipush 45, 2) := by decide +kernel
theorem d_M_read_40 : decode b_M_read 40 = .ok (.if_icmp .ne 7, 3) := by decide +kernel
theorem d_M_read_43 : decode b_M_read 43 = .ok (.iconst 1, 1) := by decide +kernel
theorem d_M_read_44 : decode b_M_read 44 = .ok (.goto 4, 3) := by decide +kernel
theorem d_M_read_47 : decode b_M_read 47 = .ok (.iconst 0, 1) := by decide +kernel
theorem d_M_read_48 : decode b_M_read 48 = .ok (.istore_n 2, 1) := by decide +kernel
theorem d_M_read_49 : decode b_M_read 49 = .ok (.aload_n 0, 1) := by decide +kernel
theorem d_M_read_50 : decode b_M_read 50 = .ok (.iload_n 2, 1) := by decide +kernel
theorem d_M_read_51 : decode b_M_read 51 = .ok (.invokevirtual 143, 3) := by decide +kernel
theorem d_M_read_54 : decode b_M_read 54 = .ok (.istore_n 3, 1) := by decide +kernel
theorem d_M_read_55 : decode b_M_read 55 = .ok (.iload_n 3, 1) := by decide +kernel
theorem d_M_read_56 : decode b_M_read 56 = .ok (.iload_n 2, 1) := by decide +kernel
theorem d_M_read_57 : decode b_M_read 57 = .ok (.if_icmp .le 26, 3) := by decide +kernel
theorem d_M_read_60 : decode b_M_read 60 = .ok (.iload_n 3, 1) := by decide +kernel
theorem d_M_read_61 : decode b_M_read 61 = .ok (.aload_n 0, 1) := by decide +kernel
theorem d_M_read_62 : decode b_M_read 62 = .ok (.getfield 125, 3) := by decide +kernel
theorem d_M_read_65 : decode b_M_read 65 = .ok (.if_icmp .ge 18, 3) := by decide +kernel
theorem d_M_read_68 : decode b_M_read 68 = .ok (.aload_n 0, 1) := by decide +kernel
theorem d_M_read_69 : decode b_M_read 69 = .ok (.getfield 20, 3) := by decide +kernel
theorem d_M_read_72 : decode b_M_read 72 = .ok (.iload_n 3, 1) := by decide +kernel
theorem d_M_read_73 : decode b_M_read 73 = .ok (.iaload, 1) := by decide +kernel
theorem d_M_read_74 : decode b_M_read 74 = .ok (.bipush 47, 2) := by decide +kernel
theorem d_M_read_76 : decode b_M_read 76 = .ok (.if_icmp .ne 7, 3) := by decide +kernel
theorem d_M_read_79 : decode b_M_read 79 = .ok (.iconst 1, 1) := by decide +kernel
theorem d_M_read_80 : decode b_M_read 80 = .ok (.goto 4, 3) := by decide +kernel
theorem d_M_read_83 : decode b_M_read 83 = .ok (.iconst 0, 1) := by decide +kernel
theorem d_M_read_84 : decode b_M_read 84 = .ok (.istore 4, 2) := by decide +kernel
theorem d_M_read_86 : decode b_M_read 86 = .ok (.iload 4, 2) := by decide +kernel
theorem d_M_read_88 : decode b_M_read 88 = .ok (.ifCond .eq 13, 3) := by decide +kernel
theorem d_M_read_91 : decode b_M_read 91 = .ok (.aload_n 0, 1) := by decide +kernel
theorem d_M_read_92 : decode b_M_read 92 = .ok (.iload_n 3, 1) := by decide +kernel
theorem d_M_read_93 : decode b_M_read 93 = .ok (.iconst 1, 1) := by decide +kernel
theorem d_M_read_94 : decode b_M_read 94 = .ok (.iadd, 1) := by decide +kernel
theorem d_M_read_95 : decode b_M_read 95 = .ok (.invokevirtual 143, 3) := by decide +kernel
theorem d_M_read_98 : decode b_M_read 98 = .ok (.goto 4, 3) := by decide +kernel
theorem d_M_read_101 : decode b_M_read 101 = .ok (.iload_n 3, 1) := by decide +kernel
theorem d_M_read_102 : decode b_M_read 102 = .ok (.istore 5, 2) := by decide +kernel
theorem d_M_read_104 : decode b_M_read 104 = .ok (.iload_n 3, 1) := by decide +kernel
theorem d_M_read_105 : decode b_M_read 105 = .ok (.iload_n 2, 1) := by decide +kernel
theorem d_M_read_106 : decode b_M_read 106 = .ok (.if_icmp .le 33, 3) := by decide +kernel
theorem d_M_read_109 : decode b_M_read 109 = .ok (.iload 5, 2) := by decide +kernel
theorem d_M_read_111 : decode b_M_read 111 = .ok (.aload_n 0, 1) := by decide +kernel
theorem d_M_read_112 : decode b_M_read 112 = .ok (.getfield 125, 3) := by decide +kernel
theorem d_M_read_115 : decode b_M_read 115 = .ok (.if_icmp .ne 24, 3) := by decide +kernel
theorem d_M_read_118 : decode b_M_read 118 = .ok (.iload 4, 2) := by decide +kernel
theorem d_M_read_120 : decode b_M_read 120 = .ok (.ifCond .eq 15, 3) := by decide +kernel
theorem d_M_read_123 : decode b_M_read 123 = .ok (.aload_n 0, 1) := by decide +kernel
theorem d_M_read_124 : decode b_M_read 124 = .ok (.iload_n 3, 1) := by decide +kernel
theorem d_M_read_125 : decode b_M_read 125 = .ok (.iconst 1, 1) := by decide +kernel
theorem d_M_read_126 : decode b_M_read 126 = .ok (.iadd, 1) := by decide +kernel
theorem d_M_read_127 : decode b_M_read 127 = .ok (.iload 5, 2) := by decide +kernel
theorem d_M_read_129 : decode b_M_read 129 = .ok (.invokevirtual 146, 3) := by decide +kernel
theorem d_M_read_132 : decode b_M_read 132 = .ok (.ifCond .eq 7, 3) := by decide +kernel
theorem d_M_read_135 : decode b_M_read 135 = .ok (.iconst 1, 1) := by decide +kernel
theorem d_M_read_136 : decode b_M_read 136 = .ok (.goto 4, 3) := by decide +kernel
theorem d_M_read_139 : decode b_M_read 139 = .ok (.iconst 0, 1) := by decide +kernel
theorem d_M_read_140 : decode b_M_read 140 = .ok (.istore 6, 2) := by decide +kernel
theorem d_M_read_142 : decode b_M_read 142 = .ok (.iload 6, 2) := by decide +kernel
theorem d_M_read_144 : decode b_M_read 144 = .ok (.ifCond .ne 16, 3) := by decide +kernel
theorem d_M_read_147 : decode b_M_read 147 = .ok (.aload_n 0, 1) := by decide +kernel
theorem d_M_read_148 : decode b_M_read 148 = .ok (.iconst 2, 1) := by decide +kernel
theorem d_M_read_149 : decode b_M_read 149 = .ok (.putfield 34, 3) := by decide +kernel
theorem d_M_read_152 : decode b_M_read 152 = .ok (.aload_n 0, 1) := by decide +kernel
theorem d_M_read_153 : decode b_M_read 153 = .ok (.iload 5, 2) := by decide +kernel
theorem d_M_read_155 : decode b_M_read 155 = .ok (.putfield 23, 3) := by decide +kernel
theorem d_M_read_158 : decode b_M_read 158 = .ok (.iconst 0, 1) := by decide +kernel
theorem d_M_read_159 : decode b_M_read 159 = .ok (.ireturn, 1) := by decide +kernel
theorem d_M_read_160 : decode b_M_read 160 = .ok (.aload_n 0, 1) := by decide +kernel
theorem d_M_read_161 : decode b_M_read 161 = .ok (.bipush 33, 2) := by decide +kernel
theorem d_M_read_163 : decode b_M_read 163 = .ok (.lconst 1, 1) := by decide +kernel
theorem d_M_read_164 : decode b_M_read 164 = .ok (.invokevirtual 30, 3) := by decide +kernel
theorem d_M_read_167 : decode b_M_read 167 = .ok (.aload_n 0, 1) := by decide +kernel
theorem d_M_read_168 : decode b_M_read 168 = .ok (.bipush 32, 2) := by decide +kernel
theorem d_M_read_170 : decode b_M_read 170 = .ok (.iload_n 2, 1) := by decide +kernel
theorem d_M_read_171 : decode b_M_read 171 = .ok (.iload_n 3, 1) := by decide +kernel
theorem d_M_read_172 : decode b_M_read 172 = .ok (.invokevirtual 150, 3) := by decide +kernel
theorem d_M_read_175 : decode b_M_read 175 = .ok (.ifCond .eq 22, 3) := by decide +kernel
theorem d_M_read_178 : decode b_M_read 178 = .ok (.iload 4, 2) := by decide +kernel
theorem d_M_read_180 : decode b_M_read 180 = .ok (.ifCond .eq 19, 3) := by decide +kernel
theorem d_M_read_183 : decode b_M_read 183 = .ok (.aload_n 0, 1) := by decide +kernel
theorem d_M_read_184 : decode b_M_read 184 = .ok (.bipush 33, 2) := by decide +kernel
theorem d_M_read_186 : decode b_M_read 186 = .ok (.iload_n 3, 1) := by decide +kernel
theorem d_M_read_187 : decode b_M_read 187 = .ok (.iconst 1, 1) := by decide +kernel
theorem d_M_read_188 : decode b_M_read 188 = .ok (.iadd, 1) := by decide +kernel
theorem d_M_read_189 : decode b_M_read 189 = .ok (.iload 5, 2) := by decide +kernel
theorem d_M_read_191 : decode b_M_read 191 = .ok (.invokevirtual 150, 3) := by decide +kernel
theorem d_M_read_194 : decode b_M_read 194 = .ok (.ifCond .ne 5, 3) := by decide +kernel
theorem d_M_read_197 : decode b_M_read 197 = .ok (.iconst (-1), 1) := by decide +kernel
theorem d_M_read_198 : decode b_M_read 198 = .ok (.ireturn, 1) := by decide +kernel
theorem d_M_read_199 : decode b_M_read 199 = .ok (.aload_n 0, 1) := by decide +kernel
theorem d_M_read_200 : decode b_M_read 200 = .ok (.getfield 16, 3) := by decide +kernel
theorem d_M_read_203 : decode b_M_read 203 = .ok (.bipush 32, 2) := by decide +kernel
theorem d_M_read_205 : decode b_M_read 205 = .ok (.iload_n 2, 1) := by decide +kernel
theorem d_M_read_206 : decode b_M_read 206 = .ok (.iconst 1, 1) := by decide +kernel
theorem d_M_read_207 : decode b_M_read 207 = .ok (.if_icmp .ne 17, 3) := by decide +kernel
theorem d_M_read_210 : decode b_M_read 210 = .ok (.aload_n 0, 1) := by decide +kernel
theorem d_M_read_211 : decode b_M_read 211 = .ok (.getfield 13, 3) := by decide +kernel
theorem d_M_read_214 : decode b_M_read 214 = .ok (.bipush 32, 2) := by decide +kernel
theorem d_M_read_216 : decode b_M_read 216 = .ok (.iaload, 1) := by decide +kernel
theorem d_M_read_217 : decode b_M_read 217 = .ok (.ifCond .le 7, 3) := by decide +kernel
theorem d_M_read_220 : decode b_M_read 220 = .ok (.iconst 1, 1) := by decide +kernel
theorem d_M_read_221 : decode b_M_read 221 = .ok (.goto 4, 3) := by decide +kernel
theorem d_M_read_224 : decode b_M_read 224 = .ok (.iconst 0, 1) := by decide +kernel
theorem d_M_read_225 : decode b_M_read 225 = .ok (.bastore, 1) := by decide +kernel
theorem d_M_read_226 : decode b_M_read 226 = .ok (.aload_n 0, 1) := by decide +kernel
theorem d_M_read_227 : decode b_M_read 227 = .ok (.iload_n 1, 1) := by decide +kernel
theorem d_M_read_228 : decode b_M_read 228 = .ok (.invokevirtual 89, 3) := by decide +kernel
theorem d_M_read_231 : decode b_M_read 231 = .ok (.pop, 1) := by decide +kernel
theorem d_M_read_232 : decode b_M_read 232 = .ok (.aload_n 0, 1) := by decide +kernel
theorem d_M_read_233 : decode b_M_read 233 = .ok (.iconst 0, 1) := by decide +kernel
theorem d_M_read_234 : decode b_M_read 234 = .ok (.putfield 125, 3) := by decide +kernel
theorem d_M_read_237 : decode b_M_read 237 = .ok (.iconst 0, 1) := by decide +kernel
theorem d_M_read_238 : decode b_M_read 238 = .ok (.ireturn, 1) := by decide +kernel
theorem d_M_endOf_0 : decode b_M_endOf 0 = .ok (.iload_n 1, 1) := by decide +kernel
theorem d_M_endOf_1 : decode b_M_endOf 1 = .ok (.istore_n 2, 1) := by decide +kernel
theorem d_M_endOf_2 : decode b_M_endOf 2 = .ok (.aload_n 0, 1) := by decide +kernel
theorem d_M_endOf_3 : decode b_M_endOf 3 = .ok (.iload_n 2, 1) := by decide +kernel
theorem d_M_endOf_4 : decode b_M_endOf 4 = .ok (.invokevirtual 140, 3) := by decide +kernel
theorem d_M_endOf_7 : decode b_M_endOf 7 = .ok (.ifCond .eq 9, 3) := by decide +kernel
theorem d_M_endOf_10 : decode b_M_endOf 10 = .ok (.iinc 2 1, 3) := by decide +kernel
theorem d_M_endOf_13 : decode b_M_endOf 13 = .ok (.goto (-11), 3) := by decide +kernel
theorem d_M_endOf_16 : decode b_M_endOf 16 = .ok (.iload_n 2, 1) := by decide +kernel
theorem d_M_endOf_17 : decode b_M_endOf 17 = .ok (.ireturn, 1) := by decide +kernel
theorem d_M_isDigit_0 : decode b_M_isDigit 0 = .ok (.iload_n 1, 1) := by decide +kernel
theorem d_M_isDigit_1 : decode b_M_isDigit 1 = .ok (.aload_n 0, 1) := by decide +kernel
theorem d_M_isDigit_2 : decode b_M_isDigit 2 = .ok (.getfield 125, 3) := by decide +kernel
theorem d_M_isDigit_5 : decode b_M_isDigit 5 = .ok (.if_icmp .ge 29, 3) := by decide +kernel
theorem d_M_isDigit_8 : decode b_M_isDigit 8 = .ok (.aload_n 0, 1) := by decide +kernel
theorem d_M_isDigit_9 : decode b_M_isDigit 9 = .ok (.getfield 20, 3) := by decide +kernel
theorem d_M_isDigit_12 : decode b_M_isDigit 12 = .ok (.iload_n 1, 1) := by decide +kernel
theorem d_M_isDigit_13 : decode b_M_isDigit 13 = .ok (.iaload, 1) := by decide +kernel
theorem d_M_isDigit_14 : decode b_M_isDigit 14 = .ok (.bipush 48, 2) := by decide +kernel
theorem d_M_isDigit_16 : decode b_M_isDigit 16 = .ok (.if_icmp .lt 18, 3) := by decide +kernel
theorem d_M_isDigit_19 : decode b_M_isDigit 19 = .ok (.aload_n 0, 1) := by decide +kernel
theorem d_M_isDigit_20 : decode b_M_isDigit 20 = .ok (.getfield 20, 3) := by decide +kernel
theorem d_M_isDigit_23 : decode b_M_isDigit 23 = .ok (.iload_n 1, 1) := by decide +kernel
theorem d_M_isDigit_24 : decode b_M_isDigit 24 = .ok (.iaload, 1) := by decide +kernel
theorem d_M_isDigit_25 : decode b_M_isDigit 25 = .ok (.bipush 57, 2) := by decide +kernel
theorem d_M_isDigit_27 : decode b_M_isDigit 27 = .ok (.if_icmp .gt 7, 3) := by decide +kernel
theorem d_M_isDigit_30 : decode b_M_isDigit 30 = .ok (.iconst 1, 1) := by decide +kernel
theorem d_M_isDigit_31 : decode b_M_isDigit 31 = .ok (.goto 4, 3) := by decide +kernel
theorem d_M_isDigit_34 : decode b_M_isDigit 34 = .ok (.iconst 0, 1) := by decide +kernel
theorem d_M_isDigit_35 : decode b_M_isDigit 35 = .ok (.ireturn, 1) := by decide +kernel
theorem d_M_hasMore_0 : decode b_M_hasMore 0 = .ok (.iconst 0, 1) := by decide +kernel
theorem d_M_hasMore_1 : decode b_M_hasMore 1 = .ok (.istore_n 3, 1) := by decide +kernel
theorem d_M_hasMore_2 : decode b_M_hasMore 2 = .ok (.iload_n 1, 1) := by decide +kernel
theorem d_M_hasMore_3 : decode b_M_hasMore 3 = .ok (.istore 4, 2) := by decide +kernel
theorem d_M_hasMore_5 : decode b_M_hasMore 5 = .ok (.iload 4, 2) := by decide +kernel
theorem d_M_hasMore_7 : decode b_M_hasMore 7 = .ok (.iload_n 2, 1) := by decide +kernel
theorem d_M_hasMore_8 : decode b_M_hasMore 8 = .ok (.if_icmp .ge 31, 3) := by decide +kernel
theorem d_M_hasMore_11 : decode b_M_hasMore 11 = .ok (.iload_n 3, 1) := by decide +kernel
theorem d_M_hasMore_12 : decode b_M_hasMore 12 = .ok (.ifCond .ne 15, 3) := by decide +kernel
theorem d_M_hasMore_15 : decode b_M_hasMore 15 = .ok (.aload_n 0, 1) := by decide +kernel
theorem d_M_hasMore_16 : decode b_M_hasMore 16 = .ok (.getfield 20, 3) := by decide +kernel
theorem d_M_hasMore_19 : decode b_M_hasMore 19 = .ok (.iload 4, 2) := by decide +kernel
theorem d_M_hasMore_21 : decode b_M_hasMore 21 = .ok (.iaload, 1) := by decide +kernel
theorem d_M_hasMore_22 : decode b_M_hasMore 22 = .ok (.bipush 48, 2) := by decide +kernel
theorem d_M_hasMore_24 : decode b_M_hasMore 24 = .ok (.if_icmp .eq 7, 3) := by decide +kernel
theorem d_M_hasMore_27 : decode b_M_hasMore 27 = .ok (.iconst 1, 1) := by decide +kernel
theorem d_M_hasMore_28 : decode b_M_hasMore 28 = .ok (.goto 4, 3) := by decide +kernel
theorem d_M_hasMore_31 : decode b_M_hasMore 31 = .ok (.iconst 0, 1) := by decide +kernel
theorem d_M_hasMore_32 : decode b_M_hasMore 32 = .ok (.istore_n 3, 1) := by decide +kernel
theorem d_M_hasMore_33 : decode b_M_hasMore 33 = .ok (.iinc 4 1, 3) := by decide +kernel
theorem d_M_hasMore_36 : decode b_M_hasMore 36 = .ok (.goto (-31), 3) := by decide +kernel
theorem d_M_hasMore_39 : decode b_M_hasMore 39 = .ok (.iload_n 3, 1) := by decide +kernel
theorem d_M_hasMore_40 : decode b_M_hasMore 40 = .ok (.ireturn, 1) := by decide +kernel
theorem d_M_tell_0 : decode b_M_tell 0 = .ok (.aload_n 0, 1) := by decide +kernel
theorem d_M_tell_1 : decode b_M_tell 1 = .ok (.iload_n 1, 1) := by decide +kernel
theorem d_M_tell_2 : decode b_M_tell 2 = .ok (.lconst 0, 1) := by decide +kernel
theorem d_M_tell_3 : decode b_M_tell 3 = .ok (.invokevirtual 30, 3) := by decide +kernel
theorem d_M_tell_6 : decode b_M_tell 6 = .ok (.iload_n 2, 1) := by decide +kernel
theorem d_M_tell_7 : decode b_M_tell 7 = .ok (.istore 4, 2) := by decide +kernel
theorem d_M_tell_9 : decode b_M_tell 9 = .ok (.iload 4, 2) := by decide +kernel
theorem d_M_tell_11 : decode b_M_tell 11 = .ok (.iload_n 3, 1) := by decide +kernel
theorem d_M_tell_12 : decode b_M_tell 12 = .ok (.if_icmp .ge 135, 3) := by decide +kernel
theorem d_M_tell_15 : decode b_M_tell 15 = .ok (.aload_n 0, 1) := by decide +kernel
theorem d_M_tell_16 : decode b_M_tell 16 = .ok (.getfield 20, 3) := by decide +kernel
theorem d_M_tell_19 : decode b_M_tell 19 = .ok (.iload 4, 2) := by decide +kernel
theorem d_M_tell_21 : decode b_M_tell 21 = .ok (.iaload, 1) := by decide +kernel
theorem d_M_tell_22 : decode b_M_tell 22 = .ok (.bipush 48, 2) := by decide +kernel
theorem d_M_tell_24 : decode b_M_tell 24 = .ok (.isub, 1) := by decide +kernel
theorem d_M_tell_25 : decode b_M_tell 25 = .ok (.istore 5, 2) := by decide +kernel
theorem d_M_tell_27 : decode b_M_tell 27 = .ok (.iconst 0, 1) := by decide +kernel
theorem d_M_tell_28 : decode b_M_tell 28 = .ok (.istore 6, 2) := by decide +kernel
theorem d_M_tell_30 : decode b_M_tell 30 = .ok (.iload 6, 2) := by decide +kernel
theorem d_M_tell_32 : decode b_M_tell 32 = .ok (.aload_n 0, 1) := by decide +kernel
theorem d_M_tell_33 : decode b_M_tell 33 = .ok (.getfield 13, 3) := by decide +kernel
theorem d_M_tell_36 : decode b_M_tell 36 = .ok (.iload_n 1, 1) := by decide +kernel
theorem d_M_tell_37 : decode b_M_tell 37 = .ok (.iaload, 1) := by decide +kernel
theorem d_M_tell_38 : decode b_M_tell 38 = .ok (.if_icmp .ge 55, 3) := by decide +kernel
theorem d_M_tell_41 : decode b_M_tell 41 = .ok (.bipush 10, 2) := by decide +kernel
theorem d_M_tell_43 : decode b_M_tell 43 = .ok (.aload_n 0, 1) := by decide +kernel
theorem d_M_tell_44 : decode b_M_tell 44 = .ok (.getfield 7, 3) := by decide +kernel
theorem d_M_tell_47 : decode b_M_tell 47 = .ok (.sipush 300, 3) := by decide +kernel
theorem d_M_tell_50 : decode b_M_tell 50 = .ok (.iload_n 1, 1) := by decide +kernel
theorem d_M_tell_51 : decode b_M_tell 51 = .ok (.imul, 1) := by decide +kernel
theorem d_M_tell_52 : decode b_M_tell 52 = .ok (.iload 6, 2) := by decide +kernel
theorem d_M_tell_54 : decode b_M_tell 54 = .ok (.iadd, 1) := by decide +kernel
theorem d_M_tell_55 : decode b_M_tell 55 = .ok (.iaload, 1) := by decide +kernel
theorem d_M_tell_56 : decode b_M_tell 56 = .ok (.imul, 1) := by decide +kernel
theorem d_M_tell_57 : decode b_M_tell 57 = .ok (.iload 5, 2) := by decide +kernel
theorem d_M_tell_59 : decode b_M_tell 59 = .ok (.iadd, 1) := by decide +kernel
theorem d_M_tell_60 : decode b_M_tell 60 = .ok (.istore 7, 2) := by decide +kernel
theorem d_M_tell_62 : decode b_M_tell 62 = .ok (.aload_n 0, 1) := by decide +kernel
theorem d_M_tell_63 : decode b_M_tell 63 = .ok (.getfield 7, 3) := by decide +kernel
theorem d_M_tell_66 : decode b_M_tell 66 = .ok (.sipush 300, 3) := by decide +kernel
theorem d_M_tell_69 : decode b_M_tell 69 = .ok (.iload_n 1, 1) := by decide +kernel
theorem d_M_tell_70 : decode b_M_tell 70 = .ok (.imul, 1) := by decide +kernel
theorem d_M_tell_71 : decode b_M_tell 71 = .ok (.iload 6, 2) := by decide +kernel
theorem d_M_tell_73 : decode b_M_tell 73 = .ok (.iadd, 1) := by decide +kernel
theorem d_M_tell_74 : decode b_M_tell 74 = .ok (.iload 7, 2) := by decide +kernel
theorem d_M_tell_76 : decode b_M_tell 76 = .ok (.ldc 43, 2) := by decide +kernel
theorem d_M_tell_78 : decode b_M_tell 78 = .ok (.irem, 1) := by decide +kernel
theorem d_M_tell_79 : decode b_M_tell 79 = .ok (.iastore, 1) := by decide +kernel
theorem d_M_tell_80 : decode b_M_tell 80 = .ok (.iload 7, 2) := by decide +kernel
theorem d_M_tell_82 : decode b_M_tell 82 = .ok (.ldc 43, 2) := by decide +kernel
theorem d_M_tell_84 : decode b_M_tell 84 = .ok (.idiv, 1) := by decide +kernel
theorem d_M_tell_85 : decode b_M_tell 85 = .ok (.istore 5, 2) := by decide +kernel
theorem d_M_tell_87 : decode b_M_tell 87 = .ok (.iinc 6 1, 3) := by decide +kernel
theorem d_M_tell_90 : decode b_M_tell 90 = .ok (.goto (-60), 3) := by decide +kernel
theorem d_M_tell_93 : decode b_M_tell 93 = .ok (.iload 5, 2) := by decide +kernel
theorem d_M_tell_95 : decode b_M_tell 95 = .ok (.ifCond .le 32, 3) := by decide +kernel
theorem d_M_tell_98 : decode b_M_tell 98 = .ok (.aload_n 0, 1) := by decide +kernel
theorem d_M_tell_99 : decode b_M_tell 99 = .ok (.getfield 7, 3) := by decide +kernel
theorem d_M_tell_102 : decode b_M_tell 102 = .ok (.sipush 300, 3) := by decide +kernel
theorem d_M_tell_105 : decode b_M_tell 105 = .ok (.iload_n 1, 1) := by decide +kernel
theorem d_M_tell_106 : decode b_M_tell 106 = .ok (.imul, 1) := by decide +kernel
theorem d_M_tell_107 : decode b_M_tell 107 = .ok (.aload_n 0, 1) := by decide +kernel
theorem d_M_tell_108 : decode b_M_tell 108 = .ok (.getfield 13, 3) := by decide +kernel
theorem d_M_tell_111 : decode b_M_tell 111 = .ok (.iload_n 1, 1) := by decide +kernel
theorem d_M_tell_112 : decode b_M_tell 112 = .ok (.iaload, 1) := by decide +kernel
theorem d_M_tell_113 : decode b_M_tell 113 = .ok (.iadd, 1) := by decide +kernel
theorem d_M_tell_114 : decode b_M_tell 114 = .ok (.iload 5, 2) := by decide +kernel
theorem d_M_tell_116 : decode b_M_tell 116 = .ok (.iastore, 1) := by decide +kernel
theorem d_M_tell_117 : decode b_M_tell 117 = .ok (.aload_n 0, 1) := by decide +kernel
theorem d_M_tell_118 : decode b_M_tell 118 = .ok (.getfield 13, 3) := by decide +kernel
theorem d_M_tell_121 : decode b_M_tell 121 = .ok (.iload_n 1, 1) := by decide +kernel
theorem d_M_tell_122 : decode b_M_tell 122 = .ok (.dup2, 1) := by decide +kernel
theorem d_M_tell_123 : decode b_M_tell 123 = .ok (.iaload, 1) := by decide +kernel
theorem d_M_tell_124 : decode b_M_tell 124 = .ok (.iconst 1, 1) := by decide +kernel
theorem d_M_tell_125 : decode b_M_tell 125 = .ok (.iadd, 1) := by decide +kernel
theorem d_M_tell_126 : decode b_M_tell 126 = .ok (.iastore, 1) := by decide +kernel
theorem d_M_tell_127 : decode b_M_tell 127 = .ok (.aload_n 0, 1) := by decide +kernel
theorem d_M_tell_128 : decode b_M_tell 128 = .ok (.getfield 13, 3) := by decide +kernel
theorem d_M_tell_131 : decode b_M_tell 131 = .ok (.iload_n 1, 1) := by decide +kernel
theorem d_M_tell_132 : decode b_M_tell 132 = .ok (.iaload, 1) := by decide +kernel
theorem d_M_tell_133 : decode b_M_tell 133 = .ok (.sipush 128, 3) := by decide +kernel
theorem d_M_tell_136 : decode b_M_tell 136 = .ok (.if_icmp .le 5, 3) := by decide +kernel
theorem d_M_tell_139 : decode b_M_tell 139 = .ok (.iconst 0, 1) := by decide +kernel
theorem d_M_tell_140 : decode b_M_tell 140 = .ok (.ireturn, 1) := by decide +kernel
theorem d_M_tell_141 : decode b_M_tell 141 = .ok (.iinc 4 1, 3) := by decide +kernel
theorem d_M_tell_144 : decode b_M_tell 144 = .ok (.goto (-135), 3) := by decide +kernel
theorem d_M_tell_147 : decode b_M_tell 147 = .ok (.iconst 1, 1) := by decide +kernel
theorem d_M_tell_148 : decode b_M_tell 148 = .ok (.ireturn, 1) := by decide +kernel
theorem d_M_place_0 : decode b_M_place 0 = .ok (.aload_n 0, 1) := by decide +kernel
theorem d_M_place_1 : decode b_M_place 1 = .ok (.iconst 0, 1) := by decide +kernel
theorem d_M_place_2 : decode b_M_place 2 = .ok (.putfield 34, 3) := by decide +kernel
theorem d_M_place_5 : decode b_M_place 5 = .ok (.aload_n 0, 1) := by decide +kernel
theorem d_M_place_6 : decode b_M_place 6 = .ok (.getfield 23, 3) := by decide +kernel
theorem d_M_place_9 : decode b_M_place 9 = .ok (.ireturn, 1) := by decide +kernel
theorem d_L_law_0 : decode code 0 = .ok (.new 8, 3) := by decide +kernel
theorem d_L_law_3 : decode code 3 = .ok (.dup, 1) := by decide +kernel
theorem d_L_law_4 : decode code 4 = .ok (.invokespecial 49, 3) := by decide +kernel
theorem d_L_law_7 : decode code 7 = .ok (.astore_n 1, 1) := by decide +kernel
theorem d_L_law_8 : decode code 8 = .ok (.new 50, 3) := by decide +kernel
theorem d_L_law_11 : decode code 11 = .ok (.dup, 1) := by decide +kernel
theorem d_L_law_12 : decode code 12 = .ok (.invokespecial 52, 3) := by decide +kernel
theorem d_L_law_15 : decode code 15 = .ok (.astore_n 2, 1) := by decide +kernel
theorem d_L_law_16 : decode code 16 = .ok (.iconst 1, 1) := by decide +kernel
theorem d_L_law_17 : decode code 17 = .ok (.newarray .long, 2) := by decide +kernel
theorem d_L_law_19 : decode code 19 = .ok (.astore_n 3, 1) := by decide +kernel
theorem d_L_law_20 : decode code 20 = .ok (.iconst 0, 1) := by decide +kernel
theorem d_L_law_21 : decode code 21 = .ok (.istore 4, 2) := by decide +kernel
theorem d_L_law_23 : decode code 23 = .ok (.iload 4, 2) := by decide +kernel
theorem d_L_law_25 : decode code 25 = .ok (.aload_n 0, 1) := by decide +kernel
theorem d_L_law_26 : decode code 26 = .ok (.arraylength, 1) := by decide +kernel
theorem d_L_law_27 : decode code 27 = .ok (.bipush 6, 2) := by decide +kernel
theorem d_L_law_29 : decode code 29 = .ok (.isub, 1) := by decide +kernel
theorem d_L_law_30 : decode code 30 = .ok (.if_icmp .gt 967, 3) := by decide +kernel
theorem d_L_law_33 : decode code 33 = .ok (.aload_n 0, 1) := by decide +kernel
theorem d_L_law_34 : decode code 34 = .ok (.iload 4, 2) := by decide +kernel
theorem d_L_law_36 : decode code 36 = .ok (.iaload, 1) := by decide +kernel
theorem d_L_law_37 : decode code 37 = .ok (.bipush 15, 2) := by decide +kernel
theorem d_L_law_39 : decode code 39 = .ok (.iand, 1) := by decide +kernel
theorem d_L_law_40 : decode code 40 = .ok (.tableswitch 951 0 13 #[72, 196, 288, 368, 448, 516, 572, 640, 719, 775, 844, 857, 882, 938], 72) := by decide +kernel
theorem d_L_law_112 : decode code 112 = .ok (.aload_n 1, 1) := by decide +kernel
theorem d_L_law_113 : decode code 113 = .ok (.aload_n 0, 1) := by decide +kernel
theorem d_L_law_114 : decode code 114 = .ok (.iload 4, 2) := by decide +kernel
theorem d_L_law_116 : decode code 116 = .ok (.iconst 1, 1) := by decide +kernel
theorem d_L_law_117 : decode code 117 = .ok (.iadd, 1) := by decide +kernel
theorem d_L_law_118 : decode code 118 = .ok (.iaload, 1) := by decide +kernel
theorem d_L_law_119 : decode code 119 = .ok (.aload_n 0, 1) := by decide +kernel
theorem d_L_law_120 : decode code 120 = .ok (.iload 4, 2) := by decide +kernel
theorem d_L_law_122 : decode code 122 = .ok (.iconst 2, 1) := by decide +kernel
theorem d_L_law_123 : decode code 123 = .ok (.iadd, 1) := by decide +kernel
theorem d_L_law_124 : decode code 124 = .ok (.iaload, 1) := by decide +kernel
theorem d_L_law_125 : decode code 125 = .ok (.i2l, 1) := by decide +kernel
theorem d_L_law_126 : decode code 126 = .ok (.bipush 32, 2) := by decide +kernel
theorem d_L_law_128 : decode code 128 = .ok (.lshl, 1) := by decide +kernel
theorem d_L_law_129 : decode code 129 = .ok (.aload_n 0, 1) := by decide +kernel
theorem d_L_law_130 : decode code 130 = .ok (.iload 4, 2) := by decide +kernel
theorem d_L_law_132 : decode code 132 = .ok (.iconst 3, 1) := by decide +kernel
theorem d_L_law_133 : decode code 133 = .ok (.iadd, 1) := by decide +kernel
theorem d_L_law_134 : decode code 134 = .ok (.iaload, 1) := by decide +kernel
theorem d_L_law_135 : decode code 135 = .ok (.i2l, 1) := by decide +kernel
theorem d_L_law_136 : decode code 136 = .ok (.ldc2_w 53, 3) := by decide +kernel
theorem d_L_law_139 : decode code 139 = .ok (.land, 1) := by decide +kernel
theorem d_L_law_140 : decode code 140 = .ok (.lor, 1) := by decide +kernel
theorem d_L_law_141 : decode code 141 = .ok (.aload_n 0, 1) := by decide +kernel
theorem d_L_law_142 : decode code 142 = .ok (.iload 4, 2) := by decide +kernel
theorem d_L_law_144 : decode code 144 = .ok (.iconst 4, 1) := by decide +kernel
theorem d_L_law_145 : decode code 145 = .ok (.iadd, 1) := by decide +kernel
theorem d_L_law_146 : decode code 146 = .ok (.iaload, 1) := by decide +kernel
theorem d_L_law_147 : decode code 147 = .ok (.i2l, 1) := by decide +kernel
theorem d_L_law_148 : decode code 148 = .ok (.bipush 32, 2) := by decide +kernel
theorem d_L_law_150 : decode code 150 = .ok (.lshl, 1) := by decide +kernel
theorem d_L_law_151 : decode code 151 = .ok (.aload_n 0, 1) := by decide +kernel
theorem d_L_law_152 : decode code 152 = .ok (.iload 4, 2) := by decide +kernel
theorem d_L_law_154 : decode code 154 = .ok (.iconst 5, 1) := by decide +kernel
theorem d_L_law_155 : decode code 155 = .ok (.iadd, 1) := by decide +kernel
theorem d_L_law_156 : decode code 156 = .ok (.iaload, 1) := by decide +kernel
theorem d_L_law_157 : decode code 157 = .ok (.i2l, 1) := by decide +kernel
theorem d_L_law_158 : decode code 158 = .ok (.ldc2_w 53, 3) := by decide +kernel
theorem d_L_law_161 : decode code 161 = .ok (.land, 1) := by decide +kernel
theorem d_L_law_162 : decode code 162 = .ok (.lor, 1) := by decide +kernel
theorem d_L_law_163 : decode code 163 = .ok (.invokestatic 55, 3) := by decide +kernel
theorem d_L_law_166 : decode code 166 = .ok (.istore 5, 2) := by decide +kernel
theorem d_L_law_168 : decode code 168 = .ok (.aload_n 2, 1) := by decide +kernel
theorem d_L_law_169 : decode code 169 = .ok (.aload_n 0, 1) := by decide +kernel
theorem d_L_law_170 : decode code 170 = .ok (.iload 4, 2) := by decide +kernel
theorem d_L_law_172 : decode code 172 = .ok (.iconst 1, 1) := by decide +kernel
theorem d_L_law_173 : decode code 173 = .ok (.iadd, 1) := by decide +kernel
theorem d_L_law_174 : decode code 174 = .ok (.iaload, 1) := by decide +kernel
theorem d_L_law_175 : decode code 175 = .ok (.aload_n 0, 1) := by decide +kernel
theorem d_L_law_176 : decode code 176 = .ok (.iload 4, 2) := by decide +kernel
theorem d_L_law_178 : decode code 178 = .ok (.iconst 2, 1) := by decide +kernel
theorem d_L_law_179 : decode code 179 = .ok (.iadd, 1) := by decide +kernel
theorem d_L_law_180 : decode code 180 = .ok (.iaload, 1) := by decide +kernel
theorem d_L_law_181 : decode code 181 = .ok (.i2l, 1) := by decide +kernel
theorem d_L_law_182 : decode code 182 = .ok (.bipush 32, 2) := by decide +kernel
theorem d_L_law_184 : decode code 184 = .ok (.lshl, 1) := by decide +kernel
theorem d_L_law_185 : decode code 185 = .ok (.aload_n 0, 1) := by decide +kernel
theorem d_L_law_186 : decode code 186 = .ok (.iload 4, 2) := by decide +kernel
theorem d_L_law_188 : decode code 188 = .ok (.iconst 3, 1) := by decide +kernel
theorem d_L_law_189 : decode code 189 = .ok (.iadd, 1) := by decide +kernel
theorem d_L_law_190 : decode code 190 = .ok (.iaload, 1) := by decide +kernel
theorem d_L_law_191 : decode code 191 = .ok (.i2l, 1) := by decide +kernel
theorem d_L_law_192 : decode code 192 = .ok (.ldc2_w 53, 3) := by decide +kernel
theorem d_L_law_195 : decode code 195 = .ok (.land, 1) := by decide +kernel
theorem d_L_law_196 : decode code 196 = .ok (.lor, 1) := by decide +kernel
theorem d_L_law_197 : decode code 197 = .ok (.aload_n 0, 1) := by decide +kernel
theorem d_L_law_198 : decode code 198 = .ok (.iload 4, 2) := by decide +kernel
theorem d_L_law_200 : decode code 200 = .ok (.iconst 4, 1) := by decide +kernel
theorem d_L_law_201 : decode code 201 = .ok (.iadd, 1) := by decide +kernel
theorem d_L_law_202 : decode code 202 = .ok (.iaload, 1) := by decide +kernel
theorem d_L_law_203 : decode code 203 = .ok (.i2l, 1) := by decide +kernel
theorem d_L_law_204 : decode code 204 = .ok (.bipush 32, 2) := by decide +kernel
theorem d_L_law_206 : decode code 206 = .ok (.lshl, 1) := by decide +kernel
theorem d_L_law_207 : decode code 207 = .ok (.aload_n 0, 1) := by decide +kernel
theorem d_L_law_208 : decode code 208 = .ok (.iload 4, 2) := by decide +kernel
theorem d_L_law_210 : decode code 210 = .ok (.iconst 5, 1) := by decide +kernel
theorem d_L_law_211 : decode code 211 = .ok (.iadd, 1) := by decide +kernel
theorem d_L_law_212 : decode code 212 = .ok (.iaload, 1) := by decide +kernel
theorem d_L_law_213 : decode code 213 = .ok (.i2l, 1) := by decide +kernel
theorem d_L_law_214 : decode code 214 = .ok (.ldc2_w 53, 3) := by decide +kernel
theorem d_L_law_217 : decode code 217 = .ok (.land, 1) := by decide +kernel
theorem d_L_law_218 : decode code 218 = .ok (.lor, 1) := by decide +kernel
theorem d_L_law_219 : decode code 219 = .ok (.invokevirtual 60, 3) := by decide +kernel
theorem d_L_law_222 : decode code 222 = .ok (.aload_n 2, 1) := by decide +kernel
theorem d_L_law_223 : decode code 223 = .ok (.invokevirtual 61, 3) := by decide +kernel
theorem d_L_law_226 : decode code 226 = .ok (.iload 5, 2) := by decide +kernel
theorem d_L_law_228 : decode code 228 = .ok (.if_icmp .eq 5, 3) := by decide +kernel
theorem d_L_law_231 : decode code 231 = .ok (.iconst 0, 1) := by decide +kernel
theorem d_L_law_232 : decode code 232 = .ok (.ireturn, 1) := by decide +kernel
theorem d_L_law_233 : decode code 233 = .ok (.goto 758, 3) := by decide +kernel
theorem d_L_law_236 : decode code 236 = .ok (.aload_n 1, 1) := by decide +kernel
theorem d_L_law_237 : decode code 237 = .ok (.aload_n 0, 1) := by decide +kernel
theorem d_L_law_238 : decode code 238 = .ok (.iload 4, 2) := by decide +kernel
theorem d_L_law_240 : decode code 240 = .ok (.iconst 1, 1) := by decide +kernel
theorem d_L_law_241 : decode code 241 = .ok (.iadd, 1) := by decide +kernel
theorem d_L_law_242 : decode code 242 = .ok (.iaload, 1) := by decide +kernel
theorem d_L_law_243 : decode code 243 = .ok (.aload_n 0, 1) := by decide +kernel
theorem d_L_law_244 : decode code 244 = .ok (.iload 4, 2) := by decide +kernel
theorem d_L_law_246 : decode code 246 = .ok (.iconst 2, 1) := by decide +kernel
theorem d_L_law_247 : decode code 247 = .ok (.iadd, 1) := by decide +kernel
theorem d_L_law_248 : decode code 248 = .ok (.iaload, 1) := by decide +kernel
theorem d_L_law_249 : decode code 249 = .ok (.aload_n 0, 1) := by decide +kernel
theorem d_L_law_250 : decode code 250 = .ok (.iload 4, 2) := by decide +kernel
theorem d_L_law_252 : decode code 252 = .ok (.iconst 3, 1) := by decide +kernel
theorem d_L_law_253 : decode code 253 = .ok (.iadd, 1) := by decide +kernel
theorem d_L_law_254 : decode code 254 = .ok (.iaload, 1) := by decide +kernel
theorem d_L_law_255 : decode code 255 = .ok (.aload_n 0, 1) := by decide +kernel
theorem d_L_law_256 : decode code 256 = .ok (.iload 4, 2) := by decide +kernel
theorem d_L_law_258 : decode code 258 = .ok (.iconst 4, 1) := by decide +kernel
theorem d_L_law_259 : decode code 259 = .ok (.iadd, 1) := by decide +kernel
theorem d_L_law_260 : decode code 260 = .ok (.iaload, 1) := by decide +kernel
theorem d_L_law_261 : decode code 261 = .ok (.aload_n 3, 1) := by decide +kernel
theorem d_L_law_262 : decode code 262 = .ok (.invokestatic 65, 3) := by decide +kernel
theorem d_L_law_265 : decode code 265 = .ok (.istore 5, 2) := by decide +kernel
theorem d_L_law_267 : decode code 267 = .ok (.aload_n 2, 1) := by decide +kernel
theorem d_L_law_268 : decode code 268 = .ok (.aload_n 0, 1) := by decide +kernel
theorem d_L_law_269 : decode code 269 = .ok (.iload 4, 2) := by decide +kernel
theorem d_L_law_271 : decode code 271 = .ok (.iconst 1, 1) := by decide +kernel
theorem d_L_law_272 : decode code 272 = .ok (.iadd, 1) := by decide +kernel
theorem d_L_law_273 : decode code 273 = .ok (.iaload, 1) := by decide +kernel
theorem d_L_law_274 : decode code 274 = .ok (.aload_n 0, 1) := by decide +kernel
theorem d_L_law_275 : decode code 275 = .ok (.iload 4, 2) := by decide +kernel
theorem d_L_law_277 : decode code 277 = .ok (.iconst 2, 1) := by decide +kernel
theorem d_L_law_278 : decode code 278 = .ok (.iadd, 1) := by decide +kernel
theorem d_L_law_279 : decode code 279 = .ok (.iaload, 1) := by decide +kernel
theorem d_L_law_280 : decode code 280 = .ok (.aload_n 0, 1) := by decide +kernel
theorem d_L_law_281 : decode code 281 = .ok (.iload 4, 2) := by decide +kernel
theorem d_L_law_283 : decode code 283 = .ok (.iconst 3, 1) := by decide +kernel
theorem d_L_law_284 : decode code 284 = .ok (.iadd, 1) := by decide +kernel
theorem d_L_law_285 : decode code 285 = .ok (.iaload, 1) := by decide +kernel
theorem d_L_law_286 : decode code 286 = .ok (.aload_n 0, 1) := by decide +kernel
theorem d_L_law_287 : decode code 287 = .ok (.iload 4, 2) := by decide +kernel
theorem d_L_law_289 : decode code 289 = .ok (.iconst 4, 1) := by decide +kernel
theorem d_L_law_290 : decode code 290 = .ok (.iadd, 1) := by decide +kernel
theorem d_L_law_291 : decode code 291 = .ok (.iaload, 1) := by decide +kernel
theorem d_L_law_292 : decode code 292 = .ok (.invokevirtual 68, 3) := by decide +kernel
theorem d_L_law_295 : decode code 295 = .ok (.istore 6, 2) := by decide +kernel
theorem d_L_law_297 : decode code 297 = .ok (.aload_n 2, 1) := by decide +kernel
theorem d_L_law_298 : decode code 298 = .ok (.invokevirtual 61, 3) := by decide +kernel
theorem d_L_law_301 : decode code 301 = .ok (.iload 5, 2) := by decide +kernel
theorem d_L_law_303 : decode code 303 = .ok (.if_icmp .eq 5, 3) := by decide +kernel
theorem d_L_law_306 : decode code 306 = .ok (.iconst 0, 1) := by decide +kernel
theorem d_L_law_307 : decode code 307 = .ok (.ireturn, 1) := by decide +kernel
theorem d_L_law_308 : decode code 308 = .ok (.iload 5, 2) := by decide +kernel
theorem d_L_law_310 : decode code 310 = .ok (.ifCond .ne 15, 3) := by decide +kernel
theorem d_L_law_313 : decode code 313 = .ok (.aload_n 3, 1) := by decide +kernel
theorem d_L_law_314 : decode code 314 = .ok (.iconst 0, 1) := by decide +kernel
theorem d_L_law_315 : decode code 315 = .ok (.laload, 1) := by decide +kernel
theorem d_L_law_316 : decode code 316 = .ok (.iload 6, 2) := by decide +kernel
theorem d_L_law_318 : decode code 318 = .ok (.i2l, 1) := by decide +kernel
theorem d_L_law_319 : decode code 319 = .ok (.lcmp, 1) := by decide +kernel
theorem d_L_law_320 : decode code 320 = .ok (.ifCond .eq 5, 3) := by decide +kernel
theorem d_L_law_323 : decode code 323 = .ok (.iconst 0, 1) := by decide +kernel
theorem d_L_law_324 : decode code 324 = .ok (.ireturn, 1) := by decide +kernel
theorem d_L_law_325 : decode code 325 = .ok (.goto 666, 3) := by decide +kernel
theorem d_L_law_328 : decode code 328 = .ok (.aload_n 1, 1) := by decide +kernel
theorem d_L_law_329 : decode code 329 = .ok (.aload_n 0, 1) := by decide +kernel
theorem d_L_law_330 : decode code 330 = .ok (.iload 4, 2) := by decide +kernel
theorem d_L_law_332 : decode code 332 = .ok (.iconst 1, 1) := by decide +kernel
theorem d_L_law_333 : decode code 333 = .ok (.iadd, 1) := by decide +kernel
theorem d_L_law_334 : decode code 334 = .ok (.iaload, 1) := by decide +kernel
theorem d_L_law_335 : decode code 335 = .ok (.aload_n 0, 1) := by decide +kernel
theorem d_L_law_336 : decode code 336 = .ok (.iload 4, 2) := by decide +kernel
theorem d_L_law_338 : decode code 338 = .ok (.iconst 2, 1) := by decide +kernel
theorem d_L_law_339 : decode code 339 = .ok (.iadd, 1) := by decide +kernel
theorem d_L_law_340 : decode code 340 = .ok (.iaload, 1) := by decide +kernel
theorem d_L_law_341 : decode code 341 = .ok (.aload_n 0, 1) := by decide +kernel
theorem d_L_law_342 : decode code 342 = .ok (.iload 4, 2) := by decide +kernel
theorem d_L_law_344 : decode code 344 = .ok (.iconst 3, 1) := by decide +kernel
theorem d_L_law_345 : decode code 345 = .ok (.iadd, 1) := by decide +kernel
theorem d_L_law_346 : decode code 346 = .ok (.iaload, 1) := by decide +kernel
theorem d_L_law_347 : decode code 347 = .ok (.aload_n 3, 1) := by decide +kernel
theorem d_L_law_348 : decode code 348 = .ok (.invokestatic 69, 3) := by decide +kernel
theorem d_L_law_351 : decode code 351 = .ok (.istore 5, 2) := by decide +kernel
theorem d_L_law_353 : decode code 353 = .ok (.aload_n 2, 1) := by decide +kernel
theorem d_L_law_354 : decode code 354 = .ok (.aload_n 0, 1) := by decide +kernel
theorem d_L_law_355 : decode code 355 = .ok (.iload 4, 2) := by decide +kernel
theorem d_L_law_357 : decode code 357 = .ok (.iconst 1, 1) := by decide +kernel
theorem d_L_law_358 : decode code 358 = .ok (.iadd, 1) := by decide +kernel
theorem d_L_law_359 : decode code 359 = .ok (.iaload, 1) := by decide +kernel
theorem d_L_law_360 : decode code 360 = .ok (.aload_n 0, 1) := by decide +kernel
theorem d_L_law_361 : decode code 361 = .ok (.iload 4, 2) := by decide +kernel
theorem d_L_law_363 : decode code 363 = .ok (.iconst 2, 1) := by decide +kernel
theorem d_L_law_364 : decode code 364 = .ok (.iadd, 1) := by decide +kernel
theorem d_L_law_365 : decode code 365 = .ok (.iaload, 1) := by decide +kernel
theorem d_L_law_366 : decode code 366 = .ok (.aload_n 0, 1) := by decide +kernel
theorem d_L_law_367 : decode code 367 = .ok (.iload 4, 2) := by decide +kernel
theorem d_L_law_369 : decode code 369 = .ok (.iconst 3, 1) := by decide +kernel
theorem d_L_law_370 : decode code 370 = .ok (.iadd, 1) := by decide +kernel
theorem d_L_law_371 : decode code 371 = .ok (.iaload, 1) := by decide +kernel
theorem d_L_law_372 : decode code 372 = .ok (.invokevirtual 72, 3) := by decide +kernel
theorem d_L_law_375 : decode code 375 = .ok (.istore 6, 2) := by decide +kernel
theorem d_L_law_377 : decode code 377 = .ok (.aload_n 2, 1) := by decide +kernel
theorem d_L_law_378 : decode code 378 = .ok (.invokevirtual 61, 3) := by decide +kernel
theorem d_L_law_381 : decode code 381 = .ok (.iload 5, 2) := by decide +kernel
theorem d_L_law_383 : decode code 383 = .ok (.if_icmp .eq 5, 3) := by decide +kernel
theorem d_L_law_386 : decode code 386 = .ok (.iconst 0, 1) := by decide +kernel
theorem d_L_law_387 : decode code 387 = .ok (.ireturn, 1) := by decide +kernel
theorem d_L_law_388 : decode code 388 = .ok (.iload 5, 2) := by decide +kernel
theorem d_L_law_390 : decode code 390 = .ok (.ifCond .ne 15, 3) := by decide +kernel
theorem d_L_law_393 : decode code 393 = .ok (.aload_n 3, 1) := by decide +kernel
theorem d_L_law_394 : decode code 394 = .ok (.iconst 0, 1) := by decide +kernel
theorem d_L_law_395 : decode code 395 = .ok (.laload, 1) := by decide +kernel
theorem d_L_law_396 : decode code 396 = .ok (.iload 6, 2) := by decide +kernel
theorem d_L_law_398 : decode code 398 = .ok (.i2l, 1) := by decide +kernel
theorem d_L_law_399 : decode code 399 = .ok (.lcmp, 1) := by decide +kernel
theorem d_L_law_400 : decode code 400 = .ok (.ifCond .eq 5, 3) := by decide +kernel
theorem d_L_law_403 : decode code 403 = .ok (.iconst 0, 1) := by decide +kernel
theorem d_L_law_404 : decode code 404 = .ok (.ireturn, 1) := by decide +kernel
theorem d_L_law_405 : decode code 405 = .ok (.goto 586, 3) := by decide +kernel
theorem d_L_law_408 : decode code 408 = .ok (.aload_n 1, 1) := by decide +kernel
theorem d_L_law_409 : decode code 409 = .ok (.aload_n 0, 1) := by decide +kernel
theorem d_L_law_410 : decode code 410 = .ok (.iload 4, 2) := by decide +kernel
theorem d_L_law_412 : decode code 412 = .ok (.iconst 1, 1) := by decide +kernel
theorem d_L_law_413 : decode code 413 = .ok (.iadd, 1) := by decide +kernel
theorem d_L_law_414 : decode code 414 = .ok (.iaload, 1) := by decide +kernel
end
section
/-! the instructions, by program -/
theorem d_L_law_415 : decode code 415 = .ok (.aload_n 0, 1) := by decide +kernel
theorem d_L_law_416 : decode code 416 = .ok (.iload 4, 2) := by decide +kernel
theorem d_L_law_418 : decode code 418 = .ok (.iconst 2, 1) := by decide +kernel
theorem d_L_law_419 : decode code 419 = .ok (.iadd, 1) := by decide +kernel
theorem d_L_law_420 : decode code 420 = .ok (.iaload, 1) := by decide +kernel
theorem d_L_law_421 : decode code 421 = .ok (.aload_n 0, 1) := by decide +kernel
theorem d_L_law_422 : decode code 422 = .ok (.iload 4, 2) := by decide +kernel
theorem d_L_law_424 : decode code 424 = .ok (.iconst 3, 1) := by decide +kernel
theorem d_L_law_425 : decode code 425 = .ok (.iadd, 1) := by decide +kernel
theorem d_L_law_426 : decode code 426 = .ok (.iaload, 1) := by decide +kernel
theorem d_L_law_427 : decode code 427 = .ok (.aload_n 3, 1) := by decide +kernel
theorem d_L_law_428 : decode code 428 = .ok (.invokestatic 73, 3) := by decide +kernel
theorem d_L_law_431 : decode code 431 = .ok (.istore 5, 2) := by decide +kernel
theorem d_L_law_433 : decode code 433 = .ok (.aload_n 2, 1) := by decide +kernel
theorem d_L_law_434 : decode code 434 = .ok (.aload_n 0, 1) := by decide +kernel
theorem d_L_law_435 : decode code 435 = .ok (.iload 4, 2) := by decide +kernel
theorem d_L_law_437 : decode code 437 = .ok (.iconst 1, 1) := by decide +kernel
theorem d_L_law_438 : decode code 438 = .ok (.iadd, 1) := by decide +kernel
theorem d_L_law_439 : decode code 439 = .ok (.iaload, 1) := by decide +kernel
theorem d_L_law_440 : decode code 440 = .ok (.aload_n 0, 1) := by decide +kernel
theorem d_L_law_441 : decode code 441 = .ok (.iload 4, 2) := by decide +kernel
theorem d_L_law_443 : decode code 443 = .ok (.iconst 2, 1) := by decide +kernel
theorem d_L_law_444 : decode code 444 = .ok (.iadd, 1) := by decide +kernel
theorem d_L_law_445 : decode code 445 = .ok (.iaload, 1) := by decide +kernel
theorem d_L_law_446 : decode code 446 = .ok (.aload_n 0, 1) := by decide +kernel
theorem d_L_law_447 : decode code 447 = .ok (.iload 4, 2) := by decide +kernel
theorem d_L_law_449 : decode code 449 = .ok (.iconst 3, 1) := by decide +kernel
theorem d_L_law_450 : decode code 450 = .ok (.iadd, 1) := by decide +kernel
theorem d_L_law_451 : decode code 451 = .ok (.iaload, 1) := by decide +kernel
theorem d_L_law_452 : decode code 452 = .ok (.invokevirtual 75, 3) := by decide +kernel
theorem d_L_law_455 : decode code 455 = .ok (.istore 6, 2) := by decide +kernel
theorem d_L_law_457 : decode code 457 = .ok (.aload_n 2, 1) := by decide +kernel
theorem d_L_law_458 : decode code 458 = .ok (.invokevirtual 61, 3) := by decide +kernel
theorem d_L_law_461 : decode code 461 = .ok (.iload 5, 2) := by decide +kernel
theorem d_L_law_463 : decode code 463 = .ok (.if_icmp .eq 5, 3) := by decide +kernel
theorem d_L_law_466 : decode code 466 = .ok (.iconst 0, 1) := by decide +kernel
theorem d_L_law_467 : decode code 467 = .ok (.ireturn, 1) := by decide +kernel
theorem d_L_law_468 : decode code 468 = .ok (.iload 5, 2) := by decide +kernel
theorem d_L_law_470 : decode code 470 = .ok (.ifCond .ne 15, 3) := by decide +kernel
theorem d_L_law_473 : decode code 473 = .ok (.aload_n 3, 1) := by decide +kernel
theorem d_L_law_474 : decode code 474 = .ok (.iconst 0, 1) := by decide +kernel
theorem d_L_law_475 : decode code 475 = .ok (.laload, 1) := by decide +kernel
theorem d_L_law_476 : decode code 476 = .ok (.iload 6, 2) := by decide +kernel
theorem d_L_law_478 : decode code 478 = .ok (.i2l, 1) := by decide +kernel
theorem d_L_law_479 : decode code 479 = .ok (.lcmp, 1) := by decide +kernel
theorem d_L_law_480 : decode code 480 = .ok (.ifCond .eq 5, 3) := by decide +kernel
theorem d_L_law_483 : decode code 483 = .ok (.iconst 0, 1) := by decide +kernel
theorem d_L_law_484 : decode code 484 = .ok (.ireturn, 1) := by decide +kernel
theorem d_L_law_485 : decode code 485 = .ok (.goto 506, 3) := by decide +kernel
theorem d_L_law_488 : decode code 488 = .ok (.aload_n 1, 1) := by decide +kernel
theorem d_L_law_489 : decode code 489 = .ok (.aload_n 0, 1) := by decide +kernel
theorem d_L_law_490 : decode code 490 = .ok (.iload 4, 2) := by decide +kernel
theorem d_L_law_492 : decode code 492 = .ok (.iconst 1, 1) := by decide +kernel
theorem d_L_law_493 : decode code 493 = .ok (.iadd, 1) := by decide +kernel
theorem d_L_law_494 : decode code 494 = .ok (.iaload, 1) := by decide +kernel
theorem d_L_law_495 : decode code 495 = .ok (.aload_n 0, 1) := by decide +kernel
theorem d_L_law_496 : decode code 496 = .ok (.iload 4, 2) := by decide +kernel
theorem d_L_law_498 : decode code 498 = .ok (.iconst 2, 1) := by decide +kernel
theorem d_L_law_499 : decode code 499 = .ok (.iadd, 1) := by decide +kernel
theorem d_L_law_500 : decode code 500 = .ok (.iaload, 1) := by decide +kernel
theorem d_L_law_501 : decode code 501 = .ok (.aload_n 3, 1) := by decide +kernel
theorem d_L_law_502 : decode code 502 = .ok (.invokestatic 76, 3) := by decide +kernel
theorem d_L_law_505 : decode code 505 = .ok (.istore 5, 2) := by decide +kernel
theorem d_L_law_507 : decode code 507 = .ok (.aload_n 2, 1) := by decide +kernel
theorem d_L_law_508 : decode code 508 = .ok (.aload_n 0, 1) := by decide +kernel
theorem d_L_law_509 : decode code 509 = .ok (.iload 4, 2) := by decide +kernel
theorem d_L_law_511 : decode code 511 = .ok (.iconst 1, 1) := by decide +kernel
theorem d_L_law_512 : decode code 512 = .ok (.iadd, 1) := by decide +kernel
theorem d_L_law_513 : decode code 513 = .ok (.iaload, 1) := by decide +kernel
theorem d_L_law_514 : decode code 514 = .ok (.aload_n 0, 1) := by decide +kernel
theorem d_L_law_515 : decode code 515 = .ok (.iload 4, 2) := by decide +kernel
theorem d_L_law_517 : decode code 517 = .ok (.iconst 2, 1) := by decide +kernel
theorem d_L_law_518 : decode code 518 = .ok (.iadd, 1) := by decide +kernel
theorem d_L_law_519 : decode code 519 = .ok (.iaload, 1) := by decide +kernel
theorem d_L_law_520 : decode code 520 = .ok (.invokevirtual 79, 3) := by decide +kernel
theorem d_L_law_523 : decode code 523 = .ok (.istore 6, 2) := by decide +kernel
theorem d_L_law_525 : decode code 525 = .ok (.aload_n 2, 1) := by decide +kernel
theorem d_L_law_526 : decode code 526 = .ok (.invokevirtual 61, 3) := by decide +kernel
theorem d_L_law_529 : decode code 529 = .ok (.iload 5, 2) := by decide +kernel
theorem d_L_law_531 : decode code 531 = .ok (.if_icmp .eq 5, 3) := by decide +kernel
theorem d_L_law_534 : decode code 534 = .ok (.iconst 0, 1) := by decide +kernel
theorem d_L_law_535 : decode code 535 = .ok (.ireturn, 1) := by decide +kernel
theorem d_L_law_536 : decode code 536 = .ok (.iload 5, 2) := by decide +kernel
theorem d_L_law_538 : decode code 538 = .ok (.ifCond .ne 15, 3) := by decide +kernel
theorem d_L_law_541 : decode code 541 = .ok (.aload_n 3, 1) := by decide +kernel
theorem d_L_law_542 : decode code 542 = .ok (.iconst 0, 1) := by decide +kernel
theorem d_L_law_543 : decode code 543 = .ok (.laload, 1) := by decide +kernel
theorem d_L_law_544 : decode code 544 = .ok (.iload 6, 2) := by decide +kernel
theorem d_L_law_546 : decode code 546 = .ok (.i2l, 1) := by decide +kernel
theorem d_L_law_547 : decode code 547 = .ok (.lcmp, 1) := by decide +kernel
theorem d_L_law_548 : decode code 548 = .ok (.ifCond .eq 5, 3) := by decide +kernel
theorem d_L_law_551 : decode code 551 = .ok (.iconst 0, 1) := by decide +kernel
theorem d_L_law_552 : decode code 552 = .ok (.ireturn, 1) := by decide +kernel
theorem d_L_law_553 : decode code 553 = .ok (.goto 438, 3) := by decide +kernel
theorem d_L_law_556 : decode code 556 = .ok (.aload_n 1, 1) := by decide +kernel
theorem d_L_law_557 : decode code 557 = .ok (.aload_n 0, 1) := by decide +kernel
theorem d_L_law_558 : decode code 558 = .ok (.iload 4, 2) := by decide +kernel
theorem d_L_law_560 : decode code 560 = .ok (.iconst 1, 1) := by decide +kernel
theorem d_L_law_561 : decode code 561 = .ok (.iadd, 1) := by decide +kernel
theorem d_L_law_562 : decode code 562 = .ok (.iaload, 1) := by decide +kernel
theorem d_L_law_563 : decode code 563 = .ok (.aload_n 3, 1) := by decide +kernel
theorem d_L_law_564 : decode code 564 = .ok (.invokestatic 80, 3) := by decide +kernel
theorem d_L_law_567 : decode code 567 = .ok (.istore 5, 2) := by decide +kernel
theorem d_L_law_569 : decode code 569 = .ok (.aload_n 2, 1) := by decide +kernel
theorem d_L_law_570 : decode code 570 = .ok (.aload_n 0, 1) := by decide +kernel
theorem d_L_law_571 : decode code 571 = .ok (.iload 4, 2) := by decide +kernel
theorem d_L_law_573 : decode code 573 = .ok (.iconst 1, 1) := by decide +kernel
theorem d_L_law_574 : decode code 574 = .ok (.iadd, 1) := by decide +kernel
theorem d_L_law_575 : decode code 575 = .ok (.iaload, 1) := by decide +kernel
theorem d_L_law_576 : decode code 576 = .ok (.invokevirtual 83, 3) := by decide +kernel
theorem d_L_law_579 : decode code 579 = .ok (.istore 6, 2) := by decide +kernel
theorem d_L_law_581 : decode code 581 = .ok (.aload_n 2, 1) := by decide +kernel
theorem d_L_law_582 : decode code 582 = .ok (.invokevirtual 61, 3) := by decide +kernel
theorem d_L_law_585 : decode code 585 = .ok (.iload 5, 2) := by decide +kernel
theorem d_L_law_587 : decode code 587 = .ok (.if_icmp .eq 5, 3) := by decide +kernel
theorem d_L_law_590 : decode code 590 = .ok (.iconst 0, 1) := by decide +kernel
theorem d_L_law_591 : decode code 591 = .ok (.ireturn, 1) := by decide +kernel
theorem d_L_law_592 : decode code 592 = .ok (.iload 5, 2) := by decide +kernel
theorem d_L_law_594 : decode code 594 = .ok (.ifCond .ne 15, 3) := by decide +kernel
theorem d_L_law_597 : decode code 597 = .ok (.aload_n 3, 1) := by decide +kernel
theorem d_L_law_598 : decode code 598 = .ok (.iconst 0, 1) := by decide +kernel
theorem d_L_law_599 : decode code 599 = .ok (.laload, 1) := by decide +kernel
theorem d_L_law_600 : decode code 600 = .ok (.iload 6, 2) := by decide +kernel
theorem d_L_law_602 : decode code 602 = .ok (.i2l, 1) := by decide +kernel
theorem d_L_law_603 : decode code 603 = .ok (.lcmp, 1) := by decide +kernel
theorem d_L_law_604 : decode code 604 = .ok (.ifCond .eq 5, 3) := by decide +kernel
theorem d_L_law_607 : decode code 607 = .ok (.iconst 0, 1) := by decide +kernel
theorem d_L_law_608 : decode code 608 = .ok (.ireturn, 1) := by decide +kernel
theorem d_L_law_609 : decode code 609 = .ok (.goto 382, 3) := by decide +kernel
theorem d_L_law_612 : decode code 612 = .ok (.aload_n 1, 1) := by decide +kernel
theorem d_L_law_613 : decode code 613 = .ok (.aload_n 0, 1) := by decide +kernel
theorem d_L_law_614 : decode code 614 = .ok (.iload 4, 2) := by decide +kernel
theorem d_L_law_616 : decode code 616 = .ok (.iconst 1, 1) := by decide +kernel
theorem d_L_law_617 : decode code 617 = .ok (.iadd, 1) := by decide +kernel
theorem d_L_law_618 : decode code 618 = .ok (.iaload, 1) := by decide +kernel
theorem d_L_law_619 : decode code 619 = .ok (.aload_n 0, 1) := by decide +kernel
theorem d_L_law_620 : decode code 620 = .ok (.iload 4, 2) := by decide +kernel
theorem d_L_law_622 : decode code 622 = .ok (.iconst 2, 1) := by decide +kernel
theorem d_L_law_623 : decode code 623 = .ok (.iadd, 1) := by decide +kernel
theorem d_L_law_624 : decode code 624 = .ok (.iaload, 1) := by decide +kernel
theorem d_L_law_625 : decode code 625 = .ok (.aload_n 3, 1) := by decide +kernel
theorem d_L_law_626 : decode code 626 = .ok (.invokestatic 84, 3) := by decide +kernel
theorem d_L_law_629 : decode code 629 = .ok (.istore 5, 2) := by decide +kernel
theorem d_L_law_631 : decode code 631 = .ok (.aload_n 2, 1) := by decide +kernel
theorem d_L_law_632 : decode code 632 = .ok (.aload_n 0, 1) := by decide +kernel
theorem d_L_law_633 : decode code 633 = .ok (.iload 4, 2) := by decide +kernel
theorem d_L_law_635 : decode code 635 = .ok (.iconst 1, 1) := by decide +kernel
theorem d_L_law_636 : decode code 636 = .ok (.iadd, 1) := by decide +kernel
theorem d_L_law_637 : decode code 637 = .ok (.iaload, 1) := by decide +kernel
theorem d_L_law_638 : decode code 638 = .ok (.aload_n 0, 1) := by decide +kernel
theorem d_L_law_639 : decode code 639 = .ok (.iload 4, 2) := by decide +kernel
theorem d_L_law_641 : decode code 641 = .ok (.iconst 2, 1) := by decide +kernel
theorem d_L_law_642 : decode code 642 = .ok (.iadd, 1) := by decide +kernel
theorem d_L_law_643 : decode code 643 = .ok (.iaload, 1) := by decide +kernel
theorem d_L_law_644 : decode code 644 = .ok (.invokevirtual 86, 3) := by decide +kernel
theorem d_L_law_647 : decode code 647 = .ok (.istore 6, 2) := by decide +kernel
theorem d_L_law_649 : decode code 649 = .ok (.aload_n 2, 1) := by decide +kernel
theorem d_L_law_650 : decode code 650 = .ok (.invokevirtual 61, 3) := by decide +kernel
theorem d_L_law_653 : decode code 653 = .ok (.iload 5, 2) := by decide +kernel
theorem d_L_law_655 : decode code 655 = .ok (.if_icmp .eq 5, 3) := by decide +kernel
theorem d_L_law_658 : decode code 658 = .ok (.iconst 0, 1) := by decide +kernel
theorem d_L_law_659 : decode code 659 = .ok (.ireturn, 1) := by decide +kernel
theorem d_L_law_660 : decode code 660 = .ok (.iload 5, 2) := by decide +kernel
theorem d_L_law_662 : decode code 662 = .ok (.ifCond .ne 15, 3) := by decide +kernel
theorem d_L_law_665 : decode code 665 = .ok (.aload_n 3, 1) := by decide +kernel
theorem d_L_law_666 : decode code 666 = .ok (.iconst 0, 1) := by decide +kernel
theorem d_L_law_667 : decode code 667 = .ok (.laload, 1) := by decide +kernel
theorem d_L_law_668 : decode code 668 = .ok (.iload 6, 2) := by decide +kernel
theorem d_L_law_670 : decode code 670 = .ok (.i2l, 1) := by decide +kernel
theorem d_L_law_671 : decode code 671 = .ok (.lcmp, 1) := by decide +kernel
theorem d_L_law_672 : decode code 672 = .ok (.ifCond .eq 5, 3) := by decide +kernel
theorem d_L_law_675 : decode code 675 = .ok (.iconst 0, 1) := by decide +kernel
theorem d_L_law_676 : decode code 676 = .ok (.ireturn, 1) := by decide +kernel
theorem d_L_law_677 : decode code 677 = .ok (.goto 314, 3) := by decide +kernel
theorem d_L_law_680 : decode code 680 = .ok (.aload_n 1, 1) := by decide +kernel
theorem d_L_law_681 : decode code 681 = .ok (.aload_n 0, 1) := by decide +kernel
theorem d_L_law_682 : decode code 682 = .ok (.iload 4, 2) := by decide +kernel
theorem d_L_law_684 : decode code 684 = .ok (.iconst 1, 1) := by decide +kernel
theorem d_L_law_685 : decode code 685 = .ok (.iadd, 1) := by decide +kernel
theorem d_L_law_686 : decode code 686 = .ok (.iaload, 1) := by decide +kernel
theorem d_L_law_687 : decode code 687 = .ok (.aload_n 0, 1) := by decide +kernel
theorem d_L_law_688 : decode code 688 = .ok (.iload 4, 2) := by decide +kernel
theorem d_L_law_690 : decode code 690 = .ok (.iconst 2, 1) := by decide +kernel
theorem d_L_law_691 : decode code 691 = .ok (.iadd, 1) := by decide +kernel
theorem d_L_law_692 : decode code 692 = .ok (.iaload, 1) := by decide +kernel
theorem d_L_law_693 : decode code 693 = .ok (.aload_n 0, 1) := by decide +kernel
theorem d_L_law_694 : decode code 694 = .ok (.iload 4, 2) := by decide +kernel
theorem d_L_law_696 : decode code 696 = .ok (.iconst 3, 1) := by decide +kernel
theorem d_L_law_697 : decode code 697 = .ok (.iadd, 1) := by decide +kernel
theorem d_L_law_698 : decode code 698 = .ok (.iaload, 1) := by decide +kernel
theorem d_L_law_699 : decode code 699 = .ok (.aload_n 3, 1) := by decide +kernel
theorem d_L_law_700 : decode code 700 = .ok (.invokestatic 87, 3) := by decide +kernel
theorem d_L_law_703 : decode code 703 = .ok (.istore 5, 2) := by decide +kernel
theorem d_L_law_705 : decode code 705 = .ok (.aload_n 2, 1) := by decide +kernel
theorem d_L_law_706 : decode code 706 = .ok (.aload_n 0, 1) := by decide +kernel
theorem d_L_law_707 : decode code 707 = .ok (.iload 4, 2) := by decide +kernel
theorem d_L_law_709 : decode code 709 = .ok (.iconst 1, 1) := by decide +kernel
theorem d_L_law_710 : decode code 710 = .ok (.iadd, 1) := by decide +kernel
theorem d_L_law_711 : decode code 711 = .ok (.iaload, 1) := by decide +kernel
theorem d_L_law_712 : decode code 712 = .ok (.aload_n 0, 1) := by decide +kernel
theorem d_L_law_713 : decode code 713 = .ok (.iload 4, 2) := by decide +kernel
theorem d_L_law_715 : decode code 715 = .ok (.iconst 2, 1) := by decide +kernel
theorem d_L_law_716 : decode code 716 = .ok (.iadd, 1) := by decide +kernel
theorem d_L_law_717 : decode code 717 = .ok (.iaload, 1) := by decide +kernel
theorem d_L_law_718 : decode code 718 = .ok (.aload_n 0, 1) := by decide +kernel
theorem d_L_law_719 : decode code 719 = .ok (.iload 4, 2) := by decide +kernel
theorem d_L_law_721 : decode code 721 = .ok (.iconst 3, 1) := by decide +kernel
theorem d_L_law_722 : decode code 722 = .ok (.iadd, 1) := by decide +kernel
theorem d_L_law_723 : decode code 723 = .ok (.iaload, 1) := by decide +kernel
theorem d_L_law_724 : decode code 724 = .ok (.invokevirtual 89, 3) := by decide +kernel
theorem d_L_law_727 : decode code 727 = .ok (.lstore 6, 2) := by decide +kernel
theorem d_L_law_729 : decode code 729 = .ok (.aload_n 2, 1) := by decide +kernel
theorem d_L_law_730 : decode code 730 = .ok (.invokevirtual 61, 3) := by decide +kernel
theorem d_L_law_733 : decode code 733 = .ok (.iload 5, 2) := by decide +kernel
theorem d_L_law_735 : decode code 735 = .ok (.if_icmp .eq 5, 3) := by decide +kernel
theorem d_L_law_738 : decode code 738 = .ok (.iconst 0, 1) := by decide +kernel
theorem d_L_law_739 : decode code 739 = .ok (.ireturn, 1) := by decide +kernel
theorem d_L_law_740 : decode code 740 = .ok (.iload 5, 2) := by decide +kernel
theorem d_L_law_742 : decode code 742 = .ok (.ifCond .ne 14, 3) := by decide +kernel
theorem d_L_law_745 : decode code 745 = .ok (.aload_n 3, 1) := by decide +kernel
theorem d_L_law_746 : decode code 746 = .ok (.iconst 0, 1) := by decide +kernel
theorem d_L_law_747 : decode code 747 = .ok (.laload, 1) := by decide +kernel
theorem d_L_law_748 : decode code 748 = .ok (.lload 6, 2) := by decide +kernel
theorem d_L_law_750 : decode code 750 = .ok (.lcmp, 1) := by decide +kernel
theorem d_L_law_751 : decode code 751 = .ok (.ifCond .eq 5, 3) := by decide +kernel
theorem d_L_law_754 : decode code 754 = .ok (.iconst 0, 1) := by decide +kernel
theorem d_L_law_755 : decode code 755 = .ok (.ireturn, 1) := by decide +kernel
theorem d_L_law_756 : decode code 756 = .ok (.goto 235, 3) := by decide +kernel
theorem d_L_law_759 : decode code 759 = .ok (.aload_n 1, 1) := by decide +kernel
theorem d_L_law_760 : decode code 760 = .ok (.aload_n 0, 1) := by decide +kernel
theorem d_L_law_761 : decode code 761 = .ok (.iload 4, 2) := by decide +kernel
theorem d_L_law_763 : decode code 763 = .ok (.iconst 1, 1) := by decide +kernel
theorem d_L_law_764 : decode code 764 = .ok (.iadd, 1) := by decide +kernel
theorem d_L_law_765 : decode code 765 = .ok (.iaload, 1) := by decide +kernel
theorem d_L_law_766 : decode code 766 = .ok (.aload_n 3, 1) := by decide +kernel
theorem d_L_law_767 : decode code 767 = .ok (.invokestatic 90, 3) := by decide +kernel
theorem d_L_law_770 : decode code 770 = .ok (.istore 5, 2) := by decide +kernel
theorem d_L_law_772 : decode code 772 = .ok (.aload_n 2, 1) := by decide +kernel
theorem d_L_law_773 : decode code 773 = .ok (.aload_n 0, 1) := by decide +kernel
theorem d_L_law_774 : decode code 774 = .ok (.iload 4, 2) := by decide +kernel
theorem d_L_law_776 : decode code 776 = .ok (.iconst 1, 1) := by decide +kernel
theorem d_L_law_777 : decode code 777 = .ok (.iadd, 1) := by decide +kernel
theorem d_L_law_778 : decode code 778 = .ok (.iaload, 1) := by decide +kernel
theorem d_L_law_779 : decode code 779 = .ok (.invokevirtual 92, 3) := by decide +kernel
theorem d_L_law_782 : decode code 782 = .ok (.istore 6, 2) := by decide +kernel
theorem d_L_law_784 : decode code 784 = .ok (.aload_n 2, 1) := by decide +kernel
theorem d_L_law_785 : decode code 785 = .ok (.invokevirtual 61, 3) := by decide +kernel
theorem d_L_law_788 : decode code 788 = .ok (.iload 5, 2) := by decide +kernel
theorem d_L_law_790 : decode code 790 = .ok (.if_icmp .eq 5, 3) := by decide +kernel
theorem d_L_law_793 : decode code 793 = .ok (.iconst 0, 1) := by decide +kernel
theorem d_L_law_794 : decode code 794 = .ok (.ireturn, 1) := by decide +kernel
theorem d_L_law_795 : decode code 795 = .ok (.iload 5, 2) := by decide +kernel
theorem d_L_law_797 : decode code 797 = .ok (.ifCond .ne 15, 3) := by decide +kernel
theorem d_L_law_800 : decode code 800 = .ok (.aload_n 3, 1) := by decide +kernel
theorem d_L_law_801 : decode code 801 = .ok (.iconst 0, 1) := by decide +kernel
theorem d_L_law_802 : decode code 802 = .ok (.laload, 1) := by decide +kernel
theorem d_L_law_803 : decode code 803 = .ok (.iload 6, 2) := by decide +kernel
theorem d_L_law_805 : decode code 805 = .ok (.i2l, 1) := by decide +kernel
theorem d_L_law_806 : decode code 806 = .ok (.lcmp, 1) := by decide +kernel
theorem d_L_law_807 : decode code 807 = .ok (.ifCond .eq 5, 3) := by decide +kernel
theorem d_L_law_810 : decode code 810 = .ok (.iconst 0, 1) := by decide +kernel
theorem d_L_law_811 : decode code 811 = .ok (.ireturn, 1) := by decide +kernel
theorem d_L_law_812 : decode code 812 = .ok (.goto 179, 3) := by decide +kernel
theorem d_L_law_815 : decode code 815 = .ok (.aload_n 1, 1) := by decide +kernel
theorem d_L_law_816 : decode code 816 = .ok (.aload_n 0, 1) := by decide +kernel
theorem d_L_law_817 : decode code 817 = .ok (.iload 4, 2) := by decide +kernel
theorem d_L_law_819 : decode code 819 = .ok (.iconst 1, 1) := by decide +kernel
theorem d_L_law_820 : decode code 820 = .ok (.iadd, 1) := by decide +kernel
theorem d_L_law_821 : decode code 821 = .ok (.iaload, 1) := by decide +kernel
theorem d_L_law_822 : decode code 822 = .ok (.i2l, 1) := by decide +kernel
theorem d_L_law_823 : decode code 823 = .ok (.bipush 32, 2) := by decide +kernel
theorem d_L_law_825 : decode code 825 = .ok (.lshl, 1) := by decide +kernel
theorem d_L_law_826 : decode code 826 = .ok (.aload_n 0, 1) := by decide +kernel
theorem d_L_law_827 : decode code 827 = .ok (.iload 4, 2) := by decide +kernel
theorem d_L_law_829 : decode code 829 = .ok (.iconst 2, 1) := by decide +kernel
theorem d_L_law_830 : decode code 830 = .ok (.iadd, 1) := by decide +kernel
theorem d_L_law_831 : decode code 831 = .ok (.iaload, 1) := by decide +kernel
theorem d_L_law_832 : decode code 832 = .ok (.i2l, 1) := by decide +kernel
theorem d_L_law_833 : decode code 833 = .ok (.ldc2_w 53, 3) := by decide +kernel
theorem d_L_law_836 : decode code 836 = .ok (.land, 1) := by decide +kernel
theorem d_L_law_837 : decode code 837 = .ok (.lor, 1) := by decide +kernel
theorem d_L_law_838 : decode code 838 = .ok (.aload_n 0, 1) := by decide +kernel
theorem d_L_law_839 : decode code 839 = .ok (.iload 4, 2) := by decide +kernel
theorem d_L_law_841 : decode code 841 = .ok (.iconst 3, 1) := by decide +kernel
theorem d_L_law_842 : decode code 842 = .ok (.iadd, 1) := by decide +kernel
theorem d_L_law_843 : decode code 843 = .ok (.iaload, 1) := by decide +kernel
theorem d_L_law_844 : decode code 844 = .ok (.invokevirtual 93, 3) := by decide +kernel
theorem d_L_law_847 : decode code 847 = .ok (.aload_n 2, 1) := by decide +kernel
theorem d_L_law_848 : decode code 848 = .ok (.aload_n 0, 1) := by decide +kernel
theorem d_L_law_849 : decode code 849 = .ok (.iload 4, 2) := by decide +kernel
theorem d_L_law_851 : decode code 851 = .ok (.iconst 1, 1) := by decide +kernel
theorem d_L_law_852 : decode code 852 = .ok (.iadd, 1) := by decide +kernel
theorem d_L_law_853 : decode code 853 = .ok (.iaload, 1) := by decide +kernel
theorem d_L_law_854 : decode code 854 = .ok (.i2l, 1) := by decide +kernel
theorem d_L_law_855 : decode code 855 = .ok (.bipush 32, 2) := by decide +kernel
theorem d_L_law_857 : decode code 857 = .ok (.lshl, 1) := by decide +kernel
theorem d_L_law_858 : decode code 858 = .ok (.aload_n 0, 1) := by decide +kernel
theorem d_L_law_859 : decode code 859 = .ok (.iload 4, 2) := by decide +kernel
theorem d_L_law_861 : decode code 861 = .ok (.iconst 2, 1) := by decide +kernel
theorem d_L_law_862 : decode code 862 = .ok (.iadd, 1) := by decide +kernel
theorem d_L_law_863 : decode code 863 = .ok (.iaload, 1) := by decide +kernel
theorem d_L_law_864 : decode code 864 = .ok (.i2l, 1) := by decide +kernel
theorem d_L_law_865 : decode code 865 = .ok (.ldc2_w 53, 3) := by decide +kernel
theorem d_L_law_868 : decode code 868 = .ok (.land, 1) := by decide +kernel
theorem d_L_law_869 : decode code 869 = .ok (.lor, 1) := by decide +kernel
theorem d_L_law_870 : decode code 870 = .ok (.aload_n 0, 1) := by decide +kernel
theorem d_L_law_871 : decode code 871 = .ok (.iload 4, 2) := by decide +kernel
theorem d_L_law_873 : decode code 873 = .ok (.iconst 3, 1) := by decide +kernel
theorem d_L_law_874 : decode code 874 = .ok (.iadd, 1) := by decide +kernel
theorem d_L_law_875 : decode code 875 = .ok (.iaload, 1) := by decide +kernel
theorem d_L_law_876 : decode code 876 = .ok (.invokevirtual 97, 3) := by decide +kernel
theorem d_L_law_879 : decode code 879 = .ok (.if_icmp .eq 112, 3) := by decide +kernel
theorem d_L_law_882 : decode code 882 = .ok (.iconst 0, 1) := by decide +kernel
theorem d_L_law_883 : decode code 883 = .ok (.ireturn, 1) := by decide +kernel
theorem d_L_law_884 : decode code 884 = .ok (.aload_n 1, 1) := by decide +kernel
theorem d_L_law_885 : decode code 885 = .ok (.invokevirtual 98, 3) := by decide +kernel
theorem d_L_law_888 : decode code 888 = .ok (.aload_n 2, 1) := by decide +kernel
theorem d_L_law_889 : decode code 889 = .ok (.invokevirtual 101, 3) := by decide +kernel
theorem d_L_law_892 : decode code 892 = .ok (.if_icmp .eq 99, 3) := by decide +kernel
theorem d_L_law_895 : decode code 895 = .ok (.iconst 0, 1) := by decide +kernel
theorem d_L_law_896 : decode code 896 = .ok (.ireturn, 1) := by decide +kernel
theorem d_L_law_897 : decode code 897 = .ok (.aload_n 1, 1) := by decide +kernel
theorem d_L_law_898 : decode code 898 = .ok (.aload_n 0, 1) := by decide +kernel
theorem d_L_law_899 : decode code 899 = .ok (.iload 4, 2) := by decide +kernel
theorem d_L_law_901 : decode code 901 = .ok (.iconst 1, 1) := by decide +kernel
theorem d_L_law_902 : decode code 902 = .ok (.iadd, 1) := by decide +kernel
theorem d_L_law_903 : decode code 903 = .ok (.iaload, 1) := by decide +kernel
theorem d_L_law_904 : decode code 904 = .ok (.invokevirtual 102, 3) := by decide +kernel
theorem d_L_law_907 : decode code 907 = .ok (.aload_n 2, 1) := by decide +kernel
theorem d_L_law_908 : decode code 908 = .ok (.aload_n 0, 1) := by decide +kernel
theorem d_L_law_909 : decode code 909 = .ok (.iload 4, 2) := by decide +kernel
theorem d_L_law_911 : decode code 911 = .ok (.iconst 1, 1) := by decide +kernel
theorem d_L_law_912 : decode code 912 = .ok (.iadd, 1) := by decide +kernel
theorem d_L_law_913 : decode code 913 = .ok (.iaload, 1) := by decide +kernel
theorem d_L_law_914 : decode code 914 = .ok (.invokevirtual 105, 3) := by decide +kernel
theorem d_L_law_917 : decode code 917 = .ok (.if_icmp .eq 74, 3) := by decide +kernel
theorem d_L_law_920 : decode code 920 = .ok (.iconst 0, 1) := by decide +kernel
theorem d_L_law_921 : decode code 921 = .ok (.ireturn, 1) := by decide +kernel
theorem d_L_law_922 : decode code 922 = .ok (.aload_n 1, 1) := by decide +kernel
theorem d_L_law_923 : decode code 923 = .ok (.aload_n 0, 1) := by decide +kernel
theorem d_L_law_924 : decode code 924 = .ok (.iload 4, 2) := by decide +kernel
theorem d_L_law_926 : decode code 926 = .ok (.iconst 1, 1) := by decide +kernel
theorem d_L_law_927 : decode code 927 = .ok (.iadd, 1) := by decide +kernel
theorem d_L_law_928 : decode code 928 = .ok (.iaload, 1) := by decide +kernel
theorem d_L_law_929 : decode code 929 = .ok (.aload_n 3, 1) := by decide +kernel
theorem d_L_law_930 : decode code 930 = .ok (.invokestatic 106, 3) := by decide +kernel
theorem d_L_law_933 : decode code 933 = .ok (.istore 5, 2) := by decide +kernel
theorem d_L_law_935 : decode code 935 = .ok (.aload_n 2, 1) := by decide +kernel
theorem d_L_law_936 : decode code 936 = .ok (.aload_n 0, 1) := by decide +kernel
theorem d_L_law_937 : decode code 937 = .ok (.iload 4, 2) := by decide +kernel
theorem d_L_law_939 : decode code 939 = .ok (.iconst 1, 1) := by decide +kernel
theorem d_L_law_940 : decode code 940 = .ok (.iadd, 1) := by decide +kernel
theorem d_L_law_941 : decode code 941 = .ok (.iaload, 1) := by decide +kernel
theorem d_L_law_942 : decode code 942 = .ok (.invokevirtual 108, 3) := by decide +kernel
theorem d_L_law_945 : decode code 945 = .ok (.istore 6, 2) := by decide +kernel
theorem d_L_law_947 : decode code 947 = .ok (.aload_n 2, 1) := by decide +kernel
theorem d_L_law_948 : decode code 948 = .ok (.invokevirtual 61, 3) := by decide +kernel
theorem d_L_law_951 : decode code 951 = .ok (.iload 5, 2) := by decide +kernel
theorem d_L_law_953 : decode code 953 = .ok (.if_icmp .eq 5, 3) := by decide +kernel
theorem d_L_law_956 : decode code 956 = .ok (.iconst 0, 1) := by decide +kernel
theorem d_L_law_957 : decode code 957 = .ok (.ireturn, 1) := by decide +kernel
theorem d_L_law_958 : decode code 958 = .ok (.iload 5, 2) := by decide +kernel
theorem d_L_law_960 : decode code 960 = .ok (.ifCond .ne 15, 3) := by decide +kernel
theorem d_L_law_963 : decode code 963 = .ok (.aload_n 3, 1) := by decide +kernel
theorem d_L_law_964 : decode code 964 = .ok (.iconst 0, 1) := by decide +kernel
theorem d_L_law_965 : decode code 965 = .ok (.laload, 1) := by decide +kernel
theorem d_L_law_966 : decode code 966 = .ok (.iload 6, 2) := by decide +kernel
theorem d_L_law_968 : decode code 968 = .ok (.i2l, 1) := by decide +kernel
theorem d_L_law_969 : decode code 969 = .ok (.lcmp, 1) := by decide +kernel
theorem d_L_law_970 : decode code 970 = .ok (.ifCond .eq 5, 3) := by decide +kernel
theorem d_L_law_973 : decode code 973 = .ok (.iconst 0, 1) := by decide +kernel
theorem d_L_law_974 : decode code 974 = .ok (.ireturn, 1) := by decide +kernel
theorem d_L_law_975 : decode code 975 = .ok (.goto 16, 3) := by decide +kernel
theorem d_L_law_978 : decode code 978 = .ok (.aload_n 1, 1) := by decide +kernel
theorem d_L_law_979 : decode code 979 = .ok (.invokevirtual 109, 3) := by decide +kernel
theorem d_L_law_982 : decode code 982 = .ok (.aload_n 2, 1) := by decide +kernel
theorem d_L_law_983 : decode code 983 = .ok (.invokevirtual 112, 3) := by decide +kernel
theorem d_L_law_986 : decode code 986 = .ok (.if_icmp .eq 5, 3) := by decide +kernel
theorem d_L_law_989 : decode code 989 = .ok (.iconst 0, 1) := by decide +kernel
theorem d_L_law_990 : decode code 990 = .ok (.ireturn, 1) := by decide +kernel
theorem d_L_law_991 : decode code 991 = .ok (.iinc 4 6, 3) := by decide +kernel
theorem d_L_law_994 : decode code 994 = .ok (.goto (-971), 3) := by decide +kernel
theorem d_L_law_997 : decode code 997 = .ok (.iconst 1, 1) := by decide +kernel
theorem d_L_law_998 : decode code 998 = .ok (.ireturn, 1) := by decide +kernel
end
section
/-! pasted from kit/laws/BITS.to-paste: bits of longs -/
theorem s_l : ∀ n, n < 32 → ((nI n &&& 31).toBitVec.smod 32).toNat = n := by decide +kernel
theorem s_u : ∀ n, n < 32 → (((nI n).toUInt32 &&& Int32.toUInt32 31).toBitVec % 32).toNat = n := by decide +kernel
theorem wb_tb (n : Nat) : (lN n).toBitVec = BitVec.ofNat 64 n := rfl
theorem wb_inj {a b : Int64} (h : a.toBitVec = b.toBitVec) : a = b := Int64.toBitVec_inj.mp h
theorem wb_tn {n : Nat} (h : n < 2 ^ 64) : (lN n).toBitVec.toNat = n := by rw [wb_tb, BitVec.toNat_ofNat, Nat.mod_eq_of_lt h]
theorem wb_of (x : Int64) : ∃ n, n < 2 ^ 64 ∧ x = lN n := ⟨x.toBitVec.toNat, x.toBitVec.isLt, wb_inj (by rw [wb_tb]; simp)⟩
theorem wb_of32 (x : Int32) : ∃ n, n < 2 ^ 32 ∧ x = nI n := ⟨x.toBitVec.toNat, x.toBitVec.isLt, Int32.toBitVec_inj.mp (by show _ = BitVec.ofNat 32 _; simp)⟩
theorem wb_c : ∀ k, k < 64 → ((nI k).toInt64 &&& 63) = lN k := by decide +kernel
theorem wb_cu : ∀ k, k < 64 → ((nI k).toInt64.toUInt64 &&& Int64.toUInt64 63) = UInt64.ofNat k := by decide +kernel
theorem wb_sm : ∀ k, k < 64 → (BitVec.ofNat 64 k).smod 64 = BitVec.ofNat 64 k := by decide +kernel
theorem wb_pw {a b : Nat} (h : a ≤ b) : 2 ^ b = 2 ^ a * 2 ^ (b - a) := by rw [← Nat.pow_add]; congr 1; omega
theorem wb_lt2 {a b : Nat} (h : a < b) : 2 ^ a < 2 ^ b := Nat.pow_lt_pow_right (by decide) h
theorem wb_mod (n : Nat) : lN n = lN (n % 2 ^ 64) := wb_inj (by rw [wb_tb, wb_tb]; apply BitVec.eq_of_toNat_eq; rw [BitVec.toNat_ofNat, BitVec.toNat_ofNat, Nat.mod_mod])
theorem wb_shr {n k : Nat} (hn : n < 2 ^ 64) (hk : k < 64) : ((lN n).toUInt64 >>> ((nI k).toInt64.toUInt64 &&& Int64.toUInt64 63)).toInt64 = lN (n / 2 ^ k) := by
  rw [wb_cu k hk]
  apply wb_inj
  apply BitVec.eq_of_toNat_eq
  show ((lN n).toUInt64 >>> UInt64.ofNat k).toNat = (BitVec.ofNat 64 _).toNat
  have h1 : (UInt64.ofNat k).toNat = k := by
    show (BitVec.ofNat 64 k).toNat = k
    rw [BitVec.toNat_ofNat, Nat.mod_eq_of_lt (by omega)]
  have h2 : (lN n).toUInt64.toNat = n := wb_tn hn
  rw [UInt64.toNat_shiftRight, h1, h2, Nat.mod_eq_of_lt hk, Nat.shiftRight_eq_div_pow, BitVec.toNat_ofNat, Nat.mod_eq_of_lt (Nat.lt_of_le_of_lt (Nat.div_le_self _ _) hn)]
theorem wb_shl (n : Nat) {k : Nat} (hk : k < 64) : lN n <<< ((nI k).toInt64 &&& 63) = lN (n * 2 ^ k) := by
  rw [wb_c k hk]
  apply wb_inj
  rw [Int64.toBitVec_shiftLeft, wb_tb, wb_tb, wb_tb, wb_sm k hk]
  apply BitVec.eq_of_toNat_eq
  rw [BitVec.shiftLeft_eq', BitVec.toNat_shiftLeft, BitVec.toNat_ofNat, BitVec.toNat_ofNat, BitVec.toNat_ofNat, Nat.mod_eq_of_lt (show k < 2 ^ 64 by omega), Nat.shiftLeft_eq, Nat.mul_mod, Nat.mod_mod, ← Nat.mul_mod]
theorem wb_and {a b : Nat} (ha : a < 2 ^ 64) (hb : b < 2 ^ 64) : lN a &&& lN b = lN (a &&& b) := by
  apply wb_inj
  rw [Int64.toBitVec_and, wb_tb, wb_tb, wb_tb]
  apply BitVec.eq_of_toNat_eq
  rw [BitVec.toNat_and, BitVec.toNat_ofNat, BitVec.toNat_ofNat, BitVec.toNat_ofNat, Nat.mod_eq_of_lt ha, Nat.mod_eq_of_lt hb, Nat.mod_eq_of_lt (Nat.and_lt_two_pow _ hb)]
theorem wb_or {a b : Nat} (ha : a < 2 ^ 64) (hb : b < 2 ^ 64) : lN a ||| lN b = lN (a ||| b) := by
  apply wb_inj
  rw [Int64.toBitVec_or, wb_tb, wb_tb, wb_tb]
  apply BitVec.eq_of_toNat_eq
  rw [BitVec.toNat_or, BitVec.toNat_ofNat, BitVec.toNat_ofNat, BitVec.toNat_ofNat, Nat.mod_eq_of_lt ha, Nat.mod_eq_of_lt hb, Nat.mod_eq_of_lt (Nat.or_lt_two_pow ha hb)]
theorem wb_mask {n k : Nat} (hn : n < 2 ^ 64) (hk : k < 64) : lN n &&& lN (2 ^ k - 1) = lN (n % 2 ^ k) := by
  rw [wb_and hn (by have := wb_lt2 hk; omega), Nat.and_two_pow_sub_one_eq_mod]
theorem wb_a1 {n : Nat} (hn : n < 2 ^ 64) : lN n &&& 1 = lN (n % 2) := wb_mask (k := 1) hn (by decide)
theorem wb_bit {n k : Nat} (hn : n < 2 ^ 64) (hk : k < 64) : ((lN n).toUInt64 >>> ((nI k).toInt64.toUInt64 &&& Int64.toUInt64 63)).toInt64 &&& 1 = lN (n / 2 ^ k % 2) := by
  rw [wb_shr hn hk, wb_a1 (Nat.lt_of_le_of_lt (Nat.div_le_self _ _) hn)]
theorem u_tn {n : Nat} (h : n < 2 ^ 64) : (UInt64.ofNat n).toNat = n := Nat.mod_eq_of_lt h
theorem g_and {a b c : Nat} (ha : a < 2 ^ 64) (hb : b < 2 ^ 64) (hc : a &&& b = c) : lN a &&& lN b = lN c := by
  subst hc
  have h : UInt64.ofNat a &&& UInt64.ofNat b = UInt64.ofNat (a &&& b) := UInt64.toNat_inj.mp (by rw [UInt64.toNat_and, u_tn ha, u_tn hb, u_tn (Nat.and_lt_two_pow a hb)])
  have h2 := congrArg UInt64.toInt64 h
  exact h2
theorem g_and1 {a : Nat} (ha : a < 2 ^ 64) : lN a &&& 1 = lN (a % 2) := g_and (b := 1) ha (by decide) (Nat.and_two_pow_sub_one_eq_mod a 1)
theorem g_mask {a s p : Nat} (hp : 2 ^ s = p) (hs : s < 64) (ha : a < 2 ^ 64) : lN a &&& lN (p - 1) = lN (a % p) := by
  subst hp
  have := Nat.pow_lt_pow_right (show 1 < 2 by decide) hs
  exact g_and ha (by omega) (Nat.and_two_pow_sub_one_eq_mod a s)
theorem g_or {k p a b : Nat} (hp : 2 ^ k = p) (ha : a < p) (h : b * p + a < 2 ^ 64) : lN (b * p) ||| lN a = lN (b * p + a) := by
  subst hp
  have h1 : b * 2 ^ k ||| a = b * 2 ^ k + a := by rw [← Nat.shiftLeft_eq, Nat.shiftLeft_add_eq_or_of_lt ha]
  have h3 : UInt64.ofNat (b * 2 ^ k) ||| UInt64.ofNat a = UInt64.ofNat (b * 2 ^ k + a) := UInt64.toNat_inj.mp (by rw [UInt64.toNat_or, u_tn (by omega), u_tn (by omega), u_tn h, h1])
  have h2 := congrArg UInt64.toInt64 h3
  exact h2
end
section
/-! numbers: Int32 and Int64 told by their integers -/
def iI (z : Int) : Int32 := Int32.ofInt z
def iL (z : Int) : Int64 := Int64.ofInt z
theorem iI_add (a b : Int) : iI a + iI b = iI (a + b) := (Int32.ofInt_add a b).symm
theorem iI_sub (a b : Int) : iI a - iI b = iI (a - b) := (Int32.ofInt_sub a b).symm
theorem iI_mul (a b : Int) : iI a * iI b = iI (a * b) := (Int32.ofInt_mul a b).symm
theorem iI_neg (a : Int) : -iI a = iI (-a) := (Int32.ofInt_neg a).symm
theorem iI_T {a : Int} (h : -2147483648 ≤ a) (h2 : a < 2147483648) : (iI a).toInt = a := Int32.toInt_ofInt_of_le (by omega) (by omega)
theorem iI_of (x : Int32) : x = iI x.toInt := (Int32.ofInt_toInt x).symm
theorem iI_ex (x : Int32) : ∃ z : Int, -2147483648 ≤ z ∧ z < 2147483648 ∧ x = iI z := ⟨x.toInt, by have := x.le_toInt; omega, by have := x.toInt_lt; omega, iI_of x⟩
theorem iI_lt {a b : Int} (h : -2147483648 ≤ a) (h2 : a < 2147483648) (h3 : -2147483648 ≤ b) (h4 : b < 2147483648) : iI a < iI b ↔ a < b := by
  rw [Int32.lt_iff_toInt_lt, iI_T h h2, iI_T h3 h4]
theorem iI_le {a b : Int} (h : -2147483648 ≤ a) (h2 : a < 2147483648) (h3 : -2147483648 ≤ b) (h4 : b < 2147483648) : iI a ≤ iI b ↔ a ≤ b := by
  rw [Int32.le_iff_toInt_le, iI_T h h2, iI_T h3 h4]
theorem iI_eq {a b : Int} (h : -2147483648 ≤ a) (h2 : a < 2147483648) (h3 : -2147483648 ≤ b) (h4 : b < 2147483648) : iI a = iI b ↔ a = b := by
  rw [← Int32.toInt_inj, iI_T h h2, iI_T h3 h4]
theorem iI_in {a : Int} {n : Nat} (h0 : 0 ≤ a) (h : a < n) (h2 : a < 2147483648) : vp_in (iI a) n := by
  rw [vp_in_iff, iI_T (by omega) h2]
  exact ⟨h0, h⟩
theorem iI_cl {a : Int} (h0 : 0 ≤ a) (h2 : a < 2147483648) : (iI a).toNatClampNeg = a.toNat := by
  show (iI a).toInt.toNat = a.toNat
  rw [iI_T (by omega) h2]
theorem iI_cn {n : Nat} (h2 : n < 2147483648) : (iI n).toNatClampNeg = n := by
  rw [iI_cl (by omega) (by omega)]; rfl
theorem iI_nat (n : Nat) : iI n = nI n := Int32.ofInt_eq_ofNat
theorem iI_nn {a : Int} (h0 : 0 ≤ a) (h2 : a < 2147483648) : ¬ iI a < 0 := by
  rw [Int32.lt_iff_toInt_lt, iI_T (by omega) h2, Int32.toInt_zero]; omega
theorem iI_mod (a : Int) (k : Int) : iI (a + k * 4294967296) = iI a := by
  rw [← Int32.toInt_inj]
  show (Int32.ofInt _).toInt = (Int32.ofInt _).toInt
  rw [Int32.toInt_ofInt, Int32.toInt_ofInt]
  show Int.bmod _ 4294967296 = Int.bmod _ 4294967296
  rw [show k * 4294967296 = 4294967296 * k by omega]
  exact Int.add_mul_bmod_self_left ..
theorem iL_add (a b : Int) : iL a + iL b = iL (a + b) := (Int64.ofInt_add a b).symm
theorem iL_sub (a b : Int) : iL a - iL b = iL (a - b) := (Int64.ofInt_sub a b).symm
theorem iL_mul (a b : Int) : iL a * iL b = iL (a * b) := (Int64.ofInt_mul a b).symm
theorem iL_neg (a : Int) : -iL a = iL (-a) := (Int64.ofInt_neg a).symm
theorem iL_T {a : Int} (h : -9223372036854775808 ≤ a) (h2 : a < 9223372036854775808) : (iL a).toInt = a := Int64.toInt_ofInt_of_le (by omega) (by omega)
theorem iL_of (x : Int64) : x = iL x.toInt := (Int64.ofInt_toInt x).symm
theorem iL_ex (x : Int64) : ∃ z : Int, -9223372036854775808 ≤ z ∧ z < 9223372036854775808 ∧ x = iL z := ⟨x.toInt, by have := x.le_toInt; omega, by have := x.toInt_lt; omega, iL_of x⟩
theorem iL_lt {a b : Int} (h : -9223372036854775808 ≤ a) (h2 : a < 9223372036854775808) (h3 : -9223372036854775808 ≤ b) (h4 : b < 9223372036854775808) : iL a < iL b ↔ a < b := by
  rw [Int64.lt_iff_toInt_lt, iL_T h h2, iL_T h3 h4]
theorem iL_le {a b : Int} (h : -9223372036854775808 ≤ a) (h2 : a < 9223372036854775808) (h3 : -9223372036854775808 ≤ b) (h4 : b < 9223372036854775808) : iL a ≤ iL b ↔ a ≤ b := by
  rw [Int64.le_iff_toInt_le, iL_T h h2, iL_T h3 h4]
theorem iL_eq {a b : Int} (h : -9223372036854775808 ≤ a) (h2 : a < 9223372036854775808) (h3 : -9223372036854775808 ≤ b) (h4 : b < 9223372036854775808) : iL a = iL b ↔ a = b := by
  rw [← Int64.toInt_inj, iL_T h h2, iL_T h3 h4]
theorem iL_nat (n : Nat) : iL n = lN n := Int64.ofInt_eq_ofNat
theorem iI_L {a : Int} (h : -2147483648 ≤ a) (h2 : a < 2147483648) : (iI a).toInt64 = iL a := by
  rw [← Int64.ofInt_int32ToInt, iI_T h h2]; rfl
theorem iL_I (a : Int) : (iL a).toInt32 = iI a := Int64.toInt32_ofInt
/-- what lcmp answers, as an integer -/
theorem iL_cmp {a b : Int} (h : -9223372036854775808 ≤ a) (h2 : a < 9223372036854775808) (h3 : -9223372036854775808 ≤ b) (h4 : b < 9223372036854775808) : lg_cmp (iL a) (iL b) = iI (if b < a then 1 else if a = b then 0 else -1) := by
  unfold lg_cmp
  by_cases c1 : b < a
  · rw [if_pos (show iL a > iL b from (iL_lt h3 h4 h h2).mpr c1), if_pos c1]; rfl
  · rw [if_neg (show ¬ iL a > iL b from fun q => c1 ((iL_lt h3 h4 h h2).mp q)), if_neg c1]
    by_cases c2 : a = b
    · rw [if_pos (congrArg iL c2), if_pos c2]; rfl
    · rw [if_neg (fun q => c2 ((iL_eq h h2 h3 h4).mp q)), if_neg c2]; rfl
/-- shifts and masks of longs -/
theorem iL_bv (a : Int) : (iL a).toBitVec = BitVec.ofInt 64 a := rfl
theorem iL_mask {k : Nat} (hk : k < 64) (a : Int) : iL a &&& iL (2 ^ k - 1 : Int) = iL (a % 2 ^ k) := by
  apply Int64.toBitVec_inj.mp
  rw [Int64.toBitVec_and, iL_bv, iL_bv, iL_bv]
  apply BitVec.eq_of_toNat_eq
  have hp : (2 ^ k : Nat) ≤ 2 ^ 63 := Nat.pow_le_pow_right (by decide) (by omega)
  have hp0 : 0 < (2 ^ k : Nat) := Nat.two_pow_pos k
  have e1 : ((2 : Int) ^ k) = ((2 ^ k : Nat) : Int) := by simp
  rw [BitVec.toNat_and, BitVec.toNat_ofInt, BitVec.toNat_ofInt, BitVec.toNat_ofInt, e1]
  generalize hP : 2 ^ k = P at hp hp0
  have e2 : ((P : Int) - 1) % (2 ^ 64 : Nat) = ((P - 1 : Nat) : Int) := by omega
  have e3 : (a % (P : Int)) % (2 ^ 64 : Nat) = a % (P : Int) := by
    have := Int.emod_nonneg a (show (P : Int) ≠ 0 by omega)
    have := Int.emod_lt_of_pos a (show (0 : Int) < P by omega)
    exact Int.emod_eq_of_lt (by omega) (by omega)
  rw [e2, e3, Int.toNat_natCast, ← hP, Nat.and_two_pow_sub_one_eq_mod, hP]
  have e4 : (a % (2 ^ 64 : Nat)) % (P : Int) = a % P := Int.emod_emod_of_dvd a (by
    rw [← hP]
    exact_mod_cast Nat.pow_dvd_pow 2 (by omega : k ≤ 64))
  have n1 := Int.emod_nonneg a (show ((2 ^ 64 : Nat) : Int) ≠ 0 by decide)
  rw [← e4]
  generalize a % ((2 ^ 64 : Nat) : Int) = z at n1
  obtain ⟨n, rfl⟩ := Int.eq_ofNat_of_zero_le n1
  rfl
theorem iL_shr {k : Nat} (hk : k < 64) {a : Int} (h : -9223372036854775808 ≤ a) (h2 : a < 9223372036854775808) : iL a >>> ((iI k).toInt64 &&& 63) = iL (a / 2 ^ k) := by
  rw [iI_nat, wb_c k hk]
  apply Int64.toInt_inj.mp
  have e : (iL a >>> lN k).toInt = (iL a).toInt >>> k := by
    have e0 : ((lN k).toBitVec.smod 64).toNat = k := by
      rw [wb_tb, wb_sm k hk, BitVec.toNat_ofNat, Nat.mod_eq_of_lt (by omega)]
    have := BitVec.toInt_sshiftRight (x := (iL a).toBitVec) (n := ((lN k).toBitVec.smod 64).toNat)
    rw [e0] at this
    show (BitVec.sshiftRight (iL a).toBitVec ((lN k).toBitVec.smod 64).toNat).toInt = _
    rw [e0]
    exact this
  have hp0 : (0 : Int) < 2 ^ k := Int.pow_pos (by decide)
  have b1 : -9223372036854775808 ≤ a / 2 ^ k := by
    apply (Int.le_ediv_iff_mul_le hp0).mpr
    have : (1 : Int) ≤ 2 ^ k := hp0
    have := Int.mul_le_mul_of_nonpos_left (a := -9223372036854775808) (b := 2 ^ k) (c := 1) (by omega) this
    omega
  have b2 : a / 2 ^ k < 9223372036854775808 := by
    apply Int.ediv_lt_of_lt_mul hp0
    have : (1 : Int) ≤ 2 ^ k := hp0
    have := Int.mul_le_mul_of_nonneg_left (a := 1) (b := 2 ^ k) (c := 9223372036854775808) this (by omega)
    omega
  rw [e, Int.shiftRight_eq_div_pow, iL_T h h2, iL_T b1 b2]
  simp
theorem iL_shl {k : Nat} (hk : k < 64) {a : Nat} : iL a <<< ((iI k).toInt64 &&& 63) = iL ((a * 2 ^ k : Nat) : Int) := by
  rw [iI_nat, iL_nat, iL_nat, wb_shl a hk]
theorem iL_ushr {k : Nat} (hk : k < 64) {a : Nat} (ha : a < 18446744073709551616) : ((iL a).toUInt64 >>> ((iI k).toInt64.toUInt64 &&& Int64.toUInt64 63)).toInt64 = iL ((a / 2 ^ k : Nat) : Int) := by
  rw [iI_nat, iL_nat, iL_nat, wb_shr ha hk]
theorem iL_or {k a b : Nat} (ha : a < 2 ^ k) (h : b * 2 ^ k + a < 18446744073709551616) : iL ((b * 2 ^ k : Nat) : Int) ||| iL a = iL ((b * 2 ^ k + a : Nat) : Int) := by
  rw [iL_nat, iL_nat, iL_nat, g_or rfl ha h]
theorem iL_uns (x : Int64) : ∃ n : Nat, n < 18446744073709551616 ∧ x = iL n := by
  obtain ⟨n, h, e⟩ := wb_of x
  exact ⟨n, h, by rw [e, iL_nat]⟩
/-- the unsigned number of a long's absolute value -/
theorem iL_uabs {z : Int} (h : -9223372036854775808 ≤ z) (h2 : z < 9223372036854775808) : (if 0 < iL z then iL z else -iL z) = iL (z.natAbs : Int) := by
  have h0 : (0 : Int64) = iL 0 := rfl
  by_cases c : 0 < z
  · rw [if_pos (by rw [h0]; exact (iL_lt (by omega) (by omega) h h2).mpr c)]
    congr 1; omega
  · rw [if_neg (by rw [h0]; exact fun q => c ((iL_lt (by omega) (by omega) h h2).mp q)), iL_neg]
    congr 1; omega
/-- ints -/
theorem iI_shr {k : Nat} (hk : k < 32) {a : Nat} (h2 : a < 2147483648) : iI a >>> (iI k &&& 31) = iI ((a / 2 ^ k : Nat) : Int) := by
  rw [iI_nat, iI_nat, iI_nat]
  exact pk_shrN h2 _ k (s_l k hk)
theorem iI_ushr {k : Nat} (hk : k < 32) {a : Nat} (h2 : a < 4294967296) : ((iI a).toUInt32 >>> ((iI k).toUInt32 &&& Int32.toUInt32 31)).toInt32 = iI ((a / 2 ^ k : Nat) : Int) := by
  rw [iI_nat, iI_nat, iI_nat]
  exact pk_ushrN h2 _ k (s_u k hk)
theorem iI_mask {k a : Nat} (hk : k < 32) (ha : a < 4294967296) : iI a &&& iI ((2 ^ k - 1 : Nat) : Int) = iI ((a % 2 ^ k : Nat) : Int) := by
  rw [iI_nat, iI_nat, iI_nat]
  refine pk_andN ha k ?_
  have := Nat.pow_lt_pow_right (show 1 < 2 by decide) hk
  exact pk_tn (by omega)
end
section
/-! the pool: the system's cells by their numbers: cell i lies at address ad i and holds F i -/
def pool (ad : Nat → Nat) (M : Nat) (F : Nat → va_E) : va_W := (List.range M).map (fun i => (ad i, F i))
theorem pool_at {ad : Nat → Nat} {M : Nat} {F : Nat → va_E} {i : Nat} (h : i < M) : (pool ad M F)[i]? = some (ad i, F i) := by
  simp [pool, h]
theorem pool_ate {ad : Nat → Nat} {M : Nat} {F : Nat → va_E} {i : Nat} {x : va_E} (h : i < M) (e : F i = x) : (pool ad M F)[i]? = some (ad i, x) := by
  rw [← e]; exact pool_at h
theorem pool_some {ad : Nat → Nat} {M : Nat} {F : Nat → va_E} {i : Nat} {q : Nat × va_E} (h : (pool ad M F)[i]? = some q) : i < M ∧ q = (ad i, F i) := by
  by_cases c : i < M
  · rw [pool_at c] at h
    exact ⟨c, (Option.some.inj h).symm⟩
  · rw [List.getElem?_eq_none (by simp [pool]; omega)] at h
    cases h
theorem pool_len (ad : Nat → Nat) (M : Nat) (F : Nat → va_E) : (pool ad M F).length = M := by simp [pool]
theorem pool_set {ad : Nat → Nat} {M : Nat} {F : Nat → va_E} {i : Nat} {x : va_E} : (pool ad M F).set i (ad i, x) = pool ad M (va_up F i x) := by
  apply List.ext_getElem?
  intro k
  by_cases hk : k < M
  · rw [pool_at hk, List.getElem?_set, pool_len]
    by_cases c : i = k
    · subst c
      rw [if_pos rfl, if_pos hk, va_up_self]
    · rw [if_neg c, pool_at hk, va_up_ne F x (fun h => c h.symm)]
  · rw [List.getElem?_eq_none (by simp [pool]; omega), List.getElem?_eq_none (by simp [pool]; omega)]
theorem pool_push {ad : Nat → Nat} {M : Nat} {F : Nat → va_E} {q : Nat} {x : va_E} : pool ad M F ++ [(q, x)] = pool (va_up ad M q) (M + 1) (va_up F M x) := by
  apply List.ext_getElem?
  intro k
  rcases Nat.lt_trichotomy k M with h | h | h
  · rw [List.getElem?_append_left (by rw [pool_len]; exact h), pool_at h, pool_at (by omega), va_up_ne ad q (by omega), va_up_ne F x (by omega)]
  · subst h
    rw [List.getElem?_append_right (by rw [pool_len]; exact Nat.le_refl _), pool_len, pool_at (by omega), va_up_self, va_up_self]
    simp
  · rw [List.getElem?_eq_none (by simp [pool]; omega), List.getElem?_eq_none (by simp [pool]; omega)]
/-- what a method may write: the pool's cells, and what is new -/
def pA (ad : Nat → Nat) (M sz : Nat) : Nat → Prop := fun q => (∃ i, i < M ∧ q = ad i) ∨ sz ≤ q
theorem pool_D {A : Nat → Prop} {ad : Nat → Nat} {M : Nat} {F : Nat → va_E} : va_D A (pool ad M F) ↔ (∀ i j : Nat, i < M → j < M → ad i = ad j → i = j) ∧ ∀ i : Nat, i < M → A (ad i) := by
  constructor
  · intro h
    exact ⟨fun i j hi hj e => h.1 i j _ _ (pool_at hi) (pool_at hj) e, fun i hi => h.2 i _ (pool_at hi)⟩
  · intro h
    refine ⟨fun i j p q hp hq e => ?_, fun k q hq => ?_⟩
    · obtain ⟨hi, rfl⟩ := pool_some hp
      obtain ⟨hj, rfl⟩ := pool_some hq
      exact h.1 i j hi hj e
    · obtain ⟨hk, rfl⟩ := pool_some hq
      exact h.2 k hk
/-- the world inside a walk -/
def pw (D : va_G) (cl : List vw_C) (tys : List (ClassId × FieldType)) (ad : Nat → Nat) (M : Nat) (F : Nat → va_E) (A : Nat → Prop) (s : State) (H : Heap) (locs : List Loc) : Prop :=
  va_K D cl tys s ∧ va_P D cl (pool ad M F) H ∧ va_D A (pool ad M F) ∧ va_S A s.heap H locs ∧ ∀ q : Nat, s.heap.size ≤ q → A q
/-- the world at a contract's start and end -/
abbrev pPre (D : va_G) (cl : List vw_C) (tys : List (ClassId × FieldType)) (ad : Nat → Nat) (M : Nat) (F : Nat → va_E) (sz : Nat) : State → Prop := fun U => U.heap.size = sz ∧ va_P D cl (pool ad M F) U.heap ∧ va_K D cl tys U ∧ va_D (fun _ => True) (pool ad M F)
abbrev pAt (D : va_G) (cl : List vw_C) (tys : List (ClassId × FieldType)) (ad : Nat → Nat) (M : Nat) (A : Nat → Prop) (F : Nat → va_E) (t : State) : Prop := va_P D cl (pool ad M F) t.heap ∧ va_K D cl tys t ∧ va_D A (pool ad M F)
abbrev pAtR (D : va_G) (cl : List vw_C) (tys : List (ClassId × FieldType)) (ad : Nat → Nat) (M : Nat) (A : Nat → Prop) (u : Nat × (Nat → va_E)) (a : Nat) (t : State) : Prop := a = ad u.1 ∧ pAt D cl tys ad M A u.2 t
section PW
variable {p : Program} {l : Launch} {e : Env} {R : Room} {s : State} {m : MethodId} {args : Array Value} {below : List Frame} {meth : Method} {c : Code} {H : Heap} {locs : List Loc} {cells slots mc ms : Nat} {Q : State → Prop}
variable {D : va_G} {cl : List vw_C} {tys : List (ClassId × FieldType)} {ad : Nat → Nat} {M : Nat} {F : Nat → va_E} {A : Nat → Prop} {pc : Nat} {ls : Array Slot} {rest st0 : List Value} {cc : ByteArray} {a : Array Value}
theorem pw_start (hP : va_P D cl (pool ad M F) s.heap) (hK : va_K D cl tys s) (hD : va_D (fun _ => True) (pool ad M F)) : pw D cl tys ad M F (pA ad M s.heap.size) s s.heap [] :=
  ⟨hK, hP, pool_D.mpr ⟨(pool_D.mp hD).1, fun i hi => Or.inl ⟨i, hi, rfl⟩⟩, va_S.rf, fun _ h => Or.inr h⟩
theorem pw.ne (hw : pw D cl tys ad M F A s H locs) {i j : Nat} (hi : i < M) (hj : j < M) (h : i ≠ j) : ad i ≠ ad j := fun q => h ((pool_D.mp hw.2.2.1).1 i j hi hj q)
theorem pw.free (hw : pw D cl tys ad M F A s H locs) : ∀ q : Nat, pA ad M H.size q → A q := by
  intro q h
  rcases h with ⟨i, hi, rfl⟩ | h
  · exact (pool_D.mp hw.2.2.1).2 i hi
  · exact hw.2.2.2.2 q (Nat.le_trans hw.2.2.2.1.1 h)
theorem pw.fin {st t : State} {B : Nat → Prop} (hw : pw D cl tys ad M F B st H locs) (ht : t.heap = H) : va_F B st t := hw.2.2.2.1.F ht
theorem pw.at {t : State} (hw : pw D cl tys ad M F A s H locs) (ht : t.heap = H) (hW : s.WarmedH t.vm) : pAt D cl tys ad M A F t :=
  ⟨by rw [ht]; exact hw.2.1, va_K.moved hW.alike hw.1, hw.2.2.1⟩
/-- calls -/
theorem pw_calli {post : Int32 → (Nat → va_E) → Prop} (hw : pw D cl tys ad M F A s H locs)
    (hr : va_Run p l e R s m args below meth c H locs cells slots mc ms (F0 m pc ls st0) rest (va_Qi post (pAt D cl tys ad M (pA ad M H.size)) (pA ad M H.size) a) (pA ad M H.size))
    (kk : ∀ (r : Int32) (F1 : Nat → va_E) (H1 : Heap) (locs1 : List Loc), post r F1 → pw D cl tys ad M F1 A s H1 locs1 → W p l e R s m args below meth c H1 locs1 (cells + mc) (slots + ms) Q (F0 m (pc + 3) ls (.int r :: rest))) :
    W p l e R s m args below meth c H locs cells slots Q (F0 m pc ls st0) := by
  have hf := hw.free
  refine va_calli hr hw.2.2.2.1 (fun q _ h => hf q h) hf (fun r u t H1 locs1 ht hvm hp hB _ _ hS1 => kk r u H1 locs1 hp ⟨hw.1, ?_, ?_, hS1, hw.2.2.2.2⟩)
  · rw [← ht]; exact hB.1
  · exact pool_D.mpr (pool_D.mp hw.2.2.1)
theorem pw_calll {post : Int64 → (Nat → va_E) → Prop} (hw : pw D cl tys ad M F A s H locs)
    (hr : va_Run p l e R s m args below meth c H locs cells slots mc ms (F0 m pc ls st0) rest (va_Ql post (pAt D cl tys ad M (pA ad M H.size)) (pA ad M H.size) a) (pA ad M H.size))
    (kk : ∀ (r : Int64) (F1 : Nat → va_E) (H1 : Heap) (locs1 : List Loc), post r F1 → pw D cl tys ad M F1 A s H1 locs1 → W p l e R s m args below meth c H1 locs1 (cells + mc) (slots + ms) Q (F0 m (pc + 3) ls (.long r :: rest))) :
    W p l e R s m args below meth c H locs cells slots Q (F0 m pc ls st0) := by
  have hf := hw.free
  refine va_calll hr hw.2.2.2.1 (fun q _ h => hf q h) hf (fun r u t H1 locs1 ht hvm hp hB _ _ hS1 => kk r u H1 locs1 hp ⟨hw.1, ?_, ?_, hS1, hw.2.2.2.2⟩)
  · rw [← ht]; exact hB.1
  · exact pool_D.mpr (pool_D.mp hw.2.2.1)
theorem pw_callv {post : (Nat → va_E) → Prop} (hw : pw D cl tys ad M F A s H locs)
    (hr : va_Run p l e R s m args below meth c H locs cells slots mc ms (F0 m pc ls st0) rest (va_Qv post (pAt D cl tys ad M (pA ad M H.size)) (pA ad M H.size) a) (pA ad M H.size))
    (kk : ∀ (F1 : Nat → va_E) (H1 : Heap) (locs1 : List Loc), post F1 → pw D cl tys ad M F1 A s H1 locs1 → W p l e R s m args below meth c H1 locs1 (cells + mc) (slots + ms) Q (F0 m (pc + 3) ls rest)) :
    W p l e R s m args below meth c H locs cells slots Q (F0 m pc ls st0) := by
  have hf := hw.free
  refine va_callv hr hw.2.2.2.1 (fun q _ h => hf q h) hf (fun u t H1 locs1 ht hvm hp hB _ _ hS1 => kk u H1 locs1 hp ⟨hw.1, ?_, ?_, hS1, hw.2.2.2.2⟩)
  · rw [← ht]; exact hB.1
  · exact pool_D.mpr (pool_D.mp hw.2.2.1)
theorem pw_callr {post : Nat × (Nat → va_E) → Prop} (hw : pw D cl tys ad M F A s H locs)
    (hr : va_Run p l e R s m args below meth c H locs cells slots mc ms (F0 m pc ls st0) rest (va_Qr post (pAtR D cl tys ad M (pA ad M H.size)) (pA ad M H.size) a) (pA ad M H.size))
    (kk : ∀ (i : Nat) (F1 : Nat → va_E) (H1 : Heap) (locs1 : List Loc), post (i, F1) → pw D cl tys ad M F1 A s H1 locs1 → W p l e R s m args below meth c H1 locs1 (cells + mc) (slots + ms) Q (F0 m (pc + 3) ls (.ref (ad i) :: rest))) :
    W p l e R s m args below meth c H locs cells slots Q (F0 m pc ls st0) := by
  have hf := hw.free
  refine va_callr hr hw.2.2.2.1 (fun q _ h => hf q h) hf (fun u ra t H1 locs1 ht hvm hp hB _ _ hS1 => ?_)
  obtain ⟨i, F1⟩ := u
  obtain ⟨rfl, hB⟩ := hB
  refine kk i F1 H1 locs1 hp ⟨hw.1, ?_, ?_, hS1, hw.2.2.2.2⟩
  · rw [← ht]; exact hB.1
  · exact pool_D.mpr (pool_D.mp hw.2.2.1)
theorem pw_blind (As : List Value) (sz : Nat) : FrameBlind (va_Pc As (pPre D cl tys ad M F sz)) := fun a U g mk q => by
  obtain ⟨q0, q1, qP, qK, qD⟩ := q
  exact ⟨q0, q1, qP, va_K.moved (u := U) (U := U.calling g mk a) (Vm.Alike.refl U.vm) qK, qD⟩
theorem pw_pre (hw : pw D cl tys ad M F A s H locs) (As : List Value) (U : State) (hU : U.heap = H) (hW : s.WarmedH U.vm) : va_Pc As (pPre D cl tys ad M F H.size) As.toArray U :=
  ⟨rfl, by rw [hU], by rw [hU]; exact hw.2.1, va_K.moved hW.alike hw.1, pool_D.mpr ⟨(pool_D.mp hw.2.2.1).1, fun _ _ => trivial⟩⟩
theorem pw_preV (hw : pw D cl tys ad M F A s H locs) {i ci : Nat} {fs : List Value} {r : vw_C} {As : List Value} (hi : i < M) (hF : F i = .inr (ci, fs)) (hc : cl[ci]? = some r) : PreV s H r.1 (ad i) (va_Pc (.ref (ad i) :: As) (pPre D cl tys ad M F H.size)) As :=
  ⟨pw_blind _ _, va_recv hw.1 hw.2.1 hc (pool_ate hi hF), fun U hU hW => pw_pre hw _ U hU hW⟩
theorem pw_preS (hw : pw D cl tys ad M F A s H locs) {As : List Value} : PreS s H (va_Pc As (pPre D cl tys ad M F H.size)) As :=
  ⟨pw_blind _ _, fun U hU hW => pw_pre hw _ U hU hW⟩
/-- ends -/
theorem pw_iret {post : Int32 → (Nat → va_E) → Prop} {v : Int32} (hexec : p.tables.exec = Jvm.exec) (hb : c.code = cc) (hr : meth.sig.returnType = some .int) (hlocks : meth.locks = false) (hw : pw D cl tys ad M F (pA ad M s.heap.size) s H locs) (hp : post v F) (hdg : decode cc pc = .ok (.ireturn, 1)) :
    W p l e R s m args below meth c H locs cells slots (MQ below (va_Qi post (pAt D cl tys ad M (pA ad M s.heap.size)) (pA ad M s.heap.size)) args s cells slots (pA ad M s.heap.size)) (F0 m pc ls [.int v]) :=
  W.iret (v := v) hexec hb hr (fun t ht hW => ⟨⟨v, F, rfl, hp, hw.at ht hW⟩, hw.fin ht⟩) hw.2.2.2.1.2.2 hdg hlocks
theorem pw_zret {post : Int32 → (Nat → va_E) → Prop} {v : Int32} (hexec : p.tables.exec = Jvm.exec) (hb : c.code = cc) {ty : FieldType} (hr : meth.sig.returnType = some ty) (hn : narrow ty (.int v) = .int v) (hlocks : meth.locks = false) (hw : pw D cl tys ad M F (pA ad M s.heap.size) s H locs) (hp : post v F) (hdg : decode cc pc = .ok (.ireturn, 1)) :
    W p l e R s m args below meth c H locs cells slots (MQ below (va_Qi post (pAt D cl tys ad M (pA ad M s.heap.size)) (pA ad M s.heap.size)) args s cells slots (pA ad M s.heap.size)) (F0 m pc ls [.int v]) :=
  W.zret (v := v) hexec hb hr hn (fun t ht hW => ⟨⟨v, F, rfl, hp, hw.at ht hW⟩, hw.fin ht⟩) hw.2.2.2.1.2.2 hdg hlocks
theorem pw_lret {post : Int64 → (Nat → va_E) → Prop} {v : Int64} (hexec : p.tables.exec = Jvm.exec) (hb : c.code = cc) (hr : meth.sig.returnType = some .long) (hlocks : meth.locks = false) (hw : pw D cl tys ad M F (pA ad M s.heap.size) s H locs) (hp : post v F) (hdg : decode cc pc = .ok (.lreturn, 1)) :
    W p l e R s m args below meth c H locs cells slots (MQ below (va_Ql post (pAt D cl tys ad M (pA ad M s.heap.size)) (pA ad M s.heap.size)) args s cells slots (pA ad M s.heap.size)) (F0 m pc ls [.long v]) :=
  W.lret (v := v) hexec hb hr (fun t ht hW => ⟨⟨v, F, rfl, hp, hw.at ht hW⟩, hw.fin ht⟩) hw.2.2.2.1.2.2 hdg hlocks
theorem pw_vret {post : (Nat → va_E) → Prop} (hexec : p.tables.exec = Jvm.exec) (hb : c.code = cc) (hr : meth.sig.returnType = none) (hlocks : meth.locks = false) (hw : pw D cl tys ad M F (pA ad M s.heap.size) s H locs) (hp : post F) (hdg : decode cc pc = .ok (.return_, 1)) :
    W p l e R s m args below meth c H locs cells slots (MQ below (va_Qv post (pAt D cl tys ad M (pA ad M s.heap.size)) (pA ad M s.heap.size)) args s cells slots (pA ad M s.heap.size)) (F0 m pc ls []) :=
  W.vret hexec hb hr (fun t ht hW => ⟨⟨F, rfl, hp, hw.at ht hW⟩, hw.fin ht⟩) hw.2.2.2.1.2.2 hdg hlocks
theorem pw_aret {post : Nat × (Nat → va_E) → Prop} {i : Nat} {rt : FieldType} (hexec : p.tables.exec = Jvm.exec) (hb : c.code = cc) (hr : meth.sig.returnType = some rt) (hrt : (∃ n, rt = .object n) ∨ ∃ t, rt = .array t) (hlocks : meth.locks = false) (hw : pw D cl tys ad M F (pA ad M s.heap.size) s H locs) (hp : post (i, F)) (hdg : decode cc pc = .ok (.areturn, 1)) :
    W p l e R s m args below meth c H locs cells slots (MQ below (va_Qr post (pAtR D cl tys ad M (pA ad M s.heap.size)) (pA ad M s.heap.size)) args s cells slots (pA ad M s.heap.size)) (F0 m pc ls [.ref (ad i)]) :=
  W.aret (v := .ref (ad i)) hexec hb hr hrt (Or.inr ⟨_, rfl⟩) (fun t ht hW => ⟨⟨(i, F), ad i, rfl, hp, rfl, hw.at ht hW⟩, hw.fin ht⟩) hw.2.2.2.1.2.2 hdg hlocks
/-- fields and arrays -/
theorem pw_get (hexec : p.tables.exec = Jvm.exec) (hb : c.code = cc) {own ref C : String} {T : u_T} {N ci index i : Nat} {Ts : List Cond} (hts : ∀ w ∈ Ts, w.before args s = true) (hin : ∀ w ∈ u_ws C T N, w ∈ Ts) (hown : s.vm.findClass own = some m.cls) (hw : pw D cl tys ad M F A s H locs) {fs : List Value} (hi : i < M) (hF : F i = .inr (ci, fs)) (hc : cl[ci]? = some (C, T, N)) (k : Nat) (hk : k < N) (hlink : (Cond.fieldLink own index ref (T k).2.1 (T k).2.2.1).before args s = true) (hsame : ∀ x, s.fieldFound? (T k).1 (T k).2.1 (T k).2.2.1 = some x → s.fieldFound? ref (T k).2.1 (T k).2.2.1 = some x) {v : Value} (hv : fs[k]? = some v) (hdg : decode cc pc = .ok (.getfield index, 3))
    (kk : W p l e R s m args below meth c H locs cells slots Q (F0 m (pc + 3) ls (v :: rest))) : W p l e R s m args below meth c H locs cells slots Q (F0 m pc ls (.ref (ad i) :: rest)) :=
  va_get (D := D) (ci := ci) (v := v) hexec hb hts hin hown hw.1 hw.2.1 i (pool_ate hi hF) hc k hk hlink hsame hv hdg kk
theorem pw_put (hexec : p.tables.exec = Jvm.exec) (hb : c.code = cc) {own ref C : String} {T : u_T} {N ci index i : Nat} {Ts : List Cond} (hts : ∀ w ∈ Ts, w.before args s = true) (hin : ∀ w ∈ u_ws C T N, w ∈ Ts) (ty0 : Nat → FieldType) (hty : ∀ k, k < N → parseFieldDescriptor (T k).2.2.1 = some (ty0 k)) (hnm : ∀ a, a < N → ∀ b, b < N → a ≠ b → (T a).2.1 ≠ (T b).2.1) (hown : s.vm.findClass own = some m.cls) (hw : pw D cl tys ad M F A s H locs) {fs fs' : List Value} (hi : i < M) (hF : F i = .inr (ci, fs)) (hc : cl[ci]? = some (C, T, N)) (k : Nat) (hk : k < N) (hlink : (Cond.fieldLink own index ref (T k).2.1 (T k).2.2.1).before args s = true) (hsame : ∀ x, s.fieldFound? (T k).1 (T k).2.1 (T k).2.2.1 = some x → s.fieldFound? ref (T k).2.1 (T k).2.2.1 = some x) (hfin : (T k).2.2.2 = false) {ty : FieldType} {v : Value} (hd : parseFieldDescriptor (T k).2.2.1 = some ty) (hn : narrow ty v = v) (hfit : fits ty v = true) (hl : k < fs.length) (hfs : fs.set k v = fs') (hdg : decode cc pc = .ok (.putfield index, 3))
    (kk : ∀ (F1 : Nat → va_E) (H1 : Heap) (locs1 : List Loc), F1 = va_up F i (.inr (ci, fs')) → pw D cl tys ad M F1 A s H1 locs1 → W p l e R s m args below meth c H1 locs1 cells slots Q (F0 m (pc + 3) ls rest)) : W p l e R s m args below meth c H locs cells slots Q (F0 m pc ls (v :: .ref (ad i) :: rest)) := by
  refine va_put (D := D) (ci := ci) (v := v) (ty := ty) hexec hb hts hin ty0 hty hnm hown hw.1 hw.2.1 hw.2.2.1 hw.2.2.2.1 i (pool_ate hi hF) hc k hk hlink hsame hfin hd hn hfit hl hdg (fun H1 locs1 hP hD hS => kk _ H1 locs1 rfl ⟨hw.1, ?_, ?_, hS, hw.2.2.2.2⟩)
  · rw [pool_set, hfs] at hP; exact hP
  · rw [pool_set, hfs] at hD; exact hD
theorem pw_putF (hexec : p.tables.exec = Jvm.exec) (hb : c.code = cc) {own ref C : String} {T : u_T} {N ci index i : Nat} {Ts : List Cond} (hts : ∀ w ∈ Ts, w.before args s = true) (hin : ∀ w ∈ u_ws C T N, w ∈ Ts) (ty0 : Nat → FieldType) (hty : ∀ k, k < N → parseFieldDescriptor (T k).2.2.1 = some (ty0 k)) (hnm : ∀ a, a < N → ∀ b, b < N → a ≠ b → (T a).2.1 ≠ (T b).2.1) (hown : s.vm.findClass own = some m.cls) (hw : pw D cl tys ad M F A s H locs) {fs fs' : List Value} (hi : i < M) (hF : F i = .inr (ci, fs)) (hc : cl[ci]? = some (C, T, N)) (k : Nat) (hk : k < N) (hlink : (Cond.fieldLink own index ref (T k).2.1 (T k).2.2.1).before args s = true) (hsame : ∀ x, s.fieldFound? (T k).1 (T k).2.1 (T k).2.2.1 = some x → s.fieldFound? ref (T k).2.1 (T k).2.2.1 = some x) (hfin : (T k).2.2.2 = true) (hin2 : meth.name = "<init>") (hdecl : (T k).1 = own) {ty : FieldType} {v : Value} (hd : parseFieldDescriptor (T k).2.2.1 = some ty) (hn : narrow ty v = v) (hfit : fits ty v = true) (hl : k < fs.length) (hfs : fs.set k v = fs') (hdg : decode cc pc = .ok (.putfield index, 3))
    (kk : ∀ (F1 : Nat → va_E) (H1 : Heap) (locs1 : List Loc), F1 = va_up F i (.inr (ci, fs')) → pw D cl tys ad M F1 A s H1 locs1 → W p l e R s m args below meth c H1 locs1 cells slots Q (F0 m (pc + 3) ls rest)) : W p l e R s m args below meth c H locs cells slots Q (F0 m pc ls (v :: .ref (ad i) :: rest)) := by
  refine va_putF (D := D) (ci := ci) (v := v) (ty := ty) hexec hb hts hin ty0 hty hnm hown hw.1 hw.2.1 hw.2.2.1 hw.2.2.2.1 i (pool_ate hi hF) hc k hk hlink hsame hfin hin2 hdecl hd hn hfit hl hdg (fun H1 locs1 hP hD hS => kk _ H1 locs1 rfl ⟨hw.1, ?_, ?_, hS, hw.2.2.2.2⟩)
  · rw [pool_set, hfs] at hP; exact hP
  · rw [pool_set, hfs] at hD; exact hD
theorem pw_iald (hexec : p.tables.exec = Jvm.exec) (hb : c.code = cc) (hw : pw D cl tys ad M F A s H locs) (t0 : Nat) {j : Nat} {cA : ClassId} {n : Nat} {f : Nat → Int32} (hj : j < M) (hF : F j = .inl (cA, n, .inl f)) (ht : tys[t0]? = some (cA, .int)) {i : Int32} {k : Nat} (hin : vp_in i n) (hk : i.toNatClampNeg = k) (hdg : decode cc pc = .ok (.iaload, 1))
    (kk : W p l e R s m args below meth c H locs cells slots Q (F0 m (pc + 1) ls (.int (f k) :: rest))) : W p l e R s m args below meth c H locs cells slots Q (F0 m pc ls (.int i :: .ref (ad j) :: rest)) :=
  va_iald hexec hb hw.1 hw.2.1 j t0 (pool_ate hj hF) ht hin hdg (by rw [hk]; exact kk)
theorem pw_cald (hexec : p.tables.exec = Jvm.exec) (hb : c.code = cc) (hw : pw D cl tys ad M F A s H locs) (t0 : Nat) {j : Nat} {cA : ClassId} {n : Nat} {f : Nat → Int32} (hj : j < M) (hF : F j = .inl (cA, n, .inl f)) (ht : tys[t0]? = some (cA, .char)) {i : Int32} {k : Nat} (hin : vp_in i n) (hk : i.toNatClampNeg = k) (hdg : decode cc pc = .ok (.caload, 1))
    (kk : W p l e R s m args below meth c H locs cells slots Q (F0 m (pc + 1) ls (.int (f k) :: rest))) : W p l e R s m args below meth c H locs cells slots Q (F0 m pc ls (.int i :: .ref (ad j) :: rest)) :=
  va_cald hexec hb hw.1 hw.2.1 j t0 (pool_ate hj hF) ht hin hdg (by rw [hk]; exact kk)
theorem pw_iast (hexec : p.tables.exec = Jvm.exec) (hb : c.code = cc) (hw : pw D cl tys ad M F A s H locs) (t0 : Nat) {j : Nat} {cA : ClassId} {n : Nat} {f : Nat → Int32} (hj : j < M) (hF : F j = .inl (cA, n, .inl f)) (ht : tys[t0]? = some (cA, .int)) {i x : Int32} {k : Nat} (hin : vp_in i n) (hk : i.toNatClampNeg = k) (hdg : decode cc pc = .ok (.iastore, 1))
    (kk : ∀ (F1 : Nat → va_E) (H1 : Heap) (locs1 : List Loc), F1 = va_up F j (.inl (cA, n, .inl (upd f k x))) → pw D cl tys ad M F1 A s H1 locs1 → W p l e R s m args below meth c H1 locs1 cells slots Q (F0 m (pc + 1) ls rest)) : W p l e R s m args below meth c H locs cells slots Q (F0 m pc ls (.int x :: .int i :: .ref (ad j) :: rest)) := by
  refine va_iast hexec hb hw.1 hw.2.1 hw.2.2.1 hw.2.2.2.1 j t0 (pool_ate hj hF) ht hin hdg (fun H1 locs1 hP hD hS => kk _ H1 locs1 rfl ⟨hw.1, ?_, ?_, hS, hw.2.2.2.2⟩)
  · rw [pool_set, hk] at hP; exact hP
  · rw [pool_set, hk] at hD; exact hD
theorem pw_cast (hexec : p.tables.exec = Jvm.exec) (hb : c.code = cc) (hw : pw D cl tys ad M F A s H locs) (t0 : Nat) {j : Nat} {cA : ClassId} {n : Nat} {f : Nat → Int32} (hj : j < M) (hF : F j = .inl (cA, n, .inl f)) (ht : tys[t0]? = some (cA, .char)) {i x y : Int32} {k : Nat} (hin : vp_in i n) (hk : i.toNatClampNeg = k) (hy : vp_nar .char x = y) (hdg : decode cc pc = .ok (.castore, 1))
    (kk : ∀ (F1 : Nat → va_E) (H1 : Heap) (locs1 : List Loc), F1 = va_up F j (.inl (cA, n, .inl (upd f k y))) → pw D cl tys ad M F1 A s H1 locs1 → W p l e R s m args below meth c H1 locs1 cells slots Q (F0 m (pc + 1) ls rest)) : W p l e R s m args below meth c H locs cells slots Q (F0 m pc ls (.int x :: .int i :: .ref (ad j) :: rest)) := by
  refine va_cast hexec hb hw.1 hw.2.1 hw.2.2.1 hw.2.2.2.1 j t0 (pool_ate hj hF) ht hin hdg (fun H1 locs1 hP hD hS => kk _ H1 locs1 rfl ⟨hw.1, ?_, ?_, hS, hw.2.2.2.2⟩)
  · rw [pool_set, hk, hy] at hP; exact hP
  · rw [pool_set, hk, hy] at hD; exact hD
theorem pw_alen (hexec : p.tables.exec = Jvm.exec) (hb : c.code = cc) (hw : pw D cl tys ad M F A s H locs) (t0 : Nat) {j : Nat} {cA : ClassId} {x : vp_A} (hj : j < M) (hF : F j = .inl (cA, x)) {ty : FieldType} (ht : tys[t0]? = some (cA, ty)) {v : Int32} (hv : Int32.ofNat x.1 = v) (hdg : decode cc pc = .ok (.arraylength, 1))
    (kk : W p l e R s m args below meth c H locs cells slots Q (F0 m (pc + 1) ls (.int v :: rest))) : W p l e R s m args below meth c H locs cells slots Q (F0 m pc ls (.ref (ad j) :: rest)) :=
  va_alen hexec hb hw.1 hw.2.1 j t0 (pool_ate hj hF) ht hv hdg kk
theorem pw_aldq (hexec : p.tables.exec = Jvm.exec) (hb : c.code = cc) (hw : pw D cl tys ad M F A s H locs) (t0 : Nat) {j : Nat} {cA : ClassId} {C : String} {n : Nat} {f : Nat → Option Nat} (hj : j < M) (hF : F j = .inl (cA, n, .inr (.inr (.inr (.inr f))))) (ht : tys[t0]? = some (cA, .object C)) {i : Int32} {k r : Nat} (hin : vp_in i n) (hk : i.toNatClampNeg = k) (hf : f k = some r) (hdg : decode cc pc = .ok (.aaload, 1))
    (kk : W p l e R s m args below meth c H locs cells slots Q (F0 m (pc + 1) ls (.ref r :: rest))) : W p l e R s m args below meth c H locs cells slots Q (F0 m pc ls (.int i :: .ref (ad j) :: rest)) :=
  va_aldq hexec hb hw.1 hw.2.1 j t0 (pool_ate hj hF) ht hin hdg (by rw [hk, hf]; exact kk)
theorem pw_astq (hexec : p.tables.exec = Jvm.exec) (hb : c.code = cc) (hw : pw D cl tys ad M F A s H locs) (t0 : Nat) {j v ci : Nat} {cA : ClassId} {r : vw_C} {n : Nat} {vs : List Value} {f : Nat → Option Nat} (hj : j < M) (hF : F j = .inl (cA, n, .inr (.inr (.inr (.inr f))))) (ht : tys[t0]? = some (cA, .object r.1)) (hv : v < M) (hFv : F v = .inr (ci, vs)) (hc : cl[ci]? = some r) {i : Int32} {k : Nat} (hin : vp_in i n) (hk : i.toNatClampNeg = k) (hdg : decode cc pc = .ok (.aastore, 1))
    (kk : ∀ (F1 : Nat → va_E) (H1 : Heap) (locs1 : List Loc), F1 = va_up F j (.inl (cA, n, .inr (.inr (.inr (.inr (va_up f k (some (ad v)))))))) → pw D cl tys ad M F1 A s H1 locs1 → W p l e R s m args below meth c H1 locs1 cells slots Q (F0 m (pc + 1) ls rest)) : W p l e R s m args below meth c H locs cells slots Q (F0 m pc ls (.ref (ad v) :: .int i :: .ref (ad j) :: rest)) := by
  refine va_astq hexec hb hw.1 hw.2.1 hw.2.2.1 hw.2.2.2.1 j t0 v ci (pool_ate hj hF) ht (pool_ate hv hFv) hc hin hdg (fun H1 locs1 hP hD hS => kk _ H1 locs1 rfl ⟨hw.1, ?_, ?_, hS, hw.2.2.2.2⟩)
  · rw [pool_set, hk] at hP; exact hP
  · rw [pool_set, hk] at hD; exact hD
end PW
end
section
/-! rows for numbers told by integers -/
section WZ
variable {p : Program} {l : Launch} {e : Env} {R : Room} {s : State} {m : MethodId} {args : Array Value} {below : List Frame} {meth : Method} {c : Code} {H : Heap} {locs : List Loc} {cells slots : Nat} {Q : State → Prop}
variable {pc : Nat} {ls : Array Slot} {rest : List Value} {cc : ByteArray}
theorem wz_iadd (hexec : p.tables.exec = Jvm.exec) (hb : c.code = cc) {a b z : Int} (hdg : decode cc pc = .ok (.iadd, 1)) (hz : a + b = z) (k : W p l e R s m args below meth c H locs cells slots Q (F0 m (pc + 1) ls (.int (iI z) :: rest))) : W p l e R s m args below meth c H locs cells slots Q (F0 m pc ls (.int (iI b) :: .int (iI a) :: rest)) := lv_iadd hexec hb hdg (by rw [iI_add, hz]; exact k)
theorem wz_isub (hexec : p.tables.exec = Jvm.exec) (hb : c.code = cc) {a b z : Int} (hdg : decode cc pc = .ok (.isub, 1)) (hz : a - b = z) (k : W p l e R s m args below meth c H locs cells slots Q (F0 m (pc + 1) ls (.int (iI z) :: rest))) : W p l e R s m args below meth c H locs cells slots Q (F0 m pc ls (.int (iI b) :: .int (iI a) :: rest)) := lv_isub hexec hb hdg (by rw [iI_sub, hz]; exact k)
theorem wz_imul (hexec : p.tables.exec = Jvm.exec) (hb : c.code = cc) {a b z : Int} (hdg : decode cc pc = .ok (.imul, 1)) (hz : a * b = z) (k : W p l e R s m args below meth c H locs cells slots Q (F0 m (pc + 1) ls (.int (iI z) :: rest))) : W p l e R s m args below meth c H locs cells slots Q (F0 m pc ls (.int (iI b) :: .int (iI a) :: rest)) := lv_imul hexec hb hdg (by rw [iI_mul, hz]; exact k)
theorem wz_ineg (hexec : p.tables.exec = Jvm.exec) (hb : c.code = cc) {a z : Int} (hdg : decode cc pc = .ok (.ineg, 1)) (hz : -a = z) (k : W p l e R s m args below meth c H locs cells slots Q (F0 m (pc + 1) ls (.int (iI z) :: rest))) : W p l e R s m args below meth c H locs cells slots Q (F0 m pc ls (.int (iI a) :: rest)) := lv_ineg hexec hb hdg (by rw [iI_neg, hz]; exact k)
theorem wz_ladd (hexec : p.tables.exec = Jvm.exec) (hb : c.code = cc) {a b z : Int} (hdg : decode cc pc = .ok (.ladd, 1)) (hz : a + b = z) (k : W p l e R s m args below meth c H locs cells slots Q (F0 m (pc + 1) ls (.long (iL z) :: rest))) : W p l e R s m args below meth c H locs cells slots Q (F0 m pc ls (.long (iL b) :: .long (iL a) :: rest)) := lv_ladd hexec hb hdg (by rw [iL_add, hz]; exact k)
theorem wz_lsub (hexec : p.tables.exec = Jvm.exec) (hb : c.code = cc) {a b z : Int} (hdg : decode cc pc = .ok (.lsub, 1)) (hz : a - b = z) (k : W p l e R s m args below meth c H locs cells slots Q (F0 m (pc + 1) ls (.long (iL z) :: rest))) : W p l e R s m args below meth c H locs cells slots Q (F0 m pc ls (.long (iL b) :: .long (iL a) :: rest)) := lv_lsub hexec hb hdg (by rw [iL_sub, hz]; exact k)
theorem wz_lmul (hexec : p.tables.exec = Jvm.exec) (hb : c.code = cc) {a b z : Int} (hdg : decode cc pc = .ok (.lmul, 1)) (hz : a * b = z) (k : W p l e R s m args below meth c H locs cells slots Q (F0 m (pc + 1) ls (.long (iL z) :: rest))) : W p l e R s m args below meth c H locs cells slots Q (F0 m pc ls (.long (iL b) :: .long (iL a) :: rest)) := lv_lmul hexec hb hdg (by rw [iL_mul, hz]; exact k)
theorem wz_lneg (hexec : p.tables.exec = Jvm.exec) (hb : c.code = cc) {a z : Int} (hdg : decode cc pc = .ok (.lneg, 1)) (hz : -a = z) (k : W p l e R s m args below meth c H locs cells slots Q (F0 m (pc + 1) ls (.long (iL z) :: rest))) : W p l e R s m args below meth c H locs cells slots Q (F0 m pc ls (.long (iL a) :: rest)) := lv_lneg hexec hb hdg (by rw [iL_neg, hz]; exact k)
theorem wz_i2l (hexec : p.tables.exec = Jvm.exec) (hb : c.code = cc) {a : Int} (hdg : decode cc pc = .ok (.i2l, 1)) (h1 : -2147483648 ≤ a) (h2 : a < 2147483648) (k : W p l e R s m args below meth c H locs cells slots Q (F0 m (pc + 1) ls (.long (iL a) :: rest))) : W p l e R s m args below meth c H locs cells slots Q (F0 m pc ls (.int (iI a) :: rest)) := lv_i2l hexec hb hdg (iI_L h1 h2) k
theorem wz_l2i (hexec : p.tables.exec = Jvm.exec) (hb : c.code = cc) {a : Int} (hdg : decode cc pc = .ok (.l2i, 1)) (k : W p l e R s m args below meth c H locs cells slots Q (F0 m (pc + 1) ls (.int (iI a) :: rest))) : W p l e R s m args below meth c H locs cells slots Q (F0 m pc ls (.long (iL a) :: rest)) := lv_l2i hexec hb hdg (iL_I a) k
theorem wz_ldiv (hexec : p.tables.exec = Jvm.exec) (hb : c.code = cc) {a b z : Nat} (hdg : decode cc pc = .ok (.ldiv, 1)) (ha : a < 9223372036854775808) (h0 : 0 < b) (hb2 : b < 9223372036854775808) (hz : a / b = z) (k : W p l e R s m args below meth c H locs cells slots Q (F0 m (pc + 1) ls (.long (iL z) :: rest))) : W p l e R s m args below meth c H locs cells slots Q (F0 m pc ls (.long (iL b) :: .long (iL a) :: rest)) := by
  refine lv_ldiv hexec hb hdg ?_ ?_
  · rw [show (0 : Int64) = iL 0 from rfl, iL_eq (by omega) (by omega) (by omega) (by omega)]; omega
  · rw [iL_nat, iL_nat, pk_lDiv ha h0 hb2, hz, ← iL_nat]; exact k
theorem wz_lrem (hexec : p.tables.exec = Jvm.exec) (hb : c.code = cc) {a b z : Nat} (hdg : decode cc pc = .ok (.lrem, 1)) (ha : a < 9223372036854775808) (h0 : 0 < b) (hb2 : b < 9223372036854775808) (hz : a % b = z) (k : W p l e R s m args below meth c H locs cells slots Q (F0 m (pc + 1) ls (.long (iL z) :: rest))) : W p l e R s m args below meth c H locs cells slots Q (F0 m pc ls (.long (iL b) :: .long (iL a) :: rest)) := by
  refine lv_lrem hexec hb hdg ?_ ?_
  · rw [show (0 : Int64) = iL 0 from rfl, iL_eq (by omega) (by omega) (by omega) (by omega)]; omega
  · rw [iL_nat, iL_nat, pk_lRem ha h0 hb2, hz, ← iL_nat]; exact k
theorem wz_idiv (hexec : p.tables.exec = Jvm.exec) (hb : c.code = cc) {a b z : Nat} (hdg : decode cc pc = .ok (.idiv, 1)) (ha : a < 2147483648) (h0 : 0 < b) (hb2 : b < 2147483648) (hz : a / b = z) (k : W p l e R s m args below meth c H locs cells slots Q (F0 m (pc + 1) ls (.int (iI z) :: rest))) : W p l e R s m args below meth c H locs cells slots Q (F0 m pc ls (.int (iI b) :: .int (iI a) :: rest)) := by
  refine lv_idiv hexec hb hdg ?_ ?_
  · rw [show (0 : Int32) = iI 0 from rfl, iI_eq (by omega) (by omega) (by omega) (by omega)]; omega
  · rw [iI_nat, iI_nat, pk_div ha h0 hb2, hz, ← iI_nat]; exact k
theorem wz_irem (hexec : p.tables.exec = Jvm.exec) (hb : c.code = cc) {a b z : Nat} (hdg : decode cc pc = .ok (.irem, 1)) (ha : a < 2147483648) (h0 : 0 < b) (hb2 : b < 2147483648) (hz : a % b = z) (k : W p l e R s m args below meth c H locs cells slots Q (F0 m (pc + 1) ls (.int (iI z) :: rest))) : W p l e R s m args below meth c H locs cells slots Q (F0 m pc ls (.int (iI b) :: .int (iI a) :: rest)) := by
  refine lv_irem hexec hb hdg ?_ ?_
  · rw [show (0 : Int32) = iI 0 from rfl, iI_eq (by omega) (by omega) (by omega) (by omega)]; omega
  · rw [iI_nat, iI_nat, pk_rem ha h0 hb2, hz, ← iI_nat]; exact k
theorem wz_iconst (hexec : p.tables.exec = Jvm.exec) (hb : c.code = cc) {n : Int} (hdg : decode cc pc = .ok (.iconst n, 1)) (k : W p l e R s m args below meth c H locs cells slots Q (F0 m (pc + 1) ls (.int (iI n) :: rest))) : W p l e R s m args below meth c H locs cells slots Q (F0 m pc ls rest) := lv_iconst (v := iI n) hexec hb hdg rfl k
theorem wz_bipush (hexec : p.tables.exec = Jvm.exec) (hb : c.code = cc) {n : Int} (hdg : decode cc pc = .ok (.bipush n, 2)) (hv : (Int8.ofInt n).toInt32 = iI n) (k : W p l e R s m args below meth c H locs cells slots Q (F0 m (pc + 2) ls (.int (iI n) :: rest))) : W p l e R s m args below meth c H locs cells slots Q (F0 m pc ls rest) := lv_bipush (v := iI n) hexec hb hdg hv k
theorem wz_sipush (hexec : p.tables.exec = Jvm.exec) (hb : c.code = cc) {n : Int} (hdg : decode cc pc = .ok (.sipush n, 3)) (hv : (Int16.ofInt n).toInt32 = iI n) (k : W p l e R s m args below meth c H locs cells slots Q (F0 m (pc + 3) ls (.int (iI n) :: rest))) : W p l e R s m args below meth c H locs cells slots Q (F0 m pc ls rest) := lv_sipush (v := iI n) hexec hb hdg hv k
theorem wz_icmp_eq (hexec : p.tables.exec = Jvm.exec) (hb : c.code = cc) {a b : Int} {off : Int} {tgt : Nat} (hdg : decode cc pc = .ok (.if_icmp .eq off, 3)) (ht : (pc : Int) + off = (tgt : Int)) (h1 : -2147483648 ≤ a) (h2 : a < 2147483648) (h3 : -2147483648 ≤ b) (h4 : b < 2147483648) (kt : a = b → W p l e R s m args below meth c H locs cells slots Q (F0 m tgt ls rest)) (kf : ¬ a = b → W p l e R s m args below meth c H locs cells slots Q (F0 m (pc + 3) ls rest)) : W p l e R s m args below meth c H locs cells slots Q (F0 m pc ls (.int (iI b) :: .int (iI a) :: rest)) := lv_icmp_eq hexec hb hdg ht (fun q => kt ((iI_eq h1 h2 h3 h4).mp q)) (fun q => kf (fun q2 => q ((iI_eq h1 h2 h3 h4).mpr q2)))
theorem wz_if_eq (hexec : p.tables.exec = Jvm.exec) (hb : c.code = cc) {a : Int} {off : Int} {tgt : Nat} (hdg : decode cc pc = .ok (.ifCond .eq off, 3)) (ht : (pc : Int) + off = (tgt : Int)) (h1 : -2147483648 ≤ a) (h2 : a < 2147483648) (kt : a = 0 → W p l e R s m args below meth c H locs cells slots Q (F0 m tgt ls rest)) (kf : ¬ a = 0 → W p l e R s m args below meth c H locs cells slots Q (F0 m (pc + 3) ls rest)) : W p l e R s m args below meth c H locs cells slots Q (F0 m pc ls (.int (iI a) :: rest)) := lv_if_eq hexec hb hdg ht (fun q => kt ((iI_eq (a := a) (b := 0) h1 h2 (by omega) (by omega)).mp q)) (fun q => kf (fun q2 => q ((iI_eq (a := a) (b := 0) h1 h2 (by omega) (by omega)).mpr q2)))
theorem wz_lcmp_eq (hexec : p.tables.exec = Jvm.exec) (hb : c.code = cc) {a b : Int} {off : Int} {tgt : Nat} (hd1 : decode cc pc = .ok (.lcmp, 1)) (hdg : decode cc (pc + 1) = .ok (.ifCond .eq off, 3)) (ht : ((pc + 1 : Nat) : Int) + off = (tgt : Int)) (h1 : -9223372036854775808 ≤ a) (h2 : a < 9223372036854775808) (h3 : -9223372036854775808 ≤ b) (h4 : b < 9223372036854775808) (kt : a = b → W p l e R s m args below meth c H locs cells slots Q (F0 m tgt ls rest)) (kf : ¬ a = b → W p l e R s m args below meth c H locs cells slots Q (F0 m (pc + 1 + 3) ls rest)) : W p l e R s m args below meth c H locs cells slots Q (F0 m pc ls (.long (iL b) :: .long (iL a) :: rest)) := by
  refine W.lcmp hexec hb hd1 ?_
  rw [iL_cmp h1 h2 h3 h4]
  refine wz_if_eq hexec hb hdg ht (by split <;> (try split) <;> omega) (by split <;> (try split) <;> omega) (fun q => kt ?_) (fun q => kf ?_)
  · split at q <;> (try split at q) <;> omega
  · split at q <;> (try split at q) <;> omega
theorem wz_icmp_ne (hexec : p.tables.exec = Jvm.exec) (hb : c.code = cc) {a b : Int} {off : Int} {tgt : Nat} (hdg : decode cc pc = .ok (.if_icmp .ne off, 3)) (ht : (pc : Int) + off = (tgt : Int)) (h1 : -2147483648 ≤ a) (h2 : a < 2147483648) (h3 : -2147483648 ≤ b) (h4 : b < 2147483648) (kt : ¬ a = b → W p l e R s m args below meth c H locs cells slots Q (F0 m tgt ls rest)) (kf : a = b → W p l e R s m args below meth c H locs cells slots Q (F0 m (pc + 3) ls rest)) : W p l e R s m args below meth c H locs cells slots Q (F0 m pc ls (.int (iI b) :: .int (iI a) :: rest)) := lv_icmp_ne hexec hb hdg ht (fun q => kt (fun q2 => q ((iI_eq h1 h2 h3 h4).mpr q2))) (fun q => kf ((iI_eq h1 h2 h3 h4).mp q))
theorem wz_if_ne (hexec : p.tables.exec = Jvm.exec) (hb : c.code = cc) {a : Int} {off : Int} {tgt : Nat} (hdg : decode cc pc = .ok (.ifCond .ne off, 3)) (ht : (pc : Int) + off = (tgt : Int)) (h1 : -2147483648 ≤ a) (h2 : a < 2147483648) (kt : ¬ a = 0 → W p l e R s m args below meth c H locs cells slots Q (F0 m tgt ls rest)) (kf : a = 0 → W p l e R s m args below meth c H locs cells slots Q (F0 m (pc + 3) ls rest)) : W p l e R s m args below meth c H locs cells slots Q (F0 m pc ls (.int (iI a) :: rest)) := lv_if_ne hexec hb hdg ht (fun q => kt (fun q2 => q ((iI_eq (a := a) (b := 0) h1 h2 (by omega) (by omega)).mpr q2))) (fun q => kf ((iI_eq (a := a) (b := 0) h1 h2 (by omega) (by omega)).mp q))
theorem wz_lcmp_ne (hexec : p.tables.exec = Jvm.exec) (hb : c.code = cc) {a b : Int} {off : Int} {tgt : Nat} (hd1 : decode cc pc = .ok (.lcmp, 1)) (hdg : decode cc (pc + 1) = .ok (.ifCond .ne off, 3)) (ht : ((pc + 1 : Nat) : Int) + off = (tgt : Int)) (h1 : -9223372036854775808 ≤ a) (h2 : a < 9223372036854775808) (h3 : -9223372036854775808 ≤ b) (h4 : b < 9223372036854775808) (kt : ¬ a = b → W p l e R s m args below meth c H locs cells slots Q (F0 m tgt ls rest)) (kf : a = b → W p l e R s m args below meth c H locs cells slots Q (F0 m (pc + 1 + 3) ls rest)) : W p l e R s m args below meth c H locs cells slots Q (F0 m pc ls (.long (iL b) :: .long (iL a) :: rest)) := by
  refine W.lcmp hexec hb hd1 ?_
  rw [iL_cmp h1 h2 h3 h4]
  refine wz_if_ne hexec hb hdg ht (by split <;> (try split) <;> omega) (by split <;> (try split) <;> omega) (fun q => kt ?_) (fun q => kf ?_)
  · split at q <;> (try split at q) <;> omega
  · split at q <;> (try split at q) <;> omega
theorem wz_icmp_lt (hexec : p.tables.exec = Jvm.exec) (hb : c.code = cc) {a b : Int} {off : Int} {tgt : Nat} (hdg : decode cc pc = .ok (.if_icmp .lt off, 3)) (ht : (pc : Int) + off = (tgt : Int)) (h1 : -2147483648 ≤ a) (h2 : a < 2147483648) (h3 : -2147483648 ≤ b) (h4 : b < 2147483648) (kt : a < b → W p l e R s m args below meth c H locs cells slots Q (F0 m tgt ls rest)) (kf : b ≤ a → W p l e R s m args below meth c H locs cells slots Q (F0 m (pc + 3) ls rest)) : W p l e R s m args below meth c H locs cells slots Q (F0 m pc ls (.int (iI b) :: .int (iI a) :: rest)) := lv_icmp_lt hexec hb hdg ht (fun q => kt ((iI_lt h1 h2 h3 h4).mp q)) (fun q => kf (by have := mt (iI_lt h1 h2 h3 h4).mpr q; omega))
theorem wz_if_lt (hexec : p.tables.exec = Jvm.exec) (hb : c.code = cc) {a : Int} {off : Int} {tgt : Nat} (hdg : decode cc pc = .ok (.ifCond .lt off, 3)) (ht : (pc : Int) + off = (tgt : Int)) (h1 : -2147483648 ≤ a) (h2 : a < 2147483648) (kt : a < 0 → W p l e R s m args below meth c H locs cells slots Q (F0 m tgt ls rest)) (kf : 0 ≤ a → W p l e R s m args below meth c H locs cells slots Q (F0 m (pc + 3) ls rest)) : W p l e R s m args below meth c H locs cells slots Q (F0 m pc ls (.int (iI a) :: rest)) := lv_if_lt hexec hb hdg ht (fun q => kt ((iI_lt (a := a) (b := 0) h1 h2 (by omega) (by omega)).mp q)) (fun q => kf (by have := mt (iI_lt (a := a) (b := 0) h1 h2 (by omega) (by omega)).mpr q; omega))
theorem wz_lcmp_lt (hexec : p.tables.exec = Jvm.exec) (hb : c.code = cc) {a b : Int} {off : Int} {tgt : Nat} (hd1 : decode cc pc = .ok (.lcmp, 1)) (hdg : decode cc (pc + 1) = .ok (.ifCond .lt off, 3)) (ht : ((pc + 1 : Nat) : Int) + off = (tgt : Int)) (h1 : -9223372036854775808 ≤ a) (h2 : a < 9223372036854775808) (h3 : -9223372036854775808 ≤ b) (h4 : b < 9223372036854775808) (kt : a < b → W p l e R s m args below meth c H locs cells slots Q (F0 m tgt ls rest)) (kf : b ≤ a → W p l e R s m args below meth c H locs cells slots Q (F0 m (pc + 1 + 3) ls rest)) : W p l e R s m args below meth c H locs cells slots Q (F0 m pc ls (.long (iL b) :: .long (iL a) :: rest)) := by
  refine W.lcmp hexec hb hd1 ?_
  rw [iL_cmp h1 h2 h3 h4]
  refine wz_if_lt hexec hb hdg ht (by split <;> (try split) <;> omega) (by split <;> (try split) <;> omega) (fun q => kt ?_) (fun q => kf ?_)
  · split at q <;> (try split at q) <;> omega
  · split at q <;> (try split at q) <;> omega
theorem wz_icmp_ge (hexec : p.tables.exec = Jvm.exec) (hb : c.code = cc) {a b : Int} {off : Int} {tgt : Nat} (hdg : decode cc pc = .ok (.if_icmp .ge off, 3)) (ht : (pc : Int) + off = (tgt : Int)) (h1 : -2147483648 ≤ a) (h2 : a < 2147483648) (h3 : -2147483648 ≤ b) (h4 : b < 2147483648) (kt : b ≤ a → W p l e R s m args below meth c H locs cells slots Q (F0 m tgt ls rest)) (kf : a < b → W p l e R s m args below meth c H locs cells slots Q (F0 m (pc + 3) ls rest)) : W p l e R s m args below meth c H locs cells slots Q (F0 m pc ls (.int (iI b) :: .int (iI a) :: rest)) := lv_icmp_ge hexec hb hdg ht (fun q => kt ((iI_le h3 h4 h1 h2).mp q)) (fun q => kf (by have := mt (iI_le h3 h4 h1 h2).mpr q; omega))
theorem wz_if_ge (hexec : p.tables.exec = Jvm.exec) (hb : c.code = cc) {a : Int} {off : Int} {tgt : Nat} (hdg : decode cc pc = .ok (.ifCond .ge off, 3)) (ht : (pc : Int) + off = (tgt : Int)) (h1 : -2147483648 ≤ a) (h2 : a < 2147483648) (kt : 0 ≤ a → W p l e R s m args below meth c H locs cells slots Q (F0 m tgt ls rest)) (kf : a < 0 → W p l e R s m args below meth c H locs cells slots Q (F0 m (pc + 3) ls rest)) : W p l e R s m args below meth c H locs cells slots Q (F0 m pc ls (.int (iI a) :: rest)) := lv_if_ge hexec hb hdg ht (fun q => kt ((iI_le (a := 0) (b := a) (by omega) (by omega) h1 h2).mp q)) (fun q => kf (by have := mt (iI_le (a := 0) (b := a) (by omega) (by omega) h1 h2).mpr q; omega))
theorem wz_lcmp_ge (hexec : p.tables.exec = Jvm.exec) (hb : c.code = cc) {a b : Int} {off : Int} {tgt : Nat} (hd1 : decode cc pc = .ok (.lcmp, 1)) (hdg : decode cc (pc + 1) = .ok (.ifCond .ge off, 3)) (ht : ((pc + 1 : Nat) : Int) + off = (tgt : Int)) (h1 : -9223372036854775808 ≤ a) (h2 : a < 9223372036854775808) (h3 : -9223372036854775808 ≤ b) (h4 : b < 9223372036854775808) (kt : b ≤ a → W p l e R s m args below meth c H locs cells slots Q (F0 m tgt ls rest)) (kf : a < b → W p l e R s m args below meth c H locs cells slots Q (F0 m (pc + 1 + 3) ls rest)) : W p l e R s m args below meth c H locs cells slots Q (F0 m pc ls (.long (iL b) :: .long (iL a) :: rest)) := by
  refine W.lcmp hexec hb hd1 ?_
  rw [iL_cmp h1 h2 h3 h4]
  refine wz_if_ge hexec hb hdg ht (by split <;> (try split) <;> omega) (by split <;> (try split) <;> omega) (fun q => kt ?_) (fun q => kf ?_)
  · split at q <;> (try split at q) <;> omega
  · split at q <;> (try split at q) <;> omega
theorem wz_icmp_gt (hexec : p.tables.exec = Jvm.exec) (hb : c.code = cc) {a b : Int} {off : Int} {tgt : Nat} (hdg : decode cc pc = .ok (.if_icmp .gt off, 3)) (ht : (pc : Int) + off = (tgt : Int)) (h1 : -2147483648 ≤ a) (h2 : a < 2147483648) (h3 : -2147483648 ≤ b) (h4 : b < 2147483648) (kt : b < a → W p l e R s m args below meth c H locs cells slots Q (F0 m tgt ls rest)) (kf : a ≤ b → W p l e R s m args below meth c H locs cells slots Q (F0 m (pc + 3) ls rest)) : W p l e R s m args below meth c H locs cells slots Q (F0 m pc ls (.int (iI b) :: .int (iI a) :: rest)) := lv_icmp_gt hexec hb hdg ht (fun q => kt ((iI_lt h3 h4 h1 h2).mp q)) (fun q => kf (by have := mt (iI_lt h3 h4 h1 h2).mpr q; omega))
theorem wz_if_gt (hexec : p.tables.exec = Jvm.exec) (hb : c.code = cc) {a : Int} {off : Int} {tgt : Nat} (hdg : decode cc pc = .ok (.ifCond .gt off, 3)) (ht : (pc : Int) + off = (tgt : Int)) (h1 : -2147483648 ≤ a) (h2 : a < 2147483648) (kt : 0 < a → W p l e R s m args below meth c H locs cells slots Q (F0 m tgt ls rest)) (kf : a ≤ 0 → W p l e R s m args below meth c H locs cells slots Q (F0 m (pc + 3) ls rest)) : W p l e R s m args below meth c H locs cells slots Q (F0 m pc ls (.int (iI a) :: rest)) := lv_if_gt hexec hb hdg ht (fun q => kt ((iI_lt (a := 0) (b := a) (by omega) (by omega) h1 h2).mp q)) (fun q => kf (by have := mt (iI_lt (a := 0) (b := a) (by omega) (by omega) h1 h2).mpr q; omega))
theorem wz_lcmp_gt (hexec : p.tables.exec = Jvm.exec) (hb : c.code = cc) {a b : Int} {off : Int} {tgt : Nat} (hd1 : decode cc pc = .ok (.lcmp, 1)) (hdg : decode cc (pc + 1) = .ok (.ifCond .gt off, 3)) (ht : ((pc + 1 : Nat) : Int) + off = (tgt : Int)) (h1 : -9223372036854775808 ≤ a) (h2 : a < 9223372036854775808) (h3 : -9223372036854775808 ≤ b) (h4 : b < 9223372036854775808) (kt : b < a → W p l e R s m args below meth c H locs cells slots Q (F0 m tgt ls rest)) (kf : a ≤ b → W p l e R s m args below meth c H locs cells slots Q (F0 m (pc + 1 + 3) ls rest)) : W p l e R s m args below meth c H locs cells slots Q (F0 m pc ls (.long (iL b) :: .long (iL a) :: rest)) := by
  refine W.lcmp hexec hb hd1 ?_
  rw [iL_cmp h1 h2 h3 h4]
  refine wz_if_gt hexec hb hdg ht (by split <;> (try split) <;> omega) (by split <;> (try split) <;> omega) (fun q => kt ?_) (fun q => kf ?_)
  · split at q <;> (try split at q) <;> omega
  · split at q <;> (try split at q) <;> omega
theorem wz_icmp_le (hexec : p.tables.exec = Jvm.exec) (hb : c.code = cc) {a b : Int} {off : Int} {tgt : Nat} (hdg : decode cc pc = .ok (.if_icmp .le off, 3)) (ht : (pc : Int) + off = (tgt : Int)) (h1 : -2147483648 ≤ a) (h2 : a < 2147483648) (h3 : -2147483648 ≤ b) (h4 : b < 2147483648) (kt : a ≤ b → W p l e R s m args below meth c H locs cells slots Q (F0 m tgt ls rest)) (kf : b < a → W p l e R s m args below meth c H locs cells slots Q (F0 m (pc + 3) ls rest)) : W p l e R s m args below meth c H locs cells slots Q (F0 m pc ls (.int (iI b) :: .int (iI a) :: rest)) := lv_icmp_le hexec hb hdg ht (fun q => kt ((iI_le h1 h2 h3 h4).mp q)) (fun q => kf (by have := mt (iI_le h1 h2 h3 h4).mpr q; omega))
theorem wz_if_le (hexec : p.tables.exec = Jvm.exec) (hb : c.code = cc) {a : Int} {off : Int} {tgt : Nat} (hdg : decode cc pc = .ok (.ifCond .le off, 3)) (ht : (pc : Int) + off = (tgt : Int)) (h1 : -2147483648 ≤ a) (h2 : a < 2147483648) (kt : a ≤ 0 → W p l e R s m args below meth c H locs cells slots Q (F0 m tgt ls rest)) (kf : 0 < a → W p l e R s m args below meth c H locs cells slots Q (F0 m (pc + 3) ls rest)) : W p l e R s m args below meth c H locs cells slots Q (F0 m pc ls (.int (iI a) :: rest)) := lv_if_le hexec hb hdg ht (fun q => kt ((iI_le (a := a) (b := 0) h1 h2 (by omega) (by omega)).mp q)) (fun q => kf (by have := mt (iI_le (a := a) (b := 0) h1 h2 (by omega) (by omega)).mpr q; omega))
theorem wz_lcmp_le (hexec : p.tables.exec = Jvm.exec) (hb : c.code = cc) {a b : Int} {off : Int} {tgt : Nat} (hd1 : decode cc pc = .ok (.lcmp, 1)) (hdg : decode cc (pc + 1) = .ok (.ifCond .le off, 3)) (ht : ((pc + 1 : Nat) : Int) + off = (tgt : Int)) (h1 : -9223372036854775808 ≤ a) (h2 : a < 9223372036854775808) (h3 : -9223372036854775808 ≤ b) (h4 : b < 9223372036854775808) (kt : a ≤ b → W p l e R s m args below meth c H locs cells slots Q (F0 m tgt ls rest)) (kf : b < a → W p l e R s m args below meth c H locs cells slots Q (F0 m (pc + 1 + 3) ls rest)) : W p l e R s m args below meth c H locs cells slots Q (F0 m pc ls (.long (iL b) :: .long (iL a) :: rest)) := by
  refine W.lcmp hexec hb hd1 ?_
  rw [iL_cmp h1 h2 h3 h4]
  refine wz_if_le hexec hb hdg ht (by split <;> (try split) <;> omega) (by split <;> (try split) <;> omega) (fun q => kt ?_) (fun q => kf ?_)
  · split at q <;> (try split at q) <;> omega
  · split at q <;> (try split at q) <;> omega
theorem wz_iinc (hexec : p.tables.exec = Jvm.exec) (hb : c.code = cc) {i nL k : Nat} {n a z : Int} {lv lv' : List (Nat × Value)} (hdg : decode cc pc = .ok (.iinc i n, 3)) (h : lv_has ls nL lv) (hk : lv[k]? = some (i, .int (iI a))) (hz : a + n = z) (hn : i < nL) (hl : (i, Value.int (iI z)) :: lv.filter (fun q => !(q.1 == i) && !(q.1 + 1 == i && q.2.category == 2)) = lv')
    (kk : ∀ ls' : Array Slot, lv_has ls' nL lv' → W p l e R s m args below meth c H locs cells slots Q (F0 m (pc + 3) ls' rest)) : W p l e R s m args below meth c H locs cells slots Q (F0 m pc ls rest) := lv_iinc (v := iI z) hexec hb hdg h hk (by show iI a + iI n = iI z; rw [iI_add, hz]) hn hl kk
end WZ
end
section
/-! numbers in limbs: bv B d n is the number whose n lowest limbs to the base B are d 0, d 1, .. -/
def bv (B : Nat) (d : Nat → Nat) : Nat → Nat
  | 0 => 0
  | n + 1 => bv B d n + d n * B ^ n
theorem bv_0 (B : Nat) (d : Nat → Nat) : bv B d 0 = 0 := rfl
theorem bv_s (B : Nat) (d : Nat → Nat) (n : Nat) : bv B d (n + 1) = bv B d n + d n * B ^ n := rfl
theorem bv_congr {B : Nat} {d e : Nat → Nat} : ∀ {n : Nat}, (∀ i, i < n → d i = e i) → bv B d n = bv B e n
  | 0, _ => rfl
  | n + 1, h => by rw [bv_s, bv_s, bv_congr (fun i hi => h i (by omega)), h n (by omega)]
theorem bv_lt {B : Nat} {d : Nat → Nat} : ∀ {n : Nat}, (∀ i, i < n → d i < B) → bv B d n < B ^ n
  | 0, _ => by simp [bv_0]
  | n + 1, h => by
    have h1 := bv_lt (n := n) (fun i hi => h i (by omega))
    have h2 : d n + 1 ≤ B := h n (by omega)
    have h3 : (d n + 1) * B ^ n ≤ B * B ^ n := Nat.mul_le_mul_right _ h2
    rw [bv_s, Nat.pow_succ, Nat.mul_comm (B ^ n) B]
    rw [Nat.add_mul, Nat.one_mul] at h3
    omega
theorem bv_split (B : Nat) (d : Nat → Nat) (a : Nat) : ∀ b : Nat, bv B d (a + b) = bv B d a + B ^ a * bv B (fun i => d (a + i)) b
  | 0 => by simp [bv_0]
  | b + 1 => by
    rw [← Nat.add_assoc, bv_s, bv_split B d a b, bv_s, Nat.mul_add, Nat.pow_add, Nat.add_assoc]
    congr 2
    rw [Nat.mul_left_comm]
theorem bv_top {B : Nat} {d : Nat → Nat} {n : Nat} (h : d n ≠ 0) : B ^ n ≤ bv B d (n + 1) := by
  have : 1 * B ^ n ≤ d n * B ^ n := Nat.mul_le_mul_right _ (by omega)
  rw [bv_s]; omega
theorem bv_zero {B : Nat} {d : Nat → Nat} : ∀ {n : Nat}, (∀ i, i < n → d i = 0) → bv B d n = 0
  | 0, _ => rfl
  | n + 1, h => by rw [bv_s, bv_zero (fun i hi => h i (by omega)), h n (by omega)]; simp
/-- trailing zeros above don't count -/
theorem bv_trim {B : Nat} {d : Nat → Nat} {k : Nat} : ∀ {n : Nat}, k ≤ n → (∀ i, k ≤ i → i < n → d i = 0) → bv B d n = bv B d k
  | 0, h, _ => by rw [show k = 0 by omega]
  | n + 1, h, hz => by
    by_cases c : k = n + 1
    · rw [c]
    · rw [bv_s, hz n (by omega) (by omega), bv_trim (by omega) (fun i h1 h2 => hz i h1 (by omega))]; simp
/-- a greater limb decides, if those above are the same -/
theorem bv_cmp {B : Nat} {d e : Nat → Nat} {n k : Nat} (hk : k < n) (hd : ∀ i, i < n → d i < B) (heq : ∀ i, k < i → i < n → d i = e i) (h : d k < e k) : bv B d n < bv B e n := by
  obtain ⟨r, rfl⟩ : ∃ r, n = (k + 1) + r := ⟨n - (k + 1), by omega⟩
  rw [bv_split B d, bv_split B e, bv_congr (B := B) (d := fun i => d (k + 1 + i)) (e := fun i => e (k + 1 + i)) (fun i hi => heq _ (by omega) (by omega)), bv_s, bv_s]
  have h1 : bv B d k < B ^ k := bv_lt (fun i hi => hd i (by omega))
  have h2 : (d k + 1) * B ^ k ≤ e k * B ^ k := Nat.mul_le_mul_right _ h
  rw [Nat.add_mul, Nat.one_mul] at h2
  omega
/-- more limbs, the highest of which is not 0 -/
theorem bv_size {B : Nat} {d e : Nat → Nat} {n k : Nat} (hB : 0 < B) (h : n < k) (hd : ∀ i, i < n → d i < B) (he : e (k - 1) ≠ 0) : bv B d n < bv B e k := by
  obtain ⟨j, rfl⟩ : ∃ j, k = j + 1 := ⟨k - 1, by omega⟩
  have h1 := bv_lt hd
  have h2 : B ^ j ≤ bv B e (j + 1) := bv_top he
  have h3 : B ^ n ≤ B ^ j := Nat.pow_le_pow_right hB (by omega)
  omega
theorem bv_eq0 {B : Nat} {d : Nat → Nat} {n : Nat} (hB : 0 < B) (hn : n = 0 ∨ d (n - 1) ≠ 0) : bv B d n = 0 ↔ n = 0 := by
  constructor
  · intro h
    rcases hn with hn | hn
    · exact hn
    · rcases Nat.eq_zero_or_pos n with c | c
      · exact c
      · obtain ⟨j, rfl⟩ : ∃ j, n = j + 1 := ⟨n - 1, by omega⟩
        have h2 : B ^ j ≤ bv B d (j + 1) := bv_top hn
        have h3 : 0 < B ^ j := Nat.pow_pos hB
        omega
  · rintro rfl; rfl
/-- the limbs of an int array, without sign -/
def dl (g : Nat → Int32) (i : Nat) : Nat := (g i).toBitVec.toNat
theorem dl_get {g : Nat → Int32} {i : Nat} (_ : dl g i < 2147483648) : g i = iI (dl g i) := by
  rw [iI_nat]
  apply Int32.toBitVec_inj.mp
  apply BitVec.eq_of_toNat_eq
  show dl g i = (BitVec.ofNat 32 (dl g i)).toNat
  rw [BitVec.toNat_ofNat, Nat.mod_eq_of_lt]
  exact (g i).toBitVec.isLt
theorem dl_iI {n : Nat} (h : n < 4294967296) : (iI n).toBitVec.toNat = n := by
  rw [iI_nat]; exact pk_tn h
theorem dl_us {g : Nat → Int32} {k n : Nat} (h : n < 4294967296) : dl (upd g k (iI n)) k = n := by
  show (upd g k (iI n) k).toBitVec.toNat = n
  rw [pk_us, dl_iI h]
theorem dl_un {g : Nat → Int32} {k j : Nat} {x : Int32} (h : j ≠ k) : dl (upd g k x) j = dl g j := by
  show (upd g k x j).toBitVec.toNat = _
  rw [pk_un h]; rfl
theorem dl_of {g : Nat → Int32} {k n : Nat} (h : n < 4294967296) (e : g k = iI n) : dl g k = n := by
  show (g k).toBitVec.toNat = n
  rw [e, dl_iI h]
/-- powers -/
theorem pw_pos {B : Nat} (hB : 0 < B) (n : Nat) : 0 < B ^ n := Nat.pow_pos hB
/-- one limb with its carry -/
theorem carry_step (B S P : Nat) : (S % B) * P + (S / B) * (P * B) = S * P := by
  have h := Nat.mod_add_div S B
  have : S * P = (S % B + B * (S / B)) * P := by rw [h]
  rw [this, Nat.add_mul]
  congr 1
  rw [Nat.mul_comm B, Nat.mul_assoc, Nat.mul_comm B P]
theorem carry_stepI (B S P : Int) : (S % B) * P + (S / B) * (P * B) = S * P := by
  have h := Int.emod_add_mul_ediv S B
  have : S * P = (S % B + B * (S / B)) * P := by rw [h]
  rw [this, Int.add_mul]
  congr 1
  rw [Int.mul_comm B, Int.mul_assoc, Int.mul_comm B P]
end
section
/-! the trial digit of schoolbook division: two = the divisor's two highest limbs (shifted), three = the dividend's three -/
/-- what the correcting loop keeps: high is told by digit and rest; digit is not too small -/
def kn_I (b V1 V2 high next digit rest : Nat) : Prop := digit * V1 + rest = high ∧ (high * b + next < (digit + 1) * (V1 * b + V2) ∨ b ≤ digit + 1)
theorem kn_0 {b V1 V2 high next : Nat} (hV : 0 < V1) (hn : next < b) : kn_I b V1 V2 high next (high / V1) (high % V1) := by
  refine ⟨by rw [Nat.mul_comm]; exact Nat.div_add_mod high V1, Or.inl ?_⟩
  have h1 : high < (high / V1 + 1) * V1 := by
    have := Nat.lt_mul_div_succ high hV
    rw [Nat.mul_comm] at this; exact this
  have h2 : (high + 1) * b ≤ ((high / V1 + 1) * V1) * b := Nat.mul_le_mul_right _ h1
  rw [Nat.mul_add, ← Nat.mul_assoc]
  rw [Nat.add_mul, Nat.one_mul] at h2
  omega
/-- a step down keeps it -/
theorem kn_s {b V1 V2 high next digit rest : Nat} (h : kn_I b V1 V2 high next (digit + 1) rest) (hc : ¬ (digit + 1 ≤ b - 1 ∧ (digit + 1) * V2 ≤ rest * b + next)) : kn_I b V1 V2 high next digit (rest + V1) := by
  obtain ⟨h1, h2⟩ := h
  refine ⟨by rw [← h1, Nat.add_mul]; omega, ?_⟩
  by_cases c : digit + 1 ≤ b - 1
  · refine Or.inl ?_
    have c2 : rest * b + next < (digit + 1) * V2 := by
      apply Nat.lt_of_not_le
      exact fun q => hc ⟨c, q⟩
    rw [Nat.mul_add, ← Nat.mul_assoc, ← h1, Nat.add_mul _ rest b]
    omega
  · exact Or.inr (by omega)
/-- the loop ends with the test -/
theorem kn_break {b V1 V2 high next digit rest : Nat} (h : kn_I b V1 V2 high next digit rest) (h2 : digit * V2 ≤ rest * b + next) : digit * (V1 * b + V2) ≤ high * b + next := by
  rw [Nat.mul_add, ← Nat.mul_assoc, ← h.1, Nat.add_mul]
  omega
/-- the loop ends as rest is great -/
theorem kn_rest {b V1 V2 high next digit rest : Nat} (h : kn_I b V1 V2 high next digit rest) (hb : digit ≤ b - 1) (hV2 : V2 < b) (hr : b ≤ rest) : digit * (V1 * b + V2) ≤ high * b + next := by
  refine kn_break h ?_
  have h1 : digit * V2 ≤ b * V2 := Nat.mul_le_mul_right _ (by omega)
  have h2 : b * V2 ≤ b * b := Nat.mul_le_mul_left _ (by omega)
  have h3 : b * b ≤ rest * b := Nat.mul_le_mul_right _ hr
  omega
/-- the loop ends behind two steps -/
theorem kn_two {b V1 V2 high next digit rest : Nat} (h : digit * V1 + rest = high) (hr : 2 * V1 ≤ rest) (hb : digit ≤ b) (hV2 : V2 < b) (hV : b ≤ 2 * V1) : digit * (V1 * b + V2) ≤ high * b + next := by
  rw [Nat.mul_add, ← Nat.mul_assoc, ← h, Nat.add_mul]
  have h1 : digit * V2 ≤ b * b := Nat.mul_le_mul hb (by omega)
  have h3 : b * b ≤ rest * b := Nat.mul_le_mul_right _ (by omega)
  omega
/-- no digit is far above the base -/
theorem kn_high {b V1 V2 high next : Nat} (hb : 0 < b) (h : high * b + next < (V1 * b + V2 + 1) * b) : high ≤ V1 * b + V2 := by
  apply Nat.le_of_lt_succ
  apply Nat.lt_of_not_le
  intro q
  have : (V1 * b + V2 + 1) * b ≤ high * b := Nat.mul_le_mul_right _ q
  omega
theorem kn_dig {b V1 V2 high digit rest : Nat} (hh : high ≤ V1 * b + V2) (h : digit * V1 + rest = high) (hV2 : V2 < b) (hV : b ≤ 2 * V1) : digit ≤ b + 1 := by
  apply Nat.le_of_lt_succ
  apply Nat.lt_of_not_le
  intro q
  have h1 : (b + 2) * V1 ≤ digit * V1 := Nat.mul_le_mul_right _ q
  rw [Nat.add_mul, Nat.mul_comm b V1] at h1
  omega
/-- the trial digit is the true one, or 1 more: u by v b^at -/
theorem kn_main {b n at_ v u sc two three dig : Nat} (hb : 2 ≤ b) (hv : 0 < v) (hsc : 0 < sc)
    (hlt : sc * v < b ^ n) (hge : b ^ n ≤ 2 * (sc * v)) (hu : u < v * b ^ (at_ + 1))
    (htwo : two = sc * v * (b * b) / b ^ n) (hthree : three = sc * u * (b * b) / b ^ (at_ + n))
    (h1 : dig * two ≤ three) (h2 : three < (dig + 1) * two ∨ b ≤ dig + 1) :
    u / (v * b ^ at_) ≤ dig ∧ (dig ≤ b - 1 → dig ≤ u / (v * b ^ at_) + 1) := by
  have hbn : 0 < b ^ n := Nat.pow_pos (by omega)
  have hba : 0 < b ^ at_ := Nat.pow_pos (by omega)
  have hvb : 0 < v * b ^ at_ := Nat.mul_pos hv hba
  have hban : b ^ (at_ + n) = b ^ at_ * b ^ n := Nat.pow_add b at_ n
  have hq : u / (v * b ^ at_) < b := by
    apply Nat.div_lt_of_lt_mul
    rw [Nat.pow_succ, ← Nat.mul_assoc] at hu; exact hu
  -- two is great
  have htwo_ge : b ≤ two := by
    rw [htwo]
    apply (Nat.le_div_iff_mul_le hbn).mpr
    have a1 : b ^ n * b ≤ 2 * (sc * v) * b := Nat.mul_le_mul_right _ hge
    have a2 : 2 * (sc * v) * b ≤ b * (sc * v) * b := Nat.mul_le_mul_right _ (Nat.mul_le_mul_right _ hb)
    have a3 : b * (sc * v) * b = sc * v * (b * b) := by rw [Nat.mul_comm b (sc * v), Nat.mul_assoc]
    rw [Nat.mul_comm b (b ^ n)]; omega
  generalize hQ : u / (v * b ^ at_) = q at hq ⊢
  have hq1 : q * (v * b ^ at_) ≤ u := by rw [← hQ]; exact Nat.div_mul_le_self _ _
  have hq2 : u < (q + 1) * (v * b ^ at_) := by
    rw [← hQ, Nat.mul_comm]; exact Nat.lt_mul_div_succ u hvb
  constructor
  · rcases h2 with h2 | h2
    · have k1 : q * two ≤ three := by
        rw [hthree]
        apply (Nat.le_div_iff_mul_le (Nat.pow_pos (by omega))).mpr
        have t1 : two * b ^ n ≤ sc * v * (b * b) := by rw [htwo]; exact Nat.div_mul_le_self _ _
        have t2 : q * b ^ at_ * (two * b ^ n) ≤ q * b ^ at_ * (sc * v * (b * b)) := Nat.mul_le_mul_left _ t1
        have t3 : sc * (b * b) * (q * (v * b ^ at_)) ≤ sc * (b * b) * u := Nat.mul_le_mul_left _ hq1
        have e1 : q * two * b ^ (at_ + n) = q * b ^ at_ * (two * b ^ n) := by rw [hban]; ac_rfl
        have e2 : q * b ^ at_ * (sc * v * (b * b)) = sc * (b * b) * (q * (v * b ^ at_)) := by ac_rfl
        have e3 : sc * u * (b * b) = sc * (b * b) * u := by ac_rfl
        omega
      apply Nat.le_of_lt_succ
      apply Nat.lt_of_not_le
      intro c
      have : (dig + 1) * two ≤ q * two := Nat.mul_le_mul_right _ c
      omega
    · omega
  · intro _
    apply Nat.le_of_not_lt
    intro c
    -- (q + 2) two ≤ three < (q + 1) (two + 1)
    have k1 : (q + 2) * two ≤ dig * two := Nat.mul_le_mul_right _ c
    have k2 : three < (q + 1) * (two + 1) := by
      rw [hthree]
      apply Nat.div_lt_of_lt_mul
      have t1 : sc * v * (b * b) < (two + 1) * b ^ n := by
        rw [htwo, Nat.mul_comm _ (b ^ n)]; exact Nat.lt_mul_div_succ _ hbn
      have t2 : (q + 1) * b ^ at_ * (sc * v * (b * b)) ≤ (q + 1) * b ^ at_ * ((two + 1) * b ^ n) := Nat.mul_le_mul_left _ (Nat.le_of_lt t1)
      have t3 : sc * (b * b) * u < sc * (b * b) * ((q + 1) * (v * b ^ at_)) := Nat.mul_lt_mul_of_pos_left hq2 (Nat.mul_pos hsc (Nat.mul_pos (by omega) (by omega)))
      have e1 : sc * (b * b) * ((q + 1) * (v * b ^ at_)) = (q + 1) * b ^ at_ * (sc * v * (b * b)) := by ac_rfl
      have e2 : b ^ (at_ + n) * ((q + 1) * (two + 1)) = (q + 1) * b ^ at_ * ((two + 1) * b ^ n) := by rw [hban]; ac_rfl
      have e3 : sc * u * (b * b) = sc * (b * b) * u := by ac_rfl
      omega
    rw [Nat.add_mul] at k1
    rw [Nat.add_mul, Nat.mul_add, Nat.mul_one, Nat.one_mul] at k2
    omega
end
section
/-! limbs of a number, and of one that is moved up by less than a limb -/
/-- limb i of n limbs, 0 beyond -/
def lm (d : Nat → Nat) (n i : Nat) : Nat := if i < n then d i else 0
theorem lm_lt {B : Nat} {d : Nat → Nat} {n : Nat} (hB : 0 < B) (h : ∀ i, i < n → d i < B) (i : Nat) : lm d n i < B := by
  unfold lm; split
  · exact h i (by omega)
  · exact hB
theorem bv_div {B : Nat} {d : Nat → Nat} {n i : Nat} (hB : 0 < B) (h : ∀ k, k < n → d k < B) (hi : i ≤ n) : bv B d n / B ^ i = bv B (fun k => d (i + k)) (n - i) ∧ bv B d n % B ^ i = bv B d i := by
  obtain ⟨r, rfl⟩ : ∃ r, n = i + r := ⟨n - i, by omega⟩
  have h1 : bv B d i < B ^ i := bv_lt (fun k hk => h k (by omega))
  have hp : 0 < B ^ i := Nat.pow_pos hB
  rw [bv_split B d i r, Nat.add_sub_cancel_left]
  constructor
  · rw [Nat.add_mul_div_left _ _ hp, Nat.div_eq_of_lt h1, Nat.zero_add]
  · rw [Nat.add_mul_mod_self_left, Nat.mod_eq_of_lt h1]
theorem bv_hi {B : Nat} {d : Nat → Nat} {n i : Nat} (hB : 0 < B) (h : ∀ k, k < n → d k < B) (hi : n ≤ i) : bv B d n / B ^ i = 0 ∧ bv B d n % B ^ i = bv B d n := by
  have h1 : bv B d n < B ^ n := bv_lt h
  have h2 : B ^ n ≤ B ^ i := Nat.pow_le_pow_right hB hi
  exact ⟨Nat.div_eq_of_lt (by omega), Nat.mod_eq_of_lt (by omega)⟩
theorem bv_limb {B : Nat} {d : Nat → Nat} {n i : Nat} (hB : 0 < B) (h : ∀ k, k < n → d k < B) : bv B d n / B ^ i % B = lm d n i := by
  unfold lm
  split
  · rename_i hi
    rw [(bv_div hB h (by omega)).1, show n - i = 1 + (n - i - 1) by omega, bv_split B _ 1, Nat.pow_one, Nat.add_mul_mod_self_left]
    show (0 + d (i + 0) * B ^ 0) % B = d i
    rw [Nat.zero_add, Nat.pow_zero, Nat.mul_one, Nat.add_zero, Nat.mod_eq_of_lt (h i hi)]
  · rw [(bv_hi hB h (by omega)).1, Nat.zero_mod]
/-- limb i + 1 of the number moved up by s -/
theorem lm_shift {v s t i : Nat} : v * 2 ^ s / (2 ^ s * 2 ^ t) ^ (i + 1) % (2 ^ s * 2 ^ t) = (v / (2 ^ s * 2 ^ t) ^ (i + 1) % (2 ^ s * 2 ^ t) * 2 ^ s + v / (2 ^ s * 2 ^ t) ^ i % (2 ^ s * 2 ^ t) / 2 ^ t) % (2 ^ s * 2 ^ t) := by
  generalize hS : 2 ^ s = S
  generalize hT : 2 ^ t = T
  have hS0 : 0 < S := by rw [← hS]; exact Nat.two_pow_pos s
  have hT0 : 0 < T := by rw [← hT]; exact Nat.two_pow_pos t
  generalize hB : S * T = B
  have hB0 : 0 < B := by rw [← hB]; exact Nat.mul_pos hS0 hT0
  generalize hP : B ^ i = P
  have hP0 : 0 < P := by rw [← hP]; exact Nat.pow_pos hB0
  have e1 : B ^ (i + 1) = P * B := by rw [← hP, Nat.pow_succ]
  rw [e1, ← Nat.div_div_eq_div_mul v P B, ← Nat.div_div_eq_div_mul (v * S) P B]
  generalize hq : v / P = q
  have hv : v = P * q + v % P := by rw [← hq]; exact (Nat.div_add_mod v P).symm
  have hr : v % P < P := Nat.mod_lt _ hP0
  generalize v % P = r at hv hr
  have e2 : v * S / P = q * S + r * S / P := by
    rw [hv, Nat.add_mul, Nat.mul_assoc, Nat.mul_add_div hP0]
  have e3 : r * S / P < S := by
    apply Nat.div_lt_of_lt_mul
    exact Nat.mul_lt_mul_of_pos_right hr hS0
  rw [e2]
  generalize r * S / P = z at e3
  -- q S + z, by B = S T
  have e4 : (q * S + z) / B = q / T := by
    rw [← hB, ← Nat.div_div_eq_div_mul, Nat.mul_comm q S, Nat.mul_add_div hS0, Nat.div_eq_of_lt e3, Nat.add_zero]
  rw [e4]
  -- q / T % B = (q / B % B * S + q % B / T) % B
  have e5 : q = B * (q / B) + q % B := (Nat.div_add_mod q B).symm
  have e6 : q / T = S * (q / B) + q % B / T := by
    have : B * (q / B) = T * (S * (q / B)) := by rw [← hB, Nat.mul_comm S T, Nat.mul_assoc]
    rw [this] at e5
    calc q / T = (T * (S * (q / B)) + q % B) / T := by rw [← e5]
      _ = S * (q / B) + q % B / T := Nat.mul_add_div hT0 _ _
  have e7 : q / B * S % B = q / B % B * S % B := by rw [Nat.mul_mod (q / B) S, Nat.mul_mod (q / B % B) S, Nat.mod_mod]
  rw [e6, Nat.mul_comm S, Nat.add_mod, e7, ← Nat.add_mod]
end
section
/-! Euclid's row, and leaps along it -/
def fb : Nat → Nat
  | 0 => 0
  | 1 => 1
  | n + 2 => fb n + fb (n + 1)
theorem fb_add (m : Nat) : ∀ n : Nat, fb (m + n + 1) = fb (m + 1) * fb (n + 1) + fb m * fb n ∧ fb (m + n + 2) = fb (m + 1) * fb (n + 2) + fb m * fb (n + 1)
  | 0 => by
    constructor
    · simp [fb]
    · show fb m + fb (m + 1) = fb (m + 1) * fb 2 + fb m * fb 1
      simp [fb]; omega
  | n + 1 => by
    obtain ⟨h1, h2⟩ := fb_add m n
    constructor
    · show fb (m + n + 2) = _
      exact h2
    · show fb (m + n + 1) + fb (m + n + 2) = _
      have e3 : fb (m + 1) * fb (n + 1 + 2) = fb (m + 1) * fb (n + 1) + fb (m + 1) * fb (n + 2) := by rw [← Nat.mul_add]; rfl
      have e2 : fb m * fb (n + 1 + 1) = fb m * fb n + fb m * fb (n + 1) := by rw [← Nat.mul_add]; rfl
      rw [h1, h2, e3, e2]
      omega
theorem fb_mul (m n : Nat) : fb m * fb n ≤ fb (m + n) := by
  rcases m with _ | m
  · simp [fb]
  · rcases n with _ | n
    · simp [fb]
    · have h := (fb_add m (n + 1)).1
      have h2 : fb (m + 1) * fb (n + 1) ≤ fb (m + 1) * fb (n + 1 + 1) := Nat.mul_le_mul_left _ (by show fb (n + 1) ≤ fb n + fb (n + 1); omega)
      rw [show m + 1 + (n + 1) = m + (n + 1) + 1 by omega, h]
      omega
theorem fb_mono (n : Nat) : fb (n + 1) ≤ fb (n + 2) := by show fb (n + 1) ≤ fb n + fb (n + 1); omega
theorem fb_100 : 2 ^ 68 ≤ fb 100 := by
  have h5 : fb 20 = 6765 := by decide
  have h6 : fb 21 = 10946 := by decide
  have a40 := (fb_add 20 19).1
  have a41 := (fb_add 20 20).1
  have h19 : fb 19 = 4181 := by decide
  have h40 : fb 40 = 102334155 := by rw [show 40 = 20 + 19 + 1 from rfl, a40, h6, h19]; show 10946 * fb 20 + fb 20 * 4181 = _; rw [h5]
  have h41 : fb 41 = 165580141 := by rw [show 41 = 20 + 20 + 1 from rfl, a41, h6, h5]
  have h39 : fb 39 = 63245986 := by
    have : fb 41 = fb 39 + fb 40 := rfl
    omega
  have h80 : fb 80 = 23416728348467685 := by rw [show 80 = 40 + 39 + 1 from rfl, (fb_add 40 39).1, h41, h39]; show 165580141 * fb 40 + fb 40 * 63245986 = _; rw [h40]
  have h81 : fb 81 = 37889062373143906 := by rw [show 81 = 40 + 40 + 1 from rfl, (fb_add 40 40).1, h41, h40]
  have h100 : fb 100 = 354224848179261915075 := by rw [show 100 = 80 + 19 + 1 from rfl, (fb_add 80 19).1, h81, h80, h19]; show 37889062373143906 * fb 20 + _ = _; rw [h5]
  rw [h100]; decide
theorem fb_big : ∀ k : Nat, (2 ^ 68) ^ k ≤ fb (100 * k + 1)
  | 0 => by decide
  | k + 1 => by
    have h := fb_big k
    have h2 := fb_mul 100 (100 * k + 1)
    have h3 : (2 ^ 68) ^ k * 2 ^ 68 ≤ fb (100 * k + 1) * fb 100 := Nat.mul_le_mul h fb_100
    rw [Nat.pow_succ, show 100 * (k + 1) + 1 = 100 + (100 * k + 1) by omega]
    rw [Nat.mul_comm (fb 100)] at h2
    omega
theorem fb_6201 : 2 ^ 4216 ≤ fb 6201 := by
  have h := fb_big 62
  rw [← Nat.pow_mul] at h
  exact h
/-- at most k steps of Euclid's are left for x and y -/
def eu_Q (k x y : Nat) : Prop := y < fb (k + 1) ∨ x < fb (k + 2)
theorem eu_0 {x y : Nat} (h : eu_Q 0 x y) (hy : y ≤ x) : y = 0 := by
  rcases h with h | h
  · have : y < 1 := h
    omega
  · have : x < 1 := h
    omega
theorem eu_s {k x y : Nat} (h : eu_Q (k + 1) x y) (hy : y ≤ x) (h0 : 0 < y) : eu_Q k y (x % y) := by
  by_cases c : y < fb (k + 2)
  · exact Or.inr c
  · rcases h with h | h
    · exact absurd h c
    · refine Or.inl ?_
      have h1 : x < fb (k + 1) + fb (k + 2) := h
      have h2 : x % y ≤ x - y := by
        rw [Nat.mod_eq_sub_mod hy]
        exact Nat.mod_le _ _
      omega
theorem eu_mono {k x y : Nat} (h : eu_Q k x y) : eu_Q (k + 1) x y := by
  have h1 := fb_mono k
  have h2 := fb_mono (k + 1)
  rcases h with h | h
  · exact Or.inl (by show y < fb (k + 2); omega)
  · exact Or.inr (by show x < fb (k + 1 + 2); exact Nat.lt_of_lt_of_le h h2)
/-- Euclid's row from (x, y) to (a, b): n steps -/
def eu_R : Nat → Nat → Nat → Nat → Nat → Prop
  | 0, x, y, a, b => a = x ∧ b = y
  | n + 1, x, y, a, b => ∃ a0 b0 : Nat, eu_R n x y a0 b0 ∧ 0 < b0 ∧ a = b0 ∧ b = a0 % b0
theorem eu_R.le {x y : Nat} (h : y ≤ x) : ∀ {n a b : Nat}, eu_R n x y a b → b ≤ a
  | 0, a, b, q => by obtain ⟨rfl, rfl⟩ := q; exact h
  | n + 1, a, b, q => by
    obtain ⟨a0, b0, -, h0, rfl, rfl⟩ := q
    exact Nat.le_of_lt (Nat.mod_lt _ h0)
theorem eu_R.gcd {x y : Nat} : ∀ {n a b : Nat}, eu_R n x y a b → Nat.gcd a b = Nat.gcd x y
  | 0, a, b, q => by obtain ⟨rfl, rfl⟩ := q; rfl
  | n + 1, a, b, q => by
    obtain ⟨a0, b0, h1, h0, rfl, rfl⟩ := q
    rw [← eu_R.gcd h1]
    exact (Nat.gcd_comm _ _).trans ((Nat.gcd_rec _ _).symm.trans (Nat.gcd_comm _ _))
theorem eu_R.Q {x y : Nat} (hy : y ≤ x) : ∀ {n k a b : Nat}, eu_R n x y a b → eu_Q (k + n) x y → eu_Q k a b
  | 0, k, a, b, q, h => by obtain ⟨rfl, rfl⟩ := q; exact h
  | n + 1, k, a, b, q, h => by
    obtain ⟨a0, b0, h1, h0, rfl, rfl⟩ := q
    have := eu_R.Q (k := k + 1) hy h1 (by rw [show k + 1 + n = k + (n + 1) by omega]; exact h)
    exact eu_s this (eu_R.le hy h1) h0
theorem eu_monoN {x y : Nat} {k : Nat} : ∀ (n : Nat), eu_Q k x y → eu_Q (k + n) x y
  | 0, h => h
  | n + 1, h => eu_mono (eu_monoN n h)
/-- a leap's step: q is the quotient of all numbers that begin so -/
theorem lh_step {x y c d r1 r2 hi0 lo0 f g h k hi lo q : Int} (hd : 0 < d) (hc : 0 < c) (hX : x * c = hi0 * d + r1) (hY : y * c = lo0 * d + r2) (h1 : 0 ≤ r1) (h2 : r1 < d) (h3 : 0 ≤ r2) (h4 : r2 < d) (hhi : hi = f * hi0 + g * lo0) (hlo : lo = h * hi0 + k * lo0)
    (hs : (0 ≤ f ∧ g ≤ 0 ∧ h ≤ 0 ∧ 0 ≤ k) ∨ (f ≤ 0 ∧ 0 ≤ g ∧ 0 ≤ h ∧ k ≤ 0)) (p1 : 0 < lo + h) (p2 : 0 < lo + k) (hq : 0 ≤ q)
    (q1 : q * (lo + h) ≤ hi + f) (q2 : hi + f < (q + 1) * (lo + h)) (q3 : q * (lo + k) ≤ hi + g) (q4 : hi + g < (q + 1) * (lo + k)) :
    0 < h * x + k * y ∧ q * (h * x + k * y) ≤ f * x + g * y ∧ f * x + g * y < (q + 1) * (h * x + k * y) ∧ 0 ≤ hi - q * lo := by
  have eb : (h * x + k * y) * c = lo * d + h * r1 + k * r2 := by
    have e1 : (h * x + k * y) * c = h * (x * c) + k * (y * c) := by grind
    rw [e1, hX, hY, hlo]; grind
  have ea : (f * x + g * y) * c = hi * d + f * r1 + g * r2 := by
    have e1 : (f * x + g * y) * c = f * (x * c) + g * (y * c) := by grind
    rw [e1, hX, hY, hhi]; grind
  have pos : ∀ z : Int, 0 < z * c → 0 < z := fun z hz => Int.pos_of_mul_pos_right (by rw [Int.mul_comm]; exact hz) hc
  have nn : ∀ z : Int, 0 ≤ z * c → 0 ≤ z := fun z hz => by
    apply Int.not_lt.mp
    intro q
    have := Int.mul_neg_of_neg_of_pos q hc
    omega
  rcases hs with ⟨f0, g0, h0, k0⟩ | ⟨f0, g0, h0, k0⟩
  · have m1 : h * d ≤ h * r1 := Int.mul_le_mul_of_nonpos_left h0 (by omega)
    have m2 : 0 ≤ k * r2 := Int.mul_nonneg k0 h3
    have b1 : 0 < (lo + h) * d := Int.mul_pos p1 hd
    have c1 : 0 ≤ q * h * -1 := by
      have := Int.mul_nonneg hq (show 0 ≤ -h by omega)
      grind
    have c2 : 0 ≤ q * k := Int.mul_nonneg hq k0
    refine ⟨pos _ ?_, ?_, ?_, ?_⟩
    · rw [eb]; grind
    · have w1 : 0 ≤ (f - q * h) * r1 := Int.mul_nonneg (by grind) h1
      have w2 : (g - q * k) * d ≤ (g - q * k) * r2 := Int.mul_le_mul_of_nonpos_left (by grind) (by omega)
      have w3 : 0 ≤ (hi + g - q * (lo + k)) * d := Int.mul_nonneg (by omega) (by omega)
      have : 0 ≤ (f * x + g * y - q * (h * x + k * y)) := nn _ (by
        have : (f * x + g * y - q * (h * x + k * y)) * c = (f * x + g * y) * c - q * ((h * x + k * y) * c) := by grind
        rw [this, ea, eb]; grind)
      omega
    · have w1 : 0 ≤ ((q + 1) * k - g) * r2 := Int.mul_nonneg (by grind) h3
      have w2 : ((q + 1) * h - f) * d ≤ ((q + 1) * h - f) * r1 := Int.mul_le_mul_of_nonpos_left (by grind) (by omega)
      have w3 : 0 < ((q + 1) * (lo + h) - (hi + f)) * d := Int.mul_pos (by omega) (by omega)
      have : 0 < ((q + 1) * (h * x + k * y) - (f * x + g * y)) := pos _ (by
        have : ((q + 1) * (h * x + k * y) - (f * x + g * y)) * c = (q + 1) * ((h * x + k * y) * c) - (f * x + g * y) * c := by grind
        rw [this, ea, eb]; grind)
      omega
    · grind
  · have m1 : k * d ≤ k * r2 := Int.mul_le_mul_of_nonpos_left k0 (by omega)
    have m2 : 0 ≤ h * r1 := Int.mul_nonneg h0 h1
    have b1 : 0 < (lo + k) * d := Int.mul_pos p2 hd
    have c1 : 0 ≤ q * k * -1 := by
      have := Int.mul_nonneg hq (show 0 ≤ -k by omega)
      grind
    have c2 : 0 ≤ q * h := Int.mul_nonneg hq h0
    refine ⟨pos _ ?_, ?_, ?_, ?_⟩
    · rw [eb]; grind
    · have w1 : 0 ≤ (g - q * k) * r2 := Int.mul_nonneg (by grind) h3
      have w2 : (f - q * h) * d ≤ (f - q * h) * r1 := Int.mul_le_mul_of_nonpos_left (by grind) (by omega)
      have w3 : 0 ≤ (hi + f - q * (lo + h)) * d := Int.mul_nonneg (by omega) (by omega)
      have : 0 ≤ (f * x + g * y - q * (h * x + k * y)) := nn _ (by
        have : (f * x + g * y - q * (h * x + k * y)) * c = (f * x + g * y) * c - q * ((h * x + k * y) * c) := by grind
        rw [this, ea, eb]; grind)
      omega
    · have w1 : 0 ≤ ((q + 1) * h - f) * r1 := Int.mul_nonneg (by grind) h1
      have w2 : ((q + 1) * k - g) * d ≤ ((q + 1) * k - g) * r2 := Int.mul_le_mul_of_nonpos_left (by grind) (by omega)
      have w3 : 0 < ((q + 1) * (lo + k) - (hi + g)) * d := Int.mul_pos (by omega) (by omega)
      have : 0 < ((q + 1) * (h * x + k * y) - (f * x + g * y)) := pos _ (by
        have : ((q + 1) * (h * x + k * y) - (f * x + g * y)) * c = (q + 1) * ((h * x + k * y) * c) - (f * x + g * y) * c := by grind
        rw [this, ea, eb]; grind)
      omega
    · grind
end
section
/-! the array classes, the contracts' forms, the words of calls, Math's rows -/
abbrev tysL (ty : Nat → ClassId) : List (ClassId × FieldType) := [(ty 0, .int), (ty 1, .char), (ty 2, .object "FractionDesk$Fraction"), (ty 3, .long), (ty 4, .boolean)]
abbrev CI (l : Launch) (y : MethodName) (ws : List Cond) (rm : Room) (av : List Value) (D : va_G) (ty : Nat → ClassId) (ad : Nat → Nat) (M : Nat) (F : Nat → va_E) (sz : Nat) (post : Int32 → (Nat → va_E) → Prop) : Prop :=
  Met l y ws rm (va_Pc av (pPre D classes (tysL ty) ad M F sz)) (va_Qi post (pAt D classes (tysL ty) ad M (pA ad M sz)) (pA ad M sz)) 0 0 (pA ad M sz)
abbrev CJ (l : Launch) (y : MethodName) (ws : List Cond) (rm : Room) (av : List Value) (D : va_G) (ty : Nat → ClassId) (ad : Nat → Nat) (M : Nat) (F : Nat → va_E) (sz : Nat) (post : Int64 → (Nat → va_E) → Prop) : Prop :=
  Met l y ws rm (va_Pc av (pPre D classes (tysL ty) ad M F sz)) (va_Ql post (pAt D classes (tysL ty) ad M (pA ad M sz)) (pA ad M sz)) 0 0 (pA ad M sz)
abbrev CV (l : Launch) (y : MethodName) (ws : List Cond) (rm : Room) (av : List Value) (D : va_G) (ty : Nat → ClassId) (ad : Nat → Nat) (M : Nat) (F : Nat → va_E) (sz : Nat) (post : (Nat → va_E) → Prop) : Prop :=
  Met l y ws rm (va_Pc av (pPre D classes (tysL ty) ad M F sz)) (va_Qv post (pAt D classes (tysL ty) ad M (pA ad M sz)) (pA ad M sz)) 0 0 (pA ad M sz)
abbrev CR (l : Launch) (y : MethodName) (ws : List Cond) (rm : Room) (av : List Value) (D : va_G) (ty : Nat → ClassId) (ad : Nat → Nat) (M : Nat) (F : Nat → va_E) (sz : Nat) (post : Nat × (Nat → va_E) → Prop) : Prop :=
  Met l y ws rm (va_Pc av (pPre D classes (tysL ty) ad M F sz)) (va_Qr post (pAtR D classes (tysL ty) ad M (pA ad M sz)) (pA ad M sz)) 0 0 (pA ad M sz)
theorem gT {y : MethodName} {b : ByteArray} {n : Nat} {r : Option FieldType} (h : (.code y b n r : Cond) ∈ wT) : GoodIn wT (.code y b n r :: wT) := by
  intro w hw
  rcases List.mem_cons.mp hw with rfl | hw
  · exact ⟨h, wT_all _ h⟩
  · exact ⟨hw, wT_all _ hw⟩
theorem gV {own C : String} {idx : Nat} {y : MethodName} {b : ByteArray} {n : Nat} {r : Option FieldType} (h1 : (.methodLink own idx y : Cond) ∈ wT) (h2 : (.instanceMethod y : Cond) ∈ wT) (h3 : (.selects C y y : Cond) ∈ wT) (h4 : (.initialized C : Cond) ∈ wT) (h5 : (.code y b n r : Cond) ∈ wT) : GoodIn wT (wsV own idx C y (.code y b n r :: wT)) := by
  intro w hw
  rcases List.mem_append.mp hw with hw | hw
  · have : w ∈ wT := by
      rcases List.mem_cons.mp hw with rfl | hw
      · exact h1
      · rcases List.mem_cons.mp hw with rfl | hw
        · exact h2
        · rcases List.mem_cons.mp hw with rfl | hw
          · exact h3
          · rcases List.mem_cons.mp hw with rfl | hw
            · exact h4
            · cases hw
    exact ⟨this, wT_all _ this⟩
  · exact gT h5 w hw
theorem gS {own : String} {idx : Nat} {y : MethodName} {b : ByteArray} {n : Nat} {r : Option FieldType} (h1 : (.methodLink own idx y : Cond) ∈ wT) (h2 : (.static y : Cond) ∈ wT) (h4 : (.initialized y.cls : Cond) ∈ wT) (h5 : (.code y b n r : Cond) ∈ wT) : GoodIn wT (va_wsS own idx y (.code y b n r :: wT)) := by
  intro w hw
  rcases List.mem_append.mp hw with hw | hw
  · have : w ∈ wT := by
      rcases List.mem_cons.mp hw with rfl | hw
      · exact h1
      · rcases List.mem_cons.mp hw with rfl | hw
        · exact h2
        · rcases List.mem_cons.mp hw with rfl | hw
          · exact h4
          · cases hw
    exact ⟨this, wT_all _ this⟩
  · exact gT h5 w hw
section WM
variable {p : Program} {l : Launch} {e : Env} {R : Room} {s : State} {m : MethodId} {args : Array Value} {below : List Frame} {meth : Method} {c : Code} {H : Heap} {locs : List Loc} {cells slots : Nat} {Q : State → Prop}
variable {pc : Nat} {ls : Array Slot} {rest : List Value} {cc : ByteArray}
theorem wz_mmax (hexec : p.tables.exec = Jvm.exec) (hb : c.code = cc) (hml : c.maxLocals = ls.size) {own : String} {index : Nat} (hown : s.vm.findClass own = some m.cls) (hlink : (Cond.methodLink own index Lib.Math.max.name).before args s = true) (hstat : (Cond.static Lib.Math.max.name).before args s = true) (hini : (Cond.initialized "java/lang/Math").before args s = true) (hcode : (Cond.code Lib.Math.max.name Lib.Math.max.code 2 (some .int)).before args s = true)
    (hframes : 1 ≤ R.frames) (hlocals : (rest.map fun v => v.category).sum + 13 ≤ R.locals) (hc : cells ≤ R.cells) (hs : slots ≤ R.slots) {a b z : Int} (h1 : -2147483648 ≤ a) (h2 : a < 2147483648) (h3 : -2147483648 ≤ b) (h4 : b < 2147483648) (hz : max a b = z) (hdg : decode cc pc = .ok (.invokestatic index, 3))
    (kk : W p l e R s m args below meth c H locs cells slots Q (F0 m (pc + 3) ls (.int (iI z) :: rest))) : W p l e R s m args below meth c H locs cells slots Q (F0 m pc ls (.int (iI b) :: .int (iI a) :: rest)) := by
  refine va_mmax hexec hb hml hown hlink hstat hini hcode hframes hlocals hc hs hdg ?_
  have : (if iI a < iI b then iI b else iI a) = iI z := by
    by_cases q : a < b
    · rw [if_pos ((iI_lt h1 h2 h3 h4).mpr q)]; congr 1; omega
    · rw [if_neg (fun x => q ((iI_lt h1 h2 h3 h4).mp x))]; congr 1; omega
  rw [this]; exact kk
theorem wz_mmin (hexec : p.tables.exec = Jvm.exec) (hb : c.code = cc) (hml : c.maxLocals = ls.size) {own : String} {index : Nat} (hown : s.vm.findClass own = some m.cls) (hlink : (Cond.methodLink own index Lib.Math.min.name).before args s = true) (hstat : (Cond.static Lib.Math.min.name).before args s = true) (hini : (Cond.initialized "java/lang/Math").before args s = true) (hcode : (Cond.code Lib.Math.min.name Lib.Math.min.code 2 (some .int)).before args s = true)
    (hframes : 1 ≤ R.frames) (hlocals : (rest.map fun v => v.category).sum + 13 ≤ R.locals) (hc : cells ≤ R.cells) (hs : slots ≤ R.slots) {a b z : Int} (h1 : -2147483648 ≤ a) (h2 : a < 2147483648) (h3 : -2147483648 ≤ b) (h4 : b < 2147483648) (hz : min a b = z) (hdg : decode cc pc = .ok (.invokestatic index, 3))
    (kk : W p l e R s m args below meth c H locs cells slots Q (F0 m (pc + 3) ls (.int (iI z) :: rest))) : W p l e R s m args below meth c H locs cells slots Q (F0 m pc ls (.int (iI b) :: .int (iI a) :: rest)) := by
  refine va_mmin hexec hb hml hown hlink hstat hini hcode hframes hlocals hc hs hdg ?_
  have : (if iI b < iI a then iI b else iI a) = iI z := by
    by_cases q : b < a
    · rw [if_pos ((iI_lt h3 h4 h1 h2).mpr q)]; congr 1; omega
    · rw [if_neg (fun x => q ((iI_lt h3 h4 h1 h2).mp x))]; congr 1; omega
  rw [this]; exact kk
theorem wz_mabs (hexec : p.tables.exec = Jvm.exec) (hb : c.code = cc) (hml : c.maxLocals = ls.size) {own : String} {index : Nat} (hown : s.vm.findClass own = some m.cls) (hlink : (Cond.methodLink own index Lib.Math.abs.name).before args s = true) (hstat : (Cond.static Lib.Math.abs.name).before args s = true) (hini : (Cond.initialized "java/lang/Math").before args s = true) (hcode : (Cond.code Lib.Math.abs.name Lib.Math.abs.code 1 (some .int)).before args s = true)
    (hframes : 1 ≤ R.frames) (hlocals : (rest.map fun v => v.category).sum + 13 ≤ R.locals) (hc : cells ≤ R.cells) (hs : slots ≤ R.slots) {a z : Int} (h1 : -2147483648 ≤ a) (h2 : a < 2147483648) (hz : (a.natAbs : Int) = z) (hdg : decode cc pc = .ok (.invokestatic index, 3))
    (kk : W p l e R s m args below meth c H locs cells slots Q (F0 m (pc + 3) ls (.int (iI z) :: rest))) : W p l e R s m args below meth c H locs cells slots Q (F0 m pc ls (.int (iI a) :: rest)) := by
  refine va_mabs hexec hb hml hown hlink hstat hini hcode hframes hlocals hc hs hdg ?_
  have : (if 0 ≤ iI a then iI a else 0 - iI a) = iI z := by
    rw [show (0 : Int32) = iI 0 from rfl]
    by_cases q : 0 ≤ a
    · rw [if_pos ((iI_le (by omega) (by omega) h1 h2).mpr q)]; congr 1; omega
    · rw [if_neg (fun x => q ((iI_le (by omega) (by omega) h1 h2).mp x)), iI_sub]; congr 1; omega
  rw [this]; exact kk
theorem wz_mabsl (hexec : p.tables.exec = Jvm.exec) (hb : c.code = cc) (hml : c.maxLocals = ls.size) {own : String} {index : Nat} (hown : s.vm.findClass own = some m.cls) (hlink : (Cond.methodLink own index Lib.MathLoose.abs_long.x).before args s = true) (hstat : (Cond.static Lib.MathLoose.abs_long.x).before args s = true) (hini : (Cond.initialized "java/lang/Math").before args s = true) (hcode : (Cond.code Lib.MathLoose.abs_long.x Lib.MathLoose.abs_long.code 2 (some .long)).before args s = true)
    (hframes : 1 ≤ R.frames) (hlocals : (rest.map fun v => v.category).sum + 13 ≤ R.locals) (hc : cells ≤ R.cells) (hs : slots ≤ R.slots) {a z : Int} (h1 : -9223372036854775808 ≤ a) (h2 : a < 9223372036854775808) (hz : (a.natAbs : Int) = z) (hdg : decode cc pc = .ok (.invokestatic index, 3))
    (kk : W p l e R s m args below meth c H locs cells slots Q (F0 m (pc + 3) ls (.long (iL z) :: rest))) : W p l e R s m args below meth c H locs cells slots Q (F0 m pc ls (.long (iL a) :: rest)) := by
  refine va_mabs_long hexec hb hml hown hlink hstat hini hcode hframes hlocals hc hs hdg ?_
  rw [iL_uabs h1 h2, hz]; exact kk
end WM
/-! a Whole: its object is cell w, its limbs are cell w + 1 -/
abbrev oW (ad : Nat → Nat) (w : Nat) (n : Int) : va_E := .inr (0, [.ref (ad (w + 1)), .int (iI n)])
abbrev aI (ty : Nat → ClassId) (N : Nat) (g : Nat → Int32) : va_E := .inl (ty 0, N, .inl g)
/-- the Whole w, with room for N limbs, has n limbs g -/
def Wh (ty : Nat → ClassId) (ad : Nat → Nat) (F : Nat → va_E) (w N n : Nat) (g : Nat → Int32) : Prop := F w = oW ad w n ∧ F (w + 1) = aI ty N g
/-- n limbs g tell the number v -/
def Wok (N n : Nat) (g : Nat → Int32) (v : Nat) : Prop := n ≤ N ∧ (∀ i, i < n → dl g i < 2147483648) ∧ (n = 0 ∨ dl g (n - 1) ≠ 0) ∧ bv 2147483648 (dl g) n = v
def Wv (ty : Nat → ClassId) (ad : Nat → Nat) (F : Nat → va_E) (w N v : Nat) : Prop := ∃ n g, Wh ty ad F w N n g ∧ Wok N n g v
/-- it is there, whatever it tells -/
def Wa (ty : Nat → ClassId) (ad : Nat → Nat) (F : Nat → va_E) (w N : Nat) : Prop := ∃ n g, Wh ty ad F w N n g
theorem Wv.a {ty : Nat → ClassId} {ad : Nat → Nat} {F : Nat → va_E} {w N v : Nat} (h : Wv ty ad F w N v) : Wa ty ad F w N := let ⟨n, g, h, _⟩ := h; ⟨n, g, h⟩
theorem Wv.mv {ty : Nat → ClassId} {ad : Nat → Nat} {F F' : Nat → va_E} {w N v : Nat} (h : Wv ty ad F w N v) (e1 : F' w = F w) (e2 : F' (w + 1) = F (w + 1)) : Wv ty ad F' w N v := by
  obtain ⟨n, g, ⟨h1, h2⟩, h3⟩ := h
  exact ⟨n, g, ⟨e1.trans h1, e2.trans h2⟩, h3⟩
theorem Wa.mv {ty : Nat → ClassId} {ad : Nat → Nat} {F F' : Nat → va_E} {w N : Nat} (h : Wa ty ad F w N) (e1 : F' w = F w) (e2 : F' (w + 1) = F (w + 1)) : Wa ty ad F' w N := by
  obtain ⟨n, g, h1, h2⟩ := h
  exact ⟨n, g, e1.trans h1, e2.trans h2⟩
/-- nothing changed but cells w and w + 1 -/
def fr2 (F F' : Nat → va_E) (w : Nat) : Prop := ∀ x, x ≠ w → x ≠ w + 1 → F' x = F x
end
section
/-! what a Whole's limbs tell -/
theorem iL_m31 (a : Int) : iL a &&& iL 2147483647 = iL (a % 2147483648) := iL_mask (k := 31) (by decide) a
theorem iL_m32 (a : Int) : iL a &&& iL 4294967295 = iL (a % 4294967296) := iL_mask (k := 32) (by decide) a
theorem iI_m31 {a : Nat} (h : a < 4294967296) : iI a &&& iI 2147483647 = iI ((a % 2147483648 : Nat) : Int) := iI_mask (k := 31) (by decide) h
theorem Wok.zero {N n v : Nat} {g : Nat → Int32} (h : Wok N n g v) : v = 0 ↔ n = 0 := by
  rw [← h.2.2.2]; exact bv_eq0 (by decide) h.2.2.1
theorem Wok.one {N n v : Nat} {g : Nat → Int32} (h : Wok N n g v) : v = 1 ↔ n = 1 ∧ dl g 0 = 1 := by
  obtain ⟨-, h2, h3, h4⟩ := h
  rw [← h4]
  rcases n with _ | n
  · simp [bv_0]
  · rcases n with _ | n
    · show 0 + dl g 0 * 2147483648 ^ 0 = 1 ↔ _
      simp
    · have h5 : 2147483648 ^ (n + 1) ≤ bv 2147483648 (dl g) (n + 1 + 1) := bv_top (by rcases h3 with h | h; omega; exact h)
      have h6 : 2147483648 ^ 1 ≤ 2147483648 ^ (n + 1) := Nat.pow_le_pow_right (by decide) (by omega)
      constructor
      · intro q; omega
      · intro q; omega
/-- what trim leaves -/
theorem Wok.trim {N len k : Nat} {g : Nat → Int32} (hlen : len ≤ N) (hk : k ≤ len) (hd : ∀ i, i < len → dl g i < 2147483648) (hz : ∀ i, k ≤ i → i < len → g i = 0) (ht : k = 0 ∨ g (k - 1) ≠ 0) : Wok N k g (bv 2147483648 (dl g) len) := by
  refine ⟨by omega, fun i hi => hd i (by omega), ?_, (bv_trim hk (fun i h1 h2 => ?_)).symm⟩
  · rcases ht with h | h
    · exact Or.inl h
    · rcases Nat.eq_zero_or_pos k with c | c
      · exact Or.inl c
      · refine Or.inr (fun q => h ?_)
        rw [dl_get (hd (k - 1) (by omega)), q]; rfl
  · show (g i).toBitVec.toNat = 0
    rw [hz i h1 h2]; rfl
theorem Wok.fits {N n v R : Nat} {g : Nat → Int32} (h : Wok N n g v) (hv : v < 2147483648 ^ R) : n ≤ R := by
  obtain ⟨-, h2, h3, h4⟩ := h
  apply Nat.le_of_not_lt
  intro c
  obtain ⟨j, rfl⟩ : ∃ j, n = j + 1 := ⟨n - 1, by omega⟩
  have h5 : 2147483648 ^ j ≤ bv 2147483648 (dl g) (j + 1) := bv_top (by rcases h3 with h | h; omega; exact h)
  have h6 : 2147483648 ^ R ≤ 2147483648 ^ j := Nat.pow_le_pow_right (by decide) (by omega)
  omega
theorem Wok.lt {N n v : Nat} {g : Nat → Int32} (h : Wok N n g v) : v < 2147483648 ^ n := by
  rw [← h.2.2.2]; exact bv_lt h.2.1
theorem Wok.ltN {N n v : Nat} {g : Nat → Int32} (h : Wok N n g v) : v < 2147483648 ^ N := Nat.lt_of_lt_of_le h.lt (Nat.pow_le_pow_right (by decide) h.1)
theorem Wok.ge {N n v : Nat} {g : Nat → Int32} (h : Wok N n g v) (hn : 0 < n) : 2147483648 ^ (n - 1) ≤ v := by
  obtain ⟨-, h2, h3, h4⟩ := h
  obtain ⟨j, rfl⟩ : ∃ j, n = j + 1 := ⟨n - 1, by omega⟩
  rw [← h4]
  exact bv_top (by rcases h3 with h | h; omega; exact h)
theorem Wok.congr {N N' n v : Nat} {g g' : Nat → Int32} (h : Wok N n g v) (hN : n ≤ N') (e : ∀ i, i < n → g' i = g i) : Wok N' n g' v := by
  obtain ⟨-, h2, h3, h4⟩ := h
  have e2 : ∀ i, i < n → dl g' i = dl g i := fun i hi => by show (g' i).toBitVec.toNat = _; rw [e i hi]; rfl
  refine ⟨hN, fun i hi => by rw [e2 i hi]; exact h2 i hi, ?_, by rw [bv_congr e2]; exact h4⟩
  rcases Nat.eq_zero_or_pos n with c | c
  · exact Or.inl c
  · rw [e2 (n - 1) (by omega)]; exact h3
/-- binary places -/
def bl (v : Nat) : Nat := if v = 0 then 0 else v.log2 + 1
theorem bl_le {v k : Nat} : bl v ≤ k ↔ v < 2 ^ k := by
  unfold bl
  split
  · rename_i h; subst h
    simp [Nat.two_pow_pos]
  · rename_i h
    rw [← Nat.log2_lt h]; omega
theorem bl_eq {v m : Nat} (h1 : 2 ^ m ≤ v) (h2 : v < 2 ^ (m + 1)) : bl v = m + 1 := by
  have a := bl_le.mpr h2
  have b : ¬ bl v ≤ m := fun q => by have := bl_le.mp q; omega
  omega
theorem pow31 (n : Nat) : 2147483648 ^ n = 2 ^ (31 * n) := by
  rw [Nat.pow_mul]
/-- the places of a number out of those of its highest limb -/
theorem Wok.bl {N n v t : Nat} {g : Nat → Int32} (h : Wok N n g v) (hn : 0 < n) (h1 : 2 ^ t ≤ dl g (n - 1)) (h2 : dl g (n - 1) < 2 ^ (t + 1)) : bl v = 31 * (n - 1) + t + 1 := by
  obtain ⟨-, hd, h3, h4⟩ := h
  obtain ⟨j, rfl⟩ : ∃ j, n = j + 1 := ⟨n - 1, by omega⟩
  rw [Nat.add_sub_cancel] at h1 h2 ⊢
  have hl : bv 2147483648 (dl g) j < 2147483648 ^ j := bv_lt (fun i hi => hd i (by omega))
  rw [bv_s] at h4
  have hP : 2147483648 ^ j = 2 ^ (31 * j) := pow31 j
  have m1 : 2 ^ t * 2147483648 ^ j ≤ dl g j * 2147483648 ^ j := Nat.mul_le_mul_right _ h1
  have m2 : (dl g j + 1) * 2147483648 ^ j ≤ 2 ^ (t + 1) * 2147483648 ^ j := Nat.mul_le_mul_right _ h2
  rw [Nat.add_mul, Nat.one_mul] at m2
  apply bl_eq
  · rw [Nat.add_comm, Nat.pow_add, ← hP]; omega
  · rw [show 31 * j + t + 1 = (t + 1) + 31 * j by omega, Nat.pow_add, ← hP]; omega
/-- three ways to compare -/
def cmpI (a b : Nat) : Int := if a < b then -1 else if a = b then 0 else 1
theorem Wok.cmpS {N N' n k a b : Nat} {g h : Nat → Int32} (ha : Wok N n g a) (hb : Wok N' k h b) (c : n < k) : a < b := by
  rw [← ha.2.2.2, ← hb.2.2.2]
  exact bv_size (by decide) c ha.2.1 (by rcases hb.2.2.1 with q | q; omega; exact q)
theorem Wok.cmpL {N N' n a b i : Nat} {g h : Nat → Int32} (ha : Wok N n g a) (hb : Wok N' n h b) (hi : i < n) (he : ∀ j, i < j → j < n → g j = h j) (c : dl g i < dl h i) : a < b := by
  rw [← ha.2.2.2, ← hb.2.2.2]
  exact bv_cmp hi ha.2.1 (fun j h1 h2 => by show (g j).toBitVec.toNat = _; rw [he j h1 h2]; rfl) c
theorem Wok.cmpE {N N' n a b : Nat} {g h : Nat → Int32} (ha : Wok N n g a) (hb : Wok N' n h b) (he : ∀ j, j < n → g j = h j) : a = b := by
  rw [← ha.2.2.2, ← hb.2.2.2]
  exact bv_congr (fun j hj => by show (g j).toBitVec.toNat = _; rw [he j hj]; rfl)
/-- limb i, 0 below and beyond -/
def lmz (g : Nat → Int32) (n : Nat) (i : Int) : Nat := if 0 ≤ i ∧ i < n then dl g i.toNat else 0
theorem lmz_lt {g : Nat → Int32} {n : Nat} (h : ∀ i, i < n → dl g i < 2147483648) (i : Int) : lmz g n i < 2147483648 := by
  unfold lmz; split
  · exact h _ (by omega)
  · decide
/-! a copy of System -/
section CP
variable {p : Program} {l : Launch} {e : Env} {R : Room} {s : State} {m : MethodId} {args : Array Value} {below : List Frame} {meth : Method} {c : Code} {H : Heap} {locs : List Loc} {cells slots : Nat} {Q : State → Prop}
variable {D : va_G} {cl : List vw_C} {tys : List (ClassId × FieldType)} {ad : Nat → Nat} {M : Nat} {F : Nat → va_E} {A : Nat → Prop} {pc : Nat} {ls : Array Slot} {rest : List Value} {cc : ByteArray}
theorem pw_copyi (hexec : p.tables.exec = Jvm.exec) (hb : c.code = cc) (hml : c.maxLocals = ls.size) {own : String} {index : Nat} (hown : s.vm.findClass own = some m.cls) (hlink : (Cond.methodLink own index arraycopyName).before args s = true) (hnat : (Cond.native arraycopyName).before args s = true) (hstat : (Cond.static arraycopyName).before args s = true) (hini : (Cond.initialized "java/lang/System").before args s = true)
    (hw : pw D cl tys ad M F A s H locs) (t0 : Nat) {i0 i1 : Nat} {cA : ClassId} {n0 n1 : Nat} {f g : Nat → Int32} (hi0 : i0 < M) (ha0 : F i0 = .inl (cA, n0, .inl f)) (hi1 : i1 < M) (ha1 : F i1 = .inl (cA, n1, .inl g)) (ht : tys[t0]? = some (cA, .int))
    {sp' dp' n' : Nat} {sp dp n : Int} (e1 : sp = sp') (e2 : dp = dp') (e3 : n = n') (h1 : sp' + n' ≤ n0) (h2 : dp' + n' ≤ n1) (b1 : n0 < 2147483648) (b2 : n1 < 2147483648)
    (hframes : 1 ≤ R.frames) (hlocals : (rest.map fun v => v.category).sum + (nativeFrameWords "java/lang/System" "arraycopy" 5 + 11) ≤ R.locals) (hdg : decode cc pc = .ok (.invokestatic index, 3))
    (kk : ∀ (F1 : Nat → va_E) (H1 : Heap) (locs1 : List Loc), F1 = va_up F i1 (.inl (cA, n1, .inl (va_cpy f g sp' dp' n'))) → pw D cl tys ad M F1 A s H1 locs1 → W p l e R s m args below meth c H1 locs1 cells slots Q (F0 m (pc + 3) ls rest)) : W p l e R s m args below meth c H locs cells slots Q (F0 m pc ls (.int (iI n) :: .int (iI dp) :: .ref (ad i1) :: .int (iI sp) :: .ref (ad i0) :: rest)) := by
  subst e1 e2 e3
  have c1 : (iI (sp' : Int)).toNatClampNeg = sp' := iI_cn (by omega)
  have c2 : (iI (dp' : Int)).toNatClampNeg = dp' := iI_cn (by omega)
  have c3 : (iI (n' : Int)).toNatClampNeg = n' := iI_cn (by omega)
  refine va_copyi (D := D) (ty := .int) hexec hb hml hown hlink hnat hstat hini hw.1 hw.2.1 hw.2.2.1 hw.2.2.2.1 i0 i1 t0 t0 (pool_ate hi0 ha0) (pool_ate hi1 ha1) ht ht rfl (iI_nn (by omega) (by omega)) (iI_nn (by omega) (by omega)) (iI_nn (by omega) (by omega)) (by rw [c1, c3]; exact h1) (by rw [c2, c3]; exact h2) (fun _ _ => rfl) hframes hlocals hdg (fun H1 locs1 hP hD hS => kk _ H1 locs1 rfl ⟨hw.1, ?_, ?_, hS, hw.2.2.2.2⟩)
  · rw [pool_set, c1, c2, c3] at hP; exact hP
  · rw [pool_set, c1, c2, c3] at hD; exact hD
end CP
theorem nlz_lo {x n y : Nat} (hn : n ≤ 31) (h1n : 1 ≤ n) (hyn : n = 1 → y = 1) (h0 : 0 < y) (h4 : y < 4) (h : x / 2 ^ (31 - n) = y) : 2 ^ (31 - (n - y / 2)) ≤ x := by
  have hp : 0 < 2 ^ (31 - n) := Nat.two_pow_pos _
  have h1 : y * 2 ^ (31 - n) ≤ x := by rw [← h]; exact Nat.div_mul_le_self _ _
  rcases (show y = 1 ∨ (y = 2 ∨ y = 3) by omega) with rfl | h5
  · simpa using h1
  · rw [show 31 - (n - y / 2) = (31 - n) + 1 by omega, Nat.pow_succ]
    have : 2 * 2 ^ (31 - n) ≤ y * 2 ^ (31 - n) := Nat.mul_le_mul_right _ (by omega)
    omega
theorem nlz_hi {x n y : Nat} (hn : n ≤ 31) (h1n : 1 ≤ n) (hyn : n = 1 → y = 1) (h0 : 0 < y) (h4 : y < 4) (h : x / 2 ^ (31 - n) = y) : x < 2 ^ (32 - (n - y / 2)) := by
  have hp : 0 < 2 ^ (31 - n) := Nat.two_pow_pos _
  have h1 : x < (y + 1) * 2 ^ (31 - n) := by rw [← h, Nat.mul_comm]; exact Nat.lt_mul_div_succ _ hp
  rcases (show y = 1 ∨ (y = 2 ∨ y = 3) by omega) with rfl | h5
  · rw [show 32 - (n - 1 / 2) = (31 - n) + 1 by omega, Nat.pow_succ]
    omega
  · have h2 : (y + 1) * 2 ^ (31 - n) ≤ 4 * 2 ^ (31 - n) := Nat.mul_le_mul_right _ (by omega)
    rw [show 32 - (n - y / 2) = (31 - n) + 2 by omega, Nat.pow_add]
    omega
end
section
/-! Whole, its small methods: by program -/
set_option maxHeartbeats 4000000 in
set_option maxRecDepth 100000 in
/-- Whole.trim(len): the size becomes the number of limbs below len without the zeros on top -/
theorem c_W_trim (l : Launch) (D : va_G) (ty : Nat → ClassId) (ad : Nat → Nat) (M : Nat) (F : Nat → va_E) (sz : Nat) (w N len : Nat) (n : Int) (g : Nat → Int32) (hM : w + 1 < M) (hN : N < 1000) (hlen : len ≤ N) (hO_w : F (w) = .inr (0, [.ref (ad (w + 1)), .int (iI (n))])) (hA_w : F (w + 1) = .inl (ty 0, N, .inl (g))) :
    CV l y_W_trim w_W_trim ({ frames := 1, cells := 0, slots := 0, locals := 24 } : Room) [.ref (ad (w)), .int (iI ((len : Int)))] D ty ad M F sz (fun F1 => ∃ k : Nat, k ≤ len ∧ (∀ i, k ≤ i → i < len → g i = 0) ∧ (k = 0 ∨ g (k - 1) ≠ 0) ∧ F1 = va_up F w (oW ad w k)) := by
  refine Met.ofW (cc := b_W_trim) (maxL := 3) (ret := none) (by decide) rfl ?_
  intro p e s m args below meth c s₁ B hml hv
  obtain ⟨rfl, hsz, hP, hK, hD0⟩ := hv
  have hx := B.exec
  have hb := B.bytes
  have hr := B.returns
  have hts := atoms_spec (ws := w_W_trim) B.pre
  have hq : ∀ w ∈ wT, w.before _ s = true := fun w h => hts w (List.mem_cons_of_mem _ h)
  have hown : s.vm.findClass R_W = some m.cls := findClass_of_methodNamed B.named
  have hlocks := B.notSynchronized
  subst hsz
  have hw := pw_start hP hK hD0
  have hl := lv_entry ([.ref (ad (w)), .int (iI ((len : Int)))]) (n := 3) (Nat.le_of_ble_eq_true rfl)
  rw [lg_entry_eq]
  generalize (lg_sl ([.ref (ad (w)), .int (iI ((len : Int)))]) ++ List.replicate (3 - (lg_sl ([.ref (ad (w)), .int (iI ((len : Int)))])).length) Slot.unset).toArray = ls at hl ⊢
  have hl : lv_has ls 3 [(0, .ref (ad (w))), (1, .int (iI ((len : Int))))] := hl
  change W p l e ({ frames := 1, cells := 0, slots := 0, locals := 24 } : Room) s m ([.ref (ad (w)), .int (iI ((len : Int)))]).toArray below meth c s.heap [] 0 0 (MQ below (va_Qv (fun F1 => ∃ k : Nat, k ≤ len ∧ (∀ i, k ≤ i → i < len → g i = 0) ∧ (k = 0 ∨ g (k - 1) ≠ 0) ∧ F1 = va_up F w (oW ad w k)) (pAt D classes (tysL ty) ad M (pA ad M s.heap.size)) (pA ad M s.heap.size)) ([.ref (ad (w)), .int (iI ((len : Int)))]).toArray s 0 0 (pA ad M s.heap.size)) (F0 m 0 ls [])
  generalize hQ : MQ below (va_Qv (fun F1 => ∃ k : Nat, k ≤ len ∧ (∀ i, k ≤ i → i < len → g i = 0) ∧ (k = 0 ∨ g (k - 1) ≠ 0) ∧ F1 = va_up F w (oW ad w k)) (pAt D classes (tysL ty) ad M (pA ad M s.heap.size)) (pA ad M s.heap.size)) ([.ref (ad (w)), .int (iI ((len : Int)))]).toArray s 0 0 (pA ad M s.heap.size) = Q
  obtain ⟨H, hH⟩ : ∃ H, H = s.heap := ⟨_, rfl⟩
  obtain ⟨locs, hlo⟩ : ∃ z : List Loc, z = [] := ⟨_, rfl⟩
  have hw : pw D classes (tysL ty) ad M F (pA ad M s.heap.size) s H locs := by rw [hH, hlo]; exact hw
  have hgo : W p l e ({ frames := 1, cells := 0, slots := 0, locals := 24 } : Room) s m ([.ref (ad (w)), .int (iI ((len : Int)))]).toArray below meth c H locs 0 0 Q (F0 m 0 ls []) := by
    refine lv_iload_n hx hb d_W_trim_0 rfl (lv_at hl 1 rfl) ?_
    refine lv_aload_n hx hb d_W_trim_1 rfl (lv_at hl 0 rfl) ?_
    refine pw_get (ci := 0) (C := R_W) (T := T_W) (N := 2) hx hb hq i_W hown hw (by omega) hO_w rfl 0 (by decide) (hq _ fl_W_17) (fun _ h9 => h9) rfl d_W_trim_2 ?_
    refine pw_alen (v := iI ((N : Nat) : Int)) hx hb hw 0 (by omega) hA_w rfl (iI_nat _).symm d_W_trim_5 ?_
    refine wz_mmin (z := (len : Int)) hx hb (hml.trans hl.1.symm) hown (hq _ ml_W_45) (hq _ st_JM_min) (hq _ in_JM) (hq _ m_JM_min) (Nat.le_of_ble_eq_true rfl) (Nat.le_of_ble_eq_true rfl) (Nat.zero_le _) (Nat.zero_le _) (by omega) (by omega) (by omega) (by omega) (by omega) d_W_trim_6 ?_
    refine lv_istore_n (lv' := [(2, .int (iI ((len : Int)))), (0, .ref (ad (w))), (1, .int (iI ((len : Int))))]) hx hb d_W_trim_9 rfl hl (by decide) rfl (fun ls hl => ?_)
    have K10 : ∀ (fuel : Nat) (k : Nat) (ls : Array Slot), k < fuel → (k ≤ len) → (∀ i, k ≤ i → i < len → g i = 0) → lv_has ls 3 [(2, .int (iI ((k : Int)))), (0, .ref (ad (w))), (1, .int (iI ((len : Int))))] → W p l e ({ frames := 1, cells := 0, slots := 0, locals := 24 } : Room) s m ([.ref (ad (w)), .int (iI ((len : Int)))]).toArray below meth c H locs 0 0 Q (F0 m 10 ls []) := by
      intro fuel
      induction fuel with
      | zero => intro k ls hfuel hk hz hl; exact absurd hfuel (Nat.not_lt_zero _)
      | succ fuel ih10 =>
        intro k ls hfuel hk hz hl
        refine lv_iload_n hx hb d_W_trim_10 rfl (lv_at hl 0 rfl) ?_
        refine wz_if_le (tgt := 31) hx hb d_W_trim_11 (by decide) (by omega) (by omega) (fun c11 => ?_) (fun c11 => ?_)
        · have hk0 : k = 0 := by omega
          refine lv_aload_n hx hb d_W_trim_31 rfl (lv_at hl 1 rfl) ?_
          refine lv_iload_n hx hb d_W_trim_32 rfl (lv_at hl 0 rfl) ?_
          refine wz_iconst (n := 0) hx hb d_W_trim_33 ?_
          refine wz_mmax (z := (k : Int)) hx hb (hml.trans hl.1.symm) hown (hq _ ml_W_11) (hq _ st_JM_max) (hq _ in_JM) (hq _ m_JM_max) (Nat.le_of_ble_eq_true rfl) (Nat.le_of_ble_eq_true rfl) (Nat.zero_le _) (Nat.zero_le _) (by omega) (by omega) (by omega) (by omega) (by omega) d_W_trim_34 ?_
          refine pw_put (ci := 0) (C := R_W) (T := T_W) (N := 2) (ty := .int) (fs' := [.ref (ad (w + 1)), .int (iI ((k : Int)))]) hx hb hq i_W ft_W ft_W_ok n_W hown hw (by omega) hO_w rfl 1 (by decide) (hq _ fl_W_21) (fun _ h9 => h9) rfl (by decide +kernel) rfl rfl (Nat.le_of_ble_eq_true rfl) rfl d_W_trim_37 (fun F37 H locs eF37 hw => ?_)
          have m37_w : F37 (w) = .inr (0, [.ref (ad (w + 1)), .int (iI ((k : Int)))]) := by rw [eF37]; exact va_up_self ..
          have hA_w_at_37 : F37 (w + 1) = .inl (ty 0, N, .inl (g)) := (show F37 (w + 1) = F (w + 1) from by rw [eF37]; exact va_up_ne _ _ (by omega)).trans hA_w
          rw [← hQ]
          exact pw_vret hx hb hr hlocks hw (⟨k, hk, hz, by first | exact Or.inl hk0 | exact Or.inr c22, eF37⟩) d_W_trim_40
        · have hk0 : 0 < k := by omega
          refine lv_aload_n hx hb d_W_trim_14 rfl (lv_at hl 1 rfl) ?_
          refine pw_get (ci := 0) (C := R_W) (T := T_W) (N := 2) hx hb hq i_W hown hw (by omega) hO_w rfl 0 (by decide) (hq _ fl_W_17) (fun _ h9 => h9) rfl d_W_trim_15 ?_
          refine lv_iload_n hx hb d_W_trim_18 rfl (lv_at hl 0 rfl) ?_
          refine wz_iconst (n := 1) hx hb d_W_trim_19 ?_
          refine wz_isub hx hb d_W_trim_20 rfl ?_
          refine pw_iald (k := k - 1) hx hb hw 0 (by omega) hA_w rfl (iI_in (by omega) (by omega) (by omega)) (by rw [iI_cl (by omega) (by omega)]; omega) d_W_trim_21 ?_
          refine lv_if_ne (tgt := 31) hx hb d_W_trim_22 (by decide) (fun c22 => ?_) (fun c22 => ?_)
          · refine lv_aload_n hx hb d_W_trim_31 rfl (lv_at hl 1 rfl) ?_
            refine lv_iload_n hx hb d_W_trim_32 rfl (lv_at hl 0 rfl) ?_
            refine wz_iconst (n := 0) hx hb d_W_trim_33 ?_
            refine wz_mmax (z := (k : Int)) hx hb (hml.trans hl.1.symm) hown (hq _ ml_W_11) (hq _ st_JM_max) (hq _ in_JM) (hq _ m_JM_max) (Nat.le_of_ble_eq_true rfl) (Nat.le_of_ble_eq_true rfl) (Nat.zero_le _) (Nat.zero_le _) (by omega) (by omega) (by omega) (by omega) (by omega) d_W_trim_34 ?_
            refine pw_put (ci := 0) (C := R_W) (T := T_W) (N := 2) (ty := .int) (fs' := [.ref (ad (w + 1)), .int (iI ((k : Int)))]) hx hb hq i_W ft_W ft_W_ok n_W hown hw (by omega) hO_w rfl 1 (by decide) (hq _ fl_W_21) (fun _ h9 => h9) rfl (by decide +kernel) rfl rfl (Nat.le_of_ble_eq_true rfl) rfl d_W_trim_37 (fun F37 H locs eF37 hw => ?_)
            have m37_w : F37 (w) = .inr (0, [.ref (ad (w + 1)), .int (iI ((k : Int)))]) := by rw [eF37]; exact va_up_self ..
            have hA_w_at_37 : F37 (w + 1) = .inl (ty 0, N, .inl (g)) := (show F37 (w + 1) = F (w + 1) from by rw [eF37]; exact va_up_ne _ _ (by omega)).trans hA_w
            rw [← hQ]
            exact pw_vret hx hb hr hlocks hw (⟨k, hk, hz, by first | exact Or.inl hk0 | exact Or.inr c22, eF37⟩) d_W_trim_40
          · refine wz_iinc (z := ((k - 1 : Nat) : Int)) (lv' := [(2, .int (iI (((k - 1 : Nat) : Int)))), (0, .ref (ad (w))), (1, .int (iI ((len : Int))))]) hx hb d_W_trim_25 hl (k := 0) rfl (by omega) (by decide) rfl (fun ls hl => ?_)
            refine lv_goto (tgt := 10) hx hb d_W_trim_28 (by decide) ?_
            exact ih10 (k - 1) ls (by omega) (by omega) (fun i h1 h2 => by
                    rcases Nat.lt_or_ge i k with h3 | h3
                    · rw [show i = k - 1 by omega]; exact c22
                    · exact hz i h3 h2) hl
    exact K10 _ len ls (Nat.lt_succ_self _) (Nat.le_refl _) (fun i h1 h2 => absurd h2 (by omega)) hl
  rw [hH, hlo] at hgo
  exact hgo
end
section
/-! Whole, its small methods: by program -/
set_option maxHeartbeats 4000000 in
set_option maxRecDepth 100000 in
/-- Integer.numberOfLeadingZeros of a number above 0 -/
theorem c_JI_numberOfLeadingZeros (l : Launch) (D : va_G) (ty : Nat → ClassId) (ad : Nat → Nat) (M : Nat) (F : Nat → va_E) (sz : Nat) (x : Nat) (h0 : 0 < x) (h1 : x < 2147483648) :
    CI l y_JI_numberOfLeadingZeros w_JI_numberOfLeadingZeros ({ frames := 0, cells := 0, slots := 0, locals := 0 } : Room) [.int (iI ((x : Int)))] D ty ad M F sz (fun r F1 => (∃ k : Nat, r = iI k ∧ k ≤ 31 ∧ 1 ≤ k ∧ 2 ^ (31 - k) ≤ x ∧ x < 2 ^ (32 - k)) ∧ F1 = F) := by
  refine Met.ofW (cc := b_JI_numberOfLeadingZeros) (maxL := 2) (ret := (some .int)) (by decide) rfl ?_
  intro p e s m args below meth c s₁ B hml hv
  obtain ⟨rfl, hsz, hP, hK, hD0⟩ := hv
  have hx := B.exec
  have hb := B.bytes
  have hr := B.returns
  have hts := atoms_spec (ws := w_JI_numberOfLeadingZeros) B.pre
  have hq : ∀ w ∈ wT, w.before _ s = true := fun w h => hts w (List.mem_cons_of_mem _ h)
  have hown : s.vm.findClass R_JI = some m.cls := findClass_of_methodNamed B.named
  have hlocks := B.notSynchronized
  subst hsz
  have hw := pw_start hP hK hD0
  have hl := lv_entry ([.int (iI ((x : Int)))]) (n := 2) (Nat.le_of_ble_eq_true rfl)
  rw [lg_entry_eq]
  generalize (lg_sl ([.int (iI ((x : Int)))]) ++ List.replicate (2 - (lg_sl ([.int (iI ((x : Int)))])).length) Slot.unset).toArray = ls at hl ⊢
  have hl : lv_has ls 2 [(0, .int (iI ((x : Int))))] := hl
  change W p l e ({ frames := 0, cells := 0, slots := 0, locals := 0 } : Room) s m ([.int (iI ((x : Int)))]).toArray below meth c s.heap [] 0 0 (MQ below (va_Qi (fun r F1 => (∃ k : Nat, r = iI k ∧ k ≤ 31 ∧ 1 ≤ k ∧ 2 ^ (31 - k) ≤ x ∧ x < 2 ^ (32 - k)) ∧ F1 = F) (pAt D classes (tysL ty) ad M (pA ad M s.heap.size)) (pA ad M s.heap.size)) ([.int (iI ((x : Int)))]).toArray s 0 0 (pA ad M s.heap.size)) (F0 m 0 ls [])
  generalize hQ : MQ below (va_Qi (fun r F1 => (∃ k : Nat, r = iI k ∧ k ≤ 31 ∧ 1 ≤ k ∧ 2 ^ (31 - k) ≤ x ∧ x < 2 ^ (32 - k)) ∧ F1 = F) (pAt D classes (tysL ty) ad M (pA ad M s.heap.size)) (pA ad M s.heap.size)) ([.int (iI ((x : Int)))]).toArray s 0 0 (pA ad M s.heap.size) = Q
  obtain ⟨H, hH⟩ : ∃ H, H = s.heap := ⟨_, rfl⟩
  obtain ⟨locs, hlo⟩ : ∃ z : List Loc, z = [] := ⟨_, rfl⟩
  have hw : pw D classes (tysL ty) ad M F (pA ad M s.heap.size) s H locs := by rw [hH, hlo]; exact hw
  have hgo : W p l e ({ frames := 0, cells := 0, slots := 0, locals := 0 } : Room) s m ([.int (iI ((x : Int)))]).toArray below meth c H locs 0 0 Q (F0 m 0 ls []) := by
    refine lv_iload_n hx hb d_JI_numberOfLeadingZeros_0 rfl (lv_at hl 0 rfl) ?_
    refine wz_if_gt (tgt := 15) hx hb d_JI_numberOfLeadingZeros_1 (by decide) (by omega) (by omega) (fun c1 => ?_) (fun c1 => ?_)
    · refine wz_bipush (n := 31) hx hb d_JI_numberOfLeadingZeros_15 (by decide) ?_
      refine lv_istore_n (lv' := [(1, .int (iI (31))), (0, .int (iI ((x : Int))))]) hx hb d_JI_numberOfLeadingZeros_17 rfl hl (by decide) rfl (fun ls hl => ?_)
      have K73 : ∀ (n y : Nat) (ls : Array Slot), (n ≤ 31 ∧ 1 ≤ n) → (0 < y ∧ y < 4) → (x / 2 ^ (31 - n) = y) → lv_has ls 2 [(1, .int (iI ((n : Int)))), (0, .int (iI ((y : Int))))] → W p l e ({ frames := 0, cells := 0, slots := 0, locals := 0 } : Room) s m ([.int (iI ((x : Int)))]).toArray below meth c H locs 0 0 Q (F0 m 73 ls []) := by
        intro n y ls hn hy hx2 hl
        refine lv_iload_n hx hb d_JI_numberOfLeadingZeros_73 rfl (lv_at hl 0 rfl) ?_
        refine lv_iload_n hx hb d_JI_numberOfLeadingZeros_74 rfl (lv_at hl 1 rfl) ?_
        refine wz_iconst (n := 1) hx hb d_JI_numberOfLeadingZeros_75 ?_
        refine lv_iushr (v := iI (((y / 2 ^ 1 : Nat) : Int))) hx hb d_JI_numberOfLeadingZeros_76 (iI_ushr (k := 1) (by decide) (by omega)) ?_
        refine wz_isub (z := ((n - y / 2 : Nat) : Int)) hx hb d_JI_numberOfLeadingZeros_77 (by omega) ?_
        have hyn : n = 1 → y = 1 := fun q => by
          rw [q] at hx2
          have : x / 2 ^ 30 = y := hx2
          omega
        rw [← hQ]
        exact pw_iret hx hb hr hlocks hw (⟨⟨n - y / 2, rfl, by omega, by omega, nlz_lo hn.1 hn.2 hyn hy.1 hy.2 hx2, nlz_hi hn.1 hn.2 hyn hy.1 hy.2 hx2⟩, rfl⟩) d_JI_numberOfLeadingZeros_78
      have K61 : ∀ (n y : Nat) (ls : Array Slot), (n ≤ 31 ∧ 3 ≤ n) → (0 < y ∧ y < 16) → (x / 2 ^ (31 - n) = y) → lv_has ls 2 [(1, .int (iI ((n : Int)))), (0, .int (iI ((y : Int))))] → W p l e ({ frames := 0, cells := 0, slots := 0, locals := 0 } : Room) s m ([.int (iI ((x : Int)))]).toArray below meth c H locs 0 0 Q (F0 m 61 ls []) := by
        intro n y ls hn hy hx2 hl
        refine lv_iload_n hx hb d_JI_numberOfLeadingZeros_61 rfl (lv_at hl 1 rfl) ?_
        refine wz_iconst (n := 4) hx hb d_JI_numberOfLeadingZeros_62 ?_
        refine wz_icmp_lt (tgt := 73) hx hb d_JI_numberOfLeadingZeros_63 (by decide) (by omega) (by omega) (by omega) (by omega) (fun c63 => ?_) (fun c63 => ?_)
        · exact K73 n y ls (by omega) (by omega) (hx2) hl
        · refine wz_iinc (z := ((n - 2 : Nat) : Int)) (lv' := [(1, .int (iI (((n - 2 : Nat) : Int)))), (0, .int (iI ((y : Int))))]) hx hb d_JI_numberOfLeadingZeros_66 hl (k := 0) rfl (by omega) (by decide) rfl (fun ls hl => ?_)
          refine lv_iload_n hx hb d_JI_numberOfLeadingZeros_69 rfl (lv_at hl 1 rfl) ?_
          refine wz_iconst (n := 2) hx hb d_JI_numberOfLeadingZeros_70 ?_
          refine lv_iushr (v := iI (((y / 2 ^ 2 : Nat) : Int))) hx hb d_JI_numberOfLeadingZeros_71 (iI_ushr (k := 2) (by decide) (by omega)) ?_
          refine lv_istore_n (lv' := [(0, .int (iI (((y / 2 ^ 2 : Nat) : Int)))), (1, .int (iI (((n - 2 : Nat) : Int))))]) hx hb d_JI_numberOfLeadingZeros_72 rfl hl (by decide) rfl (fun ls hl => ?_)
          exact K73 (n - 2) (y / 2 ^ 2) ls (by omega) (by omega) (by rw [← hx2, Nat.div_div_eq_div_mul, ← Nat.pow_add]; congr 2; omega) (lv_sub hl [1, 0] rfl)
      have K48 : ∀ (n y : Nat) (ls : Array Slot), (n ≤ 31 ∧ 7 ≤ n) → (0 < y ∧ y < 256) → (x / 2 ^ (31 - n) = y) → lv_has ls 2 [(1, .int (iI ((n : Int)))), (0, .int (iI ((y : Int))))] → W p l e ({ frames := 0, cells := 0, slots := 0, locals := 0 } : Room) s m ([.int (iI ((x : Int)))]).toArray below meth c H locs 0 0 Q (F0 m 48 ls []) := by
        intro n y ls hn hy hx2 hl
        refine lv_iload_n hx hb d_JI_numberOfLeadingZeros_48 rfl (lv_at hl 1 rfl) ?_
        refine wz_bipush (n := 16) hx hb d_JI_numberOfLeadingZeros_49 (by decide) ?_
        refine wz_icmp_lt (tgt := 61) hx hb d_JI_numberOfLeadingZeros_51 (by decide) (by omega) (by omega) (by omega) (by omega) (fun c51 => ?_) (fun c51 => ?_)
        · exact K61 n y ls (by omega) (by omega) (hx2) hl
        · refine wz_iinc (z := ((n - 4 : Nat) : Int)) (lv' := [(1, .int (iI (((n - 4 : Nat) : Int)))), (0, .int (iI ((y : Int))))]) hx hb d_JI_numberOfLeadingZeros_54 hl (k := 0) rfl (by omega) (by decide) rfl (fun ls hl => ?_)
          refine lv_iload_n hx hb d_JI_numberOfLeadingZeros_57 rfl (lv_at hl 1 rfl) ?_
          refine wz_iconst (n := 4) hx hb d_JI_numberOfLeadingZeros_58 ?_
          refine lv_iushr (v := iI (((y / 2 ^ 4 : Nat) : Int))) hx hb d_JI_numberOfLeadingZeros_59 (iI_ushr (k := 4) (by decide) (by omega)) ?_
          refine lv_istore_n (lv' := [(0, .int (iI (((y / 2 ^ 4 : Nat) : Int)))), (1, .int (iI (((n - 4 : Nat) : Int))))]) hx hb d_JI_numberOfLeadingZeros_60 rfl hl (by decide) rfl (fun ls hl => ?_)
          exact K61 (n - 4) (y / 2 ^ 4) ls (by omega) (by omega) (by rw [← hx2, Nat.div_div_eq_div_mul, ← Nat.pow_add]; congr 2; omega) (lv_sub hl [1, 0] rfl)
      have K33 : ∀ (n y : Nat) (ls : Array Slot), (n ≤ 31 ∧ 15 ≤ n) → (0 < y ∧ y < 65536) → (x / 2 ^ (31 - n) = y) → lv_has ls 2 [(1, .int (iI ((n : Int)))), (0, .int (iI ((y : Int))))] → W p l e ({ frames := 0, cells := 0, slots := 0, locals := 0 } : Room) s m ([.int (iI ((x : Int)))]).toArray below meth c H locs 0 0 Q (F0 m 33 ls []) := by
        intro n y ls hn hy hx2 hl
        refine lv_iload_n hx hb d_JI_numberOfLeadingZeros_33 rfl (lv_at hl 1 rfl) ?_
        refine wz_sipush (n := 256) hx hb d_JI_numberOfLeadingZeros_34 (by decide) ?_
        refine wz_icmp_lt (tgt := 48) hx hb d_JI_numberOfLeadingZeros_37 (by decide) (by omega) (by omega) (by omega) (by omega) (fun c37 => ?_) (fun c37 => ?_)
        · exact K48 n y ls (by omega) (by omega) (hx2) hl
        · refine wz_iinc (z := ((n - 8 : Nat) : Int)) (lv' := [(1, .int (iI (((n - 8 : Nat) : Int)))), (0, .int (iI ((y : Int))))]) hx hb d_JI_numberOfLeadingZeros_40 hl (k := 0) rfl (by omega) (by decide) rfl (fun ls hl => ?_)
          refine lv_iload_n hx hb d_JI_numberOfLeadingZeros_43 rfl (lv_at hl 1 rfl) ?_
          refine wz_bipush (n := 8) hx hb d_JI_numberOfLeadingZeros_44 (by decide) ?_
          refine lv_iushr (v := iI (((y / 2 ^ 8 : Nat) : Int))) hx hb d_JI_numberOfLeadingZeros_46 (iI_ushr (k := 8) (by decide) (by omega)) ?_
          refine lv_istore_n (lv' := [(0, .int (iI (((y / 2 ^ 8 : Nat) : Int)))), (1, .int (iI (((n - 8 : Nat) : Int))))]) hx hb d_JI_numberOfLeadingZeros_47 rfl hl (by decide) rfl (fun ls hl => ?_)
          exact K48 (n - 8) (y / 2 ^ 8) ls (by omega) (by omega) (by rw [← hx2, Nat.div_div_eq_div_mul, ← Nat.pow_add]; congr 2; omega) (lv_sub hl [1, 0] rfl)
      refine lv_iload_n hx hb d_JI_numberOfLeadingZeros_18 rfl (lv_at hl 1 rfl) ?_
      refine lv_ldcw (v := iI (65536)) hx hb hown (hq _ co_JI_264) d_JI_numberOfLeadingZeros_19 ?_
      refine wz_icmp_lt (tgt := 33) hx hb d_JI_numberOfLeadingZeros_22 (by decide) (by omega) (by omega) (by omega) (by omega) (fun c22 => ?_) (fun c22 => ?_)
      · exact K33 31 x ls (by omega) (by omega) (by simp) hl
      · refine wz_iinc (z := ((31 - 16 : Nat) : Int)) (lv' := [(1, .int (iI (((31 - 16 : Nat) : Int)))), (0, .int (iI ((x : Int))))]) hx hb d_JI_numberOfLeadingZeros_25 hl (k := 0) rfl (by omega) (by decide) rfl (fun ls hl => ?_)
        refine lv_iload_n hx hb d_JI_numberOfLeadingZeros_28 rfl (lv_at hl 1 rfl) ?_
        refine wz_bipush (n := 16) hx hb d_JI_numberOfLeadingZeros_29 (by decide) ?_
        refine lv_iushr (v := iI (((x / 2 ^ 16 : Nat) : Int))) hx hb d_JI_numberOfLeadingZeros_31 (iI_ushr (k := 16) (by decide) (by omega)) ?_
        refine lv_istore_n (lv' := [(0, .int (iI (((x / 2 ^ 16 : Nat) : Int)))), (1, .int (iI (((31 - 16 : Nat) : Int))))]) hx hb d_JI_numberOfLeadingZeros_32 rfl hl (by decide) rfl (fun ls hl => ?_)
        exact K33 (31 - 16) (x / 2 ^ 16) ls (by omega) (by omega) (by rfl) (lv_sub hl [1, 0] rfl)
    · exact absurd c1 (by omega)
  rw [hH, hlo] at hgo
  exact hgo
set_option maxHeartbeats 4000000 in
set_option maxRecDepth 100000 in
/-- Whole.isZero() -/
theorem c_W_isZero (l : Launch) (D : va_G) (ty : Nat → ClassId) (ad : Nat → Nat) (M : Nat) (F : Nat → va_E) (sz : Nat) (w N v : Nat) (hM : w + 1 < M) (hN : N < 1000) (h : Wv ty ad F w N v) :
    CI l y_W_isZero w_W_isZero ({ frames := 0, cells := 0, slots := 0, locals := 0 } : Room) [.ref (ad (w))] D ty ad M F sz (fun r F1 => r = iI (if v = 0 then 1 else 0) ∧ F1 = F) := by
  refine Met.ofW (cc := b_W_isZero) (maxL := 1) (ret := (some .boolean)) (by decide) rfl ?_
  intro p e s m args below meth c s₁ B hml hv
  obtain ⟨rfl, hsz, hP, hK, hD0⟩ := hv
  have hx := B.exec
  have hb := B.bytes
  have hr := B.returns
  have hts := atoms_spec (ws := w_W_isZero) B.pre
  have hq : ∀ w ∈ wT, w.before _ s = true := fun w h => hts w (List.mem_cons_of_mem _ h)
  have hown : s.vm.findClass R_W = some m.cls := findClass_of_methodNamed B.named
  have hlocks := B.notSynchronized
  subst hsz
  have hw := pw_start hP hK hD0
  have hl := lv_entry ([.ref (ad (w))]) (n := 1) (Nat.le_of_ble_eq_true rfl)
  rw [lg_entry_eq]
  generalize (lg_sl ([.ref (ad (w))]) ++ List.replicate (1 - (lg_sl ([.ref (ad (w))])).length) Slot.unset).toArray = ls at hl ⊢
  have hl : lv_has ls 1 [(0, .ref (ad (w)))] := hl
  change W p l e ({ frames := 0, cells := 0, slots := 0, locals := 0 } : Room) s m ([.ref (ad (w))]).toArray below meth c s.heap [] 0 0 (MQ below (va_Qi (fun r F1 => r = iI (if v = 0 then 1 else 0) ∧ F1 = F) (pAt D classes (tysL ty) ad M (pA ad M s.heap.size)) (pA ad M s.heap.size)) ([.ref (ad (w))]).toArray s 0 0 (pA ad M s.heap.size)) (F0 m 0 ls [])
  generalize hQ : MQ below (va_Qi (fun r F1 => r = iI (if v = 0 then 1 else 0) ∧ F1 = F) (pAt D classes (tysL ty) ad M (pA ad M s.heap.size)) (pA ad M s.heap.size)) ([.ref (ad (w))]).toArray s 0 0 (pA ad M s.heap.size) = Q
  obtain ⟨H, hH⟩ : ∃ H, H = s.heap := ⟨_, rfl⟩
  obtain ⟨locs, hlo⟩ : ∃ z : List Loc, z = [] := ⟨_, rfl⟩
  have hw : pw D classes (tysL ty) ad M F (pA ad M s.heap.size) s H locs := by rw [hH, hlo]; exact hw
  have hgo : W p l e ({ frames := 0, cells := 0, slots := 0, locals := 0 } : Room) s m ([.ref (ad (w))]).toArray below meth c H locs 0 0 Q (F0 m 0 ls []) := by
    obtain ⟨n, g, ⟨hO_w, hA_w⟩, hok⟩ := h
    have hn := hok.1
    have hd := hok.2.1
    have hz := hok.zero
    refine lv_aload_n hx hb d_W_isZero_0 rfl (lv_at hl 0 rfl) ?_
    refine pw_get (ci := 0) (C := R_W) (T := T_W) (N := 2) hx hb hq i_W hown hw (by omega) hO_w rfl 1 (by decide) (hq _ fl_W_21) (fun _ h9 => h9) rfl d_W_isZero_1 ?_
    refine wz_if_ne (tgt := 11) hx hb d_W_isZero_4 (by decide) (by omega) (by omega) (fun c4 => ?_) (fun c4 => ?_)
    · refine wz_iconst (n := 0) hx hb d_W_isZero_11 ?_
      rw [← hQ]
      exact pw_zret hx hb hr (by decide) hlocks hw (⟨by congr 1; split <;> omega, rfl⟩) d_W_isZero_12
    · refine wz_iconst (n := 1) hx hb d_W_isZero_7 ?_
      refine lv_goto (tgt := 12) hx hb d_W_isZero_8 (by decide) ?_
      rw [← hQ]
      exact pw_zret hx hb hr (by decide) hlocks hw (⟨by congr 1; split <;> omega, rfl⟩) d_W_isZero_12
  rw [hH, hlo] at hgo
  exact hgo
set_option maxHeartbeats 4000000 in
set_option maxRecDepth 100000 in
/-- Whole.isOne() -/
theorem c_W_isOne (l : Launch) (D : va_G) (ty : Nat → ClassId) (ad : Nat → Nat) (M : Nat) (F : Nat → va_E) (sz : Nat) (w N v : Nat) (hM : w + 1 < M) (hN : N < 1000) (h : Wv ty ad F w N v) :
    CI l y_W_isOne w_W_isOne ({ frames := 0, cells := 0, slots := 0, locals := 0 } : Room) [.ref (ad (w))] D ty ad M F sz (fun r F1 => r = iI (if v = 1 then 1 else 0) ∧ F1 = F) := by
  refine Met.ofW (cc := b_W_isOne) (maxL := 1) (ret := (some .boolean)) (by decide) rfl ?_
  intro p e s m args below meth c s₁ B hml hv
  obtain ⟨rfl, hsz, hP, hK, hD0⟩ := hv
  have hx := B.exec
  have hb := B.bytes
  have hr := B.returns
  have hts := atoms_spec (ws := w_W_isOne) B.pre
  have hq : ∀ w ∈ wT, w.before _ s = true := fun w h => hts w (List.mem_cons_of_mem _ h)
  have hown : s.vm.findClass R_W = some m.cls := findClass_of_methodNamed B.named
  have hlocks := B.notSynchronized
  subst hsz
  have hw := pw_start hP hK hD0
  have hl := lv_entry ([.ref (ad (w))]) (n := 1) (Nat.le_of_ble_eq_true rfl)
  rw [lg_entry_eq]
  generalize (lg_sl ([.ref (ad (w))]) ++ List.replicate (1 - (lg_sl ([.ref (ad (w))])).length) Slot.unset).toArray = ls at hl ⊢
  have hl : lv_has ls 1 [(0, .ref (ad (w)))] := hl
  change W p l e ({ frames := 0, cells := 0, slots := 0, locals := 0 } : Room) s m ([.ref (ad (w))]).toArray below meth c s.heap [] 0 0 (MQ below (va_Qi (fun r F1 => r = iI (if v = 1 then 1 else 0) ∧ F1 = F) (pAt D classes (tysL ty) ad M (pA ad M s.heap.size)) (pA ad M s.heap.size)) ([.ref (ad (w))]).toArray s 0 0 (pA ad M s.heap.size)) (F0 m 0 ls [])
  generalize hQ : MQ below (va_Qi (fun r F1 => r = iI (if v = 1 then 1 else 0) ∧ F1 = F) (pAt D classes (tysL ty) ad M (pA ad M s.heap.size)) (pA ad M s.heap.size)) ([.ref (ad (w))]).toArray s 0 0 (pA ad M s.heap.size) = Q
  obtain ⟨H, hH⟩ : ∃ H, H = s.heap := ⟨_, rfl⟩
  obtain ⟨locs, hlo⟩ : ∃ z : List Loc, z = [] := ⟨_, rfl⟩
  have hw : pw D classes (tysL ty) ad M F (pA ad M s.heap.size) s H locs := by rw [hH, hlo]; exact hw
  have hgo : W p l e ({ frames := 0, cells := 0, slots := 0, locals := 0 } : Room) s m ([.ref (ad (w))]).toArray below meth c H locs 0 0 Q (F0 m 0 ls []) := by
    obtain ⟨n, g, ⟨hO_w, hA_w⟩, hok⟩ := h
    have hn := hok.1
    have hd := hok.2.1
    have hz := hok.one
    refine lv_aload_n hx hb d_W_isOne_0 rfl (lv_at hl 0 rfl) ?_
    refine pw_get (ci := 0) (C := R_W) (T := T_W) (N := 2) hx hb hq i_W hown hw (by omega) hO_w rfl 1 (by decide) (hq _ fl_W_21) (fun _ h9 => h9) rfl d_W_isOne_1 ?_
    refine wz_iconst (n := 1) hx hb d_W_isOne_4 ?_
    refine wz_icmp_ne (tgt := 22) hx hb d_W_isOne_5 (by decide) (by omega) (by omega) (by omega) (by omega) (fun c5 => ?_) (fun c5 => ?_)
    · refine wz_iconst (n := 0) hx hb d_W_isOne_22 ?_
      rw [← hQ]
      exact pw_zret hx hb hr (by decide) hlocks hw (⟨by congr 1; split <;> omega, rfl⟩) d_W_isOne_23
    · refine lv_aload_n hx hb d_W_isOne_8 rfl (lv_at hl 0 rfl) ?_
      refine pw_get (ci := 0) (C := R_W) (T := T_W) (N := 2) hx hb hq i_W hown hw (by omega) hO_w rfl 0 (by decide) (hq _ fl_W_17) (fun _ h9 => h9) rfl d_W_isOne_9 ?_
      refine wz_iconst (n := 0) hx hb d_W_isOne_12 ?_
      refine pw_iald (k := 0) hx hb hw 0 (by omega) hA_w rfl (iI_in (by omega) (by omega) (by omega)) ((iI_cl (by omega) (by omega)).trans (by omega)) d_W_isOne_13 ?_
      refine lv_topi (fun x13 ex13 => ?_)
      obtain rfl : x13 = iI ((dl g 0 : Int)) := ex13.trans (dl_get (hd 0 (by omega)))
      have hd0 := hd 0 (by omega)
      refine wz_iconst (n := 1) hx hb d_W_isOne_14 ?_
      refine wz_icmp_ne (tgt := 22) hx hb d_W_isOne_15 (by decide) (by omega) (by omega) (by omega) (by omega) (fun c15 => ?_) (fun c15 => ?_)
      · refine wz_iconst (n := 0) hx hb d_W_isOne_22 ?_
        rw [← hQ]
        exact pw_zret hx hb hr (by decide) hlocks hw (⟨by congr 1; split <;> omega, rfl⟩) d_W_isOne_23
      · refine wz_iconst (n := 1) hx hb d_W_isOne_18 ?_
        refine lv_goto (tgt := 23) hx hb d_W_isOne_19 (by decide) ?_
        rw [← hQ]
        exact pw_zret hx hb hr (by decide) hlocks hw (⟨by congr 1; split <;> omega, rfl⟩) d_W_isOne_23
  rw [hH, hlo] at hgo
  exact hgo
set_option maxHeartbeats 4000000 in
set_option maxRecDepth 100000 in
/-- Whole.spareBits() -/
theorem c_W_spareBits (l : Launch) (D : va_G) (ty : Nat → ClassId) (ad : Nat → Nat) (M : Nat) (F : Nat → va_E) (sz : Nat) (w N n : Nat) (g : Nat → Int32) (hM : w + 1 < M) (hN : N < 1000) (hn : n ≤ N) (hd : ∀ i, i < n → dl g i < 2147483648) (ht : n = 0 ∨ dl g (n - 1) ≠ 0) (hO_w : F (w) = .inr (0, [.ref (ad (w + 1)), .int (iI ((n : Int)))])) (hA_w : F (w + 1) = .inl (ty 0, N, .inl (g))) :
    CI l y_W_spareBits w_W_spareBits ({ frames := 1, cells := 0, slots := 0, locals := 21 } : Room) [.ref (ad (w))] D ty ad M F sz (fun r F1 => (∃ s : Nat, r = iI s ∧ s ≤ 30 ∧ (n = 0 → s = 0) ∧ (0 < n → 2 ^ (30 - s) ≤ dl g (n - 1) ∧ dl g (n - 1) < 2 ^ (31 - s))) ∧ F1 = F) := by
  refine Met.ofW (cc := b_W_spareBits) (maxL := 1) (ret := (some .int)) (by decide) rfl ?_
  intro p e s m args below meth c s₁ B hml hv
  obtain ⟨rfl, hsz, hP, hK, hD0⟩ := hv
  have hx := B.exec
  have hb := B.bytes
  have hr := B.returns
  have hts := atoms_spec (ws := w_W_spareBits) B.pre
  have hq : ∀ w ∈ wT, w.before _ s = true := fun w h => hts w (List.mem_cons_of_mem _ h)
  have hown : s.vm.findClass R_W = some m.cls := findClass_of_methodNamed B.named
  have hlocks := B.notSynchronized
  subst hsz
  have hw := pw_start hP hK hD0
  have hl := lv_entry ([.ref (ad (w))]) (n := 1) (Nat.le_of_ble_eq_true rfl)
  rw [lg_entry_eq]
  generalize (lg_sl ([.ref (ad (w))]) ++ List.replicate (1 - (lg_sl ([.ref (ad (w))])).length) Slot.unset).toArray = ls at hl ⊢
  have hl : lv_has ls 1 [(0, .ref (ad (w)))] := hl
  change W p l e ({ frames := 1, cells := 0, slots := 0, locals := 21 } : Room) s m ([.ref (ad (w))]).toArray below meth c s.heap [] 0 0 (MQ below (va_Qi (fun r F1 => (∃ s : Nat, r = iI s ∧ s ≤ 30 ∧ (n = 0 → s = 0) ∧ (0 < n → 2 ^ (30 - s) ≤ dl g (n - 1) ∧ dl g (n - 1) < 2 ^ (31 - s))) ∧ F1 = F) (pAt D classes (tysL ty) ad M (pA ad M s.heap.size)) (pA ad M s.heap.size)) ([.ref (ad (w))]).toArray s 0 0 (pA ad M s.heap.size)) (F0 m 0 ls [])
  generalize hQ : MQ below (va_Qi (fun r F1 => (∃ s : Nat, r = iI s ∧ s ≤ 30 ∧ (n = 0 → s = 0) ∧ (0 < n → 2 ^ (30 - s) ≤ dl g (n - 1) ∧ dl g (n - 1) < 2 ^ (31 - s))) ∧ F1 = F) (pAt D classes (tysL ty) ad M (pA ad M s.heap.size)) (pA ad M s.heap.size)) ([.ref (ad (w))]).toArray s 0 0 (pA ad M s.heap.size) = Q
  obtain ⟨H, hH⟩ : ∃ H, H = s.heap := ⟨_, rfl⟩
  obtain ⟨locs, hlo⟩ : ∃ z : List Loc, z = [] := ⟨_, rfl⟩
  have hw : pw D classes (tysL ty) ad M F (pA ad M s.heap.size) s H locs := by rw [hH, hlo]; exact hw
  have hgo : W p l e ({ frames := 1, cells := 0, slots := 0, locals := 21 } : Room) s m ([.ref (ad (w))]).toArray below meth c H locs 0 0 Q (F0 m 0 ls []) := by
    refine lv_aload_n hx hb d_W_spareBits_0 rfl (lv_at hl 0 rfl) ?_
    refine pw_get (ci := 0) (C := R_W) (T := T_W) (N := 2) hx hb hq i_W hown hw (by omega) hO_w rfl 1 (by decide) (hq _ fl_W_21) (fun _ h9 => h9) rfl d_W_spareBits_1 ?_
    refine wz_if_ne (tgt := 11) hx hb d_W_spareBits_4 (by decide) (by omega) (by omega) (fun c4 => ?_) (fun c4 => ?_)
    · refine lv_aload_n hx hb d_W_spareBits_11 rfl (lv_at hl 0 rfl) ?_
      refine pw_get (ci := 0) (C := R_W) (T := T_W) (N := 2) hx hb hq i_W hown hw (by omega) hO_w rfl 0 (by decide) (hq _ fl_W_17) (fun _ h9 => h9) rfl d_W_spareBits_12 ?_
      refine lv_aload_n hx hb d_W_spareBits_15 rfl (lv_at hl 0 rfl) ?_
      refine pw_get (ci := 0) (C := R_W) (T := T_W) (N := 2) hx hb hq i_W hown hw (by omega) hO_w rfl 1 (by decide) (hq _ fl_W_21) (fun _ h9 => h9) rfl d_W_spareBits_16 ?_
      refine wz_iconst (n := 1) hx hb d_W_spareBits_19 ?_
      refine wz_isub hx hb d_W_spareBits_20 rfl ?_
      refine pw_iald (k := n - 1) hx hb hw 0 (by omega) hA_w rfl (iI_in (by omega) (by omega) (by omega)) ((iI_cl (by omega) (by omega)).trans (by omega)) d_W_spareBits_21 ?_
      refine lv_topi (fun x21 ex21 => ?_)
      obtain rfl : x21 = iI ((dl g (n - 1) : Int)) := ex21.trans (dl_get (hd (n - 1) (by omega)))
      have hd0 := hd (n - 1) (by omega)
      have hd1 : 0 < dl g (n - 1) := by omega
      refine pw_calli hw (va_runS (As := [.int (iI ((dl g (n - 1) : Int)))]) (rest := []) ⟨hx, hb, hml, hown, hq⟩ (c_JI_numberOfLeadingZeros l D ty ad M F H.size (dl g (n - 1)) (by omega) (by omega)) (va_cwS 1 hq (gS ml_W_32 st_JI_numberOfLeadingZeros in_JI m_JI_numberOfLeadingZeros) rfl rfl rfl (by decide +kernel) ⟨Nat.le_of_ble_eq_true rfl, Nat.le_of_ble_eq_true rfl⟩) (pw_preS hw) rfl rfl hl.1 rfl (lv_room (Nat.le_of_ble_eq_true rfl)) d_W_spareBits_22 ⟨Nat.le_of_ble_eq_true rfl, Nat.le_of_ble_eq_true rfl⟩) (fun r22 F22 H locs q22 hw => ?_)
      obtain ⟨⟨k, rfl, hk1, hk2, hk3, hk4⟩, eF22⟩ := q22
      rw [eF22] at hw
      clear eF22
      refine wz_iconst (n := 1) hx hb d_W_spareBits_25 ?_
      refine wz_isub (z := ((k - 1 : Nat) : Int)) hx hb d_W_spareBits_26 (by omega) ?_
      rw [← hQ]
      exact pw_iret hx hb hr hlocks hw (⟨⟨k - 1, rfl, by omega, fun h => absurd h (by omega), fun _ => ⟨by rw [show 30 - (k - 1) = 31 - k by omega]; exact hk3, by rw [show 31 - (k - 1) = 32 - k by omega]; exact hk4⟩⟩, rfl⟩) d_W_spareBits_27
    · refine wz_iconst (n := 0) hx hb d_W_spareBits_7 ?_
      refine lv_goto (tgt := 27) hx hb d_W_spareBits_8 (by decide) ?_
      rw [← hQ]
      exact pw_iret hx hb hr hlocks hw (⟨⟨0, rfl, by omega, fun _ => rfl, fun h => absurd h (by omega)⟩, rfl⟩) d_W_spareBits_27
  rw [hH, hlo] at hgo
  exact hgo
set_option maxHeartbeats 4000000 in
set_option maxRecDepth 100000 in
/-- Whole.bits() -/
theorem c_W_bits (l : Launch) (D : va_G) (ty : Nat → ClassId) (ad : Nat → Nat) (M : Nat) (F : Nat → va_E) (sz : Nat) (w N v : Nat) (hM : w + 1 < M) (hN : N < 1000) (h : Wv ty ad F w N v) :
    CI l y_W_bits w_W_bits ({ frames := 2, cells := 0, slots := 0, locals := 41 } : Room) [.ref (ad (w))] D ty ad M F sz (fun r F1 => r = iI (bl v) ∧ F1 = F) := by
  refine Met.ofW (cc := b_W_bits) (maxL := 1) (ret := (some .int)) (by decide) rfl ?_
  intro p e s m args below meth c s₁ B hml hv
  obtain ⟨rfl, hsz, hP, hK, hD0⟩ := hv
  have hx := B.exec
  have hb := B.bytes
  have hr := B.returns
  have hts := atoms_spec (ws := w_W_bits) B.pre
  have hq : ∀ w ∈ wT, w.before _ s = true := fun w h => hts w (List.mem_cons_of_mem _ h)
  have hown : s.vm.findClass R_W = some m.cls := findClass_of_methodNamed B.named
  have hlocks := B.notSynchronized
  subst hsz
  have hw := pw_start hP hK hD0
  have hl := lv_entry ([.ref (ad (w))]) (n := 1) (Nat.le_of_ble_eq_true rfl)
  rw [lg_entry_eq]
  generalize (lg_sl ([.ref (ad (w))]) ++ List.replicate (1 - (lg_sl ([.ref (ad (w))])).length) Slot.unset).toArray = ls at hl ⊢
  have hl : lv_has ls 1 [(0, .ref (ad (w)))] := hl
  change W p l e ({ frames := 2, cells := 0, slots := 0, locals := 41 } : Room) s m ([.ref (ad (w))]).toArray below meth c s.heap [] 0 0 (MQ below (va_Qi (fun r F1 => r = iI (bl v) ∧ F1 = F) (pAt D classes (tysL ty) ad M (pA ad M s.heap.size)) (pA ad M s.heap.size)) ([.ref (ad (w))]).toArray s 0 0 (pA ad M s.heap.size)) (F0 m 0 ls [])
  generalize hQ : MQ below (va_Qi (fun r F1 => r = iI (bl v) ∧ F1 = F) (pAt D classes (tysL ty) ad M (pA ad M s.heap.size)) (pA ad M s.heap.size)) ([.ref (ad (w))]).toArray s 0 0 (pA ad M s.heap.size) = Q
  obtain ⟨H, hH⟩ : ∃ H, H = s.heap := ⟨_, rfl⟩
  obtain ⟨locs, hlo⟩ : ∃ z : List Loc, z = [] := ⟨_, rfl⟩
  have hw : pw D classes (tysL ty) ad M F (pA ad M s.heap.size) s H locs := by rw [hH, hlo]; exact hw
  have hgo : W p l e ({ frames := 2, cells := 0, slots := 0, locals := 41 } : Room) s m ([.ref (ad (w))]).toArray below meth c H locs 0 0 Q (F0 m 0 ls []) := by
    obtain ⟨n, g, ⟨hO_w, hA_w⟩, hok⟩ := h
    have hn := hok.1
    have hd := hok.2.1
    have hz := hok.zero
    refine lv_aload_n hx hb d_W_bits_0 rfl (lv_at hl 0 rfl) ?_
    refine pw_get (ci := 0) (C := R_W) (T := T_W) (N := 2) hx hb hq i_W hown hw (by omega) hO_w rfl 1 (by decide) (hq _ fl_W_21) (fun _ h9 => h9) rfl d_W_bits_1 ?_
    refine wz_if_ne (tgt := 9) hx hb d_W_bits_4 (by decide) (by omega) (by omega) (fun c4 => ?_) (fun c4 => ?_)
    · refine lv_aload_n hx hb d_W_bits_9 rfl (lv_at hl 0 rfl) ?_
      refine pw_get (ci := 0) (C := R_W) (T := T_W) (N := 2) hx hb hq i_W hown hw (by omega) hO_w rfl 1 (by decide) (hq _ fl_W_21) (fun _ h9 => h9) rfl d_W_bits_10 ?_
      refine wz_bipush (n := 31) hx hb d_W_bits_13 (by decide) ?_
      refine wz_imul hx hb d_W_bits_15 rfl ?_
      refine lv_aload_n hx hb d_W_bits_16 rfl (lv_at hl 0 rfl) ?_
      refine pw_calli hw (va_runV (As := []) (rest := [.int (iI ((n : Int) * 31))]) ⟨hx, hb, hml, hown, hq⟩ (c_W_spareBits l D ty ad M F H.size w N n g hM hN hn hd hok.2.2.1 hO_w hA_w) (cwV 0 hq (gV ml_W_29 im_W_spareBits se_W_spareBits in_W m_W_spareBits) rfl rfl rfl (by decide +kernel) ⟨Nat.le_of_ble_eq_true rfl, Nat.le_of_ble_eq_true rfl⟩) (pw_preV hw (by omega) hO_w rfl) rfl rfl hl.1 rfl (lv_room (Nat.le_of_ble_eq_true rfl)) d_W_bits_17 ⟨Nat.le_of_ble_eq_true rfl, Nat.le_of_ble_eq_true rfl⟩) (fun r17 F17 H locs q17 hw => ?_)
      obtain ⟨⟨s0, rfl, hs1, hs2, hs3⟩, eF17⟩ := q17
      rw [eF17] at hw
      clear eF17
      obtain ⟨hs4, hs5⟩ := hs3 (by omega)
      refine wz_isub (z := ((31 * n - s0 : Nat) : Int)) hx hb d_W_bits_20 (by omega) ?_
      rw [← hQ]
      exact pw_iret hx hb hr hlocks hw (⟨by rw [hok.bl (t := 30 - s0) (by omega) hs4 (by rw [show 30 - s0 + 1 = 31 - s0 by omega]; exact hs5)]; congr 1; omega, rfl⟩) d_W_bits_21
    · refine wz_iconst (n := 0) hx hb d_W_bits_7 ?_
      rw [← hQ]
      exact pw_iret hx hb hr hlocks hw (⟨by rw [show v = 0 by omega]; rfl, rfl⟩) d_W_bits_8
  rw [hH, hlo] at hgo
  exact hgo
set_option maxHeartbeats 4000000 in
set_option maxRecDepth 100000 in
/-- Whole.isSmallEnough() -/
theorem c_W_isSmallEnough (l : Launch) (D : va_G) (ty : Nat → ClassId) (ad : Nat → Nat) (M : Nat) (F : Nat → va_E) (sz : Nat) (w N v : Nat) (hM : w + 1 < M) (hN : N < 1000) (h : Wv ty ad F w N v) :
    CI l y_W_isSmallEnough w_W_isSmallEnough ({ frames := 3, cells := 0, slots := 0, locals := 61 } : Room) [.ref (ad (w))] D ty ad M F sz (fun r F1 => r = iI (if v < 2 ^ 2048 then 1 else 0) ∧ F1 = F) := by
  refine Met.ofW (cc := b_W_isSmallEnough) (maxL := 1) (ret := (some .boolean)) (by decide) rfl ?_
  intro p e s m args below meth c s₁ B hml hv
  obtain ⟨rfl, hsz, hP, hK, hD0⟩ := hv
  have hx := B.exec
  have hb := B.bytes
  have hr := B.returns
  have hts := atoms_spec (ws := w_W_isSmallEnough) B.pre
  have hq : ∀ w ∈ wT, w.before _ s = true := fun w h => hts w (List.mem_cons_of_mem _ h)
  have hown : s.vm.findClass R_W = some m.cls := findClass_of_methodNamed B.named
  have hlocks := B.notSynchronized
  subst hsz
  have hw := pw_start hP hK hD0
  have hl := lv_entry ([.ref (ad (w))]) (n := 1) (Nat.le_of_ble_eq_true rfl)
  rw [lg_entry_eq]
  generalize (lg_sl ([.ref (ad (w))]) ++ List.replicate (1 - (lg_sl ([.ref (ad (w))])).length) Slot.unset).toArray = ls at hl ⊢
  have hl : lv_has ls 1 [(0, .ref (ad (w)))] := hl
  change W p l e ({ frames := 3, cells := 0, slots := 0, locals := 61 } : Room) s m ([.ref (ad (w))]).toArray below meth c s.heap [] 0 0 (MQ below (va_Qi (fun r F1 => r = iI (if v < 2 ^ 2048 then 1 else 0) ∧ F1 = F) (pAt D classes (tysL ty) ad M (pA ad M s.heap.size)) (pA ad M s.heap.size)) ([.ref (ad (w))]).toArray s 0 0 (pA ad M s.heap.size)) (F0 m 0 ls [])
  generalize hQ : MQ below (va_Qi (fun r F1 => r = iI (if v < 2 ^ 2048 then 1 else 0) ∧ F1 = F) (pAt D classes (tysL ty) ad M (pA ad M s.heap.size)) (pA ad M s.heap.size)) ([.ref (ad (w))]).toArray s 0 0 (pA ad M s.heap.size) = Q
  obtain ⟨H, hH⟩ : ∃ H, H = s.heap := ⟨_, rfl⟩
  obtain ⟨locs, hlo⟩ : ∃ z : List Loc, z = [] := ⟨_, rfl⟩
  have hw : pw D classes (tysL ty) ad M F (pA ad M s.heap.size) s H locs := by rw [hH, hlo]; exact hw
  have hgo : W p l e ({ frames := 3, cells := 0, slots := 0, locals := 61 } : Room) s m ([.ref (ad (w))]).toArray below meth c H locs 0 0 Q (F0 m 0 ls []) := by
    have hb0 : bl v < 40000 := by
      obtain ⟨n, g, -, hok⟩ := h
      have h1 := hok.ltN
      rw [pow31] at h1
      have h2 := bl_le.mpr h1
      omega
    obtain ⟨n, g, ⟨hO_w, hA_w⟩, -⟩ := id h
    have hbl := @bl_le v 2048
    refine lv_aload_n hx hb d_W_isSmallEnough_0 rfl (lv_at hl 0 rfl) ?_
    refine pw_calli hw (va_runV (As := []) (rest := []) ⟨hx, hb, hml, hown, hq⟩ (c_W_bits l D ty ad M F H.size w N v hM hN h) (cwV 0 hq (gV ml_W_25 im_W_bits se_W_bits in_W m_W_bits) rfl rfl rfl (by decide +kernel) ⟨Nat.le_of_ble_eq_true rfl, Nat.le_of_ble_eq_true rfl⟩) (pw_preV hw (by omega) hO_w rfl) rfl rfl hl.1 rfl (lv_room (Nat.le_of_ble_eq_true rfl)) d_W_isSmallEnough_1 ⟨Nat.le_of_ble_eq_true rfl, Nat.le_of_ble_eq_true rfl⟩) (fun r1 F1 H locs q1 hw => ?_)
    obtain ⟨er1, eF1⟩ := q1
    rw [eF1] at hw
    clear eF1
    subst er1
    refine wz_sipush (n := 2048) hx hb d_W_isSmallEnough_4 (by decide) ?_
    refine wz_icmp_gt (tgt := 14) hx hb d_W_isSmallEnough_7 (by decide) (by omega) (by omega) (by omega) (by omega) (fun c7 => ?_) (fun c7 => ?_)
    · refine wz_iconst (n := 0) hx hb d_W_isSmallEnough_14 ?_
      rw [← hQ]
      exact pw_zret hx hb hr (by decide) hlocks hw (⟨by congr 1; split <;> omega, rfl⟩) d_W_isSmallEnough_15
    · refine wz_iconst (n := 1) hx hb d_W_isSmallEnough_10 ?_
      refine lv_goto (tgt := 15) hx hb d_W_isSmallEnough_11 (by decide) ?_
      rw [← hQ]
      exact pw_zret hx hb hr (by decide) hlocks hw (⟨by congr 1; split <;> omega, rfl⟩) d_W_isSmallEnough_15
  rw [hH, hlo] at hgo
  exact hgo
set_option maxHeartbeats 4000000 in
set_option maxRecDepth 100000 in
/-- Whole.limb(i) -/
theorem c_W_limb (l : Launch) (D : va_G) (ty : Nat → ClassId) (ad : Nat → Nat) (M : Nat) (F : Nat → va_E) (sz : Nat) (w N n : Nat) (g : Nat → Int32) (i : Int) (hM : w + 1 < M) (hN : N < 1000) (hn : n ≤ N) (hd : ∀ i, i < n → dl g i < 2147483648) (hi : -10 < i ∧ i < 10000) (hO_w : F (w) = .inr (0, [.ref (ad (w + 1)), .int (iI ((n : Int)))])) (hA_w : F (w + 1) = .inl (ty 0, N, .inl (g))) :
    CI l y_W_limb w_W_limb ({ frames := 0, cells := 0, slots := 0, locals := 0 } : Room) [.ref (ad (w)), .int (iI (i))] D ty ad M F sz (fun r F1 => r = iI (lmz g n i) ∧ F1 = F) := by
  refine Met.ofW (cc := b_W_limb) (maxL := 2) (ret := (some .int)) (by decide) rfl ?_
  intro p e s m args below meth c s₁ B hml hv
  obtain ⟨rfl, hsz, hP, hK, hD0⟩ := hv
  have hx := B.exec
  have hb := B.bytes
  have hr := B.returns
  have hts := atoms_spec (ws := w_W_limb) B.pre
  have hq : ∀ w ∈ wT, w.before _ s = true := fun w h => hts w (List.mem_cons_of_mem _ h)
  have hown : s.vm.findClass R_W = some m.cls := findClass_of_methodNamed B.named
  have hlocks := B.notSynchronized
  subst hsz
  have hw := pw_start hP hK hD0
  have hl := lv_entry ([.ref (ad (w)), .int (iI (i))]) (n := 2) (Nat.le_of_ble_eq_true rfl)
  rw [lg_entry_eq]
  generalize (lg_sl ([.ref (ad (w)), .int (iI (i))]) ++ List.replicate (2 - (lg_sl ([.ref (ad (w)), .int (iI (i))])).length) Slot.unset).toArray = ls at hl ⊢
  have hl : lv_has ls 2 [(0, .ref (ad (w))), (1, .int (iI (i)))] := hl
  change W p l e ({ frames := 0, cells := 0, slots := 0, locals := 0 } : Room) s m ([.ref (ad (w)), .int (iI (i))]).toArray below meth c s.heap [] 0 0 (MQ below (va_Qi (fun r F1 => r = iI (lmz g n i) ∧ F1 = F) (pAt D classes (tysL ty) ad M (pA ad M s.heap.size)) (pA ad M s.heap.size)) ([.ref (ad (w)), .int (iI (i))]).toArray s 0 0 (pA ad M s.heap.size)) (F0 m 0 ls [])
  generalize hQ : MQ below (va_Qi (fun r F1 => r = iI (lmz g n i) ∧ F1 = F) (pAt D classes (tysL ty) ad M (pA ad M s.heap.size)) (pA ad M s.heap.size)) ([.ref (ad (w)), .int (iI (i))]).toArray s 0 0 (pA ad M s.heap.size) = Q
  obtain ⟨H, hH⟩ : ∃ H, H = s.heap := ⟨_, rfl⟩
  obtain ⟨locs, hlo⟩ : ∃ z : List Loc, z = [] := ⟨_, rfl⟩
  have hw : pw D classes (tysL ty) ad M F (pA ad M s.heap.size) s H locs := by rw [hH, hlo]; exact hw
  have hgo : W p l e ({ frames := 0, cells := 0, slots := 0, locals := 0 } : Room) s m ([.ref (ad (w)), .int (iI (i))]).toArray below meth c H locs 0 0 Q (F0 m 0 ls []) := by
    refine lv_iload_n hx hb d_W_limb_0 rfl (lv_at hl 1 rfl) ?_
    refine wz_if_lt (tgt := 21) hx hb d_W_limb_1 (by decide) (by omega) (by omega) (fun c1 => ?_) (fun c1 => ?_)
    · refine wz_iconst (n := 0) hx hb d_W_limb_21 ?_
      rw [← hQ]
      exact pw_iret hx hb hr hlocks hw (⟨by rw [lmz, if_neg (by omega)]; rfl, rfl⟩) d_W_limb_22
    · refine lv_iload_n hx hb d_W_limb_4 rfl (lv_at hl 1 rfl) ?_
      refine lv_aload_n hx hb d_W_limb_5 rfl (lv_at hl 0 rfl) ?_
      refine pw_get (ci := 0) (C := R_W) (T := T_W) (N := 2) hx hb hq i_W hown hw (by omega) hO_w rfl 1 (by decide) (hq _ fl_W_21) (fun _ h9 => h9) rfl d_W_limb_6 ?_
      refine wz_icmp_ge (tgt := 21) hx hb d_W_limb_9 (by decide) (by omega) (by omega) (by omega) (by omega) (fun c9 => ?_) (fun c9 => ?_)
      · refine wz_iconst (n := 0) hx hb d_W_limb_21 ?_
        rw [← hQ]
        exact pw_iret hx hb hr hlocks hw (⟨by rw [lmz, if_neg (by omega)]; rfl, rfl⟩) d_W_limb_22
      · refine lv_aload_n hx hb d_W_limb_12 rfl (lv_at hl 0 rfl) ?_
        refine pw_get (ci := 0) (C := R_W) (T := T_W) (N := 2) hx hb hq i_W hown hw (by omega) hO_w rfl 0 (by decide) (hq _ fl_W_17) (fun _ h9 => h9) rfl d_W_limb_13 ?_
        refine lv_iload_n hx hb d_W_limb_16 rfl (lv_at hl 1 rfl) ?_
        refine pw_iald (k := i.toNat) hx hb hw 0 (by omega) hA_w rfl (iI_in (by omega) (by omega) (by omega)) ((iI_cl (by omega) (by omega)).trans (by omega)) d_W_limb_17 ?_
        refine lv_topi (fun x17 ex17 => ?_)
        obtain rfl : x17 = iI ((dl g i.toNat : Int)) := ex17.trans (dl_get (hd i.toNat (by omega)))
        refine lv_goto (tgt := 22) hx hb d_W_limb_18 (by decide) ?_
        rw [← hQ]
        exact pw_iret hx hb hr hlocks hw (⟨by rw [lmz, if_pos (by omega)], rfl⟩) d_W_limb_22
  rw [hH, hlo] at hgo
  exact hgo
end
section
/-! arithmetic of a Whole's loops -/
theorem bv_cons (B : Nat) (d : Nat → Nat) : ∀ n : Nat, bv B d (n + 1) = d 0 + B * bv B (fun t => d (t + 1)) n
  | 0 => by simp [bv]
  | n + 1 => by
    rw [bv_s, bv_cons B d n, bv_s, Nat.mul_add, Nat.pow_succ]
    have : d (n + 1) * (B ^ n * B) = B * (d (n + 1) * B ^ n) := by ac_rfl
    omega
theorem dl3 {g g1 g2 g3 : Nat → Int32} {a b c : Nat} (ha : a < 2147483648) (hb : b < 2147483648) (hc : c < 2147483648) (e1 : g1 = upd g 0 (iI a)) (e2 : g2 = upd g1 1 (iI b)) (e3 : g3 = upd g2 2 (iI c)) :
    (∀ i, i < 3 → dl g3 i < 2147483648) ∧ bv 2147483648 (dl g3) 3 = a + b * 2147483648 + c * 4611686018427387904 := by
  have h0 : dl g3 0 = a := by rw [e3, dl_un (by decide), e2, dl_un (by decide), e1, dl_us (by omega)]
  have h1 : dl g3 1 = b := by rw [e3, dl_un (by decide), e2, dl_us (by omega)]
  have h2 : dl g3 2 = c := by rw [e3, dl_us (by omega)]
  constructor
  · intro i hi
    rcases (show i = 0 ∨ i = 1 ∨ i = 2 by omega) with rfl | rfl | rfl <;> omega
  · show ((0 + dl g3 0 * 2147483648 ^ 0) + dl g3 1 * 2147483648 ^ 1) + dl g3 2 * 2147483648 ^ 2 = _
    rw [h0, h1, h2]; omega
/-- a word of 32 bits out of two limbs of 31 -/
theorem word_eq {v i o k : Nat} (ho : o ≤ 30) (hk : 32 * k = 31 * i + o) : v / 2 ^ (32 * k) % 4294967296 = ((v / 2147483648 ^ (i + 1) % 2147483648) * 2 ^ (31 - o) + (v / 2147483648 ^ i % 2147483648) / 2 ^ o) % 4294967296 := by
  rw [hk, Nat.pow_add, ← pow31, ← Nat.div_div_eq_div_mul, Nat.pow_succ, ← Nat.div_div_eq_div_mul v]
  generalize v / 2147483648 ^ i = q
  have hB : 2147483648 = 2 ^ o * 2 ^ (31 - o) := by rw [← Nat.pow_add, show o + (31 - o) = 31 by omega]
  have hp : 0 < 2 ^ o := Nat.two_pow_pos o
  have e1 : q = 2147483648 * (q / 2147483648) + q % 2147483648 := (Nat.div_add_mod q _).symm
  have e2 : q / 2 ^ o = 2 ^ (31 - o) * (q / 2147483648) + q % 2147483648 / 2 ^ o := by
    have : 2147483648 * (q / 2147483648) = 2 ^ o * (2 ^ (31 - o) * (q / 2147483648)) := by
      rw [← Nat.mul_assoc, ← hB]
    calc q / 2 ^ o = (2 ^ o * (2 ^ (31 - o) * (q / 2147483648)) + q % 2147483648) / 2 ^ o := by rw [← this, ← e1]
      _ = _ := Nat.mul_add_div hp _ _
  generalize hr : q / 2147483648 = r at e2
  have e3 : r = 2147483648 * (r / 2147483648) + r % 2147483648 := (Nat.div_add_mod r _).symm
  have e4 : 2 ^ (31 - o) * r = 4294967296 * (2 ^ (30 - o) * (r / 2147483648)) + r % 2147483648 * 2 ^ (31 - o) := by
    have h1 : 2 ^ (31 - o) = 2 ^ (30 - o) * 2 := by rw [show 31 - o = (30 - o) + 1 by omega, Nat.pow_succ]
    have h2 : 2 ^ (31 - o) * r = 2 ^ (31 - o) * (2147483648 * (r / 2147483648)) + 2 ^ (31 - o) * (r % 2147483648) := by rw [← Nat.mul_add, ← e3]
    have h3 : 2 ^ (31 - o) * (2147483648 * (r / 2147483648)) = 4294967296 * (2 ^ (30 - o) * (r / 2147483648)) := by
      rw [h1, show (4294967296 : Nat) = 2 * 2147483648 by decide]; ac_rfl
    rw [h2, h3, Nat.mul_comm (2 ^ (31 - o)) (r % 2147483648)]
  rw [e2, e4, Nat.add_assoc, Nat.mul_add_mod]
theorem lmz_nat {N n v : Nat} {g : Nat → Int32} (h : Wok N n g v) (i : Nat) : lmz g n i = v / 2147483648 ^ i % 2147483648 := by
  rw [← h.2.2.2, bv_limb (by decide) h.2.1]
  unfold lmz lm
  by_cases c : i < n
  · rw [if_pos (by omega), if_pos c]; rfl
  · rw [if_neg (by omega), if_neg c]
/-- a product by a limb and a carry -/
theorem tp_step {B F x c S d e D i : Nat} (h : S + c * B ^ i = F * D + e) (hS : d = (F * x + c) % B) : (S + d * B ^ i) + ((F * x + c) / B) * B ^ (i + 1) = F * (D + x * B ^ i) + e := by
  have k := carry_step B (F * x + c) (B ^ i)
  rw [hS, Nat.pow_succ, Nat.mul_add]
  rw [Nat.add_mul] at k
  have : F * (x * B ^ i) = F * x * B ^ i := by ac_rfl
  omega
/-- its highest limb is not 0, as the number is not smaller than it was -/
theorem top_ne {B n v : Nat} {d : Nat → Nat} (hd : ∀ i, i < n → d i < B) (hv : 0 < n → B ^ (n - 1) ≤ v) (h : bv B d n = v) : n = 0 ∨ d (n - 1) ≠ 0 := by
  rcases Nat.eq_zero_or_pos n with c | c
  · exact Or.inl c
  · refine Or.inr (fun q => ?_)
    obtain ⟨j, rfl⟩ : ∃ j, n = j + 1 := ⟨n - 1, by omega⟩
    rw [Nat.add_sub_cancel] at q
    have h1 := hv c
    rw [Nat.add_sub_cancel] at h1
    rw [bv_s, q] at h
    have h2 : bv B d j < B ^ j := bv_lt (fun i hi => hd i (by omega))
    omega
end
section
/-! Whole: shiftedLimb, word, becomeLong, become: by program -/
set_option maxHeartbeats 4000000 in
set_option maxRecDepth 100000 in
/-- Whole.shiftedLimb(i, shift) -/
theorem c_W_shiftedLimb (l : Launch) (D : va_G) (ty : Nat → ClassId) (ad : Nat → Nat) (M : Nat) (F : Nat → va_E) (sz : Nat) (w N n : Nat) (g : Nat → Int32) (i : Int) (s0 : Nat) (hM : w + 1 < M) (hN : N < 1000) (hn : n ≤ N) (hd : ∀ i, i < n → dl g i < 2147483648) (hi : -5 < i ∧ i < 5000) (hs : s0 ≤ 30) (hO_w : F (w) = .inr (0, [.ref (ad (w + 1)), .int (iI ((n : Int)))])) (hA_w : F (w + 1) = .inl (ty 0, N, .inl (g))) :
    CJ l y_W_shiftedLimb w_W_shiftedLimb ({ frames := 1, cells := 0, slots := 0, locals := 21 } : Room) [.ref (ad (w)), .int (iI (i)), .int (iI ((s0 : Int)))] D ty ad M F sz (fun r F1 => r = iL (((lmz g n i * 2 ^ s0 + lmz g n (i - 1) / 2 ^ (31 - s0)) % 2147483648 : Nat) : Int) ∧ F1 = F) := by
  refine Met.ofW (cc := b_W_shiftedLimb) (maxL := 5) (ret := (some .long)) (by decide) rfl ?_
  intro p e s m args below meth c s₁ B hml hv
  obtain ⟨rfl, hsz, hP, hK, hD0⟩ := hv
  have hx := B.exec
  have hb := B.bytes
  have hr := B.returns
  have hts := atoms_spec (ws := w_W_shiftedLimb) B.pre
  have hq : ∀ w ∈ wT, w.before _ s = true := fun w h => hts w (List.mem_cons_of_mem _ h)
  have hown : s.vm.findClass R_W = some m.cls := findClass_of_methodNamed B.named
  have hlocks := B.notSynchronized
  subst hsz
  have hw := pw_start hP hK hD0
  have hl := lv_entry ([.ref (ad (w)), .int (iI (i)), .int (iI ((s0 : Int)))]) (n := 5) (Nat.le_of_ble_eq_true rfl)
  rw [lg_entry_eq]
  generalize (lg_sl ([.ref (ad (w)), .int (iI (i)), .int (iI ((s0 : Int)))]) ++ List.replicate (5 - (lg_sl ([.ref (ad (w)), .int (iI (i)), .int (iI ((s0 : Int)))])).length) Slot.unset).toArray = ls at hl ⊢
  have hl : lv_has ls 5 [(0, .ref (ad (w))), (1, .int (iI (i))), (2, .int (iI ((s0 : Int))))] := hl
  change W p l e ({ frames := 1, cells := 0, slots := 0, locals := 21 } : Room) s m ([.ref (ad (w)), .int (iI (i)), .int (iI ((s0 : Int)))]).toArray below meth c s.heap [] 0 0 (MQ below (va_Ql (fun r F1 => r = iL (((lmz g n i * 2 ^ s0 + lmz g n (i - 1) / 2 ^ (31 - s0)) % 2147483648 : Nat) : Int) ∧ F1 = F) (pAt D classes (tysL ty) ad M (pA ad M s.heap.size)) (pA ad M s.heap.size)) ([.ref (ad (w)), .int (iI (i)), .int (iI ((s0 : Int)))]).toArray s 0 0 (pA ad M s.heap.size)) (F0 m 0 ls [])
  generalize hQ : MQ below (va_Ql (fun r F1 => r = iL (((lmz g n i * 2 ^ s0 + lmz g n (i - 1) / 2 ^ (31 - s0)) % 2147483648 : Nat) : Int) ∧ F1 = F) (pAt D classes (tysL ty) ad M (pA ad M s.heap.size)) (pA ad M s.heap.size)) ([.ref (ad (w)), .int (iI (i)), .int (iI ((s0 : Int)))]).toArray s 0 0 (pA ad M s.heap.size) = Q
  obtain ⟨H, hH⟩ : ∃ H, H = s.heap := ⟨_, rfl⟩
  obtain ⟨locs, hlo⟩ : ∃ z : List Loc, z = [] := ⟨_, rfl⟩
  have hw : pw D classes (tysL ty) ad M F (pA ad M s.heap.size) s H locs := by rw [hH, hlo]; exact hw
  have hgo : W p l e ({ frames := 1, cells := 0, slots := 0, locals := 21 } : Room) s m ([.ref (ad (w)), .int (iI (i)), .int (iI ((s0 : Int)))]).toArray below meth c H locs 0 0 Q (F0 m 0 ls []) := by
    have hb1 := lmz_lt hd i
    have hb2 := lmz_lt hd (i - 1)
    have hb3 : lmz g n (i - 1) / 2 ^ (31 - s0) ≤ lmz g n (i - 1) := Nat.div_le_self _ _
    have hb4 : lmz g n (i - 1) / 2 ^ (31 - s0) < 2 ^ s0 := Nat.div_lt_of_lt_mul (by rw [← Nat.pow_add, show 31 - s0 + s0 = 31 by omega]; exact hb2)
    have hb5 : lmz g n i * 2 ^ s0 ≤ 2147483648 * 2 ^ 30 := Nat.mul_le_mul (by omega) (Nat.pow_le_pow_right (by decide) hs)
    refine lv_aload_n hx hb d_W_shiftedLimb_0 rfl (lv_at hl 0 rfl) ?_
    refine lv_iload_n hx hb d_W_shiftedLimb_1 rfl (lv_at hl 1 rfl) ?_
    refine pw_calli hw (va_runV (As := [.int (iI (i))]) (rest := []) ⟨hx, hb, hml, hown, hq⟩ (c_W_limb l D ty ad M F H.size w N n g i hM hN hn hd (by omega) hO_w hA_w) (cwV 1 hq (gV ml_W_38 im_W_limb se_W_limb in_W m_W_limb) rfl rfl rfl (by decide +kernel) ⟨Nat.le_of_ble_eq_true rfl, Nat.le_of_ble_eq_true rfl⟩) (pw_preV hw (by omega) hO_w rfl) rfl rfl hl.1 rfl (lv_room (Nat.le_of_ble_eq_true rfl)) d_W_shiftedLimb_2 ⟨Nat.le_of_ble_eq_true rfl, Nat.le_of_ble_eq_true rfl⟩) (fun r2 F2 H locs q2 hw => ?_)
    obtain ⟨er2, eF2⟩ := q2
    rw [eF2] at hw
    clear eF2
    subst er2
    refine wz_i2l hx hb d_W_shiftedLimb_5 (by omega) (by omega) ?_
    refine lv_iload_n hx hb d_W_shiftedLimb_6 rfl (lv_at hl 2 rfl) ?_
    refine lv_lshl (v := iL (((lmz g n i * 2 ^ s0 : Nat) : Int))) hx hb d_W_shiftedLimb_7 (iL_shl (k := s0) (by omega)) ?_
    refine lv_aload_n hx hb d_W_shiftedLimb_8 rfl (lv_at hl 0 rfl) ?_
    refine lv_iload_n hx hb d_W_shiftedLimb_9 rfl (lv_at hl 1 rfl) ?_
    refine wz_iconst (n := 1) hx hb d_W_shiftedLimb_10 ?_
    refine wz_isub hx hb d_W_shiftedLimb_11 rfl ?_
    refine pw_calli hw (va_runV (As := [.int (iI (i - 1))]) (rest := [.long (iL (((lmz g n i * 2 ^ s0 : Nat) : Int)))]) ⟨hx, hb, hml, hown, hq⟩ (c_W_limb l D ty ad M F H.size w N n g (i - 1) hM hN hn hd (by omega) hO_w hA_w) (cwV 1 hq (gV ml_W_38 im_W_limb se_W_limb in_W m_W_limb) rfl rfl rfl (by decide +kernel) ⟨Nat.le_of_ble_eq_true rfl, Nat.le_of_ble_eq_true rfl⟩) (pw_preV hw (by omega) hO_w rfl) rfl rfl hl.1 rfl (lv_room (Nat.le_of_ble_eq_true rfl)) d_W_shiftedLimb_12 ⟨Nat.le_of_ble_eq_true rfl, Nat.le_of_ble_eq_true rfl⟩) (fun r12 F12 H locs q12 hw => ?_)
    obtain ⟨er12, eF12⟩ := q12
    rw [eF12] at hw
    clear eF12
    subst er12
    refine wz_bipush (n := 31) hx hb d_W_shiftedLimb_15 (by decide) ?_
    refine lv_iload_n hx hb d_W_shiftedLimb_17 rfl (lv_at hl 2 rfl) ?_
    refine wz_isub (z := ((31 - s0 : Nat) : Int)) hx hb d_W_shiftedLimb_18 (by omega) ?_
    refine lv_iushr (v := iI (((lmz g n (i - 1) / 2 ^ (31 - s0) : Nat) : Int))) hx hb d_W_shiftedLimb_19 (iI_ushr (k := 31 - s0) (by omega) (by omega)) ?_
    refine wz_i2l hx hb d_W_shiftedLimb_20 (Int.le_trans (by decide) (Int.natCast_nonneg _)) (by omega) ?_
    refine lv_lor hx hb d_W_shiftedLimb_21 ?_
    refine lv_topl (fun x21 ex21 => ?_)
    obtain rfl : x21 = iL (((lmz g n i * 2 ^ s0 + lmz g n (i - 1) / 2 ^ (31 - s0) : Nat) : Int)) := ex21.trans (iL_or (k := s0) hb4 (by omega))
    refine lv_lstore_n (lv' := [(3, .long (iL (((lmz g n i * 2 ^ s0 + lmz g n (i - 1) / 2 ^ (31 - s0) : Nat) : Int)))), (0, .ref (ad (w))), (1, .int (iI (i))), (2, .int (iI ((s0 : Int))))]) hx hb d_W_shiftedLimb_22 rfl hl (by decide) rfl (fun ls hl => ?_)
    refine lv_lload_n hx hb d_W_shiftedLimb_23 rfl (lv_at hl 0 rfl) ?_
    refine lv_ldc2 (v := iL (2147483647)) hx hb hown (hq _ cj_W_43) d_W_shiftedLimb_24 ?_
    refine lv_land hx hb d_W_shiftedLimb_27 ?_
    refine lv_topl (fun x27 ex27 => ?_)
    obtain rfl : x27 = iL ((((lmz g n i * 2 ^ s0 + lmz g n (i - 1) / 2 ^ (31 - s0)) % 2147483648 : Nat) : Int)) := ex27.trans (iL_m31 _)
    rw [← hQ]
    exact pw_lret hx hb hr hlocks hw (⟨rfl, rfl⟩) d_W_shiftedLimb_28
  rw [hH, hlo] at hgo
  exact hgo
set_option maxHeartbeats 4000000 in
set_option maxRecDepth 100000 in
/-- Whole.word(k) -/
theorem c_W_word (l : Launch) (D : va_G) (ty : Nat → ClassId) (ad : Nat → Nat) (M : Nat) (F : Nat → va_E) (sz : Nat) (w N v : Nat) (k : Int) (hM : w + 1 < M) (hN : N < 1000) (h : Wv ty ad F w N v) (hk : -2147483648 ≤ k ∧ k < 2147483648) :
    CJ l y_W_word w_W_word ({ frames := 1, cells := 0, slots := 0, locals := 21 } : Room) [.ref (ad (w)), .int (iI (k))] D ty ad M F sz (fun r F1 => r = iL ((if 0 ≤ k then v / 2 ^ (32 * k.toNat) % 4294967296 else 0 : Nat) : Int) ∧ F1 = F) := by
  refine Met.ofW (cc := b_W_word) (maxL := 8) (ret := (some .long)) (by decide) rfl ?_
  intro p e s m args below meth c s₁ B hml hv
  obtain ⟨rfl, hsz, hP, hK, hD0⟩ := hv
  have hx := B.exec
  have hb := B.bytes
  have hr := B.returns
  have hts := atoms_spec (ws := w_W_word) B.pre
  have hq : ∀ w ∈ wT, w.before _ s = true := fun w h => hts w (List.mem_cons_of_mem _ h)
  have hown : s.vm.findClass R_W = some m.cls := findClass_of_methodNamed B.named
  have hlocks := B.notSynchronized
  subst hsz
  have hw := pw_start hP hK hD0
  have hl := lv_entry ([.ref (ad (w)), .int (iI (k))]) (n := 8) (Nat.le_of_ble_eq_true rfl)
  rw [lg_entry_eq]
  generalize (lg_sl ([.ref (ad (w)), .int (iI (k))]) ++ List.replicate (8 - (lg_sl ([.ref (ad (w)), .int (iI (k))])).length) Slot.unset).toArray = ls at hl ⊢
  have hl : lv_has ls 8 [(0, .ref (ad (w))), (1, .int (iI (k)))] := hl
  change W p l e ({ frames := 1, cells := 0, slots := 0, locals := 21 } : Room) s m ([.ref (ad (w)), .int (iI (k))]).toArray below meth c s.heap [] 0 0 (MQ below (va_Ql (fun r F1 => r = iL ((if 0 ≤ k then v / 2 ^ (32 * k.toNat) % 4294967296 else 0 : Nat) : Int) ∧ F1 = F) (pAt D classes (tysL ty) ad M (pA ad M s.heap.size)) (pA ad M s.heap.size)) ([.ref (ad (w)), .int (iI (k))]).toArray s 0 0 (pA ad M s.heap.size)) (F0 m 0 ls [])
  generalize hQ : MQ below (va_Ql (fun r F1 => r = iL ((if 0 ≤ k then v / 2 ^ (32 * k.toNat) % 4294967296 else 0 : Nat) : Int) ∧ F1 = F) (pAt D classes (tysL ty) ad M (pA ad M s.heap.size)) (pA ad M s.heap.size)) ([.ref (ad (w)), .int (iI (k))]).toArray s 0 0 (pA ad M s.heap.size) = Q
  obtain ⟨H, hH⟩ : ∃ H, H = s.heap := ⟨_, rfl⟩
  obtain ⟨locs, hlo⟩ : ∃ z : List Loc, z = [] := ⟨_, rfl⟩
  have hw : pw D classes (tysL ty) ad M F (pA ad M s.heap.size) s H locs := by rw [hH, hlo]; exact hw
  have hgo : W p l e ({ frames := 1, cells := 0, slots := 0, locals := 21 } : Room) s m ([.ref (ad (w)), .int (iI (k))]).toArray below meth c H locs 0 0 Q (F0 m 0 ls []) := by
    obtain ⟨n, g, ⟨hO_w, hA_w⟩, hok⟩ := h
    have hn := hok.1
    have hd := hok.2.1
    refine lv_iload_n hx hb d_W_word_0 rfl (lv_at hl 1 rfl) ?_
    refine wz_if_lt (tgt := 12) hx hb d_W_word_1 (by decide) (by omega) (by omega) (fun c1 => ?_) (fun c1 => ?_)
    · refine lv_lconst (v := iL 0) hx hb d_W_word_12 (by decide) ?_
      rw [← hQ]
      exact pw_lret hx hb hr hlocks hw (⟨by rw [if_neg (by omega)]; rfl, rfl⟩) d_W_word_13
    · refine lv_iload_n hx hb d_W_word_4 rfl (lv_at hl 1 rfl) ?_
      refine lv_aload_n hx hb d_W_word_5 rfl (lv_at hl 0 rfl) ?_
      refine pw_get (ci := 0) (C := R_W) (T := T_W) (N := 2) hx hb hq i_W hown hw (by omega) hO_w rfl 1 (by decide) (hq _ fl_W_21) (fun _ h9 => h9) rfl d_W_word_6 ?_
      refine wz_icmp_lt (tgt := 14) hx hb d_W_word_9 (by decide) (by omega) (by omega) (by omega) (by omega) (fun c9 => ?_) (fun c9 => ?_)
      · refine lv_iload_n hx hb d_W_word_14 rfl (lv_at hl 1 rfl) ?_
        refine wz_bipush (n := 32) hx hb d_W_word_15 (by decide) ?_
        refine wz_imul (z := ((k.toNat * 32 : Nat) : Int)) hx hb d_W_word_17 (by omega) ?_
        refine wz_bipush (n := 31) hx hb d_W_word_18 (by decide) ?_
        refine wz_idiv (a := k.toNat * 32) (b := 31) (z := k.toNat * 32 / 31) hx hb d_W_word_20 (by omega) (by omega) (by omega) (rfl) ?_
        refine lv_istore_n (lv' := [(2, .int (iI (((k.toNat * 32 / 31 : Nat) : Int)))), (0, .ref (ad (w))), (1, .int (iI (k)))]) hx hb d_W_word_21 rfl hl (by decide) rfl (fun ls hl => ?_)
        refine lv_iload_n hx hb d_W_word_22 rfl (lv_at hl 2 rfl) ?_
        refine wz_bipush (n := 32) hx hb d_W_word_23 (by decide) ?_
        refine wz_imul (z := ((k.toNat * 32 : Nat) : Int)) hx hb d_W_word_25 (by omega) ?_
        refine wz_bipush (n := 31) hx hb d_W_word_26 (by decide) ?_
        refine wz_irem (a := k.toNat * 32) (b := 31) (z := k.toNat * 32 % 31) hx hb d_W_word_28 (by omega) (by omega) (by omega) (rfl) ?_
        have hk2 : k.toNat < n := by omega
        obtain ⟨i0, hi0⟩ : ∃ z, z = k.toNat * 32 / 31 := ⟨_, rfl⟩
        obtain ⟨o0, ho0⟩ : ∃ z, z = k.toNat * 32 % 31 := ⟨_, rfl⟩
        have hb1 := lmz_lt hd ((k.toNat * 32 / 31 : Nat) : Int)
        have hb2 := lmz_lt hd (((k.toNat * 32 / 31 : Nat) : Int) + 1)
        have ho : k.toNat * 32 % 31 ≤ 30 := by omega
        refine lv_istore_n (lv' := [(3, .int (iI (((k.toNat * 32 % 31 : Nat) : Int)))), (2, .int (iI (((k.toNat * 32 / 31 : Nat) : Int)))), (0, .ref (ad (w))), (1, .int (iI (k)))]) hx hb d_W_word_29 rfl hl (by decide) rfl (fun ls hl => ?_)
        refine lv_aload_n hx hb d_W_word_30 rfl (lv_at hl 2 rfl) ?_
        refine lv_iload_n hx hb d_W_word_31 rfl (lv_at hl 1 rfl) ?_
        refine pw_calli hw (va_runV (As := [.int (iI (((k.toNat * 32 / 31 : Nat) : Int)))]) (rest := []) ⟨hx, hb, hml, hown, hq⟩ (c_W_limb l D ty ad M F H.size w N n g ((k.toNat * 32 / 31 : Nat) : Int) hM hN hn hd (by omega) hO_w hA_w) (cwV 1 hq (gV ml_W_38 im_W_limb se_W_limb in_W m_W_limb) rfl rfl rfl (by decide +kernel) ⟨Nat.le_of_ble_eq_true rfl, Nat.le_of_ble_eq_true rfl⟩) (pw_preV hw (by omega) hO_w rfl) rfl rfl hl.1 rfl (lv_room (Nat.le_of_ble_eq_true rfl)) d_W_word_32 ⟨Nat.le_of_ble_eq_true rfl, Nat.le_of_ble_eq_true rfl⟩) (fun r32 F32 H locs q32 hw => ?_)
        obtain ⟨er32, eF32⟩ := q32
        rw [eF32] at hw
        clear eF32
        subst er32
        refine lv_iload_n hx hb d_W_word_35 rfl (lv_at hl 0 rfl) ?_
        refine lv_iushr (v := iI (((lmz g n ((k.toNat * 32 / 31 : Nat) : Int) / 2 ^ (k.toNat * 32 % 31) : Nat) : Int))) hx hb d_W_word_36 (iI_ushr (k := k.toNat * 32 % 31) (by omega) (by omega)) ?_
        have hb3 : lmz g n ((k.toNat * 32 / 31 : Nat) : Int) / 2 ^ (k.toNat * 32 % 31) ≤ lmz g n ((k.toNat * 32 / 31 : Nat) : Int) := Nat.div_le_self _ _
        refine wz_i2l hx hb d_W_word_37 (Int.le_trans (by decide) (Int.natCast_nonneg _)) (by omega) ?_
        refine lv_lstore (lv' := [(4, .long (iL (((lmz g n ((k.toNat * 32 / 31 : Nat) : Int) / 2 ^ (k.toNat * 32 % 31) : Nat) : Int)))), (3, .int (iI (((k.toNat * 32 % 31 : Nat) : Int)))), (2, .int (iI (((k.toNat * 32 / 31 : Nat) : Int)))), (0, .ref (ad (w))), (1, .int (iI (k)))]) hx hb d_W_word_38 hl (by decide) rfl (fun ls hl => ?_)
        refine lv_aload_n hx hb d_W_word_40 rfl (lv_at hl 3 rfl) ?_
        refine lv_iload_n hx hb d_W_word_41 rfl (lv_at hl 2 rfl) ?_
        refine wz_iconst (n := 1) hx hb d_W_word_42 ?_
        refine wz_iadd hx hb d_W_word_43 rfl ?_
        refine pw_calli hw (va_runV (As := [.int (iI (((k.toNat * 32 / 31 : Nat) : Int) + 1))]) (rest := []) ⟨hx, hb, hml, hown, hq⟩ (c_W_limb l D ty ad M F H.size w N n g (((k.toNat * 32 / 31 : Nat) : Int) + 1) hM hN hn hd (by omega) hO_w hA_w) (cwV 1 hq (gV ml_W_38 im_W_limb se_W_limb in_W m_W_limb) rfl rfl rfl (by decide +kernel) ⟨Nat.le_of_ble_eq_true rfl, Nat.le_of_ble_eq_true rfl⟩) (pw_preV hw (by omega) hO_w rfl) rfl rfl hl.1 rfl (lv_room (Nat.le_of_ble_eq_true rfl)) d_W_word_44 ⟨Nat.le_of_ble_eq_true rfl, Nat.le_of_ble_eq_true rfl⟩) (fun r44 F44 H locs q44 hw => ?_)
        obtain ⟨er44, eF44⟩ := q44
        rw [eF44] at hw
        clear eF44
        subst er44
        refine wz_i2l hx hb d_W_word_47 (by omega) (by omega) ?_
        refine wz_bipush (n := 31) hx hb d_W_word_48 (by decide) ?_
        refine lv_iload_n hx hb d_W_word_50 rfl (lv_at hl 1 rfl) ?_
        refine wz_isub (z := ((31 - k.toNat * 32 % 31 : Nat) : Int)) hx hb d_W_word_51 (by omega) ?_
        refine lv_lshl (v := iL (((lmz g n (((k.toNat * 32 / 31 : Nat) : Int) + 1) * 2 ^ (31 - k.toNat * 32 % 31) : Nat) : Int))) hx hb d_W_word_52 (iL_shl (k := 31 - k.toNat * 32 % 31) (by omega)) ?_
        refine lv_lstore (lv' := [(6, .long (iL (((lmz g n (((k.toNat * 32 / 31 : Nat) : Int) + 1) * 2 ^ (31 - k.toNat * 32 % 31) : Nat) : Int)))), (4, .long (iL (((lmz g n ((k.toNat * 32 / 31 : Nat) : Int) / 2 ^ (k.toNat * 32 % 31) : Nat) : Int)))), (3, .int (iI (((k.toNat * 32 % 31 : Nat) : Int)))), (2, .int (iI (((k.toNat * 32 / 31 : Nat) : Int)))), (0, .ref (ad (w))), (1, .int (iI (k)))]) hx hb d_W_word_53 hl (by decide) rfl (fun ls hl => ?_)
        refine lv_lload hx hb d_W_word_55 (lv_at hl 1 rfl) ?_
        refine lv_lload hx hb d_W_word_57 (lv_at hl 0 rfl) ?_
        have hb4 : lmz g n ((k.toNat * 32 / 31 : Nat) : Int) / 2 ^ (k.toNat * 32 % 31) < 2 ^ (31 - k.toNat * 32 % 31) := Nat.div_lt_of_lt_mul (by rw [← Nat.pow_add, show k.toNat * 32 % 31 + (31 - k.toNat * 32 % 31) = 31 by omega]; exact hb1)
        have hb5 : lmz g n (((k.toNat * 32 / 31 : Nat) : Int) + 1) * 2 ^ (31 - k.toNat * 32 % 31) ≤ 2147483648 * 2 ^ 31 := Nat.mul_le_mul (by omega) (Nat.pow_le_pow_right (by decide) (by omega))
        refine lv_lor hx hb d_W_word_59 ?_
        refine lv_topl (fun x59 ex59 => ?_)
        obtain rfl : x59 = iL (((lmz g n (((k.toNat * 32 / 31 : Nat) : Int) + 1) * 2 ^ (31 - k.toNat * 32 % 31) + lmz g n ((k.toNat * 32 / 31 : Nat) : Int) / 2 ^ (k.toNat * 32 % 31) : Nat) : Int)) := ex59.trans ((Int64.or_comm _ _).trans (iL_or (k := 31 - k.toNat * 32 % 31) hb4 (by omega)))
        refine lv_ldc2 (v := iL (4294967295)) hx hb hown (hq _ cj_W_41) d_W_word_60 ?_
        refine lv_land hx hb d_W_word_63 ?_
        refine lv_topl (fun x63 ex63 => ?_)
        obtain rfl : x63 = iL ((((lmz g n (((k.toNat * 32 / 31 : Nat) : Int) + 1) * 2 ^ (31 - k.toNat * 32 % 31) + lmz g n ((k.toNat * 32 / 31 : Nat) : Int) / 2 ^ (k.toNat * 32 % 31)) % 4294967296 : Nat) : Int)) := ex63.trans (iL_m32 _)
        rw [← hQ]
        exact pw_lret hx hb hr hlocks hw (⟨by rw [if_pos (by omega), word_eq (i := k.toNat * 32 / 31) (o := k.toNat * 32 % 31) ho (by omega), ← lmz_nat hok, ← lmz_nat hok]; rfl, rfl⟩) d_W_word_64
      · refine lv_lconst (v := iL 0) hx hb d_W_word_12 (by decide) ?_
        rw [← hQ]
        exact pw_lret hx hb hr hlocks hw (⟨by rw [if_pos (by omega), Nat.div_eq_of_lt (Nat.lt_of_lt_of_le hok.lt (by rw [pow31]; exact Nat.pow_le_pow_right (by decide) (by omega)))]; rfl, rfl⟩) d_W_word_13
  rw [hH, hlo] at hgo
  exact hgo
set_option maxHeartbeats 4000000 in
set_option maxRecDepth 100000 in
/-- Whole.becomeLong(x), without a sign -/
theorem c_W_becomeLong (l : Launch) (D : va_G) (ty : Nat → ClassId) (ad : Nat → Nat) (M : Nat) (F : Nat → va_E) (sz : Nat) (w N x : Nat) (hM : w + 1 < M) (hN : N < 1000) (h3 : 3 ≤ N) (hx64 : x < 18446744073709551616) (h : Wa ty ad F w N) :
    CV l y_W_becomeLong w_W_becomeLong ({ frames := 2, cells := 0, slots := 0, locals := 46 } : Room) [.ref (ad (w)), .long (iL ((x : Int)))] D ty ad M F sz (fun F1 => Wv ty ad F1 w N x ∧ fr2 F F1 w) := by
  refine Met.ofW (cc := b_W_becomeLong) (maxL := 3) (ret := none) (by decide) rfl ?_
  intro p e s m args below meth c s₁ B hml hv
  obtain ⟨rfl, hsz, hP, hK, hD0⟩ := hv
  have hx := B.exec
  have hb := B.bytes
  have hr := B.returns
  have hts := atoms_spec (ws := w_W_becomeLong) B.pre
  have hq : ∀ w ∈ wT, w.before _ s = true := fun w h => hts w (List.mem_cons_of_mem _ h)
  have hown : s.vm.findClass R_W = some m.cls := findClass_of_methodNamed B.named
  have hlocks := B.notSynchronized
  subst hsz
  have hw := pw_start hP hK hD0
  have hl := lv_entry ([.ref (ad (w)), .long (iL ((x : Int)))]) (n := 3) (Nat.le_of_ble_eq_true rfl)
  rw [lg_entry_eq]
  generalize (lg_sl ([.ref (ad (w)), .long (iL ((x : Int)))]) ++ List.replicate (3 - (lg_sl ([.ref (ad (w)), .long (iL ((x : Int)))])).length) Slot.unset).toArray = ls at hl ⊢
  have hl : lv_has ls 3 [(0, .ref (ad (w))), (1, .long (iL ((x : Int))))] := hl
  change W p l e ({ frames := 2, cells := 0, slots := 0, locals := 46 } : Room) s m ([.ref (ad (w)), .long (iL ((x : Int)))]).toArray below meth c s.heap [] 0 0 (MQ below (va_Qv (fun F1 => Wv ty ad F1 w N x ∧ fr2 F F1 w) (pAt D classes (tysL ty) ad M (pA ad M s.heap.size)) (pA ad M s.heap.size)) ([.ref (ad (w)), .long (iL ((x : Int)))]).toArray s 0 0 (pA ad M s.heap.size)) (F0 m 0 ls [])
  generalize hQ : MQ below (va_Qv (fun F1 => Wv ty ad F1 w N x ∧ fr2 F F1 w) (pAt D classes (tysL ty) ad M (pA ad M s.heap.size)) (pA ad M s.heap.size)) ([.ref (ad (w)), .long (iL ((x : Int)))]).toArray s 0 0 (pA ad M s.heap.size) = Q
  obtain ⟨H, hH⟩ : ∃ H, H = s.heap := ⟨_, rfl⟩
  obtain ⟨locs, hlo⟩ : ∃ z : List Loc, z = [] := ⟨_, rfl⟩
  have hw : pw D classes (tysL ty) ad M F (pA ad M s.heap.size) s H locs := by rw [hH, hlo]; exact hw
  have hgo : W p l e ({ frames := 2, cells := 0, slots := 0, locals := 46 } : Room) s m ([.ref (ad (w)), .long (iL ((x : Int)))]).toArray below meth c H locs 0 0 Q (F0 m 0 ls []) := by
    obtain ⟨n, g, hO_w, hA_w⟩ := h
    refine lv_aload_n hx hb d_W_becomeLong_0 rfl (lv_at hl 0 rfl) ?_
    refine pw_get (ci := 0) (C := R_W) (T := T_W) (N := 2) hx hb hq i_W hown hw (by omega) hO_w rfl 0 (by decide) (hq _ fl_W_17) (fun _ h9 => h9) rfl d_W_becomeLong_1 ?_
    refine wz_iconst (n := 0) hx hb d_W_becomeLong_4 ?_
    refine lv_lload_n hx hb d_W_becomeLong_5 rfl (lv_at hl 1 rfl) ?_
    refine lv_ldc2 (v := iL (2147483647)) hx hb hown (hq _ cj_W_43) d_W_becomeLong_6 ?_
    refine lv_land hx hb d_W_becomeLong_9 ?_
    refine lv_topl (fun x9 ex9 => ?_)
    obtain rfl : x9 = iL (((x % 2147483648 : Nat) : Int)) := ex9.trans (iL_m31 _)
    refine wz_l2i hx hb d_W_becomeLong_10 ?_
    refine pw_iast (k := 0) hx hb hw 0 (by omega) hA_w rfl (iI_in (by omega) (by omega) (by omega)) ((iI_cl (by omega) (by omega)).trans (by omega)) d_W_becomeLong_11 (fun F11 H locs eF11 hw => ?_)
    obtain ⟨g1, eg1⟩ : ∃ z, z = upd g (0) (iI (((x % 2147483648 : Nat) : Int))) := ⟨_, rfl⟩
    rw [← eg1] at eF11
    have m11_w1 : F11 (w + 1) = .inl (ty 0, N, .inl (g1)) := by rw [eF11]; exact va_up_self ..
    have hO_w_at_11 : F11 (w) = .inr (0, [.ref (ad (w + 1)), .int (iI ((n : Int)))]) := (show F11 (w) = F (w) from by rw [eF11]; exact va_up_ne _ _ (by omega)).trans hO_w
    refine lv_aload_n hx hb d_W_becomeLong_12 rfl (lv_at hl 0 rfl) ?_
    refine pw_get (ci := 0) (C := R_W) (T := T_W) (N := 2) hx hb hq i_W hown hw (by omega) hO_w_at_11 rfl 0 (by decide) (hq _ fl_W_17) (fun _ h9 => h9) rfl d_W_becomeLong_13 ?_
    refine wz_iconst (n := 1) hx hb d_W_becomeLong_16 ?_
    refine lv_lload_n hx hb d_W_becomeLong_17 rfl (lv_at hl 1 rfl) ?_
    refine wz_bipush (n := 31) hx hb d_W_becomeLong_18 (by decide) ?_
    refine lv_lushr (v := iL (((x / 2 ^ 31 : Nat) : Int))) hx hb d_W_becomeLong_20 (iL_ushr (k := 31) (by decide) hx64) ?_
    refine lv_ldc2 (v := iL (2147483647)) hx hb hown (hq _ cj_W_43) d_W_becomeLong_21 ?_
    refine lv_land hx hb d_W_becomeLong_24 ?_
    refine lv_topl (fun x24 ex24 => ?_)
    obtain rfl : x24 = iL (((x / 2 ^ 31 % 2147483648 : Nat) : Int)) := ex24.trans (iL_m31 _)
    refine wz_l2i hx hb d_W_becomeLong_25 ?_
    refine pw_iast (k := 1) hx hb hw 0 (by omega) m11_w1 rfl (iI_in (by omega) (by omega) (by omega)) ((iI_cl (by omega) (by omega)).trans (by omega)) d_W_becomeLong_26 (fun F26 H locs eF26 hw => ?_)
    obtain ⟨g2, eg2⟩ : ∃ z, z = upd g1 (1) (iI (((x / 2 ^ 31 % 2147483648 : Nat) : Int))) := ⟨_, rfl⟩
    rw [← eg2] at eF26
    have m26_w1 : F26 (w + 1) = .inl (ty 0, N, .inl (g2)) := by rw [eF26]; exact va_up_self ..
    have hO_w_at_26 : F26 (w) = .inr (0, [.ref (ad (w + 1)), .int (iI ((n : Int)))]) := (show F26 (w) = F11 (w) from by rw [eF26]; exact va_up_ne _ _ (by omega)).trans hO_w_at_11
    refine lv_aload_n hx hb d_W_becomeLong_27 rfl (lv_at hl 0 rfl) ?_
    refine pw_get (ci := 0) (C := R_W) (T := T_W) (N := 2) hx hb hq i_W hown hw (by omega) hO_w_at_26 rfl 0 (by decide) (hq _ fl_W_17) (fun _ h9 => h9) rfl d_W_becomeLong_28 ?_
    refine wz_iconst (n := 2) hx hb d_W_becomeLong_31 ?_
    refine lv_lload_n hx hb d_W_becomeLong_32 rfl (lv_at hl 1 rfl) ?_
    refine wz_bipush (n := 62) hx hb d_W_becomeLong_33 (by decide) ?_
    refine lv_lushr (v := iL (((x / 2 ^ 62 : Nat) : Int))) hx hb d_W_becomeLong_35 (iL_ushr (k := 62) (by decide) hx64) ?_
    refine wz_l2i hx hb d_W_becomeLong_36 ?_
    refine pw_iast (k := 2) hx hb hw 0 (by omega) m26_w1 rfl (iI_in (by omega) (by omega) (by omega)) ((iI_cl (by omega) (by omega)).trans (by omega)) d_W_becomeLong_37 (fun F37 H locs eF37 hw => ?_)
    obtain ⟨g3, eg3⟩ : ∃ z, z = upd g2 (2) (iI (((x / 2 ^ 62 : Nat) : Int))) := ⟨_, rfl⟩
    rw [← eg3] at eF37
    have m37_w1 : F37 (w + 1) = .inl (ty 0, N, .inl (g3)) := by rw [eF37]; exact va_up_self ..
    have hO_w_at_37 : F37 (w) = .inr (0, [.ref (ad (w + 1)), .int (iI ((n : Int)))]) := (show F37 (w) = F26 (w) from by rw [eF37]; exact va_up_ne _ _ (by omega)).trans hO_w_at_26
    refine lv_aload_n hx hb d_W_becomeLong_38 rfl (lv_at hl 0 rfl) ?_
    refine wz_iconst (n := 3) hx hb d_W_becomeLong_39 ?_
    refine pw_callv hw (va_runV (As := [.int (iI (3))]) (rest := []) ⟨hx, hb, hml, hown, hq⟩ (c_W_trim l D ty ad M F37 H.size w N 3 n g3 hM hN h3 hO_w_at_37 m37_w1) (cwV 1 hq (gV ml_W_48 im_W_trim se_W_trim in_W m_W_trim) rfl rfl rfl (by decide +kernel) ⟨Nat.le_of_ble_eq_true rfl, Nat.le_of_ble_eq_true rfl⟩) (pw_preV hw (by omega) hO_w_at_37 rfl) rfl rfl hl.1 rfl (lv_room (Nat.le_of_ble_eq_true rfl)) d_W_becomeLong_40 ⟨Nat.le_of_ble_eq_true rfl, Nat.le_of_ble_eq_true rfl⟩) (fun F40 H locs q40 hw => ?_)
    obtain ⟨k, hk1, hk2, hk3, eF40⟩ := q40
    obtain ⟨d1, d2⟩ := dl3 (by omega) (by omega) (by omega) eg1 eg2 eg3
    have m37_w1_at_40 : F40 (w + 1) = .inl (ty 0, N, .inl (g3)) := (show F40 (w + 1) = F37 (w + 1) from by rw [eF40]; exact va_up_ne _ _ (by omega)).trans m37_w1
    rw [← hQ]
    exact pw_vret hx hb hr hlocks hw (⟨⟨k, g3, ⟨by rw [eF40]; exact va_up_self .., m37_w1_at_40⟩, by rw [show x = bv 2147483648 (dl g3) 3 by rw [d2]; omega]; exact Wok.trim h3 hk1 d1 hk2 hk3⟩, fun y h1 h2 => by rw [eF40, va_up_ne _ _ h1, eF37, va_up_ne _ _ h2, eF26, va_up_ne _ _ h2, eF11, va_up_ne _ _ h2]⟩) d_W_becomeLong_43
  rw [hH, hlo] at hgo
  exact hgo
set_option maxHeartbeats 4000000 in
set_option maxRecDepth 100000 in
/-- Whole.become(other) -/
theorem c_W_become (l : Launch) (D : va_G) (ty : Nat → ClassId) (ad : Nat → Nat) (M : Nat) (F : Nat → va_E) (sz : Nat) (w a N Na v : Nat) (hM : w + 1 < M) (hMa : a + 1 < M) (hN : N < 1000) (hNa : Na < 1000) (hne : a ≠ w ∧ a ≠ w + 1 ∧ a + 1 ≠ w) (hfit : v < 2147483648 ^ N) (h : Wa ty ad F w N) (ha : Wv ty ad F a Na v) :
    CV l y_W_become w_W_become ({ frames := 2, cells := 0, slots := 0, locals := 60 } : Room) [.ref (ad (w)), .ref (ad (a))] D ty ad M F sz (fun F1 => Wv ty ad F1 w N v ∧ fr2 F F1 w) := by
  refine Met.ofW (cc := b_W_become) (maxL := 3) (ret := none) (by decide) rfl ?_
  intro p e s m args below meth c s₁ B hml hv
  obtain ⟨rfl, hsz, hP, hK, hD0⟩ := hv
  have hx := B.exec
  have hb := B.bytes
  have hr := B.returns
  have hts := atoms_spec (ws := w_W_become) B.pre
  have hq : ∀ w ∈ wT, w.before _ s = true := fun w h => hts w (List.mem_cons_of_mem _ h)
  have hown : s.vm.findClass R_W = some m.cls := findClass_of_methodNamed B.named
  have hlocks := B.notSynchronized
  subst hsz
  have hw := pw_start hP hK hD0
  have hl := lv_entry ([.ref (ad (w)), .ref (ad (a))]) (n := 3) (Nat.le_of_ble_eq_true rfl)
  rw [lg_entry_eq]
  generalize (lg_sl ([.ref (ad (w)), .ref (ad (a))]) ++ List.replicate (3 - (lg_sl ([.ref (ad (w)), .ref (ad (a))])).length) Slot.unset).toArray = ls at hl ⊢
  have hl : lv_has ls 3 [(0, .ref (ad (w))), (1, .ref (ad (a)))] := hl
  change W p l e ({ frames := 2, cells := 0, slots := 0, locals := 60 } : Room) s m ([.ref (ad (w)), .ref (ad (a))]).toArray below meth c s.heap [] 0 0 (MQ below (va_Qv (fun F1 => Wv ty ad F1 w N v ∧ fr2 F F1 w) (pAt D classes (tysL ty) ad M (pA ad M s.heap.size)) (pA ad M s.heap.size)) ([.ref (ad (w)), .ref (ad (a))]).toArray s 0 0 (pA ad M s.heap.size)) (F0 m 0 ls [])
  generalize hQ : MQ below (va_Qv (fun F1 => Wv ty ad F1 w N v ∧ fr2 F F1 w) (pAt D classes (tysL ty) ad M (pA ad M s.heap.size)) (pA ad M s.heap.size)) ([.ref (ad (w)), .ref (ad (a))]).toArray s 0 0 (pA ad M s.heap.size) = Q
  obtain ⟨H, hH⟩ : ∃ H, H = s.heap := ⟨_, rfl⟩
  obtain ⟨locs, hlo⟩ : ∃ z : List Loc, z = [] := ⟨_, rfl⟩
  have hw : pw D classes (tysL ty) ad M F (pA ad M s.heap.size) s H locs := by rw [hH, hlo]; exact hw
  have hgo : W p l e ({ frames := 2, cells := 0, slots := 0, locals := 60 } : Room) s m ([.ref (ad (w)), .ref (ad (a))]).toArray below meth c H locs 0 0 Q (F0 m 0 ls []) := by
    obtain ⟨n, g, hO_w, hA_w⟩ := h
    obtain ⟨na, ga, ⟨hO_a, hA_a⟩, hok⟩ := ha
    have hn := hok.1
    have hnN := hok.fits hfit
    refine lv_aload_n hx hb d_W_become_0 rfl (lv_at hl 1 rfl) ?_
    refine pw_get (ci := 0) (C := R_W) (T := T_W) (N := 2) hx hb hq i_W hown hw (by omega) hO_a rfl 1 (by decide) (hq _ fl_W_21) (fun _ h9 => h9) rfl d_W_become_1 ?_
    refine lv_aload_n hx hb d_W_become_4 rfl (lv_at hl 0 rfl) ?_
    refine pw_get (ci := 0) (C := R_W) (T := T_W) (N := 2) hx hb hq i_W hown hw (by omega) hO_w rfl 0 (by decide) (hq _ fl_W_17) (fun _ h9 => h9) rfl d_W_become_5 ?_
    refine pw_alen (v := iI ((N : Nat) : Int)) hx hb hw 0 (by omega) hA_w rfl (iI_nat _).symm d_W_become_8 ?_
    refine wz_mmin (z := (na : Int)) hx hb (hml.trans hl.1.symm) hown (hq _ ml_W_45) (hq _ st_JM_min) (hq _ in_JM) (hq _ m_JM_min) (Nat.le_of_ble_eq_true rfl) (Nat.le_of_ble_eq_true rfl) (Nat.zero_le _) (Nat.zero_le _) (by omega) (by omega) (by omega) (by omega) (by omega) d_W_become_9 ?_
    refine lv_istore_n (lv' := [(2, .int (iI ((na : Int)))), (0, .ref (ad (w))), (1, .ref (ad (a)))]) hx hb d_W_become_12 rfl hl (by decide) rfl (fun ls hl => ?_)
    refine lv_aload_n hx hb d_W_become_13 rfl (lv_at hl 2 rfl) ?_
    refine pw_get (ci := 0) (C := R_W) (T := T_W) (N := 2) hx hb hq i_W hown hw (by omega) hO_a rfl 0 (by decide) (hq _ fl_W_17) (fun _ h9 => h9) rfl d_W_become_14 ?_
    refine wz_iconst (n := 0) hx hb d_W_become_17 ?_
    refine lv_aload_n hx hb d_W_become_18 rfl (lv_at hl 1 rfl) ?_
    refine pw_get (ci := 0) (C := R_W) (T := T_W) (N := 2) hx hb hq i_W hown hw (by omega) hO_w rfl 0 (by decide) (hq _ fl_W_17) (fun _ h9 => h9) rfl d_W_become_19 ?_
    refine wz_iconst (n := 0) hx hb d_W_become_22 ?_
    refine lv_iload_n hx hb d_W_become_23 rfl (lv_at hl 0 rfl) ?_
    refine pw_copyi (sp' := 0) (dp' := 0) (n' := na) hx hb (hml.trans hl.1.symm) hown (hq _ ml_W_52) (hq _ nat_copy) (hq _ st_copy) (hq _ in_javalangSystem) hw 0 (by omega) hA_a (by omega) hA_w rfl (by omega) (by omega) (by omega) (by omega) (by omega) (by omega) (by omega) (Nat.le_of_ble_eq_true rfl) (Nat.le_of_ble_eq_true rfl) d_W_become_24 (fun F24 H locs eF24 hw => ?_)
    have m24_w1 : F24 (w + 1) = .inl (ty 0, N, .inl (va_cpy (ga) (g) 0 0 (na))) := by rw [eF24]; exact va_up_self ..
    have hO_w_at_24 : F24 (w) = .inr (0, [.ref (ad (w + 1)), .int (iI ((n : Int)))]) := (show F24 (w) = F (w) from by rw [eF24]; exact va_up_ne _ _ (by omega)).trans hO_w
    have hO_a_at_24 : F24 (a) = .inr (0, [.ref (ad (a + 1)), .int (iI ((na : Int)))]) := (show F24 (a) = F (a) from by rw [eF24]; exact va_up_ne _ _ (by omega)).trans hO_a
    have hA_a_at_24 : F24 (a + 1) = .inl (ty 0, Na, .inl (ga)) := (show F24 (a + 1) = F (a + 1) from by rw [eF24]; exact va_up_ne _ _ (by omega)).trans hA_a
    refine lv_aload_n hx hb d_W_become_27 rfl (lv_at hl 1 rfl) ?_
    refine lv_iload_n hx hb d_W_become_28 rfl (lv_at hl 0 rfl) ?_
    refine pw_callv hw (va_runV (As := [.int (iI ((na : Int)))]) (rest := []) ⟨hx, hb, hml, hown, hq⟩ (c_W_trim l D ty ad M F24 H.size w N na n (va_cpy ga g 0 0 na) hM hN hnN hO_w_at_24 m24_w1) (cwV 1 hq (gV ml_W_48 im_W_trim se_W_trim in_W m_W_trim) rfl rfl rfl (by decide +kernel) ⟨Nat.le_of_ble_eq_true rfl, Nat.le_of_ble_eq_true rfl⟩) (pw_preV hw (by omega) hO_w_at_24 rfl) rfl rfl hl.1 rfl (lv_room (Nat.le_of_ble_eq_true rfl)) d_W_become_29 ⟨Nat.le_of_ble_eq_true rfl, Nat.le_of_ble_eq_true rfl⟩) (fun F29 H locs q29 hw => ?_)
    obtain ⟨k, hk1, hk2, hk3, eF29⟩ := q29
    have hcp : ∀ i, i < na → va_cpy ga g 0 0 na i = ga i := fun i hi => sb_cpy0 hi
    have hdl : ∀ i, i < na → dl (va_cpy ga g 0 0 na) i = dl ga i := fun i hi => by show (va_cpy ga g 0 0 na i).toBitVec.toNat = _; rw [hcp i hi]; rfl
    have hO_a_at_29 : F29 (a) = .inr (0, [.ref (ad (a + 1)), .int (iI ((na : Int)))]) := (show F29 (a) = F24 (a) from by rw [eF29]; exact va_up_ne _ _ (by omega)).trans hO_a_at_24
    have hA_a_at_29 : F29 (a + 1) = .inl (ty 0, Na, .inl (ga)) := (show F29 (a + 1) = F24 (a + 1) from by rw [eF29]; exact va_up_ne _ _ (by omega)).trans hA_a_at_24
    have m24_w1_at_29 : F29 (w + 1) = .inl (ty 0, N, .inl (va_cpy (ga) (g) 0 0 (na))) := (show F29 (w + 1) = F24 (w + 1) from by rw [eF29]; exact va_up_ne _ _ (by omega)).trans m24_w1
    rw [← hQ]
    exact pw_vret hx hb hr hlocks hw (⟨⟨k, va_cpy ga g 0 0 na, ⟨by rw [eF29]; exact va_up_self .., m24_w1_at_29⟩, by rw [show v = bv 2147483648 (dl (va_cpy ga g 0 0 na)) na by rw [bv_congr hdl]; exact hok.2.2.2.symm]; exact Wok.trim hnN hk1 (fun i hi => by rw [hdl i hi]; exact hok.2.1 i hi) hk2 hk3⟩, fun y h1 h2 => by rw [eF29, va_up_ne _ _ h1, eF24, va_up_ne _ _ h2]⟩) d_W_become_32
  rw [hH, hlo] at hgo
  exact hgo
end
section
theorem ds_step {n j r dv : Nat} {g gx gy : Nat → Int32} (hj : j ≤ n) (h0 : 0 < j) (h : bv 2147483648 (fun t => dl g (j + t)) (n - j) = bv 2147483648 (fun t => dl gx (j + t)) (n - j) * dv + r)
    (hy : dl gy (j - 1) = (r * 2 ^ 31 + dl g (j - 1)) / dv) (hs : ∀ t, j ≤ t → dl gy t = dl gx t) :
    bv 2147483648 (fun t => dl g (j - 1 + t)) (n - (j - 1)) = bv 2147483648 (fun t => dl gy (j - 1 + t)) (n - (j - 1)) * dv + (r * 2 ^ 31 + dl g (j - 1)) % dv := by
  obtain ⟨i, rfl⟩ : ∃ i, j = i + 1 := ⟨j - 1, by omega⟩
  rw [Nat.add_sub_cancel] at hy ⊢
  rw [show n - i = (n - (i + 1)) + 1 by omega, bv_cons, bv_cons]
  have e1 : bv 2147483648 (fun t => (fun t => dl g (i + t)) (t + 1)) (n - (i + 1)) = bv 2147483648 (fun t => dl g (i + 1 + t)) (n - (i + 1)) := bv_congr (fun t _ => by show dl g (i + (t + 1)) = dl g (i + 1 + t); congr 1; omega)
  have e2 : bv 2147483648 (fun t => (fun t => dl gy (i + t)) (t + 1)) (n - (i + 1)) = bv 2147483648 (fun t => dl gx (i + 1 + t)) (n - (i + 1)) := bv_congr (fun t _ => by show dl gy (i + (t + 1)) = dl gx (i + 1 + t); rw [← hs _ (by omega)]; congr 1; omega)
  rw [e1, e2, h]
  show dl g (i + 0) + _ = (dl gy (i + 0) + _) * dv + _
  rw [Nat.add_zero, hy]
  generalize bv 2147483648 (fun t => dl gx (i + 1 + t)) (n - (i + 1)) = Q
  have k := Nat.div_add_mod (r * 2 ^ 31 + dl g i) dv
  rw [Nat.mul_add, Nat.add_mul]
  have e3 : 2147483648 * Q * dv = 2147483648 * (Q * dv) := by ac_rfl
  have e4 : dv * ((r * 2 ^ 31 + dl g i) / dv) = (r * 2 ^ 31 + dl g i) / dv * dv := Nat.mul_comm _ _
  omega
end
section
/-! Whole: timesPlus, divideSmall, compare: by program -/
set_option maxHeartbeats 4000000 in
set_option maxRecDepth 100000 in
/-- Whole.timesPlus(fa, pl) -/
theorem c_W_timesPlus (l : Launch) (D : va_G) (ty : Nat → ClassId) (ad : Nat → Nat) (M : Nat) (F : Nat → va_E) (sz : Nat) (w N v fa pl : Nat) (hM : w + 1 < M) (hN : N < 1000) (h : Wv ty ad F w N v) (hf1 : 1 ≤ fa) (hf2 : fa < 2147483648) (hp2 : pl < 2147483648) (hfit : fa * v + pl < 2147483648 ^ N) :
    CV l y_W_timesPlus w_W_timesPlus ({ frames := 0, cells := 0, slots := 0, locals := 0 } : Room) [.ref (ad (w)), .int (iI ((fa : Int))), .int (iI ((pl : Int)))] D ty ad M F sz (fun F1 => Wv ty ad F1 w N (fa * v + pl) ∧ fr2 F F1 w) := by
  refine Met.ofW (cc := b_W_timesPlus) (maxL := 8) (ret := none) (by decide) rfl ?_
  intro p e s m args below meth c s₁ B hml hv
  obtain ⟨rfl, hsz, hP, hK, hD0⟩ := hv
  have hx := B.exec
  have hb := B.bytes
  have hr := B.returns
  have hts := atoms_spec (ws := w_W_timesPlus) B.pre
  have hq : ∀ w ∈ wT, w.before _ s = true := fun w h => hts w (List.mem_cons_of_mem _ h)
  have hown : s.vm.findClass R_W = some m.cls := findClass_of_methodNamed B.named
  have hlocks := B.notSynchronized
  subst hsz
  have hw := pw_start hP hK hD0
  have hl := lv_entry ([.ref (ad (w)), .int (iI ((fa : Int))), .int (iI ((pl : Int)))]) (n := 8) (Nat.le_of_ble_eq_true rfl)
  rw [lg_entry_eq]
  generalize (lg_sl ([.ref (ad (w)), .int (iI ((fa : Int))), .int (iI ((pl : Int)))]) ++ List.replicate (8 - (lg_sl ([.ref (ad (w)), .int (iI ((fa : Int))), .int (iI ((pl : Int)))])).length) Slot.unset).toArray = ls at hl ⊢
  have hl : lv_has ls 8 [(0, .ref (ad (w))), (1, .int (iI ((fa : Int)))), (2, .int (iI ((pl : Int))))] := hl
  change W p l e ({ frames := 0, cells := 0, slots := 0, locals := 0 } : Room) s m ([.ref (ad (w)), .int (iI ((fa : Int))), .int (iI ((pl : Int)))]).toArray below meth c s.heap [] 0 0 (MQ below (va_Qv (fun F1 => Wv ty ad F1 w N (fa * v + pl) ∧ fr2 F F1 w) (pAt D classes (tysL ty) ad M (pA ad M s.heap.size)) (pA ad M s.heap.size)) ([.ref (ad (w)), .int (iI ((fa : Int))), .int (iI ((pl : Int)))]).toArray s 0 0 (pA ad M s.heap.size)) (F0 m 0 ls [])
  generalize hQ : MQ below (va_Qv (fun F1 => Wv ty ad F1 w N (fa * v + pl) ∧ fr2 F F1 w) (pAt D classes (tysL ty) ad M (pA ad M s.heap.size)) (pA ad M s.heap.size)) ([.ref (ad (w)), .int (iI ((fa : Int))), .int (iI ((pl : Int)))]).toArray s 0 0 (pA ad M s.heap.size) = Q
  obtain ⟨H, hH⟩ : ∃ H, H = s.heap := ⟨_, rfl⟩
  obtain ⟨locs, hlo⟩ : ∃ z : List Loc, z = [] := ⟨_, rfl⟩
  have hw : pw D classes (tysL ty) ad M F (pA ad M s.heap.size) s H locs := by rw [hH, hlo]; exact hw
  have hgo : W p l e ({ frames := 0, cells := 0, slots := 0, locals := 0 } : Room) s m ([.ref (ad (w)), .int (iI ((fa : Int))), .int (iI ((pl : Int)))]).toArray below meth c H locs 0 0 Q (F0 m 0 ls []) := by
    obtain ⟨n, g, ⟨hO_w, hA_w⟩, hok⟩ := h
    have hn := hok.1
    have hd := hok.2.1
    refine lv_iload_n hx hb d_W_timesPlus_0 rfl (lv_at hl 2 rfl) ?_
    refine wz_i2l hx hb d_W_timesPlus_1 (by omega) (by omega) ?_
    refine lv_lstore_n (lv' := [(3, .long (iL ((pl : Int)))), (0, .ref (ad (w))), (1, .int (iI ((fa : Int)))), (2, .int (iI ((pl : Int))))]) hx hb d_W_timesPlus_2 rfl hl (by decide) rfl (fun ls hl => ?_)
    refine wz_iconst (n := 0) hx hb d_W_timesPlus_3 ?_
    refine lv_istore (lv' := [(5, .int (iI (0))), (3, .long (iL ((pl : Int)))), (0, .ref (ad (w))), (1, .int (iI ((fa : Int)))), (2, .int (iI ((pl : Int))))]) hx hb d_W_timesPlus_4 hl (by decide) rfl (fun ls hl => ?_)
    have K6 : ∀ (fuel : Nat) (i cy : Nat) (gx : Nat → Int32) (F6 : Nat → va_E) (H : Heap) (locs : List Loc) (ls : Array Slot), n - i < fuel → (i ≤ n) → (bv 2147483648 (dl gx) i + cy * 2147483648 ^ i = fa * bv 2147483648 (dl g) i + pl) → (∀ j, j < i → dl gx j < 2147483648) → (∀ j, i ≤ j → gx j = g j) → (cy < 2147483648) → (fr2 F F6 w) → F6 (w) = .inr (0, [.ref (ad (w + 1)), .int (iI ((n : Int)))]) → F6 (w + 1) = .inl (ty 0, N, .inl (gx)) → pw D classes (tysL ty) ad M F6 (pA ad M s.heap.size) s H locs → lv_has ls 8 [(3, .long (iL ((cy : Int)))), (5, .int (iI ((i : Int)))), (0, .ref (ad (w))), (1, .int (iI ((fa : Int)))), (2, .int (iI ((pl : Int))))] → W p l e ({ frames := 0, cells := 0, slots := 0, locals := 0 } : Room) s m ([.ref (ad (w)), .int (iI ((fa : Int))), .int (iI ((pl : Int)))]).toArray below meth c H locs 0 0 Q (F0 m 6 ls []) := by
      intro fuel
      induction fuel with
      | zero => intro i cy gx F6 H locs ls hfuel hi hinv hdig hsame hc hfr hO_w hA_w hw hl; exact absurd hfuel (Nat.not_lt_zero _)
      | succ fuel ih6 =>
        intro i cy gx F6 H locs ls hfuel hi hinv hdig hsame hc hfr hO_w hA_w hw hl
        refine lv_iload hx hb d_W_timesPlus_6 (lv_at hl 1 rfl) ?_
        refine lv_aload_n hx hb d_W_timesPlus_8 rfl (lv_at hl 2 rfl) ?_
        refine pw_get (ci := 0) (C := R_W) (T := T_W) (N := 2) hx hb hq i_W hown hw (by omega) hO_w rfl 1 (by decide) (hq _ fl_W_21) (fun _ h9 => h9) rfl d_W_timesPlus_9 ?_
        refine wz_icmp_ge (tgt := 56) hx hb d_W_timesPlus_12 (by decide) (by omega) (by omega) (by omega) (by omega) (fun c12 => ?_) (fun c12 => ?_)
        · have hin : n = i := by omega
          subst hin
          rw [hok.2.2.2] at hinv
          have hvn : 0 < n → 2147483648 ^ (n - 1) ≤ fa * v + pl := fun h0 => by
            have h1 := hok.ge h0
            have h2 : 1 * v ≤ fa * v := Nat.mul_le_mul_right _ hf1
            omega
          refine lv_lload_n hx hb d_W_timesPlus_56 rfl (lv_at hl 0 rfl) ?_
          refine lv_lconst (v := iL 0) hx hb d_W_timesPlus_57 (by decide) ?_
          refine wz_lcmp_eq (tgt := 95) hx hb d_W_timesPlus_58 d_W_timesPlus_59 (by decide) (by omega) (by omega) (by omega) (by omega) (fun c58 => ?_) (fun c58 => ?_)
          · rw [← hQ]
            exact pw_vret hx hb hr hlocks hw (⟨⟨n, gx, ⟨hO_w, hA_w⟩, by omega, hdig, top_ne hdig hvn (by rw [← hinv, show cy = 0 by omega]; simp), by rw [← hinv, show cy = 0 by omega]; simp⟩, hfr⟩) d_W_timesPlus_95
          · refine lv_aload_n hx hb d_W_timesPlus_62 rfl (lv_at hl 2 rfl) ?_
            refine pw_get (ci := 0) (C := R_W) (T := T_W) (N := 2) hx hb hq i_W hown hw (by omega) hO_w rfl 1 (by decide) (hq _ fl_W_21) (fun _ h9 => h9) rfl d_W_timesPlus_63 ?_
            refine lv_aload_n hx hb d_W_timesPlus_66 rfl (lv_at hl 2 rfl) ?_
            refine pw_get (ci := 0) (C := R_W) (T := T_W) (N := 2) hx hb hq i_W hown hw (by omega) hO_w rfl 0 (by decide) (hq _ fl_W_17) (fun _ h9 => h9) rfl d_W_timesPlus_67 ?_
            refine pw_alen (v := iI ((N : Nat) : Int)) hx hb hw 0 (by omega) hA_w rfl (iI_nat _).symm d_W_timesPlus_70 ?_
            refine wz_icmp_ge (tgt := 95) hx hb d_W_timesPlus_71 (by decide) (by omega) (by omega) (by omega) (by omega) (fun c71 => ?_) (fun c71 => ?_)
            · exact absurd hfit (by
                have hNi : N = n := by omega
                have h1 : 1 * 2147483648 ^ n ≤ cy * 2147483648 ^ n := Nat.mul_le_mul_right _ (by omega)
                rw [hNi]; omega)
            · refine lv_aload_n hx hb d_W_timesPlus_74 rfl (lv_at hl 2 rfl) ?_
              refine pw_get (ci := 0) (C := R_W) (T := T_W) (N := 2) hx hb hq i_W hown hw (by omega) hO_w rfl 0 (by decide) (hq _ fl_W_17) (fun _ h9 => h9) rfl d_W_timesPlus_75 ?_
              refine lv_aload_n hx hb d_W_timesPlus_78 rfl (lv_at hl 2 rfl) ?_
              refine pw_get (ci := 0) (C := R_W) (T := T_W) (N := 2) hx hb hq i_W hown hw (by omega) hO_w rfl 1 (by decide) (hq _ fl_W_21) (fun _ h9 => h9) rfl d_W_timesPlus_79 ?_
              refine lv_lload_n hx hb d_W_timesPlus_82 rfl (lv_at hl 0 rfl) ?_
              refine wz_l2i hx hb d_W_timesPlus_83 ?_
              refine pw_iast (k := n) hx hb hw 0 (by omega) hA_w rfl (iI_in (by omega) (by omega) (by omega)) ((iI_cl (by omega) (by omega)).trans (by omega)) d_W_timesPlus_84 (fun F84 H locs eF84 hw => ?_)
              obtain ⟨gz, egz⟩ : ∃ z, z = upd gx (n) (iI ((cy : Int))) := ⟨_, rfl⟩
              rw [← egz] at eF84
              have m84_w1 : F84 (w + 1) = .inl (ty 0, N, .inl (gz)) := by rw [eF84]; exact va_up_self ..
              have hO_w_at_84 : F84 (w) = .inr (0, [.ref (ad (w + 1)), .int (iI ((n : Int)))]) := (show F84 (w) = F6 (w) from by rw [eF84]; exact va_up_ne _ _ (by omega)).trans hO_w
              refine lv_aload_n hx hb d_W_timesPlus_85 rfl (lv_at hl 2 rfl) ?_
              refine lv_dup hx hb d_W_timesPlus_86 rfl ?_
              refine pw_get (ci := 0) (C := R_W) (T := T_W) (N := 2) hx hb hq i_W hown hw (by omega) hO_w_at_84 rfl 1 (by decide) (hq _ fl_W_21) (fun _ h9 => h9) rfl d_W_timesPlus_87 ?_
              refine wz_iconst (n := 1) hx hb d_W_timesPlus_90 ?_
              refine wz_iadd (z := ((n + 1 : Nat) : Int)) hx hb d_W_timesPlus_91 (by omega) ?_
              refine pw_put (ci := 0) (C := R_W) (T := T_W) (N := 2) (ty := .int) (fs' := [.ref (ad (w + 1)), .int (iI (((n + 1 : Nat) : Int)))]) hx hb hq i_W ft_W ft_W_ok n_W hown hw (by omega) hO_w_at_84 rfl 1 (by decide) (hq _ fl_W_21) (fun _ h9 => h9) rfl (by decide +kernel) rfl rfl (Nat.le_of_ble_eq_true rfl) rfl d_W_timesPlus_92 (fun F92 H locs eF92 hw => ?_)
              have m92_w : F92 (w) = .inr (0, [.ref (ad (w + 1)), .int (iI (((n + 1 : Nat) : Int)))]) := by rw [eF92]; exact va_up_self ..
              have m84_w1_at_92 : F92 (w + 1) = .inl (ty 0, N, .inl (gz)) := (show F92 (w + 1) = F84 (w + 1) from by rw [eF92]; exact va_up_ne _ _ (by omega)).trans m84_w1
              rw [← hQ]
              exact pw_vret hx hb hr hlocks hw (⟨⟨n + 1, gz, ⟨m92_w, m84_w1_at_92⟩, by omega, fun j hj => by
                rcases Nat.lt_or_ge j n with h2 | h2
                · rw [egz, dl_un (by omega)]; exact hdig j h2
                · rw [show j = n by omega, egz, dl_us (by omega)]; exact hc, Or.inr (by rw [Nat.add_sub_cancel, egz, dl_us (by omega)]; omega), by rw [bv_s, egz, dl_us (by omega), ← hinv]; congr 1; exact bv_congr (fun j hj => dl_un (by omega))⟩, fun y h1 h2 => by rw [eF92, va_up_ne _ _ h1, eF84, va_up_ne _ _ h2]; exact hfr y h1 h2⟩) d_W_timesPlus_95
        · have hdi := hd i (by omega)
          have hm1 : fa * dl g i ≤ 2147483647 * 2147483647 := Nat.mul_le_mul (by omega) (by omega)
          refine lv_iload_n hx hb d_W_timesPlus_15 rfl (lv_at hl 3 rfl) ?_
          refine wz_i2l hx hb d_W_timesPlus_16 (by omega) (by omega) ?_
          refine lv_aload_n hx hb d_W_timesPlus_17 rfl (lv_at hl 2 rfl) ?_
          refine pw_get (ci := 0) (C := R_W) (T := T_W) (N := 2) hx hb hq i_W hown hw (by omega) hO_w rfl 0 (by decide) (hq _ fl_W_17) (fun _ h9 => h9) rfl d_W_timesPlus_18 ?_
          refine lv_iload hx hb d_W_timesPlus_21 (lv_at hl 1 rfl) ?_
          refine pw_iald (k := i) hx hb hw 0 (by omega) hA_w rfl (iI_in (by omega) (by omega) (by omega)) ((iI_cl (by omega) (by omega)).trans (by omega)) d_W_timesPlus_23 ?_
          refine lv_topi (fun x23 ex23 => ?_)
          obtain rfl : x23 = iI ((dl g i : Int)) := ex23.trans ((hsame i (Nat.le_refl _)).trans (dl_get (hd i (by omega))))
          refine wz_i2l hx hb d_W_timesPlus_24 (by omega) (by omega) ?_
          refine wz_lmul (z := ((fa * dl g i : Nat) : Int)) hx hb d_W_timesPlus_25 ((Int.natCast_mul _ _).symm) ?_
          refine lv_lload_n hx hb d_W_timesPlus_26 rfl (lv_at hl 0 rfl) ?_
          refine wz_ladd (z := ((fa * dl g i + cy : Nat) : Int)) hx hb d_W_timesPlus_27 (rfl) ?_
          refine lv_lstore (lv' := [(6, .long (iL (((fa * dl g i + cy : Nat) : Int)))), (3, .long (iL ((cy : Int)))), (5, .int (iI ((i : Int)))), (0, .ref (ad (w))), (1, .int (iI ((fa : Int)))), (2, .int (iI ((pl : Int))))]) hx hb d_W_timesPlus_28 hl (by decide) rfl (fun ls hl => ?_)
          refine lv_aload_n hx hb d_W_timesPlus_30 rfl (lv_at hl 3 rfl) ?_
          refine pw_get (ci := 0) (C := R_W) (T := T_W) (N := 2) hx hb hq i_W hown hw (by omega) hO_w rfl 0 (by decide) (hq _ fl_W_17) (fun _ h9 => h9) rfl d_W_timesPlus_31 ?_
          refine lv_iload hx hb d_W_timesPlus_34 (lv_at hl 2 rfl) ?_
          refine lv_lload hx hb d_W_timesPlus_36 (lv_at hl 0 rfl) ?_
          refine lv_ldc2 (v := iL (2147483647)) hx hb hown (hq _ cj_W_43) d_W_timesPlus_38 ?_
          refine lv_land hx hb d_W_timesPlus_41 ?_
          refine lv_topl (fun x41 ex41 => ?_)
          obtain rfl : x41 = iL ((((fa * dl g i + cy) % 2147483648 : Nat) : Int)) := ex41.trans (iL_m31 _)
          refine wz_l2i hx hb d_W_timesPlus_42 ?_
          refine pw_iast (k := i) hx hb hw 0 (by omega) hA_w rfl (iI_in (by omega) (by omega) (by omega)) ((iI_cl (by omega) (by omega)).trans (by omega)) d_W_timesPlus_43 (fun F43 H locs eF43 hw => ?_)
          obtain ⟨gy, egy⟩ : ∃ z, z = upd gx (i) (iI ((((fa * dl g i + cy) % 2147483648 : Nat) : Int))) := ⟨_, rfl⟩
          rw [← egy] at eF43
          have m43_w1 : F43 (w + 1) = .inl (ty 0, N, .inl (gy)) := by rw [eF43]; exact va_up_self ..
          have hO_w_at_43 : F43 (w) = .inr (0, [.ref (ad (w + 1)), .int (iI ((n : Int)))]) := (show F43 (w) = F6 (w) from by rw [eF43]; exact va_up_ne _ _ (by omega)).trans hO_w
          have hdy : dl gy i = (fa * dl g i + cy) % 2147483648 := by rw [egy]; exact dl_us (by omega)
          have hgy2 : ∀ j, j < i → dl gy j = dl gx j := fun j hj => by rw [egy]; exact dl_un (by omega)
          have hgy : bv 2147483648 (dl gy) i = bv 2147483648 (dl gx) i := bv_congr hgy2
          refine lv_lload hx hb d_W_timesPlus_44 (lv_at hl 0 rfl) ?_
          refine wz_bipush (n := 31) hx hb d_W_timesPlus_46 (by decide) ?_
          refine lv_lushr (v := iL ((((fa * dl g i + cy) / 2147483648 : Nat) : Int))) hx hb d_W_timesPlus_48 (iL_ushr (k := 31) (by decide) (by omega)) ?_
          refine lv_lstore_n (lv' := [(3, .long (iL ((((fa * dl g i + cy) / 2147483648 : Nat) : Int)))), (6, .long (iL (((fa * dl g i + cy : Nat) : Int)))), (5, .int (iI ((i : Int)))), (0, .ref (ad (w))), (1, .int (iI ((fa : Int)))), (2, .int (iI ((pl : Int))))]) hx hb d_W_timesPlus_49 rfl hl (by decide) rfl (fun ls hl => ?_)
          refine wz_iinc (z := ((i + 1 : Nat) : Int)) (lv' := [(5, .int (iI (((i + 1 : Nat) : Int)))), (3, .long (iL ((((fa * dl g i + cy) / 2147483648 : Nat) : Int)))), (6, .long (iL (((fa * dl g i + cy : Nat) : Int)))), (0, .ref (ad (w))), (1, .int (iI ((fa : Int)))), (2, .int (iI ((pl : Int))))]) hx hb d_W_timesPlus_50 hl (k := 2) rfl (by omega) (by decide) rfl (fun ls hl => ?_)
          refine lv_goto (tgt := 6) hx hb d_W_timesPlus_53 (by decide) ?_
          exact ih6 (i + 1) ((fa * dl g i + cy) / 2147483648) gy _ _ _ ls (by omega) (by omega) (by rw [bv_s, bv_s, hgy]; exact tp_step hinv hdy) (fun j h1 => by
            rcases Nat.lt_or_ge j i with h2 | h2
            · rw [hgy2 j h2]; exact hdig j h2
            · rw [show j = i by omega, hdy]; exact Nat.mod_lt _ (by decide)) (fun j h1 => by rw [egy, pk_un (by omega)]; exact hsame j (by omega)) (Nat.div_lt_of_lt_mul (by omega)) (fun y h1 h2 => by rw [eF43, va_up_ne _ _ h2]; exact hfr y h1 h2) hO_w_at_43 m43_w1 hw (lv_sub hl [1, 0, 3, 4, 5] rfl)
    exact K6 _ 0 pl g _ _ _ ls (Nat.lt_succ_self _) (Nat.zero_le _) (by simp [bv_0]) (fun j h1 => absurd h1 (by omega)) (fun _ _ => rfl) (by omega) (fun _ _ _ => rfl) hO_w hA_w hw (lv_sub hl [1, 0, 2, 3, 4] rfl)
  rw [hH, hlo] at hgo
  exact hgo
set_option maxHeartbeats 4000000 in
set_option maxRecDepth 100000 in
/-- Whole.divideSmall(dv) -/
theorem c_W_divideSmall (l : Launch) (D : va_G) (ty : Nat → ClassId) (ad : Nat → Nat) (M : Nat) (F : Nat → va_E) (sz : Nat) (w N v dv : Nat) (hM : w + 1 < M) (hN : N < 1000) (h : Wv ty ad F w N v) (hdv0 : 0 < dv) (hdv : dv < 2147483648) :
    CI l y_W_divideSmall w_W_divideSmall ({ frames := 2, cells := 0, slots := 0, locals := 46 } : Room) [.ref (ad (w)), .int (iI ((dv : Int)))] D ty ad M F sz (fun r F1 => r = iI ((v % dv : Nat) : Int) ∧ Wv ty ad F1 w N (v / dv) ∧ fr2 F F1 w) := by
  refine Met.ofW (cc := b_W_divideSmall) (maxL := 7) (ret := (some .int)) (by decide) rfl ?_
  intro p e s m args below meth c s₁ B hml hv
  obtain ⟨rfl, hsz, hP, hK, hD0⟩ := hv
  have hx := B.exec
  have hb := B.bytes
  have hr := B.returns
  have hts := atoms_spec (ws := w_W_divideSmall) B.pre
  have hq : ∀ w ∈ wT, w.before _ s = true := fun w h => hts w (List.mem_cons_of_mem _ h)
  have hown : s.vm.findClass R_W = some m.cls := findClass_of_methodNamed B.named
  have hlocks := B.notSynchronized
  subst hsz
  have hw := pw_start hP hK hD0
  have hl := lv_entry ([.ref (ad (w)), .int (iI ((dv : Int)))]) (n := 7) (Nat.le_of_ble_eq_true rfl)
  rw [lg_entry_eq]
  generalize (lg_sl ([.ref (ad (w)), .int (iI ((dv : Int)))]) ++ List.replicate (7 - (lg_sl ([.ref (ad (w)), .int (iI ((dv : Int)))])).length) Slot.unset).toArray = ls at hl ⊢
  have hl : lv_has ls 7 [(0, .ref (ad (w))), (1, .int (iI ((dv : Int))))] := hl
  change W p l e ({ frames := 2, cells := 0, slots := 0, locals := 46 } : Room) s m ([.ref (ad (w)), .int (iI ((dv : Int)))]).toArray below meth c s.heap [] 0 0 (MQ below (va_Qi (fun r F1 => r = iI ((v % dv : Nat) : Int) ∧ Wv ty ad F1 w N (v / dv) ∧ fr2 F F1 w) (pAt D classes (tysL ty) ad M (pA ad M s.heap.size)) (pA ad M s.heap.size)) ([.ref (ad (w)), .int (iI ((dv : Int)))]).toArray s 0 0 (pA ad M s.heap.size)) (F0 m 0 ls [])
  generalize hQ : MQ below (va_Qi (fun r F1 => r = iI ((v % dv : Nat) : Int) ∧ Wv ty ad F1 w N (v / dv) ∧ fr2 F F1 w) (pAt D classes (tysL ty) ad M (pA ad M s.heap.size)) (pA ad M s.heap.size)) ([.ref (ad (w)), .int (iI ((dv : Int)))]).toArray s 0 0 (pA ad M s.heap.size) = Q
  obtain ⟨H, hH⟩ : ∃ H, H = s.heap := ⟨_, rfl⟩
  obtain ⟨locs, hlo⟩ : ∃ z : List Loc, z = [] := ⟨_, rfl⟩
  have hw : pw D classes (tysL ty) ad M F (pA ad M s.heap.size) s H locs := by rw [hH, hlo]; exact hw
  have hgo : W p l e ({ frames := 2, cells := 0, slots := 0, locals := 46 } : Room) s m ([.ref (ad (w)), .int (iI ((dv : Int)))]).toArray below meth c H locs 0 0 Q (F0 m 0 ls []) := by
    obtain ⟨n, g, ⟨hO_w, hA_w⟩, hok⟩ := h
    have hn := hok.1
    have hd := hok.2.1
    refine lv_iload_n hx hb d_W_divideSmall_0 rfl (lv_at hl 1 rfl) ?_
    refine wz_if_gt (tgt := 6) hx hb d_W_divideSmall_1 (by decide) (by omega) (by omega) (fun c1 => ?_) (fun c1 => ?_)
    · refine lv_lconst (v := iL 0) hx hb d_W_divideSmall_6 (by decide) ?_
      refine lv_lstore_n (lv' := [(2, .long (iL (0))), (0, .ref (ad (w))), (1, .int (iI ((dv : Int))))]) hx hb d_W_divideSmall_7 rfl hl (by decide) rfl (fun ls hl => ?_)
      refine lv_aload_n hx hb d_W_divideSmall_8 rfl (lv_at hl 1 rfl) ?_
      refine pw_get (ci := 0) (C := R_W) (T := T_W) (N := 2) hx hb hq i_W hown hw (by omega) hO_w rfl 1 (by decide) (hq _ fl_W_21) (fun _ h9 => h9) rfl d_W_divideSmall_9 ?_
      refine wz_iconst (n := 1) hx hb d_W_divideSmall_12 ?_
      refine wz_isub hx hb d_W_divideSmall_13 rfl ?_
      refine lv_istore (lv' := [(4, .int (iI ((n : Int) - 1))), (2, .long (iL (0))), (0, .ref (ad (w))), (1, .int (iI ((dv : Int))))]) hx hb d_W_divideSmall_14 hl (by decide) rfl (fun ls hl => ?_)
      have K16 : ∀ (fuel : Nat) (j r : Nat) (gx : Nat → Int32) (F16 : Nat → va_E) (H : Heap) (locs : List Loc) (ls : Array Slot), j < fuel → (j ≤ n) → (r < dv) → (bv 2147483648 (fun t => dl g (j + t)) (n - j) = bv 2147483648 (fun t => dl gx (j + t)) (n - j) * dv + r) → (∀ t, j ≤ t → t < n → dl gx t < 2147483648) → (∀ t, t < j → gx t = g t) → (fr2 F F16 w) → F16 (w) = .inr (0, [.ref (ad (w + 1)), .int (iI ((n : Int)))]) → F16 (w + 1) = .inl (ty 0, N, .inl (gx)) → pw D classes (tysL ty) ad M F16 (pA ad M s.heap.size) s H locs → lv_has ls 7 [(4, .int (iI ((j : Int) - 1))), (2, .long (iL ((r : Int)))), (0, .ref (ad (w))), (1, .int (iI ((dv : Int))))] → W p l e ({ frames := 2, cells := 0, slots := 0, locals := 46 } : Room) s m ([.ref (ad (w)), .int (iI ((dv : Int)))]).toArray below meth c H locs 0 0 Q (F0 m 16 ls []) := by
        intro fuel
        induction fuel with
        | zero => intro j r gx F16 H locs ls hfuel hj hr1 hinv hdig hsame hfr hO_w hA_w hw hl; exact absurd hfuel (Nat.not_lt_zero _)
        | succ fuel ih16 =>
          intro j r gx F16 H locs ls hfuel hj hr1 hinv hdig hsame hfr hO_w hA_w hw hl
          refine lv_iload hx hb d_W_divideSmall_16 (lv_at hl 0 rfl) ?_
          refine wz_if_lt (tgt := 61) hx hb d_W_divideSmall_18 (by decide) (by omega) (by omega) (fun c18 => ?_) (fun c18 => ?_)
          · have hj0 : j = 0 := by omega
            subst hj0
            have hinv2 : v = bv 2147483648 (dl gx) n * dv + r := by
              rw [← hok.2.2.2]
              simpa using hinv
            have hq4 : v / dv = bv 2147483648 (dl gx) n := by rw [hinv2, Nat.add_comm, Nat.add_mul_div_right _ _ hdv0, Nat.div_eq_of_lt hr1, Nat.zero_add]
            have hq5 : v % dv = r := by rw [hinv2, Nat.add_comm, Nat.add_mul_mod_self_right, Nat.mod_eq_of_lt hr1]
            refine lv_aload_n hx hb d_W_divideSmall_61 rfl (lv_at hl 2 rfl) ?_
            refine lv_aload_n hx hb d_W_divideSmall_62 rfl (lv_at hl 2 rfl) ?_
            refine pw_get (ci := 0) (C := R_W) (T := T_W) (N := 2) hx hb hq i_W hown hw (by omega) hO_w rfl 1 (by decide) (hq _ fl_W_21) (fun _ h9 => h9) rfl d_W_divideSmall_63 ?_
            refine pw_callv hw (va_runV (As := [.int (iI ((n : Int)))]) (rest := []) ⟨hx, hb, hml, hown, hq⟩ (c_W_trim l D ty ad M F16 H.size w N n n gx hM hN hn hO_w hA_w) (cwV 1 hq (gV ml_W_48 im_W_trim se_W_trim in_W m_W_trim) rfl rfl rfl (by decide +kernel) ⟨Nat.le_of_ble_eq_true rfl, Nat.le_of_ble_eq_true rfl⟩) (pw_preV hw (by omega) hO_w rfl) rfl rfl hl.1 rfl (lv_room (Nat.le_of_ble_eq_true rfl)) d_W_divideSmall_66 ⟨Nat.le_of_ble_eq_true rfl, Nat.le_of_ble_eq_true rfl⟩) (fun F66 H locs q66 hw => ?_)
            obtain ⟨k, hk1, hk2, hk3, eF66⟩ := q66
            have hA_w_at_66 : F66 (w + 1) = .inl (ty 0, N, .inl (gx)) := (show F66 (w + 1) = F16 (w + 1) from by rw [eF66]; exact va_up_ne _ _ (by omega)).trans hA_w
            refine lv_lload_n hx hb d_W_divideSmall_69 rfl (lv_at hl 1 rfl) ?_
            refine wz_l2i hx hb d_W_divideSmall_70 ?_
            rw [← hQ]
            exact pw_iret hx hb hr hlocks hw (⟨by rw [hq5], ⟨k, gx, ⟨by rw [eF66]; exact va_up_self .., hA_w_at_66⟩, by rw [hq4]; exact Wok.trim hn hk1 (fun i hi => hdig i (Nat.zero_le _) hi) hk2 hk3⟩, fun y h1 h2 => by rw [eF66, va_up_ne _ _ h1]; exact hfr y h1 h2⟩) d_W_divideSmall_71
          · have hdi := hd (j - 1) (by omega)
            have hm1 : r * 2 ^ 31 + dl g (j - 1) < dv * 2147483648 := by
              have : (r + 1) * 2147483648 ≤ dv * 2147483648 := Nat.mul_le_mul_right _ hr1
              omega
            have hm2 : dv * 2147483648 ≤ 2147483648 * 2147483648 := Nat.mul_le_mul_right _ (by omega)
            have hq2 : (r * 2 ^ 31 + dl g (j - 1)) / dv < 2147483648 := Nat.div_lt_of_lt_mul hm1
            have hq3 : (r * 2 ^ 31 + dl g (j - 1)) % dv < dv := Nat.mod_lt _ hdv0
            refine lv_lload_n hx hb d_W_divideSmall_21 rfl (lv_at hl 1 rfl) ?_
            refine wz_bipush (n := 31) hx hb d_W_divideSmall_22 (by decide) ?_
            refine lv_lshl (v := iL (((r * 2 ^ 31 : Nat) : Int))) hx hb d_W_divideSmall_24 (iL_shl (k := 31) (by decide)) ?_
            refine lv_aload_n hx hb d_W_divideSmall_25 rfl (lv_at hl 2 rfl) ?_
            refine pw_get (ci := 0) (C := R_W) (T := T_W) (N := 2) hx hb hq i_W hown hw (by omega) hO_w rfl 0 (by decide) (hq _ fl_W_17) (fun _ h9 => h9) rfl d_W_divideSmall_26 ?_
            refine lv_iload hx hb d_W_divideSmall_29 (lv_at hl 0 rfl) ?_
            refine pw_iald (k := j - 1) hx hb hw 0 (by omega) hA_w rfl (iI_in (by omega) (by omega) (by omega)) ((iI_cl (by omega) (by omega)).trans (by omega)) d_W_divideSmall_31 ?_
            refine lv_topi (fun x31 ex31 => ?_)
            obtain rfl : x31 = iI ((dl g (j - 1) : Int)) := ex31.trans ((hsame _ (by omega)).trans (dl_get hdi))
            refine wz_i2l hx hb d_W_divideSmall_32 (by omega) (by omega) ?_
            refine lv_lor hx hb d_W_divideSmall_33 ?_
            refine lv_topl (fun x33 ex33 => ?_)
            obtain rfl : x33 = iL (((r * 2 ^ 31 + dl g (j - 1) : Nat) : Int)) := ex33.trans (iL_or (k := 31) hdi (by omega))
            refine lv_lstore (lv' := [(5, .long (iL (((r * 2 ^ 31 + dl g (j - 1) : Nat) : Int)))), (4, .int (iI ((j : Int) - 1))), (2, .long (iL ((r : Int)))), (0, .ref (ad (w))), (1, .int (iI ((dv : Int))))]) hx hb d_W_divideSmall_34 hl (by decide) rfl (fun ls hl => ?_)
            refine lv_aload_n hx hb d_W_divideSmall_36 rfl (lv_at hl 3 rfl) ?_
            refine pw_get (ci := 0) (C := R_W) (T := T_W) (N := 2) hx hb hq i_W hown hw (by omega) hO_w rfl 0 (by decide) (hq _ fl_W_17) (fun _ h9 => h9) rfl d_W_divideSmall_37 ?_
            refine lv_iload hx hb d_W_divideSmall_40 (lv_at hl 1 rfl) ?_
            refine lv_lload hx hb d_W_divideSmall_42 (lv_at hl 0 rfl) ?_
            refine lv_iload_n hx hb d_W_divideSmall_44 rfl (lv_at hl 4 rfl) ?_
            refine wz_i2l hx hb d_W_divideSmall_45 (by omega) (by omega) ?_
            refine wz_ldiv (a := r * 2 ^ 31 + dl g (j - 1)) (b := dv) (z := (r * 2 ^ 31 + dl g (j - 1)) / dv) hx hb d_W_divideSmall_46 (by omega) (by omega) (by omega) (rfl) ?_
            refine wz_l2i hx hb d_W_divideSmall_47 ?_
            refine pw_iast (k := j - 1) hx hb hw 0 (by omega) hA_w rfl (iI_in (by omega) (by omega) (by omega)) ((iI_cl (by omega) (by omega)).trans (by omega)) d_W_divideSmall_48 (fun F48 H locs eF48 hw => ?_)
            obtain ⟨gy, egy⟩ : ∃ z, z = upd gx (j - 1) (iI ((((r * 2 ^ 31 + dl g (j - 1)) / dv : Nat) : Int))) := ⟨_, rfl⟩
            rw [← egy] at eF48
            have m48_w1 : F48 (w + 1) = .inl (ty 0, N, .inl (gy)) := by rw [eF48]; exact va_up_self ..
            have hO_w_at_48 : F48 (w) = .inr (0, [.ref (ad (w + 1)), .int (iI ((n : Int)))]) := (show F48 (w) = F16 (w) from by rw [eF48]; exact va_up_ne _ _ (by omega)).trans hO_w
            have hdy : dl gy (j - 1) = (r * 2 ^ 31 + dl g (j - 1)) / dv := by rw [egy]; exact dl_us (by omega)
            refine lv_lload hx hb d_W_divideSmall_49 (lv_at hl 0 rfl) ?_
            refine lv_iload_n hx hb d_W_divideSmall_51 rfl (lv_at hl 4 rfl) ?_
            refine wz_i2l hx hb d_W_divideSmall_52 (by omega) (by omega) ?_
            refine wz_lrem (a := r * 2 ^ 31 + dl g (j - 1)) (b := dv) (z := (r * 2 ^ 31 + dl g (j - 1)) % dv) hx hb d_W_divideSmall_53 (by omega) (by omega) (by omega) (rfl) ?_
            refine lv_lstore_n (lv' := [(2, .long (iL ((((r * 2 ^ 31 + dl g (j - 1)) % dv : Nat) : Int)))), (5, .long (iL (((r * 2 ^ 31 + dl g (j - 1) : Nat) : Int)))), (4, .int (iI ((j : Int) - 1))), (0, .ref (ad (w))), (1, .int (iI ((dv : Int))))]) hx hb d_W_divideSmall_54 rfl hl (by decide) rfl (fun ls hl => ?_)
            refine wz_iinc (z := ((j - 1 : Nat) : Int) - 1) (lv' := [(4, .int (iI (((j - 1 : Nat) : Int) - 1))), (2, .long (iL ((((r * 2 ^ 31 + dl g (j - 1)) % dv : Nat) : Int)))), (5, .long (iL (((r * 2 ^ 31 + dl g (j - 1) : Nat) : Int)))), (0, .ref (ad (w))), (1, .int (iI ((dv : Int))))]) hx hb d_W_divideSmall_55 hl (k := 2) rfl (by omega) (by decide) rfl (fun ls hl => ?_)
            refine lv_goto (tgt := 16) hx hb d_W_divideSmall_58 (by decide) ?_
            exact ih16 (j - 1) ((r * 2 ^ 31 + dl g (j - 1)) % dv) gy _ _ _ ls (by omega) (by omega) (Nat.mod_lt _ hdv0) (ds_step hj (by omega) hinv hdy (fun t h1 => by rw [egy]; exact dl_un (by omega))) (fun t h1 h2 => by
              rcases Nat.lt_or_ge t j with h3 | h3
              · rw [show t = j - 1 by omega, hdy]; exact hq2
              · rw [egy, dl_un (by omega)]; exact hdig t h3 h2) (fun t h1 => by rw [egy, pk_un (by omega)]; exact hsame t (by omega)) (fun y h1 h2 => by rw [eF48, va_up_ne _ _ h2]; exact hfr y h1 h2) hO_w_at_48 m48_w1 hw (lv_sub hl [0, 1, 3, 4] rfl)
      exact K16 _ n 0 g _ _ _ ls (Nat.lt_succ_self _) (Nat.le_refl _) (by omega) (by simp [bv_0]) (fun t h1 h2 => absurd h2 (by omega)) (fun _ _ => rfl) (fun _ _ _ => rfl) hO_w hA_w hw hl
    · exact absurd c1 (by omega)
  rw [hH, hlo] at hgo
  exact hgo
set_option maxHeartbeats 4000000 in
set_option maxRecDepth 100000 in
/-- Whole.compare(a, b) -/
theorem c_W_compare (l : Launch) (D : va_G) (ty : Nat → ClassId) (ad : Nat → Nat) (M : Nat) (F : Nat → va_E) (sz : Nat) (a b Na Nb va vb : Nat) (hMa : a + 1 < M) (hMb : b + 1 < M) (hNa : Na < 1000) (hNb : Nb < 1000) (ha : Wv ty ad F a Na va) (hb0 : Wv ty ad F b Nb vb) :
    CI l y_W_compare w_W_compare ({ frames := 0, cells := 0, slots := 0, locals := 0 } : Room) [.ref (ad (a)), .ref (ad (b))] D ty ad M F sz (fun r F1 => r = iI (cmpI va vb) ∧ F1 = F) := by
  refine Met.ofW (cc := b_W_compare) (maxL := 3) (ret := (some .int)) (by decide) rfl ?_
  intro p e s m args below meth c s₁ B hml hv
  obtain ⟨rfl, hsz, hP, hK, hD0⟩ := hv
  have hx := B.exec
  have hb := B.bytes
  have hr := B.returns
  have hts := atoms_spec (ws := w_W_compare) B.pre
  have hq : ∀ w ∈ wT, w.before _ s = true := fun w h => hts w (List.mem_cons_of_mem _ h)
  have hown : s.vm.findClass R_W = some m.cls := findClass_of_methodNamed B.named
  have hlocks := B.notSynchronized
  subst hsz
  have hw := pw_start hP hK hD0
  have hl := lv_entry ([.ref (ad (a)), .ref (ad (b))]) (n := 3) (Nat.le_of_ble_eq_true rfl)
  rw [lg_entry_eq]
  generalize (lg_sl ([.ref (ad (a)), .ref (ad (b))]) ++ List.replicate (3 - (lg_sl ([.ref (ad (a)), .ref (ad (b))])).length) Slot.unset).toArray = ls at hl ⊢
  have hl : lv_has ls 3 [(0, .ref (ad (a))), (1, .ref (ad (b)))] := hl
  change W p l e ({ frames := 0, cells := 0, slots := 0, locals := 0 } : Room) s m ([.ref (ad (a)), .ref (ad (b))]).toArray below meth c s.heap [] 0 0 (MQ below (va_Qi (fun r F1 => r = iI (cmpI va vb) ∧ F1 = F) (pAt D classes (tysL ty) ad M (pA ad M s.heap.size)) (pA ad M s.heap.size)) ([.ref (ad (a)), .ref (ad (b))]).toArray s 0 0 (pA ad M s.heap.size)) (F0 m 0 ls [])
  generalize hQ : MQ below (va_Qi (fun r F1 => r = iI (cmpI va vb) ∧ F1 = F) (pAt D classes (tysL ty) ad M (pA ad M s.heap.size)) (pA ad M s.heap.size)) ([.ref (ad (a)), .ref (ad (b))]).toArray s 0 0 (pA ad M s.heap.size) = Q
  obtain ⟨H, hH⟩ : ∃ H, H = s.heap := ⟨_, rfl⟩
  obtain ⟨locs, hlo⟩ : ∃ z : List Loc, z = [] := ⟨_, rfl⟩
  have hw : pw D classes (tysL ty) ad M F (pA ad M s.heap.size) s H locs := by rw [hH, hlo]; exact hw
  have hgo : W p l e ({ frames := 0, cells := 0, slots := 0, locals := 0 } : Room) s m ([.ref (ad (a)), .ref (ad (b))]).toArray below meth c H locs 0 0 Q (F0 m 0 ls []) := by
    obtain ⟨na, ga, ⟨hO_a, hA_a⟩, hoka⟩ := ha
    obtain ⟨nb, gb, ⟨hO_b, hA_b⟩, hokb⟩ := hb0
    have hna := hoka.1
    have hnb := hokb.1
    refine lv_aload_n hx hb d_W_compare_0 rfl (lv_at hl 0 rfl) ?_
    refine pw_get (ci := 0) (C := R_W) (T := T_W) (N := 2) hx hb hq i_W hown hw (by omega) hO_a rfl 1 (by decide) (hq _ fl_W_21) (fun _ h9 => h9) rfl d_W_compare_1 ?_
    refine lv_aload_n hx hb d_W_compare_4 rfl (lv_at hl 1 rfl) ?_
    refine pw_get (ci := 0) (C := R_W) (T := T_W) (N := 2) hx hb hq i_W hown hw (by omega) hO_b rfl 1 (by decide) (hq _ fl_W_21) (fun _ h9 => h9) rfl d_W_compare_5 ?_
    refine wz_icmp_eq (tgt := 28) hx hb d_W_compare_8 (by decide) (by omega) (by omega) (by omega) (by omega) (fun c8 => ?_) (fun c8 => ?_)
    · have hnn : na = nb := by omega
      subst hnn
      refine lv_aload_n hx hb d_W_compare_28 rfl (lv_at hl 0 rfl) ?_
      refine pw_get (ci := 0) (C := R_W) (T := T_W) (N := 2) hx hb hq i_W hown hw (by omega) hO_a rfl 1 (by decide) (hq _ fl_W_21) (fun _ h9 => h9) rfl d_W_compare_29 ?_
      refine wz_iconst (n := 1) hx hb d_W_compare_32 ?_
      refine wz_isub hx hb d_W_compare_33 rfl ?_
      refine lv_istore_n (lv' := [(2, .int (iI ((na : Int) - 1))), (0, .ref (ad (a))), (1, .ref (ad (b)))]) hx hb d_W_compare_34 rfl hl (by decide) rfl (fun ls hl => ?_)
      have K35 : ∀ (fuel : Nat) (i : Nat) (ls : Array Slot), i < fuel → (i ≤ na) → (∀ j, i ≤ j → j < na → ga j = gb j) → lv_has ls 3 [(2, .int (iI ((i : Int) - 1))), (0, .ref (ad (a))), (1, .ref (ad (b)))] → W p l e ({ frames := 0, cells := 0, slots := 0, locals := 0 } : Room) s m ([.ref (ad (a)), .ref (ad (b))]).toArray below meth c H locs 0 0 Q (F0 m 35 ls []) := by
        intro fuel
        induction fuel with
        | zero => intro i ls hfuel hi he hl; exact absurd hfuel (Nat.not_lt_zero _)
        | succ fuel ih35 =>
          intro i ls hfuel hi he hl
          refine lv_iload_n hx hb d_W_compare_35 rfl (lv_at hl 0 rfl) ?_
          refine wz_if_lt (tgt := 81) hx hb d_W_compare_36 (by decide) (by omega) (by omega) (fun c36 => ?_) (fun c36 => ?_)
          · refine wz_iconst (n := 0) hx hb d_W_compare_81 ?_
            rw [← hQ]
            exact pw_iret hx hb hr hlocks hw (⟨by have := hoka.cmpE hokb (fun j hj => he j (by omega) hj); rw [cmpI, if_neg (by omega), if_pos this], rfl⟩) d_W_compare_82
          · have hda := hoka.2.1 (i - 1) (by omega)
            have hdb := hokb.2.1 (i - 1) (by omega)
            refine lv_aload_n hx hb d_W_compare_39 rfl (lv_at hl 1 rfl) ?_
            refine pw_get (ci := 0) (C := R_W) (T := T_W) (N := 2) hx hb hq i_W hown hw (by omega) hO_a rfl 0 (by decide) (hq _ fl_W_17) (fun _ h9 => h9) rfl d_W_compare_40 ?_
            refine lv_iload_n hx hb d_W_compare_43 rfl (lv_at hl 0 rfl) ?_
            refine pw_iald (k := i - 1) hx hb hw 0 (by omega) hA_a rfl (iI_in (by omega) (by omega) (by omega)) ((iI_cl (by omega) (by omega)).trans (by omega)) d_W_compare_44 ?_
            refine lv_topi (fun x44 ex44 => ?_)
            obtain rfl : x44 = iI ((dl ga (i - 1) : Int)) := ex44.trans (dl_get hda)
            refine lv_aload_n hx hb d_W_compare_45 rfl (lv_at hl 2 rfl) ?_
            refine pw_get (ci := 0) (C := R_W) (T := T_W) (N := 2) hx hb hq i_W hown hw (by omega) hO_b rfl 0 (by decide) (hq _ fl_W_17) (fun _ h9 => h9) rfl d_W_compare_46 ?_
            refine lv_iload_n hx hb d_W_compare_49 rfl (lv_at hl 0 rfl) ?_
            refine pw_iald (k := i - 1) hx hb hw 0 (by omega) hA_b rfl (iI_in (by omega) (by omega) (by omega)) ((iI_cl (by omega) (by omega)).trans (by omega)) d_W_compare_50 ?_
            refine lv_topi (fun x50 ex50 => ?_)
            obtain rfl : x50 = iI ((dl gb (i - 1) : Int)) := ex50.trans (dl_get hdb)
            refine wz_icmp_eq (tgt := 75) hx hb d_W_compare_51 (by decide) (by omega) (by omega) (by omega) (by omega) (fun c51 => ?_) (fun c51 => ?_)
            · refine wz_iinc (z := ((i - 1 : Nat) : Int) - 1) (lv' := [(2, .int (iI (((i - 1 : Nat) : Int) - 1))), (0, .ref (ad (a))), (1, .ref (ad (b)))]) hx hb d_W_compare_75 hl (k := 0) rfl (by omega) (by decide) rfl (fun ls hl => ?_)
              refine lv_goto (tgt := 35) hx hb d_W_compare_78 (by decide) ?_
              exact ih35 (i - 1) ls (by omega) (by omega) (fun j h1 h2 => by
                rcases Nat.lt_or_ge j i with h3 | h3
                · rw [show j = i - 1 by omega, dl_get hda, dl_get hdb]; exact congrArg iI (by omega)
                · exact he j h3 h2) hl
            · refine lv_aload_n hx hb d_W_compare_54 rfl (lv_at hl 1 rfl) ?_
              refine pw_get (ci := 0) (C := R_W) (T := T_W) (N := 2) hx hb hq i_W hown hw (by omega) hO_a rfl 0 (by decide) (hq _ fl_W_17) (fun _ h9 => h9) rfl d_W_compare_55 ?_
              refine lv_iload_n hx hb d_W_compare_58 rfl (lv_at hl 0 rfl) ?_
              refine pw_iald (k := i - 1) hx hb hw 0 (by omega) hA_a rfl (iI_in (by omega) (by omega) (by omega)) ((iI_cl (by omega) (by omega)).trans (by omega)) d_W_compare_59 ?_
              refine lv_topi (fun x59 ex59 => ?_)
              obtain rfl : x59 = iI ((dl ga (i - 1) : Int)) := ex59.trans (dl_get hda)
              refine lv_aload_n hx hb d_W_compare_60 rfl (lv_at hl 2 rfl) ?_
              refine pw_get (ci := 0) (C := R_W) (T := T_W) (N := 2) hx hb hq i_W hown hw (by omega) hO_b rfl 0 (by decide) (hq _ fl_W_17) (fun _ h9 => h9) rfl d_W_compare_61 ?_
              refine lv_iload_n hx hb d_W_compare_64 rfl (lv_at hl 0 rfl) ?_
              refine pw_iald (k := i - 1) hx hb hw 0 (by omega) hA_b rfl (iI_in (by omega) (by omega) (by omega)) ((iI_cl (by omega) (by omega)).trans (by omega)) d_W_compare_65 ?_
              refine lv_topi (fun x65 ex65 => ?_)
              obtain rfl : x65 = iI ((dl gb (i - 1) : Int)) := ex65.trans (dl_get hdb)
              refine wz_icmp_ge (tgt := 73) hx hb d_W_compare_66 (by decide) (by omega) (by omega) (by omega) (by omega) (fun c66 => ?_) (fun c66 => ?_)
              · refine wz_iconst (n := 1) hx hb d_W_compare_73 ?_
                rw [← hQ]
                exact pw_iret hx hb hr hlocks hw (⟨by have := hokb.cmpL (i := i - 1) hoka (by omega) (fun j h1 h2 => (he j (by omega) h2).symm) (by omega); rw [cmpI, if_neg (by omega), if_neg (by omega)], rfl⟩) d_W_compare_74
              · refine wz_iconst (n := -1) hx hb d_W_compare_69 ?_
                refine lv_goto (tgt := 74) hx hb d_W_compare_70 (by decide) ?_
                rw [← hQ]
                exact pw_iret hx hb hr hlocks hw (⟨by have := hoka.cmpL (i := i - 1) hokb (by omega) (fun j h1 h2 => he j (by omega) h2) (by omega); rw [cmpI, if_pos this], rfl⟩) d_W_compare_74
      exact K35 _ na ls (Nat.lt_succ_self _) (Nat.le_refl _) (fun j h1 h2 => absurd h2 (by omega)) hl
    · refine lv_aload_n hx hb d_W_compare_11 rfl (lv_at hl 0 rfl) ?_
      refine pw_get (ci := 0) (C := R_W) (T := T_W) (N := 2) hx hb hq i_W hown hw (by omega) hO_a rfl 1 (by decide) (hq _ fl_W_21) (fun _ h9 => h9) rfl d_W_compare_12 ?_
      refine lv_aload_n hx hb d_W_compare_15 rfl (lv_at hl 1 rfl) ?_
      refine pw_get (ci := 0) (C := R_W) (T := T_W) (N := 2) hx hb hq i_W hown hw (by omega) hO_b rfl 1 (by decide) (hq _ fl_W_21) (fun _ h9 => h9) rfl d_W_compare_16 ?_
      refine wz_icmp_ge (tgt := 26) hx hb d_W_compare_19 (by decide) (by omega) (by omega) (by omega) (by omega) (fun c19 => ?_) (fun c19 => ?_)
      · refine wz_iconst (n := 1) hx hb d_W_compare_26 ?_
        rw [← hQ]
        exact pw_iret hx hb hr hlocks hw (⟨by have := hokb.cmpS hoka (by omega); rw [cmpI, if_neg (by omega), if_neg (by omega)], rfl⟩) d_W_compare_27
      · refine wz_iconst (n := -1) hx hb d_W_compare_22 ?_
        refine lv_goto (tgt := 27) hx hb d_W_compare_23 (by decide) ?_
        rw [← hQ]
        exact pw_iret hx hb hr hlocks hw (⟨by have := hoka.cmpS hokb (by omega); rw [cmpI, if_pos this], rfl⟩) d_W_compare_27
  rw [hH, hlo] at hgo
  exact hgo
end
section
/-! products and mixes, limb by limb -/
theorem pr_in {B i j cy da : Nat} {dx dy dw db : Nat → Nat} (h : bv B (fun t => dy (i + t)) j + cy * B ^ j = bv B (fun t => dx (i + t)) j + da * bv B db j)
    (hw : dw (i + j) = (da * db j + dx (i + j) + cy) % B) (hs : ∀ k, k < j → dw (i + k) = dy (i + k)) :
    bv B (fun t => dw (i + t)) (j + 1) + ((da * db j + dx (i + j) + cy) / B) * B ^ (j + 1) = bv B (fun t => dx (i + t)) (j + 1) + da * bv B db (j + 1) := by
  rw [bv_s, bv_s, bv_s, bv_congr (B := B) (d := fun t => dw (i + t)) (e := fun t => dy (i + t)) hs, hw]
  have k := carry_step B (da * db j + dx (i + j) + cy) (B ^ j)
  rw [Nat.pow_succ]
  rw [Nat.add_mul, Nat.add_mul] at k
  have e1 : da * (bv B db j + db j * B ^ j) = da * bv B db j + da * db j * B ^ j := by rw [Nat.mul_add, Nat.mul_assoc]
  omega
theorem pr_out {B i nb cy : Nat} {dx dy dv da db : Nat → Nat} (h : bv B dx (i + nb) = bv B da i * bv B db nb)
    (hin : bv B (fun t => dy (i + t)) nb + cy * B ^ nb = bv B (fun t => dx (i + t)) nb + da i * bv B db nb)
    (hs : ∀ k, k < i → dy k = dx k) (hv : dv (i + nb) = cy) (hvs : ∀ k, k < i + nb → dv k = dy k) : bv B dv (i + 1 + nb) = bv B da (i + 1) * bv B db nb := by
  rw [show i + 1 + nb = i + nb + 1 by omega, bv_s, hv, bv_congr hvs, bv_split B dy i nb, bv_congr hs, bv_s, Nat.add_mul, ← h, bv_split B dx i nb, Nat.pow_add]
  have e1 : B ^ i * (bv B (fun t => dy (i + t)) nb + cy * B ^ nb) = B ^ i * (bv B (fun t => dx (i + t)) nb + da i * bv B db nb) := by rw [hin]
  rw [Nat.mul_add, Nat.mul_add] at e1
  have e2 : B ^ i * (cy * B ^ nb) = cy * (B ^ i * B ^ nb) := by ac_rfl
  have e3 : B ^ i * (da i * bv B db nb) = da i * B ^ i * bv B db nb := by ac_rfl
  omega
theorem bv_lm {B : Nat} {d : Nat → Nat} {n k : Nat} (h : n ≤ k) : bv B (lm d n) k = bv B d n := by
  rw [bv_trim h (fun i h1 _ => by unfold lm; rw [if_neg (by omega)])]
  exact bv_congr (fun i hi => by unfold lm; rw [if_pos hi])
theorem mx_step {i : Nat} {fz gz cy S : Int} {dx dy da db : Nat → Nat} (h : (bv 2147483648 dx i : Int) + cy * 2147483648 ^ i = fz * (bv 2147483648 da i : Int) + gz * (bv 2147483648 db i : Int))
    (hS : S = fz * (da i : Int) + gz * (db i : Int) + cy) (hy : (dy i : Int) = S % 2147483648) (hs : ∀ k, k < i → dy k = dx k) :
    (bv 2147483648 dy (i + 1) : Int) + (S / 2147483648) * 2147483648 ^ (i + 1) = fz * (bv 2147483648 da (i + 1) : Int) + gz * (bv 2147483648 db (i + 1) : Int) := by
  rw [bv_s, bv_s, bv_s, bv_congr hs]
  have k := carry_stepI 2147483648 S (2147483648 ^ i)
  have e0 : ((2147483648 ^ i : Nat) : Int) = (2147483648 : Int) ^ i := by simp
  simp only [Int.natCast_add, Int.natCast_mul, e0]
  rw [hy, Int.pow_succ]
  subst hS
  grind
theorem mx_carry {i : Nat} {cy : Int} {x v : Nat} (h : (x : Int) + cy * 2147483648 ^ i = v) (hx : x < 2147483648 ^ i) (hv : v < 2147483648 ^ (i + 1)) : 0 ≤ cy ∧ cy < 2147483648 := by
  have e0 : ((2147483648 ^ i : Nat) : Int) = (2147483648 : Int) ^ i := by simp
  have hp : (0 : Int) < 2147483648 ^ i := Int.pow_pos (by decide)
  rw [Nat.pow_succ] at hv
  have hx' : (x : Int) < 2147483648 ^ i := by rw [← e0]; exact Int.ofNat_lt.mpr hx
  have hv' : (v : Int) < 2147483648 ^ i * 2147483648 := by
    rw [← e0]
    have h9 := Int.ofNat_lt.mpr hv
    rw [Int.natCast_mul] at h9
    exact h9
  generalize (2147483648 : Int) ^ i = P at *
  constructor
  · apply Int.not_lt.mp
    intro q
    have : cy * P ≤ -1 * P := Int.mul_le_mul_of_nonneg_right (by omega) (by omega)
    omega
  · apply Int.not_le.mp
    intro q
    have : 2147483648 * P ≤ cy * P := Int.mul_le_mul_of_nonneg_right q (by omega)
    omega
/-- no mix that is not below 0 has more than one limb more -/
theorem mx_fit {fz gz : Int} {va vb vr n : Nat} (h : fz * va + gz * vb = vr) (ha : va < 2147483648 ^ n) (hb : vb < 2147483648 ^ n) (f1 : fz < 2147483648) (g1 : gz < 2147483648) (hs : fz ≤ 0 ∨ gz ≤ 0 ∨ (fz = 1 ∧ gz = 1)) : vr < 2147483648 ^ (n + 1) := by
  rw [Nat.pow_succ]
  generalize 2147483648 ^ n = P at *
  have h0a : (0 : Int) ≤ va := Int.natCast_nonneg _
  have h0b : (0 : Int) ≤ vb := Int.natCast_nonneg _
  rcases hs with q | q | ⟨rfl, rfl⟩
  · have k1 : fz * va ≤ 0 := Int.mul_nonpos_of_nonpos_of_nonneg q h0a
    have k2 : gz * vb ≤ 2147483648 * vb := Int.mul_le_mul_of_nonneg_right (by omega) h0b
    omega
  · have k1 : gz * vb ≤ 0 := Int.mul_nonpos_of_nonpos_of_nonneg q h0b
    have k2 : fz * va ≤ 2147483648 * va := Int.mul_le_mul_of_nonneg_right (by omega) h0a
    omega
  · omega
/-- no sum on the way passes a long -/
theorem mx_bound {fz gz cy x y : Int} (f1 : -2147483648 < fz ∧ fz < 2147483648) (g1 : -2147483648 < gz ∧ gz < 2147483648) (hx : 0 ≤ x ∧ x < 2147483648) (hy : 0 ≤ y ∧ y < 2147483648) (hc : -4294967296 ≤ cy ∧ cy ≤ 4294967296) :
    -9223372036854775808 ≤ fz * x + gz * y + cy ∧ fz * x + gz * y + cy < 9223372036854775808 := by
  have a1 : fz * x ≤ 2147483647 * x := Int.mul_le_mul_of_nonneg_right (by omega) hx.1
  have a2 : -2147483647 * x ≤ fz * x := Int.mul_le_mul_of_nonneg_right (by omega) hx.1
  have b1 : gz * y ≤ 2147483647 * y := Int.mul_le_mul_of_nonneg_right (by omega) hy.1
  have b2 : -2147483647 * y ≤ gz * y := Int.mul_le_mul_of_nonneg_right (by omega) hy.1
  omega
end
section
/-! Whole: becomeProduct, becomeMix: by program -/
set_option maxHeartbeats 4000000 in
set_option maxRecDepth 100000 in
/-- Whole.becomeProduct(a, b) -/
theorem c_W_becomeProduct (l : Launch) (D : va_G) (ty : Nat → ClassId) (ad : Nat → Nat) (M : Nat) (F : Nat → va_E) (sz : Nat) (t a b N Na Nb va vb Ka Kb : Nat) (hMt : t + 1 < M) (hMa : a + 1 < M) (hMb : b + 1 < M) (hN : N < 1000) (hNa : Na < 1000) (hNb : Nb < 1000) (hta : a ≠ t ∧ a ≠ t + 1 ∧ a + 1 ≠ t) (htb : b ≠ t ∧ b ≠ t + 1 ∧ b + 1 ≠ t) (hva : va < 2147483648 ^ Ka) (hvb : vb < 2147483648 ^ Kb) (hK : Ka + Kb ≤ N) (h : Wa ty ad F t N) (ha : Wv ty ad F a Na va) (hb0 : Wv ty ad F b Nb vb) :
    CV l y_W_becomeProduct w_W_becomeProduct ({ frames := 2, cells := 0, slots := 0, locals := 46 } : Room) [.ref (ad (t)), .ref (ad (a)), .ref (ad (b))] D ty ad M F sz (fun F1 => Wv ty ad F1 t N (va * vb) ∧ fr2 F F1 t) := by
  refine Met.ofW (cc := b_W_becomeProduct) (maxL := 12) (ret := none) (by decide) rfl ?_
  intro p e s m args below meth c s₁ B hml hv
  obtain ⟨rfl, hsz, hP, hK, hD0⟩ := hv
  have hx := B.exec
  have hb := B.bytes
  have hr := B.returns
  have hts := atoms_spec (ws := w_W_becomeProduct) B.pre
  have hq : ∀ w ∈ wT, w.before _ s = true := fun w h => hts w (List.mem_cons_of_mem _ h)
  have hown : s.vm.findClass R_W = some m.cls := findClass_of_methodNamed B.named
  have hlocks := B.notSynchronized
  subst hsz
  have hw := pw_start hP hK hD0
  have hl := lv_entry ([.ref (ad (t)), .ref (ad (a)), .ref (ad (b))]) (n := 12) (Nat.le_of_ble_eq_true rfl)
  rw [lg_entry_eq]
  generalize (lg_sl ([.ref (ad (t)), .ref (ad (a)), .ref (ad (b))]) ++ List.replicate (12 - (lg_sl ([.ref (ad (t)), .ref (ad (a)), .ref (ad (b))])).length) Slot.unset).toArray = ls at hl ⊢
  have hl : lv_has ls 12 [(0, .ref (ad (t))), (1, .ref (ad (a))), (2, .ref (ad (b)))] := hl
  change W p l e ({ frames := 2, cells := 0, slots := 0, locals := 46 } : Room) s m ([.ref (ad (t)), .ref (ad (a)), .ref (ad (b))]).toArray below meth c s.heap [] 0 0 (MQ below (va_Qv (fun F1 => Wv ty ad F1 t N (va * vb) ∧ fr2 F F1 t) (pAt D classes (tysL ty) ad M (pA ad M s.heap.size)) (pA ad M s.heap.size)) ([.ref (ad (t)), .ref (ad (a)), .ref (ad (b))]).toArray s 0 0 (pA ad M s.heap.size)) (F0 m 0 ls [])
  generalize hQ : MQ below (va_Qv (fun F1 => Wv ty ad F1 t N (va * vb) ∧ fr2 F F1 t) (pAt D classes (tysL ty) ad M (pA ad M s.heap.size)) (pA ad M s.heap.size)) ([.ref (ad (t)), .ref (ad (a)), .ref (ad (b))]).toArray s 0 0 (pA ad M s.heap.size) = Q
  obtain ⟨H, hH⟩ : ∃ H, H = s.heap := ⟨_, rfl⟩
  obtain ⟨locs, hlo⟩ : ∃ z : List Loc, z = [] := ⟨_, rfl⟩
  have hw : pw D classes (tysL ty) ad M F (pA ad M s.heap.size) s H locs := by rw [hH, hlo]; exact hw
  have hgo : W p l e ({ frames := 2, cells := 0, slots := 0, locals := 46 } : Room) s m ([.ref (ad (t)), .ref (ad (a)), .ref (ad (b))]).toArray below meth c H locs 0 0 Q (F0 m 0 ls []) := by
    obtain ⟨nt, gt, hO_t, hA_t⟩ := h
    obtain ⟨na, ga, ⟨hO_a, hA_a⟩, hoka⟩ := ha
    obtain ⟨nb, gb, ⟨hO_b, hA_b⟩, hokb⟩ := hb0
    have hna := hoka.1
    have hnb := hokb.1
    have hka := hoka.fits hva
    have hkb := hokb.fits hvb
    have hda := hoka.2.1
    have hdb := hokb.2.1
    refine lv_aload_n hx hb d_W_becomeProduct_0 rfl (lv_at hl 1 rfl) ?_
    refine pw_get (ci := 0) (C := R_W) (T := T_W) (N := 2) hx hb hq i_W hown hw (by omega) hO_a rfl 1 (by decide) (hq _ fl_W_21) (fun _ h9 => h9) rfl d_W_becomeProduct_1 ?_
    refine lv_aload_n hx hb d_W_becomeProduct_4 rfl (lv_at hl 2 rfl) ?_
    refine pw_get (ci := 0) (C := R_W) (T := T_W) (N := 2) hx hb hq i_W hown hw (by omega) hO_b rfl 1 (by decide) (hq _ fl_W_21) (fun _ h9 => h9) rfl d_W_becomeProduct_5 ?_
    refine wz_iadd (z := ((na + nb : Nat) : Int)) hx hb d_W_becomeProduct_8 (by omega) ?_
    refine lv_istore_n (lv' := [(3, .int (iI (((na + nb : Nat) : Int)))), (0, .ref (ad (t))), (1, .ref (ad (a))), (2, .ref (ad (b)))]) hx hb d_W_becomeProduct_9 rfl hl (by decide) rfl (fun ls hl => ?_)
    refine lv_iload_n hx hb d_W_becomeProduct_10 rfl (lv_at hl 0 rfl) ?_
    refine lv_aload_n hx hb d_W_becomeProduct_11 rfl (lv_at hl 1 rfl) ?_
    refine pw_get (ci := 0) (C := R_W) (T := T_W) (N := 2) hx hb hq i_W hown hw (by omega) hO_t rfl 0 (by decide) (hq _ fl_W_17) (fun _ h9 => h9) rfl d_W_becomeProduct_12 ?_
    refine pw_alen (v := iI ((N : Nat) : Int)) hx hb hw 0 (by omega) hA_t rfl (iI_nat _).symm d_W_becomeProduct_15 ?_
    refine wz_icmp_le (tgt := 25) hx hb d_W_becomeProduct_16 (by decide) (by omega) (by omega) (by omega) (by omega) (fun c16 => ?_) (fun c16 => ?_)
    · refine wz_iconst (n := 0) hx hb d_W_becomeProduct_25 ?_
      refine lv_istore (lv' := [(4, .int (iI (0))), (3, .int (iI (((na + nb : Nat) : Int)))), (0, .ref (ad (t))), (1, .ref (ad (a))), (2, .ref (ad (b)))]) hx hb d_W_becomeProduct_26 hl (by decide) rfl (fun ls hl => ?_)
      have K28 : ∀ (fuel : Nat) (j : Nat) (gx : Nat → Int32) (F28 : Nat → va_E) (H : Heap) (locs : List Loc) (ls : Array Slot), nb - j < fuel → (j ≤ nb) → (∀ i, i < j → dl gx i = 0) → (fr2 F F28 t) → F28 (t) = .inr (0, [.ref (ad (t + 1)), .int (iI ((nt : Int)))]) → F28 (t + 1) = .inl (ty 0, N, .inl (gx)) → F28 (a) = .inr (0, [.ref (ad (a + 1)), .int (iI ((na : Int)))]) → F28 (a + 1) = .inl (ty 0, Na, .inl (ga)) → F28 (b) = .inr (0, [.ref (ad (b + 1)), .int (iI ((nb : Int)))]) → F28 (b + 1) = .inl (ty 0, Nb, .inl (gb)) → pw D classes (tysL ty) ad M F28 (pA ad M s.heap.size) s H locs → lv_has ls 12 [(4, .int (iI ((j : Int)))), (3, .int (iI (((na + nb : Nat) : Int)))), (0, .ref (ad (t))), (1, .ref (ad (a))), (2, .ref (ad (b)))] → W p l e ({ frames := 2, cells := 0, slots := 0, locals := 46 } : Room) s m ([.ref (ad (t)), .ref (ad (a)), .ref (ad (b))]).toArray below meth c H locs 0 0 Q (F0 m 28 ls []) := by
        intro fuel
        induction fuel with
        | zero => intro j gx F28 H locs ls hfuel hj hz hfr hO_t hA_t hO_a hA_a hO_b hA_b hw hl; exact absurd hfuel (Nat.not_lt_zero _)
        | succ fuel ih28 =>
          intro j gx F28 H locs ls hfuel hj hz hfr hO_t hA_t hO_a hA_a hO_b hA_b hw hl
          refine lv_iload hx hb d_W_becomeProduct_28 (lv_at hl 0 rfl) ?_
          refine lv_aload_n hx hb d_W_becomeProduct_30 rfl (lv_at hl 4 rfl) ?_
          refine pw_get (ci := 0) (C := R_W) (T := T_W) (N := 2) hx hb hq i_W hown hw (by omega) hO_b rfl 1 (by decide) (hq _ fl_W_21) (fun _ h9 => h9) rfl d_W_becomeProduct_31 ?_
          refine wz_icmp_ge (tgt := 51) hx hb d_W_becomeProduct_34 (by decide) (by omega) (by omega) (by omega) (by omega) (fun c34 => ?_) (fun c34 => ?_)
          · have hjn : nb = j := by omega
            subst hjn
            refine wz_iconst (n := 0) hx hb d_W_becomeProduct_51 ?_
            refine lv_istore (lv' := [(4, .int (iI (0))), (3, .int (iI (((na + nb : Nat) : Int)))), (0, .ref (ad (t))), (1, .ref (ad (a))), (2, .ref (ad (b)))]) hx hb d_W_becomeProduct_52 hl (by decide) rfl (fun ls hl => ?_)
            have K54 : ∀ (fuel : Nat) (i : Nat) (gx : Nat → Int32) (F54 : Nat → va_E) (H : Heap) (locs : List Loc) (ls : Array Slot), na - i < fuel → (i ≤ na) → (bv 2147483648 (dl gx) (i + nb) = bv 2147483648 (dl ga) i * vb) → (∀ j, j < i + nb → dl gx j < 2147483648) → (fr2 F F54 t) → F54 (t) = .inr (0, [.ref (ad (t + 1)), .int (iI ((nt : Int)))]) → F54 (t + 1) = .inl (ty 0, N, .inl (gx)) → F54 (a) = .inr (0, [.ref (ad (a + 1)), .int (iI ((na : Int)))]) → F54 (a + 1) = .inl (ty 0, Na, .inl (ga)) → F54 (b) = .inr (0, [.ref (ad (b + 1)), .int (iI ((nb : Int)))]) → F54 (b + 1) = .inl (ty 0, Nb, .inl (gb)) → pw D classes (tysL ty) ad M F54 (pA ad M s.heap.size) s H locs → lv_has ls 12 [(4, .int (iI ((i : Int)))), (3, .int (iI (((na + nb : Nat) : Int)))), (0, .ref (ad (t))), (1, .ref (ad (a))), (2, .ref (ad (b)))] → W p l e ({ frames := 2, cells := 0, slots := 0, locals := 46 } : Room) s m ([.ref (ad (t)), .ref (ad (a)), .ref (ad (b))]).toArray below meth c H locs 0 0 Q (F0 m 54 ls []) := by
              intro fuel
              induction fuel with
              | zero => intro i gx F54 H locs ls hfuel hi hinv hdig hfr hO_t hA_t hO_a hA_a hO_b hA_b hw hl; exact absurd hfuel (Nat.not_lt_zero _)
              | succ fuel ih54 =>
                intro i gx F54 H locs ls hfuel hi hinv hdig hfr hO_t hA_t hO_a hA_a hO_b hA_b hw hl
                refine lv_iload hx hb d_W_becomeProduct_54 (lv_at hl 0 rfl) ?_
                refine lv_aload_n hx hb d_W_becomeProduct_56 rfl (lv_at hl 3 rfl) ?_
                refine pw_get (ci := 0) (C := R_W) (T := T_W) (N := 2) hx hb hq i_W hown hw (by omega) hO_a rfl 1 (by decide) (hq _ fl_W_21) (fun _ h9 => h9) rfl d_W_becomeProduct_57 ?_
                refine wz_icmp_ge (tgt := 167) hx hb d_W_becomeProduct_60 (by decide) (by omega) (by omega) (by omega) (by omega) (fun c60 => ?_) (fun c60 => ?_)
                · have hin : na = i := by omega
                  subst hin
                  rw [hoka.2.2.2] at hinv
                  refine lv_aload_n hx hb d_W_becomeProduct_167 rfl (lv_at hl 2 rfl) ?_
                  refine lv_iload_n hx hb d_W_becomeProduct_168 rfl (lv_at hl 1 rfl) ?_
                  refine pw_callv hw (va_runV (As := [.int (iI (((na + nb : Nat) : Int)))]) (rest := []) ⟨hx, hb, hml, hown, hq⟩ (c_W_trim l D ty ad M F54 H.size t N (na + nb) nt gx hMt hN (by omega) hO_t hA_t) (cwV 1 hq (gV ml_W_48 im_W_trim se_W_trim in_W m_W_trim) rfl rfl rfl (by decide +kernel) ⟨Nat.le_of_ble_eq_true rfl, Nat.le_of_ble_eq_true rfl⟩) (pw_preV hw (by omega) hO_t rfl) rfl rfl hl.1 rfl (lv_room (Nat.le_of_ble_eq_true rfl)) d_W_becomeProduct_169 ⟨Nat.le_of_ble_eq_true rfl, Nat.le_of_ble_eq_true rfl⟩) (fun F169 H locs q169 hw => ?_)
                  obtain ⟨k, hk1, hk2, hk3, eF169⟩ := q169
                  have hA_t_at_169 : F169 (t + 1) = .inl (ty 0, N, .inl (gx)) := (show F169 (t + 1) = F54 (t + 1) from by rw [eF169]; exact va_up_ne _ _ (by omega)).trans hA_t
                  have hO_a_at_169 : F169 (a) = .inr (0, [.ref (ad (a + 1)), .int (iI ((na : Int)))]) := (show F169 (a) = F54 (a) from by rw [eF169]; exact va_up_ne _ _ (by omega)).trans hO_a
                  have hA_a_at_169 : F169 (a + 1) = .inl (ty 0, Na, .inl (ga)) := (show F169 (a + 1) = F54 (a + 1) from by rw [eF169]; exact va_up_ne _ _ (by omega)).trans hA_a
                  have hO_b_at_169 : F169 (b) = .inr (0, [.ref (ad (b + 1)), .int (iI ((nb : Int)))]) := (show F169 (b) = F54 (b) from by rw [eF169]; exact va_up_ne _ _ (by omega)).trans hO_b
                  have hA_b_at_169 : F169 (b + 1) = .inl (ty 0, Nb, .inl (gb)) := (show F169 (b + 1) = F54 (b + 1) from by rw [eF169]; exact va_up_ne _ _ (by omega)).trans hA_b
                  rw [← hQ]
                  exact pw_vret hx hb hr hlocks hw (⟨⟨k, gx, ⟨by rw [eF169]; exact va_up_self .., hA_t_at_169⟩, by rw [← hinv]; exact Wok.trim (by omega) hk1 hdig hk2 hk3⟩, fun y h1 h2 => by rw [eF169, va_up_ne _ _ h1]; exact hfr y h1 h2⟩) d_W_becomeProduct_172
                · refine lv_aload_n hx hb d_W_becomeProduct_63 rfl (lv_at hl 3 rfl) ?_
                  refine pw_get (ci := 0) (C := R_W) (T := T_W) (N := 2) hx hb hq i_W hown hw (by omega) hO_a rfl 0 (by decide) (hq _ fl_W_17) (fun _ h9 => h9) rfl d_W_becomeProduct_64 ?_
                  refine lv_iload hx hb d_W_becomeProduct_67 (lv_at hl 0 rfl) ?_
                  refine pw_iald (k := i) hx hb hw 0 (by omega) hA_a rfl (iI_in (by omega) (by omega) (by omega)) ((iI_cl (by omega) (by omega)).trans (by omega)) d_W_becomeProduct_69 ?_
                  refine lv_topi (fun x69 ex69 => ?_)
                  obtain rfl : x69 = iI ((dl ga i : Int)) := ex69.trans (dl_get (hda i (by omega)))
                  have hdai := hda i (by omega)
                  refine wz_i2l hx hb d_W_becomeProduct_70 (by omega) (by omega) ?_
                  refine lv_lstore (lv' := [(5, .long (iL ((dl ga i : Int)))), (4, .int (iI ((i : Int)))), (3, .int (iI (((na + nb : Nat) : Int)))), (0, .ref (ad (t))), (1, .ref (ad (a))), (2, .ref (ad (b)))]) hx hb d_W_becomeProduct_71 hl (by decide) rfl (fun ls hl => ?_)
                  refine lv_lconst (v := iL 0) hx hb d_W_becomeProduct_73 (by decide) ?_
                  refine lv_lstore (lv' := [(7, .long (iL (0))), (5, .long (iL ((dl ga i : Int)))), (4, .int (iI ((i : Int)))), (3, .int (iI (((na + nb : Nat) : Int)))), (0, .ref (ad (t))), (1, .ref (ad (a))), (2, .ref (ad (b)))]) hx hb d_W_becomeProduct_74 hl (by decide) rfl (fun ls hl => ?_)
                  refine wz_iconst (n := 0) hx hb d_W_becomeProduct_76 ?_
                  refine lv_istore (lv' := [(9, .int (iI (0))), (7, .long (iL (0))), (5, .long (iL ((dl ga i : Int)))), (4, .int (iI ((i : Int)))), (3, .int (iI (((na + nb : Nat) : Int)))), (0, .ref (ad (t))), (1, .ref (ad (a))), (2, .ref (ad (b)))]) hx hb d_W_becomeProduct_77 hl (by decide) rfl (fun ls hl => ?_)
                  have K79 : ∀ (fuel : Nat) (j cy : Nat) (gy : Nat → Int32) (F79 : Nat → va_E) (H : Heap) (locs : List Loc) (ls : Array Slot), nb - j < fuel → (j ≤ nb) → (bv 2147483648 (fun t => dl gy (i + t)) j + cy * 2147483648 ^ j = bv 2147483648 (fun t => dl gx (i + t)) j + dl ga i * bv 2147483648 (dl gb) j) → (cy < 2147483648) → (∀ k, k < i + nb → dl gy k < 2147483648) → (∀ k, k < i ∨ i + j ≤ k → gy k = gx k) → (fr2 F F79 t) → F79 (t) = .inr (0, [.ref (ad (t + 1)), .int (iI ((nt : Int)))]) → F79 (t + 1) = .inl (ty 0, N, .inl (gy)) → F79 (a) = .inr (0, [.ref (ad (a + 1)), .int (iI ((na : Int)))]) → F79 (a + 1) = .inl (ty 0, Na, .inl (ga)) → F79 (b) = .inr (0, [.ref (ad (b + 1)), .int (iI ((nb : Int)))]) → F79 (b + 1) = .inl (ty 0, Nb, .inl (gb)) → pw D classes (tysL ty) ad M F79 (pA ad M s.heap.size) s H locs → lv_has ls 12 [(9, .int (iI ((j : Int)))), (7, .long (iL ((cy : Int)))), (5, .long (iL ((dl ga i : Int)))), (4, .int (iI ((i : Int)))), (3, .int (iI (((na + nb : Nat) : Int)))), (0, .ref (ad (t))), (1, .ref (ad (a))), (2, .ref (ad (b)))] → W p l e ({ frames := 2, cells := 0, slots := 0, locals := 46 } : Room) s m ([.ref (ad (t)), .ref (ad (a)), .ref (ad (b))]).toArray below meth c H locs 0 0 Q (F0 m 79 ls []) := by
                    intro fuel
                    induction fuel with
                    | zero => intro j cy gy F79 H locs ls hfuel hj hinv2 hc hd2 hs2 hfr hO_t hA_t hO_a hA_a hO_b hA_b hw hl; exact absurd hfuel (Nat.not_lt_zero _)
                    | succ fuel ih79 =>
                      intro j cy gy F79 H locs ls hfuel hj hinv2 hc hd2 hs2 hfr hO_t hA_t hO_a hA_a hO_b hA_b hw hl
                      refine lv_iload hx hb d_W_becomeProduct_79 (lv_at hl 0 rfl) ?_
                      refine lv_aload_n hx hb d_W_becomeProduct_81 rfl (lv_at hl 7 rfl) ?_
                      refine pw_get (ci := 0) (C := R_W) (T := T_W) (N := 2) hx hb hq i_W hown hw (by omega) hO_b rfl 1 (by decide) (hq _ fl_W_21) (fun _ h9 => h9) rfl d_W_becomeProduct_82 ?_
                      refine wz_icmp_ge (tgt := 146) hx hb d_W_becomeProduct_85 (by decide) (by omega) (by omega) (by omega) (by omega) (fun c85 => ?_) (fun c85 => ?_)
                      · have hjn : nb = j := by omega
                        subst hjn
                        rw [hokb.2.2.2] at hinv2
                        refine lv_aload_n hx hb d_W_becomeProduct_146 rfl (lv_at hl 5 rfl) ?_
                        refine pw_get (ci := 0) (C := R_W) (T := T_W) (N := 2) hx hb hq i_W hown hw (by omega) hO_t rfl 0 (by decide) (hq _ fl_W_17) (fun _ h9 => h9) rfl d_W_becomeProduct_147 ?_
                        refine lv_iload hx hb d_W_becomeProduct_150 (lv_at hl 3 rfl) ?_
                        refine lv_aload_n hx hb d_W_becomeProduct_152 rfl (lv_at hl 7 rfl) ?_
                        refine pw_get (ci := 0) (C := R_W) (T := T_W) (N := 2) hx hb hq i_W hown hw (by omega) hO_b rfl 1 (by decide) (hq _ fl_W_21) (fun _ h9 => h9) rfl d_W_becomeProduct_153 ?_
                        refine wz_iadd (z := ((i + nb : Nat) : Int)) hx hb d_W_becomeProduct_156 (by omega) ?_
                        refine lv_lload hx hb d_W_becomeProduct_157 (lv_at hl 1 rfl) ?_
                        refine wz_l2i hx hb d_W_becomeProduct_159 ?_
                        refine pw_iast (k := i + nb) hx hb hw 0 (by omega) hA_t rfl (iI_in (by omega) (by omega) (by omega)) ((iI_cl (by omega) (by omega)).trans (by omega)) d_W_becomeProduct_160 (fun F160 H locs eF160 hw => ?_)
                        obtain ⟨gv, egv⟩ : ∃ z, z = upd gy (i + nb) (iI ((cy : Int))) := ⟨_, rfl⟩
                        rw [← egv] at eF160
                        have m160_t1 : F160 (t + 1) = .inl (ty 0, N, .inl (gv)) := by rw [eF160]; exact va_up_self ..
                        have hO_t_at_160 : F160 (t) = .inr (0, [.ref (ad (t + 1)), .int (iI ((nt : Int)))]) := (show F160 (t) = F79 (t) from by rw [eF160]; exact va_up_ne _ _ (by omega)).trans hO_t
                        have hO_a_at_160 : F160 (a) = .inr (0, [.ref (ad (a + 1)), .int (iI ((na : Int)))]) := (show F160 (a) = F79 (a) from by rw [eF160]; exact va_up_ne _ _ (by omega)).trans hO_a
                        have hA_a_at_160 : F160 (a + 1) = .inl (ty 0, Na, .inl (ga)) := (show F160 (a + 1) = F79 (a + 1) from by rw [eF160]; exact va_up_ne _ _ (by omega)).trans hA_a
                        have hO_b_at_160 : F160 (b) = .inr (0, [.ref (ad (b + 1)), .int (iI ((nb : Int)))]) := (show F160 (b) = F79 (b) from by rw [eF160]; exact va_up_ne _ _ (by omega)).trans hO_b
                        have hA_b_at_160 : F160 (b + 1) = .inl (ty 0, Nb, .inl (gb)) := (show F160 (b + 1) = F79 (b + 1) from by rw [eF160]; exact va_up_ne _ _ (by omega)).trans hA_b
                        refine wz_iinc (z := ((i + 1 : Nat) : Int)) (lv' := [(4, .int (iI (((i + 1 : Nat) : Int)))), (9, .int (iI ((nb : Int)))), (7, .long (iL ((cy : Int)))), (5, .long (iL ((dl ga i : Int)))), (3, .int (iI (((na + nb : Nat) : Int)))), (0, .ref (ad (t))), (1, .ref (ad (a))), (2, .ref (ad (b)))]) hx hb d_W_becomeProduct_161 hl (k := 3) rfl (by omega) (by decide) rfl (fun ls hl => ?_)
                        refine lv_goto (tgt := 54) hx hb d_W_becomeProduct_164 (by decide) ?_
                        exact ih54 (i + 1) gv _ _ _ ls (by omega) (by omega) (by rw [← hokb.2.2.2] at hinv hinv2 ⊢; exact pr_out hinv hinv2 (fun k hk => by show (gy k).toBitVec.toNat = _; rw [hs2 k (Or.inl hk)]; rfl) (by rw [egv]; exact dl_us (by omega)) (fun k hk => by rw [egv]; exact dl_un (by omega))) (fun k h1 => by
                          rcases Nat.lt_or_ge k (i + nb) with h2 | h2
                          · rw [egv, dl_un (by omega)]; exact hd2 k h2
                          · rw [show k = i + nb by omega, egv, dl_us (by omega)]; exact hc) (fun y h1 h2 => by rw [eF160, va_up_ne _ _ h2]; exact hfr y h1 h2) hO_t_at_160 m160_t1 hO_a_at_160 hA_a_at_160 hO_b_at_160 hA_b_at_160 hw (lv_sub hl [0, 4, 5, 6, 7] rfl)
                      · have hdbj := hdb j (by omega)
                        have hdxj := hdig (i + j) (by omega)
                        have hm1 : dl ga i * dl gb j ≤ 2147483647 * 2147483647 := Nat.mul_le_mul (by omega) (by omega)
                        refine lv_lload hx hb d_W_becomeProduct_88 (lv_at hl 2 rfl) ?_
                        refine lv_aload_n hx hb d_W_becomeProduct_90 rfl (lv_at hl 7 rfl) ?_
                        refine pw_get (ci := 0) (C := R_W) (T := T_W) (N := 2) hx hb hq i_W hown hw (by omega) hO_b rfl 0 (by decide) (hq _ fl_W_17) (fun _ h9 => h9) rfl d_W_becomeProduct_91 ?_
                        refine lv_iload hx hb d_W_becomeProduct_94 (lv_at hl 0 rfl) ?_
                        refine pw_iald (k := j) hx hb hw 0 (by omega) hA_b rfl (iI_in (by omega) (by omega) (by omega)) ((iI_cl (by omega) (by omega)).trans (by omega)) d_W_becomeProduct_96 ?_
                        refine lv_topi (fun x96 ex96 => ?_)
                        obtain rfl : x96 = iI ((dl gb j : Int)) := ex96.trans (dl_get hdbj)
                        refine wz_i2l hx hb d_W_becomeProduct_97 (by omega) (by omega) ?_
                        refine wz_lmul (z := ((dl ga i * dl gb j : Nat) : Int)) hx hb d_W_becomeProduct_98 ((Int.natCast_mul _ _).symm) ?_
                        refine lv_aload_n hx hb d_W_becomeProduct_99 rfl (lv_at hl 5 rfl) ?_
                        refine pw_get (ci := 0) (C := R_W) (T := T_W) (N := 2) hx hb hq i_W hown hw (by omega) hO_t rfl 0 (by decide) (hq _ fl_W_17) (fun _ h9 => h9) rfl d_W_becomeProduct_100 ?_
                        refine lv_iload hx hb d_W_becomeProduct_103 (lv_at hl 3 rfl) ?_
                        refine lv_iload hx hb d_W_becomeProduct_105 (lv_at hl 0 rfl) ?_
                        refine wz_iadd (z := ((i + j : Nat) : Int)) hx hb d_W_becomeProduct_107 (by omega) ?_
                        refine pw_iald (k := i + j) hx hb hw 0 (by omega) hA_t rfl (iI_in (by omega) (by omega) (by omega)) ((iI_cl (by omega) (by omega)).trans (by omega)) d_W_becomeProduct_108 ?_
                        refine lv_topi (fun x108 ex108 => ?_)
                        obtain rfl : x108 = iI ((dl gx (i + j) : Int)) := ex108.trans ((hs2 _ (Or.inr (Nat.le_refl _))).trans (dl_get hdxj))
                        refine wz_i2l hx hb d_W_becomeProduct_109 (by omega) (by omega) ?_
                        refine wz_ladd (z := ((dl ga i * dl gb j + dl gx (i + j) : Nat) : Int)) hx hb d_W_becomeProduct_110 (rfl) ?_
                        refine lv_lload hx hb d_W_becomeProduct_111 (lv_at hl 1 rfl) ?_
                        refine wz_ladd (z := ((dl ga i * dl gb j + dl gx (i + j) + cy : Nat) : Int)) hx hb d_W_becomeProduct_113 (rfl) ?_
                        refine lv_lstore (lv' := [(10, .long (iL (((dl ga i * dl gb j + dl gx (i + j) + cy : Nat) : Int)))), (9, .int (iI ((j : Int)))), (7, .long (iL ((cy : Int)))), (5, .long (iL ((dl ga i : Int)))), (4, .int (iI ((i : Int)))), (3, .int (iI (((na + nb : Nat) : Int)))), (0, .ref (ad (t))), (1, .ref (ad (a))), (2, .ref (ad (b)))]) hx hb d_W_becomeProduct_114 hl (by decide) rfl (fun ls hl => ?_)
                        refine lv_aload_n hx hb d_W_becomeProduct_116 rfl (lv_at hl 6 rfl) ?_
                        refine pw_get (ci := 0) (C := R_W) (T := T_W) (N := 2) hx hb hq i_W hown hw (by omega) hO_t rfl 0 (by decide) (hq _ fl_W_17) (fun _ h9 => h9) rfl d_W_becomeProduct_117 ?_
                        refine lv_iload hx hb d_W_becomeProduct_120 (lv_at hl 4 rfl) ?_
                        refine lv_iload hx hb d_W_becomeProduct_122 (lv_at hl 1 rfl) ?_
                        refine wz_iadd (z := ((i + j : Nat) : Int)) hx hb d_W_becomeProduct_124 (by omega) ?_
                        refine lv_lload hx hb d_W_becomeProduct_125 (lv_at hl 0 rfl) ?_
                        refine lv_ldc2 (v := iL (2147483647)) hx hb hown (hq _ cj_W_43) d_W_becomeProduct_127 ?_
                        refine lv_land hx hb d_W_becomeProduct_130 ?_
                        refine lv_topl (fun x130 ex130 => ?_)
                        obtain rfl : x130 = iL ((((dl ga i * dl gb j + dl gx (i + j) + cy) % 2147483648 : Nat) : Int)) := ex130.trans (iL_m31 _)
                        refine wz_l2i hx hb d_W_becomeProduct_131 ?_
                        refine pw_iast (k := i + j) hx hb hw 0 (by omega) hA_t rfl (iI_in (by omega) (by omega) (by omega)) ((iI_cl (by omega) (by omega)).trans (by omega)) d_W_becomeProduct_132 (fun F132 H locs eF132 hw => ?_)
                        obtain ⟨gw, egw⟩ : ∃ z, z = upd gy (i + j) (iI ((((dl ga i * dl gb j + dl gx (i + j) + cy) % 2147483648 : Nat) : Int))) := ⟨_, rfl⟩
                        rw [← egw] at eF132
                        have m132_t1 : F132 (t + 1) = .inl (ty 0, N, .inl (gw)) := by rw [eF132]; exact va_up_self ..
                        have hO_t_at_132 : F132 (t) = .inr (0, [.ref (ad (t + 1)), .int (iI ((nt : Int)))]) := (show F132 (t) = F79 (t) from by rw [eF132]; exact va_up_ne _ _ (by omega)).trans hO_t
                        have hO_a_at_132 : F132 (a) = .inr (0, [.ref (ad (a + 1)), .int (iI ((na : Int)))]) := (show F132 (a) = F79 (a) from by rw [eF132]; exact va_up_ne _ _ (by omega)).trans hO_a
                        have hA_a_at_132 : F132 (a + 1) = .inl (ty 0, Na, .inl (ga)) := (show F132 (a + 1) = F79 (a + 1) from by rw [eF132]; exact va_up_ne _ _ (by omega)).trans hA_a
                        have hO_b_at_132 : F132 (b) = .inr (0, [.ref (ad (b + 1)), .int (iI ((nb : Int)))]) := (show F132 (b) = F79 (b) from by rw [eF132]; exact va_up_ne _ _ (by omega)).trans hO_b
                        have hA_b_at_132 : F132 (b + 1) = .inl (ty 0, Nb, .inl (gb)) := (show F132 (b + 1) = F79 (b + 1) from by rw [eF132]; exact va_up_ne _ _ (by omega)).trans hA_b
                        have hdw : dl gw (i + j) = (dl ga i * dl gb j + dl gx (i + j) + cy) % 2147483648 := by rw [egw]; exact dl_us (by omega)
                        refine lv_lload hx hb d_W_becomeProduct_133 (lv_at hl 0 rfl) ?_
                        refine wz_bipush (n := 31) hx hb d_W_becomeProduct_135 (by decide) ?_
                        refine lv_lushr (v := iL ((((dl ga i * dl gb j + dl gx (i + j) + cy) / 2147483648 : Nat) : Int))) hx hb d_W_becomeProduct_137 (iL_ushr (k := 31) (by decide) (by omega)) ?_
                        refine lv_lstore (lv' := [(7, .long (iL ((((dl ga i * dl gb j + dl gx (i + j) + cy) / 2147483648 : Nat) : Int)))), (10, .long (iL (((dl ga i * dl gb j + dl gx (i + j) + cy : Nat) : Int)))), (9, .int (iI ((j : Int)))), (5, .long (iL ((dl ga i : Int)))), (4, .int (iI ((i : Int)))), (3, .int (iI (((na + nb : Nat) : Int)))), (0, .ref (ad (t))), (1, .ref (ad (a))), (2, .ref (ad (b)))]) hx hb d_W_becomeProduct_138 hl (by decide) rfl (fun ls hl => ?_)
                        refine wz_iinc (z := ((j + 1 : Nat) : Int)) (lv' := [(9, .int (iI (((j + 1 : Nat) : Int)))), (7, .long (iL ((((dl ga i * dl gb j + dl gx (i + j) + cy) / 2147483648 : Nat) : Int)))), (10, .long (iL (((dl ga i * dl gb j + dl gx (i + j) + cy : Nat) : Int)))), (5, .long (iL ((dl ga i : Int)))), (4, .int (iI ((i : Int)))), (3, .int (iI (((na + nb : Nat) : Int)))), (0, .ref (ad (t))), (1, .ref (ad (a))), (2, .ref (ad (b)))]) hx hb d_W_becomeProduct_140 hl (k := 2) rfl (by omega) (by decide) rfl (fun ls hl => ?_)
                        refine lv_goto (tgt := 79) hx hb d_W_becomeProduct_143 (by decide) ?_
                        exact ih79 (j + 1) ((dl ga i * dl gb j + dl gx (i + j) + cy) / 2147483648) gw _ _ _ ls (by omega) (by omega) (pr_in hinv2 hdw (fun k hk => by rw [egw]; exact dl_un (by omega))) (Nat.div_lt_of_lt_mul (by omega)) (fun k h1 => by
                          by_cases h2 : k = i + j
                          · rw [h2, hdw]; exact Nat.mod_lt _ (by decide)
                          · rw [egw, dl_un h2]; exact hd2 k h1) (fun k h1 => by rw [egw, pk_un (by omega)]; exact hs2 k (by omega)) (fun y h1 h2 => by rw [eF132, va_up_ne _ _ h2]; exact hfr y h1 h2) hO_t_at_132 m132_t1 hO_a_at_132 hA_a_at_132 hO_b_at_132 hA_b_at_132 hw (lv_sub hl [0, 1, 3, 4, 5, 6, 7, 8] rfl)
                  exact K79 _ 0 0 gx _ _ _ ls (Nat.lt_succ_self _) (Nat.zero_le _) (by simp [bv_0]) (by decide) (hdig) (fun _ _ => rfl) (hfr) hO_t hA_t hO_a hA_a hO_b hA_b hw hl
            exact K54 _ 0 gx _ _ _ ls (Nat.lt_succ_self _) (Nat.zero_le _) (by rw [Nat.zero_add, bv_zero (fun i hi => hz i (by omega))]; simp [bv_0]) (fun j h1 => by rw [hz j (by omega)]; decide) (hfr) hO_t hA_t hO_a hA_a hO_b hA_b hw hl
          · refine lv_aload_n hx hb d_W_becomeProduct_37 rfl (lv_at hl 2 rfl) ?_
            refine pw_get (ci := 0) (C := R_W) (T := T_W) (N := 2) hx hb hq i_W hown hw (by omega) hO_t rfl 0 (by decide) (hq _ fl_W_17) (fun _ h9 => h9) rfl d_W_becomeProduct_38 ?_
            refine lv_iload hx hb d_W_becomeProduct_41 (lv_at hl 0 rfl) ?_
            refine wz_iconst (n := 0) hx hb d_W_becomeProduct_43 ?_
            refine pw_iast (k := j) hx hb hw 0 (by omega) hA_t rfl (iI_in (by omega) (by omega) (by omega)) ((iI_cl (by omega) (by omega)).trans (by omega)) d_W_becomeProduct_44 (fun F44 H locs eF44 hw => ?_)
            obtain ⟨gy, egy⟩ : ∃ z, z = upd gx (j) (iI (0)) := ⟨_, rfl⟩
            rw [← egy] at eF44
            have m44_t1 : F44 (t + 1) = .inl (ty 0, N, .inl (gy)) := by rw [eF44]; exact va_up_self ..
            have hO_t_at_44 : F44 (t) = .inr (0, [.ref (ad (t + 1)), .int (iI ((nt : Int)))]) := (show F44 (t) = F28 (t) from by rw [eF44]; exact va_up_ne _ _ (by omega)).trans hO_t
            have hO_a_at_44 : F44 (a) = .inr (0, [.ref (ad (a + 1)), .int (iI ((na : Int)))]) := (show F44 (a) = F28 (a) from by rw [eF44]; exact va_up_ne _ _ (by omega)).trans hO_a
            have hA_a_at_44 : F44 (a + 1) = .inl (ty 0, Na, .inl (ga)) := (show F44 (a + 1) = F28 (a + 1) from by rw [eF44]; exact va_up_ne _ _ (by omega)).trans hA_a
            have hO_b_at_44 : F44 (b) = .inr (0, [.ref (ad (b + 1)), .int (iI ((nb : Int)))]) := (show F44 (b) = F28 (b) from by rw [eF44]; exact va_up_ne _ _ (by omega)).trans hO_b
            have hA_b_at_44 : F44 (b + 1) = .inl (ty 0, Nb, .inl (gb)) := (show F44 (b + 1) = F28 (b + 1) from by rw [eF44]; exact va_up_ne _ _ (by omega)).trans hA_b
            refine wz_iinc (z := ((j + 1 : Nat) : Int)) (lv' := [(4, .int (iI (((j + 1 : Nat) : Int)))), (3, .int (iI (((na + nb : Nat) : Int)))), (0, .ref (ad (t))), (1, .ref (ad (a))), (2, .ref (ad (b)))]) hx hb d_W_becomeProduct_45 hl (k := 0) rfl (by omega) (by decide) rfl (fun ls hl => ?_)
            refine lv_goto (tgt := 28) hx hb d_W_becomeProduct_48 (by decide) ?_
            exact ih28 (j + 1) gy _ _ _ ls (by omega) (by omega) (fun i h1 => by
              rcases Nat.lt_or_ge i j with h2 | h2
              · rw [egy, dl_un (by omega)]; exact hz i h2
              · rw [show i = j by omega, egy]; exact dl_us (n := 0) (by omega)) (fun y h1 h2 => by rw [eF44, va_up_ne _ _ h2]; exact hfr y h1 h2) hO_t_at_44 m44_t1 hO_a_at_44 hA_a_at_44 hO_b_at_44 hA_b_at_44 hw hl
      exact K28 _ 0 gt _ _ _ ls (Nat.lt_succ_self _) (Nat.zero_le _) (fun i h1 => absurd h1 (by omega)) (fun _ _ _ => rfl) hO_t hA_t hO_a hA_a hO_b hA_b hw hl
    · exact absurd c16 (by omega)
  rw [hH, hlo] at hgo
  exact hgo
set_option maxHeartbeats 4000000 in
set_option maxRecDepth 100000 in
/-- Whole.becomeMix(f, a, g, b) -/
theorem c_W_becomeMix (l : Launch) (D : va_G) (ty : Nat → ClassId) (ad : Nat → Nat) (M : Nat) (F : Nat → va_E) (sz : Nat) (t a b N Na Nb va vb vr : Nat) (fz gz : Int) (hMt : t + 1 < M) (hMa : a + 1 < M) (hMb : b + 1 < M) (hN : N < 1000) (hNa : Na < 1000) (hNb : Nb < 1000) (hta : a ≠ t ∧ a ≠ t + 1 ∧ a + 1 ≠ t) (htb : b ≠ t ∧ b ≠ t + 1 ∧ b + 1 ≠ t) (hf : -2147483648 < fz ∧ fz < 2147483648) (hg : -2147483648 < gz ∧ gz < 2147483648) (hs : fz ≤ 0 ∨ gz ≤ 0 ∨ (fz = 1 ∧ gz = 1)) (hr0 : fz * va + gz * vb = vr) (hva : va < 2147483648 ^ (N - 1)) (hvb : vb < 2147483648 ^ (N - 1)) (hN0 : 0 < N) (ha : Wv ty ad F a Na va) (hb0 : Wv ty ad F b Nb vb) (h : Wa ty ad F t N) :
    CV l y_W_becomeMix w_W_becomeMix ({ frames := 2, cells := 0, slots := 0, locals := 46 } : Room) [.ref (ad (t)), .long (iL (fz)), .ref (ad (a)), .long (iL (gz)), .ref (ad (b))] D ty ad M F sz (fun F1 => Wv ty ad F1 t N vr ∧ fr2 F F1 t) := by
  refine Met.ofW (cc := b_W_becomeMix) (maxL := 15) (ret := none) (by decide) rfl ?_
  intro p e s m args below meth c s₁ B hml hv
  obtain ⟨rfl, hsz, hP, hK, hD0⟩ := hv
  have hx := B.exec
  have hb := B.bytes
  have hr := B.returns
  have hts := atoms_spec (ws := w_W_becomeMix) B.pre
  have hq : ∀ w ∈ wT, w.before _ s = true := fun w h => hts w (List.mem_cons_of_mem _ h)
  have hown : s.vm.findClass R_W = some m.cls := findClass_of_methodNamed B.named
  have hlocks := B.notSynchronized
  subst hsz
  have hw := pw_start hP hK hD0
  have hl := lv_entry ([.ref (ad (t)), .long (iL (fz)), .ref (ad (a)), .long (iL (gz)), .ref (ad (b))]) (n := 15) (Nat.le_of_ble_eq_true rfl)
  rw [lg_entry_eq]
  generalize (lg_sl ([.ref (ad (t)), .long (iL (fz)), .ref (ad (a)), .long (iL (gz)), .ref (ad (b))]) ++ List.replicate (15 - (lg_sl ([.ref (ad (t)), .long (iL (fz)), .ref (ad (a)), .long (iL (gz)), .ref (ad (b))])).length) Slot.unset).toArray = ls at hl ⊢
  have hl : lv_has ls 15 [(0, .ref (ad (t))), (1, .long (iL (fz))), (3, .ref (ad (a))), (4, .long (iL (gz))), (6, .ref (ad (b)))] := hl
  change W p l e ({ frames := 2, cells := 0, slots := 0, locals := 46 } : Room) s m ([.ref (ad (t)), .long (iL (fz)), .ref (ad (a)), .long (iL (gz)), .ref (ad (b))]).toArray below meth c s.heap [] 0 0 (MQ below (va_Qv (fun F1 => Wv ty ad F1 t N vr ∧ fr2 F F1 t) (pAt D classes (tysL ty) ad M (pA ad M s.heap.size)) (pA ad M s.heap.size)) ([.ref (ad (t)), .long (iL (fz)), .ref (ad (a)), .long (iL (gz)), .ref (ad (b))]).toArray s 0 0 (pA ad M s.heap.size)) (F0 m 0 ls [])
  generalize hQ : MQ below (va_Qv (fun F1 => Wv ty ad F1 t N vr ∧ fr2 F F1 t) (pAt D classes (tysL ty) ad M (pA ad M s.heap.size)) (pA ad M s.heap.size)) ([.ref (ad (t)), .long (iL (fz)), .ref (ad (a)), .long (iL (gz)), .ref (ad (b))]).toArray s 0 0 (pA ad M s.heap.size) = Q
  obtain ⟨H, hH⟩ : ∃ H, H = s.heap := ⟨_, rfl⟩
  obtain ⟨locs, hlo⟩ : ∃ z : List Loc, z = [] := ⟨_, rfl⟩
  have hw : pw D classes (tysL ty) ad M F (pA ad M s.heap.size) s H locs := by rw [hH, hlo]; exact hw
  have hgo : W p l e ({ frames := 2, cells := 0, slots := 0, locals := 46 } : Room) s m ([.ref (ad (t)), .long (iL (fz)), .ref (ad (a)), .long (iL (gz)), .ref (ad (b))]).toArray below meth c H locs 0 0 Q (F0 m 0 ls []) := by
    obtain ⟨na, ga, ⟨hO_a, hA_a⟩, hoka⟩ := ha
    obtain ⟨nb, gb, ⟨hO_b, hA_b⟩, hokb⟩ := hb0
    obtain ⟨nt, gt, hO_t, hA_t⟩ := h
    have hna := hoka.1
    have hnb := hokb.1
    have hka := hoka.fits hva
    have hkb := hokb.fits hvb
    have hda := hoka.2.1
    have hdb := hokb.2.1
    obtain ⟨n0, hn0⟩ : ∃ z, z = max na nb := ⟨_, rfl⟩
    refine lv_aload_n hx hb d_W_becomeMix_0 rfl (lv_at hl 2 rfl) ?_
    refine pw_get (ci := 0) (C := R_W) (T := T_W) (N := 2) hx hb hq i_W hown hw (by omega) hO_a rfl 1 (by decide) (hq _ fl_W_21) (fun _ h9 => h9) rfl d_W_becomeMix_1 ?_
    refine lv_aload hx hb d_W_becomeMix_4 (lv_at hl 4 rfl) ?_
    refine pw_get (ci := 0) (C := R_W) (T := T_W) (N := 2) hx hb hq i_W hown hw (by omega) hO_b rfl 1 (by decide) (hq _ fl_W_21) (fun _ h9 => h9) rfl d_W_becomeMix_6 ?_
    refine wz_mmax (z := (n0 : Int)) hx hb (hml.trans hl.1.symm) hown (hq _ ml_W_11) (hq _ st_JM_max) (hq _ in_JM) (hq _ m_JM_max) (Nat.le_of_ble_eq_true rfl) (Nat.le_of_ble_eq_true rfl) (Nat.zero_le _) (Nat.zero_le _) (by omega) (by omega) (by omega) (by omega) (by omega) d_W_becomeMix_9 ?_
    refine lv_istore (lv' := [(7, .int (iI ((n0 : Int)))), (0, .ref (ad (t))), (1, .long (iL (fz))), (3, .ref (ad (a))), (4, .long (iL (gz))), (6, .ref (ad (b)))]) hx hb d_W_becomeMix_12 hl (by decide) rfl (fun ls hl => ?_)
    refine lv_iload hx hb d_W_becomeMix_14 (lv_at hl 0 rfl) ?_
    refine lv_aload_n hx hb d_W_becomeMix_16 rfl (lv_at hl 1 rfl) ?_
    refine pw_get (ci := 0) (C := R_W) (T := T_W) (N := 2) hx hb hq i_W hown hw (by omega) hO_t rfl 0 (by decide) (hq _ fl_W_17) (fun _ h9 => h9) rfl d_W_becomeMix_17 ?_
    refine pw_alen (v := iI ((N : Nat) : Int)) hx hb hw 0 (by omega) hA_t rfl (iI_nat _).symm d_W_becomeMix_20 ?_
    refine wz_icmp_lt (tgt := 30) hx hb d_W_becomeMix_21 (by decide) (by omega) (by omega) (by omega) (by omega) (fun c21 => ?_) (fun c21 => ?_)
    · refine lv_lconst (v := iL 0) hx hb d_W_becomeMix_30 (by decide) ?_
      refine lv_lstore (lv' := [(8, .long (iL (0))), (7, .int (iI ((n0 : Int)))), (0, .ref (ad (t))), (1, .long (iL (fz))), (3, .ref (ad (a))), (4, .long (iL (gz))), (6, .ref (ad (b)))]) hx hb d_W_becomeMix_31 hl (by decide) rfl (fun ls hl => ?_)
      refine wz_iconst (n := 0) hx hb d_W_becomeMix_33 ?_
      refine lv_istore (lv' := [(10, .int (iI (0))), (8, .long (iL (0))), (7, .int (iI ((n0 : Int)))), (0, .ref (ad (t))), (1, .long (iL (fz))), (3, .ref (ad (a))), (4, .long (iL (gz))), (6, .ref (ad (b)))]) hx hb d_W_becomeMix_34 hl (by decide) rfl (fun ls hl => ?_)
      have K36 : ∀ (fuel : Nat) (i : Nat) (cy : Int) (gx : Nat → Int32) (F36 : Nat → va_E) (H : Heap) (locs : List Loc) (ls : Array Slot), n0 - i < fuel → (i ≤ n0) → ((bv 2147483648 (dl gx) i : Int) + cy * 2147483648 ^ i = fz * (bv 2147483648 (lm (dl ga) na) i : Int) + gz * (bv 2147483648 (lm (dl gb) nb) i : Int)) → (-4294967296 ≤ cy ∧ cy ≤ 4294967296) → (∀ j, j < i → dl gx j < 2147483648) → (fr2 F F36 t) → F36 (t) = .inr (0, [.ref (ad (t + 1)), .int (iI ((nt : Int)))]) → F36 (t + 1) = .inl (ty 0, N, .inl (gx)) → F36 (a) = .inr (0, [.ref (ad (a + 1)), .int (iI ((na : Int)))]) → F36 (a + 1) = .inl (ty 0, Na, .inl (ga)) → F36 (b) = .inr (0, [.ref (ad (b + 1)), .int (iI ((nb : Int)))]) → F36 (b + 1) = .inl (ty 0, Nb, .inl (gb)) → pw D classes (tysL ty) ad M F36 (pA ad M s.heap.size) s H locs → lv_has ls 15 [(10, .int (iI ((i : Int)))), (8, .long (iL (cy))), (7, .int (iI ((n0 : Int)))), (0, .ref (ad (t))), (1, .long (iL (fz))), (3, .ref (ad (a))), (4, .long (iL (gz))), (6, .ref (ad (b)))] → W p l e ({ frames := 2, cells := 0, slots := 0, locals := 46 } : Room) s m ([.ref (ad (t)), .long (iL (fz)), .ref (ad (a)), .long (iL (gz)), .ref (ad (b))]).toArray below meth c H locs 0 0 Q (F0 m 36 ls []) := by
        intro fuel
        induction fuel with
        | zero => intro i cy gx F36 H locs ls hfuel hi hinv hc hdig hfr hO_t hA_t hO_a hA_a hO_b hA_b hw hl; exact absurd hfuel (Nat.not_lt_zero _)
        | succ fuel ih36 =>
          intro i cy gx F36 H locs ls hfuel hi hinv hc hdig hfr hO_t hA_t hO_a hA_a hO_b hA_b hw hl
          refine lv_iload hx hb d_W_becomeMix_36 (lv_at hl 0 rfl) ?_
          refine lv_iload hx hb d_W_becomeMix_38 (lv_at hl 2 rfl) ?_
          refine wz_icmp_ge (tgt := 133) hx hb d_W_becomeMix_40 (by decide) (by omega) (by omega) (by omega) (by omega) (fun c40 => ?_) (fun c40 => ?_)
          · have hin : n0 = i := by omega
            subst hin
            rw [bv_lm (by omega), bv_lm (by omega), hoka.2.2.2, hokb.2.2.2, hr0] at hinv
            have hfitr : vr < 2147483648 ^ (n0 + 1) := mx_fit hr0 (Nat.lt_of_lt_of_le hoka.lt (Nat.pow_le_pow_right (by decide) (by omega))) (Nat.lt_of_lt_of_le hokb.lt (Nat.pow_le_pow_right (by decide) (by omega))) hf.2 hg.2 hs
            have hcy := mx_carry hinv (bv_lt hdig) hfitr
            refine lv_aload_n hx hb d_W_becomeMix_133 rfl (lv_at hl 3 rfl) ?_
            refine pw_get (ci := 0) (C := R_W) (T := T_W) (N := 2) hx hb hq i_W hown hw (by omega) hO_t rfl 0 (by decide) (hq _ fl_W_17) (fun _ h9 => h9) rfl d_W_becomeMix_134 ?_
            refine lv_iload hx hb d_W_becomeMix_137 (lv_at hl 2 rfl) ?_
            refine lv_lload hx hb d_W_becomeMix_139 (lv_at hl 1 rfl) ?_
            refine lv_ldc2 (v := iL (2147483647)) hx hb hown (hq _ cj_W_43) d_W_becomeMix_141 ?_
            refine lv_land hx hb d_W_becomeMix_144 ?_
            refine lv_topl (fun x144 ex144 => ?_)
            obtain rfl : x144 = iL ((cy.toNat : Int)) := ex144.trans ((iL_m31 _).trans (congrArg iL (by omega)))
            refine wz_l2i hx hb d_W_becomeMix_145 ?_
            refine pw_iast (k := n0) hx hb hw 0 (by omega) hA_t rfl (iI_in (by omega) (by omega) (by omega)) ((iI_cl (by omega) (by omega)).trans (by omega)) d_W_becomeMix_146 (fun F146 H locs eF146 hw => ?_)
            obtain ⟨gz2, egz2⟩ : ∃ z, z = upd gx (n0) (iI ((cy.toNat : Int))) := ⟨_, rfl⟩
            rw [← egz2] at eF146
            have m146_t1 : F146 (t + 1) = .inl (ty 0, N, .inl (gz2)) := by rw [eF146]; exact va_up_self ..
            have hO_t_at_146 : F146 (t) = .inr (0, [.ref (ad (t + 1)), .int (iI ((nt : Int)))]) := (show F146 (t) = F36 (t) from by rw [eF146]; exact va_up_ne _ _ (by omega)).trans hO_t
            have hO_a_at_146 : F146 (a) = .inr (0, [.ref (ad (a + 1)), .int (iI ((na : Int)))]) := (show F146 (a) = F36 (a) from by rw [eF146]; exact va_up_ne _ _ (by omega)).trans hO_a
            have hA_a_at_146 : F146 (a + 1) = .inl (ty 0, Na, .inl (ga)) := (show F146 (a + 1) = F36 (a + 1) from by rw [eF146]; exact va_up_ne _ _ (by omega)).trans hA_a
            have hO_b_at_146 : F146 (b) = .inr (0, [.ref (ad (b + 1)), .int (iI ((nb : Int)))]) := (show F146 (b) = F36 (b) from by rw [eF146]; exact va_up_ne _ _ (by omega)).trans hO_b
            have hA_b_at_146 : F146 (b + 1) = .inl (ty 0, Nb, .inl (gb)) := (show F146 (b + 1) = F36 (b + 1) from by rw [eF146]; exact va_up_ne _ _ (by omega)).trans hA_b
            have hdz : dl gz2 n0 = cy.toNat := by rw [egz2]; exact dl_us (by omega)
            have hdz2 : ∀ k, k < n0 → dl gz2 k = dl gx k := fun k hk => by rw [egz2]; exact dl_un (by omega)
            have hval : bv 2147483648 (dl gz2) (n0 + 1) = vr := by
              rw [bv_s, bv_congr hdz2, hdz]
              have e0 : ((2147483648 ^ n0 : Nat) : Int) = (2147483648 : Int) ^ n0 := by simp
              have e1 : ((cy.toNat * 2147483648 ^ n0 : Nat) : Int) = cy * 2147483648 ^ n0 := by rw [Int.natCast_mul, e0, Int.toNat_of_nonneg hcy.1]
              omega
            have hdg : ∀ j, j < n0 + 1 → dl gz2 j < 2147483648 := fun j hj => by
              rcases Nat.lt_or_ge j n0 with h2 | h2
              · rw [hdz2 j h2]; exact hdig j h2
              · rw [show j = n0 by omega, hdz]; omega
            refine lv_aload_n hx hb d_W_becomeMix_147 rfl (lv_at hl 3 rfl) ?_
            refine lv_iload hx hb d_W_becomeMix_148 (lv_at hl 2 rfl) ?_
            refine wz_iconst (n := 1) hx hb d_W_becomeMix_150 ?_
            refine wz_iadd (z := ((n0 + 1 : Nat) : Int)) hx hb d_W_becomeMix_151 (by omega) ?_
            refine pw_callv hw (va_runV (As := [.int (iI (((n0 + 1 : Nat) : Int)))]) (rest := []) ⟨hx, hb, hml, hown, hq⟩ (c_W_trim l D ty ad M F146 H.size t N (n0 + 1) nt gz2 hMt hN (by omega) hO_t_at_146 m146_t1) (cwV 1 hq (gV ml_W_48 im_W_trim se_W_trim in_W m_W_trim) rfl rfl rfl (by decide +kernel) ⟨Nat.le_of_ble_eq_true rfl, Nat.le_of_ble_eq_true rfl⟩) (pw_preV hw (by omega) hO_t_at_146 rfl) rfl rfl hl.1 rfl (lv_room (Nat.le_of_ble_eq_true rfl)) d_W_becomeMix_152 ⟨Nat.le_of_ble_eq_true rfl, Nat.le_of_ble_eq_true rfl⟩) (fun F152 H locs q152 hw => ?_)
            obtain ⟨k, hk1, hk2, hk3, eF152⟩ := q152
            have hO_a_at_152 : F152 (a) = .inr (0, [.ref (ad (a + 1)), .int (iI ((na : Int)))]) := (show F152 (a) = F146 (a) from by rw [eF152]; exact va_up_ne _ _ (by omega)).trans hO_a_at_146
            have hA_a_at_152 : F152 (a + 1) = .inl (ty 0, Na, .inl (ga)) := (show F152 (a + 1) = F146 (a + 1) from by rw [eF152]; exact va_up_ne _ _ (by omega)).trans hA_a_at_146
            have hO_b_at_152 : F152 (b) = .inr (0, [.ref (ad (b + 1)), .int (iI ((nb : Int)))]) := (show F152 (b) = F146 (b) from by rw [eF152]; exact va_up_ne _ _ (by omega)).trans hO_b_at_146
            have hA_b_at_152 : F152 (b + 1) = .inl (ty 0, Nb, .inl (gb)) := (show F152 (b + 1) = F146 (b + 1) from by rw [eF152]; exact va_up_ne _ _ (by omega)).trans hA_b_at_146
            have m146_t1_at_152 : F152 (t + 1) = .inl (ty 0, N, .inl (gz2)) := (show F152 (t + 1) = F146 (t + 1) from by rw [eF152]; exact va_up_ne _ _ (by omega)).trans m146_t1
            rw [← hQ]
            exact pw_vret hx hb hr hlocks hw (⟨⟨k, gz2, ⟨by rw [eF152]; exact va_up_self .., m146_t1_at_152⟩, by rw [← hval]; exact Wok.trim (by omega) hk1 hdg hk2 hk3⟩, fun y h1 h2 => by rw [eF152, va_up_ne _ _ h1, eF146, va_up_ne _ _ h2]; exact hfr y h1 h2⟩) d_W_becomeMix_155
          · have K87 : ∀ (x1 x2 : Nat) (ls : Array Slot), (x1 = lm (dl ga) na i) → (x2 = lm (dl gb) nb i) → lv_has ls 15 [(11, .int (iI ((x1 : Int)))), (10, .int (iI ((i : Int)))), (8, .long (iL (cy))), (7, .int (iI ((n0 : Int)))), (0, .ref (ad (t))), (1, .long (iL (fz))), (3, .ref (ad (a))), (4, .long (iL (gz))), (6, .ref (ad (b)))] → W p l e ({ frames := 2, cells := 0, slots := 0, locals := 46 } : Room) s m ([.ref (ad (t)), .long (iL (fz)), .ref (ad (a)), .long (iL (gz)), .ref (ad (b))]).toArray below meth c H locs 0 0 Q (F0 m 87 ls [.int (iI ((x2 : Int)))]) := by
              intro x1 x2 ls hx1 hx2 hl
              have hl1 : x1 < 2147483648 := by rw [hx1]; exact lm_lt (by decide) hda i
              have hl2 : x2 < 2147483648 := by rw [hx2]; exact lm_lt (by decide) hdb i
              obtain ⟨S, hS⟩ : ∃ S : Int, S = fz * (x1 : Int) + gz * (x2 : Int) + cy := ⟨_, rfl⟩
              have hSb := mx_bound (x := x1) (y := x2) hf hg (by omega) (by omega) hc
              rw [← hS] at hSb
              refine lv_istore (lv' := [(12, .int (iI ((x2 : Int)))), (11, .int (iI ((x1 : Int)))), (10, .int (iI ((i : Int)))), (8, .long (iL (cy))), (7, .int (iI ((n0 : Int)))), (0, .ref (ad (t))), (1, .long (iL (fz))), (3, .ref (ad (a))), (4, .long (iL (gz))), (6, .ref (ad (b)))]) hx hb d_W_becomeMix_87 hl (by decide) rfl (fun ls hl => ?_)
              refine lv_lload_n hx hb d_W_becomeMix_89 rfl (lv_at hl 6 rfl) ?_
              refine lv_iload hx hb d_W_becomeMix_90 (lv_at hl 1 rfl) ?_
              refine wz_i2l hx hb d_W_becomeMix_92 (by omega) (by omega) ?_
              refine wz_lmul hx hb d_W_becomeMix_93 rfl ?_
              refine lv_lload hx hb d_W_becomeMix_94 (lv_at hl 8 rfl) ?_
              refine lv_iload hx hb d_W_becomeMix_96 (lv_at hl 0 rfl) ?_
              refine wz_i2l hx hb d_W_becomeMix_98 (by omega) (by omega) ?_
              refine wz_lmul hx hb d_W_becomeMix_99 rfl ?_
              refine wz_ladd hx hb d_W_becomeMix_100 rfl ?_
              refine lv_lload hx hb d_W_becomeMix_101 (lv_at hl 3 rfl) ?_
              refine wz_ladd (z := S) hx hb d_W_becomeMix_103 (hS.symm) ?_
              refine lv_lstore (lv' := [(13, .long (iL (S))), (12, .int (iI ((x2 : Int)))), (11, .int (iI ((x1 : Int)))), (10, .int (iI ((i : Int)))), (8, .long (iL (cy))), (7, .int (iI ((n0 : Int)))), (0, .ref (ad (t))), (1, .long (iL (fz))), (3, .ref (ad (a))), (4, .long (iL (gz))), (6, .ref (ad (b)))]) hx hb d_W_becomeMix_104 hl (by decide) rfl (fun ls hl => ?_)
              refine lv_aload_n hx hb d_W_becomeMix_106 rfl (lv_at hl 6 rfl) ?_
              refine pw_get (ci := 0) (C := R_W) (T := T_W) (N := 2) hx hb hq i_W hown hw (by omega) hO_t rfl 0 (by decide) (hq _ fl_W_17) (fun _ h9 => h9) rfl d_W_becomeMix_107 ?_
              refine lv_iload hx hb d_W_becomeMix_110 (lv_at hl 3 rfl) ?_
              refine lv_lload hx hb d_W_becomeMix_112 (lv_at hl 0 rfl) ?_
              refine lv_ldc2 (v := iL (2147483647)) hx hb hown (hq _ cj_W_43) d_W_becomeMix_114 ?_
              refine lv_land hx hb d_W_becomeMix_117 ?_
              refine lv_topl (fun x117 ex117 => ?_)
              obtain rfl : x117 = iL (((S % 2147483648).toNat : Int)) := ex117.trans ((iL_m31 _).trans (congrArg iL (by omega)))
              refine wz_l2i hx hb d_W_becomeMix_118 ?_
              refine pw_iast (k := i) hx hb hw 0 (by omega) hA_t rfl (iI_in (by omega) (by omega) (by omega)) ((iI_cl (by omega) (by omega)).trans (by omega)) d_W_becomeMix_119 (fun F119 H locs eF119 hw => ?_)
              obtain ⟨gy, egy⟩ : ∃ z, z = upd gx (i) (iI (((S % 2147483648).toNat : Int))) := ⟨_, rfl⟩
              rw [← egy] at eF119
              have m119_t1 : F119 (t + 1) = .inl (ty 0, N, .inl (gy)) := by rw [eF119]; exact va_up_self ..
              have hO_t_at_119 : F119 (t) = .inr (0, [.ref (ad (t + 1)), .int (iI ((nt : Int)))]) := (show F119 (t) = F36 (t) from by rw [eF119]; exact va_up_ne _ _ (by omega)).trans hO_t
              have hO_a_at_119 : F119 (a) = .inr (0, [.ref (ad (a + 1)), .int (iI ((na : Int)))]) := (show F119 (a) = F36 (a) from by rw [eF119]; exact va_up_ne _ _ (by omega)).trans hO_a
              have hA_a_at_119 : F119 (a + 1) = .inl (ty 0, Na, .inl (ga)) := (show F119 (a + 1) = F36 (a + 1) from by rw [eF119]; exact va_up_ne _ _ (by omega)).trans hA_a
              have hO_b_at_119 : F119 (b) = .inr (0, [.ref (ad (b + 1)), .int (iI ((nb : Int)))]) := (show F119 (b) = F36 (b) from by rw [eF119]; exact va_up_ne _ _ (by omega)).trans hO_b
              have hA_b_at_119 : F119 (b + 1) = .inl (ty 0, Nb, .inl (gb)) := (show F119 (b + 1) = F36 (b + 1) from by rw [eF119]; exact va_up_ne _ _ (by omega)).trans hA_b
              have hdy : dl gy i = (S % 2147483648).toNat := by rw [egy]; exact dl_us (by omega)
              refine lv_lload hx hb d_W_becomeMix_120 (lv_at hl 0 rfl) ?_
              refine wz_bipush (n := 31) hx hb d_W_becomeMix_122 (by decide) ?_
              refine lv_lshr (v := iL (S / 2147483648)) hx hb d_W_becomeMix_124 (iL_shr (k := 31) (by decide) hSb.1 hSb.2) ?_
              refine lv_lstore (lv' := [(8, .long (iL (S / 2147483648))), (13, .long (iL (S))), (12, .int (iI ((x2 : Int)))), (11, .int (iI ((x1 : Int)))), (10, .int (iI ((i : Int)))), (7, .int (iI ((n0 : Int)))), (0, .ref (ad (t))), (1, .long (iL (fz))), (3, .ref (ad (a))), (4, .long (iL (gz))), (6, .ref (ad (b)))]) hx hb d_W_becomeMix_125 hl (by decide) rfl (fun ls hl => ?_)
              refine wz_iinc (z := ((i + 1 : Nat) : Int)) (lv' := [(10, .int (iI (((i + 1 : Nat) : Int)))), (8, .long (iL (S / 2147483648))), (13, .long (iL (S))), (12, .int (iI ((x2 : Int)))), (11, .int (iI ((x1 : Int)))), (7, .int (iI ((n0 : Int)))), (0, .ref (ad (t))), (1, .long (iL (fz))), (3, .ref (ad (a))), (4, .long (iL (gz))), (6, .ref (ad (b)))]) hx hb d_W_becomeMix_127 hl (k := 4) rfl (by omega) (by decide) rfl (fun ls hl => ?_)
              refine lv_goto (tgt := 36) hx hb d_W_becomeMix_130 (by decide) ?_
              exact ih36 (i + 1) (S / 2147483648) gy _ _ _ ls (by omega) (by omega) (mx_step hinv (by rw [hS, hx1, hx2]) (by rw [hdy]; omega) (fun k hk => by rw [egy]; exact dl_un (by omega))) (by omega) (fun k h1 => by
                rcases Nat.lt_or_ge k i with h2 | h2
                · rw [egy, dl_un (by omega)]; exact hdig k h2
                · rw [show k = i by omega, hdy]; omega) (fun y h1 h2 => by rw [eF119, va_up_ne _ _ h2]; exact hfr y h1 h2) hO_t_at_119 m119_t1 hO_a_at_119 hA_a_at_119 hO_b_at_119 hA_b_at_119 hw (lv_sub hl [0, 1, 5, 6, 7, 8, 9, 10] rfl)
            have K63 : ∀ (x1 : Nat) (ls : Array Slot), (x1 = lm (dl ga) na i) → lv_has ls 15 [(10, .int (iI ((i : Int)))), (8, .long (iL (cy))), (7, .int (iI ((n0 : Int)))), (0, .ref (ad (t))), (1, .long (iL (fz))), (3, .ref (ad (a))), (4, .long (iL (gz))), (6, .ref (ad (b)))] → W p l e ({ frames := 2, cells := 0, slots := 0, locals := 46 } : Room) s m ([.ref (ad (t)), .long (iL (fz)), .ref (ad (a)), .long (iL (gz)), .ref (ad (b))]).toArray below meth c H locs 0 0 Q (F0 m 63 ls [.int (iI ((x1 : Int)))]) := by
              intro x1 ls hx1 hl
              refine lv_istore (lv' := [(11, .int (iI ((x1 : Int)))), (10, .int (iI ((i : Int)))), (8, .long (iL (cy))), (7, .int (iI ((n0 : Int)))), (0, .ref (ad (t))), (1, .long (iL (fz))), (3, .ref (ad (a))), (4, .long (iL (gz))), (6, .ref (ad (b)))]) hx hb d_W_becomeMix_63 hl (by decide) rfl (fun ls hl => ?_)
              refine lv_iload hx hb d_W_becomeMix_65 (lv_at hl 1 rfl) ?_
              refine lv_aload hx hb d_W_becomeMix_67 (lv_at hl 8 rfl) ?_
              refine pw_get (ci := 0) (C := R_W) (T := T_W) (N := 2) hx hb hq i_W hown hw (by omega) hO_b rfl 1 (by decide) (hq _ fl_W_21) (fun _ h9 => h9) rfl d_W_becomeMix_69 ?_
              refine wz_icmp_ge (tgt := 86) hx hb d_W_becomeMix_72 (by decide) (by omega) (by omega) (by omega) (by omega) (fun c72 => ?_) (fun c72 => ?_)
              · refine wz_iconst (n := 0) hx hb d_W_becomeMix_86 ?_
                exact K87 x1 0 ls (hx1) (by unfold lm; rw [if_neg (by omega)]) hl
              · refine lv_aload hx hb d_W_becomeMix_75 (lv_at hl 8 rfl) ?_
                refine pw_get (ci := 0) (C := R_W) (T := T_W) (N := 2) hx hb hq i_W hown hw (by omega) hO_b rfl 0 (by decide) (hq _ fl_W_17) (fun _ h9 => h9) rfl d_W_becomeMix_77 ?_
                refine lv_iload hx hb d_W_becomeMix_80 (lv_at hl 1 rfl) ?_
                refine pw_iald (k := i) hx hb hw 0 (by omega) hA_b rfl (iI_in (by omega) (by omega) (by omega)) ((iI_cl (by omega) (by omega)).trans (by omega)) d_W_becomeMix_82 ?_
                refine lv_topi (fun x82 ex82 => ?_)
                obtain rfl : x82 = iI ((dl gb i : Int)) := ex82.trans (dl_get (hdb i (by omega)))
                refine lv_goto (tgt := 87) hx hb d_W_becomeMix_83 (by decide) ?_
                exact K87 x1 (dl gb i) ls (hx1) (by unfold lm; rw [if_pos (by omega)]) hl
            refine lv_iload hx hb d_W_becomeMix_43 (lv_at hl 0 rfl) ?_
            refine lv_aload_n hx hb d_W_becomeMix_45 rfl (lv_at hl 5 rfl) ?_
            refine pw_get (ci := 0) (C := R_W) (T := T_W) (N := 2) hx hb hq i_W hown hw (by omega) hO_a rfl 1 (by decide) (hq _ fl_W_21) (fun _ h9 => h9) rfl d_W_becomeMix_46 ?_
            refine wz_icmp_ge (tgt := 62) hx hb d_W_becomeMix_49 (by decide) (by omega) (by omega) (by omega) (by omega) (fun c49 => ?_) (fun c49 => ?_)
            · refine wz_iconst (n := 0) hx hb d_W_becomeMix_62 ?_
              exact K63 0 ls (by unfold lm; rw [if_neg (by omega)]) hl
            · refine lv_aload_n hx hb d_W_becomeMix_52 rfl (lv_at hl 5 rfl) ?_
              refine pw_get (ci := 0) (C := R_W) (T := T_W) (N := 2) hx hb hq i_W hown hw (by omega) hO_a rfl 0 (by decide) (hq _ fl_W_17) (fun _ h9 => h9) rfl d_W_becomeMix_53 ?_
              refine lv_iload hx hb d_W_becomeMix_56 (lv_at hl 0 rfl) ?_
              refine pw_iald (k := i) hx hb hw 0 (by omega) hA_a rfl (iI_in (by omega) (by omega) (by omega)) ((iI_cl (by omega) (by omega)).trans (by omega)) d_W_becomeMix_58 ?_
              refine lv_topi (fun x58 ex58 => ?_)
              obtain rfl : x58 = iI ((dl ga i : Int)) := ex58.trans (dl_get (hda i (by omega)))
              refine lv_goto (tgt := 63) hx hb d_W_becomeMix_59 (by decide) ?_
              exact K63 (dl ga i) ls (by unfold lm; rw [if_pos (by omega)]) hl
      exact K36 _ 0 0 gt _ _ _ ls (Nat.lt_succ_self _) (Nat.zero_le _) (by simp [bv_0]) (by omega) (fun j h1 => absurd h1 (by omega)) (fun _ _ _ => rfl) hO_t hA_t hO_a hA_a hO_b hA_b hw hl
    · exact absurd c21 (by omega)
  rw [hH, hlo] at hgo
  exact hgo
set_option maxHeartbeats 4000000 in
set_option maxRecDepth 100000 in
/-- Whole.becomeMix(f, a, g, b), this being b -/
theorem c_W_becomeMix2 (l : Launch) (D : va_G) (ty : Nat → ClassId) (ad : Nat → Nat) (M : Nat) (F : Nat → va_E) (sz : Nat) (t a N Na va vb vr : Nat) (fz gz : Int) (hMt : t + 1 < M) (hMa : a + 1 < M) (hN : N < 1000) (hNa : Na < 1000) (hta : a ≠ t ∧ a ≠ t + 1 ∧ a + 1 ≠ t) (hf : -2147483648 < fz ∧ fz < 2147483648) (hg : -2147483648 < gz ∧ gz < 2147483648) (hs : fz ≤ 0 ∨ gz ≤ 0 ∨ (fz = 1 ∧ gz = 1)) (hr0 : fz * va + gz * vb = vr) (hva : va < 2147483648 ^ (N - 1)) (hvb : vb < 2147483648 ^ (N - 1)) (hN0 : 0 < N) (ha : Wv ty ad F a Na va) (hb0 : Wv ty ad F t N vb) :
    CV l y_W_becomeMix w_W_becomeMix ({ frames := 2, cells := 0, slots := 0, locals := 46 } : Room) [.ref (ad (t)), .long (iL (fz)), .ref (ad (a)), .long (iL (gz)), .ref (ad (t))] D ty ad M F sz (fun F1 => Wv ty ad F1 t N vr ∧ fr2 F F1 t) := by
  refine Met.ofW (cc := b_W_becomeMix) (maxL := 15) (ret := none) (by decide) rfl ?_
  intro p e s m args below meth c s₁ B hml hv
  obtain ⟨rfl, hsz, hP, hK, hD0⟩ := hv
  have hx := B.exec
  have hb := B.bytes
  have hr := B.returns
  have hts := atoms_spec (ws := w_W_becomeMix) B.pre
  have hq : ∀ w ∈ wT, w.before _ s = true := fun w h => hts w (List.mem_cons_of_mem _ h)
  have hown : s.vm.findClass R_W = some m.cls := findClass_of_methodNamed B.named
  have hlocks := B.notSynchronized
  subst hsz
  have hw := pw_start hP hK hD0
  have hl := lv_entry ([.ref (ad (t)), .long (iL (fz)), .ref (ad (a)), .long (iL (gz)), .ref (ad (t))]) (n := 15) (Nat.le_of_ble_eq_true rfl)
  rw [lg_entry_eq]
  generalize (lg_sl ([.ref (ad (t)), .long (iL (fz)), .ref (ad (a)), .long (iL (gz)), .ref (ad (t))]) ++ List.replicate (15 - (lg_sl ([.ref (ad (t)), .long (iL (fz)), .ref (ad (a)), .long (iL (gz)), .ref (ad (t))])).length) Slot.unset).toArray = ls at hl ⊢
  have hl : lv_has ls 15 [(0, .ref (ad (t))), (1, .long (iL (fz))), (3, .ref (ad (a))), (4, .long (iL (gz))), (6, .ref (ad (t)))] := hl
  change W p l e ({ frames := 2, cells := 0, slots := 0, locals := 46 } : Room) s m ([.ref (ad (t)), .long (iL (fz)), .ref (ad (a)), .long (iL (gz)), .ref (ad (t))]).toArray below meth c s.heap [] 0 0 (MQ below (va_Qv (fun F1 => Wv ty ad F1 t N vr ∧ fr2 F F1 t) (pAt D classes (tysL ty) ad M (pA ad M s.heap.size)) (pA ad M s.heap.size)) ([.ref (ad (t)), .long (iL (fz)), .ref (ad (a)), .long (iL (gz)), .ref (ad (t))]).toArray s 0 0 (pA ad M s.heap.size)) (F0 m 0 ls [])
  generalize hQ : MQ below (va_Qv (fun F1 => Wv ty ad F1 t N vr ∧ fr2 F F1 t) (pAt D classes (tysL ty) ad M (pA ad M s.heap.size)) (pA ad M s.heap.size)) ([.ref (ad (t)), .long (iL (fz)), .ref (ad (a)), .long (iL (gz)), .ref (ad (t))]).toArray s 0 0 (pA ad M s.heap.size) = Q
  obtain ⟨H, hH⟩ : ∃ H, H = s.heap := ⟨_, rfl⟩
  obtain ⟨locs, hlo⟩ : ∃ z : List Loc, z = [] := ⟨_, rfl⟩
  have hw : pw D classes (tysL ty) ad M F (pA ad M s.heap.size) s H locs := by rw [hH, hlo]; exact hw
  have hgo : W p l e ({ frames := 2, cells := 0, slots := 0, locals := 46 } : Room) s m ([.ref (ad (t)), .long (iL (fz)), .ref (ad (a)), .long (iL (gz)), .ref (ad (t))]).toArray below meth c H locs 0 0 Q (F0 m 0 ls []) := by
    obtain ⟨na, ga, ⟨hO_a, hA_a⟩, hoka⟩ := ha
    obtain ⟨nt, gt, ⟨hO_t, hA_t⟩, hokb⟩ := hb0
    have hna := hoka.1
    have hnb := hokb.1
    have hka := hoka.fits hva
    have hkb := hokb.fits hvb
    have hda := hoka.2.1
    have hdb := hokb.2.1
    obtain ⟨n0, hn0⟩ : ∃ z, z = max na nt := ⟨_, rfl⟩
    refine lv_aload_n hx hb d_W_becomeMix_0 rfl (lv_at hl 2 rfl) ?_
    refine pw_get (ci := 0) (C := R_W) (T := T_W) (N := 2) hx hb hq i_W hown hw (by omega) hO_a rfl 1 (by decide) (hq _ fl_W_21) (fun _ h9 => h9) rfl d_W_becomeMix_1 ?_
    refine lv_aload hx hb d_W_becomeMix_4 (lv_at hl 4 rfl) ?_
    refine pw_get (ci := 0) (C := R_W) (T := T_W) (N := 2) hx hb hq i_W hown hw (by omega) hO_t rfl 1 (by decide) (hq _ fl_W_21) (fun _ h9 => h9) rfl d_W_becomeMix_6 ?_
    refine wz_mmax (z := (n0 : Int)) hx hb (hml.trans hl.1.symm) hown (hq _ ml_W_11) (hq _ st_JM_max) (hq _ in_JM) (hq _ m_JM_max) (Nat.le_of_ble_eq_true rfl) (Nat.le_of_ble_eq_true rfl) (Nat.zero_le _) (Nat.zero_le _) (by omega) (by omega) (by omega) (by omega) (by omega) d_W_becomeMix_9 ?_
    refine lv_istore (lv' := [(7, .int (iI ((n0 : Int)))), (0, .ref (ad (t))), (1, .long (iL (fz))), (3, .ref (ad (a))), (4, .long (iL (gz))), (6, .ref (ad (t)))]) hx hb d_W_becomeMix_12 hl (by decide) rfl (fun ls hl => ?_)
    refine lv_iload hx hb d_W_becomeMix_14 (lv_at hl 0 rfl) ?_
    refine lv_aload_n hx hb d_W_becomeMix_16 rfl (lv_at hl 1 rfl) ?_
    refine pw_get (ci := 0) (C := R_W) (T := T_W) (N := 2) hx hb hq i_W hown hw (by omega) hO_t rfl 0 (by decide) (hq _ fl_W_17) (fun _ h9 => h9) rfl d_W_becomeMix_17 ?_
    refine pw_alen (v := iI ((N : Nat) : Int)) hx hb hw 0 (by omega) hA_t rfl (iI_nat _).symm d_W_becomeMix_20 ?_
    refine wz_icmp_lt (tgt := 30) hx hb d_W_becomeMix_21 (by decide) (by omega) (by omega) (by omega) (by omega) (fun c21 => ?_) (fun c21 => ?_)
    · refine lv_lconst (v := iL 0) hx hb d_W_becomeMix_30 (by decide) ?_
      refine lv_lstore (lv' := [(8, .long (iL (0))), (7, .int (iI ((n0 : Int)))), (0, .ref (ad (t))), (1, .long (iL (fz))), (3, .ref (ad (a))), (4, .long (iL (gz))), (6, .ref (ad (t)))]) hx hb d_W_becomeMix_31 hl (by decide) rfl (fun ls hl => ?_)
      refine wz_iconst (n := 0) hx hb d_W_becomeMix_33 ?_
      refine lv_istore (lv' := [(10, .int (iI (0))), (8, .long (iL (0))), (7, .int (iI ((n0 : Int)))), (0, .ref (ad (t))), (1, .long (iL (fz))), (3, .ref (ad (a))), (4, .long (iL (gz))), (6, .ref (ad (t)))]) hx hb d_W_becomeMix_34 hl (by decide) rfl (fun ls hl => ?_)
      have K36 : ∀ (fuel : Nat) (i : Nat) (cy : Int) (gx : Nat → Int32) (F36 : Nat → va_E) (H : Heap) (locs : List Loc) (ls : Array Slot), n0 - i < fuel → (i ≤ n0) → ((bv 2147483648 (dl gx) i : Int) + cy * 2147483648 ^ i = fz * (bv 2147483648 (lm (dl ga) na) i : Int) + gz * (bv 2147483648 (lm (dl gt) nt) i : Int)) → (-4294967296 ≤ cy ∧ cy ≤ 4294967296) → (∀ j, j < i → dl gx j < 2147483648) → (∀ j, i ≤ j → gx j = gt j) → (fr2 F F36 t) → F36 (t) = .inr (0, [.ref (ad (t + 1)), .int (iI ((nt : Int)))]) → F36 (t + 1) = .inl (ty 0, N, .inl (gx)) → F36 (a) = .inr (0, [.ref (ad (a + 1)), .int (iI ((na : Int)))]) → F36 (a + 1) = .inl (ty 0, Na, .inl (ga)) → pw D classes (tysL ty) ad M F36 (pA ad M s.heap.size) s H locs → lv_has ls 15 [(10, .int (iI ((i : Int)))), (8, .long (iL (cy))), (7, .int (iI ((n0 : Int)))), (0, .ref (ad (t))), (1, .long (iL (fz))), (3, .ref (ad (a))), (4, .long (iL (gz))), (6, .ref (ad (t)))] → W p l e ({ frames := 2, cells := 0, slots := 0, locals := 46 } : Room) s m ([.ref (ad (t)), .long (iL (fz)), .ref (ad (a)), .long (iL (gz)), .ref (ad (t))]).toArray below meth c H locs 0 0 Q (F0 m 36 ls []) := by
        intro fuel
        induction fuel with
        | zero => intro i cy gx F36 H locs ls hfuel hi hinv hc hdig hsame hfr hO_t hA_t hO_a hA_a hw hl; exact absurd hfuel (Nat.not_lt_zero _)
        | succ fuel ih36 =>
          intro i cy gx F36 H locs ls hfuel hi hinv hc hdig hsame hfr hO_t hA_t hO_a hA_a hw hl
          refine lv_iload hx hb d_W_becomeMix_36 (lv_at hl 0 rfl) ?_
          refine lv_iload hx hb d_W_becomeMix_38 (lv_at hl 2 rfl) ?_
          refine wz_icmp_ge (tgt := 133) hx hb d_W_becomeMix_40 (by decide) (by omega) (by omega) (by omega) (by omega) (fun c40 => ?_) (fun c40 => ?_)
          · have hin : n0 = i := by omega
            subst hin
            rw [bv_lm (by omega), bv_lm (by omega), hoka.2.2.2, hokb.2.2.2, hr0] at hinv
            have hfitr : vr < 2147483648 ^ (n0 + 1) := mx_fit hr0 (Nat.lt_of_lt_of_le hoka.lt (Nat.pow_le_pow_right (by decide) (by omega))) (Nat.lt_of_lt_of_le hokb.lt (Nat.pow_le_pow_right (by decide) (by omega))) hf.2 hg.2 hs
            have hcy := mx_carry hinv (bv_lt hdig) hfitr
            refine lv_aload_n hx hb d_W_becomeMix_133 rfl (lv_at hl 3 rfl) ?_
            refine pw_get (ci := 0) (C := R_W) (T := T_W) (N := 2) hx hb hq i_W hown hw (by omega) hO_t rfl 0 (by decide) (hq _ fl_W_17) (fun _ h9 => h9) rfl d_W_becomeMix_134 ?_
            refine lv_iload hx hb d_W_becomeMix_137 (lv_at hl 2 rfl) ?_
            refine lv_lload hx hb d_W_becomeMix_139 (lv_at hl 1 rfl) ?_
            refine lv_ldc2 (v := iL (2147483647)) hx hb hown (hq _ cj_W_43) d_W_becomeMix_141 ?_
            refine lv_land hx hb d_W_becomeMix_144 ?_
            refine lv_topl (fun x144 ex144 => ?_)
            obtain rfl : x144 = iL ((cy.toNat : Int)) := ex144.trans ((iL_m31 _).trans (congrArg iL (by omega)))
            refine wz_l2i hx hb d_W_becomeMix_145 ?_
            refine pw_iast (k := n0) hx hb hw 0 (by omega) hA_t rfl (iI_in (by omega) (by omega) (by omega)) ((iI_cl (by omega) (by omega)).trans (by omega)) d_W_becomeMix_146 (fun F146 H locs eF146 hw => ?_)
            obtain ⟨gz2, egz2⟩ : ∃ z, z = upd gx (n0) (iI ((cy.toNat : Int))) := ⟨_, rfl⟩
            rw [← egz2] at eF146
            have m146_t1 : F146 (t + 1) = .inl (ty 0, N, .inl (gz2)) := by rw [eF146]; exact va_up_self ..
            have hO_t_at_146 : F146 (t) = .inr (0, [.ref (ad (t + 1)), .int (iI ((nt : Int)))]) := (show F146 (t) = F36 (t) from by rw [eF146]; exact va_up_ne _ _ (by omega)).trans hO_t
            have hO_a_at_146 : F146 (a) = .inr (0, [.ref (ad (a + 1)), .int (iI ((na : Int)))]) := (show F146 (a) = F36 (a) from by rw [eF146]; exact va_up_ne _ _ (by omega)).trans hO_a
            have hA_a_at_146 : F146 (a + 1) = .inl (ty 0, Na, .inl (ga)) := (show F146 (a + 1) = F36 (a + 1) from by rw [eF146]; exact va_up_ne _ _ (by omega)).trans hA_a
            have hdz : dl gz2 n0 = cy.toNat := by rw [egz2]; exact dl_us (by omega)
            have hdz2 : ∀ k, k < n0 → dl gz2 k = dl gx k := fun k hk => by rw [egz2]; exact dl_un (by omega)
            have hval : bv 2147483648 (dl gz2) (n0 + 1) = vr := by
              rw [bv_s, bv_congr hdz2, hdz]
              have e0 : ((2147483648 ^ n0 : Nat) : Int) = (2147483648 : Int) ^ n0 := by simp
              have e1 : ((cy.toNat * 2147483648 ^ n0 : Nat) : Int) = cy * 2147483648 ^ n0 := by rw [Int.natCast_mul, e0, Int.toNat_of_nonneg hcy.1]
              omega
            have hdg : ∀ j, j < n0 + 1 → dl gz2 j < 2147483648 := fun j hj => by
              rcases Nat.lt_or_ge j n0 with h2 | h2
              · rw [hdz2 j h2]; exact hdig j h2
              · rw [show j = n0 by omega, hdz]; omega
            refine lv_aload_n hx hb d_W_becomeMix_147 rfl (lv_at hl 3 rfl) ?_
            refine lv_iload hx hb d_W_becomeMix_148 (lv_at hl 2 rfl) ?_
            refine wz_iconst (n := 1) hx hb d_W_becomeMix_150 ?_
            refine wz_iadd (z := ((n0 + 1 : Nat) : Int)) hx hb d_W_becomeMix_151 (by omega) ?_
            refine pw_callv hw (va_runV (As := [.int (iI (((n0 + 1 : Nat) : Int)))]) (rest := []) ⟨hx, hb, hml, hown, hq⟩ (c_W_trim l D ty ad M F146 H.size t N (n0 + 1) nt gz2 hMt hN (by omega) hO_t_at_146 m146_t1) (cwV 1 hq (gV ml_W_48 im_W_trim se_W_trim in_W m_W_trim) rfl rfl rfl (by decide +kernel) ⟨Nat.le_of_ble_eq_true rfl, Nat.le_of_ble_eq_true rfl⟩) (pw_preV hw (by omega) hO_t_at_146 rfl) rfl rfl hl.1 rfl (lv_room (Nat.le_of_ble_eq_true rfl)) d_W_becomeMix_152 ⟨Nat.le_of_ble_eq_true rfl, Nat.le_of_ble_eq_true rfl⟩) (fun F152 H locs q152 hw => ?_)
            obtain ⟨k, hk1, hk2, hk3, eF152⟩ := q152
            have hO_a_at_152 : F152 (a) = .inr (0, [.ref (ad (a + 1)), .int (iI ((na : Int)))]) := (show F152 (a) = F146 (a) from by rw [eF152]; exact va_up_ne _ _ (by omega)).trans hO_a_at_146
            have hA_a_at_152 : F152 (a + 1) = .inl (ty 0, Na, .inl (ga)) := (show F152 (a + 1) = F146 (a + 1) from by rw [eF152]; exact va_up_ne _ _ (by omega)).trans hA_a_at_146
            have m146_t1_at_152 : F152 (t + 1) = .inl (ty 0, N, .inl (gz2)) := (show F152 (t + 1) = F146 (t + 1) from by rw [eF152]; exact va_up_ne _ _ (by omega)).trans m146_t1
            rw [← hQ]
            exact pw_vret hx hb hr hlocks hw (⟨⟨k, gz2, ⟨by rw [eF152]; exact va_up_self .., m146_t1_at_152⟩, by rw [← hval]; exact Wok.trim (by omega) hk1 hdg hk2 hk3⟩, fun y h1 h2 => by rw [eF152, va_up_ne _ _ h1, eF146, va_up_ne _ _ h2]; exact hfr y h1 h2⟩) d_W_becomeMix_155
          · have K87 : ∀ (x1 x2 : Nat) (ls : Array Slot), (x1 = lm (dl ga) na i) → (x2 = lm (dl gt) nt i) → lv_has ls 15 [(11, .int (iI ((x1 : Int)))), (10, .int (iI ((i : Int)))), (8, .long (iL (cy))), (7, .int (iI ((n0 : Int)))), (0, .ref (ad (t))), (1, .long (iL (fz))), (3, .ref (ad (a))), (4, .long (iL (gz))), (6, .ref (ad (t)))] → W p l e ({ frames := 2, cells := 0, slots := 0, locals := 46 } : Room) s m ([.ref (ad (t)), .long (iL (fz)), .ref (ad (a)), .long (iL (gz)), .ref (ad (t))]).toArray below meth c H locs 0 0 Q (F0 m 87 ls [.int (iI ((x2 : Int)))]) := by
              intro x1 x2 ls hx1 hx2 hl
              have hl1 : x1 < 2147483648 := by rw [hx1]; exact lm_lt (by decide) hda i
              have hl2 : x2 < 2147483648 := by rw [hx2]; exact lm_lt (by decide) hdb i
              obtain ⟨S, hS⟩ : ∃ S : Int, S = fz * (x1 : Int) + gz * (x2 : Int) + cy := ⟨_, rfl⟩
              have hSb := mx_bound (x := x1) (y := x2) hf hg (by omega) (by omega) hc
              rw [← hS] at hSb
              refine lv_istore (lv' := [(12, .int (iI ((x2 : Int)))), (11, .int (iI ((x1 : Int)))), (10, .int (iI ((i : Int)))), (8, .long (iL (cy))), (7, .int (iI ((n0 : Int)))), (0, .ref (ad (t))), (1, .long (iL (fz))), (3, .ref (ad (a))), (4, .long (iL (gz))), (6, .ref (ad (t)))]) hx hb d_W_becomeMix_87 hl (by decide) rfl (fun ls hl => ?_)
              refine lv_lload_n hx hb d_W_becomeMix_89 rfl (lv_at hl 6 rfl) ?_
              refine lv_iload hx hb d_W_becomeMix_90 (lv_at hl 1 rfl) ?_
              refine wz_i2l hx hb d_W_becomeMix_92 (by omega) (by omega) ?_
              refine wz_lmul hx hb d_W_becomeMix_93 rfl ?_
              refine lv_lload hx hb d_W_becomeMix_94 (lv_at hl 8 rfl) ?_
              refine lv_iload hx hb d_W_becomeMix_96 (lv_at hl 0 rfl) ?_
              refine wz_i2l hx hb d_W_becomeMix_98 (by omega) (by omega) ?_
              refine wz_lmul hx hb d_W_becomeMix_99 rfl ?_
              refine wz_ladd hx hb d_W_becomeMix_100 rfl ?_
              refine lv_lload hx hb d_W_becomeMix_101 (lv_at hl 3 rfl) ?_
              refine wz_ladd (z := S) hx hb d_W_becomeMix_103 (hS.symm) ?_
              refine lv_lstore (lv' := [(13, .long (iL (S))), (12, .int (iI ((x2 : Int)))), (11, .int (iI ((x1 : Int)))), (10, .int (iI ((i : Int)))), (8, .long (iL (cy))), (7, .int (iI ((n0 : Int)))), (0, .ref (ad (t))), (1, .long (iL (fz))), (3, .ref (ad (a))), (4, .long (iL (gz))), (6, .ref (ad (t)))]) hx hb d_W_becomeMix_104 hl (by decide) rfl (fun ls hl => ?_)
              refine lv_aload_n hx hb d_W_becomeMix_106 rfl (lv_at hl 6 rfl) ?_
              refine pw_get (ci := 0) (C := R_W) (T := T_W) (N := 2) hx hb hq i_W hown hw (by omega) hO_t rfl 0 (by decide) (hq _ fl_W_17) (fun _ h9 => h9) rfl d_W_becomeMix_107 ?_
              refine lv_iload hx hb d_W_becomeMix_110 (lv_at hl 3 rfl) ?_
              refine lv_lload hx hb d_W_becomeMix_112 (lv_at hl 0 rfl) ?_
              refine lv_ldc2 (v := iL (2147483647)) hx hb hown (hq _ cj_W_43) d_W_becomeMix_114 ?_
              refine lv_land hx hb d_W_becomeMix_117 ?_
              refine lv_topl (fun x117 ex117 => ?_)
              obtain rfl : x117 = iL (((S % 2147483648).toNat : Int)) := ex117.trans ((iL_m31 _).trans (congrArg iL (by omega)))
              refine wz_l2i hx hb d_W_becomeMix_118 ?_
              refine pw_iast (k := i) hx hb hw 0 (by omega) hA_t rfl (iI_in (by omega) (by omega) (by omega)) ((iI_cl (by omega) (by omega)).trans (by omega)) d_W_becomeMix_119 (fun F119 H locs eF119 hw => ?_)
              obtain ⟨gy, egy⟩ : ∃ z, z = upd gx (i) (iI (((S % 2147483648).toNat : Int))) := ⟨_, rfl⟩
              rw [← egy] at eF119
              have m119_t1 : F119 (t + 1) = .inl (ty 0, N, .inl (gy)) := by rw [eF119]; exact va_up_self ..
              have hO_t_at_119 : F119 (t) = .inr (0, [.ref (ad (t + 1)), .int (iI ((nt : Int)))]) := (show F119 (t) = F36 (t) from by rw [eF119]; exact va_up_ne _ _ (by omega)).trans hO_t
              have hO_a_at_119 : F119 (a) = .inr (0, [.ref (ad (a + 1)), .int (iI ((na : Int)))]) := (show F119 (a) = F36 (a) from by rw [eF119]; exact va_up_ne _ _ (by omega)).trans hO_a
              have hA_a_at_119 : F119 (a + 1) = .inl (ty 0, Na, .inl (ga)) := (show F119 (a + 1) = F36 (a + 1) from by rw [eF119]; exact va_up_ne _ _ (by omega)).trans hA_a
              have hdy : dl gy i = (S % 2147483648).toNat := by rw [egy]; exact dl_us (by omega)
              refine lv_lload hx hb d_W_becomeMix_120 (lv_at hl 0 rfl) ?_
              refine wz_bipush (n := 31) hx hb d_W_becomeMix_122 (by decide) ?_
              refine lv_lshr (v := iL (S / 2147483648)) hx hb d_W_becomeMix_124 (iL_shr (k := 31) (by decide) hSb.1 hSb.2) ?_
              refine lv_lstore (lv' := [(8, .long (iL (S / 2147483648))), (13, .long (iL (S))), (12, .int (iI ((x2 : Int)))), (11, .int (iI ((x1 : Int)))), (10, .int (iI ((i : Int)))), (7, .int (iI ((n0 : Int)))), (0, .ref (ad (t))), (1, .long (iL (fz))), (3, .ref (ad (a))), (4, .long (iL (gz))), (6, .ref (ad (t)))]) hx hb d_W_becomeMix_125 hl (by decide) rfl (fun ls hl => ?_)
              refine wz_iinc (z := ((i + 1 : Nat) : Int)) (lv' := [(10, .int (iI (((i + 1 : Nat) : Int)))), (8, .long (iL (S / 2147483648))), (13, .long (iL (S))), (12, .int (iI ((x2 : Int)))), (11, .int (iI ((x1 : Int)))), (7, .int (iI ((n0 : Int)))), (0, .ref (ad (t))), (1, .long (iL (fz))), (3, .ref (ad (a))), (4, .long (iL (gz))), (6, .ref (ad (t)))]) hx hb d_W_becomeMix_127 hl (k := 4) rfl (by omega) (by decide) rfl (fun ls hl => ?_)
              refine lv_goto (tgt := 36) hx hb d_W_becomeMix_130 (by decide) ?_
              exact ih36 (i + 1) (S / 2147483648) gy _ _ _ ls (by omega) (by omega) (mx_step hinv (by rw [hS, hx1, hx2]) (by rw [hdy]; omega) (fun k hk => by rw [egy]; exact dl_un (by omega))) (by omega) (fun k h1 => by
                rcases Nat.lt_or_ge k i with h2 | h2
                · rw [egy, dl_un (by omega)]; exact hdig k h2
                · rw [show k = i by omega, hdy]; omega) (fun k h1 => by rw [egy, pk_un (by omega)]; exact hsame k (by omega)) (fun y h1 h2 => by rw [eF119, va_up_ne _ _ h2]; exact hfr y h1 h2) hO_t_at_119 m119_t1 hO_a_at_119 hA_a_at_119 hw (lv_sub hl [0, 1, 5, 6, 7, 8, 9, 10] rfl)
            have K63 : ∀ (x1 : Nat) (ls : Array Slot), (x1 = lm (dl ga) na i) → lv_has ls 15 [(10, .int (iI ((i : Int)))), (8, .long (iL (cy))), (7, .int (iI ((n0 : Int)))), (0, .ref (ad (t))), (1, .long (iL (fz))), (3, .ref (ad (a))), (4, .long (iL (gz))), (6, .ref (ad (t)))] → W p l e ({ frames := 2, cells := 0, slots := 0, locals := 46 } : Room) s m ([.ref (ad (t)), .long (iL (fz)), .ref (ad (a)), .long (iL (gz)), .ref (ad (t))]).toArray below meth c H locs 0 0 Q (F0 m 63 ls [.int (iI ((x1 : Int)))]) := by
              intro x1 ls hx1 hl
              refine lv_istore (lv' := [(11, .int (iI ((x1 : Int)))), (10, .int (iI ((i : Int)))), (8, .long (iL (cy))), (7, .int (iI ((n0 : Int)))), (0, .ref (ad (t))), (1, .long (iL (fz))), (3, .ref (ad (a))), (4, .long (iL (gz))), (6, .ref (ad (t)))]) hx hb d_W_becomeMix_63 hl (by decide) rfl (fun ls hl => ?_)
              refine lv_iload hx hb d_W_becomeMix_65 (lv_at hl 1 rfl) ?_
              refine lv_aload hx hb d_W_becomeMix_67 (lv_at hl 8 rfl) ?_
              refine pw_get (ci := 0) (C := R_W) (T := T_W) (N := 2) hx hb hq i_W hown hw (by omega) hO_t rfl 1 (by decide) (hq _ fl_W_21) (fun _ h9 => h9) rfl d_W_becomeMix_69 ?_
              refine wz_icmp_ge (tgt := 86) hx hb d_W_becomeMix_72 (by decide) (by omega) (by omega) (by omega) (by omega) (fun c72 => ?_) (fun c72 => ?_)
              · refine wz_iconst (n := 0) hx hb d_W_becomeMix_86 ?_
                exact K87 x1 0 ls (hx1) (by unfold lm; rw [if_neg (by omega)]) hl
              · refine lv_aload hx hb d_W_becomeMix_75 (lv_at hl 8 rfl) ?_
                refine pw_get (ci := 0) (C := R_W) (T := T_W) (N := 2) hx hb hq i_W hown hw (by omega) hO_t rfl 0 (by decide) (hq _ fl_W_17) (fun _ h9 => h9) rfl d_W_becomeMix_77 ?_
                refine lv_iload hx hb d_W_becomeMix_80 (lv_at hl 1 rfl) ?_
                refine pw_iald (k := i) hx hb hw 0 (by omega) hA_t rfl (iI_in (by omega) (by omega) (by omega)) ((iI_cl (by omega) (by omega)).trans (by omega)) d_W_becomeMix_82 ?_
                refine lv_topi (fun x82 ex82 => ?_)
                obtain rfl : x82 = iI ((dl gt i : Int)) := ex82.trans ((hsame i (Nat.le_refl _)).trans (dl_get (hdb i (by omega))))
                refine lv_goto (tgt := 87) hx hb d_W_becomeMix_83 (by decide) ?_
                exact K87 x1 (dl gt i) ls (hx1) (by unfold lm; rw [if_pos (by omega)]) hl
            refine lv_iload hx hb d_W_becomeMix_43 (lv_at hl 0 rfl) ?_
            refine lv_aload_n hx hb d_W_becomeMix_45 rfl (lv_at hl 5 rfl) ?_
            refine pw_get (ci := 0) (C := R_W) (T := T_W) (N := 2) hx hb hq i_W hown hw (by omega) hO_a rfl 1 (by decide) (hq _ fl_W_21) (fun _ h9 => h9) rfl d_W_becomeMix_46 ?_
            refine wz_icmp_ge (tgt := 62) hx hb d_W_becomeMix_49 (by decide) (by omega) (by omega) (by omega) (by omega) (fun c49 => ?_) (fun c49 => ?_)
            · refine wz_iconst (n := 0) hx hb d_W_becomeMix_62 ?_
              exact K63 0 ls (by unfold lm; rw [if_neg (by omega)]) hl
            · refine lv_aload_n hx hb d_W_becomeMix_52 rfl (lv_at hl 5 rfl) ?_
              refine pw_get (ci := 0) (C := R_W) (T := T_W) (N := 2) hx hb hq i_W hown hw (by omega) hO_a rfl 0 (by decide) (hq _ fl_W_17) (fun _ h9 => h9) rfl d_W_becomeMix_53 ?_
              refine lv_iload hx hb d_W_becomeMix_56 (lv_at hl 0 rfl) ?_
              refine pw_iald (k := i) hx hb hw 0 (by omega) hA_a rfl (iI_in (by omega) (by omega) (by omega)) ((iI_cl (by omega) (by omega)).trans (by omega)) d_W_becomeMix_58 ?_
              refine lv_topi (fun x58 ex58 => ?_)
              obtain rfl : x58 = iI ((dl ga i : Int)) := ex58.trans (dl_get (hda i (by omega)))
              refine lv_goto (tgt := 63) hx hb d_W_becomeMix_59 (by decide) ?_
              exact K63 (dl ga i) ls (by unfold lm; rw [if_pos (by omega)]) hl
      exact K36 _ 0 0 gt _ _ _ ls (Nat.lt_succ_self _) (Nat.zero_le _) (by simp [bv_0]) (by omega) (fun j h1 => absurd h1 (by omega)) (fun _ _ => rfl) (fun _ _ _ => rfl) hO_t hA_t hO_a hA_a hw hl
    · exact absurd c21 (by omega)
  rw [hH, hlo] at hgo
  exact hgo
end

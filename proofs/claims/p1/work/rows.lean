section
-- ===== PART A: goes FIRST, ahead of the names: the tables' words, and 'selects' of the private methods out of them =====
/-- a private method of a class that the tables say can be made, by its rows of tables_1 -/
def lw_okq (q : MethodName × Nat) : Prop := (q.1.cls ≠ "java/lang/invoke/MethodHandle" ∧ q.1.cls ≠ "java/lang/invoke/VarHandle") ∧ Cond.instantiable q.1.cls q.2 ∈ tables_1 ∧ Cond.privateMethod q.1 ∈ tables_1 ∧ Cond.instanceMethod q.1 ∈ tables_1
theorem lw_p0 : lw_okq (⟨"LastLetter$Tongue", "clear", "()V"⟩, 16) := ⟨⟨by decide +kernel, by decide +kernel⟩, List.mem_of_getElem? (i := 242) (by decide +kernel), List.mem_of_getElem? (i := 248) (by decide +kernel), List.mem_of_getElem? (i := 249) (by decide +kernel)⟩
theorem lw_p1 : lw_okq (⟨"LastLetter$Reader", "step", "()V"⟩, 6) := ⟨⟨by decide +kernel, by decide +kernel⟩, List.mem_of_getElem? (i := 46) (by decide +kernel), List.mem_of_getElem? (i := 396) (by decide +kernel), List.mem_of_getElem? (i := 397) (by decide +kernel)⟩
theorem lw_p2 : lw_okq (⟨"LastLetter$Reader", "stepLetters", "()V"⟩, 6) := ⟨⟨by decide +kernel, by decide +kernel⟩, List.mem_of_getElem? (i := 46) (by decide +kernel), List.mem_of_getElem? (i := 410) (by decide +kernel), List.mem_of_getElem? (i := 411) (by decide +kernel)⟩
theorem lw_p3 : lw_okq (⟨"LastLetter$Reader", "refuse", "(I)V"⟩, 6) := ⟨⟨by decide +kernel, by decide +kernel⟩, List.mem_of_getElem? (i := 46) (by decide +kernel), List.mem_of_getElem? (i := 414) (by decide +kernel), List.mem_of_getElem? (i := 415) (by decide +kernel)⟩
theorem lw_p4 : lw_okq (⟨"LastLetter$Reader", "stepDigits", "()V"⟩, 6) := ⟨⟨by decide +kernel, by decide +kernel⟩, List.mem_of_getElem? (i := 46) (by decide +kernel), List.mem_of_getElem? (i := 421) (by decide +kernel), List.mem_of_getElem? (i := 422) (by decide +kernel)⟩
theorem lw_p5 : lw_okq (⟨"LastLetter$Reader", "readLine", "(LLastLetter$Tongue;)V"⟩, 6) := ⟨⟨by decide +kernel, by decide +kernel⟩, List.mem_of_getElem? (i := 46) (by decide +kernel), List.mem_of_getElem? (i := 425) (by decide +kernel), List.mem_of_getElem? (i := 426) (by decide +kernel)⟩
theorem lw_p6 : lw_okq (⟨"LastLetter$Reader", "isWritten", "(Ljava/lang/String;)Z"⟩, 6) := ⟨⟨by decide +kernel, by decide +kernel⟩, List.mem_of_getElem? (i := 46) (by decide +kernel), List.mem_of_getElem? (i := 430) (by decide +kernel), List.mem_of_getElem? (i := 431) (by decide +kernel)⟩
theorem lw_p7 : lw_okq (⟨"LastLetter$Reader", "readWord", "(LLastLetter$Tongue;)V"⟩, 6) := ⟨⟨by decide +kernel, by decide +kernel⟩, List.mem_of_getElem? (i := 46) (by decide +kernel), List.mem_of_getElem? (i := 482) (by decide +kernel), List.mem_of_getElem? (i := 483) (by decide +kernel)⟩
theorem lw_p8 : lw_okq (⟨"LastLetter$Reader", "name", "()J"⟩, 6) := ⟨⟨by decide +kernel, by decide +kernel⟩, List.mem_of_getElem? (i := 46) (by decide +kernel), List.mem_of_getElem? (i := 486) (by decide +kernel), List.mem_of_getElem? (i := 487) (by decide +kernel)⟩
theorem lw_p9 : lw_okq (⟨"LastLetter$Reader", "number", "(II)I"⟩, 6) := ⟨⟨by decide +kernel, by decide +kernel⟩, List.mem_of_getElem? (i := 46) (by decide +kernel), List.mem_of_getElem? (i := 495) (by decide +kernel), List.mem_of_getElem? (i := 496) (by decide +kernel)⟩
theorem lw_p10 : lw_okq (⟨"LastLetter$Reader", "readLaw", "(LLastLetter$Tongue;)V"⟩, 6) := ⟨⟨by decide +kernel, by decide +kernel⟩, List.mem_of_getElem? (i := 46) (by decide +kernel), List.mem_of_getElem? (i := 510) (by decide +kernel), List.mem_of_getElem? (i := 511) (by decide +kernel)⟩
theorem lw_p11 : lw_okq (⟨"LastLetter$Reader", "readAlike", "(LLastLetter$Tongue;)V"⟩, 6) := ⟨⟨by decide +kernel, by decide +kernel⟩, List.mem_of_getElem? (i := 46) (by decide +kernel), List.mem_of_getElem? (i := 518) (by decide +kernel), List.mem_of_getElem? (i := 519) (by decide +kernel)⟩
theorem lw_p12 : lw_okq (⟨"LastLetter$Reader", "letter", "()I"⟩, 6) := ⟨⟨by decide +kernel, by decide +kernel⟩, List.mem_of_getElem? (i := 46) (by decide +kernel), List.mem_of_getElem? (i := 522) (by decide +kernel), List.mem_of_getElem? (i := 523) (by decide +kernel)⟩
theorem lw_p13 : lw_okq (⟨"LastLetter$Reader", "readErrand", "(LLastLetter$Tongue;)V"⟩, 6) := ⟨⟨by decide +kernel, by decide +kernel⟩, List.mem_of_getElem? (i := 46) (by decide +kernel), List.mem_of_getElem? (i := 537) (by decide +kernel), List.mem_of_getElem? (i := 538) (by decide +kernel)⟩
theorem lw_p14 : lw_okq (⟨"LastLetter$Tongue", "allows", "(II)Z"⟩, 16) := ⟨⟨by decide +kernel, by decide +kernel⟩, List.mem_of_getElem? (i := 242) (by decide +kernel), List.mem_of_getElem? (i := 559) (by decide +kernel), List.mem_of_getElem? (i := 560) (by decide +kernel)⟩
theorem lw_p15 : lw_okq (⟨"LastLetter$Tongue", "areAlike", "(II)Z"⟩, 16) := ⟨⟨by decide +kernel, by decide +kernel⟩, List.mem_of_getElem? (i := 242) (by decide +kernel), List.mem_of_getElem? (i := 563) (by decide +kernel), List.mem_of_getElem? (i := 564) (by decide +kernel)⟩
def lw_privs_1 : List (MethodName × Nat) := [(⟨"LastLetter$Tongue", "clear", "()V"⟩, 16), (⟨"LastLetter$Reader", "step", "()V"⟩, 6), (⟨"LastLetter$Reader", "stepLetters", "()V"⟩, 6), (⟨"LastLetter$Reader", "refuse", "(I)V"⟩, 6), (⟨"LastLetter$Reader", "stepDigits", "()V"⟩, 6), (⟨"LastLetter$Reader", "readLine", "(LLastLetter$Tongue;)V"⟩, 6), (⟨"LastLetter$Reader", "isWritten", "(Ljava/lang/String;)Z"⟩, 6), (⟨"LastLetter$Reader", "readWord", "(LLastLetter$Tongue;)V"⟩, 6), (⟨"LastLetter$Reader", "name", "()J"⟩, 6), (⟨"LastLetter$Reader", "number", "(II)I"⟩, 6), (⟨"LastLetter$Reader", "readLaw", "(LLastLetter$Tongue;)V"⟩, 6), (⟨"LastLetter$Reader", "readAlike", "(LLastLetter$Tongue;)V"⟩, 6), (⟨"LastLetter$Reader", "letter", "()I"⟩, 6), (⟨"LastLetter$Reader", "readErrand", "(LLastLetter$Tongue;)V"⟩, 6), (⟨"LastLetter$Tongue", "allows", "(II)Z"⟩, 16), (⟨"LastLetter$Tongue", "areAlike", "(II)Z"⟩, 16)]
theorem lw_r1 : ∀ q ∈ lw_privs_1, lw_okq q := List.forall_mem_cons.mpr ⟨lw_p0, List.forall_mem_cons.mpr ⟨lw_p1, List.forall_mem_cons.mpr ⟨lw_p2, List.forall_mem_cons.mpr ⟨lw_p3, List.forall_mem_cons.mpr ⟨lw_p4, List.forall_mem_cons.mpr ⟨lw_p5, List.forall_mem_cons.mpr ⟨lw_p6, List.forall_mem_cons.mpr ⟨lw_p7, List.forall_mem_cons.mpr ⟨lw_p8, List.forall_mem_cons.mpr ⟨lw_p9, List.forall_mem_cons.mpr ⟨lw_p10, List.forall_mem_cons.mpr ⟨lw_p11, List.forall_mem_cons.mpr ⟨lw_p12, List.forall_mem_cons.mpr ⟨lw_p13, List.forall_mem_cons.mpr ⟨lw_p14, List.forall_mem_cons.mpr ⟨lw_p15, fun _ h => absurd h List.not_mem_nil⟩⟩⟩⟩⟩⟩⟩⟩⟩⟩⟩⟩⟩⟩⟩⟩
theorem lw_p16 : lw_okq (⟨"LastLetter$Talk", "drawn", "(I)I"⟩, 7) := ⟨⟨by decide +kernel, by decide +kernel⟩, List.mem_of_getElem? (i := 73) (by decide +kernel), List.mem_of_getElem? (i := 641) (by decide +kernel), List.mem_of_getElem? (i := 642) (by decide +kernel)⟩
theorem lw_p17 : lw_okq (⟨"LastLetter$Talk", "rank", "(LLastLetter$Tongue;II)I"⟩, 7) := ⟨⟨by decide +kernel, by decide +kernel⟩, List.mem_of_getElem? (i := 73) (by decide +kernel), List.mem_of_getElem? (i := 659) (by decide +kernel), List.mem_of_getElem? (i := 660) (by decide +kernel)⟩
theorem lw_p18 : lw_okq (⟨"LastLetter$Talk", "openBehind", "(LLastLetter$Tongue;I)I"⟩, 7) := ⟨⟨by decide +kernel, by decide +kernel⟩, List.mem_of_getElem? (i := 73) (by decide +kernel), List.mem_of_getElem? (i := 663) (by decide +kernel), List.mem_of_getElem? (i := 664) (by decide +kernel)⟩
theorem lw_p19 : lw_okq (⟨"LastLetter$Orders", "learnClosing", "(LLastLetter$Tongue;)V"⟩, 6) := ⟨⟨by decide +kernel, by decide +kernel⟩, List.mem_of_getElem? (i := 135) (by decide +kernel), List.mem_of_getElem? (i := 684) (by decide +kernel), List.mem_of_getElem? (i := 685) (by decide +kernel)⟩
theorem lw_p20 : lw_okq (⟨"LastLetter$Orders", "onward", "(LLastLetter$Tongue;II)I"⟩, 6) := ⟨⟨by decide +kernel, by decide +kernel⟩, List.mem_of_getElem? (i := 135) (by decide +kernel), List.mem_of_getElem? (i := 689) (by decide +kernel), List.mem_of_getElem? (i := 690) (by decide +kernel)⟩
theorem lw_p21 : lw_okq (⟨"LastLetter$Orders", "learn", "(LLastLetter$Tongue;)V"⟩, 6) := ⟨⟨by decide +kernel, by decide +kernel⟩, List.mem_of_getElem? (i := 135) (by decide +kernel), List.mem_of_getElem? (i := 703) (by decide +kernel), List.mem_of_getElem? (i := 704) (by decide +kernel)⟩
theorem lw_p22 : lw_okq (⟨"LastLetter$Orders", "learnSet", "(LLastLetter$Tongue;I)V"⟩, 6) := ⟨⟨by decide +kernel, by decide +kernel⟩, List.mem_of_getElem? (i := 135) (by decide +kernel), List.mem_of_getElem? (i := 707) (by decide +kernel), List.mem_of_getElem? (i := 708) (by decide +kernel)⟩
theorem lw_p23 : lw_okq (⟨"LastLetter$Orders", "breaksBehind", "(LLastLetter$Tongue;II)I"⟩, 6) := ⟨⟨by decide +kernel, by decide +kernel⟩, List.mem_of_getElem? (i := 135) (by decide +kernel), List.mem_of_getElem? (i := 711) (by decide +kernel), List.mem_of_getElem? (i := 712) (by decide +kernel)⟩
theorem lw_p24 : lw_okq (⟨"LastLetter$Orders", "cheapest", "(LLastLetter$Tongue;III)I"⟩, 6) := ⟨⟨by decide +kernel, by decide +kernel⟩, List.mem_of_getElem? (i := 135) (by decide +kernel), List.mem_of_getElem? (i := 719) (by decide +kernel), List.mem_of_getElem? (i := 720) (by decide +kernel)⟩
theorem lw_p25 : lw_okq (⟨"LastLetter$Orders", "mostWithin", "(IZ)I"⟩, 6) := ⟨⟨by decide +kernel, by decide +kernel⟩, List.mem_of_getElem? (i := 135) (by decide +kernel), List.mem_of_getElem? (i := 731) (by decide +kernel), List.mem_of_getElem? (i := 732) (by decide +kernel)⟩
theorem lw_p26 : lw_okq (⟨"LastLetter$Orders", "amount", "(IZ)I"⟩, 6) := ⟨⟨by decide +kernel, by decide +kernel⟩, List.mem_of_getElem? (i := 135) (by decide +kernel), List.mem_of_getElem? (i := 735) (by decide +kernel), List.mem_of_getElem? (i := 736) (by decide +kernel)⟩
theorem lw_p27 : lw_okq (⟨"LastLetter$Orders", "beginnings", "(IIZ)I"⟩, 6) := ⟨⟨by decide +kernel, by decide +kernel⟩, List.mem_of_getElem? (i := 135) (by decide +kernel), List.mem_of_getElem? (i := 741) (by decide +kernel), List.mem_of_getElem? (i := 742) (by decide +kernel)⟩
theorem lw_p28 : lw_okq (⟨"LastLetter$Letters", "gather", "(LLastLetter$Tongue;)V"⟩, 1) := ⟨⟨by decide +kernel, by decide +kernel⟩, List.mem_of_getElem? (i := 125) (by decide +kernel), List.mem_of_getElem? (i := 782) (by decide +kernel), List.mem_of_getElem? (i := 783) (by decide +kernel)⟩
theorem lw_p29 : lw_okq (⟨"LastLetter$Letters", "hasWords", "(LLastLetter$Tongue;I)Z"⟩, 1) := ⟨⟨by decide +kernel, by decide +kernel⟩, List.mem_of_getElem? (i := 125) (by decide +kernel), List.mem_of_getElem? (i := 789) (by decide +kernel), List.mem_of_getElem? (i := 790) (by decide +kernel)⟩
theorem lw_p30 : lw_okq (⟨"LastLetter$Letters", "surplusOf", "(LLastLetter$Tongue;I)I"⟩, 1) := ⟨⟨by decide +kernel, by decide +kernel⟩, List.mem_of_getElem? (i := 125) (by decide +kernel), List.mem_of_getElem? (i := 793) (by decide +kernel), List.mem_of_getElem? (i := 794) (by decide +kernel)⟩
theorem lw_p31 : lw_okq (⟨"LastLetter$Search", "begin", "()V"⟩, 3) := ⟨⟨by decide +kernel, by decide +kernel⟩, List.mem_of_getElem? (i := 160) (by decide +kernel), List.mem_of_getElem? (i := 807) (by decide +kernel), List.mem_of_getElem? (i := 808) (by decide +kernel)⟩
def lw_privs_2 : List (MethodName × Nat) := [(⟨"LastLetter$Talk", "drawn", "(I)I"⟩, 7), (⟨"LastLetter$Talk", "rank", "(LLastLetter$Tongue;II)I"⟩, 7), (⟨"LastLetter$Talk", "openBehind", "(LLastLetter$Tongue;I)I"⟩, 7), (⟨"LastLetter$Orders", "learnClosing", "(LLastLetter$Tongue;)V"⟩, 6), (⟨"LastLetter$Orders", "onward", "(LLastLetter$Tongue;II)I"⟩, 6), (⟨"LastLetter$Orders", "learn", "(LLastLetter$Tongue;)V"⟩, 6), (⟨"LastLetter$Orders", "learnSet", "(LLastLetter$Tongue;I)V"⟩, 6), (⟨"LastLetter$Orders", "breaksBehind", "(LLastLetter$Tongue;II)I"⟩, 6), (⟨"LastLetter$Orders", "cheapest", "(LLastLetter$Tongue;III)I"⟩, 6), (⟨"LastLetter$Orders", "mostWithin", "(IZ)I"⟩, 6), (⟨"LastLetter$Orders", "amount", "(IZ)I"⟩, 6), (⟨"LastLetter$Orders", "beginnings", "(IIZ)I"⟩, 6), (⟨"LastLetter$Letters", "gather", "(LLastLetter$Tongue;)V"⟩, 1), (⟨"LastLetter$Letters", "hasWords", "(LLastLetter$Tongue;I)Z"⟩, 1), (⟨"LastLetter$Letters", "surplusOf", "(LLastLetter$Tongue;I)I"⟩, 1), (⟨"LastLetter$Search", "begin", "()V"⟩, 3)]
theorem lw_r2 : ∀ q ∈ lw_privs_2, lw_okq q := List.forall_mem_cons.mpr ⟨lw_p16, List.forall_mem_cons.mpr ⟨lw_p17, List.forall_mem_cons.mpr ⟨lw_p18, List.forall_mem_cons.mpr ⟨lw_p19, List.forall_mem_cons.mpr ⟨lw_p20, List.forall_mem_cons.mpr ⟨lw_p21, List.forall_mem_cons.mpr ⟨lw_p22, List.forall_mem_cons.mpr ⟨lw_p23, List.forall_mem_cons.mpr ⟨lw_p24, List.forall_mem_cons.mpr ⟨lw_p25, List.forall_mem_cons.mpr ⟨lw_p26, List.forall_mem_cons.mpr ⟨lw_p27, List.forall_mem_cons.mpr ⟨lw_p28, List.forall_mem_cons.mpr ⟨lw_p29, List.forall_mem_cons.mpr ⟨lw_p30, List.forall_mem_cons.mpr ⟨lw_p31, fun _ h => absurd h List.not_mem_nil⟩⟩⟩⟩⟩⟩⟩⟩⟩⟩⟩⟩⟩⟩⟩⟩
theorem lw_p32 : lw_okq (⟨"LastLetter$Search", "enter", "(LLastLetter$Tongue;IIZ)V"⟩, 3) := ⟨⟨by decide +kernel, by decide +kernel⟩, List.mem_of_getElem? (i := 160) (by decide +kernel), List.mem_of_getElem? (i := 812) (by decide +kernel), List.mem_of_getElem? (i := 813) (by decide +kernel)⟩
theorem lw_p33 : lw_okq (⟨"LastLetter$Search", "lay", "(LLastLetter$Row;I)I"⟩, 3) := ⟨⟨by decide +kernel, by decide +kernel⟩, List.mem_of_getElem? (i := 160) (by decide +kernel), List.mem_of_getElem? (i := 818) (by decide +kernel), List.mem_of_getElem? (i := 819) (by decide +kernel)⟩
theorem lw_p34 : lw_okq (⟨"LastLetter$Games", "learnWon", "(LLastLetter$Tongue;)V"⟩, 6) := ⟨⟨by decide +kernel, by decide +kernel⟩, List.mem_of_getElem? (i := 176) (by decide +kernel), List.mem_of_getElem? (i := 844) (by decide +kernel), List.mem_of_getElem? (i := 845) (by decide +kernel)⟩
theorem lw_p35 : lw_okq (⟨"LastLetter$Games", "isLostBehind", "(II)Z"⟩, 6) := ⟨⟨by decide +kernel, by decide +kernel⟩, List.mem_of_getElem? (i := 176) (by decide +kernel), List.mem_of_getElem? (i := 849) (by decide +kernel), List.mem_of_getElem? (i := 850) (by decide +kernel)⟩
theorem lw_p36 : lw_okq (⟨"LastLetter$Games", "learnDepths", "(LLastLetter$Tongue;)V"⟩, 6) := ⟨⟨by decide +kernel, by decide +kernel⟩, List.mem_of_getElem? (i := 176) (by decide +kernel), List.mem_of_getElem? (i := 870) (by decide +kernel), List.mem_of_getElem? (i := 871) (by decide +kernel)⟩
theorem lw_p37 : lw_okq (⟨"LastLetter$Games", "bestDepth", "(IIZ)I"⟩, 6) := ⟨⟨by decide +kernel, by decide +kernel⟩, List.mem_of_getElem? (i := 176) (by decide +kernel), List.mem_of_getElem? (i := 874) (by decide +kernel), List.mem_of_getElem? (i := 875) (by decide +kernel)⟩
theorem lw_p38 : lw_okq (⟨"LastLetter$Games", "depth", "(II)I"⟩, 6) := ⟨⟨by decide +kernel, by decide +kernel⟩, List.mem_of_getElem? (i := 176) (by decide +kernel), List.mem_of_getElem? (i := 878) (by decide +kernel), List.mem_of_getElem? (i := 879) (by decide +kernel)⟩
theorem lw_p39 : lw_okq (⟨"LastLetter$Games", "learnGains", "(LLastLetter$Tongue;)V"⟩, 6) := ⟨⟨by decide +kernel, by decide +kernel⟩, List.mem_of_getElem? (i := 176) (by decide +kernel), List.mem_of_getElem? (i := 890) (by decide +kernel), List.mem_of_getElem? (i := 891) (by decide +kernel)⟩
theorem lw_p40 : lw_okq (⟨"LastLetter$Games", "bestGain", "(LLastLetter$Tongue;II)I"⟩, 6) := ⟨⟨by decide +kernel, by decide +kernel⟩, List.mem_of_getElem? (i := 176) (by decide +kernel), List.mem_of_getElem? (i := 894) (by decide +kernel), List.mem_of_getElem? (i := 895) (by decide +kernel)⟩
theorem lw_p41 : lw_okq (⟨"LastLetter$Wall", "narrow", "(LLastLetter$Tongue;I)V"⟩, 10) := ⟨⟨by decide +kernel, by decide +kernel⟩, List.mem_of_getElem? (i := 203) (by decide +kernel), List.mem_of_getElem? (i := 944) (by decide +kernel), List.mem_of_getElem? (i := 945) (by decide +kernel)⟩
theorem lw_p42 : lw_okq (⟨"LastLetter$Wall", "wordsOf", "(LLastLetter$Tongue;II)I"⟩, 10) := ⟨⟨by decide +kernel, by decide +kernel⟩, List.mem_of_getElem? (i := 203) (by decide +kernel), List.mem_of_getElem? (i := 950) (by decide +kernel), List.mem_of_getElem? (i := 951) (by decide +kernel)⟩
theorem lw_p43 : lw_okq (⟨"LastLetter$Wall", "rowsInto", "(LLastLetter$Tongue;I)J"⟩, 10) := ⟨⟨by decide +kernel, by decide +kernel⟩, List.mem_of_getElem? (i := 203) (by decide +kernel), List.mem_of_getElem? (i := 955) (by decide +kernel), List.mem_of_getElem? (i := 956) (by decide +kernel)⟩
theorem lw_p44 : lw_okq (⟨"LastLetter$Wall", "gathered", "([III)I"⟩, 10) := ⟨⟨by decide +kernel, by decide +kernel⟩, List.mem_of_getElem? (i := 203) (by decide +kernel), List.mem_of_getElem? (i := 971) (by decide +kernel), List.mem_of_getElem? (i := 972) (by decide +kernel)⟩
theorem lw_p45 : lw_okq (⟨"LastLetterModel", "clearBank", "()V"⟩, 54) := ⟨⟨by decide +kernel, by decide +kernel⟩, List.mem_of_getElem? (i := 996) (by decide +kernel), List.mem_of_getElem? (i := 1003) (by decide +kernel), List.mem_of_getElem? (i := 1004) (by decide +kernel)⟩
theorem lw_p46 : lw_okq (⟨"LastLetterModel", "layFollow", "()V"⟩, 54) := ⟨⟨by decide +kernel, by decide +kernel⟩, List.mem_of_getElem? (i := 996) (by decide +kernel), List.mem_of_getElem? (i := 1007) (by decide +kernel), List.mem_of_getElem? (i := 1008) (by decide +kernel)⟩
theorem lw_p47 : lw_okq (⟨"LastLetterModel", "wordMany", "()I"⟩, 54) := ⟨⟨by decide +kernel, by decide +kernel⟩, List.mem_of_getElem? (i := 996) (by decide +kernel), List.mem_of_getElem? (i := 1011) (by decide +kernel), List.mem_of_getElem? (i := 1012) (by decide +kernel)⟩
def lw_privs_3 : List (MethodName × Nat) := [(⟨"LastLetter$Search", "enter", "(LLastLetter$Tongue;IIZ)V"⟩, 3), (⟨"LastLetter$Search", "lay", "(LLastLetter$Row;I)I"⟩, 3), (⟨"LastLetter$Games", "learnWon", "(LLastLetter$Tongue;)V"⟩, 6), (⟨"LastLetter$Games", "isLostBehind", "(II)Z"⟩, 6), (⟨"LastLetter$Games", "learnDepths", "(LLastLetter$Tongue;)V"⟩, 6), (⟨"LastLetter$Games", "bestDepth", "(IIZ)I"⟩, 6), (⟨"LastLetter$Games", "depth", "(II)I"⟩, 6), (⟨"LastLetter$Games", "learnGains", "(LLastLetter$Tongue;)V"⟩, 6), (⟨"LastLetter$Games", "bestGain", "(LLastLetter$Tongue;II)I"⟩, 6), (⟨"LastLetter$Wall", "narrow", "(LLastLetter$Tongue;I)V"⟩, 10), (⟨"LastLetter$Wall", "wordsOf", "(LLastLetter$Tongue;II)I"⟩, 10), (⟨"LastLetter$Wall", "rowsInto", "(LLastLetter$Tongue;I)J"⟩, 10), (⟨"LastLetter$Wall", "gathered", "([III)I"⟩, 10), (⟨"LastLetterModel", "clearBank", "()V"⟩, 54), (⟨"LastLetterModel", "layFollow", "()V"⟩, 54), (⟨"LastLetterModel", "wordMany", "()I"⟩, 54)]
theorem lw_r3 : ∀ q ∈ lw_privs_3, lw_okq q := List.forall_mem_cons.mpr ⟨lw_p32, List.forall_mem_cons.mpr ⟨lw_p33, List.forall_mem_cons.mpr ⟨lw_p34, List.forall_mem_cons.mpr ⟨lw_p35, List.forall_mem_cons.mpr ⟨lw_p36, List.forall_mem_cons.mpr ⟨lw_p37, List.forall_mem_cons.mpr ⟨lw_p38, List.forall_mem_cons.mpr ⟨lw_p39, List.forall_mem_cons.mpr ⟨lw_p40, List.forall_mem_cons.mpr ⟨lw_p41, List.forall_mem_cons.mpr ⟨lw_p42, List.forall_mem_cons.mpr ⟨lw_p43, List.forall_mem_cons.mpr ⟨lw_p44, List.forall_mem_cons.mpr ⟨lw_p45, List.forall_mem_cons.mpr ⟨lw_p46, List.forall_mem_cons.mpr ⟨lw_p47, fun _ h => absurd h List.not_mem_nil⟩⟩⟩⟩⟩⟩⟩⟩⟩⟩⟩⟩⟩⟩⟩⟩
theorem lw_p48 : lw_okq (⟨"LastLetterModel", "mayFollow", "(II)Z"⟩, 54) := ⟨⟨by decide +kernel, by decide +kernel⟩, List.mem_of_getElem? (i := 996) (by decide +kernel), List.mem_of_getElem? (i := 1015) (by decide +kernel), List.mem_of_getElem? (i := 1016) (by decide +kernel)⟩
theorem lw_p49 : lw_okq (⟨"LastLetterModel", "soundOf", "(II)I"⟩, 54) := ⟨⟨by decide +kernel, by decide +kernel⟩, List.mem_of_getElem? (i := 996) (by decide +kernel), List.mem_of_getElem? (i := 1019) (by decide +kernel), List.mem_of_getElem? (i := 1020) (by decide +kernel)⟩
theorem lw_p50 : lw_okq (⟨"LastLetterModel", "begin", "()V"⟩, 54) := ⟨⟨by decide +kernel, by decide +kernel⟩, List.mem_of_getElem? (i := 996) (by decide +kernel), List.mem_of_getElem? (i := 1024) (by decide +kernel), List.mem_of_getElem? (i := 1025) (by decide +kernel)⟩
theorem lw_p51 : lw_okq (⟨"LastLetterModel", "goOn", "()V"⟩, 54) := ⟨⟨by decide +kernel, by decide +kernel⟩, List.mem_of_getElem? (i := 996) (by decide +kernel), List.mem_of_getElem? (i := 1196) (by decide +kernel), List.mem_of_getElem? (i := 1197) (by decide +kernel)⟩
theorem lw_p52 : lw_okq (⟨"LastLetterModel", "sign", "(I)I"⟩, 54) := ⟨⟨by decide +kernel, by decide +kernel⟩, List.mem_of_getElem? (i := 996) (by decide +kernel), List.mem_of_getElem? (i := 1200) (by decide +kernel), List.mem_of_getElem? (i := 1201) (by decide +kernel)⟩
theorem lw_p53 : lw_okq (⟨"LastLetterModel", "isGood", "()Z"⟩, 54) := ⟨⟨by decide +kernel, by decide +kernel⟩, List.mem_of_getElem? (i := 996) (by decide +kernel), List.mem_of_getElem? (i := 1210) (by decide +kernel), List.mem_of_getElem? (i := 1211) (by decide +kernel)⟩
theorem lw_p54 : lw_okq (⟨"LastLetterModel", "readLine", "()V"⟩, 54) := ⟨⟨by decide +kernel, by decide +kernel⟩, List.mem_of_getElem? (i := 996) (by decide +kernel), List.mem_of_getElem? (i := 1214) (by decide +kernel), List.mem_of_getElem? (i := 1215) (by decide +kernel)⟩
theorem lw_p55 : lw_okq (⟨"LastLetterModel", "isFull", "()Z"⟩, 54) := ⟨⟨by decide +kernel, by decide +kernel⟩, List.mem_of_getElem? (i := 996) (by decide +kernel), List.mem_of_getElem? (i := 1218) (by decide +kernel), List.mem_of_getElem? (i := 1219) (by decide +kernel)⟩
theorem lw_p56 : lw_okq (⟨"LastLetterModel", "isWord", "(J)Z"⟩, 54) := ⟨⟨by decide +kernel, by decide +kernel⟩, List.mem_of_getElem? (i := 996) (by decide +kernel), List.mem_of_getElem? (i := 1223) (by decide +kernel), List.mem_of_getElem? (i := 1224) (by decide +kernel)⟩
theorem lw_p57 : lw_okq (⟨"LastLetterModel", "misplaced", "()V"⟩, 54) := ⟨⟨by decide +kernel, by decide +kernel⟩, List.mem_of_getElem? (i := 996) (by decide +kernel), List.mem_of_getElem? (i := 1230) (by decide +kernel), List.mem_of_getElem? (i := 1231) (by decide +kernel)⟩
theorem lw_p58 : lw_okq (⟨"LastLetterModel", "fails", "(II)V"⟩, 54) := ⟨⟨by decide +kernel, by decide +kernel⟩, List.mem_of_getElem? (i := 996) (by decide +kernel), List.mem_of_getElem? (i := 1234) (by decide +kernel), List.mem_of_getElem? (i := 1235) (by decide +kernel)⟩
theorem lw_p59 : lw_okq (⟨"LastLetterModel", "readWord", "()V"⟩, 54) := ⟨⟨by decide +kernel, by decide +kernel⟩, List.mem_of_getElem? (i := 996) (by decide +kernel), List.mem_of_getElem? (i := 1238) (by decide +kernel), List.mem_of_getElem? (i := 1239) (by decide +kernel)⟩
theorem lw_p60 : lw_okq (⟨"LastLetterModel", "wordHere", "()I"⟩, 54) := ⟨⟨by decide +kernel, by decide +kernel⟩, List.mem_of_getElem? (i := 996) (by decide +kernel), List.mem_of_getElem? (i := 1242) (by decide +kernel), List.mem_of_getElem? (i := 1243) (by decide +kernel)⟩
theorem lw_p61 : lw_okq (⟨"LastLetterModel", "must", "(Z)V"⟩, 54) := ⟨⟨by decide +kernel, by decide +kernel⟩, List.mem_of_getElem? (i := 996) (by decide +kernel), List.mem_of_getElem? (i := 1247) (by decide +kernel), List.mem_of_getElem? (i := 1248) (by decide +kernel)⟩
theorem lw_p62 : lw_okq (⟨"LastLetterModel", "numeral", "(II)I"⟩, 54) := ⟨⟨by decide +kernel, by decide +kernel⟩, List.mem_of_getElem? (i := 996) (by decide +kernel), List.mem_of_getElem? (i := 1251) (by decide +kernel), List.mem_of_getElem? (i := 1252) (by decide +kernel)⟩
theorem lw_p63 : lw_okq (⟨"LastLetterModel", "readLaw", "()V"⟩, 54) := ⟨⟨by decide +kernel, by decide +kernel⟩, List.mem_of_getElem? (i := 996) (by decide +kernel), List.mem_of_getElem? (i := 1256) (by decide +kernel), List.mem_of_getElem? (i := 1257) (by decide +kernel)⟩
def lw_privs_4 : List (MethodName × Nat) := [(⟨"LastLetterModel", "mayFollow", "(II)Z"⟩, 54), (⟨"LastLetterModel", "soundOf", "(II)I"⟩, 54), (⟨"LastLetterModel", "begin", "()V"⟩, 54), (⟨"LastLetterModel", "goOn", "()V"⟩, 54), (⟨"LastLetterModel", "sign", "(I)I"⟩, 54), (⟨"LastLetterModel", "isGood", "()Z"⟩, 54), (⟨"LastLetterModel", "readLine", "()V"⟩, 54), (⟨"LastLetterModel", "isFull", "()Z"⟩, 54), (⟨"LastLetterModel", "isWord", "(J)Z"⟩, 54), (⟨"LastLetterModel", "misplaced", "()V"⟩, 54), (⟨"LastLetterModel", "fails", "(II)V"⟩, 54), (⟨"LastLetterModel", "readWord", "()V"⟩, 54), (⟨"LastLetterModel", "wordHere", "()I"⟩, 54), (⟨"LastLetterModel", "must", "(Z)V"⟩, 54), (⟨"LastLetterModel", "numeral", "(II)I"⟩, 54), (⟨"LastLetterModel", "readLaw", "()V"⟩, 54)]
theorem lw_r4 : ∀ q ∈ lw_privs_4, lw_okq q := List.forall_mem_cons.mpr ⟨lw_p48, List.forall_mem_cons.mpr ⟨lw_p49, List.forall_mem_cons.mpr ⟨lw_p50, List.forall_mem_cons.mpr ⟨lw_p51, List.forall_mem_cons.mpr ⟨lw_p52, List.forall_mem_cons.mpr ⟨lw_p53, List.forall_mem_cons.mpr ⟨lw_p54, List.forall_mem_cons.mpr ⟨lw_p55, List.forall_mem_cons.mpr ⟨lw_p56, List.forall_mem_cons.mpr ⟨lw_p57, List.forall_mem_cons.mpr ⟨lw_p58, List.forall_mem_cons.mpr ⟨lw_p59, List.forall_mem_cons.mpr ⟨lw_p60, List.forall_mem_cons.mpr ⟨lw_p61, List.forall_mem_cons.mpr ⟨lw_p62, List.forall_mem_cons.mpr ⟨lw_p63, fun _ h => absurd h List.not_mem_nil⟩⟩⟩⟩⟩⟩⟩⟩⟩⟩⟩⟩⟩⟩⟩⟩
theorem lw_p64 : lw_okq (⟨"LastLetterModel", "readAlike", "()V"⟩, 54) := ⟨⟨by decide +kernel, by decide +kernel⟩, List.mem_of_getElem? (i := 996) (by decide +kernel), List.mem_of_getElem? (i := 1263) (by decide +kernel), List.mem_of_getElem? (i := 1264) (by decide +kernel)⟩
theorem lw_p65 : lw_okq (⟨"LastLetterModel", "letter", "()I"⟩, 54) := ⟨⟨by decide +kernel, by decide +kernel⟩, List.mem_of_getElem? (i := 996) (by decide +kernel), List.mem_of_getElem? (i := 1267) (by decide +kernel), List.mem_of_getElem? (i := 1268) (by decide +kernel)⟩
theorem lw_p66 : lw_okq (⟨"LastLetterModel", "readErrand", "()V"⟩, 54) := ⟨⟨by decide +kernel, by decide +kernel⟩, List.mem_of_getElem? (i := 996) (by decide +kernel), List.mem_of_getElem? (i := 1271) (by decide +kernel), List.mem_of_getElem? (i := 1272) (by decide +kernel)⟩
theorem lw_p67 : lw_okq (⟨"LastLetterModel", "errandOf", "(I)I"⟩, 54) := ⟨⟨by decide +kernel, by decide +kernel⟩, List.mem_of_getElem? (i := 996) (by decide +kernel), List.mem_of_getElem? (i := 1275) (by decide +kernel), List.mem_of_getElem? (i := 1276) (by decide +kernel)⟩
theorem lw_p68 : lw_okq (⟨"LastLetterModel", "isWordNumber", "(I)Z"⟩, 54) := ⟨⟨by decide +kernel, by decide +kernel⟩, List.mem_of_getElem? (i := 996) (by decide +kernel), List.mem_of_getElem? (i := 1288) (by decide +kernel), List.mem_of_getElem? (i := 1289) (by decide +kernel)⟩
theorem lw_p69 : lw_okq (⟨"LastLetterModel", "mayNow", "()I"⟩, 54) := ⟨⟨by decide +kernel, by decide +kernel⟩, List.mem_of_getElem? (i := 996) (by decide +kernel), List.mem_of_getElem? (i := 1299) (by decide +kernel), List.mem_of_getElem? (i := 1300) (by decide +kernel)⟩
theorem lw_p70 : lw_okq (⟨"LastLetterModel", "leftOf", "(I)I"⟩, 54) := ⟨⟨by decide +kernel, by decide +kernel⟩, List.mem_of_getElem? (i := 996) (by decide +kernel), List.mem_of_getElem? (i := 1303) (by decide +kernel), List.mem_of_getElem? (i := 1304) (by decide +kernel)⟩
theorem lw_p71 : lw_okq (⟨"LastLetterModel", "isAfter", "(II)Z"⟩, 54) := ⟨⟨by decide +kernel, by decide +kernel⟩, List.mem_of_getElem? (i := 996) (by decide +kernel), List.mem_of_getElem? (i := 1307) (by decide +kernel), List.mem_of_getElem? (i := 1308) (by decide +kernel)⟩
theorem lw_p72 : lw_okq (⟨"LastLetterModel", "says", "(I)V"⟩, 54) := ⟨⟨by decide +kernel, by decide +kernel⟩, List.mem_of_getElem? (i := 996) (by decide +kernel), List.mem_of_getElem? (i := 1319) (by decide +kernel), List.mem_of_getElem? (i := 1320) (by decide +kernel)⟩
theorem lw_p73 : lw_okq (⟨"LastLetterModel", "doneBy", "(II)I"⟩, 54) := ⟨⟨by decide +kernel, by decide +kernel⟩, List.mem_of_getElem? (i := 996) (by decide +kernel), List.mem_of_getElem? (i := 1323) (by decide +kernel), List.mem_of_getElem? (i := 1324) (by decide +kernel)⟩
theorem lw_p74 : lw_okq (⟨"LastLetterModel", "chooses", "(II)I"⟩, 54) := ⟨⟨by decide +kernel, by decide +kernel⟩, List.mem_of_getElem? (i := 996) (by decide +kernel), List.mem_of_getElem? (i := 1335) (by decide +kernel), List.mem_of_getElem? (i := 1336) (by decide +kernel)⟩
theorem lw_p75 : lw_okq (⟨"LastLetterModel", "draw", "(I)I"⟩, 54) := ⟨⟨by decide +kernel, by decide +kernel⟩, List.mem_of_getElem? (i := 996) (by decide +kernel), List.mem_of_getElem? (i := 1342) (by decide +kernel), List.mem_of_getElem? (i := 1343) (by decide +kernel)⟩
theorem lw_p76 : lw_okq (⟨"LastLetterModel", "weighed", "(II)I"⟩, 54) := ⟨⟨by decide +kernel, by decide +kernel⟩, List.mem_of_getElem? (i := 996) (by decide +kernel), List.mem_of_getElem? (i := 1347) (by decide +kernel), List.mem_of_getElem? (i := 1348) (by decide +kernel)⟩
theorem lw_p77 : lw_okq (⟨"LastLetterModel", "behind", "(I)I"⟩, 54) := ⟨⟨by decide +kernel, by decide +kernel⟩, List.mem_of_getElem? (i := 996) (by decide +kernel), List.mem_of_getElem? (i := 1351) (by decide +kernel), List.mem_of_getElem? (i := 1352) (by decide +kernel)⟩
theorem lw_p78 : lw_okq (⟨"LastLetterModel", "isMany", "()Z"⟩, 54) := ⟨⟨by decide +kernel, by decide +kernel⟩, List.mem_of_getElem? (i := 996) (by decide +kernel), List.mem_of_getElem? (i := 1363) (by decide +kernel), List.mem_of_getElem? (i := 1364) (by decide +kernel)⟩
theorem lw_p79 : lw_okq (⟨"LastLetterModel", "layBest", "(Z)I"⟩, 54) := ⟨⟨by decide +kernel, by decide +kernel⟩, List.mem_of_getElem? (i := 996) (by decide +kernel), List.mem_of_getElem? (i := 1367) (by decide +kernel), List.mem_of_getElem? (i := 1368) (by decide +kernel)⟩
def lw_privs_5 : List (MethodName × Nat) := [(⟨"LastLetterModel", "readAlike", "()V"⟩, 54), (⟨"LastLetterModel", "letter", "()I"⟩, 54), (⟨"LastLetterModel", "readErrand", "()V"⟩, 54), (⟨"LastLetterModel", "errandOf", "(I)I"⟩, 54), (⟨"LastLetterModel", "isWordNumber", "(I)Z"⟩, 54), (⟨"LastLetterModel", "mayNow", "()I"⟩, 54), (⟨"LastLetterModel", "leftOf", "(I)I"⟩, 54), (⟨"LastLetterModel", "isAfter", "(II)Z"⟩, 54), (⟨"LastLetterModel", "says", "(I)V"⟩, 54), (⟨"LastLetterModel", "doneBy", "(II)I"⟩, 54), (⟨"LastLetterModel", "chooses", "(II)I"⟩, 54), (⟨"LastLetterModel", "draw", "(I)I"⟩, 54), (⟨"LastLetterModel", "weighed", "(II)I"⟩, 54), (⟨"LastLetterModel", "behind", "(I)I"⟩, 54), (⟨"LastLetterModel", "isMany", "()Z"⟩, 54), (⟨"LastLetterModel", "layBest", "(Z)I"⟩, 54)]
theorem lw_r5 : ∀ q ∈ lw_privs_5, lw_okq q := List.forall_mem_cons.mpr ⟨lw_p64, List.forall_mem_cons.mpr ⟨lw_p65, List.forall_mem_cons.mpr ⟨lw_p66, List.forall_mem_cons.mpr ⟨lw_p67, List.forall_mem_cons.mpr ⟨lw_p68, List.forall_mem_cons.mpr ⟨lw_p69, List.forall_mem_cons.mpr ⟨lw_p70, List.forall_mem_cons.mpr ⟨lw_p71, List.forall_mem_cons.mpr ⟨lw_p72, List.forall_mem_cons.mpr ⟨lw_p73, List.forall_mem_cons.mpr ⟨lw_p74, List.forall_mem_cons.mpr ⟨lw_p75, List.forall_mem_cons.mpr ⟨lw_p76, List.forall_mem_cons.mpr ⟨lw_p77, List.forall_mem_cons.mpr ⟨lw_p78, List.forall_mem_cons.mpr ⟨lw_p79, fun _ h => absurd h List.not_mem_nil⟩⟩⟩⟩⟩⟩⟩⟩⟩⟩⟩⟩⟩⟩⟩⟩
theorem lw_p80 : lw_okq (⟨"LastLetterModel", "layMore", "(Z)V"⟩, 54) := ⟨⟨by decide +kernel, by decide +kernel⟩, List.mem_of_getElem? (i := 996) (by decide +kernel), List.mem_of_getElem? (i := 1371) (by decide +kernel), List.mem_of_getElem? (i := 1372) (by decide +kernel)⟩
theorem lw_p81 : lw_okq (⟨"LastLetterModel", "gives", "(IZ)I"⟩, 54) := ⟨⟨by decide +kernel, by decide +kernel⟩, List.mem_of_getElem? (i := 996) (by decide +kernel), List.mem_of_getElem? (i := 1375) (by decide +kernel), List.mem_of_getElem? (i := 1376) (by decide +kernel)⟩
theorem lw_p82 : lw_okq (⟨"LastLetterModel", "lay", "(I)V"⟩, 54) := ⟨⟨by decide +kernel, by decide +kernel⟩, List.mem_of_getElem? (i := 996) (by decide +kernel), List.mem_of_getElem? (i := 1379) (by decide +kernel), List.mem_of_getElem? (i := 1380) (by decide +kernel)⟩
theorem lw_p83 : lw_okq (⟨"LastLetterModel", "layRound", "(I)Z"⟩, 54) := ⟨⟨by decide +kernel, by decide +kernel⟩, List.mem_of_getElem? (i := 996) (by decide +kernel), List.mem_of_getElem? (i := 1391) (by decide +kernel), List.mem_of_getElem? (i := 1392) (by decide +kernel)⟩
theorem lw_p84 : lw_okq (⟨"LastLetterModel", "layBreaks", "()V"⟩, 54) := ⟨⟨by decide +kernel, by decide +kernel⟩, List.mem_of_getElem? (i := 996) (by decide +kernel), List.mem_of_getElem? (i := 1399) (by decide +kernel), List.mem_of_getElem? (i := 1400) (by decide +kernel)⟩
theorem lw_p85 : lw_okq (⟨"LastLetterModel", "longestBut", "(I)I"⟩, 54) := ⟨⟨by decide +kernel, by decide +kernel⟩, List.mem_of_getElem? (i := 996) (by decide +kernel), List.mem_of_getElem? (i := 1407) (by decide +kernel), List.mem_of_getElem? (i := 1408) (by decide +kernel)⟩
theorem lw_p86 : lw_okq (⟨"LastLetterModel", "surplusOf", "(I)I"⟩, 54) := ⟨⟨by decide +kernel, by decide +kernel⟩, List.mem_of_getElem? (i := 996) (by decide +kernel), List.mem_of_getElem? (i := 1419) (by decide +kernel), List.mem_of_getElem? (i := 1420) (by decide +kernel)⟩
theorem lw_p87 : lw_okq (⟨"LastLetterModel", "layFar", "(I)V"⟩, 54) := ⟨⟨by decide +kernel, by decide +kernel⟩, List.mem_of_getElem? (i := 996) (by decide +kernel), List.mem_of_getElem? (i := 1431) (by decide +kernel), List.mem_of_getElem? (i := 1432) (by decide +kernel)⟩
theorem lw_p88 : lw_okq (⟨"LastLetterModel", "layGame", "()V"⟩, 54) := ⟨⟨by decide +kernel, by decide +kernel⟩, List.mem_of_getElem? (i := 996) (by decide +kernel), List.mem_of_getElem? (i := 1443) (by decide +kernel), List.mem_of_getElem? (i := 1444) (by decide +kernel)⟩
theorem lw_p89 : lw_okq (⟨"LastLetterModel", "layDeep", "()V"⟩, 54) := ⟨⟨by decide +kernel, by decide +kernel⟩, List.mem_of_getElem? (i := 996) (by decide +kernel), List.mem_of_getElem? (i := 1455) (by decide +kernel), List.mem_of_getElem? (i := 1456) (by decide +kernel)⟩
theorem lw_p90 : lw_okq (⟨"LastLetterModel", "layWays", "(II)V"⟩, 54) := ⟨⟨by decide +kernel, by decide +kernel⟩, List.mem_of_getElem? (i := 996) (by decide +kernel), List.mem_of_getElem? (i := 1489) (by decide +kernel), List.mem_of_getElem? (i := 1490) (by decide +kernel)⟩
theorem lw_p91 : lw_okq (⟨"LastLetterModel", "isHeard", "(III)Z"⟩, 54) := ⟨⟨by decide +kernel, by decide +kernel⟩, List.mem_of_getElem? (i := 996) (by decide +kernel), List.mem_of_getElem? (i := 1497) (by decide +kernel), List.mem_of_getElem? (i := 1498) (by decide +kernel)⟩
def lw_privs_6 : List (MethodName × Nat) := [(⟨"LastLetterModel", "layMore", "(Z)V"⟩, 54), (⟨"LastLetterModel", "gives", "(IZ)I"⟩, 54), (⟨"LastLetterModel", "lay", "(I)V"⟩, 54), (⟨"LastLetterModel", "layRound", "(I)Z"⟩, 54), (⟨"LastLetterModel", "layBreaks", "()V"⟩, 54), (⟨"LastLetterModel", "longestBut", "(I)I"⟩, 54), (⟨"LastLetterModel", "surplusOf", "(I)I"⟩, 54), (⟨"LastLetterModel", "layFar", "(I)V"⟩, 54), (⟨"LastLetterModel", "layGame", "()V"⟩, 54), (⟨"LastLetterModel", "layDeep", "()V"⟩, 54), (⟨"LastLetterModel", "layWays", "(II)V"⟩, 54), (⟨"LastLetterModel", "isHeard", "(III)Z"⟩, 54)]
theorem lw_r6 : ∀ q ∈ lw_privs_6, lw_okq q := List.forall_mem_cons.mpr ⟨lw_p80, List.forall_mem_cons.mpr ⟨lw_p81, List.forall_mem_cons.mpr ⟨lw_p82, List.forall_mem_cons.mpr ⟨lw_p83, List.forall_mem_cons.mpr ⟨lw_p84, List.forall_mem_cons.mpr ⟨lw_p85, List.forall_mem_cons.mpr ⟨lw_p86, List.forall_mem_cons.mpr ⟨lw_p87, List.forall_mem_cons.mpr ⟨lw_p88, List.forall_mem_cons.mpr ⟨lw_p89, List.forall_mem_cons.mpr ⟨lw_p90, List.forall_mem_cons.mpr ⟨lw_p91, fun _ h => absurd h List.not_mem_nil⟩⟩⟩⟩⟩⟩⟩⟩⟩⟩⟩⟩
def lw_privs : List (MethodName × Nat) := lw_privs_1 ++ (lw_privs_2 ++ (lw_privs_3 ++ (lw_privs_4 ++ (lw_privs_5 ++ (lw_privs_6)))))
def lw_tbl : List Cond := k2_sels lw_privs ++ tables_1
theorem lw_privs_ok : ∀ q ∈ lw_privs, lw_okq q := by
  show ∀ q ∈ lw_privs_1 ++ (lw_privs_2 ++ (lw_privs_3 ++ (lw_privs_4 ++ (lw_privs_5 ++ (lw_privs_6))))), lw_okq q
  exact List.forall_mem_append.mpr ⟨lw_r1, List.forall_mem_append.mpr ⟨lw_r2, List.forall_mem_append.mpr ⟨lw_r3, List.forall_mem_append.mpr ⟨lw_r4, List.forall_mem_append.mpr ⟨lw_r5, lw_r6⟩⟩⟩⟩⟩

/-! ===== BEGIN words of one list among another's, by their places ===== -/
theorem goodIn_r {big : List Cond} (ws : List Cond) (ps : List Nat) (hp : ws = ps.filterMap (fun i => big[i]?)) (h : ws.all goodWord = true) : GoodIn big ws := by
  intro w hw
  have h1 := List.all_eq_true.mp h w hw
  rw [hp] at hw
  obtain ⟨i, -, hi⟩ := List.mem_filterMap.mp hw
  have hm : w ∈ big := by first | exact List.mem_of_getElem? hi | exact List.getElem?_mem hi
  exact ⟨hm, good_of_word h1⟩
theorem goodIn_app {big a b : List Cond} (ha : GoodIn big a) (hb : GoodIn big b) : GoodIn big (a ++ b) := fun w h => (List.mem_append.mp h).elim (ha w) (hb w)
theorem goodIn_ca {big a b : List Cond} {c : Cond} (ha : GoodIn big (c :: a)) (hb : GoodIn big b) : GoodIn big (c :: (a ++ b)) := fun w h => (List.mem_cons.mp h).elim (fun e => ha w (List.mem_cons.mpr (Or.inl e))) (fun h => (List.mem_append.mp h).elim (fun h => ha w (List.mem_cons.mpr (Or.inr h))) (hb w))
theorem goodIn_sub {big ws : List Cond} (hm : ∀ w ∈ ws, w ∈ big) (h : ws.all goodWord = true) : GoodIn big ws := fun w hw => ⟨hm w hw, good_of_word (List.all_eq_true.mp h w hw)⟩
/-! ===== END ===== -/

/-! ===== BEGIN printed: names, fields, word lists, decode rows ===== -/
def RX0 : String := "LastLetter$Games"
def TX0 : u_T := fun k => match k with
  | 0 => ("LastLetter$Games", "won", "[I", false)
  | 1 => ("LastLetter$Games", "depths", "[J", false)
  | 2 => ("LastLetter$Games", "gains", "[S", false)
  | 3 => ("LastLetter$Games", "isWonKnown", "Z", false)
  | 4 => ("LastLetter$Games", "isDepthKnown", "Z", false)
  | _ => ("LastLetter$Games", "isGainKnown", "Z", false)
def tyX0 : Nat → FieldType := fun k => match k with
  | 0 => .array .int
  | 1 => .array .long
  | 2 => .array .short
  | 3 => .boolean
  | 4 => .boolean
  | _ => .boolean
abbrev wsX00 : List Cond := u_ws RX0 TX0 6
theorem nmX0 : ∀ a, a < 6 → ∀ b, b < 6 → a ≠ b → (TX0 a).2.1 ≠ (TX0 b).2.1 := by decide +kernel
theorem tyX0_ok : ∀ k, k < 6 → parseFieldDescriptor (TX0 k).2.2.1 = some (tyX0 k) := by decide +kernel
abbrev cX0_init : ByteArray := prog_2_method_1_code
def yX0_init : MethodName := ⟨RX0, "<init>", "()V"⟩
abbrev cX0_forget : ByteArray := prog_2_method_2_code
def yX0_forget : MethodName := ⟨RX0, "forget", "()V"⟩
abbrev cX0_isWon : ByteArray := prog_2_method_3_code
def yX0_isWon : MethodName := ⟨RX0, "isWon", "(LLastLetter$Tongue;I)Z"⟩
abbrev cX0_firstWinning : ByteArray := prog_2_method_4_code
def yX0_firstWinning : MethodName := ⟨RX0, "firstWinning", "(LLastLetter$Tongue;I)I"⟩
abbrev cX0_lengthBehind : ByteArray := prog_2_method_5_code
def yX0_lengthBehind : MethodName := ⟨RX0, "lengthBehind", "(LLastLetter$Tongue;I)I"⟩
abbrev cX0_gainBehind : ByteArray := prog_2_method_6_code
def yX0_gainBehind : MethodName := ⟨RX0, "gainBehind", "(LLastLetter$Tongue;I)I"⟩
abbrev cX0_isLostBehind : ByteArray := prog_2_method_7_code
def yX0_isLostBehind : MethodName := ⟨RX0, "isLostBehind", "(II)Z"⟩
abbrev cX0_learnWon : ByteArray := prog_2_method_8_code
def yX0_learnWon : MethodName := ⟨RX0, "learnWon", "(LLastLetter$Tongue;)V"⟩
abbrev cX0_depth : ByteArray := prog_2_method_9_code
def yX0_depth : MethodName := ⟨RX0, "depth", "(II)I"⟩
abbrev cX0_learnDepths : ByteArray := prog_2_method_10_code
def yX0_learnDepths : MethodName := ⟨RX0, "learnDepths", "(LLastLetter$Tongue;)V"⟩
abbrev cX0_bestDepth : ByteArray := prog_2_method_11_code
def yX0_bestDepth : MethodName := ⟨RX0, "bestDepth", "(IIZ)I"⟩
abbrev cX0_learnGains : ByteArray := prog_2_method_12_code
def yX0_learnGains : MethodName := ⟨RX0, "learnGains", "(LLastLetter$Tongue;)V"⟩
abbrev cX0_bestGain : ByteArray := prog_2_method_13_code
def yX0_bestGain : MethodName := ⟨RX0, "bestGain", "(LLastLetter$Tongue;II)I"⟩
abbrev cX0_endless : ByteArray := prog_2_method_14_code
def yX0_endless : MethodName := ⟨RX0, "endless", "(LLastLetter$Tongue;I)I"⟩
def RX1 : String := "LastLetter$Letters"
def TX1 : u_T := fun k => match k with
  | _ => ("LastLetter$Letters", "group", "[I", true)
def tyX1 : Nat → FieldType := fun k => match k with
  | _ => .array .int
abbrev wsX10 : List Cond := u_ws RX1 TX1 1
theorem nmX1 : ∀ a, a < 1 → ∀ b, b < 1 → a ≠ b → (TX1 a).2.1 ≠ (TX1 b).2.1 := by decide +kernel
theorem tyX1_ok : ∀ k, k < 1 → parseFieldDescriptor (TX1 k).2.2.1 = some (tyX1 k) := by decide +kernel
abbrev cX1_init : ByteArray := prog_3_method_1_code
def yX1_init : MethodName := ⟨RX1, "<init>", "()V"⟩
abbrev cX1_balance : ByteArray := prog_3_method_2_code
def yX1_balance : MethodName := ⟨RX1, "balance", "(LLastLetter$Tongue;I)I"⟩
abbrev cX1_lacking : ByteArray := prog_3_method_3_code
def yX1_lacking : MethodName := ⟨RX1, "lacking", "(LLastLetter$Tongue;)I"⟩
abbrev cX1_gather : ByteArray := prog_3_method_4_code
def yX1_gather : MethodName := ⟨RX1, "gather", "(LLastLetter$Tongue;)V"⟩
abbrev cX1_hasWords : ByteArray := prog_3_method_5_code
def yX1_hasWords : MethodName := ⟨RX1, "hasWords", "(LLastLetter$Tongue;I)Z"⟩
abbrev cX1_surplusOf : ByteArray := prog_3_method_6_code
def yX1_surplusOf : MethodName := ⟨RX1, "surplusOf", "(LLastLetter$Tongue;I)I"⟩
def RX2 : String := "LastLetter$Orders"
def TX2 : u_T := fun k => match k with
  | 0 => ("LastLetter$Orders", "breaks", "[B", false)
  | 1 => ("LastLetter$Orders", "starts", "[I", false)
  | 2 => ("LastLetter$Orders", "worths", "[I", false)
  | 3 => ("LastLetter$Orders", "closing", "[I", false)
  | 4 => ("LastLetter$Orders", "isKnown", "Z", false)
  | _ => ("LastLetter$Orders", "isClosingKnown", "Z", false)
def tyX2 : Nat → FieldType := fun k => match k with
  | 0 => .array .byte
  | 1 => .array .int
  | 2 => .array .int
  | 3 => .array .int
  | 4 => .boolean
  | _ => .boolean
abbrev wsX20 : List Cond := u_ws RX2 TX2 6
theorem nmX2 : ∀ a, a < 6 → ∀ b, b < 6 → a ≠ b → (TX2 a).2.1 ≠ (TX2 b).2.1 := by decide +kernel
theorem tyX2_ok : ∀ k, k < 6 → parseFieldDescriptor (TX2 k).2.2.1 = some (tyX2 k) := by decide +kernel
abbrev cX2_init : ByteArray := prog_4_method_1_code
def yX2_init : MethodName := ⟨RX2, "<init>", "()V"⟩
abbrev cX2_forget : ByteArray := prog_4_method_2_code
def yX2_forget : MethodName := ⟨RX2, "forget", "()V"⟩
abbrev cX2_layWhole : ByteArray := prog_4_method_3_code
def yX2_layWhole : MethodName := ⟨RX2, "layWhole", "(LLastLetter$Tongue;LLastLetter$Row;)Z"⟩
abbrev cX2_layParts : ByteArray := prog_4_method_4_code
def yX2_layParts : MethodName := ⟨RX2, "layParts", "(LLastLetter$Tongue;LLastLetter$Row;)I"⟩
abbrev cX2_cheapest : ByteArray := prog_4_method_5_code
def yX2_cheapest : MethodName := ⟨RX2, "cheapest", "(LLastLetter$Tongue;III)I"⟩
abbrev cX2_breaksBehind : ByteArray := prog_4_method_6_code
def yX2_breaksBehind : MethodName := ⟨RX2, "breaksBehind", "(LLastLetter$Tongue;II)I"⟩
abbrev cX2_layMost : ByteArray := prog_4_method_7_code
def yX2_layMost : MethodName := ⟨RX2, "layMost", "(LLastLetter$Tongue;LLastLetter$Row;Z)I"⟩
abbrev cX2_lossWithout : ByteArray := prog_4_method_8_code
def yX2_lossWithout : MethodName := ⟨RX2, "lossWithout", "(LLastLetter$Tongue;I)I"⟩
abbrev cX2_mostWithin : ByteArray := prog_4_method_9_code
def yX2_mostWithin : MethodName := ⟨RX2, "mostWithin", "(IZ)I"⟩
abbrev cX2_beginnings : ByteArray := prog_4_method_10_code
def yX2_beginnings : MethodName := ⟨RX2, "beginnings", "(IIZ)I"⟩
abbrev cX2_amount : ByteArray := prog_4_method_11_code
def yX2_amount : MethodName := ⟨RX2, "amount", "(IZ)I"⟩
abbrev cX2_learn : ByteArray := prog_4_method_12_code
def yX2_learn : MethodName := ⟨RX2, "learn", "(LLastLetter$Tongue;)V"⟩
abbrev cX2_learnSet : ByteArray := prog_4_method_13_code
def yX2_learnSet : MethodName := ⟨RX2, "learnSet", "(LLastLetter$Tongue;I)V"⟩
abbrev cX2_layRound : ByteArray := prog_4_method_14_code
def yX2_layRound : MethodName := ⟨RX2, "layRound", "(LLastLetter$Tongue;LLastLetter$Row;)Z"⟩
abbrev cX2_onward : ByteArray := prog_4_method_15_code
def yX2_onward : MethodName := ⟨RX2, "onward", "(LLastLetter$Tongue;II)I"⟩
abbrev cX2_learnClosing : ByteArray := prog_4_method_16_code
def yX2_learnClosing : MethodName := ⟨RX2, "learnClosing", "(LLastLetter$Tongue;)V"⟩
def RX3 : String := "LastLetter$Reader"
def TX3 : u_T := fun k => match k with
  | 0 => ("LastLetter$Reader", "tape", "LLastLetter$Tape;", true)
  | 1 => ("LastLetter$Reader", "behind", "I", false)
  | 2 => ("LastLetter$Reader", "kind", "I", false)
  | 3 => ("LastLetter$Reader", "start", "I", false)
  | 4 => ("LastLetter$Reader", "fault", "I", false)
  | _ => ("LastLetter$Reader", "place", "I", false)
def tyX3 : Nat → FieldType := fun k => match k with
  | 0 => .object "LastLetter$Tape"
  | 1 => .int
  | 2 => .int
  | 3 => .int
  | 4 => .int
  | _ => .int
abbrev wsX30 : List Cond := u_ws RX3 TX3 6
theorem nmX3 : ∀ a, a < 6 → ∀ b, b < 6 → a ≠ b → (TX3 a).2.1 ≠ (TX3 b).2.1 := by decide +kernel
theorem tyX3_ok : ∀ k, k < 6 → parseFieldDescriptor (TX3 k).2.2.1 = some (tyX3 k) := by decide +kernel
abbrev cX3_init : ByteArray := prog_5_method_1_code
def yX3_init : MethodName := ⟨RX3, "<init>", "(LLastLetter$Tape;)V"⟩
abbrev cX3_reads : ByteArray := prog_5_method_2_code
def yX3_reads : MethodName := ⟨RX3, "reads", "(LLastLetter$Tongue;)Z"⟩
abbrev cX3_readLine : ByteArray := prog_5_method_3_code
def yX3_readLine : MethodName := ⟨RX3, "readLine", "(LLastLetter$Tongue;)V"⟩
abbrev cX3_readWord : ByteArray := prog_5_method_4_code
def yX3_readWord : MethodName := ⟨RX3, "readWord", "(LLastLetter$Tongue;)V"⟩
abbrev cX3_readLaw : ByteArray := prog_5_method_5_code
def yX3_readLaw : MethodName := ⟨RX3, "readLaw", "(LLastLetter$Tongue;)V"⟩
abbrev cX3_readAlike : ByteArray := prog_5_method_6_code
def yX3_readAlike : MethodName := ⟨RX3, "readAlike", "(LLastLetter$Tongue;)V"⟩
abbrev cX3_readErrand : ByteArray := prog_5_method_7_code
def yX3_readErrand : MethodName := ⟨RX3, "readErrand", "(LLastLetter$Tongue;)V"⟩
abbrev cX3_refuse : ByteArray := prog_5_method_8_code
def yX3_refuse : MethodName := ⟨RX3, "refuse", "(I)V"⟩
abbrev cX3_step : ByteArray := prog_5_method_9_code
def yX3_step : MethodName := ⟨RX3, "step", "()V"⟩
abbrev cX3_stepLetters : ByteArray := prog_5_method_10_code
def yX3_stepLetters : MethodName := ⟨RX3, "stepLetters", "()V"⟩
abbrev cX3_stepDigits : ByteArray := prog_5_method_11_code
def yX3_stepDigits : MethodName := ⟨RX3, "stepDigits", "()V"⟩
abbrev cX3_isWritten : ByteArray := prog_5_method_12_code
def yX3_isWritten : MethodName := ⟨RX3, "isWritten", "(Ljava/lang/String;)Z"⟩
abbrev cX3_name : ByteArray := prog_5_method_13_code
def yX3_name : MethodName := ⟨RX3, "name", "()J"⟩
abbrev cX3_letter : ByteArray := prog_5_method_14_code
def yX3_letter : MethodName := ⟨RX3, "letter", "()I"⟩
abbrev cX3_number : ByteArray := prog_5_method_15_code
def yX3_number : MethodName := ⟨RX3, "number", "(II)I"⟩
abbrev cX3_isBlank : ByteArray := prog_5_method_16_code
def yX3_isBlank : MethodName := ⟨RX3, "isBlank", "(I)Z"⟩
abbrev cX3_isLetter : ByteArray := prog_5_method_17_code
def yX3_isLetter : MethodName := ⟨RX3, "isLetter", "(I)Z"⟩
abbrev cX3_isDigit : ByteArray := prog_5_method_18_code
def yX3_isDigit : MethodName := ⟨RX3, "isDigit", "(I)Z"⟩
def RX4 : String := "LastLetter$Row"
def TX4 : u_T := fun k => match k with
  | 0 => ("LastLetter$Row", "items", "[I", true)
  | _ => ("LastLetter$Row", "size", "I", false)
def tyX4 : Nat → FieldType := fun k => match k with
  | 0 => .array .int
  | _ => .int
abbrev wsX40 : List Cond := u_ws RX4 TX4 2
theorem nmX4 : ∀ a, a < 2 → ∀ b, b < 2 → a ≠ b → (TX4 a).2.1 ≠ (TX4 b).2.1 := by decide +kernel
theorem tyX4_ok : ∀ k, k < 2 → parseFieldDescriptor (TX4 k).2.2.1 = some (tyX4 k) := by decide +kernel
abbrev cX4_init : ByteArray := prog_6_method_1_code
def yX4_init : MethodName := ⟨RX4, "<init>", "()V"⟩
abbrev cX4_add : ByteArray := prog_6_method_2_code
def yX4_add : MethodName := ⟨RX4, "add", "(I)V"⟩
abbrev cX4_turn : ByteArray := prog_6_method_3_code
def yX4_turn : MethodName := ⟨RX4, "turn", "()V"⟩
def RX5 : String := "LastLetter$Search"
def TX5 : u_T := fun k => match k with
  | 0 => ("LastLetter$Search", "ahead", "[I", true)
  | 1 => ("LastLetter$Search", "queue", "[I", true)
  | _ => ("LastLetter$Search", "queued", "I", false)
def tyX5 : Nat → FieldType := fun k => match k with
  | 0 => .array .int
  | 1 => .array .int
  | _ => .int
abbrev wsX50 : List Cond := u_ws RX5 TX5 3
theorem nmX5 : ∀ a, a < 3 → ∀ b, b < 3 → a ≠ b → (TX5 a).2.1 ≠ (TX5 b).2.1 := by decide +kernel
theorem tyX5_ok : ∀ k, k < 3 → parseFieldDescriptor (TX5 k).2.2.1 = some (tyX5 k) := by decide +kernel
abbrev cX5_init : ByteArray := prog_7_method_1_code
def yX5_init : MethodName := ⟨RX5, "<init>", "()V"⟩
abbrev cX5_layJoin : ByteArray := prog_7_method_2_code
def yX5_layJoin : MethodName := ⟨RX5, "layJoin", "(LLastLetter$Tongue;LLastLetter$Row;II)I"⟩
abbrev cX5_layTelling : ByteArray := prog_7_method_3_code
def yX5_layTelling : MethodName := ⟨RX5, "layTelling", "(LLastLetter$Tongue;LLastLetter$Row;)I"⟩
abbrev cX5_begin : ByteArray := prog_7_method_4_code
def yX5_begin : MethodName := ⟨RX5, "begin", "()V"⟩
abbrev cX5_enter : ByteArray := prog_7_method_5_code
def yX5_enter : MethodName := ⟨RX5, "enter", "(LLastLetter$Tongue;IIZ)V"⟩
abbrev cX5_lay : ByteArray := prog_7_method_6_code
def yX5_lay : MethodName := ⟨RX5, "lay", "(LLastLetter$Row;I)I"⟩
def RX6 : String := "LastLetter$Talk"
def TX6 : u_T := fun k => match k with
  | 0 => ("LastLetter$Talk", "said", "[I", true)
  | 1 => ("LastLetter$Talk", "latest", "I", false)
  | 2 => ("LastLetter$Talk", "spoken", "I", false)
  | 3 => ("LastLetter$Talk", "earned", "I", false)
  | 4 => ("LastLetter$Talk", "doneErrands", "I", false)
  | 5 => ("LastLetter$Talk", "w", "I", false)
  | _ => ("LastLetter$Talk", "kept", "Z", false)
def tyX6 : Nat → FieldType := fun k => match k with
  | 0 => .array .int
  | 1 => .int
  | 2 => .int
  | 3 => .int
  | 4 => .int
  | 5 => .int
  | _ => .boolean
abbrev wsX60 : List Cond := u_ws RX6 TX6 7
theorem nmX6 : ∀ a, a < 7 → ∀ b, b < 7 → a ≠ b → (TX6 a).2.1 ≠ (TX6 b).2.1 := by decide +kernel
theorem tyX6_ok : ∀ k, k < 7 → parseFieldDescriptor (TX6 k).2.2.1 = some (tyX6 k) := by decide +kernel
abbrev cX6_init : ByteArray := prog_8_method_1_code
def yX6_init : MethodName := ⟨RX6, "<init>", "()V"⟩
abbrev cX6_forget : ByteArray := prog_8_method_2_code
def yX6_forget : MethodName := ⟨RX6, "forget", "()V"⟩
abbrev cX6_begin : ByteArray := prog_8_method_3_code
def yX6_begin : MethodName := ⟨RX6, "begin", "()V"⟩
abbrev cX6_copy : ByteArray := prog_8_method_4_code
def yX6_copy : MethodName := ⟨RX6, "copy", "(LLastLetter$Talk;)V"⟩
abbrev cX6_left : ByteArray := prog_8_method_5_code
def yX6_left : MethodName := ⟨RX6, "left", "(LLastLetter$Tongue;I)I"⟩
abbrev cX6_open : ByteArray := prog_8_method_6_code
def yX6_open : MethodName := ⟨RX6, "open", "(LLastLetter$Tongue;)I"⟩
abbrev cX6_speak : ByteArray := prog_8_method_7_code
def yX6_speak : MethodName := ⟨RX6, "speak", "(LLastLetter$Tongue;I)V"⟩
abbrev cX6_choose : ByteArray := prog_8_method_8_code
def yX6_choose : MethodName := ⟨RX6, "choose", "(LLastLetter$Tongue;I)I"⟩
abbrev cX6_rank : ByteArray := prog_8_method_9_code
def yX6_rank : MethodName := ⟨RX6, "rank", "(LLastLetter$Tongue;II)I"⟩
abbrev cX6_openBehind : ByteArray := prog_8_method_10_code
def yX6_openBehind : MethodName := ⟨RX6, "openBehind", "(LLastLetter$Tongue;I)I"⟩
abbrev cX6_drawn : ByteArray := prog_8_method_11_code
def yX6_drawn : MethodName := ⟨RX6, "drawn", "(I)I"⟩
def RX7 : String := "LastLetter$Tape"
def TX7 : u_T := fun k => match k with
  | 0 => ("LastLetter$Tape", "bytes", "[B", true)
  | _ => ("LastLetter$Tape", "size", "I", false)
def tyX7 : Nat → FieldType := fun k => match k with
  | 0 => .array .byte
  | _ => .int
abbrev wsX70 : List Cond := u_ws RX7 TX7 2
theorem nmX7 : ∀ a, a < 2 → ∀ b, b < 2 → a ≠ b → (TX7 a).2.1 ≠ (TX7 b).2.1 := by decide +kernel
theorem tyX7_ok : ∀ k, k < 2 → parseFieldDescriptor (TX7 k).2.2.1 = some (tyX7 k) := by decide +kernel
abbrev cX7_init : ByteArray := prog_9_method_1_code
def yX7_init : MethodName := ⟨RX7, "<init>", "()V"⟩
abbrev cX7_put : ByteArray := prog_9_method_2_code
def yX7_put : MethodName := ⟨RX7, "put", "(I)V"⟩
abbrev cX7_at : ByteArray := prog_9_method_3_code
def yX7_at : MethodName := ⟨RX7, "at", "(I)I"⟩
def RX8 : String := "LastLetter$Tongue"
def TX8 : u_T := fun k => match k with
  | 0 => ("LastLetter$Tongue", "name", "[J", true)
  | 1 => ("LastLetter$Tongue", "worth", "[I", true)
  | 2 => ("LastLetter$Tongue", "times", "[I", true)
  | 3 => ("LastLetter$Tongue", "first", "[I", true)
  | 4 => ("LastLetter$Tongue", "second", "[I", true)
  | 5 => ("LastLetter$Tongue", "beforeLast", "[I", true)
  | 6 => ("LastLetter$Tongue", "last", "[I", true)
  | 7 => ("LastLetter$Tongue", "errandOf", "[I", true)
  | 8 => ("LastLetter$Tongue", "errandAfter", "[I", true)
  | 9 => ("LastLetter$Tongue", "sound", "[I", true)
  | 10 => ("LastLetter$Tongue", "followers", "[I", true)
  | 11 => ("LastLetter$Tongue", "leaders", "[I", true)
  | 12 => ("LastLetter$Tongue", "words", "I", false)
  | 13 => ("LastLetter$Tongue", "errands", "I", false)
  | 14 => ("LastLetter$Tongue", "alikes", "I", false)
  | _ => ("LastLetter$Tongue", "law", "I", false)
def tyX8 : Nat → FieldType := fun k => match k with
  | 0 => .array .long
  | 1 => .array .int
  | 2 => .array .int
  | 3 => .array .int
  | 4 => .array .int
  | 5 => .array .int
  | 6 => .array .int
  | 7 => .array .int
  | 8 => .array .int
  | 9 => .array .int
  | 10 => .array .int
  | 11 => .array .int
  | 12 => .int
  | 13 => .int
  | 14 => .int
  | _ => .int
abbrev wsX80 : List Cond := u_ws RX8 TX8 16
theorem nmX8 : ∀ a, a < 16 → ∀ b, b < 16 → a ≠ b → (TX8 a).2.1 ≠ (TX8 b).2.1 := by decide +kernel
theorem tyX8_ok : ∀ k, k < 16 → parseFieldDescriptor (TX8 k).2.2.1 = some (tyX8 k) := by decide +kernel
abbrev cX8_init : ByteArray := prog_10_method_1_code
def yX8_init : MethodName := ⟨RX8, "<init>", "()V"⟩
abbrev cX8_clear : ByteArray := prog_10_method_2_code
def yX8_clear : MethodName := ⟨RX8, "clear", "()V"⟩
abbrev cX8_has : ByteArray := prog_10_method_3_code
def yX8_has : MethodName := ⟨RX8, "has", "(I)Z"⟩
abbrev cX8_isTooBig : ByteArray := prog_10_method_4_code
def yX8_isTooBig : MethodName := ⟨RX8, "isTooBig", "()Z"⟩
abbrev cX8_everyWord : ByteArray := prog_10_method_5_code
def yX8_everyWord : MethodName := ⟨RX8, "everyWord", "()I"⟩
abbrev cX8_find : ByteArray := prog_10_method_6_code
def yX8_find : MethodName := ⟨RX8, "find", "(J)I"⟩
abbrev cX8_errandNamed : ByteArray := prog_10_method_7_code
def yX8_errandNamed : MethodName := ⟨RX8, "errandNamed", "(J)I"⟩
abbrev cX8_addWord : ByteArray := prog_10_method_8_code
def yX8_addWord : MethodName := ⟨RX8, "addWord", "(JII)V"⟩
abbrev cX8_spell : ByteArray := prog_10_method_9_code
def yX8_spell : MethodName := ⟨RX8, "spell", "(LLastLetter$Tape;II)V"⟩
abbrev cX8_addAlike : ByteArray := prog_10_method_10_code
def yX8_addAlike : MethodName := ⟨RX8, "addAlike", "(II)V"⟩
abbrev cX8_addErrand : ByteArray := prog_10_method_11_code
def yX8_addErrand : MethodName := ⟨RX8, "addErrand", "(II)V"⟩
abbrev cX8_link : ByteArray := prog_10_method_12_code
def yX8_link : MethodName := ⟨RX8, "link", "()V"⟩
abbrev cX8_allows : ByteArray := prog_10_method_13_code
def yX8_allows : MethodName := ⟨RX8, "allows", "(II)Z"⟩
abbrev cX8_areAlike : ByteArray := prog_10_method_14_code
def yX8_areAlike : MethodName := ⟨RX8, "areAlike", "(II)Z"⟩
abbrev cX8_doneBehind : ByteArray := prog_10_method_15_code
def yX8_doneBehind : MethodName := ⟨RX8, "doneBehind", "(II)I"⟩
def RX9 : String := "LastLetter$Wall"
def TX9 : u_T := fun k => match k with
  | 0 => ("LastLetter$Wall", "places", "[I", true)
  | 1 => ("LastLetter$Wall", "kinds", "[I", true)
  | 2 => ("LastLetter$Wall", "values", "[I", true)
  | 3 => ("LastLetter$Wall", "toldAt", "[I", true)
  | 4 => ("LastLetter$Wall", "untoldAt", "[I", true)
  | 5 => ("LastLetter$Wall", "standing", "[I", true)
  | 6 => ("LastLetter$Wall", "rows", "[J", false)
  | 7 => ("LastLetter$Wall", "longer", "[J", false)
  | 8 => ("LastLetter$Wall", "sounds", "I", false)
  | _ => ("LastLetter$Wall", "time", "I", false)
def tyX9 : Nat → FieldType := fun k => match k with
  | 0 => .array .int
  | 1 => .array .int
  | 2 => .array .int
  | 3 => .array .int
  | 4 => .array .int
  | 5 => .array .int
  | 6 => .array .long
  | 7 => .array .long
  | 8 => .int
  | _ => .int
abbrev wsX90 : List Cond := u_ws RX9 TX9 10
theorem nmX9 : ∀ a, a < 10 → ∀ b, b < 10 → a ≠ b → (TX9 a).2.1 ≠ (TX9 b).2.1 := by decide +kernel
theorem tyX9_ok : ∀ k, k < 10 → parseFieldDescriptor (TX9 k).2.2.1 = some (tyX9 k) := by decide +kernel
abbrev cX9_init : ByteArray := prog_11_method_1_code
def yX9_init : MethodName := ⟨RX9, "<init>", "()V"⟩
abbrev cX9_add : ByteArray := prog_11_method_2_code
def yX9_add : MethodName := ⟨RX9, "add", "(III)I"⟩
abbrev cX9_takeBack : ByteArray := prog_11_method_3_code
def yX9_takeBack : MethodName := ⟨RX9, "takeBack", "(I)Z"⟩
abbrev cX9_countRows : ByteArray := prog_11_method_4_code
def yX9_countRows : MethodName := ⟨RX9, "countRows", "(LLastLetter$Tongue;II)J"⟩
abbrev cX9_rowsInto : ByteArray := prog_11_method_5_code
def yX9_rowsInto : MethodName := ⟨RX9, "rowsInto", "(LLastLetter$Tongue;I)J"⟩
abbrev cX9_standAt : ByteArray := prog_11_method_6_code
def yX9_standAt : MethodName := ⟨RX9, "standAt", "(LLastLetter$Tongue;III)I"⟩
abbrev cX9_gathered : ByteArray := prog_11_method_7_code
def yX9_gathered : MethodName := ⟨RX9, "gathered", "([III)I"⟩
abbrev cX9_narrow : ByteArray := prog_11_method_8_code
def yX9_narrow : MethodName := ⟨RX9, "narrow", "(LLastLetter$Tongue;I)V"⟩
abbrev cX9_wordsOf : ByteArray := prog_11_method_9_code
def yX9_wordsOf : MethodName := ⟨RX9, "wordsOf", "(LLastLetter$Tongue;II)I"⟩
def RX10 : String := "LastLetter"
def TX10 : u_T := fun k => match k with
  | 0 => ("LastLetter", "tape", "LLastLetter$Tape;", true)
  | 1 => ("LastLetter", "reader", "LLastLetter$Reader;", true)
  | 2 => ("LastLetter", "present", "LLastLetter$Talk;", true)
  | 3 => ("LastLetter", "boxes", "[LLastLetter$Talk;", true)
  | 4 => ("LastLetter", "row", "LLastLetter$Row;", true)
  | 5 => ("LastLetter", "letters", "LLastLetter$Letters;", true)
  | 6 => ("LastLetter", "orders", "LLastLetter$Orders;", true)
  | 7 => ("LastLetter", "search", "LLastLetter$Search;", true)
  | 8 => ("LastLetter", "games", "LLastLetter$Games;", true)
  | 9 => ("LastLetter", "wall", "LLastLetter$Wall;", true)
  | 10 => ("LastLetter", "current", "LLastLetter$Tongue;", false)
  | _ => ("LastLetter", "spare", "LLastLetter$Tongue;", false)
def tyX10 : Nat → FieldType := fun k => match k with
  | 0 => .object "LastLetter$Tape"
  | 1 => .object "LastLetter$Reader"
  | 2 => .object "LastLetter$Talk"
  | 3 => .array (.object "LastLetter$Talk")
  | 4 => .object "LastLetter$Row"
  | 5 => .object "LastLetter$Letters"
  | 6 => .object "LastLetter$Orders"
  | 7 => .object "LastLetter$Search"
  | 8 => .object "LastLetter$Games"
  | 9 => .object "LastLetter$Wall"
  | 10 => .object "LastLetter$Tongue"
  | _ => .object "LastLetter$Tongue"
abbrev wsX100 : List Cond := u_ws RX10 TX10 12
theorem nmX10 : ∀ a, a < 12 → ∀ b, b < 12 → a ≠ b → (TX10 a).2.1 ≠ (TX10 b).2.1 := by decide +kernel
theorem tyX10_ok : ∀ k, k < 12 → parseFieldDescriptor (TX10 k).2.2.1 = some (tyX10 k) := by decide +kernel
abbrev cX10_init : ByteArray := prog_1_method_1_code
def yX10_init : MethodName := ⟨RX10, "<init>", "()V"⟩
abbrev cX10_feed : ByteArray := prog_1_method_2_code
def yX10_feed : MethodName := ⟨RX10, "feed", "(IIIII)I"⟩
abbrev cX10_end : ByteArray := prog_1_method_3_code
def yX10_end : MethodName := ⟨RX10, "end", "(I)I"⟩
abbrev cX10_tongue : ByteArray := prog_1_method_4_code
def yX10_tongue : MethodName := ⟨RX10, "tongue", "()I"⟩
abbrev cX10_fault : ByteArray := prog_1_method_5_code
def yX10_fault : MethodName := ⟨RX10, "fault", "(I)I"⟩
abbrev cX10_follow : ByteArray := prog_1_method_6_code
def yX10_follow : MethodName := ⟨RX10, "follow", "(I)I"⟩
abbrev cX10_may : ByteArray := prog_1_method_7_code
def yX10_may : MethodName := ⟨RX10, "may", "()I"⟩
abbrev cX10_say : ByteArray := prog_1_method_8_code
def yX10_say : MethodName := ⟨RX10, "say", "(I)I"⟩
abbrev cX10_silence : ByteArray := prog_1_method_9_code
def yX10_silence : MethodName := ⟨RX10, "silence", "()I"⟩
abbrev cX10_talk : ByteArray := prog_1_method_10_code
def yX10_talk : MethodName := ⟨RX10, "talk", "(II)I"⟩
abbrev cX10_word : ByteArray := prog_1_method_11_code
def yX10_word : MethodName := ⟨RX10, "word", "(II)I"⟩
abbrev cX10_all : ByteArray := prog_1_method_12_code
def yX10_all : MethodName := ⟨RX10, "all", "(Z)I"⟩
abbrev cX10_longest : ByteArray := prog_1_method_13_code
def yX10_longest : MethodName := ⟨RX10, "longest", "()I"⟩
abbrev cX10_worthy : ByteArray := prog_1_method_14_code
def yX10_worthy : MethodName := ⟨RX10, "worthy", "()I"⟩
abbrev cX10_parted : ByteArray := prog_1_method_15_code
def yX10_parted : MethodName := ⟨RX10, "parted", "()I"⟩
abbrev cX10_missed : ByteArray := prog_1_method_16_code
def yX10_missed : MethodName := ⟨RX10, "missed", "(I)I"⟩
abbrev cX10_lies : ByteArray := prog_1_method_17_code
def yX10_lies : MethodName := ⟨RX10, "lies", "(I)I"⟩
abbrev cX10_surplus : ByteArray := prog_1_method_18_code
def yX10_surplus : MethodName := ⟨RX10, "surplus", "(I)I"⟩
abbrev cX10_mended : ByteArray := prog_1_method_19_code
def yX10_mended : MethodName := ⟨RX10, "mended", "()I"⟩
abbrev cX10_join : ByteArray := prog_1_method_20_code
def yX10_join : MethodName := ⟨RX10, "join", "(II)I"⟩
abbrev cX10_telling : ByteArray := prog_1_method_21_code
def yX10_telling : MethodName := ⟨RX10, "telling", "()I"⟩
abbrev cX10_game : ByteArray := prog_1_method_22_code
def yX10_game : MethodName := ⟨RX10, "game", "(I)I"⟩
abbrev cX10_wins : ByteArray := prog_1_method_23_code
def yX10_wins : MethodName := ⟨RX10, "wins", "(I)I"⟩
abbrev cX10_deep : ByteArray := prog_1_method_24_code
def yX10_deep : MethodName := ⟨RX10, "deep", "(I)I"⟩
abbrev cX10_score : ByteArray := prog_1_method_25_code
def yX10_score : MethodName := ⟨RX10, "score", "(I)I"⟩
abbrev cX10_done : ByteArray := prog_1_method_26_code
def yX10_done : MethodName := ⟨RX10, "done", "()I"⟩
abbrev cX10_again : ByteArray := prog_1_method_27_code
def yX10_again : MethodName := ⟨RX10, "again", "(I)I"⟩
abbrev cX10_dead : ByteArray := prog_1_method_28_code
def yX10_dead : MethodName := ⟨RX10, "dead", "()I"⟩
abbrev cX10_hear : ByteArray := prog_1_method_29_code
def yX10_hear : MethodName := ⟨RX10, "hear", "(III)I"⟩
abbrev cX10_untell : ByteArray := prog_1_method_30_code
def yX10_untell : MethodName := ⟨RX10, "untell", "(I)Z"⟩
abbrev cX10_later : ByteArray := prog_1_method_31_code
def yX10_later : MethodName := ⟨RX10, "later", "(I)I"⟩
abbrev cX10_fits : ByteArray := prog_1_method_32_code
def yX10_fits : MethodName := ⟨RX10, "fits", "(II)J"⟩
abbrev cX10_can : ByteArray := prog_1_method_33_code
def yX10_can : MethodName := ⟨RX10, "can", "(III)I"⟩
abbrev cX10_seed : ByteArray := prog_1_method_34_code
def yX10_seed : MethodName := ⟨RX10, "seed", "(I)I"⟩
abbrev cX10_image : ByteArray := prog_1_method_35_code
def yX10_image : MethodName := ⟨RX10, "image", "(I)I"⟩
abbrev cX10_back : ByteArray := prog_1_method_36_code
def yX10_back : MethodName := ⟨RX10, "back", "(I)I"⟩
abbrev cX10_about : ByteArray := prog_1_method_37_code
def yX10_about : MethodName := ⟨RX10, "about", "(I)I"⟩
abbrev cX10_isIn : ByteArray := prog_1_method_38_code
def yX10_isIn : MethodName := ⟨RX10, "isIn", "(II)Z"⟩
abbrev cX10_lowest : ByteArray := prog_1_method_39_code
def yX10_lowest : MethodName := ⟨RX10, "lowest", "(I)I"⟩
def RX11 : String := "LastLetterModel"
def TX11 : u_T := fun k => match k with
  | 0 => ("LastLetterModel", "tape", "[B", true)
  | 1 => ("LastLetterModel", "text", "[B", true)
  | 2 => ("LastLetterModel", "taped", "I", false)
  | 3 => ("LastLetterModel", "size", "I", false)
  | 4 => ("LastLetterModel", "faultKind", "I", false)
  | 5 => ("LastLetterModel", "faultPlace", "I", false)
  | 6 => ("LastLetterModel", "at", "I", false)
  | 7 => ("LastLetterModel", "end", "I", false)
  | 8 => ("LastLetterModel", "token", "I", false)
  | 9 => ("LastLetterModel", "number", "I", false)
  | 10 => ("LastLetterModel", "name", "J", false)
  | 11 => ("LastLetterModel", "words", "[I", true)
  | 12 => ("LastLetterModel", "errands", "[I", true)
  | 13 => ("LastLetterModel", "alikes", "[I", true)
  | 14 => ("LastLetterModel", "law", "[I", true)
  | 15 => ("LastLetterModel", "worth", "[I", true)
  | 16 => ("LastLetterModel", "times", "[I", true)
  | 17 => ("LastLetterModel", "eWord", "[I", true)
  | 18 => ("LastLetterModel", "eAfter", "[I", true)
  | 19 => ("LastLetterModel", "sound", "[I", true)
  | 20 => ("LastLetterModel", "isLaw", "[Z", true)
  | 21 => ("LastLetterModel", "wName", "[J", true)
  | 22 => ("LastLetterModel", "bank", "I", false)
  | 23 => ("LastLetterModel", "rb", "I", false)
  | 24 => ("LastLetterModel", "follow", "[I", true)
  | 25 => ("LastLetterModel", "lengths", "[I", true)
  | 26 => ("LastLetterModel", "said", "[I", true)
  | 27 => ("LastLetterModel", "latest", "I", false)
  | 28 => ("LastLetterModel", "talked", "I", false)
  | 29 => ("LastLetterModel", "sum", "I", false)
  | 30 => ("LastLetterModel", "doneSet", "I", false)
  | 31 => ("LastLetterModel", "w", "I", false)
  | 32 => ("LastLetterModel", "more", "[I", true)
  | 33 => ("LastLetterModel", "laidRow", "[I", true)
  | 34 => ("LastLetterModel", "laid", "I", false)
  | 35 => ("LastLetterModel", "piece", "[I", true)
  | 36 => ("LastLetterModel", "far", "[I", true)
  | 37 => ("LastLetterModel", "steps", "[I", true)
  | 38 => ("LastLetterModel", "ends", "[I", true)
  | 39 => ("LastLetterModel", "hPlace", "[I", true)
  | 40 => ("LastLetterModel", "hWhat", "[I", true)
  | 41 => ("LastLetterModel", "hValue", "[I", true)
  | 42 => ("LastLetterModel", "hTold", "[I", true)
  | 43 => ("LastLetterModel", "hUntold", "[I", true)
  | 44 => ("LastLetterModel", "sounds", "I", false)
  | 45 => ("LastLetterModel", "time", "I", false)
  | 46 => ("LastLetterModel", "ways", "[J", true)
  | 47 => ("LastLetterModel", "goesOn", "[J", true)
  | 48 => ("LastLetterModel", "boxMany", "[I", true)
  | 49 => ("LastLetterModel", "boxLatest", "[I", true)
  | 50 => ("LastLetterModel", "boxSum", "[I", true)
  | 51 => ("LastLetterModel", "boxW", "[I", true)
  | 52 => ("LastLetterModel", "boxDone", "[I", true)
  | _ => ("LastLetterModel", "boxSaid", "[I", true)
def tyX11 : Nat → FieldType := fun k => match k with
  | 0 => .array .byte
  | 1 => .array .byte
  | 2 => .int
  | 3 => .int
  | 4 => .int
  | 5 => .int
  | 6 => .int
  | 7 => .int
  | 8 => .int
  | 9 => .int
  | 10 => .long
  | 11 => .array .int
  | 12 => .array .int
  | 13 => .array .int
  | 14 => .array .int
  | 15 => .array .int
  | 16 => .array .int
  | 17 => .array .int
  | 18 => .array .int
  | 19 => .array .int
  | 20 => .array .boolean
  | 21 => .array .long
  | 22 => .int
  | 23 => .int
  | 24 => .array .int
  | 25 => .array .int
  | 26 => .array .int
  | 27 => .int
  | 28 => .int
  | 29 => .int
  | 30 => .int
  | 31 => .int
  | 32 => .array .int
  | 33 => .array .int
  | 34 => .int
  | 35 => .array .int
  | 36 => .array .int
  | 37 => .array .int
  | 38 => .array .int
  | 39 => .array .int
  | 40 => .array .int
  | 41 => .array .int
  | 42 => .array .int
  | 43 => .array .int
  | 44 => .int
  | 45 => .int
  | 46 => .array .long
  | 47 => .array .long
  | 48 => .array .int
  | 49 => .array .int
  | 50 => .array .int
  | 51 => .array .int
  | 52 => .array .int
  | _ => .array .int
abbrev wsX110 : List Cond := u_ws RX11 TX11 54
theorem nmX11 : ∀ a, a < 54 → ∀ b, b < 54 → a ≠ b → (TX11 a).2.1 ≠ (TX11 b).2.1 := by decide +kernel
theorem tyX11_ok : ∀ k, k < 54 → parseFieldDescriptor (TX11 k).2.2.1 = some (tyX11 k) := by decide +kernel
abbrev cX11_init : ByteArray := prog_13_method_1_code
def yX11_init : MethodName := ⟨RX11, "<init>", "()V"⟩
abbrev cX11_sign : ByteArray := prog_13_method_2_code
def yX11_sign : MethodName := ⟨RX11, "sign", "(I)I"⟩
abbrev cX11_isLetter : ByteArray := prog_13_method_3_code
def yX11_isLetter : MethodName := ⟨RX11, "isLetter", "(I)Z"⟩
abbrev cX11_isDigit : ByteArray := prog_13_method_4_code
def yX11_isDigit : MethodName := ⟨RX11, "isDigit", "(I)Z"⟩
abbrev cX11_fails : ByteArray := prog_13_method_5_code
def yX11_fails : MethodName := ⟨RX11, "fails", "(II)V"⟩
abbrev cX11_isGood : ByteArray := prog_13_method_6_code
def yX11_isGood : MethodName := ⟨RX11, "isGood", "()Z"⟩
abbrev cX11_goOn : ByteArray := prog_13_method_7_code
def yX11_goOn : MethodName := ⟨RX11, "goOn", "()V"⟩
abbrev cX11_isWord : ByteArray := prog_13_method_8_code
def yX11_isWord : MethodName := ⟨RX11, "isWord", "(J)Z"⟩
abbrev cX11_misplaced : ByteArray := prog_13_method_9_code
def yX11_misplaced : MethodName := ⟨RX11, "misplaced", "()V"⟩
abbrev cX11_must : ByteArray := prog_13_method_10_code
def yX11_must : MethodName := ⟨RX11, "must", "(Z)V"⟩
abbrev cX11_numeral : ByteArray := prog_13_method_11_code
def yX11_numeral : MethodName := ⟨RX11, "numeral", "(II)I"⟩
abbrev cX11_clearBank : ByteArray := prog_13_method_12_code
def yX11_clearBank : MethodName := ⟨RX11, "clearBank", "()V"⟩
abbrev cX11_tongue : ByteArray := prog_13_method_13_code
def yX11_tongue : MethodName := ⟨RX11, "tongue", "()I"⟩
abbrev cX11_isFull : ByteArray := prog_13_method_14_code
def yX11_isFull : MethodName := ⟨RX11, "isFull", "()Z"⟩
abbrev cX11_readLine : ByteArray := prog_13_method_15_code
def yX11_readLine : MethodName := ⟨RX11, "readLine", "()V"⟩
abbrev cX11_wordHere : ByteArray := prog_13_method_16_code
def yX11_wordHere : MethodName := ⟨RX11, "wordHere", "()I"⟩
abbrev cX11_errandOf : ByteArray := prog_13_method_17_code
def yX11_errandOf : MethodName := ⟨RX11, "errandOf", "(I)I"⟩
abbrev cX11_readWord : ByteArray := prog_13_method_18_code
def yX11_readWord : MethodName := ⟨RX11, "readWord", "()V"⟩
abbrev cX11_readLaw : ByteArray := prog_13_method_19_code
def yX11_readLaw : MethodName := ⟨RX11, "readLaw", "()V"⟩
abbrev cX11_letter : ByteArray := prog_13_method_20_code
def yX11_letter : MethodName := ⟨RX11, "letter", "()I"⟩
abbrev cX11_readAlike : ByteArray := prog_13_method_21_code
def yX11_readAlike : MethodName := ⟨RX11, "readAlike", "()V"⟩
abbrev cX11_readErrand : ByteArray := prog_13_method_22_code
def yX11_readErrand : MethodName := ⟨RX11, "readErrand", "()V"⟩
abbrev cX11_fault : ByteArray := prog_13_method_23_code
def yX11_fault : MethodName := ⟨RX11, "fault", "(I)I"⟩
abbrev cX11_isIn : ByteArray := prog_13_method_24_code
def yX11_isIn : MethodName := ⟨RX11, "isIn", "(III)Z"⟩
abbrev cX11_wordMany : ByteArray := prog_13_method_25_code
def yX11_wordMany : MethodName := ⟨RX11, "wordMany", "()I"⟩
abbrev cX11_isWordNumber : ByteArray := prog_13_method_26_code
def yX11_isWordNumber : MethodName := ⟨RX11, "isWordNumber", "(I)Z"⟩
abbrev cX11_soundOf : ByteArray := prog_13_method_27_code
def yX11_soundOf : MethodName := ⟨RX11, "soundOf", "(II)I"⟩
abbrev cX11_mayFollow : ByteArray := prog_13_method_28_code
def yX11_mayFollow : MethodName := ⟨RX11, "mayFollow", "(II)Z"⟩
abbrev cX11_layFollow : ByteArray := prog_13_method_29_code
def yX11_layFollow : MethodName := ⟨RX11, "layFollow", "()V"⟩
abbrev cX11_isAfter : ByteArray := prog_13_method_30_code
def yX11_isAfter : MethodName := ⟨RX11, "isAfter", "(II)Z"⟩
abbrev cX11_follow : ByteArray := prog_13_method_31_code
def yX11_follow : MethodName := ⟨RX11, "follow", "(I)I"⟩
abbrev cX11_begin : ByteArray := prog_13_method_32_code
def yX11_begin : MethodName := ⟨RX11, "begin", "()V"⟩
abbrev cX11_leftOf : ByteArray := prog_13_method_33_code
def yX11_leftOf : MethodName := ⟨RX11, "leftOf", "(I)I"⟩
abbrev cX11_mayNow : ByteArray := prog_13_method_34_code
def yX11_mayNow : MethodName := ⟨RX11, "mayNow", "()I"⟩
abbrev cX11_may : ByteArray := prog_13_method_35_code
def yX11_may : MethodName := ⟨RX11, "may", "()I"⟩
abbrev cX11_says : ByteArray := prog_13_method_36_code
def yX11_says : MethodName := ⟨RX11, "says", "(I)V"⟩
abbrev cX11_done : ByteArray := prog_13_method_37_code
def yX11_done : MethodName := ⟨RX11, "done", "()I"⟩
abbrev cX11_say : ByteArray := prog_13_method_38_code
def yX11_say : MethodName := ⟨RX11, "say", "(I)I"⟩
abbrev cX11_silence : ByteArray := prog_13_method_39_code
def yX11_silence : MethodName := ⟨RX11, "silence", "()I"⟩
abbrev cX11_draw : ByteArray := prog_13_method_40_code
def yX11_draw : MethodName := ⟨RX11, "draw", "(I)I"⟩
abbrev cX11_bitsOf : ByteArray := prog_13_method_41_code
def yX11_bitsOf : MethodName := ⟨RX11, "bitsOf", "(I)I"⟩
abbrev cX11_behind : ByteArray := prog_13_method_42_code
def yX11_behind : MethodName := ⟨RX11, "behind", "(I)I"⟩
abbrev cX11_weighed : ByteArray := prog_13_method_43_code
def yX11_weighed : MethodName := ⟨RX11, "weighed", "(II)I"⟩
abbrev cX11_chooses : ByteArray := prog_13_method_44_code
def yX11_chooses : MethodName := ⟨RX11, "chooses", "(II)I"⟩
abbrev cX11_talk : ByteArray := prog_13_method_45_code
def yX11_talk : MethodName := ⟨RX11, "talk", "(II)I"⟩
abbrev cX11_word : ByteArray := prog_13_method_46_code
def yX11_word : MethodName := ⟨RX11, "word", "(II)I"⟩
abbrev cX11_isMany : ByteArray := prog_13_method_47_code
def yX11_isMany : MethodName := ⟨RX11, "isMany", "()Z"⟩
abbrev cX11_gives : ByteArray := prog_13_method_48_code
def yX11_gives : MethodName := ⟨RX11, "gives", "(IZ)I"⟩
abbrev cX11_layMore : ByteArray := prog_13_method_49_code
def yX11_layMore : MethodName := ⟨RX11, "layMore", "(Z)V"⟩
abbrev cX11_lay : ByteArray := prog_13_method_50_code
def yX11_lay : MethodName := ⟨RX11, "lay", "(I)V"⟩
abbrev cX11_layBest : ByteArray := prog_13_method_51_code
def yX11_layBest : MethodName := ⟨RX11, "layBest", "(Z)I"⟩
abbrev cX11_longest : ByteArray := prog_13_method_52_code
def yX11_longest : MethodName := ⟨RX11, "longest", "()I"⟩
abbrev cX11_worthy : ByteArray := prog_13_method_53_code
def yX11_worthy : MethodName := ⟨RX11, "worthy", "()I"⟩
abbrev cX11_all : ByteArray := prog_13_method_54_code
def yX11_all : MethodName := ⟨RX11, "all", "(Z)I"⟩
abbrev cX11_layRound : ByteArray := prog_13_method_55_code
def yX11_layRound : MethodName := ⟨RX11, "layRound", "(I)Z"⟩
abbrev cX11_layBreaks : ByteArray := prog_13_method_56_code
def yX11_layBreaks : MethodName := ⟨RX11, "layBreaks", "()V"⟩
abbrev cX11_parted : ByteArray := prog_13_method_57_code
def yX11_parted : MethodName := ⟨RX11, "parted", "()I"⟩
abbrev cX11_longestBut : ByteArray := prog_13_method_58_code
def yX11_longestBut : MethodName := ⟨RX11, "longestBut", "(I)I"⟩
abbrev cX11_missed : ByteArray := prog_13_method_59_code
def yX11_missed : MethodName := ⟨RX11, "missed", "(I)I"⟩
abbrev cX11_lies : ByteArray := prog_13_method_60_code
def yX11_lies : MethodName := ⟨RX11, "lies", "(I)I"⟩
abbrev cX11_surplusOf : ByteArray := prog_13_method_61_code
def yX11_surplusOf : MethodName := ⟨RX11, "surplusOf", "(I)I"⟩
abbrev cX11_surplus : ByteArray := prog_13_method_62_code
def yX11_surplus : MethodName := ⟨RX11, "surplus", "(I)I"⟩
abbrev cX11_mended : ByteArray := prog_13_method_63_code
def yX11_mended : MethodName := ⟨RX11, "mended", "()I"⟩
abbrev cX11_doneBy : ByteArray := prog_13_method_64_code
def yX11_doneBy : MethodName := ⟨RX11, "doneBy", "(II)I"⟩
abbrev cX11_layFar : ByteArray := prog_13_method_65_code
def yX11_layFar : MethodName := ⟨RX11, "layFar", "(I)V"⟩
abbrev cX11_telling : ByteArray := prog_13_method_66_code
def yX11_telling : MethodName := ⟨RX11, "telling", "()I"⟩
abbrev cX11_join : ByteArray := prog_13_method_67_code
def yX11_join : MethodName := ⟨RX11, "join", "(II)I"⟩
abbrev cX11_layGame : ByteArray := prog_13_method_68_code
def yX11_layGame : MethodName := ⟨RX11, "layGame", "()V"⟩
abbrev cX11_game : ByteArray := prog_13_method_69_code
def yX11_game : MethodName := ⟨RX11, "game", "(I)I"⟩
abbrev cX11_wins : ByteArray := prog_13_method_70_code
def yX11_wins : MethodName := ⟨RX11, "wins", "(I)I"⟩
abbrev cX11_layDeep : ByteArray := prog_13_method_71_code
def yX11_layDeep : MethodName := ⟨RX11, "layDeep", "()V"⟩
abbrev cX11_deep : ByteArray := prog_13_method_72_code
def yX11_deep : MethodName := ⟨RX11, "deep", "(I)I"⟩
abbrev cX11_score : ByteArray := prog_13_method_73_code
def yX11_score : MethodName := ⟨RX11, "score", "(I)I"⟩
abbrev cX11_again : ByteArray := prog_13_method_74_code
def yX11_again : MethodName := ⟨RX11, "again", "(I)I"⟩
abbrev cX11_dead : ByteArray := prog_13_method_75_code
def yX11_dead : MethodName := ⟨RX11, "dead", "()I"⟩
abbrev cX11_hear : ByteArray := prog_13_method_76_code
def yX11_hear : MethodName := ⟨RX11, "hear", "(III)I"⟩
abbrev cX11_untell : ByteArray := prog_13_method_77_code
def yX11_untell : MethodName := ⟨RX11, "untell", "(I)Z"⟩
abbrev cX11_later : ByteArray := prog_13_method_78_code
def yX11_later : MethodName := ⟨RX11, "later", "(I)I"⟩
abbrev cX11_isHeard : ByteArray := prog_13_method_79_code
def yX11_isHeard : MethodName := ⟨RX11, "isHeard", "(III)Z"⟩
abbrev cX11_less : ByteArray := prog_13_method_80_code
def yX11_less : MethodName := ⟨RX11, "less", "(J)J"⟩
abbrev cX11_layWays : ByteArray := prog_13_method_81_code
def yX11_layWays : MethodName := ⟨RX11, "layWays", "(II)V"⟩
abbrev cX11_fits : ByteArray := prog_13_method_82_code
def yX11_fits : MethodName := ⟨RX11, "fits", "(II)J"⟩
abbrev cX11_can : ByteArray := prog_13_method_83_code
def yX11_can : MethodName := ⟨RX11, "can", "(III)I"⟩
abbrev cX11_seed : ByteArray := prog_13_method_84_code
def yX11_seed : MethodName := ⟨RX11, "seed", "(I)I"⟩
abbrev cX11_image : ByteArray := prog_13_method_85_code
def yX11_image : MethodName := ⟨RX11, "image", "(I)I"⟩
abbrev cX11_back : ByteArray := prog_13_method_86_code
def yX11_back : MethodName := ⟨RX11, "back", "(I)I"⟩
abbrev cX11_about : ByteArray := prog_13_method_87_code
def yX11_about : MethodName := ⟨RX11, "about", "(I)I"⟩
abbrev cX11_feed : ByteArray := prog_13_method_88_code
def yX11_feed : MethodName := ⟨RX11, "feed", "(IIIII)I"⟩
abbrev cX11_end : ByteArray := prog_13_method_89_code
def yX11_end : MethodName := ⟨RX11, "end", "(I)I"⟩
def RJx145de : String := "java/io/Serializable"
def TJx145de : u_T := fun k => match k with
  | _ => ("", "", "", false)
def tyJx145de : Nat → FieldType := fun k => match k with
  | _ => .int
abbrev wsJx145de0 : List Cond := u_ws RJx145de TJx145de 0
theorem nmJx145de : ∀ a, a < 0 → ∀ b, b < 0 → a ≠ b → (TJx145de a).2.1 ≠ (TJx145de b).2.1 := by decide +kernel
theorem tyJx145de_ok : ∀ k, k < 0 → parseFieldDescriptor (TJx145de k).2.2.1 = some (tyJx145de k) := by decide +kernel
def RJx9f9b0 : String := "java/lang/CharSequence"
def TJx9f9b0 : u_T := fun k => match k with
  | _ => ("", "", "", false)
def tyJx9f9b0 : Nat → FieldType := fun k => match k with
  | _ => .int
abbrev wsJx9f9b00 : List Cond := u_ws RJx9f9b0 TJx9f9b0 0
theorem nmJx9f9b0 : ∀ a, a < 0 → ∀ b, b < 0 → a ≠ b → (TJx9f9b0 a).2.1 ≠ (TJx9f9b0 b).2.1 := by decide +kernel
theorem tyJx9f9b0_ok : ∀ k, k < 0 → parseFieldDescriptor (TJx9f9b0 k).2.2.1 = some (tyJx9f9b0 k) := by decide +kernel
def RJxb160c : String := "java/lang/Comparable"
def TJxb160c : u_T := fun k => match k with
  | _ => ("", "", "", false)
def tyJxb160c : Nat → FieldType := fun k => match k with
  | _ => .int
abbrev wsJxb160c0 : List Cond := u_ws RJxb160c TJxb160c 0
theorem nmJxb160c : ∀ a, a < 0 → ∀ b, b < 0 → a ≠ b → (TJxb160c a).2.1 ≠ (TJxb160c b).2.1 := by decide +kernel
theorem tyJxb160c_ok : ∀ k, k < 0 → parseFieldDescriptor (TJxb160c k).2.2.1 = some (tyJxb160c k) := by decide +kernel
def RJ6 : String := "java/lang/Integer"
def TJ6 : u_T := fun k => match k with
  | _ => ("", "", "", false)
def tyJ6 : Nat → FieldType := fun k => match k with
  | _ => .int
abbrev wsJ60 : List Cond := u_ws RJ6 TJ6 0
theorem nmJ6 : ∀ a, a < 0 → ∀ b, b < 0 → a ≠ b → (TJ6 a).2.1 ≠ (TJ6 b).2.1 := by decide +kernel
theorem tyJ6_ok : ∀ k, k < 0 → parseFieldDescriptor (TJ6 k).2.2.1 = some (tyJ6 k) := by decide +kernel
abbrev cJ6_numberOfTrailingZeros_0f7a4 : ByteArray := prog_14_method_48_code
def yJ6_numberOfTrailingZeros_0f7a4 : MethodName := ⟨RJ6, "numberOfTrailingZeros", "(I)I"⟩
abbrev cJ6_bitCount_0f7a4 : ByteArray := prog_14_method_49_code
def yJ6_bitCount_0f7a4 : MethodName := ⟨RJ6, "bitCount", "(I)I"⟩
def RJ9 : String := "java/lang/Math"
def TJ9 : u_T := fun k => match k with
  | _ => ("", "", "", false)
def tyJ9 : Nat → FieldType := fun k => match k with
  | _ => .int
abbrev wsJ90 : List Cond := u_ws RJ9 TJ9 0
theorem nmJ9 : ∀ a, a < 0 → ∀ b, b < 0 → a ≠ b → (TJ9 a).2.1 ≠ (TJ9 b).2.1 := by decide +kernel
theorem tyJ9_ok : ∀ k, k < 0 → parseFieldDescriptor (TJ9 k).2.2.1 = some (tyJ9 k) := by decide +kernel
abbrev cJ9_max_7cf53 : ByteArray := prog_15_method_65_code
def yJ9_max_7cf53 : MethodName := ⟨RJ9, "max", "(II)I"⟩
abbrev cJ9_min_7cf53 : ByteArray := prog_15_method_69_code
def yJ9_min_7cf53 : MethodName := ⟨RJ9, "min", "(II)I"⟩
abbrev cJ9_min_f86c9 : ByteArray := prog_15_method_70_code
def yJ9_min_f86c9 : MethodName := ⟨RJ9, "min", "(JJ)J"⟩
def RJ0 : String := "java/lang/String"
def TJ0 : u_T := fun k => match k with
  | _ => ("", "", "", false)
def tyJ0 : Nat → FieldType := fun k => match k with
  | _ => .int
abbrev wsJ00 : List Cond := u_ws RJ0 TJ0 0
theorem nmJ0 : ∀ a, a < 0 → ∀ b, b < 0 → a ≠ b → (TJ0 a).2.1 ≠ (TJ0 b).2.1 := by decide +kernel
theorem tyJ0_ok : ∀ k, k < 0 → parseFieldDescriptor (TJ0 k).2.2.1 = some (tyJ0 k) := by decide +kernel
abbrev cJ0_length_8abf5 : ByteArray := prog_16_method_54_code
def yJ0_length_8abf5 : MethodName := ⟨RJ0, "length", "()I"⟩
abbrev cJ0_charAt_5068e : ByteArray := prog_16_method_56_code
def yJ0_charAt_5068e : MethodName := ⟨RJ0, "charAt", "(I)C"⟩
abbrev cJ0_coder_7d493 : ByteArray := prog_16_method_152_code
def yJ0_coder_7d493 : MethodName := ⟨RJ0, "coder", "()B"⟩
abbrev cJ0_isLatin1_aae02 : ByteArray := prog_16_method_154_code
def yJ0_isLatin1_aae02 : MethodName := ⟨RJ0, "isLatin1", "()Z"⟩
abbrev cJ0_checkIndex_df160 : ByteArray := prog_16_method_155_code
def yJ0_checkIndex_df160 : MethodName := ⟨RJ0, "checkIndex", "(II)V"⟩
def RJ1 : String := "java/lang/StringLatin1"
def TJ1 : u_T := fun k => match k with
  | _ => ("", "", "", false)
def tyJ1 : Nat → FieldType := fun k => match k with
  | _ => .int
abbrev wsJ10 : List Cond := u_ws RJ1 TJ1 0
theorem nmJ1 : ∀ a, a < 0 → ∀ b, b < 0 → a ≠ b → (TJ1 a).2.1 ≠ (TJ1 b).2.1 := by decide +kernel
theorem tyJ1_ok : ∀ k, k < 0 → parseFieldDescriptor (TJ1 k).2.2.1 = some (tyJ1 k) := by decide +kernel
abbrev cJ1_charAt_3b067 : ByteArray := prog_17_method_2_code
def yJ1_charAt_3b067 : MethodName := ⟨RJ1, "charAt", "([BI)C"⟩
def RJ2 : String := "java/lang/StringUTF16"
def TJ2 : u_T := fun k => match k with
  | _ => ("", "", "", false)
def tyJ2 : Nat → FieldType := fun k => match k with
  | _ => .int
abbrev wsJ20 : List Cond := u_ws RJ2 TJ2 0
theorem nmJ2 : ∀ a, a < 0 → ∀ b, b < 0 → a ≠ b → (TJ2 a).2.1 ≠ (TJ2 b).2.1 := by decide +kernel
theorem tyJ2_ok : ∀ k, k < 0 → parseFieldDescriptor (TJ2 k).2.2.1 = some (tyJ2 k) := by decide +kernel
abbrev cJ2_getChar_3b067 : ByteArray := prog_18_method_5_code
def yJ2_getChar_3b067 : MethodName := ⟨RJ2, "getChar", "([BI)C"⟩
abbrev cJ2_length_9d52b : ByteArray := prog_18_method_6_code
def yJ2_length_9d52b : MethodName := ⟨RJ2, "length", "([B)I"⟩
abbrev cJ2_charAt_3b067 : ByteArray := prog_18_method_83_code
def yJ2_charAt_3b067 : MethodName := ⟨RJ2, "charAt", "([BI)C"⟩
abbrev cJ2_checkIndex_2214a : ByteArray := prog_18_method_91_code
def yJ2_checkIndex_2214a : MethodName := ⟨RJ2, "checkIndex", "(I[B)V"⟩
def RJ10 : String := "java/lang/System"
def TJ10 : u_T := fun k => match k with
  | _ => ("", "", "", false)
def tyJ10 : Nat → FieldType := fun k => match k with
  | _ => .int
abbrev wsJ100 : List Cond := u_ws RJ10 TJ10 0
theorem nmJ10 : ∀ a, a < 0 → ∀ b, b < 0 → a ≠ b → (TJ10 a).2.1 ≠ (TJ10 b).2.1 := by decide +kernel
theorem tyJ10_ok : ∀ k, k < 0 → parseFieldDescriptor (TJ10 k).2.2.1 = some (tyJ10 k) := by decide +kernel
def RJxfd54e : String := "java/lang/constant/Constable"
def TJxfd54e : u_T := fun k => match k with
  | _ => ("", "", "", false)
def tyJxfd54e : Nat → FieldType := fun k => match k with
  | _ => .int
abbrev wsJxfd54e0 : List Cond := u_ws RJxfd54e TJxfd54e 0
theorem nmJxfd54e : ∀ a, a < 0 → ∀ b, b < 0 → a ≠ b → (TJxfd54e a).2.1 ≠ (TJxfd54e b).2.1 := by decide +kernel
theorem tyJxfd54e_ok : ∀ k, k < 0 → parseFieldDescriptor (TJxfd54e k).2.2.1 = some (tyJxfd54e k) := by decide +kernel
def RJx3cf43 : String := "java/lang/constant/ConstantDesc"
def TJx3cf43 : u_T := fun k => match k with
  | _ => ("", "", "", false)
def tyJx3cf43 : Nat → FieldType := fun k => match k with
  | _ => .int
abbrev wsJx3cf430 : List Cond := u_ws RJx3cf43 TJx3cf43 0
theorem nmJx3cf43 : ∀ a, a < 0 → ∀ b, b < 0 → a ≠ b → (TJx3cf43 a).2.1 ≠ (TJx3cf43 b).2.1 := by decide +kernel
theorem tyJx3cf43_ok : ∀ k, k < 0 → parseFieldDescriptor (TJx3cf43 k).2.2.1 = some (tyJx3cf43 k) := by decide +kernel
def RJ7 : String := "java/util/Arrays"
def TJ7 : u_T := fun k => match k with
  | _ => ("", "", "", false)
def tyJ7 : Nat → FieldType := fun k => match k with
  | _ => .int
abbrev wsJ70 : List Cond := u_ws RJ7 TJ7 0
theorem nmJ7 : ∀ a, a < 0 → ∀ b, b < 0 → a ≠ b → (TJ7 a).2.1 ≠ (TJ7 b).2.1 := by decide +kernel
theorem tyJ7_ok : ∀ k, k < 0 → parseFieldDescriptor (TJ7 k).2.2.1 = some (tyJ7 k) := by decide +kernel
abbrev cJ7_fill_53178 : ByteArray := prog_20_method_103_code
def yJ7_fill_53178 : MethodName := ⟨RJ7, "fill", "([II)V"⟩
def RJ3 : String := "jdk/internal/util/Preconditions"
def TJ3 : u_T := fun k => match k with
  | _ => ("", "", "", false)
def tyJ3 : Nat → FieldType := fun k => match k with
  | _ => .int
abbrev wsJ30 : List Cond := u_ws RJ3 TJ3 0
theorem nmJ3 : ∀ a, a < 0 → ∀ b, b < 0 → a ≠ b → (TJ3 a).2.1 ≠ (TJ3 b).2.1 := by decide +kernel
theorem tyJ3_ok : ∀ k, k < 0 → parseFieldDescriptor (TJ3 k).2.2.1 = some (tyJ3 k) := by decide +kernel
abbrev cJ3_checkIndex_8e157 : ByteArray := prog_21_method_11_code
def yJ3_checkIndex_8e157 : MethodName := ⟨RJ3, "checkIndex", "(IILjava/util/function/BiFunction;)I"⟩
def RL : String := "LastLetterLaw"
abbrev cL_law : ByteArray := code
def yL_law : MethodName := ⟨RL, "law", "([I)Z"⟩
def wsX0_init : List Cond := .code yX0_init cX0_init 1 none :: ([.methodLink RX0 3 objectInit, .instanceMethod objectInit, .code objectInit ⟨#[0xb1]⟩ 1 none, .arrayClass .int, .fieldLink RX0 9 "LastLetter$Games" "won" "[I", .arrayClass .long, .fieldLink RX0 15 "LastLetter$Games" "depths" "[J", .arrayClass .short, .fieldLink RX0 19 "LastLetter$Games" "gains" "[S"] ++ wsX00)
def wsX0_forget : List Cond := .code yX0_forget cX0_forget 1 none :: ([.fieldLink RX0 23 "LastLetter$Games" "isWonKnown" "Z", .fieldLink RX0 27 "LastLetter$Games" "isDepthKnown" "Z", .fieldLink RX0 30 "LastLetter$Games" "isGainKnown" "Z"] ++ wsX00)
def wsX10_isIn : List Cond := .code yX10_isIn cX10_isIn 2 (some .boolean) :: ([])
def wsX0_isLostBehind : List Cond := .code yX0_isLostBehind cX0_isLostBehind 3 (some .boolean) :: ([.fieldLink RX0 9 "LastLetter$Games" "won" "[I", .static yX10_isIn, .initialized RX10, .code yX10_isIn cX10_isIn 2 (some .boolean)] ++ wsX00)
def wsX0_learnWon : List Cond := .code yX0_learnWon cX0_learnWon 6 none :: ([.fieldLink RX0 23 "LastLetter$Games" "isWonKnown" "Z", .fieldLink RX0 9 "LastLetter$Games" "won" "[I", .arrayClass .int, .static yX10_isIn, .initialized RX10, .code yX10_isIn cX10_isIn 2 (some .boolean), .methodLink RX0 54 yX0_isLostBehind, .instanceMethod yX0_isLostBehind, .selects RX0 yX0_isLostBehind yX0_isLostBehind, .initialized RX0, .code yX0_isLostBehind cX0_isLostBehind 3 (some .boolean)] ++ wsX80 ++ wsX00)
def wsX8_everyWord : List Cond := .code yX8_everyWord cX8_everyWord 1 (some .int) :: ([.fieldLink RX8 52 "LastLetter$Tongue" "words" "I"] ++ wsX80)
def wsX0_isWon : List Cond := .code yX0_isWon cX0_isWon 3 (some .boolean) :: ([.fieldLink RX0 9 "LastLetter$Games" "won" "[I", .methodLink RX0 33 yX0_learnWon, .instanceMethod yX0_learnWon, .selects RX0 yX0_learnWon yX0_learnWon, .initialized RX0, .code yX0_learnWon cX0_learnWon 6 none, .fieldLink RX0 23 "LastLetter$Games" "isWonKnown" "Z", .arrayClass .int, .static yX10_isIn, .initialized RX10, .code yX10_isIn cX10_isIn 2 (some .boolean), .methodLink RX0 54 yX0_isLostBehind, .instanceMethod yX0_isLostBehind, .selects RX0 yX0_isLostBehind yX0_isLostBehind, .code yX0_isLostBehind cX0_isLostBehind 3 (some .boolean), .methodLink RX0 37 yX8_everyWord, .instanceMethod yX8_everyWord, .selects RX8 yX8_everyWord yX8_everyWord, .initialized RX8, .code yX8_everyWord cX8_everyWord 1 (some .int), .fieldLink RX8 52 "LastLetter$Tongue" "words" "I"] ++ wsX00 ++ wsX80)
def wsX0_firstWinning : List Cond := .code yX0_firstWinning cX0_firstWinning 6 (some .int) :: ([.methodLink RX0 33 yX0_learnWon, .instanceMethod yX0_learnWon, .selects RX0 yX0_learnWon yX0_learnWon, .initialized RX0, .code yX0_learnWon cX0_learnWon 6 none, .fieldLink RX0 23 "LastLetter$Games" "isWonKnown" "Z", .fieldLink RX0 9 "LastLetter$Games" "won" "[I", .arrayClass .int, .static yX10_isIn, .initialized RX10, .code yX10_isIn cX10_isIn 2 (some .boolean), .methodLink RX0 54 yX0_isLostBehind, .instanceMethod yX0_isLostBehind, .selects RX0 yX0_isLostBehind yX0_isLostBehind, .code yX0_isLostBehind cX0_isLostBehind 3 (some .boolean), .methodLink RX0 37 yX8_everyWord, .instanceMethod yX8_everyWord, .selects RX8 yX8_everyWord yX8_everyWord, .initialized RX8, .code yX8_everyWord cX8_everyWord 1 (some .int), .fieldLink RX8 52 "LastLetter$Tongue" "words" "I"] ++ wsX80 ++ wsX00)
def wsX0_depth : List Cond := .code yX0_depth cX0_depth 3 (some .int) :: ([.fieldLink RX0 15 "LastLetter$Games" "depths" "[J"] ++ wsX00)
def wsX0_bestDepth : List Cond := .code yX0_bestDepth cX0_bestDepth 7 (some .int) :: ([.static yX10_isIn, .initialized RX10, .code yX10_isIn cX10_isIn 2 (some .boolean), .methodLink RX0 54 yX0_isLostBehind, .instanceMethod yX0_isLostBehind, .selects RX0 yX0_isLostBehind yX0_isLostBehind, .initialized RX0, .code yX0_isLostBehind cX0_isLostBehind 3 (some .boolean), .fieldLink RX0 9 "LastLetter$Games" "won" "[I", .methodLink RX0 60 yX0_depth, .instanceMethod yX0_depth, .selects RX0 yX0_depth yX0_depth, .code yX0_depth cX0_depth 3 (some .int), .fieldLink RX0 15 "LastLetter$Games" "depths" "[J"] ++ wsX00)
def wsX0_learnDepths_r1 : List Cond := [Cond.fieldLink RX0 27 "LastLetter$Games" "isDepthKnown" "Z", Cond.fieldLink RX0 15 "LastLetter$Games" "depths" "[J", Cond.arrayClass .long, Cond.fieldLink RX0 9 "LastLetter$Games" "won" "[I", Cond.methodLink RX0 33 yX0_learnWon, Cond.instanceMethod yX0_learnWon, Cond.selects RX0 yX0_learnWon yX0_learnWon, Cond.initialized RX0, Cond.code yX0_learnWon cX0_learnWon 6 none, Cond.fieldLink RX0 23 "LastLetter$Games" "isWonKnown" "Z", Cond.arrayClass .int, Cond.static yX10_isIn, Cond.initialized RX10, Cond.code yX10_isIn cX10_isIn 2 (some .boolean), Cond.methodLink RX0 54 yX0_isLostBehind, Cond.instanceMethod yX0_isLostBehind, Cond.selects RX0 yX0_isLostBehind yX0_isLostBehind, Cond.code yX0_isLostBehind cX0_isLostBehind 3 (some .boolean), Cond.methodLink RX0 70 yX0_bestDepth, Cond.instanceMethod yX0_bestDepth, Cond.selects RX0 yX0_bestDepth yX0_bestDepth, Cond.code yX0_bestDepth cX0_bestDepth 7 (some .int), Cond.methodLink RX0 60 yX0_depth, Cond.instanceMethod yX0_depth]
def wsX0_learnDepths_r2 : List Cond := [Cond.selects RX0 yX0_depth yX0_depth, Cond.code yX0_depth cX0_depth 3 (some .int)]
def wsX0_learnDepths : List Cond := .code yX0_learnDepths cX0_learnDepths 8 none :: ((wsX0_learnDepths_r1 ++ wsX0_learnDepths_r2) ++ wsX80 ++ wsX00)
def wsX0_lengthBehind_r1 : List Cond := [Cond.methodLink RX0 57 yX0_learnDepths, Cond.instanceMethod yX0_learnDepths, Cond.selects RX0 yX0_learnDepths yX0_learnDepths, Cond.initialized RX0, Cond.code yX0_learnDepths cX0_learnDepths 8 none, Cond.fieldLink RX0 27 "LastLetter$Games" "isDepthKnown" "Z", Cond.fieldLink RX0 15 "LastLetter$Games" "depths" "[J", Cond.arrayClass .long, Cond.fieldLink RX0 9 "LastLetter$Games" "won" "[I", Cond.methodLink RX0 33 yX0_learnWon, Cond.instanceMethod yX0_learnWon, Cond.selects RX0 yX0_learnWon yX0_learnWon, Cond.code yX0_learnWon cX0_learnWon 6 none, Cond.fieldLink RX0 23 "LastLetter$Games" "isWonKnown" "Z", Cond.arrayClass .int, Cond.static yX10_isIn, Cond.initialized RX10, Cond.code yX10_isIn cX10_isIn 2 (some .boolean), Cond.methodLink RX0 54 yX0_isLostBehind, Cond.instanceMethod yX0_isLostBehind, Cond.selects RX0 yX0_isLostBehind yX0_isLostBehind, Cond.code yX0_isLostBehind cX0_isLostBehind 3 (some .boolean), Cond.methodLink RX0 70 yX0_bestDepth, Cond.instanceMethod yX0_bestDepth]
def wsX0_lengthBehind_r2 : List Cond := [Cond.selects RX0 yX0_bestDepth yX0_bestDepth, Cond.code yX0_bestDepth cX0_bestDepth 7 (some .int), Cond.methodLink RX0 60 yX0_depth, Cond.instanceMethod yX0_depth, Cond.selects RX0 yX0_depth yX0_depth, Cond.code yX0_depth cX0_depth 3 (some .int), Cond.methodLink RX0 37 yX8_everyWord, Cond.instanceMethod yX8_everyWord, Cond.selects RX8 yX8_everyWord yX8_everyWord, Cond.initialized RX8, Cond.code yX8_everyWord cX8_everyWord 1 (some .int), Cond.fieldLink RX8 52 "LastLetter$Tongue" "words" "I"]
def wsX0_lengthBehind : List Cond := .code yX0_lengthBehind cX0_lengthBehind 3 (some .int) :: ((wsX0_lengthBehind_r1 ++ wsX0_lengthBehind_r2) ++ wsX80 ++ wsX00)
def wsX0_bestGain : List Cond := .code yX0_bestGain cX0_bestGain 8 (some .int) :: ([.fieldLink RX0 19 "LastLetter$Games" "gains" "[S", .static yX10_isIn, .initialized RX10, .code yX10_isIn cX10_isIn 2 (some .boolean)] ++ wsX80 ++ wsX00)
def wsX0_learnGains : List Cond := .code yX0_learnGains cX0_learnGains 5 none :: ([.fieldLink RX0 30 "LastLetter$Games" "isGainKnown" "Z", .fieldLink RX0 19 "LastLetter$Games" "gains" "[S", .arrayClass .short, .static yX10_isIn, .initialized RX10, .code yX10_isIn cX10_isIn 2 (some .boolean), .methodLink RX0 74 yX0_bestGain, .instanceMethod yX0_bestGain, .selects RX0 yX0_bestGain yX0_bestGain, .initialized RX0, .code yX0_bestGain cX0_bestGain 8 (some .int)] ++ wsX80 ++ wsX00)
def wsX0_gainBehind : List Cond := .code yX0_gainBehind cX0_gainBehind 3 (some .int) :: ([.fieldLink RX0 19 "LastLetter$Games" "gains" "[S", .methodLink RX0 64 yX0_learnGains, .instanceMethod yX0_learnGains, .selects RX0 yX0_learnGains yX0_learnGains, .initialized RX0, .code yX0_learnGains cX0_learnGains 5 none, .fieldLink RX0 30 "LastLetter$Games" "isGainKnown" "Z", .arrayClass .short, .static yX10_isIn, .initialized RX10, .code yX10_isIn cX10_isIn 2 (some .boolean), .methodLink RX0 74 yX0_bestGain, .instanceMethod yX0_bestGain, .selects RX0 yX0_bestGain yX0_bestGain, .code yX0_bestGain cX0_bestGain 8 (some .int), .methodLink RX0 37 yX8_everyWord, .instanceMethod yX8_everyWord, .selects RX8 yX8_everyWord yX8_everyWord, .initialized RX8, .code yX8_everyWord cX8_everyWord 1 (some .int), .fieldLink RX8 52 "LastLetter$Tongue" "words" "I"] ++ wsX00 ++ wsX80)
def wsX0_endless : List Cond := .code yX0_endless cX0_endless 7 (some .int) :: ([.static yX10_isIn, .initialized RX10, .code yX10_isIn cX10_isIn 2 (some .boolean)] ++ wsX80)
def wsX1_init : List Cond := .code yX1_init cX1_init 1 none :: ([.methodLink RX1 3 objectInit, .instanceMethod objectInit, .code objectInit ⟨#[0xb1]⟩ 1 none, .arrayClass .int, .fieldLink RX1 9 "LastLetter$Letters" "group" "[I"] ++ wsX10)
def wsX1_balance : List Cond := .code yX1_balance cX1_balance 5 (some .int) :: ([] ++ wsX80)
def wsX1_gather : List Cond := .code yX1_gather cX1_gather 6 none :: ([.fieldLink RX1 9 "LastLetter$Letters" "group" "[I", .methodLink RX1 48 arraycopyName, .native arraycopyName, .static arraycopyName, .initialized "java/lang/System"] ++ wsX80 ++ wsX10)
def wsX1_hasWords : List Cond := .code yX1_hasWords cX1_hasWords 4 (some .boolean) :: ([.fieldLink RX1 9 "LastLetter$Letters" "group" "[I"] ++ wsX80 ++ wsX10)
def wsX1_surplusOf : List Cond := .code yX1_surplusOf cX1_surplusOf 5 (some .int) :: ([.fieldLink RX1 9 "LastLetter$Letters" "group" "[I", .methodLink RX1 42 Lib.Math.max.name, .static Lib.Math.max.name, .initialized "java/lang/Math", .code Lib.Math.max.name Lib.Math.max.code 2 (some .int), .methodLink RX1 54 yX1_balance, .instanceMethod yX1_balance, .selects RX1 yX1_balance yX1_balance, .initialized RX1, .code yX1_balance cX1_balance 5 (some .int)] ++ wsX80 ++ wsX10)
def wsX1_lacking_r1 : List Cond := [Cond.methodLink RX1 42 Lib.Math.max.name, Cond.static Lib.Math.max.name, Cond.initialized "java/lang/Math", Cond.code Lib.Math.max.name Lib.Math.max.code 2 (some .int), Cond.methodLink RX1 30 yX1_gather, Cond.instanceMethod yX1_gather, Cond.selects RX1 yX1_gather yX1_gather, Cond.initialized RX1, Cond.code yX1_gather cX1_gather 6 none, Cond.fieldLink RX1 9 "LastLetter$Letters" "group" "[I", Cond.methodLink RX1 48 arraycopyName, Cond.native arraycopyName, Cond.static arraycopyName, Cond.initialized "java/lang/System", Cond.methodLink RX1 34 yX1_hasWords, Cond.instanceMethod yX1_hasWords, Cond.selects RX1 yX1_hasWords yX1_hasWords, Cond.code yX1_hasWords cX1_hasWords 4 (some .boolean), Cond.methodLink RX1 38 yX1_surplusOf, Cond.instanceMethod yX1_surplusOf, Cond.selects RX1 yX1_surplusOf yX1_surplusOf, Cond.code yX1_surplusOf cX1_surplusOf 5 (some .int), Cond.methodLink RX1 54 yX1_balance, Cond.instanceMethod yX1_balance]
def wsX1_lacking_r2 : List Cond := [Cond.selects RX1 yX1_balance yX1_balance, Cond.code yX1_balance cX1_balance 5 (some .int)]
def wsX1_lacking : List Cond := .code yX1_lacking cX1_lacking 4 (some .int) :: ((wsX1_lacking_r1 ++ wsX1_lacking_r2) ++ wsX80 ++ wsX10)
def wsX2_init : List Cond := .code yX2_init cX2_init 1 none :: ([.methodLink RX2 3 objectInit, .instanceMethod objectInit, .code objectInit ⟨#[0xb1]⟩ 1 none, .arrayClass .byte, .fieldLink RX2 9 "LastLetter$Orders" "breaks" "[B", .arrayClass .int, .fieldLink RX2 15 "LastLetter$Orders" "starts" "[I", .fieldLink RX2 19 "LastLetter$Orders" "worths" "[I", .fieldLink RX2 22 "LastLetter$Orders" "closing" "[I"] ++ wsX20)
def wsX2_forget : List Cond := .code yX2_forget cX2_forget 1 none :: ([.fieldLink RX2 25 "LastLetter$Orders" "isKnown" "Z", .fieldLink RX2 29 "LastLetter$Orders" "isClosingKnown" "Z"] ++ wsX20)
def wsX2_breaksBehind : List Cond := .code yX2_breaksBehind cX2_breaksBehind 4 (some .int) :: ([.fieldLink RX2 9 "LastLetter$Orders" "breaks" "[B", .fieldLink RX2 15 "LastLetter$Orders" "starts" "[I"] ++ wsX20 ++ wsX80)
def wsJ6_numberOfTrailingZeros_0f7a4 : List Cond := .code yJ6_numberOfTrailingZeros_0f7a4 cJ6_numberOfTrailingZeros_0f7a4 2 (some .int) :: ([.constant RJ6 264 (65536)])
def wsX10_lowest : List Cond := .code yX10_lowest cX10_lowest 1 (some .int) :: ([.methodLink RX10 261 yJ6_numberOfTrailingZeros_0f7a4, .static yJ6_numberOfTrailingZeros_0f7a4, .initialized RJ6, .code yJ6_numberOfTrailingZeros_0f7a4 cJ6_numberOfTrailingZeros_0f7a4 2 (some .int), .constant RJ6 264 (65536)])
def wsX2_learnSet : List Cond := .code yX2_learnSet cX2_learnSet 7 none :: ([.fieldLink RX2 9 "LastLetter$Orders" "breaks" "[B", .fieldLink RX2 15 "LastLetter$Orders" "starts" "[I", .fieldLink RX2 19 "LastLetter$Orders" "worths" "[I", .static yX10_isIn, .initialized RX10, .code yX10_isIn cX10_isIn 2 (some .boolean), .methodLink RX2 67 yX2_breaksBehind, .instanceMethod yX2_breaksBehind, .selects RX2 yX2_breaksBehind yX2_breaksBehind, .initialized RX2, .code yX2_breaksBehind cX2_breaksBehind 4 (some .int), .static yX10_lowest, .code yX10_lowest cX10_lowest 1 (some .int), .methodLink RX10 261 yJ6_numberOfTrailingZeros_0f7a4, .static yJ6_numberOfTrailingZeros_0f7a4, .initialized RJ6, .code yJ6_numberOfTrailingZeros_0f7a4 cJ6_numberOfTrailingZeros_0f7a4 2 (some .int), .constant RJ6 264 (65536)] ++ wsX80 ++ wsX20)
def wsX2_learn_r1 : List Cond := [Cond.fieldLink RX2 25 "LastLetter$Orders" "isKnown" "Z", Cond.fieldLink RX2 9 "LastLetter$Orders" "breaks" "[B", Cond.arrayClass .byte, Cond.arrayClass .int, Cond.fieldLink RX2 15 "LastLetter$Orders" "starts" "[I", Cond.fieldLink RX2 19 "LastLetter$Orders" "worths" "[I", Cond.methodLink RX2 97 yX2_learnSet, Cond.instanceMethod yX2_learnSet, Cond.selects RX2 yX2_learnSet yX2_learnSet, Cond.initialized RX2, Cond.code yX2_learnSet cX2_learnSet 7 none, Cond.static yX10_isIn, Cond.initialized RX10, Cond.code yX10_isIn cX10_isIn 2 (some .boolean), Cond.methodLink RX2 67 yX2_breaksBehind, Cond.instanceMethod yX2_breaksBehind, Cond.selects RX2 yX2_breaksBehind yX2_breaksBehind, Cond.code yX2_breaksBehind cX2_breaksBehind 4 (some .int), Cond.static yX10_lowest, Cond.code yX10_lowest cX10_lowest 1 (some .int), Cond.methodLink RX10 261 yJ6_numberOfTrailingZeros_0f7a4, Cond.static yJ6_numberOfTrailingZeros_0f7a4, Cond.initialized RJ6, Cond.code yJ6_numberOfTrailingZeros_0f7a4 cJ6_numberOfTrailingZeros_0f7a4 2 (some .int)]
def wsX2_learn_r2 : List Cond := [Cond.constant RJ6 264 (65536)]
def wsX2_learn : List Cond := .code yX2_learn cX2_learn 4 none :: ((wsX2_learn_r1 ++ wsX2_learn_r2) ++ wsX80 ++ wsX20)
def wsX2_cheapest : List Cond := .code yX2_cheapest cX2_cheapest 7 (some .int) :: ([.static yX10_isIn, .initialized RX10, .code yX10_isIn cX10_isIn 2 (some .boolean), .methodLink RX2 67 yX2_breaksBehind, .instanceMethod yX2_breaksBehind, .selects RX2 yX2_breaksBehind yX2_breaksBehind, .initialized RX2, .code yX2_breaksBehind cX2_breaksBehind 4 (some .int), .fieldLink RX2 9 "LastLetter$Orders" "breaks" "[B", .fieldLink RX2 15 "LastLetter$Orders" "starts" "[I"] ++ wsX80 ++ wsX20)
def wsX4_add : List Cond := .code yX4_add cX4_add 2 none :: ([.fieldLink RX4 15 "LastLetter$Row" "size" "I", .fieldLink RX4 9 "LastLetter$Row" "items" "[I"] ++ wsX40)
def wsX2_layParts_r1 : List Cond := [Cond.fieldLink RX2 9 "LastLetter$Orders" "breaks" "[B", Cond.methodLink RX2 32 yX2_learn, Cond.instanceMethod yX2_learn, Cond.selects RX2 yX2_learn yX2_learn, Cond.initialized RX2, Cond.code yX2_learn cX2_learn 4 none, Cond.fieldLink RX2 25 "LastLetter$Orders" "isKnown" "Z", Cond.arrayClass .byte, Cond.arrayClass .int, Cond.fieldLink RX2 15 "LastLetter$Orders" "starts" "[I", Cond.fieldLink RX2 19 "LastLetter$Orders" "worths" "[I", Cond.methodLink RX2 97 yX2_learnSet, Cond.instanceMethod yX2_learnSet, Cond.selects RX2 yX2_learnSet yX2_learnSet, Cond.code yX2_learnSet cX2_learnSet 7 none, Cond.static yX10_isIn, Cond.initialized RX10, Cond.code yX10_isIn cX10_isIn 2 (some .boolean), Cond.methodLink RX2 67 yX2_breaksBehind, Cond.instanceMethod yX2_breaksBehind, Cond.selects RX2 yX2_breaksBehind yX2_breaksBehind, Cond.code yX2_breaksBehind cX2_breaksBehind 4 (some .int), Cond.static yX10_lowest, Cond.code yX10_lowest cX10_lowest 1 (some .int)]
def wsX2_layParts_r2 : List Cond := [Cond.methodLink RX10 261 yJ6_numberOfTrailingZeros_0f7a4, Cond.static yJ6_numberOfTrailingZeros_0f7a4, Cond.initialized RJ6, Cond.code yJ6_numberOfTrailingZeros_0f7a4 cJ6_numberOfTrailingZeros_0f7a4 2 (some .int), Cond.constant RJ6 264 (65536), Cond.methodLink RX2 36 yX8_everyWord, Cond.instanceMethod yX8_everyWord, Cond.selects RX8 yX8_everyWord yX8_everyWord, Cond.initialized RX8, Cond.code yX8_everyWord cX8_everyWord 1 (some .int), Cond.fieldLink RX8 52 "LastLetter$Tongue" "words" "I", Cond.methodLink RX2 50 yX2_cheapest, Cond.instanceMethod yX2_cheapest, Cond.selects RX2 yX2_cheapest yX2_cheapest, Cond.code yX2_cheapest cX2_cheapest 7 (some .int), Cond.methodLink RX2 58 yX4_add, Cond.instanceMethod yX4_add, Cond.selects RX4 yX4_add yX4_add, Cond.initialized RX4, Cond.code yX4_add cX4_add 2 none, Cond.fieldLink RX4 15 "LastLetter$Row" "size" "I", Cond.fieldLink RX4 9 "LastLetter$Row" "items" "[I"]
def wsX2_layParts : List Cond := .code yX2_layParts cX2_layParts 9 (some .int) :: ((wsX2_layParts_r1 ++ wsX2_layParts_r2) ++ wsX20 ++ wsX80 ++ wsX40)
def wsX2_layWhole_r1 : List Cond := [Cond.fieldLink RX2 9 "LastLetter$Orders" "breaks" "[B", Cond.methodLink RX2 32 yX2_learn, Cond.instanceMethod yX2_learn, Cond.selects RX2 yX2_learn yX2_learn, Cond.initialized RX2, Cond.code yX2_learn cX2_learn 4 none, Cond.fieldLink RX2 25 "LastLetter$Orders" "isKnown" "Z", Cond.arrayClass .byte, Cond.arrayClass .int, Cond.fieldLink RX2 15 "LastLetter$Orders" "starts" "[I", Cond.fieldLink RX2 19 "LastLetter$Orders" "worths" "[I", Cond.methodLink RX2 97 yX2_learnSet, Cond.instanceMethod yX2_learnSet, Cond.selects RX2 yX2_learnSet yX2_learnSet, Cond.code yX2_learnSet cX2_learnSet 7 none, Cond.static yX10_isIn, Cond.initialized RX10, Cond.code yX10_isIn cX10_isIn 2 (some .boolean), Cond.methodLink RX2 67 yX2_breaksBehind, Cond.instanceMethod yX2_breaksBehind, Cond.selects RX2 yX2_breaksBehind yX2_breaksBehind, Cond.code yX2_breaksBehind cX2_breaksBehind 4 (some .int), Cond.static yX10_lowest, Cond.code yX10_lowest cX10_lowest 1 (some .int)]
def wsX2_layWhole_r2 : List Cond := [Cond.methodLink RX10 261 yJ6_numberOfTrailingZeros_0f7a4, Cond.static yJ6_numberOfTrailingZeros_0f7a4, Cond.initialized RJ6, Cond.code yJ6_numberOfTrailingZeros_0f7a4 cJ6_numberOfTrailingZeros_0f7a4 2 (some .int), Cond.constant RJ6 264 (65536), Cond.methodLink RX2 36 yX8_everyWord, Cond.instanceMethod yX8_everyWord, Cond.selects RX8 yX8_everyWord yX8_everyWord, Cond.initialized RX8, Cond.code yX8_everyWord cX8_everyWord 1 (some .int), Cond.fieldLink RX8 52 "LastLetter$Tongue" "words" "I", Cond.methodLink RX2 42 yX2_layParts, Cond.instanceMethod yX2_layParts, Cond.selects RX2 yX2_layParts yX2_layParts, Cond.code yX2_layParts cX2_layParts 9 (some .int), Cond.methodLink RX2 50 yX2_cheapest, Cond.instanceMethod yX2_cheapest, Cond.selects RX2 yX2_cheapest yX2_cheapest, Cond.code yX2_cheapest cX2_cheapest 7 (some .int), Cond.methodLink RX2 58 yX4_add, Cond.instanceMethod yX4_add, Cond.selects RX4 yX4_add yX4_add, Cond.initialized RX4, Cond.code yX4_add cX4_add 2 none]
def wsX2_layWhole_r3 : List Cond := [Cond.fieldLink RX4 15 "LastLetter$Row" "size" "I", Cond.fieldLink RX4 9 "LastLetter$Row" "items" "[I"]
def wsX2_layWhole : List Cond := .code yX2_layWhole cX2_layWhole 3 (some .boolean) :: ((wsX2_layWhole_r1 ++ (wsX2_layWhole_r2 ++ wsX2_layWhole_r3)) ++ wsX20 ++ wsX80 ++ wsX40)
def wsJ6_bitCount_0f7a4 : List Cond := .code yJ6_bitCount_0f7a4 cJ6_bitCount_0f7a4 1 (some .int) :: ([.constant RJ6 265 (1431655765), .constant RJ6 266 (858993459), .constant RJ6 267 (252645135)])
def wsX2_amount : List Cond := .code yX2_amount cX2_amount 3 (some .int) :: ([.fieldLink RX2 19 "LastLetter$Orders" "worths" "[I", .methodLink RX2 92 yJ6_bitCount_0f7a4, .static yJ6_bitCount_0f7a4, .initialized RJ6, .code yJ6_bitCount_0f7a4 cJ6_bitCount_0f7a4 1 (some .int), .constant RJ6 265 (1431655765), .constant RJ6 266 (858993459), .constant RJ6 267 (252645135)] ++ wsX20)
def wsX2_mostWithin : List Cond := .code yX2_mostWithin cX2_mostWithin 5 (some .int) :: ([.fieldLink RX2 9 "LastLetter$Orders" "breaks" "[B", .methodLink RX2 86 Lib.Math.max.name, .static Lib.Math.max.name, .initialized "java/lang/Math", .code Lib.Math.max.name Lib.Math.max.code 2 (some .int), .methodLink RX2 83 yX2_amount, .instanceMethod yX2_amount, .selects RX2 yX2_amount yX2_amount, .initialized RX2, .code yX2_amount cX2_amount 3 (some .int), .fieldLink RX2 19 "LastLetter$Orders" "worths" "[I", .methodLink RX2 92 yJ6_bitCount_0f7a4, .static yJ6_bitCount_0f7a4, .initialized RJ6, .code yJ6_bitCount_0f7a4 cJ6_bitCount_0f7a4 1 (some .int), .constant RJ6 265 (1431655765), .constant RJ6 266 (858993459), .constant RJ6 267 (252645135)] ++ wsX20)
def wsX2_beginnings : List Cond := .code yX2_beginnings cX2_beginnings 6 (some .int) :: ([.fieldLink RX2 9 "LastLetter$Orders" "breaks" "[B", .fieldLink RX2 15 "LastLetter$Orders" "starts" "[I", .methodLink RX2 83 yX2_amount, .instanceMethod yX2_amount, .selects RX2 yX2_amount yX2_amount, .initialized RX2, .code yX2_amount cX2_amount 3 (some .int), .fieldLink RX2 19 "LastLetter$Orders" "worths" "[I", .methodLink RX2 92 yJ6_bitCount_0f7a4, .static yJ6_bitCount_0f7a4, .initialized RJ6, .code yJ6_bitCount_0f7a4 cJ6_bitCount_0f7a4 1 (some .int), .constant RJ6 265 (1431655765), .constant RJ6 266 (858993459), .constant RJ6 267 (252645135)] ++ wsX20)
def wsX2_layMost_r1 : List Cond := [Cond.methodLink RX2 32 yX2_learn, Cond.instanceMethod yX2_learn, Cond.selects RX2 yX2_learn yX2_learn, Cond.initialized RX2, Cond.code yX2_learn cX2_learn 4 none, Cond.fieldLink RX2 25 "LastLetter$Orders" "isKnown" "Z", Cond.fieldLink RX2 9 "LastLetter$Orders" "breaks" "[B", Cond.arrayClass .byte, Cond.arrayClass .int, Cond.fieldLink RX2 15 "LastLetter$Orders" "starts" "[I", Cond.fieldLink RX2 19 "LastLetter$Orders" "worths" "[I", Cond.methodLink RX2 97 yX2_learnSet, Cond.instanceMethod yX2_learnSet, Cond.selects RX2 yX2_learnSet yX2_learnSet, Cond.code yX2_learnSet cX2_learnSet 7 none, Cond.static yX10_isIn, Cond.initialized RX10, Cond.code yX10_isIn cX10_isIn 2 (some .boolean), Cond.methodLink RX2 67 yX2_breaksBehind, Cond.instanceMethod yX2_breaksBehind, Cond.selects RX2 yX2_breaksBehind yX2_breaksBehind, Cond.code yX2_breaksBehind cX2_breaksBehind 4 (some .int), Cond.static yX10_lowest, Cond.code yX10_lowest cX10_lowest 1 (some .int)]
def wsX2_layMost_r2 : List Cond := [Cond.methodLink RX10 261 yJ6_numberOfTrailingZeros_0f7a4, Cond.static yJ6_numberOfTrailingZeros_0f7a4, Cond.initialized RJ6, Cond.code yJ6_numberOfTrailingZeros_0f7a4 cJ6_numberOfTrailingZeros_0f7a4 2 (some .int), Cond.constant RJ6 264 (65536), Cond.methodLink RX2 36 yX8_everyWord, Cond.instanceMethod yX8_everyWord, Cond.selects RX8 yX8_everyWord yX8_everyWord, Cond.initialized RX8, Cond.code yX8_everyWord cX8_everyWord 1 (some .int), Cond.fieldLink RX8 52 "LastLetter$Tongue" "words" "I", Cond.methodLink RX2 71 yX2_mostWithin, Cond.instanceMethod yX2_mostWithin, Cond.selects RX2 yX2_mostWithin yX2_mostWithin, Cond.code yX2_mostWithin cX2_mostWithin 5 (some .int), Cond.methodLink RX2 86 Lib.Math.max.name, Cond.static Lib.Math.max.name, Cond.initialized "java/lang/Math", Cond.code Lib.Math.max.name Lib.Math.max.code 2 (some .int), Cond.methodLink RX2 83 yX2_amount, Cond.instanceMethod yX2_amount, Cond.selects RX2 yX2_amount yX2_amount, Cond.code yX2_amount cX2_amount 3 (some .int), Cond.methodLink RX2 92 yJ6_bitCount_0f7a4]
def wsX2_layMost_r3 : List Cond := [Cond.static yJ6_bitCount_0f7a4, Cond.code yJ6_bitCount_0f7a4 cJ6_bitCount_0f7a4 1 (some .int), Cond.constant RJ6 265 (1431655765), Cond.constant RJ6 266 (858993459), Cond.constant RJ6 267 (252645135), Cond.methodLink RX2 75 yX2_beginnings, Cond.instanceMethod yX2_beginnings, Cond.selects RX2 yX2_beginnings yX2_beginnings, Cond.code yX2_beginnings cX2_beginnings 6 (some .int), Cond.methodLink RX2 58 yX4_add, Cond.instanceMethod yX4_add, Cond.selects RX4 yX4_add yX4_add, Cond.initialized RX4, Cond.code yX4_add cX4_add 2 none, Cond.fieldLink RX4 15 "LastLetter$Row" "size" "I", Cond.fieldLink RX4 9 "LastLetter$Row" "items" "[I"]
def wsX2_layMost : List Cond := .code yX2_layMost cX2_layMost 10 (some .int) :: ((wsX2_layMost_r1 ++ (wsX2_layMost_r2 ++ wsX2_layMost_r3)) ++ wsX80 ++ wsX20 ++ wsX40)
def wsX2_lossWithout_r1 : List Cond := [Cond.methodLink RX2 32 yX2_learn, Cond.instanceMethod yX2_learn, Cond.selects RX2 yX2_learn yX2_learn, Cond.initialized RX2, Cond.code yX2_learn cX2_learn 4 none, Cond.fieldLink RX2 25 "LastLetter$Orders" "isKnown" "Z", Cond.fieldLink RX2 9 "LastLetter$Orders" "breaks" "[B", Cond.arrayClass .byte, Cond.arrayClass .int, Cond.fieldLink RX2 15 "LastLetter$Orders" "starts" "[I", Cond.fieldLink RX2 19 "LastLetter$Orders" "worths" "[I", Cond.methodLink RX2 97 yX2_learnSet, Cond.instanceMethod yX2_learnSet, Cond.selects RX2 yX2_learnSet yX2_learnSet, Cond.code yX2_learnSet cX2_learnSet 7 none, Cond.static yX10_isIn, Cond.initialized RX10, Cond.code yX10_isIn cX10_isIn 2 (some .boolean), Cond.methodLink RX2 67 yX2_breaksBehind, Cond.instanceMethod yX2_breaksBehind, Cond.selects RX2 yX2_breaksBehind yX2_breaksBehind, Cond.code yX2_breaksBehind cX2_breaksBehind 4 (some .int), Cond.static yX10_lowest, Cond.code yX10_lowest cX10_lowest 1 (some .int)]
def wsX2_lossWithout_r2 : List Cond := [Cond.methodLink RX10 261 yJ6_numberOfTrailingZeros_0f7a4, Cond.static yJ6_numberOfTrailingZeros_0f7a4, Cond.initialized RJ6, Cond.code yJ6_numberOfTrailingZeros_0f7a4 cJ6_numberOfTrailingZeros_0f7a4 2 (some .int), Cond.constant RJ6 264 (65536), Cond.methodLink RX2 36 yX8_everyWord, Cond.instanceMethod yX8_everyWord, Cond.selects RX8 yX8_everyWord yX8_everyWord, Cond.initialized RX8, Cond.code yX8_everyWord cX8_everyWord 1 (some .int), Cond.fieldLink RX8 52 "LastLetter$Tongue" "words" "I", Cond.methodLink RX2 71 yX2_mostWithin, Cond.instanceMethod yX2_mostWithin, Cond.selects RX2 yX2_mostWithin yX2_mostWithin, Cond.code yX2_mostWithin cX2_mostWithin 5 (some .int), Cond.methodLink RX2 86 Lib.Math.max.name, Cond.static Lib.Math.max.name, Cond.initialized "java/lang/Math", Cond.code Lib.Math.max.name Lib.Math.max.code 2 (some .int), Cond.methodLink RX2 83 yX2_amount, Cond.instanceMethod yX2_amount, Cond.selects RX2 yX2_amount yX2_amount, Cond.code yX2_amount cX2_amount 3 (some .int), Cond.methodLink RX2 92 yJ6_bitCount_0f7a4]
def wsX2_lossWithout_r3 : List Cond := [Cond.static yJ6_bitCount_0f7a4, Cond.code yJ6_bitCount_0f7a4 cJ6_bitCount_0f7a4 1 (some .int), Cond.constant RJ6 265 (1431655765), Cond.constant RJ6 266 (858993459), Cond.constant RJ6 267 (252645135)]
def wsX2_lossWithout : List Cond := .code yX2_lossWithout cX2_lossWithout 4 (some .int) :: ((wsX2_lossWithout_r1 ++ (wsX2_lossWithout_r2 ++ wsX2_lossWithout_r3)) ++ wsX80 ++ wsX20)
def wsX2_onward : List Cond := .code yX2_onward cX2_onward 4 (some .int) :: ([.fieldLink RX2 22 "LastLetter$Orders" "closing" "[I"] ++ wsX80 ++ wsX20)
def wsX2_learnClosing : List Cond := .code yX2_learnClosing cX2_learnClosing 6 none :: ([.fieldLink RX2 29 "LastLetter$Orders" "isClosingKnown" "Z", .fieldLink RX2 22 "LastLetter$Orders" "closing" "[I", .arrayClass .int, .static yX10_isIn, .initialized RX10, .code yX10_isIn cX10_isIn 2 (some .boolean), .methodLink RX2 107 yX2_onward, .instanceMethod yX2_onward, .selects RX2 yX2_onward yX2_onward, .initialized RX2, .code yX2_onward cX2_onward 4 (some .int)] ++ wsX80 ++ wsX20)
def wsX2_layRound_r1 : List Cond := [Cond.methodLink RX2 104 yX2_learnClosing, Cond.instanceMethod yX2_learnClosing, Cond.selects RX2 yX2_learnClosing yX2_learnClosing, Cond.initialized RX2, Cond.code yX2_learnClosing cX2_learnClosing 6 none, Cond.fieldLink RX2 29 "LastLetter$Orders" "isClosingKnown" "Z", Cond.fieldLink RX2 22 "LastLetter$Orders" "closing" "[I", Cond.arrayClass .int, Cond.static yX10_isIn, Cond.initialized RX10, Cond.code yX10_isIn cX10_isIn 2 (some .boolean), Cond.methodLink RX2 107 yX2_onward, Cond.instanceMethod yX2_onward, Cond.selects RX2 yX2_onward yX2_onward, Cond.code yX2_onward cX2_onward 4 (some .int), Cond.methodLink RX2 36 yX8_everyWord, Cond.instanceMethod yX8_everyWord, Cond.selects RX8 yX8_everyWord yX8_everyWord, Cond.initialized RX8, Cond.code yX8_everyWord cX8_everyWord 1 (some .int), Cond.fieldLink RX8 52 "LastLetter$Tongue" "words" "I", Cond.methodLink RX2 58 yX4_add, Cond.instanceMethod yX4_add, Cond.selects RX4 yX4_add yX4_add]
def wsX2_layRound_r2 : List Cond := [Cond.initialized RX4, Cond.code yX4_add cX4_add 2 none, Cond.fieldLink RX4 15 "LastLetter$Row" "size" "I", Cond.fieldLink RX4 9 "LastLetter$Row" "items" "[I", Cond.static yX10_lowest, Cond.code yX10_lowest cX10_lowest 1 (some .int), Cond.methodLink RX10 261 yJ6_numberOfTrailingZeros_0f7a4, Cond.static yJ6_numberOfTrailingZeros_0f7a4, Cond.initialized RJ6, Cond.code yJ6_numberOfTrailingZeros_0f7a4 cJ6_numberOfTrailingZeros_0f7a4 2 (some .int), Cond.constant RJ6 264 (65536)]
def wsX2_layRound : List Cond := .code yX2_layRound cX2_layRound 7 (some .boolean) :: ((wsX2_layRound_r1 ++ wsX2_layRound_r2) ++ wsX80 ++ wsX20 ++ wsX40)
def wsX3_init : List Cond := .code yX3_init cX3_init 2 none :: ([.methodLink RX3 3 objectInit, .instanceMethod objectInit, .code objectInit ⟨#[0xb1]⟩ 1 none, .fieldLink RX3 9 "LastLetter$Reader" "place" "I", .fieldLink RX3 15 "LastLetter$Reader" "tape" "LLastLetter$Tape;"] ++ wsX30)
def wsJ7_fill_53178 : List Cond := .code yJ7_fill_53178 cJ7_fill_53178 4 none :: ([])
def wsX8_clear : List Cond := .code yX8_clear cX8_clear 2 none :: ([.fieldLink RX8 52 "LastLetter$Tongue" "words" "I", .fieldLink RX8 56 "LastLetter$Tongue" "errands" "I", .fieldLink RX8 59 "LastLetter$Tongue" "alikes" "I", .fieldLink RX8 62 "LastLetter$Tongue" "law" "I", .fieldLink RX8 34 "LastLetter$Tongue" "errandOf" "[I", .fieldLink RX8 40 "LastLetter$Tongue" "sound" "[I", .methodLink RX8 65 yJ7_fill_53178, .static yJ7_fill_53178, .initialized RJ7, .code yJ7_fill_53178 cJ7_fill_53178 4 none] ++ wsX80)
def wsX7_at : List Cond := .code yX7_at cX7_at 2 (some .int) :: ([.fieldLink RX7 15 "LastLetter$Tape" "size" "I", .fieldLink RX7 9 "LastLetter$Tape" "bytes" "[B"] ++ wsX70)
def wsX3_isBlank : List Cond := .code yX3_isBlank cX3_isBlank 1 (some .boolean) :: ([])
def wsX3_isLetter : List Cond := .code yX3_isLetter cX3_isLetter 1 (some .boolean) :: ([])
def wsX3_refuse : List Cond := .code yX3_refuse cX3_refuse 2 none :: ([.fieldLink RX3 24 "LastLetter$Reader" "fault" "I", .fieldLink RX3 87 "LastLetter$Reader" "start" "I", .fieldLink RX3 9 "LastLetter$Reader" "place" "I"] ++ wsX30)
def wsX3_stepLetters : List Cond := .code yX3_stepLetters cX3_stepLetters 1 none :: ([.fieldLink RX3 27 "LastLetter$Reader" "behind" "I", .fieldLink RX3 15 "LastLetter$Reader" "tape" "LLastLetter$Tape;", .fieldLink RX3 33 "LastLetter$Reader" "kind" "I", .fieldLink RX3 87 "LastLetter$Reader" "start" "I", .methodLink RX3 137 yX7_at, .instanceMethod yX7_at, .selects RX7 yX7_at yX7_at, .initialized RX7, .code yX7_at cX7_at 2 (some .int), .fieldLink RX7 15 "LastLetter$Tape" "size" "I", .fieldLink RX7 9 "LastLetter$Tape" "bytes" "[B", .methodLink RX3 145 yX3_isLetter, .static yX3_isLetter, .initialized RX3, .code yX3_isLetter cX3_isLetter 1 (some .boolean), .methodLink RX3 75 yX3_refuse, .instanceMethod yX3_refuse, .selects RX3 yX3_refuse yX3_refuse, .code yX3_refuse cX3_refuse 2 none, .fieldLink RX3 24 "LastLetter$Reader" "fault" "I", .fieldLink RX3 9 "LastLetter$Reader" "place" "I"] ++ wsX30 ++ wsX70)
def wsX3_isDigit : List Cond := .code yX3_isDigit cX3_isDigit 1 (some .boolean) :: ([])
def wsX3_stepDigits : List Cond := .code yX3_stepDigits cX3_stepDigits 1 none :: ([.fieldLink RX3 27 "LastLetter$Reader" "behind" "I", .fieldLink RX3 15 "LastLetter$Reader" "tape" "LLastLetter$Tape;", .fieldLink RX3 33 "LastLetter$Reader" "kind" "I", .fieldLink RX3 87 "LastLetter$Reader" "start" "I", .methodLink RX3 137 yX7_at, .instanceMethod yX7_at, .selects RX7 yX7_at yX7_at, .initialized RX7, .code yX7_at cX7_at 2 (some .int), .fieldLink RX7 15 "LastLetter$Tape" "size" "I", .fieldLink RX7 9 "LastLetter$Tape" "bytes" "[B", .methodLink RX3 151 yX3_isDigit, .static yX3_isDigit, .initialized RX3, .code yX3_isDigit cX3_isDigit 1 (some .boolean), .methodLink RX3 145 yX3_isLetter, .static yX3_isLetter, .code yX3_isLetter cX3_isLetter 1 (some .boolean), .methodLink RX3 75 yX3_refuse, .instanceMethod yX3_refuse, .selects RX3 yX3_refuse yX3_refuse, .code yX3_refuse cX3_refuse 2 none, .fieldLink RX3 24 "LastLetter$Reader" "fault" "I", .fieldLink RX3 9 "LastLetter$Reader" "place" "I"] ++ wsX30 ++ wsX70)
def wsX3_step_r1 : List Cond := [Cond.fieldLink RX3 24 "LastLetter$Reader" "fault" "I", Cond.fieldLink RX3 27 "LastLetter$Reader" "behind" "I", Cond.fieldLink RX3 87 "LastLetter$Reader" "start" "I", Cond.fieldLink RX3 15 "LastLetter$Reader" "tape" "LLastLetter$Tape;", Cond.fieldLink RX3 33 "LastLetter$Reader" "kind" "I", Cond.methodLink RX3 137 yX7_at, Cond.instanceMethod yX7_at, Cond.selects RX7 yX7_at yX7_at, Cond.initialized RX7, Cond.code yX7_at cX7_at 2 (some .int), Cond.fieldLink RX7 15 "LastLetter$Tape" "size" "I", Cond.fieldLink RX7 9 "LastLetter$Tape" "bytes" "[B", Cond.methodLink RX3 141 yX3_isBlank, Cond.static yX3_isBlank, Cond.initialized RX3, Cond.code yX3_isBlank cX3_isBlank 1 (some .boolean), Cond.methodLink RX3 145 yX3_isLetter, Cond.static yX3_isLetter, Cond.code yX3_isLetter cX3_isLetter 1 (some .boolean), Cond.methodLink RX3 148 yX3_stepLetters, Cond.instanceMethod yX3_stepLetters, Cond.selects RX3 yX3_stepLetters yX3_stepLetters, Cond.code yX3_stepLetters cX3_stepLetters 1 none, Cond.methodLink RX3 75 yX3_refuse]
def wsX3_step_r2 : List Cond := [Cond.instanceMethod yX3_refuse, Cond.selects RX3 yX3_refuse yX3_refuse, Cond.code yX3_refuse cX3_refuse 2 none, Cond.fieldLink RX3 9 "LastLetter$Reader" "place" "I", Cond.methodLink RX3 151 yX3_isDigit, Cond.static yX3_isDigit, Cond.code yX3_isDigit cX3_isDigit 1 (some .boolean), Cond.methodLink RX3 154 yX3_stepDigits, Cond.instanceMethod yX3_stepDigits, Cond.selects RX3 yX3_stepDigits yX3_stepDigits, Cond.code yX3_stepDigits cX3_stepDigits 1 none]
def wsX3_step : List Cond := .code yX3_step cX3_step 2 none :: ((wsX3_step_r1 ++ wsX3_step_r2) ++ wsX30 ++ wsX70)
def wsJ0_coder_7d493 : List Cond := .code yJ0_coder_7d493 cJ0_coder_7d493 1 (some .byte) :: ([.fieldLink RJ0 38 "java/lang/String" "COMPACT_STRINGS" "Z", .fieldLink RJ0 15 "java/lang/String" "coder" "B"])
def wsJ0_length_8abf5 : List Cond := .code yJ0_length_8abf5 cJ0_length_8abf5 1 (some .int) :: ([.fieldLink RJ0 9 "java/lang/String" "value" "[B", .methodLink RJ0 335 yJ0_coder_7d493, .instanceMethod yJ0_coder_7d493, .selects RJ0 yJ0_coder_7d493 yJ0_coder_7d493, .initialized RJ0, .code yJ0_coder_7d493 cJ0_coder_7d493 1 (some .byte), .fieldLink RJ0 38 "java/lang/String" "COMPACT_STRINGS" "Z", .fieldLink RJ0 15 "java/lang/String" "coder" "B"])
def wsJ0_isLatin1_aae02 : List Cond := .code yJ0_isLatin1_aae02 cJ0_isLatin1_aae02 1 (some .boolean) :: ([.fieldLink RJ0 38 "java/lang/String" "COMPACT_STRINGS" "Z", .fieldLink RJ0 15 "java/lang/String" "coder" "B"])
def wsJ3_checkIndex_8e157 : List Cond := .code yJ3_checkIndex_8e157 cJ3_checkIndex_8e157 3 (some .int) :: ([])
def wsJ0_checkIndex_df160 : List Cond := .code yJ0_checkIndex_df160 cJ0_checkIndex_df160 2 none :: ([.fieldLink RJ0 1053 "jdk/internal/util/Preconditions" "SIOOBE_FORMATTER" "Ljava/util/function/BiFunction;", .methodLink RJ0 1059 yJ3_checkIndex_8e157, .static yJ3_checkIndex_8e157, .initialized RJ3, .code yJ3_checkIndex_8e157 cJ3_checkIndex_8e157 3 (some .int)])
def wsJ1_charAt_3b067 : List Cond := .code yJ1_charAt_3b067 cJ1_charAt_3b067 2 (some .char) :: ([.methodLink RJ1 9 yJ0_checkIndex_df160, .static yJ0_checkIndex_df160, .initialized RJ0, .code yJ0_checkIndex_df160 cJ0_checkIndex_df160 2 none, .fieldLink RJ0 1053 "jdk/internal/util/Preconditions" "SIOOBE_FORMATTER" "Ljava/util/function/BiFunction;", .methodLink RJ0 1059 yJ3_checkIndex_8e157, .static yJ3_checkIndex_8e157, .initialized RJ3, .code yJ3_checkIndex_8e157 cJ3_checkIndex_8e157 3 (some .int)])
def wsJ2_length_9d52b : List Cond := .code yJ2_length_9d52b cJ2_length_9d52b 1 (some .int) :: ([])
def wsJ2_checkIndex_2214a : List Cond := .code yJ2_checkIndex_2214a cJ2_checkIndex_2214a 2 none :: ([.methodLink RJ2 48 yJ2_length_9d52b, .static yJ2_length_9d52b, .initialized RJ2, .code yJ2_length_9d52b cJ2_length_9d52b 1 (some .int), .methodLink RJ2 414 yJ0_checkIndex_df160, .static yJ0_checkIndex_df160, .initialized RJ0, .code yJ0_checkIndex_df160 cJ0_checkIndex_df160 2 none, .fieldLink RJ0 1053 "jdk/internal/util/Preconditions" "SIOOBE_FORMATTER" "Ljava/util/function/BiFunction;", .methodLink RJ0 1059 yJ3_checkIndex_8e157, .static yJ3_checkIndex_8e157, .initialized RJ3, .code yJ3_checkIndex_8e157 cJ3_checkIndex_8e157 3 (some .int)])
def wsJ2_getChar_3b067 : List Cond := .code yJ2_getChar_3b067 cJ2_getChar_3b067 2 (some .char) :: ([.fieldLink RJ2 44 "java/lang/StringUTF16" "$assertionsDisabled" "Z", .fieldLink RJ2 59 "java/lang/StringUTF16" "HI_BYTE_SHIFT" "I", .fieldLink RJ2 63 "java/lang/StringUTF16" "LO_BYTE_SHIFT" "I", .methodLink RJ2 48 yJ2_length_9d52b, .static yJ2_length_9d52b, .initialized RJ2, .code yJ2_length_9d52b cJ2_length_9d52b 1 (some .int)])
def wsJ2_charAt_3b067 : List Cond := .code yJ2_charAt_3b067 cJ2_charAt_3b067 2 (some .char) :: ([.methodLink RJ2 67 yJ2_checkIndex_2214a, .static yJ2_checkIndex_2214a, .initialized RJ2, .code yJ2_checkIndex_2214a cJ2_checkIndex_2214a 2 none, .methodLink RJ2 48 yJ2_length_9d52b, .static yJ2_length_9d52b, .code yJ2_length_9d52b cJ2_length_9d52b 1 (some .int), .methodLink RJ2 414 yJ0_checkIndex_df160, .static yJ0_checkIndex_df160, .initialized RJ0, .code yJ0_checkIndex_df160 cJ0_checkIndex_df160 2 none, .fieldLink RJ0 1053 "jdk/internal/util/Preconditions" "SIOOBE_FORMATTER" "Ljava/util/function/BiFunction;", .methodLink RJ0 1059 yJ3_checkIndex_8e157, .static yJ3_checkIndex_8e157, .initialized RJ3, .code yJ3_checkIndex_8e157 cJ3_checkIndex_8e157 3 (some .int), .methodLink RJ2 71 yJ2_getChar_3b067, .static yJ2_getChar_3b067, .code yJ2_getChar_3b067 cJ2_getChar_3b067 2 (some .char), .fieldLink RJ2 44 "java/lang/StringUTF16" "$assertionsDisabled" "Z", .fieldLink RJ2 59 "java/lang/StringUTF16" "HI_BYTE_SHIFT" "I", .fieldLink RJ2 63 "java/lang/StringUTF16" "LO_BYTE_SHIFT" "I"])
def wsJ0_charAt_5068e_r1 : List Cond := [Cond.fieldLink RJ0 9 "java/lang/String" "value" "[B", Cond.methodLink RJ0 492 yJ0_isLatin1_aae02, Cond.instanceMethod yJ0_isLatin1_aae02, Cond.selects RJ0 yJ0_isLatin1_aae02 yJ0_isLatin1_aae02, Cond.initialized RJ0, Cond.code yJ0_isLatin1_aae02 cJ0_isLatin1_aae02 1 (some .boolean), Cond.fieldLink RJ0 38 "java/lang/String" "COMPACT_STRINGS" "Z", Cond.fieldLink RJ0 15 "java/lang/String" "coder" "B", Cond.methodLink RJ0 495 yJ1_charAt_3b067, Cond.static yJ1_charAt_3b067, Cond.initialized RJ1, Cond.code yJ1_charAt_3b067 cJ1_charAt_3b067 2 (some .char), Cond.methodLink RJ1 9 yJ0_checkIndex_df160, Cond.static yJ0_checkIndex_df160, Cond.code yJ0_checkIndex_df160 cJ0_checkIndex_df160 2 none, Cond.fieldLink RJ0 1053 "jdk/internal/util/Preconditions" "SIOOBE_FORMATTER" "Ljava/util/function/BiFunction;", Cond.methodLink RJ0 1059 yJ3_checkIndex_8e157, Cond.static yJ3_checkIndex_8e157, Cond.initialized RJ3, Cond.code yJ3_checkIndex_8e157 cJ3_checkIndex_8e157 3 (some .int), Cond.methodLink RJ0 498 yJ2_charAt_3b067, Cond.static yJ2_charAt_3b067, Cond.initialized RJ2, Cond.code yJ2_charAt_3b067 cJ2_charAt_3b067 2 (some .char)]
def wsJ0_charAt_5068e_r2 : List Cond := [Cond.methodLink RJ2 67 yJ2_checkIndex_2214a, Cond.static yJ2_checkIndex_2214a, Cond.code yJ2_checkIndex_2214a cJ2_checkIndex_2214a 2 none, Cond.methodLink RJ2 48 yJ2_length_9d52b, Cond.static yJ2_length_9d52b, Cond.code yJ2_length_9d52b cJ2_length_9d52b 1 (some .int), Cond.methodLink RJ2 414 yJ0_checkIndex_df160, Cond.methodLink RJ2 71 yJ2_getChar_3b067, Cond.static yJ2_getChar_3b067, Cond.code yJ2_getChar_3b067 cJ2_getChar_3b067 2 (some .char), Cond.fieldLink RJ2 44 "java/lang/StringUTF16" "$assertionsDisabled" "Z", Cond.fieldLink RJ2 59 "java/lang/StringUTF16" "HI_BYTE_SHIFT" "I", Cond.fieldLink RJ2 63 "java/lang/StringUTF16" "LO_BYTE_SHIFT" "I"]
def wsJ0_charAt_5068e : List Cond := .code yJ0_charAt_5068e cJ0_charAt_5068e 2 (some .char) :: ((wsJ0_charAt_5068e_r1 ++ wsJ0_charAt_5068e_r2))
def wsX3_isWritten_r1 : List Cond := [Cond.fieldLink RX3 33 "LastLetter$Reader" "kind" "I", Cond.fieldLink RX3 27 "LastLetter$Reader" "behind" "I", Cond.fieldLink RX3 87 "LastLetter$Reader" "start" "I", Cond.fieldLink RX3 15 "LastLetter$Reader" "tape" "LLastLetter$Tape;", Cond.methodLink RX3 157 yJ0_length_8abf5, Cond.instanceMethod yJ0_length_8abf5, Cond.selects RJ0 yJ0_length_8abf5 yJ0_length_8abf5, Cond.initialized RJ0, Cond.code yJ0_length_8abf5 cJ0_length_8abf5 1 (some .int), Cond.fieldLink RJ0 9 "java/lang/String" "value" "[B", Cond.methodLink RJ0 335 yJ0_coder_7d493, Cond.instanceMethod yJ0_coder_7d493, Cond.selects RJ0 yJ0_coder_7d493 yJ0_coder_7d493, Cond.code yJ0_coder_7d493 cJ0_coder_7d493 1 (some .byte), Cond.fieldLink RJ0 38 "java/lang/String" "COMPACT_STRINGS" "Z", Cond.fieldLink RJ0 15 "java/lang/String" "coder" "B", Cond.methodLink RX3 137 yX7_at, Cond.instanceMethod yX7_at, Cond.selects RX7 yX7_at yX7_at, Cond.initialized RX7, Cond.code yX7_at cX7_at 2 (some .int), Cond.fieldLink RX7 15 "LastLetter$Tape" "size" "I", Cond.fieldLink RX7 9 "LastLetter$Tape" "bytes" "[B", Cond.methodLink RX3 162 yJ0_charAt_5068e]
def wsX3_isWritten_r2 : List Cond := [Cond.instanceMethod yJ0_charAt_5068e, Cond.selects RJ0 yJ0_charAt_5068e yJ0_charAt_5068e, Cond.code yJ0_charAt_5068e cJ0_charAt_5068e 2 (some .char), Cond.methodLink RJ0 492 yJ0_isLatin1_aae02, Cond.instanceMethod yJ0_isLatin1_aae02, Cond.selects RJ0 yJ0_isLatin1_aae02 yJ0_isLatin1_aae02, Cond.code yJ0_isLatin1_aae02 cJ0_isLatin1_aae02 1 (some .boolean), Cond.methodLink RJ0 495 yJ1_charAt_3b067, Cond.static yJ1_charAt_3b067, Cond.initialized RJ1, Cond.code yJ1_charAt_3b067 cJ1_charAt_3b067 2 (some .char), Cond.methodLink RJ1 9 yJ0_checkIndex_df160, Cond.static yJ0_checkIndex_df160, Cond.code yJ0_checkIndex_df160 cJ0_checkIndex_df160 2 none, Cond.fieldLink RJ0 1053 "jdk/internal/util/Preconditions" "SIOOBE_FORMATTER" "Ljava/util/function/BiFunction;", Cond.methodLink RJ0 1059 yJ3_checkIndex_8e157, Cond.static yJ3_checkIndex_8e157, Cond.initialized RJ3, Cond.code yJ3_checkIndex_8e157 cJ3_checkIndex_8e157 3 (some .int), Cond.methodLink RJ0 498 yJ2_charAt_3b067, Cond.static yJ2_charAt_3b067, Cond.initialized RJ2, Cond.code yJ2_charAt_3b067 cJ2_charAt_3b067 2 (some .char), Cond.methodLink RJ2 67 yJ2_checkIndex_2214a]
def wsX3_isWritten_r3 : List Cond := [Cond.static yJ2_checkIndex_2214a, Cond.code yJ2_checkIndex_2214a cJ2_checkIndex_2214a 2 none, Cond.methodLink RJ2 48 yJ2_length_9d52b, Cond.static yJ2_length_9d52b, Cond.code yJ2_length_9d52b cJ2_length_9d52b 1 (some .int), Cond.methodLink RJ2 414 yJ0_checkIndex_df160, Cond.methodLink RJ2 71 yJ2_getChar_3b067, Cond.static yJ2_getChar_3b067, Cond.code yJ2_getChar_3b067 cJ2_getChar_3b067 2 (some .char), Cond.fieldLink RJ2 44 "java/lang/StringUTF16" "$assertionsDisabled" "Z", Cond.fieldLink RJ2 59 "java/lang/StringUTF16" "HI_BYTE_SHIFT" "I", Cond.fieldLink RJ2 63 "java/lang/StringUTF16" "LO_BYTE_SHIFT" "I"]
def wsX3_isWritten : List Cond := .code yX3_isWritten cX3_isWritten 3 (some .boolean) :: ((wsX3_isWritten_r1 ++ (wsX3_isWritten_r2 ++ wsX3_isWritten_r3)) ++ wsX30 ++ wsX70)
def wsX3_name : List Cond := .code yX3_name cX3_name 4 (some .long) :: ([.fieldLink RX3 33 "LastLetter$Reader" "kind" "I", .fieldLink RX3 87 "LastLetter$Reader" "start" "I", .fieldLink RX3 27 "LastLetter$Reader" "behind" "I", .fieldLink RX3 15 "LastLetter$Reader" "tape" "LLastLetter$Tape;", .methodLink RX3 75 yX3_refuse, .instanceMethod yX3_refuse, .selects RX3 yX3_refuse yX3_refuse, .initialized RX3, .code yX3_refuse cX3_refuse 2 none, .fieldLink RX3 24 "LastLetter$Reader" "fault" "I", .fieldLink RX3 9 "LastLetter$Reader" "place" "I", .methodLink RX3 137 yX7_at, .instanceMethod yX7_at, .selects RX7 yX7_at yX7_at, .initialized RX7, .code yX7_at cX7_at 2 (some .int), .fieldLink RX7 15 "LastLetter$Tape" "size" "I", .fieldLink RX7 9 "LastLetter$Tape" "bytes" "[B"] ++ wsX30 ++ wsX70)
def wsX8_find : List Cond := .code yX8_find cX8_find 4 (some .int) :: ([.fieldLink RX8 52 "LastLetter$Tongue" "words" "I", .fieldLink RX8 9 "LastLetter$Tongue" "name" "[J"] ++ wsX80)
def wsX3_number : List Cond := .code yX3_number cX3_number 5 (some .int) :: ([.fieldLink RX3 33 "LastLetter$Reader" "kind" "I", .fieldLink RX3 87 "LastLetter$Reader" "start" "I", .fieldLink RX3 27 "LastLetter$Reader" "behind" "I", .fieldLink RX3 15 "LastLetter$Reader" "tape" "LLastLetter$Tape;", .methodLink RX3 75 yX3_refuse, .instanceMethod yX3_refuse, .selects RX3 yX3_refuse yX3_refuse, .initialized RX3, .code yX3_refuse cX3_refuse 2 none, .fieldLink RX3 24 "LastLetter$Reader" "fault" "I", .fieldLink RX3 9 "LastLetter$Reader" "place" "I", .methodLink RX3 137 yX7_at, .instanceMethod yX7_at, .selects RX7 yX7_at yX7_at, .initialized RX7, .code yX7_at cX7_at 2 (some .int), .fieldLink RX7 15 "LastLetter$Tape" "size" "I", .fieldLink RX7 9 "LastLetter$Tape" "bytes" "[B"] ++ wsX30 ++ wsX70)
def wsX8_addWord : List Cond := .code yX8_addWord cX8_addWord 5 none :: ([.fieldLink RX8 52 "LastLetter$Tongue" "words" "I", .fieldLink RX8 9 "LastLetter$Tongue" "name" "[J", .fieldLink RX8 15 "LastLetter$Tongue" "worth" "[I", .fieldLink RX8 19 "LastLetter$Tongue" "times" "[I"] ++ wsX80)
def wsX8_spell : List Cond := .code yX8_spell cX8_spell 6 none :: ([.fieldLink RX8 52 "LastLetter$Tongue" "words" "I", .fieldLink RX8 22 "LastLetter$Tongue" "first" "[I", .fieldLink RX8 31 "LastLetter$Tongue" "last" "[I", .fieldLink RX8 25 "LastLetter$Tongue" "second" "[I", .fieldLink RX8 28 "LastLetter$Tongue" "beforeLast" "[I", .methodLink RX8 75 yX7_at, .instanceMethod yX7_at, .selects RX7 yX7_at yX7_at, .initialized RX7, .code yX7_at cX7_at 2 (some .int), .fieldLink RX7 15 "LastLetter$Tape" "size" "I", .fieldLink RX7 9 "LastLetter$Tape" "bytes" "[B"] ++ wsX80 ++ wsX70)
def wsX3_readWord_r1 : List Cond := [Cond.fieldLink RX3 87 "LastLetter$Reader" "start" "I", Cond.fieldLink RX3 27 "LastLetter$Reader" "behind" "I", Cond.fieldLink RX3 24 "LastLetter$Reader" "fault" "I", Cond.fieldLink RX3 15 "LastLetter$Reader" "tape" "LLastLetter$Tape;", Cond.methodLink RX3 30 yX3_step, Cond.instanceMethod yX3_step, Cond.selects RX3 yX3_step yX3_step, Cond.initialized RX3, Cond.code yX3_step cX3_step 2 none, Cond.fieldLink RX3 33 "LastLetter$Reader" "kind" "I", Cond.methodLink RX3 137 yX7_at, Cond.instanceMethod yX7_at, Cond.selects RX7 yX7_at yX7_at, Cond.initialized RX7, Cond.code yX7_at cX7_at 2 (some .int), Cond.fieldLink RX7 15 "LastLetter$Tape" "size" "I", Cond.fieldLink RX7 9 "LastLetter$Tape" "bytes" "[B", Cond.methodLink RX3 141 yX3_isBlank, Cond.static yX3_isBlank, Cond.code yX3_isBlank cX3_isBlank 1 (some .boolean), Cond.methodLink RX3 145 yX3_isLetter, Cond.static yX3_isLetter, Cond.code yX3_isLetter cX3_isLetter 1 (some .boolean), Cond.methodLink RX3 148 yX3_stepLetters]
def wsX3_readWord_r2 : List Cond := [Cond.instanceMethod yX3_stepLetters, Cond.selects RX3 yX3_stepLetters yX3_stepLetters, Cond.code yX3_stepLetters cX3_stepLetters 1 none, Cond.methodLink RX3 75 yX3_refuse, Cond.instanceMethod yX3_refuse, Cond.selects RX3 yX3_refuse yX3_refuse, Cond.code yX3_refuse cX3_refuse 2 none, Cond.fieldLink RX3 9 "LastLetter$Reader" "place" "I", Cond.methodLink RX3 151 yX3_isDigit, Cond.static yX3_isDigit, Cond.code yX3_isDigit cX3_isDigit 1 (some .boolean), Cond.methodLink RX3 154 yX3_stepDigits, Cond.instanceMethod yX3_stepDigits, Cond.selects RX3 yX3_stepDigits yX3_stepDigits, Cond.code yX3_stepDigits cX3_stepDigits 1 none, Cond.methodLink RX3 79 yX3_name, Cond.instanceMethod yX3_name, Cond.selects RX3 yX3_name yX3_name, Cond.code yX3_name cX3_name 4 (some .long), Cond.methodLink RX3 83 yX8_find, Cond.instanceMethod yX8_find, Cond.selects RX8 yX8_find yX8_find, Cond.initialized RX8, Cond.code yX8_find cX8_find 4 (some .int)]
def wsX3_readWord_r3 : List Cond := [Cond.fieldLink RX8 52 "LastLetter$Tongue" "words" "I", Cond.fieldLink RX8 9 "LastLetter$Tongue" "name" "[J", Cond.methodLink RX3 42 yX3_isWritten, Cond.instanceMethod yX3_isWritten, Cond.selects RX3 yX3_isWritten yX3_isWritten, Cond.code yX3_isWritten cX3_isWritten 3 (some .boolean), Cond.methodLink RX3 157 yJ0_length_8abf5, Cond.instanceMethod yJ0_length_8abf5, Cond.selects RJ0 yJ0_length_8abf5 yJ0_length_8abf5, Cond.initialized RJ0, Cond.code yJ0_length_8abf5 cJ0_length_8abf5 1 (some .int), Cond.fieldLink RJ0 9 "java/lang/String" "value" "[B", Cond.methodLink RJ0 335 yJ0_coder_7d493, Cond.instanceMethod yJ0_coder_7d493, Cond.selects RJ0 yJ0_coder_7d493 yJ0_coder_7d493, Cond.code yJ0_coder_7d493 cJ0_coder_7d493 1 (some .byte), Cond.fieldLink RJ0 38 "java/lang/String" "COMPACT_STRINGS" "Z", Cond.fieldLink RJ0 15 "java/lang/String" "coder" "B", Cond.methodLink RX3 162 yJ0_charAt_5068e, Cond.instanceMethod yJ0_charAt_5068e, Cond.selects RJ0 yJ0_charAt_5068e yJ0_charAt_5068e, Cond.code yJ0_charAt_5068e cJ0_charAt_5068e 2 (some .char), Cond.methodLink RJ0 492 yJ0_isLatin1_aae02, Cond.instanceMethod yJ0_isLatin1_aae02]
def wsX3_readWord_r4 : List Cond := [Cond.selects RJ0 yJ0_isLatin1_aae02 yJ0_isLatin1_aae02, Cond.code yJ0_isLatin1_aae02 cJ0_isLatin1_aae02 1 (some .boolean), Cond.methodLink RJ0 495 yJ1_charAt_3b067, Cond.static yJ1_charAt_3b067, Cond.initialized RJ1, Cond.code yJ1_charAt_3b067 cJ1_charAt_3b067 2 (some .char), Cond.methodLink RJ1 9 yJ0_checkIndex_df160, Cond.static yJ0_checkIndex_df160, Cond.code yJ0_checkIndex_df160 cJ0_checkIndex_df160 2 none, Cond.fieldLink RJ0 1053 "jdk/internal/util/Preconditions" "SIOOBE_FORMATTER" "Ljava/util/function/BiFunction;", Cond.methodLink RJ0 1059 yJ3_checkIndex_8e157, Cond.static yJ3_checkIndex_8e157, Cond.initialized RJ3, Cond.code yJ3_checkIndex_8e157 cJ3_checkIndex_8e157 3 (some .int), Cond.methodLink RJ0 498 yJ2_charAt_3b067, Cond.static yJ2_charAt_3b067, Cond.initialized RJ2, Cond.code yJ2_charAt_3b067 cJ2_charAt_3b067 2 (some .char), Cond.methodLink RJ2 67 yJ2_checkIndex_2214a, Cond.static yJ2_checkIndex_2214a, Cond.code yJ2_checkIndex_2214a cJ2_checkIndex_2214a 2 none, Cond.methodLink RJ2 48 yJ2_length_9d52b, Cond.static yJ2_length_9d52b, Cond.code yJ2_length_9d52b cJ2_length_9d52b 1 (some .int)]
def wsX3_readWord_r5 : List Cond := [Cond.methodLink RJ2 414 yJ0_checkIndex_df160, Cond.methodLink RJ2 71 yJ2_getChar_3b067, Cond.static yJ2_getChar_3b067, Cond.code yJ2_getChar_3b067 cJ2_getChar_3b067 2 (some .char), Cond.fieldLink RJ2 44 "java/lang/StringUTF16" "$assertionsDisabled" "Z", Cond.fieldLink RJ2 59 "java/lang/StringUTF16" "HI_BYTE_SHIFT" "I", Cond.fieldLink RJ2 63 "java/lang/StringUTF16" "LO_BYTE_SHIFT" "I", Cond.methodLink RX3 92 yX3_number, Cond.instanceMethod yX3_number, Cond.selects RX3 yX3_number yX3_number, Cond.code yX3_number cX3_number 5 (some .int), Cond.methodLink RX3 98 yX8_addWord, Cond.instanceMethod yX8_addWord, Cond.selects RX8 yX8_addWord yX8_addWord, Cond.code yX8_addWord cX8_addWord 5 none, Cond.fieldLink RX8 15 "LastLetter$Tongue" "worth" "[I", Cond.fieldLink RX8 19 "LastLetter$Tongue" "times" "[I", Cond.methodLink RX3 102 yX8_spell, Cond.instanceMethod yX8_spell, Cond.selects RX8 yX8_spell yX8_spell, Cond.code yX8_spell cX8_spell 6 none, Cond.fieldLink RX8 22 "LastLetter$Tongue" "first" "[I", Cond.fieldLink RX8 31 "LastLetter$Tongue" "last" "[I", Cond.fieldLink RX8 25 "LastLetter$Tongue" "second" "[I"]
def wsX3_readWord_r6 : List Cond := [Cond.fieldLink RX8 28 "LastLetter$Tongue" "beforeLast" "[I", Cond.methodLink RX8 75 yX7_at]
def wsX3_readWord : List Cond := .code yX3_readWord cX3_readWord 8 none :: ((wsX3_readWord_r1 ++ (wsX3_readWord_r2 ++ (wsX3_readWord_r3 ++ (wsX3_readWord_r4 ++ (wsX3_readWord_r5 ++ wsX3_readWord_r6))))) ++ wsX30 ++ wsX70 ++ wsX80)
def wsX3_readLaw_r1 : List Cond := [Cond.methodLink RX3 30 yX3_step, Cond.instanceMethod yX3_step, Cond.selects RX3 yX3_step yX3_step, Cond.initialized RX3, Cond.code yX3_step cX3_step 2 none, Cond.fieldLink RX3 24 "LastLetter$Reader" "fault" "I", Cond.fieldLink RX3 27 "LastLetter$Reader" "behind" "I", Cond.fieldLink RX3 87 "LastLetter$Reader" "start" "I", Cond.fieldLink RX3 15 "LastLetter$Reader" "tape" "LLastLetter$Tape;", Cond.fieldLink RX3 33 "LastLetter$Reader" "kind" "I", Cond.methodLink RX3 137 yX7_at, Cond.instanceMethod yX7_at, Cond.selects RX7 yX7_at yX7_at, Cond.initialized RX7, Cond.code yX7_at cX7_at 2 (some .int), Cond.fieldLink RX7 15 "LastLetter$Tape" "size" "I", Cond.fieldLink RX7 9 "LastLetter$Tape" "bytes" "[B", Cond.methodLink RX3 141 yX3_isBlank, Cond.static yX3_isBlank, Cond.code yX3_isBlank cX3_isBlank 1 (some .boolean), Cond.methodLink RX3 145 yX3_isLetter, Cond.static yX3_isLetter, Cond.code yX3_isLetter cX3_isLetter 1 (some .boolean), Cond.methodLink RX3 148 yX3_stepLetters]
def wsX3_readLaw_r2 : List Cond := [Cond.instanceMethod yX3_stepLetters, Cond.selects RX3 yX3_stepLetters yX3_stepLetters, Cond.code yX3_stepLetters cX3_stepLetters 1 none, Cond.methodLink RX3 75 yX3_refuse, Cond.instanceMethod yX3_refuse, Cond.selects RX3 yX3_refuse yX3_refuse, Cond.code yX3_refuse cX3_refuse 2 none, Cond.fieldLink RX3 9 "LastLetter$Reader" "place" "I", Cond.methodLink RX3 151 yX3_isDigit, Cond.static yX3_isDigit, Cond.code yX3_isDigit cX3_isDigit 1 (some .boolean), Cond.methodLink RX3 154 yX3_stepDigits, Cond.instanceMethod yX3_stepDigits, Cond.selects RX3 yX3_stepDigits yX3_stepDigits, Cond.code yX3_stepDigits cX3_stepDigits 1 none, Cond.methodLink RX3 42 yX3_isWritten, Cond.instanceMethod yX3_isWritten, Cond.selects RX3 yX3_isWritten yX3_isWritten, Cond.code yX3_isWritten cX3_isWritten 3 (some .boolean), Cond.methodLink RX3 157 yJ0_length_8abf5, Cond.instanceMethod yJ0_length_8abf5, Cond.selects RJ0 yJ0_length_8abf5 yJ0_length_8abf5, Cond.initialized RJ0, Cond.code yJ0_length_8abf5 cJ0_length_8abf5 1 (some .int)]
def wsX3_readLaw_r3 : List Cond := [Cond.fieldLink RJ0 9 "java/lang/String" "value" "[B", Cond.methodLink RJ0 335 yJ0_coder_7d493, Cond.instanceMethod yJ0_coder_7d493, Cond.selects RJ0 yJ0_coder_7d493 yJ0_coder_7d493, Cond.code yJ0_coder_7d493 cJ0_coder_7d493 1 (some .byte), Cond.fieldLink RJ0 38 "java/lang/String" "COMPACT_STRINGS" "Z", Cond.fieldLink RJ0 15 "java/lang/String" "coder" "B", Cond.methodLink RX3 162 yJ0_charAt_5068e, Cond.instanceMethod yJ0_charAt_5068e, Cond.selects RJ0 yJ0_charAt_5068e yJ0_charAt_5068e, Cond.code yJ0_charAt_5068e cJ0_charAt_5068e 2 (some .char), Cond.methodLink RJ0 492 yJ0_isLatin1_aae02, Cond.instanceMethod yJ0_isLatin1_aae02, Cond.selects RJ0 yJ0_isLatin1_aae02 yJ0_isLatin1_aae02, Cond.code yJ0_isLatin1_aae02 cJ0_isLatin1_aae02 1 (some .boolean), Cond.methodLink RJ0 495 yJ1_charAt_3b067, Cond.static yJ1_charAt_3b067, Cond.initialized RJ1, Cond.code yJ1_charAt_3b067 cJ1_charAt_3b067 2 (some .char), Cond.methodLink RJ1 9 yJ0_checkIndex_df160, Cond.static yJ0_checkIndex_df160, Cond.code yJ0_checkIndex_df160 cJ0_checkIndex_df160 2 none, Cond.fieldLink RJ0 1053 "jdk/internal/util/Preconditions" "SIOOBE_FORMATTER" "Ljava/util/function/BiFunction;", Cond.methodLink RJ0 1059 yJ3_checkIndex_8e157]
def wsX3_readLaw_r4 : List Cond := [Cond.static yJ3_checkIndex_8e157, Cond.initialized RJ3, Cond.code yJ3_checkIndex_8e157 cJ3_checkIndex_8e157 3 (some .int), Cond.methodLink RJ0 498 yJ2_charAt_3b067, Cond.static yJ2_charAt_3b067, Cond.initialized RJ2, Cond.code yJ2_charAt_3b067 cJ2_charAt_3b067 2 (some .char), Cond.methodLink RJ2 67 yJ2_checkIndex_2214a, Cond.static yJ2_checkIndex_2214a, Cond.code yJ2_checkIndex_2214a cJ2_checkIndex_2214a 2 none, Cond.methodLink RJ2 48 yJ2_length_9d52b, Cond.static yJ2_length_9d52b, Cond.code yJ2_length_9d52b cJ2_length_9d52b 1 (some .int), Cond.methodLink RJ2 414 yJ0_checkIndex_df160, Cond.methodLink RJ2 71 yJ2_getChar_3b067, Cond.static yJ2_getChar_3b067, Cond.code yJ2_getChar_3b067 cJ2_getChar_3b067 2 (some .char), Cond.fieldLink RJ2 44 "java/lang/StringUTF16" "$assertionsDisabled" "Z", Cond.fieldLink RJ2 59 "java/lang/StringUTF16" "HI_BYTE_SHIFT" "I", Cond.fieldLink RJ2 63 "java/lang/StringUTF16" "LO_BYTE_SHIFT" "I"]
def wsX3_readLaw : List Cond := .code yX3_readLaw cX3_readLaw 2 none :: ((wsX3_readLaw_r1 ++ (wsX3_readLaw_r2 ++ (wsX3_readLaw_r3 ++ wsX3_readLaw_r4))) ++ wsX80 ++ wsX30 ++ wsX70)
def wsX3_letter : List Cond := .code yX3_letter cX3_letter 1 (some .int) :: ([.fieldLink RX3 33 "LastLetter$Reader" "kind" "I", .fieldLink RX3 27 "LastLetter$Reader" "behind" "I", .fieldLink RX3 87 "LastLetter$Reader" "start" "I", .fieldLink RX3 15 "LastLetter$Reader" "tape" "LLastLetter$Tape;", .methodLink RX3 75 yX3_refuse, .instanceMethod yX3_refuse, .selects RX3 yX3_refuse yX3_refuse, .initialized RX3, .code yX3_refuse cX3_refuse 2 none, .fieldLink RX3 24 "LastLetter$Reader" "fault" "I", .fieldLink RX3 9 "LastLetter$Reader" "place" "I", .methodLink RX3 137 yX7_at, .instanceMethod yX7_at, .selects RX7 yX7_at yX7_at, .initialized RX7, .code yX7_at cX7_at 2 (some .int), .fieldLink RX7 15 "LastLetter$Tape" "size" "I", .fieldLink RX7 9 "LastLetter$Tape" "bytes" "[B"] ++ wsX30 ++ wsX70)
def wsX8_addAlike : List Cond := .code yX8_addAlike cX8_addAlike 6 none :: ([.fieldLink RX8 40 "LastLetter$Tongue" "sound" "[I", .methodLink RX8 81 Lib.Math.min.name, .static Lib.Math.min.name, .initialized "java/lang/Math", .code Lib.Math.min.name Lib.Math.min.code 2 (some .int), .methodLink RX8 87 Lib.Math.max.name, .static Lib.Math.max.name, .code Lib.Math.max.name Lib.Math.max.code 2 (some .int), .fieldLink RX8 59 "LastLetter$Tongue" "alikes" "I"] ++ wsX80)
def wsX3_readAlike_r1 : List Cond := [Cond.fieldLink RX3 24 "LastLetter$Reader" "fault" "I", Cond.methodLink RX3 30 yX3_step, Cond.instanceMethod yX3_step, Cond.selects RX3 yX3_step yX3_step, Cond.initialized RX3, Cond.code yX3_step cX3_step 2 none, Cond.fieldLink RX3 27 "LastLetter$Reader" "behind" "I", Cond.fieldLink RX3 87 "LastLetter$Reader" "start" "I", Cond.fieldLink RX3 15 "LastLetter$Reader" "tape" "LLastLetter$Tape;", Cond.fieldLink RX3 33 "LastLetter$Reader" "kind" "I", Cond.methodLink RX3 137 yX7_at, Cond.instanceMethod yX7_at, Cond.selects RX7 yX7_at yX7_at, Cond.initialized RX7, Cond.code yX7_at cX7_at 2 (some .int), Cond.fieldLink RX7 15 "LastLetter$Tape" "size" "I", Cond.fieldLink RX7 9 "LastLetter$Tape" "bytes" "[B", Cond.methodLink RX3 141 yX3_isBlank, Cond.static yX3_isBlank, Cond.code yX3_isBlank cX3_isBlank 1 (some .boolean), Cond.methodLink RX3 145 yX3_isLetter, Cond.static yX3_isLetter, Cond.code yX3_isLetter cX3_isLetter 1 (some .boolean), Cond.methodLink RX3 148 yX3_stepLetters]
def wsX3_readAlike_r2 : List Cond := [Cond.instanceMethod yX3_stepLetters, Cond.selects RX3 yX3_stepLetters yX3_stepLetters, Cond.code yX3_stepLetters cX3_stepLetters 1 none, Cond.methodLink RX3 75 yX3_refuse, Cond.instanceMethod yX3_refuse, Cond.selects RX3 yX3_refuse yX3_refuse, Cond.code yX3_refuse cX3_refuse 2 none, Cond.fieldLink RX3 9 "LastLetter$Reader" "place" "I", Cond.methodLink RX3 151 yX3_isDigit, Cond.static yX3_isDigit, Cond.code yX3_isDigit cX3_isDigit 1 (some .boolean), Cond.methodLink RX3 154 yX3_stepDigits, Cond.instanceMethod yX3_stepDigits, Cond.selects RX3 yX3_stepDigits yX3_stepDigits, Cond.code yX3_stepDigits cX3_stepDigits 1 none, Cond.methodLink RX3 112 yX3_letter, Cond.instanceMethod yX3_letter, Cond.selects RX3 yX3_letter yX3_letter, Cond.code yX3_letter cX3_letter 1 (some .int), Cond.methodLink RX3 116 yX8_addAlike, Cond.instanceMethod yX8_addAlike, Cond.selects RX8 yX8_addAlike yX8_addAlike, Cond.initialized RX8, Cond.code yX8_addAlike cX8_addAlike 6 none]
def wsX3_readAlike_r3 : List Cond := [Cond.fieldLink RX8 40 "LastLetter$Tongue" "sound" "[I", Cond.methodLink RX8 81 Lib.Math.min.name, Cond.static Lib.Math.min.name, Cond.initialized "java/lang/Math", Cond.code Lib.Math.min.name Lib.Math.min.code 2 (some .int), Cond.methodLink RX8 87 Lib.Math.max.name, Cond.static Lib.Math.max.name, Cond.code Lib.Math.max.name Lib.Math.max.code 2 (some .int), Cond.fieldLink RX8 59 "LastLetter$Tongue" "alikes" "I"]
def wsX3_readAlike : List Cond := .code yX3_readAlike cX3_readAlike 4 none :: ((wsX3_readAlike_r1 ++ (wsX3_readAlike_r2 ++ wsX3_readAlike_r3)) ++ wsX30 ++ wsX70 ++ wsX80)
def wsX8_errandNamed : List Cond := .code yX8_errandNamed cX8_errandNamed 4 (some .int) :: ([.fieldLink RX8 34 "LastLetter$Tongue" "errandOf" "[I", .methodLink RX8 71 yX8_find, .instanceMethod yX8_find, .selects RX8 yX8_find yX8_find, .initialized RX8, .code yX8_find cX8_find 4 (some .int), .fieldLink RX8 52 "LastLetter$Tongue" "words" "I", .fieldLink RX8 9 "LastLetter$Tongue" "name" "[J"] ++ wsX80)
def wsX8_has : List Cond := .code yX8_has cX8_has 2 (some .boolean) :: ([.fieldLink RX8 52 "LastLetter$Tongue" "words" "I"] ++ wsX80)
def wsX8_addErrand : List Cond := .code yX8_addErrand cX8_addErrand 3 none :: ([.fieldLink RX8 56 "LastLetter$Tongue" "errands" "I", .fieldLink RX8 37 "LastLetter$Tongue" "errandAfter" "[I", .fieldLink RX8 34 "LastLetter$Tongue" "errandOf" "[I", .methodLink RX8 90 yX8_has, .instanceMethod yX8_has, .selects RX8 yX8_has yX8_has, .initialized RX8, .code yX8_has cX8_has 2 (some .boolean), .fieldLink RX8 52 "LastLetter$Tongue" "words" "I"] ++ wsX80)
def wsX3_readErrand_r1 : List Cond := [Cond.fieldLink RX3 24 "LastLetter$Reader" "fault" "I", Cond.methodLink RX3 30 yX3_step, Cond.instanceMethod yX3_step, Cond.selects RX3 yX3_step yX3_step, Cond.initialized RX3, Cond.code yX3_step cX3_step 2 none, Cond.fieldLink RX3 27 "LastLetter$Reader" "behind" "I", Cond.fieldLink RX3 87 "LastLetter$Reader" "start" "I", Cond.fieldLink RX3 15 "LastLetter$Reader" "tape" "LLastLetter$Tape;", Cond.fieldLink RX3 33 "LastLetter$Reader" "kind" "I", Cond.methodLink RX3 137 yX7_at, Cond.instanceMethod yX7_at, Cond.selects RX7 yX7_at yX7_at, Cond.initialized RX7, Cond.code yX7_at cX7_at 2 (some .int), Cond.fieldLink RX7 15 "LastLetter$Tape" "size" "I", Cond.fieldLink RX7 9 "LastLetter$Tape" "bytes" "[B", Cond.methodLink RX3 141 yX3_isBlank, Cond.static yX3_isBlank, Cond.code yX3_isBlank cX3_isBlank 1 (some .boolean), Cond.methodLink RX3 145 yX3_isLetter, Cond.static yX3_isLetter, Cond.code yX3_isLetter cX3_isLetter 1 (some .boolean), Cond.methodLink RX3 148 yX3_stepLetters]
def wsX3_readErrand_r2 : List Cond := [Cond.instanceMethod yX3_stepLetters, Cond.selects RX3 yX3_stepLetters yX3_stepLetters, Cond.code yX3_stepLetters cX3_stepLetters 1 none, Cond.methodLink RX3 75 yX3_refuse, Cond.instanceMethod yX3_refuse, Cond.selects RX3 yX3_refuse yX3_refuse, Cond.code yX3_refuse cX3_refuse 2 none, Cond.fieldLink RX3 9 "LastLetter$Reader" "place" "I", Cond.methodLink RX3 151 yX3_isDigit, Cond.static yX3_isDigit, Cond.code yX3_isDigit cX3_isDigit 1 (some .boolean), Cond.methodLink RX3 154 yX3_stepDigits, Cond.instanceMethod yX3_stepDigits, Cond.selects RX3 yX3_stepDigits yX3_stepDigits, Cond.code yX3_stepDigits cX3_stepDigits 1 none, Cond.methodLink RX3 79 yX3_name, Cond.instanceMethod yX3_name, Cond.selects RX3 yX3_name yX3_name, Cond.code yX3_name cX3_name 4 (some .long), Cond.methodLink RX3 83 yX8_find, Cond.instanceMethod yX8_find, Cond.selects RX8 yX8_find yX8_find, Cond.initialized RX8, Cond.code yX8_find cX8_find 4 (some .int)]
def wsX3_readErrand_r3 : List Cond := [Cond.fieldLink RX8 52 "LastLetter$Tongue" "words" "I", Cond.fieldLink RX8 9 "LastLetter$Tongue" "name" "[J", Cond.methodLink RX3 42 yX3_isWritten, Cond.instanceMethod yX3_isWritten, Cond.selects RX3 yX3_isWritten yX3_isWritten, Cond.code yX3_isWritten cX3_isWritten 3 (some .boolean), Cond.methodLink RX3 157 yJ0_length_8abf5, Cond.instanceMethod yJ0_length_8abf5, Cond.selects RJ0 yJ0_length_8abf5 yJ0_length_8abf5, Cond.initialized RJ0, Cond.code yJ0_length_8abf5 cJ0_length_8abf5 1 (some .int), Cond.fieldLink RJ0 9 "java/lang/String" "value" "[B", Cond.methodLink RJ0 335 yJ0_coder_7d493, Cond.instanceMethod yJ0_coder_7d493, Cond.selects RJ0 yJ0_coder_7d493 yJ0_coder_7d493, Cond.code yJ0_coder_7d493 cJ0_coder_7d493 1 (some .byte), Cond.fieldLink RJ0 38 "java/lang/String" "COMPACT_STRINGS" "Z", Cond.fieldLink RJ0 15 "java/lang/String" "coder" "B", Cond.methodLink RX3 162 yJ0_charAt_5068e, Cond.instanceMethod yJ0_charAt_5068e, Cond.selects RJ0 yJ0_charAt_5068e yJ0_charAt_5068e, Cond.code yJ0_charAt_5068e cJ0_charAt_5068e 2 (some .char), Cond.methodLink RJ0 492 yJ0_isLatin1_aae02, Cond.instanceMethod yJ0_isLatin1_aae02]
def wsX3_readErrand_r4 : List Cond := [Cond.selects RJ0 yJ0_isLatin1_aae02 yJ0_isLatin1_aae02, Cond.code yJ0_isLatin1_aae02 cJ0_isLatin1_aae02 1 (some .boolean), Cond.methodLink RJ0 495 yJ1_charAt_3b067, Cond.static yJ1_charAt_3b067, Cond.initialized RJ1, Cond.code yJ1_charAt_3b067 cJ1_charAt_3b067 2 (some .char), Cond.methodLink RJ1 9 yJ0_checkIndex_df160, Cond.static yJ0_checkIndex_df160, Cond.code yJ0_checkIndex_df160 cJ0_checkIndex_df160 2 none, Cond.fieldLink RJ0 1053 "jdk/internal/util/Preconditions" "SIOOBE_FORMATTER" "Ljava/util/function/BiFunction;", Cond.methodLink RJ0 1059 yJ3_checkIndex_8e157, Cond.static yJ3_checkIndex_8e157, Cond.initialized RJ3, Cond.code yJ3_checkIndex_8e157 cJ3_checkIndex_8e157 3 (some .int), Cond.methodLink RJ0 498 yJ2_charAt_3b067, Cond.static yJ2_charAt_3b067, Cond.initialized RJ2, Cond.code yJ2_charAt_3b067 cJ2_charAt_3b067 2 (some .char), Cond.methodLink RJ2 67 yJ2_checkIndex_2214a, Cond.static yJ2_checkIndex_2214a, Cond.code yJ2_checkIndex_2214a cJ2_checkIndex_2214a 2 none, Cond.methodLink RJ2 48 yJ2_length_9d52b, Cond.static yJ2_length_9d52b, Cond.code yJ2_length_9d52b cJ2_length_9d52b 1 (some .int)]
def wsX3_readErrand_r5 : List Cond := [Cond.methodLink RJ2 414 yJ0_checkIndex_df160, Cond.methodLink RJ2 71 yJ2_getChar_3b067, Cond.static yJ2_getChar_3b067, Cond.code yJ2_getChar_3b067 cJ2_getChar_3b067 2 (some .char), Cond.fieldLink RJ2 44 "java/lang/StringUTF16" "$assertionsDisabled" "Z", Cond.fieldLink RJ2 59 "java/lang/StringUTF16" "HI_BYTE_SHIFT" "I", Cond.fieldLink RJ2 63 "java/lang/StringUTF16" "LO_BYTE_SHIFT" "I", Cond.methodLink RX3 126 yX8_errandNamed, Cond.instanceMethod yX8_errandNamed, Cond.selects RX8 yX8_errandNamed yX8_errandNamed, Cond.code yX8_errandNamed cX8_errandNamed 4 (some .int), Cond.fieldLink RX8 34 "LastLetter$Tongue" "errandOf" "[I", Cond.methodLink RX8 71 yX8_find, Cond.methodLink RX3 129 yX8_addErrand, Cond.instanceMethod yX8_addErrand, Cond.selects RX8 yX8_addErrand yX8_addErrand, Cond.code yX8_addErrand cX8_addErrand 3 none, Cond.fieldLink RX8 56 "LastLetter$Tongue" "errands" "I", Cond.fieldLink RX8 37 "LastLetter$Tongue" "errandAfter" "[I", Cond.methodLink RX8 90 yX8_has, Cond.instanceMethod yX8_has, Cond.selects RX8 yX8_has yX8_has, Cond.code yX8_has cX8_has 2 (some .boolean)]
def wsX3_readErrand : List Cond := .code yX3_readErrand cX3_readErrand 4 none :: ((wsX3_readErrand_r1 ++ (wsX3_readErrand_r2 ++ (wsX3_readErrand_r3 ++ (wsX3_readErrand_r4 ++ wsX3_readErrand_r5)))) ++ wsX80 ++ wsX30 ++ wsX70)
def wsX3_readLine_r1 : List Cond := [Cond.fieldLink RX3 33 "LastLetter$Reader" "kind" "I", Cond.methodLink RX3 42 yX3_isWritten, Cond.instanceMethod yX3_isWritten, Cond.selects RX3 yX3_isWritten yX3_isWritten, Cond.initialized RX3, Cond.code yX3_isWritten cX3_isWritten 3 (some .boolean), Cond.fieldLink RX3 27 "LastLetter$Reader" "behind" "I", Cond.fieldLink RX3 87 "LastLetter$Reader" "start" "I", Cond.fieldLink RX3 15 "LastLetter$Reader" "tape" "LLastLetter$Tape;", Cond.methodLink RX3 157 yJ0_length_8abf5, Cond.instanceMethod yJ0_length_8abf5, Cond.selects RJ0 yJ0_length_8abf5 yJ0_length_8abf5, Cond.initialized RJ0, Cond.code yJ0_length_8abf5 cJ0_length_8abf5 1 (some .int), Cond.fieldLink RJ0 9 "java/lang/String" "value" "[B", Cond.methodLink RJ0 335 yJ0_coder_7d493, Cond.instanceMethod yJ0_coder_7d493, Cond.selects RJ0 yJ0_coder_7d493 yJ0_coder_7d493, Cond.code yJ0_coder_7d493 cJ0_coder_7d493 1 (some .byte), Cond.fieldLink RJ0 38 "java/lang/String" "COMPACT_STRINGS" "Z", Cond.fieldLink RJ0 15 "java/lang/String" "coder" "B", Cond.methodLink RX3 137 yX7_at, Cond.instanceMethod yX7_at, Cond.selects RX7 yX7_at yX7_at]
def wsX3_readLine_r2 : List Cond := [Cond.initialized RX7, Cond.code yX7_at cX7_at 2 (some .int), Cond.fieldLink RX7 15 "LastLetter$Tape" "size" "I", Cond.fieldLink RX7 9 "LastLetter$Tape" "bytes" "[B", Cond.methodLink RX3 162 yJ0_charAt_5068e, Cond.instanceMethod yJ0_charAt_5068e, Cond.selects RJ0 yJ0_charAt_5068e yJ0_charAt_5068e, Cond.code yJ0_charAt_5068e cJ0_charAt_5068e 2 (some .char), Cond.methodLink RJ0 492 yJ0_isLatin1_aae02, Cond.instanceMethod yJ0_isLatin1_aae02, Cond.selects RJ0 yJ0_isLatin1_aae02 yJ0_isLatin1_aae02, Cond.code yJ0_isLatin1_aae02 cJ0_isLatin1_aae02 1 (some .boolean), Cond.methodLink RJ0 495 yJ1_charAt_3b067, Cond.static yJ1_charAt_3b067, Cond.initialized RJ1, Cond.code yJ1_charAt_3b067 cJ1_charAt_3b067 2 (some .char), Cond.methodLink RJ1 9 yJ0_checkIndex_df160, Cond.static yJ0_checkIndex_df160, Cond.code yJ0_checkIndex_df160 cJ0_checkIndex_df160 2 none, Cond.fieldLink RJ0 1053 "jdk/internal/util/Preconditions" "SIOOBE_FORMATTER" "Ljava/util/function/BiFunction;", Cond.methodLink RJ0 1059 yJ3_checkIndex_8e157, Cond.static yJ3_checkIndex_8e157, Cond.initialized RJ3, Cond.code yJ3_checkIndex_8e157 cJ3_checkIndex_8e157 3 (some .int)]
def wsX3_readLine_r3 : List Cond := [Cond.methodLink RJ0 498 yJ2_charAt_3b067, Cond.static yJ2_charAt_3b067, Cond.initialized RJ2, Cond.code yJ2_charAt_3b067 cJ2_charAt_3b067 2 (some .char), Cond.methodLink RJ2 67 yJ2_checkIndex_2214a, Cond.static yJ2_checkIndex_2214a, Cond.code yJ2_checkIndex_2214a cJ2_checkIndex_2214a 2 none, Cond.methodLink RJ2 48 yJ2_length_9d52b, Cond.static yJ2_length_9d52b, Cond.code yJ2_length_9d52b cJ2_length_9d52b 1 (some .int), Cond.methodLink RJ2 414 yJ0_checkIndex_df160, Cond.methodLink RJ2 71 yJ2_getChar_3b067, Cond.static yJ2_getChar_3b067, Cond.code yJ2_getChar_3b067 cJ2_getChar_3b067 2 (some .char), Cond.fieldLink RJ2 44 "java/lang/StringUTF16" "$assertionsDisabled" "Z", Cond.fieldLink RJ2 59 "java/lang/StringUTF16" "HI_BYTE_SHIFT" "I", Cond.fieldLink RJ2 63 "java/lang/StringUTF16" "LO_BYTE_SHIFT" "I", Cond.methodLink RX3 49 yX3_readWord, Cond.instanceMethod yX3_readWord, Cond.selects RX3 yX3_readWord yX3_readWord, Cond.code yX3_readWord cX3_readWord 8 none, Cond.fieldLink RX3 24 "LastLetter$Reader" "fault" "I", Cond.methodLink RX3 30 yX3_step, Cond.instanceMethod yX3_step]
def wsX3_readLine_r4 : List Cond := [Cond.selects RX3 yX3_step yX3_step, Cond.code yX3_step cX3_step 2 none, Cond.methodLink RX3 141 yX3_isBlank, Cond.static yX3_isBlank, Cond.code yX3_isBlank cX3_isBlank 1 (some .boolean), Cond.methodLink RX3 145 yX3_isLetter, Cond.static yX3_isLetter, Cond.code yX3_isLetter cX3_isLetter 1 (some .boolean), Cond.methodLink RX3 148 yX3_stepLetters, Cond.instanceMethod yX3_stepLetters, Cond.selects RX3 yX3_stepLetters yX3_stepLetters, Cond.code yX3_stepLetters cX3_stepLetters 1 none, Cond.methodLink RX3 75 yX3_refuse, Cond.instanceMethod yX3_refuse, Cond.selects RX3 yX3_refuse yX3_refuse, Cond.code yX3_refuse cX3_refuse 2 none, Cond.fieldLink RX3 9 "LastLetter$Reader" "place" "I", Cond.methodLink RX3 151 yX3_isDigit, Cond.static yX3_isDigit, Cond.code yX3_isDigit cX3_isDigit 1 (some .boolean), Cond.methodLink RX3 154 yX3_stepDigits, Cond.instanceMethod yX3_stepDigits, Cond.selects RX3 yX3_stepDigits yX3_stepDigits, Cond.code yX3_stepDigits cX3_stepDigits 1 none]
def wsX3_readLine_r5 : List Cond := [Cond.methodLink RX3 79 yX3_name, Cond.instanceMethod yX3_name, Cond.selects RX3 yX3_name yX3_name, Cond.code yX3_name cX3_name 4 (some .long), Cond.methodLink RX3 83 yX8_find, Cond.instanceMethod yX8_find, Cond.selects RX8 yX8_find yX8_find, Cond.initialized RX8, Cond.code yX8_find cX8_find 4 (some .int), Cond.fieldLink RX8 52 "LastLetter$Tongue" "words" "I", Cond.fieldLink RX8 9 "LastLetter$Tongue" "name" "[J", Cond.methodLink RX3 92 yX3_number, Cond.instanceMethod yX3_number, Cond.selects RX3 yX3_number yX3_number, Cond.code yX3_number cX3_number 5 (some .int), Cond.methodLink RX3 98 yX8_addWord, Cond.instanceMethod yX8_addWord, Cond.selects RX8 yX8_addWord yX8_addWord, Cond.code yX8_addWord cX8_addWord 5 none, Cond.fieldLink RX8 15 "LastLetter$Tongue" "worth" "[I", Cond.fieldLink RX8 19 "LastLetter$Tongue" "times" "[I", Cond.methodLink RX3 102 yX8_spell, Cond.instanceMethod yX8_spell, Cond.selects RX8 yX8_spell yX8_spell]
def wsX3_readLine_r6 : List Cond := [Cond.code yX8_spell cX8_spell 6 none, Cond.fieldLink RX8 22 "LastLetter$Tongue" "first" "[I", Cond.fieldLink RX8 31 "LastLetter$Tongue" "last" "[I", Cond.fieldLink RX8 25 "LastLetter$Tongue" "second" "[I", Cond.fieldLink RX8 28 "LastLetter$Tongue" "beforeLast" "[I", Cond.methodLink RX8 75 yX7_at, Cond.methodLink RX3 56 yX3_readLaw, Cond.instanceMethod yX3_readLaw, Cond.selects RX3 yX3_readLaw yX3_readLaw, Cond.code yX3_readLaw cX3_readLaw 2 none, Cond.methodLink RX3 64 yX3_readAlike, Cond.instanceMethod yX3_readAlike, Cond.selects RX3 yX3_readAlike yX3_readAlike, Cond.code yX3_readAlike cX3_readAlike 4 none, Cond.methodLink RX3 112 yX3_letter, Cond.instanceMethod yX3_letter, Cond.selects RX3 yX3_letter yX3_letter, Cond.code yX3_letter cX3_letter 1 (some .int), Cond.methodLink RX3 116 yX8_addAlike, Cond.instanceMethod yX8_addAlike, Cond.selects RX8 yX8_addAlike yX8_addAlike, Cond.code yX8_addAlike cX8_addAlike 6 none, Cond.fieldLink RX8 40 "LastLetter$Tongue" "sound" "[I", Cond.methodLink RX8 81 Lib.Math.min.name]
def wsX3_readLine_r7 : List Cond := [Cond.static Lib.Math.min.name, Cond.initialized "java/lang/Math", Cond.code Lib.Math.min.name Lib.Math.min.code 2 (some .int), Cond.methodLink RX8 87 Lib.Math.max.name, Cond.static Lib.Math.max.name, Cond.code Lib.Math.max.name Lib.Math.max.code 2 (some .int), Cond.fieldLink RX8 59 "LastLetter$Tongue" "alikes" "I", Cond.methodLink RX3 72 yX3_readErrand, Cond.instanceMethod yX3_readErrand, Cond.selects RX3 yX3_readErrand yX3_readErrand, Cond.code yX3_readErrand cX3_readErrand 4 none, Cond.methodLink RX3 126 yX8_errandNamed, Cond.instanceMethod yX8_errandNamed, Cond.selects RX8 yX8_errandNamed yX8_errandNamed, Cond.code yX8_errandNamed cX8_errandNamed 4 (some .int), Cond.fieldLink RX8 34 "LastLetter$Tongue" "errandOf" "[I", Cond.methodLink RX8 71 yX8_find, Cond.methodLink RX3 129 yX8_addErrand, Cond.instanceMethod yX8_addErrand, Cond.selects RX8 yX8_addErrand yX8_addErrand, Cond.code yX8_addErrand cX8_addErrand 3 none, Cond.fieldLink RX8 56 "LastLetter$Tongue" "errands" "I", Cond.fieldLink RX8 37 "LastLetter$Tongue" "errandAfter" "[I", Cond.methodLink RX8 90 yX8_has]
def wsX3_readLine_r8 : List Cond := [Cond.instanceMethod yX8_has, Cond.selects RX8 yX8_has yX8_has, Cond.code yX8_has cX8_has 2 (some .boolean)]
def wsX3_readLine : List Cond := .code yX3_readLine cX3_readLine 2 none :: ((wsX3_readLine_r1 ++ (wsX3_readLine_r2 ++ (wsX3_readLine_r3 ++ (wsX3_readLine_r4 ++ (wsX3_readLine_r5 ++ (wsX3_readLine_r6 ++ (wsX3_readLine_r7 ++ wsX3_readLine_r8))))))) ++ wsX80 ++ wsX30 ++ wsX70)
def wsX3_reads_r1 : List Cond := [Cond.fieldLink RX3 24 "LastLetter$Reader" "fault" "I", Cond.fieldLink RX3 9 "LastLetter$Reader" "place" "I", Cond.fieldLink RX3 27 "LastLetter$Reader" "behind" "I", Cond.fieldLink RX3 33 "LastLetter$Reader" "kind" "I", Cond.instanceMethod yX8_clear, Cond.initialized RX8, Cond.selects RX8 yX8_clear yX8_clear, Cond.code yX8_clear cX8_clear 2 none, Cond.fieldLink RX8 52 "LastLetter$Tongue" "words" "I", Cond.fieldLink RX8 56 "LastLetter$Tongue" "errands" "I", Cond.fieldLink RX8 59 "LastLetter$Tongue" "alikes" "I", Cond.fieldLink RX8 62 "LastLetter$Tongue" "law" "I", Cond.fieldLink RX8 34 "LastLetter$Tongue" "errandOf" "[I", Cond.fieldLink RX8 40 "LastLetter$Tongue" "sound" "[I", Cond.methodLink RX8 65 yJ7_fill_53178, Cond.static yJ7_fill_53178, Cond.initialized RJ7, Cond.code yJ7_fill_53178 cJ7_fill_53178 4 none, Cond.methodLink RX3 30 yX3_step, Cond.instanceMethod yX3_step, Cond.selects RX3 yX3_step yX3_step, Cond.initialized RX3, Cond.code yX3_step cX3_step 2 none, Cond.fieldLink RX3 87 "LastLetter$Reader" "start" "I"]
def wsX3_reads_r2 : List Cond := [Cond.fieldLink RX3 15 "LastLetter$Reader" "tape" "LLastLetter$Tape;", Cond.methodLink RX3 137 yX7_at, Cond.instanceMethod yX7_at, Cond.selects RX7 yX7_at yX7_at, Cond.initialized RX7, Cond.code yX7_at cX7_at 2 (some .int), Cond.fieldLink RX7 15 "LastLetter$Tape" "size" "I", Cond.fieldLink RX7 9 "LastLetter$Tape" "bytes" "[B", Cond.methodLink RX3 141 yX3_isBlank, Cond.static yX3_isBlank, Cond.code yX3_isBlank cX3_isBlank 1 (some .boolean), Cond.methodLink RX3 145 yX3_isLetter, Cond.static yX3_isLetter, Cond.code yX3_isLetter cX3_isLetter 1 (some .boolean), Cond.methodLink RX3 148 yX3_stepLetters, Cond.instanceMethod yX3_stepLetters, Cond.selects RX3 yX3_stepLetters yX3_stepLetters, Cond.code yX3_stepLetters cX3_stepLetters 1 none, Cond.methodLink RX3 75 yX3_refuse, Cond.instanceMethod yX3_refuse, Cond.selects RX3 yX3_refuse yX3_refuse, Cond.code yX3_refuse cX3_refuse 2 none, Cond.methodLink RX3 151 yX3_isDigit, Cond.static yX3_isDigit]
def wsX3_reads_r3 : List Cond := [Cond.code yX3_isDigit cX3_isDigit 1 (some .boolean), Cond.methodLink RX3 154 yX3_stepDigits, Cond.instanceMethod yX3_stepDigits, Cond.selects RX3 yX3_stepDigits yX3_stepDigits, Cond.code yX3_stepDigits cX3_stepDigits 1 none, Cond.methodLink RX3 36 yX3_readLine, Cond.instanceMethod yX3_readLine, Cond.selects RX3 yX3_readLine yX3_readLine, Cond.code yX3_readLine cX3_readLine 2 none, Cond.methodLink RX3 42 yX3_isWritten, Cond.instanceMethod yX3_isWritten, Cond.selects RX3 yX3_isWritten yX3_isWritten, Cond.code yX3_isWritten cX3_isWritten 3 (some .boolean), Cond.methodLink RX3 157 yJ0_length_8abf5, Cond.instanceMethod yJ0_length_8abf5, Cond.selects RJ0 yJ0_length_8abf5 yJ0_length_8abf5, Cond.initialized RJ0, Cond.code yJ0_length_8abf5 cJ0_length_8abf5 1 (some .int), Cond.fieldLink RJ0 9 "java/lang/String" "value" "[B", Cond.methodLink RJ0 335 yJ0_coder_7d493, Cond.instanceMethod yJ0_coder_7d493, Cond.selects RJ0 yJ0_coder_7d493 yJ0_coder_7d493, Cond.code yJ0_coder_7d493 cJ0_coder_7d493 1 (some .byte), Cond.fieldLink RJ0 38 "java/lang/String" "COMPACT_STRINGS" "Z"]
def wsX3_reads_r4 : List Cond := [Cond.fieldLink RJ0 15 "java/lang/String" "coder" "B", Cond.methodLink RX3 162 yJ0_charAt_5068e, Cond.instanceMethod yJ0_charAt_5068e, Cond.selects RJ0 yJ0_charAt_5068e yJ0_charAt_5068e, Cond.code yJ0_charAt_5068e cJ0_charAt_5068e 2 (some .char), Cond.methodLink RJ0 492 yJ0_isLatin1_aae02, Cond.instanceMethod yJ0_isLatin1_aae02, Cond.selects RJ0 yJ0_isLatin1_aae02 yJ0_isLatin1_aae02, Cond.code yJ0_isLatin1_aae02 cJ0_isLatin1_aae02 1 (some .boolean), Cond.methodLink RJ0 495 yJ1_charAt_3b067, Cond.static yJ1_charAt_3b067, Cond.initialized RJ1, Cond.code yJ1_charAt_3b067 cJ1_charAt_3b067 2 (some .char), Cond.methodLink RJ1 9 yJ0_checkIndex_df160, Cond.static yJ0_checkIndex_df160, Cond.code yJ0_checkIndex_df160 cJ0_checkIndex_df160 2 none, Cond.fieldLink RJ0 1053 "jdk/internal/util/Preconditions" "SIOOBE_FORMATTER" "Ljava/util/function/BiFunction;", Cond.methodLink RJ0 1059 yJ3_checkIndex_8e157, Cond.static yJ3_checkIndex_8e157, Cond.initialized RJ3, Cond.code yJ3_checkIndex_8e157 cJ3_checkIndex_8e157 3 (some .int), Cond.methodLink RJ0 498 yJ2_charAt_3b067, Cond.static yJ2_charAt_3b067, Cond.initialized RJ2]
def wsX3_reads_r5 : List Cond := [Cond.code yJ2_charAt_3b067 cJ2_charAt_3b067 2 (some .char), Cond.methodLink RJ2 67 yJ2_checkIndex_2214a, Cond.static yJ2_checkIndex_2214a, Cond.code yJ2_checkIndex_2214a cJ2_checkIndex_2214a 2 none, Cond.methodLink RJ2 48 yJ2_length_9d52b, Cond.static yJ2_length_9d52b, Cond.code yJ2_length_9d52b cJ2_length_9d52b 1 (some .int), Cond.methodLink RJ2 414 yJ0_checkIndex_df160, Cond.methodLink RJ2 71 yJ2_getChar_3b067, Cond.static yJ2_getChar_3b067, Cond.code yJ2_getChar_3b067 cJ2_getChar_3b067 2 (some .char), Cond.fieldLink RJ2 44 "java/lang/StringUTF16" "$assertionsDisabled" "Z", Cond.fieldLink RJ2 59 "java/lang/StringUTF16" "HI_BYTE_SHIFT" "I", Cond.fieldLink RJ2 63 "java/lang/StringUTF16" "LO_BYTE_SHIFT" "I", Cond.methodLink RX3 49 yX3_readWord, Cond.instanceMethod yX3_readWord, Cond.selects RX3 yX3_readWord yX3_readWord, Cond.code yX3_readWord cX3_readWord 8 none, Cond.methodLink RX3 79 yX3_name, Cond.instanceMethod yX3_name, Cond.selects RX3 yX3_name yX3_name, Cond.code yX3_name cX3_name 4 (some .long), Cond.methodLink RX3 83 yX8_find, Cond.instanceMethod yX8_find]
def wsX3_reads_r6 : List Cond := [Cond.selects RX8 yX8_find yX8_find, Cond.code yX8_find cX8_find 4 (some .int), Cond.fieldLink RX8 9 "LastLetter$Tongue" "name" "[J", Cond.methodLink RX3 92 yX3_number, Cond.instanceMethod yX3_number, Cond.selects RX3 yX3_number yX3_number, Cond.code yX3_number cX3_number 5 (some .int), Cond.methodLink RX3 98 yX8_addWord, Cond.instanceMethod yX8_addWord, Cond.selects RX8 yX8_addWord yX8_addWord, Cond.code yX8_addWord cX8_addWord 5 none, Cond.fieldLink RX8 15 "LastLetter$Tongue" "worth" "[I", Cond.fieldLink RX8 19 "LastLetter$Tongue" "times" "[I", Cond.methodLink RX3 102 yX8_spell, Cond.instanceMethod yX8_spell, Cond.selects RX8 yX8_spell yX8_spell, Cond.code yX8_spell cX8_spell 6 none, Cond.fieldLink RX8 22 "LastLetter$Tongue" "first" "[I", Cond.fieldLink RX8 31 "LastLetter$Tongue" "last" "[I", Cond.fieldLink RX8 25 "LastLetter$Tongue" "second" "[I", Cond.fieldLink RX8 28 "LastLetter$Tongue" "beforeLast" "[I", Cond.methodLink RX8 75 yX7_at, Cond.methodLink RX3 56 yX3_readLaw, Cond.instanceMethod yX3_readLaw]
def wsX3_reads_r7 : List Cond := [Cond.selects RX3 yX3_readLaw yX3_readLaw, Cond.code yX3_readLaw cX3_readLaw 2 none, Cond.methodLink RX3 64 yX3_readAlike, Cond.instanceMethod yX3_readAlike, Cond.selects RX3 yX3_readAlike yX3_readAlike, Cond.code yX3_readAlike cX3_readAlike 4 none, Cond.methodLink RX3 112 yX3_letter, Cond.instanceMethod yX3_letter, Cond.selects RX3 yX3_letter yX3_letter, Cond.code yX3_letter cX3_letter 1 (some .int), Cond.methodLink RX3 116 yX8_addAlike, Cond.instanceMethod yX8_addAlike, Cond.selects RX8 yX8_addAlike yX8_addAlike, Cond.code yX8_addAlike cX8_addAlike 6 none, Cond.methodLink RX8 81 Lib.Math.min.name, Cond.static Lib.Math.min.name, Cond.initialized "java/lang/Math", Cond.code Lib.Math.min.name Lib.Math.min.code 2 (some .int), Cond.methodLink RX8 87 Lib.Math.max.name, Cond.static Lib.Math.max.name, Cond.code Lib.Math.max.name Lib.Math.max.code 2 (some .int), Cond.methodLink RX3 72 yX3_readErrand, Cond.instanceMethod yX3_readErrand, Cond.selects RX3 yX3_readErrand yX3_readErrand]
def wsX3_reads_r8 : List Cond := [Cond.code yX3_readErrand cX3_readErrand 4 none, Cond.methodLink RX3 126 yX8_errandNamed, Cond.instanceMethod yX8_errandNamed, Cond.selects RX8 yX8_errandNamed yX8_errandNamed, Cond.code yX8_errandNamed cX8_errandNamed 4 (some .int), Cond.methodLink RX8 71 yX8_find, Cond.methodLink RX3 129 yX8_addErrand, Cond.instanceMethod yX8_addErrand, Cond.selects RX8 yX8_addErrand yX8_addErrand, Cond.code yX8_addErrand cX8_addErrand 3 none, Cond.fieldLink RX8 37 "LastLetter$Tongue" "errandAfter" "[I", Cond.methodLink RX8 90 yX8_has, Cond.instanceMethod yX8_has, Cond.selects RX8 yX8_has yX8_has, Cond.code yX8_has cX8_has 2 (some .boolean)]
def wsX3_reads : List Cond := .code yX3_reads cX3_reads 3 (some .boolean) :: ((wsX3_reads_r1 ++ (wsX3_reads_r2 ++ (wsX3_reads_r3 ++ (wsX3_reads_r4 ++ (wsX3_reads_r5 ++ (wsX3_reads_r6 ++ (wsX3_reads_r7 ++ wsX3_reads_r8))))))) ++ wsX30 ++ wsX80 ++ wsX70)
def wsX4_init : List Cond := .code yX4_init cX4_init 1 none :: ([.methodLink RX4 3 objectInit, .instanceMethod objectInit, .code objectInit ⟨#[0xb1]⟩ 1 none, .arrayClass .int, .fieldLink RX4 9 "LastLetter$Row" "items" "[I"] ++ wsX40)
def wsX4_turn : List Cond := .code yX4_turn cX4_turn 4 none :: ([.fieldLink RX4 15 "LastLetter$Row" "size" "I", .fieldLink RX4 9 "LastLetter$Row" "items" "[I"] ++ wsX40)
def wsX5_init : List Cond := .code yX5_init cX5_init 1 none :: ([.methodLink RX5 3 objectInit, .instanceMethod objectInit, .code objectInit ⟨#[0xb1]⟩ 1 none, .arrayClass .int, .fieldLink RX5 9 "LastLetter$Search" "ahead" "[I", .fieldLink RX5 15 "LastLetter$Search" "queue" "[I"] ++ wsX50)
def wsX5_begin : List Cond := .code yX5_begin cX5_begin 1 none :: ([.fieldLink RX5 9 "LastLetter$Search" "ahead" "[I", .fieldLink RX5 25 "LastLetter$Search" "queued" "I", .methodLink RX5 45 yJ7_fill_53178, .static yJ7_fill_53178, .initialized RJ7, .code yJ7_fill_53178 cJ7_fill_53178 4 none] ++ wsX50)
def wsX8_doneBehind : List Cond := .code yX8_doneBehind cX8_doneBehind 5 (some .int) :: ([.fieldLink RX8 34 "LastLetter$Tongue" "errandOf" "[I", .fieldLink RX8 37 "LastLetter$Tongue" "errandAfter" "[I", .static yX10_isIn, .initialized RX10, .code yX10_isIn cX10_isIn 2 (some .boolean)] ++ wsX80)
def wsX5_enter : List Cond := .code yX5_enter cX5_enter 9 none :: ([.fieldLink RX5 9 "LastLetter$Search" "ahead" "[I", .fieldLink RX5 25 "LastLetter$Search" "queued" "I", .fieldLink RX5 15 "LastLetter$Search" "queue" "[I", .static yX10_isIn, .initialized RX10, .code yX10_isIn cX10_isIn 2 (some .boolean), .methodLink RX5 58 yX8_doneBehind, .instanceMethod yX8_doneBehind, .selects RX8 yX8_doneBehind yX8_doneBehind, .initialized RX8, .code yX8_doneBehind cX8_doneBehind 5 (some .int), .fieldLink RX8 34 "LastLetter$Tongue" "errandOf" "[I", .fieldLink RX8 37 "LastLetter$Tongue" "errandAfter" "[I"] ++ wsX80 ++ wsX50)
def wsX5_lay : List Cond := .code yX5_lay cX5_lay 5 (some .int) :: ([.fieldLink RX5 9 "LastLetter$Search" "ahead" "[I", .methodLink RX5 62 yX4_add, .instanceMethod yX4_add, .selects RX4 yX4_add yX4_add, .initialized RX4, .code yX4_add cX4_add 2 none, .fieldLink RX4 15 "LastLetter$Row" "size" "I", .fieldLink RX4 9 "LastLetter$Row" "items" "[I", .methodLink RX5 68 yX4_turn, .instanceMethod yX4_turn, .selects RX4 yX4_turn yX4_turn, .code yX4_turn cX4_turn 4 none] ++ wsX50 ++ wsX40)
def wsX5_layJoin_r1 : List Cond := [Cond.fieldLink RX5 25 "LastLetter$Search" "queued" "I", Cond.fieldLink RX5 15 "LastLetter$Search" "queue" "[I", Cond.methodLink RX5 18 yX5_begin, Cond.instanceMethod yX5_begin, Cond.selects RX5 yX5_begin yX5_begin, Cond.initialized RX5, Cond.code yX5_begin cX5_begin 1 none, Cond.fieldLink RX5 9 "LastLetter$Search" "ahead" "[I", Cond.methodLink RX5 45 yJ7_fill_53178, Cond.static yJ7_fill_53178, Cond.initialized RJ7, Cond.code yJ7_fill_53178 cJ7_fill_53178 4 none, Cond.methodLink RX5 21 yX5_enter, Cond.instanceMethod yX5_enter, Cond.selects RX5 yX5_enter yX5_enter, Cond.code yX5_enter cX5_enter 9 none, Cond.static yX10_isIn, Cond.initialized RX10, Cond.code yX10_isIn cX10_isIn 2 (some .boolean), Cond.methodLink RX5 58 yX8_doneBehind, Cond.instanceMethod yX8_doneBehind, Cond.selects RX8 yX8_doneBehind yX8_doneBehind, Cond.initialized RX8, Cond.code yX8_doneBehind cX8_doneBehind 5 (some .int)]
def wsX5_layJoin_r2 : List Cond := [Cond.fieldLink RX8 34 "LastLetter$Tongue" "errandOf" "[I", Cond.fieldLink RX8 37 "LastLetter$Tongue" "errandAfter" "[I", Cond.methodLink RX5 29 yX5_lay, Cond.instanceMethod yX5_lay, Cond.selects RX5 yX5_lay yX5_lay, Cond.code yX5_lay cX5_lay 5 (some .int), Cond.methodLink RX5 62 yX4_add, Cond.instanceMethod yX4_add, Cond.selects RX4 yX4_add yX4_add, Cond.initialized RX4, Cond.code yX4_add cX4_add 2 none, Cond.fieldLink RX4 15 "LastLetter$Row" "size" "I", Cond.fieldLink RX4 9 "LastLetter$Row" "items" "[I", Cond.methodLink RX5 68 yX4_turn, Cond.instanceMethod yX4_turn, Cond.selects RX4 yX4_turn yX4_turn, Cond.code yX4_turn cX4_turn 4 none]
def wsX5_layJoin : List Cond := .code yX5_layJoin cX5_layJoin 6 (some .int) :: ((wsX5_layJoin_r1 ++ wsX5_layJoin_r2) ++ wsX50 ++ wsX80 ++ wsX40)
def wsX5_layTelling_r1 : List Cond := [Cond.fieldLink RX5 25 "LastLetter$Search" "queued" "I", Cond.fieldLink RX5 15 "LastLetter$Search" "queue" "[I", Cond.methodLink RX5 18 yX5_begin, Cond.instanceMethod yX5_begin, Cond.selects RX5 yX5_begin yX5_begin, Cond.initialized RX5, Cond.code yX5_begin cX5_begin 1 none, Cond.fieldLink RX5 9 "LastLetter$Search" "ahead" "[I", Cond.methodLink RX5 45 yJ7_fill_53178, Cond.static yJ7_fill_53178, Cond.initialized RJ7, Cond.code yJ7_fill_53178 cJ7_fill_53178 4 none, Cond.methodLink RX5 41 yX8_everyWord, Cond.instanceMethod yX8_everyWord, Cond.selects RX8 yX8_everyWord yX8_everyWord, Cond.initialized RX8, Cond.code yX8_everyWord cX8_everyWord 1 (some .int), Cond.fieldLink RX8 52 "LastLetter$Tongue" "words" "I", Cond.methodLink RX5 21 yX5_enter, Cond.instanceMethod yX5_enter, Cond.selects RX5 yX5_enter yX5_enter, Cond.code yX5_enter cX5_enter 9 none, Cond.static yX10_isIn, Cond.initialized RX10]
def wsX5_layTelling_r2 : List Cond := [Cond.code yX10_isIn cX10_isIn 2 (some .boolean), Cond.methodLink RX5 58 yX8_doneBehind, Cond.instanceMethod yX8_doneBehind, Cond.selects RX8 yX8_doneBehind yX8_doneBehind, Cond.code yX8_doneBehind cX8_doneBehind 5 (some .int), Cond.fieldLink RX8 34 "LastLetter$Tongue" "errandOf" "[I", Cond.fieldLink RX8 37 "LastLetter$Tongue" "errandAfter" "[I", Cond.methodLink RX5 29 yX5_lay, Cond.instanceMethod yX5_lay, Cond.selects RX5 yX5_lay yX5_lay, Cond.code yX5_lay cX5_lay 5 (some .int), Cond.methodLink RX5 62 yX4_add, Cond.instanceMethod yX4_add, Cond.selects RX4 yX4_add yX4_add, Cond.initialized RX4, Cond.code yX4_add cX4_add 2 none, Cond.fieldLink RX4 15 "LastLetter$Row" "size" "I", Cond.fieldLink RX4 9 "LastLetter$Row" "items" "[I", Cond.methodLink RX5 68 yX4_turn, Cond.instanceMethod yX4_turn, Cond.selects RX4 yX4_turn yX4_turn, Cond.code yX4_turn cX4_turn 4 none]
def wsX5_layTelling : List Cond := .code yX5_layTelling cX5_layTelling 5 (some .int) :: ((wsX5_layTelling_r1 ++ wsX5_layTelling_r2) ++ wsX80 ++ wsX50 ++ wsX40)
def wsX6_init : List Cond := .code yX6_init cX6_init 1 none :: ([.methodLink RX6 3 objectInit, .instanceMethod objectInit, .code objectInit ⟨#[0xb1]⟩ 1 none, .arrayClass .int, .fieldLink RX6 9 "LastLetter$Talk" "said" "[I", .fieldLink RX6 15 "LastLetter$Talk" "latest" "I", .fieldLink RX6 19 "LastLetter$Talk" "w" "I"] ++ wsX60)
def wsX6_begin : List Cond := .code yX6_begin cX6_begin 1 none :: ([.fieldLink RX6 15 "LastLetter$Talk" "latest" "I", .fieldLink RX6 37 "LastLetter$Talk" "spoken" "I"] ++ wsX60)
def wsX6_forget : List Cond := .code yX6_forget cX6_forget 1 none :: ([.fieldLink RX6 9 "LastLetter$Talk" "said" "[I", .fieldLink RX6 28 "LastLetter$Talk" "earned" "I", .fieldLink RX6 31 "LastLetter$Talk" "doneErrands" "I", .methodLink RX6 22 yJ7_fill_53178, .static yJ7_fill_53178, .initialized RJ7, .code yJ7_fill_53178 cJ7_fill_53178 4 none, .methodLink RX6 34 yX6_begin, .instanceMethod yX6_begin, .selects RX6 yX6_begin yX6_begin, .initialized RX6, .code yX6_begin cX6_begin 1 none, .fieldLink RX6 15 "LastLetter$Talk" "latest" "I", .fieldLink RX6 37 "LastLetter$Talk" "spoken" "I"] ++ wsX60)
def wsX6_copy : List Cond := .code yX6_copy cX6_copy 2 none :: ([.fieldLink RX6 9 "LastLetter$Talk" "said" "[I", .methodLink RX6 40 arraycopyName, .native arraycopyName, .static arraycopyName, .initialized "java/lang/System", .fieldLink RX6 15 "LastLetter$Talk" "latest" "I", .fieldLink RX6 37 "LastLetter$Talk" "spoken" "I", .fieldLink RX6 28 "LastLetter$Talk" "earned" "I", .fieldLink RX6 31 "LastLetter$Talk" "doneErrands" "I", .fieldLink RX6 19 "LastLetter$Talk" "w" "I"] ++ wsX60)
def wsX6_left : List Cond := .code yX6_left cX6_left 3 (some .int) :: ([.fieldLink RX6 9 "LastLetter$Talk" "said" "[I"] ++ wsX80 ++ wsX60)
def wsX6_open : List Cond := .code yX6_open cX6_open 5 (some .int) :: ([.fieldLink RX6 15 "LastLetter$Talk" "latest" "I", .methodLink RX6 51 yX8_has, .instanceMethod yX8_has, .selects RX8 yX8_has yX8_has, .initialized RX8, .code yX8_has cX8_has 2 (some .boolean), .fieldLink RX8 52 "LastLetter$Tongue" "words" "I", .methodLink RX6 58 yX8_everyWord, .instanceMethod yX8_everyWord, .selects RX8 yX8_everyWord yX8_everyWord, .code yX8_everyWord cX8_everyWord 1 (some .int), .static yX10_isIn, .initialized RX10, .code yX10_isIn cX10_isIn 2 (some .boolean), .methodLink RX6 69 yX6_left, .instanceMethod yX6_left, .selects RX6 yX6_left yX6_left, .initialized RX6, .code yX6_left cX6_left 3 (some .int), .fieldLink RX6 9 "LastLetter$Talk" "said" "[I"] ++ wsX60 ++ wsX80)
def wsX6_speak : List Cond := .code yX6_speak cX6_speak 3 none :: ([.fieldLink RX6 9 "LastLetter$Talk" "said" "[I", .fieldLink RX6 15 "LastLetter$Talk" "latest" "I", .fieldLink RX6 37 "LastLetter$Talk" "spoken" "I", .fieldLink RX6 28 "LastLetter$Talk" "earned" "I", .fieldLink RX6 31 "LastLetter$Talk" "doneErrands" "I", .methodLink RX6 76 yX8_doneBehind, .instanceMethod yX8_doneBehind, .selects RX8 yX8_doneBehind yX8_doneBehind, .initialized RX8, .code yX8_doneBehind cX8_doneBehind 5 (some .int), .fieldLink RX8 34 "LastLetter$Tongue" "errandOf" "[I", .fieldLink RX8 37 "LastLetter$Tongue" "errandAfter" "[I", .static yX10_isIn, .initialized RX10, .code yX10_isIn cX10_isIn 2 (some .boolean)] ++ wsX60 ++ wsX80)
def wsX6_drawn : List Cond := .code yX6_drawn cX6_drawn 6 (some .int) :: ([.fieldLink RX6 19 "LastLetter$Talk" "w" "I", .constant RX6 100 (1103515245), .methodLink RX6 95 yJ6_bitCount_0f7a4, .static yJ6_bitCount_0f7a4, .initialized RJ6, .code yJ6_bitCount_0f7a4 cJ6_bitCount_0f7a4 1 (some .int), .constant RJ6 265 (1431655765), .constant RJ6 266 (858993459), .constant RJ6 267 (252645135), .static yX10_lowest, .initialized RX10, .code yX10_lowest cX10_lowest 1 (some .int), .methodLink RX10 261 yJ6_numberOfTrailingZeros_0f7a4, .static yJ6_numberOfTrailingZeros_0f7a4, .code yJ6_numberOfTrailingZeros_0f7a4 cJ6_numberOfTrailingZeros_0f7a4 2 (some .int), .constant RJ6 264 (65536)] ++ wsX60)
def wsX6_openBehind : List Cond := .code yX6_openBehind cX6_openBehind 6 (some .int) :: ([.static yX10_isIn, .initialized RX10, .code yX10_isIn cX10_isIn 2 (some .boolean), .methodLink RX6 69 yX6_left, .instanceMethod yX6_left, .selects RX6 yX6_left yX6_left, .initialized RX6, .code yX6_left cX6_left 3 (some .int), .fieldLink RX6 9 "LastLetter$Talk" "said" "[I"] ++ wsX80 ++ wsX60)
def wsX6_rank : List Cond := .code yX6_rank cX6_rank 4 (some .int) :: ([.methodLink RX6 92 yX6_openBehind, .instanceMethod yX6_openBehind, .selects RX6 yX6_openBehind yX6_openBehind, .initialized RX6, .code yX6_openBehind cX6_openBehind 6 (some .int), .static yX10_isIn, .initialized RX10, .code yX10_isIn cX10_isIn 2 (some .boolean), .methodLink RX6 69 yX6_left, .instanceMethod yX6_left, .selects RX6 yX6_left yX6_left, .code yX6_left cX6_left 3 (some .int), .fieldLink RX6 9 "LastLetter$Talk" "said" "[I"] ++ wsX80 ++ wsX60)
def wsX6_choose_r1 : List Cond := [Cond.methodLink RX6 80 yX6_open, Cond.instanceMethod yX6_open, Cond.selects RX6 yX6_open yX6_open, Cond.initialized RX6, Cond.code yX6_open cX6_open 5 (some .int), Cond.fieldLink RX6 15 "LastLetter$Talk" "latest" "I", Cond.methodLink RX6 51 yX8_has, Cond.instanceMethod yX8_has, Cond.selects RX8 yX8_has yX8_has, Cond.initialized RX8, Cond.code yX8_has cX8_has 2 (some .boolean), Cond.fieldLink RX8 52 "LastLetter$Tongue" "words" "I", Cond.methodLink RX6 58 yX8_everyWord, Cond.instanceMethod yX8_everyWord, Cond.selects RX8 yX8_everyWord yX8_everyWord, Cond.code yX8_everyWord cX8_everyWord 1 (some .int), Cond.static yX10_isIn, Cond.initialized RX10, Cond.code yX10_isIn cX10_isIn 2 (some .boolean), Cond.methodLink RX6 69 yX6_left, Cond.instanceMethod yX6_left, Cond.selects RX6 yX6_left yX6_left, Cond.code yX6_left cX6_left 3 (some .int), Cond.fieldLink RX6 9 "LastLetter$Talk" "said" "[I"]
def wsX6_choose_r2 : List Cond := [Cond.methodLink RX6 84 yX6_drawn, Cond.instanceMethod yX6_drawn, Cond.selects RX6 yX6_drawn yX6_drawn, Cond.code yX6_drawn cX6_drawn 6 (some .int), Cond.fieldLink RX6 19 "LastLetter$Talk" "w" "I", Cond.constant RX6 100 (1103515245), Cond.methodLink RX6 95 yJ6_bitCount_0f7a4, Cond.static yJ6_bitCount_0f7a4, Cond.initialized RJ6, Cond.code yJ6_bitCount_0f7a4 cJ6_bitCount_0f7a4 1 (some .int), Cond.constant RJ6 265 (1431655765), Cond.constant RJ6 266 (858993459), Cond.constant RJ6 267 (252645135), Cond.static yX10_lowest, Cond.code yX10_lowest cX10_lowest 1 (some .int), Cond.methodLink RX10 261 yJ6_numberOfTrailingZeros_0f7a4, Cond.static yJ6_numberOfTrailingZeros_0f7a4, Cond.code yJ6_numberOfTrailingZeros_0f7a4 cJ6_numberOfTrailingZeros_0f7a4 2 (some .int), Cond.constant RJ6 264 (65536), Cond.methodLink RX6 88 yX6_rank, Cond.instanceMethod yX6_rank, Cond.selects RX6 yX6_rank yX6_rank, Cond.code yX6_rank cX6_rank 4 (some .int), Cond.methodLink RX6 92 yX6_openBehind]
def wsX6_choose_r3 : List Cond := [Cond.instanceMethod yX6_openBehind, Cond.selects RX6 yX6_openBehind yX6_openBehind, Cond.code yX6_openBehind cX6_openBehind 6 (some .int)]
def wsX6_choose : List Cond := .code yX6_choose cX6_choose 8 (some .int) :: ((wsX6_choose_r1 ++ (wsX6_choose_r2 ++ wsX6_choose_r3)) ++ wsX80 ++ wsX60)
def wsX7_init : List Cond := .code yX7_init cX7_init 1 none :: ([.methodLink RX7 3 objectInit, .instanceMethod objectInit, .code objectInit ⟨#[0xb1]⟩ 1 none, .arrayClass .byte, .fieldLink RX7 9 "LastLetter$Tape" "bytes" "[B"] ++ wsX70)
def wsX7_put : List Cond := .code yX7_put cX7_put 3 none :: ([.fieldLink RX7 15 "LastLetter$Tape" "size" "I", .fieldLink RX7 9 "LastLetter$Tape" "bytes" "[B"] ++ wsX70)
def wsX8_init_r1 : List Cond := [Cond.methodLink RX8 3 objectInit, Cond.instanceMethod objectInit, Cond.code objectInit ⟨#[0xb1]⟩ 1 none, Cond.arrayClass .long, Cond.fieldLink RX8 9 "LastLetter$Tongue" "name" "[J", Cond.arrayClass .int, Cond.fieldLink RX8 15 "LastLetter$Tongue" "worth" "[I", Cond.fieldLink RX8 19 "LastLetter$Tongue" "times" "[I", Cond.fieldLink RX8 22 "LastLetter$Tongue" "first" "[I", Cond.fieldLink RX8 25 "LastLetter$Tongue" "second" "[I", Cond.fieldLink RX8 28 "LastLetter$Tongue" "beforeLast" "[I", Cond.fieldLink RX8 31 "LastLetter$Tongue" "last" "[I", Cond.fieldLink RX8 34 "LastLetter$Tongue" "errandOf" "[I", Cond.fieldLink RX8 37 "LastLetter$Tongue" "errandAfter" "[I", Cond.fieldLink RX8 40 "LastLetter$Tongue" "sound" "[I", Cond.fieldLink RX8 43 "LastLetter$Tongue" "followers" "[I", Cond.fieldLink RX8 46 "LastLetter$Tongue" "leaders" "[I", Cond.methodLink RX8 49 yX8_clear, Cond.instanceMethod yX8_clear, Cond.selects RX8 yX8_clear yX8_clear, Cond.initialized RX8, Cond.code yX8_clear cX8_clear 2 none, Cond.fieldLink RX8 52 "LastLetter$Tongue" "words" "I", Cond.fieldLink RX8 56 "LastLetter$Tongue" "errands" "I"]
def wsX8_init_r2 : List Cond := [Cond.fieldLink RX8 59 "LastLetter$Tongue" "alikes" "I", Cond.fieldLink RX8 62 "LastLetter$Tongue" "law" "I", Cond.methodLink RX8 65 yJ7_fill_53178, Cond.static yJ7_fill_53178, Cond.initialized RJ7, Cond.code yJ7_fill_53178 cJ7_fill_53178 4 none]
def wsX8_init : List Cond := .code yX8_init cX8_init 1 none :: ((wsX8_init_r1 ++ wsX8_init_r2) ++ wsX80)
def wsX8_isTooBig : List Cond := .code yX8_isTooBig cX8_isTooBig 1 (some .boolean) :: ([.fieldLink RX8 52 "LastLetter$Tongue" "words" "I"] ++ wsX80)
def wsX8_areAlike : List Cond := .code yX8_areAlike cX8_areAlike 3 (some .boolean) :: ([.fieldLink RX8 40 "LastLetter$Tongue" "sound" "[I"] ++ wsX80)
def wsX8_allows : List Cond := .code yX8_allows cX8_allows 4 (some .boolean) :: ([.fieldLink RX8 31 "LastLetter$Tongue" "last" "[I", .fieldLink RX8 22 "LastLetter$Tongue" "first" "[I", .fieldLink RX8 62 "LastLetter$Tongue" "law" "I", .fieldLink RX8 28 "LastLetter$Tongue" "beforeLast" "[I", .fieldLink RX8 25 "LastLetter$Tongue" "second" "[I", .methodLink RX8 98 yX8_areAlike, .instanceMethod yX8_areAlike, .selects RX8 yX8_areAlike yX8_areAlike, .initialized RX8, .code yX8_areAlike cX8_areAlike 3 (some .boolean), .fieldLink RX8 40 "LastLetter$Tongue" "sound" "[I"] ++ wsX80)
def wsX8_link : List Cond := .code yX8_link cX8_link 3 none :: ([.fieldLink RX8 43 "LastLetter$Tongue" "followers" "[I", .fieldLink RX8 46 "LastLetter$Tongue" "leaders" "[I", .fieldLink RX8 52 "LastLetter$Tongue" "words" "I", .methodLink RX8 65 yJ7_fill_53178, .static yJ7_fill_53178, .initialized RJ7, .code yJ7_fill_53178 cJ7_fill_53178 4 none, .methodLink RX8 94 yX8_allows, .instanceMethod yX8_allows, .selects RX8 yX8_allows yX8_allows, .initialized RX8, .code yX8_allows cX8_allows 4 (some .boolean), .fieldLink RX8 31 "LastLetter$Tongue" "last" "[I", .fieldLink RX8 22 "LastLetter$Tongue" "first" "[I", .fieldLink RX8 62 "LastLetter$Tongue" "law" "I", .fieldLink RX8 28 "LastLetter$Tongue" "beforeLast" "[I", .fieldLink RX8 25 "LastLetter$Tongue" "second" "[I", .methodLink RX8 98 yX8_areAlike, .instanceMethod yX8_areAlike, .selects RX8 yX8_areAlike yX8_areAlike, .code yX8_areAlike cX8_areAlike 3 (some .boolean), .fieldLink RX8 40 "LastLetter$Tongue" "sound" "[I"] ++ wsX80)
def wsX9_init : List Cond := .code yX9_init cX9_init 1 none :: ([.methodLink RX9 3 objectInit, .instanceMethod objectInit, .code objectInit ⟨#[0xb1]⟩ 1 none, .arrayClass .int, .fieldLink RX9 9 "LastLetter$Wall" "places" "[I", .fieldLink RX9 15 "LastLetter$Wall" "kinds" "[I", .fieldLink RX9 18 "LastLetter$Wall" "values" "[I", .fieldLink RX9 21 "LastLetter$Wall" "toldAt" "[I", .fieldLink RX9 24 "LastLetter$Wall" "untoldAt" "[I", .fieldLink RX9 27 "LastLetter$Wall" "standing" "[I", .arrayClass .long, .fieldLink RX9 30 "LastLetter$Wall" "rows" "[J", .fieldLink RX9 34 "LastLetter$Wall" "longer" "[J"] ++ wsX90)
def wsX9_add : List Cond := .code yX9_add cX9_add 5 (some .int) :: ([.fieldLink RX9 37 "LastLetter$Wall" "sounds" "I", .fieldLink RX9 9 "LastLetter$Wall" "places" "[I", .fieldLink RX9 15 "LastLetter$Wall" "kinds" "[I", .fieldLink RX9 18 "LastLetter$Wall" "values" "[I", .fieldLink RX9 21 "LastLetter$Wall" "toldAt" "[I", .fieldLink RX9 41 "LastLetter$Wall" "time" "I", .fieldLink RX9 24 "LastLetter$Wall" "untoldAt" "[I"] ++ wsX90)
def wsX9_takeBack : List Cond := .code yX9_takeBack cX9_takeBack 2 (some .boolean) :: ([.fieldLink RX9 37 "LastLetter$Wall" "sounds" "I", .fieldLink RX9 24 "LastLetter$Wall" "untoldAt" "[I", .fieldLink RX9 41 "LastLetter$Wall" "time" "I"] ++ wsX90)
def wsX9_wordsOf : List Cond := .code yX9_wordsOf cX9_wordsOf 7 (some .int) :: ([] ++ wsX80)
def wsX9_narrow : List Cond := .code yX9_narrow cX9_narrow 5 none :: ([.fieldLink RX9 27 "LastLetter$Wall" "standing" "[I", .fieldLink RX9 37 "LastLetter$Wall" "sounds" "I", .fieldLink RX9 24 "LastLetter$Wall" "untoldAt" "[I", .fieldLink RX9 21 "LastLetter$Wall" "toldAt" "[I", .fieldLink RX9 9 "LastLetter$Wall" "places" "[I", .fieldLink RX9 15 "LastLetter$Wall" "kinds" "[I", .fieldLink RX9 18 "LastLetter$Wall" "values" "[I", .methodLink RX9 79 yX8_everyWord, .instanceMethod yX8_everyWord, .selects RX8 yX8_everyWord yX8_everyWord, .initialized RX8, .code yX8_everyWord cX8_everyWord 1 (some .int), .fieldLink RX8 52 "LastLetter$Tongue" "words" "I", .methodLink RX9 83 yJ7_fill_53178, .static yJ7_fill_53178, .initialized RJ7, .code yJ7_fill_53178 cJ7_fill_53178 4 none, .methodLink RX9 89 yX9_wordsOf, .instanceMethod yX9_wordsOf, .selects RX9 yX9_wordsOf yX9_wordsOf, .initialized RX9, .code yX9_wordsOf cX9_wordsOf 7 (some .int)] ++ wsX90 ++ wsX80)
def wsX9_rowsInto : List Cond := .code yX9_rowsInto cX9_rowsInto 6 (some .long) :: ([.fieldLink RX9 30 "LastLetter$Wall" "rows" "[J", .static yX10_isIn, .initialized RX10, .code yX10_isIn cX10_isIn 2 (some .boolean)] ++ wsX80 ++ wsX90)
def wsX9_countRows_r1 : List Cond := [Cond.fieldLink RX9 30 "LastLetter$Wall" "rows" "[J", Cond.fieldLink RX9 27 "LastLetter$Wall" "standing" "[I", Cond.fieldLink RX9 34 "LastLetter$Wall" "longer" "[J", Cond.constantLong RX9 61 (1000000000000), Cond.methodLink RX9 63 Lib.MathLoose.min_long.x, Cond.static Lib.MathLoose.min_long.x, Cond.initialized "java/lang/Math", Cond.code Lib.MathLoose.min_long.x Lib.MathLoose.min_long.code 4 (some .long), Cond.methodLink RX9 44 yX9_narrow, Cond.instanceMethod yX9_narrow, Cond.selects RX9 yX9_narrow yX9_narrow, Cond.initialized RX9, Cond.code yX9_narrow cX9_narrow 5 none, Cond.fieldLink RX9 37 "LastLetter$Wall" "sounds" "I", Cond.fieldLink RX9 24 "LastLetter$Wall" "untoldAt" "[I", Cond.fieldLink RX9 21 "LastLetter$Wall" "toldAt" "[I", Cond.fieldLink RX9 9 "LastLetter$Wall" "places" "[I", Cond.fieldLink RX9 15 "LastLetter$Wall" "kinds" "[I", Cond.fieldLink RX9 18 "LastLetter$Wall" "values" "[I", Cond.methodLink RX9 79 yX8_everyWord, Cond.instanceMethod yX8_everyWord, Cond.selects RX8 yX8_everyWord yX8_everyWord, Cond.initialized RX8, Cond.code yX8_everyWord cX8_everyWord 1 (some .int)]
def wsX9_countRows_r2 : List Cond := [Cond.fieldLink RX8 52 "LastLetter$Tongue" "words" "I", Cond.methodLink RX9 83 yJ7_fill_53178, Cond.static yJ7_fill_53178, Cond.initialized RJ7, Cond.code yJ7_fill_53178 cJ7_fill_53178 4 none, Cond.methodLink RX9 89 yX9_wordsOf, Cond.instanceMethod yX9_wordsOf, Cond.selects RX9 yX9_wordsOf yX9_wordsOf, Cond.code yX9_wordsOf cX9_wordsOf 7 (some .int), Cond.static yX10_isIn, Cond.initialized RX10, Cond.code yX10_isIn cX10_isIn 2 (some .boolean), Cond.methodLink RX9 57 yX9_rowsInto, Cond.instanceMethod yX9_rowsInto, Cond.selects RX9 yX9_rowsInto yX9_rowsInto, Cond.code yX9_rowsInto cX9_rowsInto 6 (some .long)]
def wsX9_countRows : List Cond := .code yX9_countRows cX9_countRows 7 (some .long) :: ((wsX9_countRows_r1 ++ wsX9_countRows_r2) ++ wsX80 ++ wsX90)
def wsX9_gathered : List Cond := .code yX9_gathered cX9_gathered 6 (some .int) :: ([.static yX10_isIn, .initialized RX10, .code yX10_isIn cX10_isIn 2 (some .boolean)])
def wsX9_standAt_r1 : List Cond := [Cond.fieldLink RX9 27 "LastLetter$Wall" "standing" "[I", Cond.methodLink RX9 44 yX9_narrow, Cond.instanceMethod yX9_narrow, Cond.selects RX9 yX9_narrow yX9_narrow, Cond.initialized RX9, Cond.code yX9_narrow cX9_narrow 5 none, Cond.fieldLink RX9 37 "LastLetter$Wall" "sounds" "I", Cond.fieldLink RX9 24 "LastLetter$Wall" "untoldAt" "[I", Cond.fieldLink RX9 21 "LastLetter$Wall" "toldAt" "[I", Cond.fieldLink RX9 9 "LastLetter$Wall" "places" "[I", Cond.fieldLink RX9 15 "LastLetter$Wall" "kinds" "[I", Cond.fieldLink RX9 18 "LastLetter$Wall" "values" "[I", Cond.methodLink RX9 79 yX8_everyWord, Cond.instanceMethod yX8_everyWord, Cond.selects RX8 yX8_everyWord yX8_everyWord, Cond.initialized RX8, Cond.code yX8_everyWord cX8_everyWord 1 (some .int), Cond.fieldLink RX8 52 "LastLetter$Tongue" "words" "I", Cond.methodLink RX9 83 yJ7_fill_53178, Cond.static yJ7_fill_53178, Cond.initialized RJ7, Cond.code yJ7_fill_53178 cJ7_fill_53178 4 none, Cond.methodLink RX9 89 yX9_wordsOf, Cond.instanceMethod yX9_wordsOf]
def wsX9_standAt_r2 : List Cond := [Cond.selects RX9 yX9_wordsOf yX9_wordsOf, Cond.code yX9_wordsOf cX9_wordsOf 7 (some .int), Cond.methodLink RX9 75 yX9_gathered, Cond.instanceMethod yX9_gathered, Cond.selects RX9 yX9_gathered yX9_gathered, Cond.code yX9_gathered cX9_gathered 6 (some .int), Cond.static yX10_isIn, Cond.initialized RX10, Cond.code yX10_isIn cX10_isIn 2 (some .boolean)]
def wsX9_standAt : List Cond := .code yX9_standAt cX9_standAt 6 (some .int) :: ((wsX9_standAt_r1 ++ wsX9_standAt_r2) ++ wsX90 ++ wsX80)
def wsX10_init_r1 : List Cond := [Cond.methodLink RX10 3 objectInit, Cond.instanceMethod objectInit, Cond.code objectInit ⟨#[0xb1]⟩ 1 none, Cond.classLink RX10 9 RX7, Cond.instantiable RX7 2, Cond.initialized RX7, Cond.fieldLink RX10 12 "LastLetter" "tape" "LLastLetter$Tape;", Cond.classLink RX10 16 RX3, Cond.instantiable RX3 6, Cond.initialized RX3, Cond.fieldLink RX10 21 "LastLetter" "reader" "LLastLetter$Reader;", Cond.classLink RX10 25 RX6, Cond.instantiable RX6 7, Cond.initialized RX6, Cond.fieldLink RX10 28 "LastLetter" "present" "LLastLetter$Talk;", Cond.fieldLink RX10 32 "LastLetter" "boxes" "[LLastLetter$Talk;", Cond.classLink RX10 36 RX4, Cond.instantiable RX4 2, Cond.initialized RX4, Cond.fieldLink RX10 39 "LastLetter" "row" "LLastLetter$Row;", Cond.classLink RX10 43 RX1, Cond.instantiable RX1 1, Cond.initialized RX1, Cond.fieldLink RX10 46 "LastLetter" "letters" "LLastLetter$Letters;"]
def wsX10_init_r2 : List Cond := [Cond.classLink RX10 50 RX2, Cond.instantiable RX2 6, Cond.initialized RX2, Cond.fieldLink RX10 53 "LastLetter" "orders" "LLastLetter$Orders;", Cond.classLink RX10 57 RX5, Cond.instantiable RX5 3, Cond.initialized RX5, Cond.fieldLink RX10 60 "LastLetter" "search" "LLastLetter$Search;", Cond.classLink RX10 64 RX0, Cond.instantiable RX0 6, Cond.initialized RX0, Cond.fieldLink RX10 67 "LastLetter" "games" "LLastLetter$Games;", Cond.classLink RX10 71 RX9, Cond.instantiable RX9 10, Cond.initialized RX9, Cond.fieldLink RX10 74 "LastLetter" "wall" "LLastLetter$Wall;", Cond.classLink RX10 78 RX8, Cond.instantiable RX8 16, Cond.initialized RX8, Cond.fieldLink RX10 81 "LastLetter" "current" "LLastLetter$Tongue;", Cond.fieldLink RX10 85 "LastLetter" "spare" "LLastLetter$Tongue;", Cond.instanceMethod yX7_init, Cond.code yX7_init cX7_init 1 none, Cond.methodLink RX7 3 objectInit]
def wsX10_init_r3 : List Cond := [Cond.arrayClass .byte, Cond.fieldLink RX7 9 "LastLetter$Tape" "bytes" "[B", Cond.methodLink RX10 18 yX3_init, Cond.instanceMethod yX3_init, Cond.code yX3_init cX3_init 2 none, Cond.methodLink RX3 3 objectInit, Cond.fieldLink RX3 9 "LastLetter$Reader" "place" "I", Cond.fieldLink RX3 15 "LastLetter$Reader" "tape" "LLastLetter$Tape;", Cond.instanceMethod yX6_init, Cond.code yX6_init cX6_init 1 none, Cond.methodLink RX6 3 objectInit, Cond.arrayClass .int, Cond.fieldLink RX6 9 "LastLetter$Talk" "said" "[I", Cond.fieldLink RX6 15 "LastLetter$Talk" "latest" "I", Cond.fieldLink RX6 19 "LastLetter$Talk" "w" "I", Cond.instanceMethod yX4_init, Cond.code yX4_init cX4_init 1 none, Cond.methodLink RX4 3 objectInit, Cond.fieldLink RX4 9 "LastLetter$Row" "items" "[I", Cond.instanceMethod yX1_init, Cond.code yX1_init cX1_init 1 none, Cond.methodLink RX1 3 objectInit, Cond.fieldLink RX1 9 "LastLetter$Letters" "group" "[I", Cond.instanceMethod yX2_init]
def wsX10_init_r4 : List Cond := [Cond.code yX2_init cX2_init 1 none, Cond.methodLink RX2 3 objectInit, Cond.fieldLink RX2 9 "LastLetter$Orders" "breaks" "[B", Cond.fieldLink RX2 15 "LastLetter$Orders" "starts" "[I", Cond.fieldLink RX2 19 "LastLetter$Orders" "worths" "[I", Cond.fieldLink RX2 22 "LastLetter$Orders" "closing" "[I", Cond.instanceMethod yX5_init, Cond.code yX5_init cX5_init 1 none, Cond.methodLink RX5 3 objectInit, Cond.fieldLink RX5 9 "LastLetter$Search" "ahead" "[I", Cond.fieldLink RX5 15 "LastLetter$Search" "queue" "[I", Cond.instanceMethod yX0_init, Cond.code yX0_init cX0_init 1 none, Cond.methodLink RX0 3 objectInit, Cond.fieldLink RX0 9 "LastLetter$Games" "won" "[I", Cond.arrayClass .long, Cond.fieldLink RX0 15 "LastLetter$Games" "depths" "[J", Cond.arrayClass .short, Cond.fieldLink RX0 19 "LastLetter$Games" "gains" "[S", Cond.instanceMethod yX9_init, Cond.code yX9_init cX9_init 1 none, Cond.methodLink RX9 3 objectInit, Cond.fieldLink RX9 9 "LastLetter$Wall" "places" "[I", Cond.fieldLink RX9 15 "LastLetter$Wall" "kinds" "[I"]
def wsX10_init_r5 : List Cond := [Cond.fieldLink RX9 18 "LastLetter$Wall" "values" "[I", Cond.fieldLink RX9 21 "LastLetter$Wall" "toldAt" "[I", Cond.fieldLink RX9 24 "LastLetter$Wall" "untoldAt" "[I", Cond.fieldLink RX9 27 "LastLetter$Wall" "standing" "[I", Cond.fieldLink RX9 30 "LastLetter$Wall" "rows" "[J", Cond.fieldLink RX9 34 "LastLetter$Wall" "longer" "[J", Cond.methodLink RX10 80 yX8_init, Cond.instanceMethod yX8_init, Cond.code yX8_init cX8_init 1 none, Cond.methodLink RX8 3 objectInit, Cond.fieldLink RX8 9 "LastLetter$Tongue" "name" "[J", Cond.fieldLink RX8 15 "LastLetter$Tongue" "worth" "[I", Cond.fieldLink RX8 19 "LastLetter$Tongue" "times" "[I", Cond.fieldLink RX8 22 "LastLetter$Tongue" "first" "[I", Cond.fieldLink RX8 25 "LastLetter$Tongue" "second" "[I", Cond.fieldLink RX8 28 "LastLetter$Tongue" "beforeLast" "[I", Cond.fieldLink RX8 31 "LastLetter$Tongue" "last" "[I", Cond.fieldLink RX8 34 "LastLetter$Tongue" "errandOf" "[I", Cond.fieldLink RX8 37 "LastLetter$Tongue" "errandAfter" "[I", Cond.fieldLink RX8 40 "LastLetter$Tongue" "sound" "[I", Cond.fieldLink RX8 43 "LastLetter$Tongue" "followers" "[I", Cond.fieldLink RX8 46 "LastLetter$Tongue" "leaders" "[I", Cond.methodLink RX8 49 yX8_clear, Cond.instanceMethod yX8_clear]
def wsX10_init_r6 : List Cond := [Cond.selects RX8 yX8_clear yX8_clear, Cond.code yX8_clear cX8_clear 2 none, Cond.fieldLink RX8 52 "LastLetter$Tongue" "words" "I", Cond.fieldLink RX8 56 "LastLetter$Tongue" "errands" "I", Cond.fieldLink RX8 59 "LastLetter$Tongue" "alikes" "I", Cond.fieldLink RX8 62 "LastLetter$Tongue" "law" "I", Cond.methodLink RX8 65 yJ7_fill_53178, Cond.static yJ7_fill_53178, Cond.initialized RJ7, Cond.code yJ7_fill_53178 cJ7_fill_53178 4 none]
def wsX10_init : List Cond := .code yX10_init cX10_init 2 none :: ((wsX10_init_r1 ++ (wsX10_init_r2 ++ (wsX10_init_r3 ++ (wsX10_init_r4 ++ (wsX10_init_r5 ++ wsX10_init_r6))))) ++ wsX70 ++ wsX100 ++ wsX30 ++ wsX60 ++ wsX40 ++ wsX10 ++ wsX20 ++ wsX50 ++ wsX00 ++ wsX90 ++ wsX80)
def wsX10_feed : List Cond := .code yX10_feed cX10_feed 6 (some .int) :: ([.fieldLink RX10 12 "LastLetter" "tape" "LLastLetter$Tape;", .methodLink RX10 92 yX7_put, .instanceMethod yX7_put, .selects RX7 yX7_put yX7_put, .initialized RX7, .code yX7_put cX7_put 3 none, .fieldLink RX7 15 "LastLetter$Tape" "size" "I", .fieldLink RX7 9 "LastLetter$Tape" "bytes" "[B"] ++ wsX100 ++ wsX70)
def wsX10_end : List Cond := .code yX10_end cX10_end 2 (some .int) :: ([.fieldLink RX10 12 "LastLetter" "tape" "LLastLetter$Tape;"] ++ wsX100 ++ wsX70)
def wsX10_tongue_r1 : List Cond := [Cond.fieldLink RX10 21 "LastLetter" "reader" "LLastLetter$Reader;", Cond.fieldLink RX10 85 "LastLetter" "spare" "LLastLetter$Tongue;", Cond.fieldLink RX10 81 "LastLetter" "current" "LLastLetter$Tongue;", Cond.fieldLink RX10 12 "LastLetter" "tape" "LLastLetter$Tape;", Cond.fieldLink RX10 28 "LastLetter" "present" "LLastLetter$Talk;", Cond.fieldLink RX10 32 "LastLetter" "boxes" "[LLastLetter$Talk;", Cond.fieldLink RX10 39 "LastLetter" "row" "LLastLetter$Row;", Cond.fieldLink RX10 53 "LastLetter" "orders" "LLastLetter$Orders;", Cond.fieldLink RX10 67 "LastLetter" "games" "LLastLetter$Games;", Cond.fieldLink RX10 74 "LastLetter" "wall" "LLastLetter$Wall;", Cond.methodLink RX10 96 yX3_reads, Cond.instanceMethod yX3_reads, Cond.selects RX3 yX3_reads yX3_reads, Cond.initialized RX3, Cond.code yX3_reads cX3_reads 3 (some .boolean), Cond.fieldLink RX3 24 "LastLetter$Reader" "fault" "I", Cond.fieldLink RX3 9 "LastLetter$Reader" "place" "I", Cond.fieldLink RX3 27 "LastLetter$Reader" "behind" "I", Cond.fieldLink RX3 33 "LastLetter$Reader" "kind" "I", Cond.instanceMethod yX8_clear, Cond.initialized RX8, Cond.selects RX8 yX8_clear yX8_clear, Cond.code yX8_clear cX8_clear 2 none, Cond.fieldLink RX8 52 "LastLetter$Tongue" "words" "I"]
def wsX10_tongue_r2 : List Cond := [Cond.fieldLink RX8 56 "LastLetter$Tongue" "errands" "I", Cond.fieldLink RX8 59 "LastLetter$Tongue" "alikes" "I", Cond.fieldLink RX8 62 "LastLetter$Tongue" "law" "I", Cond.fieldLink RX8 34 "LastLetter$Tongue" "errandOf" "[I", Cond.fieldLink RX8 40 "LastLetter$Tongue" "sound" "[I", Cond.methodLink RX8 65 yJ7_fill_53178, Cond.static yJ7_fill_53178, Cond.initialized RJ7, Cond.code yJ7_fill_53178 cJ7_fill_53178 4 none, Cond.methodLink RX3 30 yX3_step, Cond.instanceMethod yX3_step, Cond.selects RX3 yX3_step yX3_step, Cond.code yX3_step cX3_step 2 none, Cond.fieldLink RX3 87 "LastLetter$Reader" "start" "I", Cond.fieldLink RX3 15 "LastLetter$Reader" "tape" "LLastLetter$Tape;", Cond.methodLink RX3 137 yX7_at, Cond.instanceMethod yX7_at, Cond.selects RX7 yX7_at yX7_at, Cond.initialized RX7, Cond.code yX7_at cX7_at 2 (some .int), Cond.fieldLink RX7 15 "LastLetter$Tape" "size" "I", Cond.fieldLink RX7 9 "LastLetter$Tape" "bytes" "[B", Cond.methodLink RX3 141 yX3_isBlank, Cond.static yX3_isBlank]
def wsX10_tongue_r3 : List Cond := [Cond.code yX3_isBlank cX3_isBlank 1 (some .boolean), Cond.methodLink RX3 145 yX3_isLetter, Cond.static yX3_isLetter, Cond.code yX3_isLetter cX3_isLetter 1 (some .boolean), Cond.methodLink RX3 148 yX3_stepLetters, Cond.instanceMethod yX3_stepLetters, Cond.selects RX3 yX3_stepLetters yX3_stepLetters, Cond.code yX3_stepLetters cX3_stepLetters 1 none, Cond.methodLink RX3 75 yX3_refuse, Cond.instanceMethod yX3_refuse, Cond.selects RX3 yX3_refuse yX3_refuse, Cond.code yX3_refuse cX3_refuse 2 none, Cond.methodLink RX3 151 yX3_isDigit, Cond.static yX3_isDigit, Cond.code yX3_isDigit cX3_isDigit 1 (some .boolean), Cond.methodLink RX3 154 yX3_stepDigits, Cond.instanceMethod yX3_stepDigits, Cond.selects RX3 yX3_stepDigits yX3_stepDigits, Cond.code yX3_stepDigits cX3_stepDigits 1 none, Cond.methodLink RX3 36 yX3_readLine, Cond.instanceMethod yX3_readLine, Cond.selects RX3 yX3_readLine yX3_readLine, Cond.code yX3_readLine cX3_readLine 2 none, Cond.methodLink RX3 42 yX3_isWritten]
def wsX10_tongue_r4 : List Cond := [Cond.instanceMethod yX3_isWritten, Cond.selects RX3 yX3_isWritten yX3_isWritten, Cond.code yX3_isWritten cX3_isWritten 3 (some .boolean), Cond.methodLink RX3 157 yJ0_length_8abf5, Cond.instanceMethod yJ0_length_8abf5, Cond.selects RJ0 yJ0_length_8abf5 yJ0_length_8abf5, Cond.initialized RJ0, Cond.code yJ0_length_8abf5 cJ0_length_8abf5 1 (some .int), Cond.fieldLink RJ0 9 "java/lang/String" "value" "[B", Cond.methodLink RJ0 335 yJ0_coder_7d493, Cond.instanceMethod yJ0_coder_7d493, Cond.selects RJ0 yJ0_coder_7d493 yJ0_coder_7d493, Cond.code yJ0_coder_7d493 cJ0_coder_7d493 1 (some .byte), Cond.fieldLink RJ0 38 "java/lang/String" "COMPACT_STRINGS" "Z", Cond.fieldLink RJ0 15 "java/lang/String" "coder" "B", Cond.methodLink RX3 162 yJ0_charAt_5068e, Cond.instanceMethod yJ0_charAt_5068e, Cond.selects RJ0 yJ0_charAt_5068e yJ0_charAt_5068e, Cond.code yJ0_charAt_5068e cJ0_charAt_5068e 2 (some .char), Cond.methodLink RJ0 492 yJ0_isLatin1_aae02, Cond.instanceMethod yJ0_isLatin1_aae02, Cond.selects RJ0 yJ0_isLatin1_aae02 yJ0_isLatin1_aae02, Cond.code yJ0_isLatin1_aae02 cJ0_isLatin1_aae02 1 (some .boolean), Cond.methodLink RJ0 495 yJ1_charAt_3b067]
def wsX10_tongue_r5 : List Cond := [Cond.static yJ1_charAt_3b067, Cond.initialized RJ1, Cond.code yJ1_charAt_3b067 cJ1_charAt_3b067 2 (some .char), Cond.methodLink RJ1 9 yJ0_checkIndex_df160, Cond.static yJ0_checkIndex_df160, Cond.code yJ0_checkIndex_df160 cJ0_checkIndex_df160 2 none, Cond.fieldLink RJ0 1053 "jdk/internal/util/Preconditions" "SIOOBE_FORMATTER" "Ljava/util/function/BiFunction;", Cond.methodLink RJ0 1059 yJ3_checkIndex_8e157, Cond.static yJ3_checkIndex_8e157, Cond.initialized RJ3, Cond.code yJ3_checkIndex_8e157 cJ3_checkIndex_8e157 3 (some .int), Cond.methodLink RJ0 498 yJ2_charAt_3b067, Cond.static yJ2_charAt_3b067, Cond.initialized RJ2, Cond.code yJ2_charAt_3b067 cJ2_charAt_3b067 2 (some .char), Cond.methodLink RJ2 67 yJ2_checkIndex_2214a, Cond.static yJ2_checkIndex_2214a, Cond.code yJ2_checkIndex_2214a cJ2_checkIndex_2214a 2 none, Cond.methodLink RJ2 48 yJ2_length_9d52b, Cond.static yJ2_length_9d52b, Cond.code yJ2_length_9d52b cJ2_length_9d52b 1 (some .int), Cond.methodLink RJ2 414 yJ0_checkIndex_df160, Cond.methodLink RJ2 71 yJ2_getChar_3b067, Cond.static yJ2_getChar_3b067]
def wsX10_tongue_r6 : List Cond := [Cond.code yJ2_getChar_3b067 cJ2_getChar_3b067 2 (some .char), Cond.fieldLink RJ2 44 "java/lang/StringUTF16" "$assertionsDisabled" "Z", Cond.fieldLink RJ2 59 "java/lang/StringUTF16" "HI_BYTE_SHIFT" "I", Cond.fieldLink RJ2 63 "java/lang/StringUTF16" "LO_BYTE_SHIFT" "I", Cond.methodLink RX3 49 yX3_readWord, Cond.instanceMethod yX3_readWord, Cond.selects RX3 yX3_readWord yX3_readWord, Cond.code yX3_readWord cX3_readWord 8 none, Cond.methodLink RX3 79 yX3_name, Cond.instanceMethod yX3_name, Cond.selects RX3 yX3_name yX3_name, Cond.code yX3_name cX3_name 4 (some .long), Cond.methodLink RX3 83 yX8_find, Cond.instanceMethod yX8_find, Cond.selects RX8 yX8_find yX8_find, Cond.code yX8_find cX8_find 4 (some .int), Cond.fieldLink RX8 9 "LastLetter$Tongue" "name" "[J", Cond.methodLink RX3 92 yX3_number, Cond.instanceMethod yX3_number, Cond.selects RX3 yX3_number yX3_number, Cond.code yX3_number cX3_number 5 (some .int), Cond.methodLink RX3 98 yX8_addWord, Cond.instanceMethod yX8_addWord, Cond.selects RX8 yX8_addWord yX8_addWord]
def wsX10_tongue_r7 : List Cond := [Cond.code yX8_addWord cX8_addWord 5 none, Cond.fieldLink RX8 15 "LastLetter$Tongue" "worth" "[I", Cond.fieldLink RX8 19 "LastLetter$Tongue" "times" "[I", Cond.methodLink RX3 102 yX8_spell, Cond.instanceMethod yX8_spell, Cond.selects RX8 yX8_spell yX8_spell, Cond.code yX8_spell cX8_spell 6 none, Cond.fieldLink RX8 22 "LastLetter$Tongue" "first" "[I", Cond.fieldLink RX8 31 "LastLetter$Tongue" "last" "[I", Cond.fieldLink RX8 25 "LastLetter$Tongue" "second" "[I", Cond.fieldLink RX8 28 "LastLetter$Tongue" "beforeLast" "[I", Cond.methodLink RX8 75 yX7_at, Cond.methodLink RX3 56 yX3_readLaw, Cond.instanceMethod yX3_readLaw, Cond.selects RX3 yX3_readLaw yX3_readLaw, Cond.code yX3_readLaw cX3_readLaw 2 none, Cond.methodLink RX3 64 yX3_readAlike, Cond.instanceMethod yX3_readAlike, Cond.selects RX3 yX3_readAlike yX3_readAlike, Cond.code yX3_readAlike cX3_readAlike 4 none, Cond.methodLink RX3 112 yX3_letter, Cond.instanceMethod yX3_letter, Cond.selects RX3 yX3_letter yX3_letter, Cond.code yX3_letter cX3_letter 1 (some .int)]
def wsX10_tongue_r8 : List Cond := [Cond.methodLink RX3 116 yX8_addAlike, Cond.instanceMethod yX8_addAlike, Cond.selects RX8 yX8_addAlike yX8_addAlike, Cond.code yX8_addAlike cX8_addAlike 6 none, Cond.methodLink RX8 81 Lib.Math.min.name, Cond.static Lib.Math.min.name, Cond.initialized "java/lang/Math", Cond.code Lib.Math.min.name Lib.Math.min.code 2 (some .int), Cond.methodLink RX8 87 Lib.Math.max.name, Cond.static Lib.Math.max.name, Cond.code Lib.Math.max.name Lib.Math.max.code 2 (some .int), Cond.methodLink RX3 72 yX3_readErrand, Cond.instanceMethod yX3_readErrand, Cond.selects RX3 yX3_readErrand yX3_readErrand, Cond.code yX3_readErrand cX3_readErrand 4 none, Cond.methodLink RX3 126 yX8_errandNamed, Cond.instanceMethod yX8_errandNamed, Cond.selects RX8 yX8_errandNamed yX8_errandNamed, Cond.code yX8_errandNamed cX8_errandNamed 4 (some .int), Cond.methodLink RX8 71 yX8_find, Cond.methodLink RX3 129 yX8_addErrand, Cond.instanceMethod yX8_addErrand, Cond.selects RX8 yX8_addErrand yX8_addErrand, Cond.code yX8_addErrand cX8_addErrand 3 none]
def wsX10_tongue_r9 : List Cond := [Cond.fieldLink RX8 37 "LastLetter$Tongue" "errandAfter" "[I", Cond.methodLink RX8 90 yX8_has, Cond.instanceMethod yX8_has, Cond.selects RX8 yX8_has yX8_has, Cond.code yX8_has cX8_has 2 (some .boolean), Cond.methodLink RX10 100 yX8_link, Cond.instanceMethod yX8_link, Cond.selects RX8 yX8_link yX8_link, Cond.code yX8_link cX8_link 3 none, Cond.fieldLink RX8 43 "LastLetter$Tongue" "followers" "[I", Cond.fieldLink RX8 46 "LastLetter$Tongue" "leaders" "[I", Cond.methodLink RX8 94 yX8_allows, Cond.instanceMethod yX8_allows, Cond.selects RX8 yX8_allows yX8_allows, Cond.code yX8_allows cX8_allows 4 (some .boolean), Cond.methodLink RX8 98 yX8_areAlike, Cond.instanceMethod yX8_areAlike, Cond.selects RX8 yX8_areAlike yX8_areAlike, Cond.code yX8_areAlike cX8_areAlike 3 (some .boolean), Cond.methodLink RX10 103 yX6_forget, Cond.instanceMethod yX6_forget, Cond.selects RX6 yX6_forget yX6_forget, Cond.initialized RX6, Cond.code yX6_forget cX6_forget 1 none]
def wsX10_tongue_r10 : List Cond := [Cond.fieldLink RX6 9 "LastLetter$Talk" "said" "[I", Cond.fieldLink RX6 28 "LastLetter$Talk" "earned" "I", Cond.fieldLink RX6 31 "LastLetter$Talk" "doneErrands" "I", Cond.methodLink RX6 22 yJ7_fill_53178, Cond.methodLink RX6 34 yX6_begin, Cond.instanceMethod yX6_begin, Cond.selects RX6 yX6_begin yX6_begin, Cond.code yX6_begin cX6_begin 1 none, Cond.fieldLink RX6 15 "LastLetter$Talk" "latest" "I", Cond.fieldLink RX6 37 "LastLetter$Talk" "spoken" "I", Cond.methodLink RX10 111 yX2_forget, Cond.instanceMethod yX2_forget, Cond.selects RX2 yX2_forget yX2_forget, Cond.initialized RX2, Cond.code yX2_forget cX2_forget 1 none, Cond.fieldLink RX2 25 "LastLetter$Orders" "isKnown" "Z", Cond.fieldLink RX2 29 "LastLetter$Orders" "isClosingKnown" "Z", Cond.methodLink RX10 112 yX0_forget, Cond.instanceMethod yX0_forget, Cond.selects RX0 yX0_forget yX0_forget, Cond.initialized RX0, Cond.code yX0_forget cX0_forget 1 none, Cond.fieldLink RX0 23 "LastLetter$Games" "isWonKnown" "Z", Cond.fieldLink RX0 27 "LastLetter$Games" "isDepthKnown" "Z"]
def wsX10_tongue_r11 : List Cond := [Cond.fieldLink RX0 30 "LastLetter$Games" "isGainKnown" "Z"]
def wsX10_tongue : List Cond := .code yX10_tongue cX10_tongue 3 (some .int) :: ((wsX10_tongue_r1 ++ (wsX10_tongue_r2 ++ (wsX10_tongue_r3 ++ (wsX10_tongue_r4 ++ (wsX10_tongue_r5 ++ (wsX10_tongue_r6 ++ (wsX10_tongue_r7 ++ (wsX10_tongue_r8 ++ (wsX10_tongue_r9 ++ (wsX10_tongue_r10 ++ wsX10_tongue_r11)))))))))) ++ wsX100 ++ wsX70 ++ wsX60 ++ wsX40 ++ wsX90 ++ wsX80 ++ wsX30 ++ wsX20 ++ wsX00)
def wsX10_fault : List Cond := .code yX10_fault cX10_fault 2 (some .int) :: ([.fieldLink RX10 21 "LastLetter" "reader" "LLastLetter$Reader;"] ++ wsX100 ++ wsX30)
def wsX10_follow : List Cond := .code yX10_follow cX10_follow 2 (some .int) :: ([.fieldLink RX10 81 "LastLetter" "current" "LLastLetter$Tongue;", .methodLink RX10 125 yX8_has, .instanceMethod yX8_has, .selects RX8 yX8_has yX8_has, .initialized RX8, .code yX8_has cX8_has 2 (some .boolean), .fieldLink RX8 52 "LastLetter$Tongue" "words" "I"] ++ wsX100 ++ wsX80)
def wsX10_may_r1 : List Cond := [Cond.fieldLink RX10 28 "LastLetter" "present" "LLastLetter$Talk;", Cond.fieldLink RX10 81 "LastLetter" "current" "LLastLetter$Tongue;", Cond.methodLink RX10 133 yX6_open, Cond.instanceMethod yX6_open, Cond.selects RX6 yX6_open yX6_open, Cond.initialized RX6, Cond.code yX6_open cX6_open 5 (some .int), Cond.fieldLink RX6 15 "LastLetter$Talk" "latest" "I", Cond.methodLink RX6 51 yX8_has, Cond.instanceMethod yX8_has, Cond.selects RX8 yX8_has yX8_has, Cond.initialized RX8, Cond.code yX8_has cX8_has 2 (some .boolean), Cond.fieldLink RX8 52 "LastLetter$Tongue" "words" "I", Cond.methodLink RX6 58 yX8_everyWord, Cond.instanceMethod yX8_everyWord, Cond.selects RX8 yX8_everyWord yX8_everyWord, Cond.code yX8_everyWord cX8_everyWord 1 (some .int), Cond.static yX10_isIn, Cond.initialized RX10, Cond.code yX10_isIn cX10_isIn 2 (some .boolean), Cond.methodLink RX6 69 yX6_left, Cond.instanceMethod yX6_left, Cond.selects RX6 yX6_left yX6_left]
def wsX10_may_r2 : List Cond := [Cond.code yX6_left cX6_left 3 (some .int), Cond.fieldLink RX6 9 "LastLetter$Talk" "said" "[I"]
def wsX10_may : List Cond := .code yX10_may cX10_may 1 (some .int) :: ((wsX10_may_r1 ++ wsX10_may_r2) ++ wsX100 ++ wsX60 ++ wsX80)
def wsX10_say_r1 : List Cond := [Cond.fieldLink RX10 81 "LastLetter" "current" "LLastLetter$Tongue;", Cond.fieldLink RX10 28 "LastLetter" "present" "LLastLetter$Talk;", Cond.methodLink RX10 125 yX8_has, Cond.instanceMethod yX8_has, Cond.selects RX8 yX8_has yX8_has, Cond.initialized RX8, Cond.code yX8_has cX8_has 2 (some .boolean), Cond.fieldLink RX8 52 "LastLetter$Tongue" "words" "I", Cond.methodLink RX10 133 yX6_open, Cond.instanceMethod yX6_open, Cond.selects RX6 yX6_open yX6_open, Cond.initialized RX6, Cond.code yX6_open cX6_open 5 (some .int), Cond.fieldLink RX6 15 "LastLetter$Talk" "latest" "I", Cond.methodLink RX6 51 yX8_has, Cond.methodLink RX6 58 yX8_everyWord, Cond.instanceMethod yX8_everyWord, Cond.selects RX8 yX8_everyWord yX8_everyWord, Cond.code yX8_everyWord cX8_everyWord 1 (some .int), Cond.static yX10_isIn, Cond.initialized RX10, Cond.code yX10_isIn cX10_isIn 2 (some .boolean), Cond.methodLink RX6 69 yX6_left, Cond.instanceMethod yX6_left]
def wsX10_say_r2 : List Cond := [Cond.selects RX6 yX6_left yX6_left, Cond.code yX6_left cX6_left 3 (some .int), Cond.fieldLink RX6 9 "LastLetter$Talk" "said" "[I", Cond.methodLink RX10 137 yX10_isIn, Cond.methodLink RX10 141 yX6_speak, Cond.instanceMethod yX6_speak, Cond.selects RX6 yX6_speak yX6_speak, Cond.code yX6_speak cX6_speak 3 none, Cond.fieldLink RX6 37 "LastLetter$Talk" "spoken" "I", Cond.fieldLink RX6 28 "LastLetter$Talk" "earned" "I", Cond.fieldLink RX6 31 "LastLetter$Talk" "doneErrands" "I", Cond.methodLink RX6 76 yX8_doneBehind, Cond.instanceMethod yX8_doneBehind, Cond.selects RX8 yX8_doneBehind yX8_doneBehind, Cond.code yX8_doneBehind cX8_doneBehind 5 (some .int), Cond.fieldLink RX8 34 "LastLetter$Tongue" "errandOf" "[I", Cond.fieldLink RX8 37 "LastLetter$Tongue" "errandAfter" "[I"]
def wsX10_say : List Cond := .code yX10_say cX10_say 2 (some .int) :: ((wsX10_say_r1 ++ wsX10_say_r2) ++ wsX100 ++ wsX80 ++ wsX60)
def wsX10_silence : List Cond := .code yX10_silence cX10_silence 2 (some .int) :: ([.fieldLink RX10 28 "LastLetter" "present" "LLastLetter$Talk;", .methodLink RX10 151 yX6_begin, .instanceMethod yX6_begin, .selects RX6 yX6_begin yX6_begin, .initialized RX6, .code yX6_begin cX6_begin 1 none, .fieldLink RX6 15 "LastLetter$Talk" "latest" "I", .fieldLink RX6 37 "LastLetter$Talk" "spoken" "I"] ++ wsX100 ++ wsX60)
def wsX10_talk_r1 : List Cond := [Cond.fieldLink RX10 28 "LastLetter" "present" "LLastLetter$Talk;", Cond.fieldLink RX10 81 "LastLetter" "current" "LLastLetter$Tongue;", Cond.methodLink RX10 154 yX6_choose, Cond.instanceMethod yX6_choose, Cond.selects RX6 yX6_choose yX6_choose, Cond.initialized RX6, Cond.code yX6_choose cX6_choose 8 (some .int), Cond.methodLink RX6 80 yX6_open, Cond.instanceMethod yX6_open, Cond.selects RX6 yX6_open yX6_open, Cond.code yX6_open cX6_open 5 (some .int), Cond.fieldLink RX6 15 "LastLetter$Talk" "latest" "I", Cond.methodLink RX6 51 yX8_has, Cond.instanceMethod yX8_has, Cond.selects RX8 yX8_has yX8_has, Cond.initialized RX8, Cond.code yX8_has cX8_has 2 (some .boolean), Cond.fieldLink RX8 52 "LastLetter$Tongue" "words" "I", Cond.methodLink RX6 58 yX8_everyWord, Cond.instanceMethod yX8_everyWord, Cond.selects RX8 yX8_everyWord yX8_everyWord, Cond.code yX8_everyWord cX8_everyWord 1 (some .int), Cond.static yX10_isIn, Cond.initialized RX10]
def wsX10_talk_r2 : List Cond := [Cond.code yX10_isIn cX10_isIn 2 (some .boolean), Cond.methodLink RX6 69 yX6_left, Cond.instanceMethod yX6_left, Cond.selects RX6 yX6_left yX6_left, Cond.code yX6_left cX6_left 3 (some .int), Cond.fieldLink RX6 9 "LastLetter$Talk" "said" "[I", Cond.methodLink RX6 84 yX6_drawn, Cond.instanceMethod yX6_drawn, Cond.selects RX6 yX6_drawn yX6_drawn, Cond.code yX6_drawn cX6_drawn 6 (some .int), Cond.fieldLink RX6 19 "LastLetter$Talk" "w" "I", Cond.constant RX6 100 (1103515245), Cond.methodLink RX6 95 yJ6_bitCount_0f7a4, Cond.static yJ6_bitCount_0f7a4, Cond.initialized RJ6, Cond.code yJ6_bitCount_0f7a4 cJ6_bitCount_0f7a4 1 (some .int), Cond.constant RJ6 265 (1431655765), Cond.constant RJ6 266 (858993459), Cond.constant RJ6 267 (252645135), Cond.static yX10_lowest, Cond.code yX10_lowest cX10_lowest 1 (some .int), Cond.methodLink RX10 261 yJ6_numberOfTrailingZeros_0f7a4, Cond.static yJ6_numberOfTrailingZeros_0f7a4, Cond.code yJ6_numberOfTrailingZeros_0f7a4 cJ6_numberOfTrailingZeros_0f7a4 2 (some .int)]
def wsX10_talk_r3 : List Cond := [Cond.constant RJ6 264 (65536), Cond.methodLink RX6 88 yX6_rank, Cond.instanceMethod yX6_rank, Cond.selects RX6 yX6_rank yX6_rank, Cond.code yX6_rank cX6_rank 4 (some .int), Cond.methodLink RX6 92 yX6_openBehind, Cond.instanceMethod yX6_openBehind, Cond.selects RX6 yX6_openBehind yX6_openBehind, Cond.code yX6_openBehind cX6_openBehind 6 (some .int), Cond.methodLink RX10 125 yX8_has, Cond.methodLink RX10 141 yX6_speak, Cond.instanceMethod yX6_speak, Cond.selects RX6 yX6_speak yX6_speak, Cond.code yX6_speak cX6_speak 3 none, Cond.fieldLink RX6 37 "LastLetter$Talk" "spoken" "I", Cond.fieldLink RX6 28 "LastLetter$Talk" "earned" "I", Cond.fieldLink RX6 31 "LastLetter$Talk" "doneErrands" "I", Cond.methodLink RX6 76 yX8_doneBehind, Cond.instanceMethod yX8_doneBehind, Cond.selects RX8 yX8_doneBehind yX8_doneBehind, Cond.code yX8_doneBehind cX8_doneBehind 5 (some .int), Cond.fieldLink RX8 34 "LastLetter$Tongue" "errandOf" "[I", Cond.fieldLink RX8 37 "LastLetter$Tongue" "errandAfter" "[I"]
def wsX10_talk : List Cond := .code yX10_talk cX10_talk 6 (some .int) :: ((wsX10_talk_r1 ++ (wsX10_talk_r2 ++ wsX10_talk_r3)) ++ wsX100 ++ wsX80 ++ wsX60)
def wsX10_word : List Cond := .code yX10_word cX10_word 3 (some .int) :: ([.fieldLink RX10 81 "LastLetter" "current" "LLastLetter$Tongue;", .fieldLink RX10 28 "LastLetter" "present" "LLastLetter$Talk;", .methodLink RX10 125 yX8_has, .instanceMethod yX8_has, .selects RX8 yX8_has yX8_has, .initialized RX8, .code yX8_has cX8_has 2 (some .boolean), .fieldLink RX8 52 "LastLetter$Tongue" "words" "I", .methodLink RX10 161 yX6_left, .instanceMethod yX6_left, .selects RX6 yX6_left yX6_left, .initialized RX6, .code yX6_left cX6_left 3 (some .int), .fieldLink RX6 9 "LastLetter$Talk" "said" "[I"] ++ wsX100 ++ wsX60 ++ wsX80)
def wsX10_all_r1 : List Cond := [Cond.fieldLink RX10 39 "LastLetter" "row" "LLastLetter$Row;", Cond.fieldLink RX10 81 "LastLetter" "current" "LLastLetter$Tongue;", Cond.fieldLink RX10 53 "LastLetter" "orders" "LLastLetter$Orders;", Cond.methodLink RX10 164 yX8_isTooBig, Cond.instanceMethod yX8_isTooBig, Cond.selects RX8 yX8_isTooBig yX8_isTooBig, Cond.initialized RX8, Cond.code yX8_isTooBig cX8_isTooBig 1 (some .boolean), Cond.fieldLink RX8 52 "LastLetter$Tongue" "words" "I", Cond.methodLink RX10 168 yX2_layRound, Cond.instanceMethod yX2_layRound, Cond.selects RX2 yX2_layRound yX2_layRound, Cond.initialized RX2, Cond.code yX2_layRound cX2_layRound 7 (some .boolean), Cond.methodLink RX2 104 yX2_learnClosing, Cond.instanceMethod yX2_learnClosing, Cond.selects RX2 yX2_learnClosing yX2_learnClosing, Cond.code yX2_learnClosing cX2_learnClosing 6 none, Cond.fieldLink RX2 29 "LastLetter$Orders" "isClosingKnown" "Z", Cond.fieldLink RX2 22 "LastLetter$Orders" "closing" "[I", Cond.arrayClass .int, Cond.static yX10_isIn, Cond.initialized RX10, Cond.code yX10_isIn cX10_isIn 2 (some .boolean)]
def wsX10_all_r2 : List Cond := [Cond.methodLink RX2 107 yX2_onward, Cond.instanceMethod yX2_onward, Cond.selects RX2 yX2_onward yX2_onward, Cond.code yX2_onward cX2_onward 4 (some .int), Cond.methodLink RX2 36 yX8_everyWord, Cond.instanceMethod yX8_everyWord, Cond.selects RX8 yX8_everyWord yX8_everyWord, Cond.code yX8_everyWord cX8_everyWord 1 (some .int), Cond.methodLink RX2 58 yX4_add, Cond.instanceMethod yX4_add, Cond.selects RX4 yX4_add yX4_add, Cond.initialized RX4, Cond.code yX4_add cX4_add 2 none, Cond.fieldLink RX4 15 "LastLetter$Row" "size" "I", Cond.fieldLink RX4 9 "LastLetter$Row" "items" "[I", Cond.static yX10_lowest, Cond.code yX10_lowest cX10_lowest 1 (some .int), Cond.methodLink RX10 261 yJ6_numberOfTrailingZeros_0f7a4, Cond.static yJ6_numberOfTrailingZeros_0f7a4, Cond.initialized RJ6, Cond.code yJ6_numberOfTrailingZeros_0f7a4 cJ6_numberOfTrailingZeros_0f7a4 2 (some .int), Cond.constant RJ6 264 (65536), Cond.methodLink RX10 172 yX2_layWhole, Cond.instanceMethod yX2_layWhole]
def wsX10_all_r3 : List Cond := [Cond.selects RX2 yX2_layWhole yX2_layWhole, Cond.code yX2_layWhole cX2_layWhole 3 (some .boolean), Cond.fieldLink RX2 9 "LastLetter$Orders" "breaks" "[B", Cond.methodLink RX2 32 yX2_learn, Cond.instanceMethod yX2_learn, Cond.selects RX2 yX2_learn yX2_learn, Cond.code yX2_learn cX2_learn 4 none, Cond.fieldLink RX2 25 "LastLetter$Orders" "isKnown" "Z", Cond.arrayClass .byte, Cond.fieldLink RX2 15 "LastLetter$Orders" "starts" "[I", Cond.fieldLink RX2 19 "LastLetter$Orders" "worths" "[I", Cond.methodLink RX2 97 yX2_learnSet, Cond.instanceMethod yX2_learnSet, Cond.selects RX2 yX2_learnSet yX2_learnSet, Cond.code yX2_learnSet cX2_learnSet 7 none, Cond.methodLink RX2 67 yX2_breaksBehind, Cond.instanceMethod yX2_breaksBehind, Cond.selects RX2 yX2_breaksBehind yX2_breaksBehind, Cond.code yX2_breaksBehind cX2_breaksBehind 4 (some .int), Cond.methodLink RX2 42 yX2_layParts, Cond.instanceMethod yX2_layParts, Cond.selects RX2 yX2_layParts yX2_layParts, Cond.code yX2_layParts cX2_layParts 9 (some .int), Cond.methodLink RX2 50 yX2_cheapest]
def wsX10_all_r4 : List Cond := [Cond.instanceMethod yX2_cheapest, Cond.selects RX2 yX2_cheapest yX2_cheapest, Cond.code yX2_cheapest cX2_cheapest 7 (some .int)]
def wsX10_all : List Cond := .code yX10_all cX10_all 3 (some .int) :: ((wsX10_all_r1 ++ (wsX10_all_r2 ++ (wsX10_all_r3 ++ wsX10_all_r4))) ++ wsX100 ++ wsX40 ++ wsX80 ++ wsX20)
def wsX10_longest_r1 : List Cond := [Cond.fieldLink RX10 39 "LastLetter" "row" "LLastLetter$Row;", Cond.fieldLink RX10 81 "LastLetter" "current" "LLastLetter$Tongue;", Cond.fieldLink RX10 53 "LastLetter" "orders" "LLastLetter$Orders;", Cond.methodLink RX10 164 yX8_isTooBig, Cond.instanceMethod yX8_isTooBig, Cond.selects RX8 yX8_isTooBig yX8_isTooBig, Cond.initialized RX8, Cond.code yX8_isTooBig cX8_isTooBig 1 (some .boolean), Cond.fieldLink RX8 52 "LastLetter$Tongue" "words" "I", Cond.methodLink RX10 175 yX2_layMost, Cond.instanceMethod yX2_layMost, Cond.selects RX2 yX2_layMost yX2_layMost, Cond.initialized RX2, Cond.code yX2_layMost cX2_layMost 10 (some .int), Cond.methodLink RX2 32 yX2_learn, Cond.instanceMethod yX2_learn, Cond.selects RX2 yX2_learn yX2_learn, Cond.code yX2_learn cX2_learn 4 none, Cond.fieldLink RX2 25 "LastLetter$Orders" "isKnown" "Z", Cond.fieldLink RX2 9 "LastLetter$Orders" "breaks" "[B", Cond.arrayClass .byte, Cond.arrayClass .int, Cond.fieldLink RX2 15 "LastLetter$Orders" "starts" "[I", Cond.fieldLink RX2 19 "LastLetter$Orders" "worths" "[I"]
def wsX10_longest_r2 : List Cond := [Cond.methodLink RX2 97 yX2_learnSet, Cond.instanceMethod yX2_learnSet, Cond.selects RX2 yX2_learnSet yX2_learnSet, Cond.code yX2_learnSet cX2_learnSet 7 none, Cond.static yX10_isIn, Cond.initialized RX10, Cond.code yX10_isIn cX10_isIn 2 (some .boolean), Cond.methodLink RX2 67 yX2_breaksBehind, Cond.instanceMethod yX2_breaksBehind, Cond.selects RX2 yX2_breaksBehind yX2_breaksBehind, Cond.code yX2_breaksBehind cX2_breaksBehind 4 (some .int), Cond.static yX10_lowest, Cond.code yX10_lowest cX10_lowest 1 (some .int), Cond.methodLink RX10 261 yJ6_numberOfTrailingZeros_0f7a4, Cond.static yJ6_numberOfTrailingZeros_0f7a4, Cond.initialized RJ6, Cond.code yJ6_numberOfTrailingZeros_0f7a4 cJ6_numberOfTrailingZeros_0f7a4 2 (some .int), Cond.constant RJ6 264 (65536), Cond.methodLink RX2 36 yX8_everyWord, Cond.instanceMethod yX8_everyWord, Cond.selects RX8 yX8_everyWord yX8_everyWord, Cond.code yX8_everyWord cX8_everyWord 1 (some .int), Cond.methodLink RX2 71 yX2_mostWithin, Cond.instanceMethod yX2_mostWithin]
def wsX10_longest_r3 : List Cond := [Cond.selects RX2 yX2_mostWithin yX2_mostWithin, Cond.code yX2_mostWithin cX2_mostWithin 5 (some .int), Cond.methodLink RX2 86 Lib.Math.max.name, Cond.static Lib.Math.max.name, Cond.initialized "java/lang/Math", Cond.code Lib.Math.max.name Lib.Math.max.code 2 (some .int), Cond.methodLink RX2 83 yX2_amount, Cond.instanceMethod yX2_amount, Cond.selects RX2 yX2_amount yX2_amount, Cond.code yX2_amount cX2_amount 3 (some .int), Cond.methodLink RX2 92 yJ6_bitCount_0f7a4, Cond.static yJ6_bitCount_0f7a4, Cond.code yJ6_bitCount_0f7a4 cJ6_bitCount_0f7a4 1 (some .int), Cond.constant RJ6 265 (1431655765), Cond.constant RJ6 266 (858993459), Cond.constant RJ6 267 (252645135), Cond.methodLink RX2 75 yX2_beginnings, Cond.instanceMethod yX2_beginnings, Cond.selects RX2 yX2_beginnings yX2_beginnings, Cond.code yX2_beginnings cX2_beginnings 6 (some .int), Cond.methodLink RX2 58 yX4_add, Cond.instanceMethod yX4_add, Cond.selects RX4 yX4_add yX4_add, Cond.initialized RX4]
def wsX10_longest_r4 : List Cond := [Cond.code yX4_add cX4_add 2 none, Cond.fieldLink RX4 15 "LastLetter$Row" "size" "I", Cond.fieldLink RX4 9 "LastLetter$Row" "items" "[I"]
def wsX10_longest : List Cond := .code yX10_longest cX10_longest 1 (some .int) :: ((wsX10_longest_r1 ++ (wsX10_longest_r2 ++ (wsX10_longest_r3 ++ wsX10_longest_r4))) ++ wsX100 ++ wsX40 ++ wsX80 ++ wsX20)
def wsX10_worthy_r1 : List Cond := [Cond.fieldLink RX10 39 "LastLetter" "row" "LLastLetter$Row;", Cond.fieldLink RX10 81 "LastLetter" "current" "LLastLetter$Tongue;", Cond.fieldLink RX10 53 "LastLetter" "orders" "LLastLetter$Orders;", Cond.methodLink RX10 164 yX8_isTooBig, Cond.instanceMethod yX8_isTooBig, Cond.selects RX8 yX8_isTooBig yX8_isTooBig, Cond.initialized RX8, Cond.code yX8_isTooBig cX8_isTooBig 1 (some .boolean), Cond.fieldLink RX8 52 "LastLetter$Tongue" "words" "I", Cond.methodLink RX10 175 yX2_layMost, Cond.instanceMethod yX2_layMost, Cond.selects RX2 yX2_layMost yX2_layMost, Cond.initialized RX2, Cond.code yX2_layMost cX2_layMost 10 (some .int), Cond.methodLink RX2 32 yX2_learn, Cond.instanceMethod yX2_learn, Cond.selects RX2 yX2_learn yX2_learn, Cond.code yX2_learn cX2_learn 4 none, Cond.fieldLink RX2 25 "LastLetter$Orders" "isKnown" "Z", Cond.fieldLink RX2 9 "LastLetter$Orders" "breaks" "[B", Cond.arrayClass .byte, Cond.arrayClass .int, Cond.fieldLink RX2 15 "LastLetter$Orders" "starts" "[I", Cond.fieldLink RX2 19 "LastLetter$Orders" "worths" "[I"]
def wsX10_worthy_r2 : List Cond := [Cond.methodLink RX2 97 yX2_learnSet, Cond.instanceMethod yX2_learnSet, Cond.selects RX2 yX2_learnSet yX2_learnSet, Cond.code yX2_learnSet cX2_learnSet 7 none, Cond.static yX10_isIn, Cond.initialized RX10, Cond.code yX10_isIn cX10_isIn 2 (some .boolean), Cond.methodLink RX2 67 yX2_breaksBehind, Cond.instanceMethod yX2_breaksBehind, Cond.selects RX2 yX2_breaksBehind yX2_breaksBehind, Cond.code yX2_breaksBehind cX2_breaksBehind 4 (some .int), Cond.static yX10_lowest, Cond.code yX10_lowest cX10_lowest 1 (some .int), Cond.methodLink RX10 261 yJ6_numberOfTrailingZeros_0f7a4, Cond.static yJ6_numberOfTrailingZeros_0f7a4, Cond.initialized RJ6, Cond.code yJ6_numberOfTrailingZeros_0f7a4 cJ6_numberOfTrailingZeros_0f7a4 2 (some .int), Cond.constant RJ6 264 (65536), Cond.methodLink RX2 36 yX8_everyWord, Cond.instanceMethod yX8_everyWord, Cond.selects RX8 yX8_everyWord yX8_everyWord, Cond.code yX8_everyWord cX8_everyWord 1 (some .int), Cond.methodLink RX2 71 yX2_mostWithin, Cond.instanceMethod yX2_mostWithin]
def wsX10_worthy_r3 : List Cond := [Cond.selects RX2 yX2_mostWithin yX2_mostWithin, Cond.code yX2_mostWithin cX2_mostWithin 5 (some .int), Cond.methodLink RX2 86 Lib.Math.max.name, Cond.static Lib.Math.max.name, Cond.initialized "java/lang/Math", Cond.code Lib.Math.max.name Lib.Math.max.code 2 (some .int), Cond.methodLink RX2 83 yX2_amount, Cond.instanceMethod yX2_amount, Cond.selects RX2 yX2_amount yX2_amount, Cond.code yX2_amount cX2_amount 3 (some .int), Cond.methodLink RX2 92 yJ6_bitCount_0f7a4, Cond.static yJ6_bitCount_0f7a4, Cond.code yJ6_bitCount_0f7a4 cJ6_bitCount_0f7a4 1 (some .int), Cond.constant RJ6 265 (1431655765), Cond.constant RJ6 266 (858993459), Cond.constant RJ6 267 (252645135), Cond.methodLink RX2 75 yX2_beginnings, Cond.instanceMethod yX2_beginnings, Cond.selects RX2 yX2_beginnings yX2_beginnings, Cond.code yX2_beginnings cX2_beginnings 6 (some .int), Cond.methodLink RX2 58 yX4_add, Cond.instanceMethod yX4_add, Cond.selects RX4 yX4_add yX4_add, Cond.initialized RX4]
def wsX10_worthy_r4 : List Cond := [Cond.code yX4_add cX4_add 2 none, Cond.fieldLink RX4 15 "LastLetter$Row" "size" "I", Cond.fieldLink RX4 9 "LastLetter$Row" "items" "[I"]
def wsX10_worthy : List Cond := .code yX10_worthy cX10_worthy 1 (some .int) :: ((wsX10_worthy_r1 ++ (wsX10_worthy_r2 ++ (wsX10_worthy_r3 ++ wsX10_worthy_r4))) ++ wsX100 ++ wsX40 ++ wsX80 ++ wsX20)
def wsX10_parted_r1 : List Cond := [Cond.fieldLink RX10 39 "LastLetter" "row" "LLastLetter$Row;", Cond.fieldLink RX10 81 "LastLetter" "current" "LLastLetter$Tongue;", Cond.fieldLink RX10 53 "LastLetter" "orders" "LLastLetter$Orders;", Cond.methodLink RX10 164 yX8_isTooBig, Cond.instanceMethod yX8_isTooBig, Cond.selects RX8 yX8_isTooBig yX8_isTooBig, Cond.initialized RX8, Cond.code yX8_isTooBig cX8_isTooBig 1 (some .boolean), Cond.fieldLink RX8 52 "LastLetter$Tongue" "words" "I", Cond.methodLink RX10 179 yX2_layParts, Cond.instanceMethod yX2_layParts, Cond.selects RX2 yX2_layParts yX2_layParts, Cond.initialized RX2, Cond.code yX2_layParts cX2_layParts 9 (some .int), Cond.fieldLink RX2 9 "LastLetter$Orders" "breaks" "[B", Cond.methodLink RX2 32 yX2_learn, Cond.instanceMethod yX2_learn, Cond.selects RX2 yX2_learn yX2_learn, Cond.code yX2_learn cX2_learn 4 none, Cond.fieldLink RX2 25 "LastLetter$Orders" "isKnown" "Z", Cond.arrayClass .byte, Cond.arrayClass .int, Cond.fieldLink RX2 15 "LastLetter$Orders" "starts" "[I", Cond.fieldLink RX2 19 "LastLetter$Orders" "worths" "[I"]
def wsX10_parted_r2 : List Cond := [Cond.methodLink RX2 97 yX2_learnSet, Cond.instanceMethod yX2_learnSet, Cond.selects RX2 yX2_learnSet yX2_learnSet, Cond.code yX2_learnSet cX2_learnSet 7 none, Cond.static yX10_isIn, Cond.initialized RX10, Cond.code yX10_isIn cX10_isIn 2 (some .boolean), Cond.methodLink RX2 67 yX2_breaksBehind, Cond.instanceMethod yX2_breaksBehind, Cond.selects RX2 yX2_breaksBehind yX2_breaksBehind, Cond.code yX2_breaksBehind cX2_breaksBehind 4 (some .int), Cond.static yX10_lowest, Cond.code yX10_lowest cX10_lowest 1 (some .int), Cond.methodLink RX10 261 yJ6_numberOfTrailingZeros_0f7a4, Cond.static yJ6_numberOfTrailingZeros_0f7a4, Cond.initialized RJ6, Cond.code yJ6_numberOfTrailingZeros_0f7a4 cJ6_numberOfTrailingZeros_0f7a4 2 (some .int), Cond.constant RJ6 264 (65536), Cond.methodLink RX2 36 yX8_everyWord, Cond.instanceMethod yX8_everyWord, Cond.selects RX8 yX8_everyWord yX8_everyWord, Cond.code yX8_everyWord cX8_everyWord 1 (some .int), Cond.methodLink RX2 50 yX2_cheapest, Cond.instanceMethod yX2_cheapest]
def wsX10_parted_r3 : List Cond := [Cond.selects RX2 yX2_cheapest yX2_cheapest, Cond.code yX2_cheapest cX2_cheapest 7 (some .int), Cond.methodLink RX2 58 yX4_add, Cond.instanceMethod yX4_add, Cond.selects RX4 yX4_add yX4_add, Cond.initialized RX4, Cond.code yX4_add cX4_add 2 none, Cond.fieldLink RX4 15 "LastLetter$Row" "size" "I", Cond.fieldLink RX4 9 "LastLetter$Row" "items" "[I"]
def wsX10_parted : List Cond := .code yX10_parted cX10_parted 1 (some .int) :: ((wsX10_parted_r1 ++ (wsX10_parted_r2 ++ wsX10_parted_r3)) ++ wsX100 ++ wsX40 ++ wsX80 ++ wsX20)
def wsX10_missed_r1 : List Cond := [Cond.fieldLink RX10 39 "LastLetter" "row" "LLastLetter$Row;", Cond.fieldLink RX10 81 "LastLetter" "current" "LLastLetter$Tongue;", Cond.fieldLink RX10 53 "LastLetter" "orders" "LLastLetter$Orders;", Cond.methodLink RX10 125 yX8_has, Cond.instanceMethod yX8_has, Cond.selects RX8 yX8_has yX8_has, Cond.initialized RX8, Cond.code yX8_has cX8_has 2 (some .boolean), Cond.fieldLink RX8 52 "LastLetter$Tongue" "words" "I", Cond.methodLink RX10 164 yX8_isTooBig, Cond.instanceMethod yX8_isTooBig, Cond.selects RX8 yX8_isTooBig yX8_isTooBig, Cond.code yX8_isTooBig cX8_isTooBig 1 (some .boolean), Cond.methodLink RX10 183 yX2_lossWithout, Cond.instanceMethod yX2_lossWithout, Cond.selects RX2 yX2_lossWithout yX2_lossWithout, Cond.initialized RX2, Cond.code yX2_lossWithout cX2_lossWithout 4 (some .int), Cond.methodLink RX2 32 yX2_learn, Cond.instanceMethod yX2_learn, Cond.selects RX2 yX2_learn yX2_learn, Cond.code yX2_learn cX2_learn 4 none, Cond.fieldLink RX2 25 "LastLetter$Orders" "isKnown" "Z", Cond.fieldLink RX2 9 "LastLetter$Orders" "breaks" "[B"]
def wsX10_missed_r2 : List Cond := [Cond.arrayClass .byte, Cond.arrayClass .int, Cond.fieldLink RX2 15 "LastLetter$Orders" "starts" "[I", Cond.fieldLink RX2 19 "LastLetter$Orders" "worths" "[I", Cond.methodLink RX2 97 yX2_learnSet, Cond.instanceMethod yX2_learnSet, Cond.selects RX2 yX2_learnSet yX2_learnSet, Cond.code yX2_learnSet cX2_learnSet 7 none, Cond.static yX10_isIn, Cond.initialized RX10, Cond.code yX10_isIn cX10_isIn 2 (some .boolean), Cond.methodLink RX2 67 yX2_breaksBehind, Cond.instanceMethod yX2_breaksBehind, Cond.selects RX2 yX2_breaksBehind yX2_breaksBehind, Cond.code yX2_breaksBehind cX2_breaksBehind 4 (some .int), Cond.static yX10_lowest, Cond.code yX10_lowest cX10_lowest 1 (some .int), Cond.methodLink RX10 261 yJ6_numberOfTrailingZeros_0f7a4, Cond.static yJ6_numberOfTrailingZeros_0f7a4, Cond.initialized RJ6, Cond.code yJ6_numberOfTrailingZeros_0f7a4 cJ6_numberOfTrailingZeros_0f7a4 2 (some .int), Cond.constant RJ6 264 (65536), Cond.methodLink RX2 36 yX8_everyWord, Cond.instanceMethod yX8_everyWord]
def wsX10_missed_r3 : List Cond := [Cond.selects RX8 yX8_everyWord yX8_everyWord, Cond.code yX8_everyWord cX8_everyWord 1 (some .int), Cond.methodLink RX2 71 yX2_mostWithin, Cond.instanceMethod yX2_mostWithin, Cond.selects RX2 yX2_mostWithin yX2_mostWithin, Cond.code yX2_mostWithin cX2_mostWithin 5 (some .int), Cond.methodLink RX2 86 Lib.Math.max.name, Cond.static Lib.Math.max.name, Cond.initialized "java/lang/Math", Cond.code Lib.Math.max.name Lib.Math.max.code 2 (some .int), Cond.methodLink RX2 83 yX2_amount, Cond.instanceMethod yX2_amount, Cond.selects RX2 yX2_amount yX2_amount, Cond.code yX2_amount cX2_amount 3 (some .int), Cond.methodLink RX2 92 yJ6_bitCount_0f7a4, Cond.static yJ6_bitCount_0f7a4, Cond.code yJ6_bitCount_0f7a4 cJ6_bitCount_0f7a4 1 (some .int), Cond.constant RJ6 265 (1431655765), Cond.constant RJ6 266 (858993459), Cond.constant RJ6 267 (252645135)]
def wsX10_missed : List Cond := .code yX10_missed cX10_missed 2 (some .int) :: ((wsX10_missed_r1 ++ (wsX10_missed_r2 ++ wsX10_missed_r3)) ++ wsX100 ++ wsX40 ++ wsX80 ++ wsX20)
def wsX10_lies : List Cond := .code yX10_lies cX10_lies 2 (some .int) :: ([.fieldLink RX10 39 "LastLetter" "row" "LLastLetter$Row;"] ++ wsX100 ++ wsX40)
def wsX10_surplus : List Cond := .code yX10_surplus cX10_surplus 2 (some .int) :: ([.fieldLink RX10 46 "LastLetter" "letters" "LLastLetter$Letters;", .fieldLink RX10 81 "LastLetter" "current" "LLastLetter$Tongue;", .methodLink RX10 192 yX1_balance, .instanceMethod yX1_balance, .selects RX1 yX1_balance yX1_balance, .initialized RX1, .code yX1_balance cX1_balance 5 (some .int)] ++ wsX100 ++ wsX80)
def wsX10_mended_r1 : List Cond := [Cond.fieldLink RX10 46 "LastLetter" "letters" "LLastLetter$Letters;", Cond.fieldLink RX10 81 "LastLetter" "current" "LLastLetter$Tongue;", Cond.methodLink RX10 195 yX1_lacking, Cond.instanceMethod yX1_lacking, Cond.selects RX1 yX1_lacking yX1_lacking, Cond.initialized RX1, Cond.code yX1_lacking cX1_lacking 4 (some .int), Cond.methodLink RX1 42 Lib.Math.max.name, Cond.static Lib.Math.max.name, Cond.initialized "java/lang/Math", Cond.code Lib.Math.max.name Lib.Math.max.code 2 (some .int), Cond.methodLink RX1 30 yX1_gather, Cond.instanceMethod yX1_gather, Cond.selects RX1 yX1_gather yX1_gather, Cond.code yX1_gather cX1_gather 6 none, Cond.fieldLink RX1 9 "LastLetter$Letters" "group" "[I", Cond.methodLink RX1 48 arraycopyName, Cond.native arraycopyName, Cond.static arraycopyName, Cond.initialized "java/lang/System", Cond.methodLink RX1 34 yX1_hasWords, Cond.instanceMethod yX1_hasWords, Cond.selects RX1 yX1_hasWords yX1_hasWords, Cond.code yX1_hasWords cX1_hasWords 4 (some .boolean)]
def wsX10_mended_r2 : List Cond := [Cond.methodLink RX1 38 yX1_surplusOf, Cond.instanceMethod yX1_surplusOf, Cond.selects RX1 yX1_surplusOf yX1_surplusOf, Cond.code yX1_surplusOf cX1_surplusOf 5 (some .int), Cond.methodLink RX1 54 yX1_balance, Cond.instanceMethod yX1_balance, Cond.selects RX1 yX1_balance yX1_balance, Cond.code yX1_balance cX1_balance 5 (some .int)]
def wsX10_mended : List Cond := .code yX10_mended cX10_mended 1 (some .int) :: ((wsX10_mended_r1 ++ wsX10_mended_r2) ++ wsX100 ++ wsX80 ++ wsX10)
def wsX10_join_r1 : List Cond := [Cond.fieldLink RX10 39 "LastLetter" "row" "LLastLetter$Row;", Cond.fieldLink RX10 81 "LastLetter" "current" "LLastLetter$Tongue;", Cond.fieldLink RX10 60 "LastLetter" "search" "LLastLetter$Search;", Cond.methodLink RX10 125 yX8_has, Cond.instanceMethod yX8_has, Cond.selects RX8 yX8_has yX8_has, Cond.initialized RX8, Cond.code yX8_has cX8_has 2 (some .boolean), Cond.fieldLink RX8 52 "LastLetter$Tongue" "words" "I", Cond.methodLink RX10 198 yX5_layJoin, Cond.instanceMethod yX5_layJoin, Cond.selects RX5 yX5_layJoin yX5_layJoin, Cond.initialized RX5, Cond.code yX5_layJoin cX5_layJoin 6 (some .int), Cond.fieldLink RX5 25 "LastLetter$Search" "queued" "I", Cond.fieldLink RX5 15 "LastLetter$Search" "queue" "[I", Cond.methodLink RX5 18 yX5_begin, Cond.instanceMethod yX5_begin, Cond.selects RX5 yX5_begin yX5_begin, Cond.code yX5_begin cX5_begin 1 none, Cond.fieldLink RX5 9 "LastLetter$Search" "ahead" "[I", Cond.methodLink RX5 45 yJ7_fill_53178, Cond.static yJ7_fill_53178, Cond.initialized RJ7]
def wsX10_join_r2 : List Cond := [Cond.code yJ7_fill_53178 cJ7_fill_53178 4 none, Cond.methodLink RX5 21 yX5_enter, Cond.instanceMethod yX5_enter, Cond.selects RX5 yX5_enter yX5_enter, Cond.code yX5_enter cX5_enter 9 none, Cond.static yX10_isIn, Cond.initialized RX10, Cond.code yX10_isIn cX10_isIn 2 (some .boolean), Cond.methodLink RX5 58 yX8_doneBehind, Cond.instanceMethod yX8_doneBehind, Cond.selects RX8 yX8_doneBehind yX8_doneBehind, Cond.code yX8_doneBehind cX8_doneBehind 5 (some .int), Cond.fieldLink RX8 34 "LastLetter$Tongue" "errandOf" "[I", Cond.fieldLink RX8 37 "LastLetter$Tongue" "errandAfter" "[I", Cond.methodLink RX5 29 yX5_lay, Cond.instanceMethod yX5_lay, Cond.selects RX5 yX5_lay yX5_lay, Cond.code yX5_lay cX5_lay 5 (some .int), Cond.methodLink RX5 62 yX4_add, Cond.instanceMethod yX4_add, Cond.selects RX4 yX4_add yX4_add, Cond.initialized RX4, Cond.code yX4_add cX4_add 2 none, Cond.fieldLink RX4 15 "LastLetter$Row" "size" "I"]
def wsX10_join_r3 : List Cond := [Cond.fieldLink RX4 9 "LastLetter$Row" "items" "[I", Cond.methodLink RX5 68 yX4_turn, Cond.instanceMethod yX4_turn, Cond.selects RX4 yX4_turn yX4_turn, Cond.code yX4_turn cX4_turn 4 none]
def wsX10_join : List Cond := .code yX10_join cX10_join 3 (some .int) :: ((wsX10_join_r1 ++ (wsX10_join_r2 ++ wsX10_join_r3)) ++ wsX100 ++ wsX40 ++ wsX80 ++ wsX50)
def wsX10_telling_r1 : List Cond := [Cond.fieldLink RX10 39 "LastLetter" "row" "LLastLetter$Row;", Cond.fieldLink RX10 81 "LastLetter" "current" "LLastLetter$Tongue;", Cond.fieldLink RX10 60 "LastLetter" "search" "LLastLetter$Search;", Cond.methodLink RX10 205 yX5_layTelling, Cond.instanceMethod yX5_layTelling, Cond.selects RX5 yX5_layTelling yX5_layTelling, Cond.initialized RX5, Cond.code yX5_layTelling cX5_layTelling 5 (some .int), Cond.fieldLink RX5 25 "LastLetter$Search" "queued" "I", Cond.fieldLink RX5 15 "LastLetter$Search" "queue" "[I", Cond.methodLink RX5 18 yX5_begin, Cond.instanceMethod yX5_begin, Cond.selects RX5 yX5_begin yX5_begin, Cond.code yX5_begin cX5_begin 1 none, Cond.fieldLink RX5 9 "LastLetter$Search" "ahead" "[I", Cond.methodLink RX5 45 yJ7_fill_53178, Cond.static yJ7_fill_53178, Cond.initialized RJ7, Cond.code yJ7_fill_53178 cJ7_fill_53178 4 none, Cond.methodLink RX5 41 yX8_everyWord, Cond.instanceMethod yX8_everyWord, Cond.selects RX8 yX8_everyWord yX8_everyWord, Cond.initialized RX8, Cond.code yX8_everyWord cX8_everyWord 1 (some .int)]
def wsX10_telling_r2 : List Cond := [Cond.fieldLink RX8 52 "LastLetter$Tongue" "words" "I", Cond.methodLink RX5 21 yX5_enter, Cond.instanceMethod yX5_enter, Cond.selects RX5 yX5_enter yX5_enter, Cond.code yX5_enter cX5_enter 9 none, Cond.static yX10_isIn, Cond.initialized RX10, Cond.code yX10_isIn cX10_isIn 2 (some .boolean), Cond.methodLink RX5 58 yX8_doneBehind, Cond.instanceMethod yX8_doneBehind, Cond.selects RX8 yX8_doneBehind yX8_doneBehind, Cond.code yX8_doneBehind cX8_doneBehind 5 (some .int), Cond.fieldLink RX8 34 "LastLetter$Tongue" "errandOf" "[I", Cond.fieldLink RX8 37 "LastLetter$Tongue" "errandAfter" "[I", Cond.methodLink RX5 29 yX5_lay, Cond.instanceMethod yX5_lay, Cond.selects RX5 yX5_lay yX5_lay, Cond.code yX5_lay cX5_lay 5 (some .int), Cond.methodLink RX5 62 yX4_add, Cond.instanceMethod yX4_add, Cond.selects RX4 yX4_add yX4_add, Cond.initialized RX4, Cond.code yX4_add cX4_add 2 none, Cond.fieldLink RX4 15 "LastLetter$Row" "size" "I"]
def wsX10_telling_r3 : List Cond := [Cond.fieldLink RX4 9 "LastLetter$Row" "items" "[I", Cond.methodLink RX5 68 yX4_turn, Cond.instanceMethod yX4_turn, Cond.selects RX4 yX4_turn yX4_turn, Cond.code yX4_turn cX4_turn 4 none]
def wsX10_telling : List Cond := .code yX10_telling cX10_telling 1 (some .int) :: ((wsX10_telling_r1 ++ (wsX10_telling_r2 ++ wsX10_telling_r3)) ++ wsX100 ++ wsX40 ++ wsX80 ++ wsX50)
def wsX10_game_r1 : List Cond := [Cond.fieldLink RX10 81 "LastLetter" "current" "LLastLetter$Tongue;", Cond.fieldLink RX10 67 "LastLetter" "games" "LLastLetter$Games;", Cond.methodLink RX10 125 yX8_has, Cond.instanceMethod yX8_has, Cond.selects RX8 yX8_has yX8_has, Cond.initialized RX8, Cond.code yX8_has cX8_has 2 (some .boolean), Cond.fieldLink RX8 52 "LastLetter$Tongue" "words" "I", Cond.methodLink RX10 164 yX8_isTooBig, Cond.instanceMethod yX8_isTooBig, Cond.selects RX8 yX8_isTooBig yX8_isTooBig, Cond.code yX8_isTooBig cX8_isTooBig 1 (some .boolean), Cond.methodLink RX10 208 yX0_isWon, Cond.instanceMethod yX0_isWon, Cond.selects RX0 yX0_isWon yX0_isWon, Cond.initialized RX0, Cond.code yX0_isWon cX0_isWon 3 (some .boolean), Cond.fieldLink RX0 9 "LastLetter$Games" "won" "[I", Cond.methodLink RX0 33 yX0_learnWon, Cond.instanceMethod yX0_learnWon, Cond.selects RX0 yX0_learnWon yX0_learnWon, Cond.code yX0_learnWon cX0_learnWon 6 none, Cond.fieldLink RX0 23 "LastLetter$Games" "isWonKnown" "Z", Cond.arrayClass .int]
def wsX10_game_r2 : List Cond := [Cond.static yX10_isIn, Cond.initialized RX10, Cond.code yX10_isIn cX10_isIn 2 (some .boolean), Cond.methodLink RX0 54 yX0_isLostBehind, Cond.instanceMethod yX0_isLostBehind, Cond.selects RX0 yX0_isLostBehind yX0_isLostBehind, Cond.code yX0_isLostBehind cX0_isLostBehind 3 (some .boolean), Cond.methodLink RX0 37 yX8_everyWord, Cond.instanceMethod yX8_everyWord, Cond.selects RX8 yX8_everyWord yX8_everyWord, Cond.code yX8_everyWord cX8_everyWord 1 (some .int)]
def wsX10_game : List Cond := .code yX10_game cX10_game 2 (some .int) :: ((wsX10_game_r1 ++ wsX10_game_r2) ++ wsX100 ++ wsX80 ++ wsX00)
def wsX10_wins_r1 : List Cond := [Cond.fieldLink RX10 81 "LastLetter" "current" "LLastLetter$Tongue;", Cond.fieldLink RX10 67 "LastLetter" "games" "LLastLetter$Games;", Cond.methodLink RX10 125 yX8_has, Cond.instanceMethod yX8_has, Cond.selects RX8 yX8_has yX8_has, Cond.initialized RX8, Cond.code yX8_has cX8_has 2 (some .boolean), Cond.fieldLink RX8 52 "LastLetter$Tongue" "words" "I", Cond.methodLink RX10 164 yX8_isTooBig, Cond.instanceMethod yX8_isTooBig, Cond.selects RX8 yX8_isTooBig yX8_isTooBig, Cond.code yX8_isTooBig cX8_isTooBig 1 (some .boolean), Cond.methodLink RX10 212 yX0_firstWinning, Cond.instanceMethod yX0_firstWinning, Cond.selects RX0 yX0_firstWinning yX0_firstWinning, Cond.initialized RX0, Cond.code yX0_firstWinning cX0_firstWinning 6 (some .int), Cond.methodLink RX0 33 yX0_learnWon, Cond.instanceMethod yX0_learnWon, Cond.selects RX0 yX0_learnWon yX0_learnWon, Cond.code yX0_learnWon cX0_learnWon 6 none, Cond.fieldLink RX0 23 "LastLetter$Games" "isWonKnown" "Z", Cond.fieldLink RX0 9 "LastLetter$Games" "won" "[I", Cond.arrayClass .int]
def wsX10_wins_r2 : List Cond := [Cond.static yX10_isIn, Cond.initialized RX10, Cond.code yX10_isIn cX10_isIn 2 (some .boolean), Cond.methodLink RX0 54 yX0_isLostBehind, Cond.instanceMethod yX0_isLostBehind, Cond.selects RX0 yX0_isLostBehind yX0_isLostBehind, Cond.code yX0_isLostBehind cX0_isLostBehind 3 (some .boolean), Cond.methodLink RX0 37 yX8_everyWord, Cond.instanceMethod yX8_everyWord, Cond.selects RX8 yX8_everyWord yX8_everyWord, Cond.code yX8_everyWord cX8_everyWord 1 (some .int)]
def wsX10_wins : List Cond := .code yX10_wins cX10_wins 2 (some .int) :: ((wsX10_wins_r1 ++ wsX10_wins_r2) ++ wsX100 ++ wsX80 ++ wsX00)
def wsX10_deep_r1 : List Cond := [Cond.fieldLink RX10 81 "LastLetter" "current" "LLastLetter$Tongue;", Cond.fieldLink RX10 67 "LastLetter" "games" "LLastLetter$Games;", Cond.methodLink RX10 125 yX8_has, Cond.instanceMethod yX8_has, Cond.selects RX8 yX8_has yX8_has, Cond.initialized RX8, Cond.code yX8_has cX8_has 2 (some .boolean), Cond.fieldLink RX8 52 "LastLetter$Tongue" "words" "I", Cond.methodLink RX10 164 yX8_isTooBig, Cond.instanceMethod yX8_isTooBig, Cond.selects RX8 yX8_isTooBig yX8_isTooBig, Cond.code yX8_isTooBig cX8_isTooBig 1 (some .boolean), Cond.methodLink RX10 215 yX0_lengthBehind, Cond.instanceMethod yX0_lengthBehind, Cond.selects RX0 yX0_lengthBehind yX0_lengthBehind, Cond.initialized RX0, Cond.code yX0_lengthBehind cX0_lengthBehind 3 (some .int), Cond.methodLink RX0 57 yX0_learnDepths, Cond.instanceMethod yX0_learnDepths, Cond.selects RX0 yX0_learnDepths yX0_learnDepths, Cond.code yX0_learnDepths cX0_learnDepths 8 none, Cond.fieldLink RX0 27 "LastLetter$Games" "isDepthKnown" "Z", Cond.fieldLink RX0 15 "LastLetter$Games" "depths" "[J", Cond.arrayClass .long]
def wsX10_deep_r2 : List Cond := [Cond.fieldLink RX0 9 "LastLetter$Games" "won" "[I", Cond.methodLink RX0 33 yX0_learnWon, Cond.instanceMethod yX0_learnWon, Cond.selects RX0 yX0_learnWon yX0_learnWon, Cond.code yX0_learnWon cX0_learnWon 6 none, Cond.fieldLink RX0 23 "LastLetter$Games" "isWonKnown" "Z", Cond.arrayClass .int, Cond.static yX10_isIn, Cond.initialized RX10, Cond.code yX10_isIn cX10_isIn 2 (some .boolean), Cond.methodLink RX0 54 yX0_isLostBehind, Cond.instanceMethod yX0_isLostBehind, Cond.selects RX0 yX0_isLostBehind yX0_isLostBehind, Cond.code yX0_isLostBehind cX0_isLostBehind 3 (some .boolean), Cond.methodLink RX0 70 yX0_bestDepth, Cond.instanceMethod yX0_bestDepth, Cond.selects RX0 yX0_bestDepth yX0_bestDepth, Cond.code yX0_bestDepth cX0_bestDepth 7 (some .int), Cond.methodLink RX0 60 yX0_depth, Cond.instanceMethod yX0_depth, Cond.selects RX0 yX0_depth yX0_depth, Cond.code yX0_depth cX0_depth 3 (some .int), Cond.methodLink RX0 37 yX8_everyWord, Cond.instanceMethod yX8_everyWord]
def wsX10_deep_r3 : List Cond := [Cond.selects RX8 yX8_everyWord yX8_everyWord, Cond.code yX8_everyWord cX8_everyWord 1 (some .int)]
def wsX10_deep : List Cond := .code yX10_deep cX10_deep 2 (some .int) :: ((wsX10_deep_r1 ++ (wsX10_deep_r2 ++ wsX10_deep_r3)) ++ wsX100 ++ wsX80 ++ wsX00)
def wsX10_score_r1 : List Cond := [Cond.fieldLink RX10 81 "LastLetter" "current" "LLastLetter$Tongue;", Cond.fieldLink RX10 67 "LastLetter" "games" "LLastLetter$Games;", Cond.methodLink RX10 125 yX8_has, Cond.instanceMethod yX8_has, Cond.selects RX8 yX8_has yX8_has, Cond.initialized RX8, Cond.code yX8_has cX8_has 2 (some .boolean), Cond.fieldLink RX8 52 "LastLetter$Tongue" "words" "I", Cond.methodLink RX10 164 yX8_isTooBig, Cond.instanceMethod yX8_isTooBig, Cond.selects RX8 yX8_isTooBig yX8_isTooBig, Cond.code yX8_isTooBig cX8_isTooBig 1 (some .boolean), Cond.methodLink RX10 218 yX0_gainBehind, Cond.instanceMethod yX0_gainBehind, Cond.selects RX0 yX0_gainBehind yX0_gainBehind, Cond.initialized RX0, Cond.code yX0_gainBehind cX0_gainBehind 3 (some .int), Cond.fieldLink RX0 19 "LastLetter$Games" "gains" "[S", Cond.methodLink RX0 64 yX0_learnGains, Cond.instanceMethod yX0_learnGains, Cond.selects RX0 yX0_learnGains yX0_learnGains, Cond.code yX0_learnGains cX0_learnGains 5 none, Cond.fieldLink RX0 30 "LastLetter$Games" "isGainKnown" "Z", Cond.arrayClass .short]
def wsX10_score_r2 : List Cond := [Cond.static yX10_isIn, Cond.initialized RX10, Cond.code yX10_isIn cX10_isIn 2 (some .boolean), Cond.methodLink RX0 74 yX0_bestGain, Cond.instanceMethod yX0_bestGain, Cond.selects RX0 yX0_bestGain yX0_bestGain, Cond.code yX0_bestGain cX0_bestGain 8 (some .int), Cond.methodLink RX0 37 yX8_everyWord, Cond.instanceMethod yX8_everyWord, Cond.selects RX8 yX8_everyWord yX8_everyWord, Cond.code yX8_everyWord cX8_everyWord 1 (some .int)]
def wsX10_score : List Cond := .code yX10_score cX10_score 2 (some .int) :: ((wsX10_score_r1 ++ wsX10_score_r2) ++ wsX100 ++ wsX80 ++ wsX00)
def wsX10_done : List Cond := .code yX10_done cX10_done 1 (some .int) :: ([.fieldLink RX10 28 "LastLetter" "present" "LLastLetter$Talk;"] ++ wsX100 ++ wsX60)
def wsX10_again : List Cond := .code yX10_again cX10_again 2 (some .int) :: ([.fieldLink RX10 81 "LastLetter" "current" "LLastLetter$Tongue;", .fieldLink RX10 67 "LastLetter" "games" "LLastLetter$Games;", .methodLink RX10 125 yX8_has, .instanceMethod yX8_has, .selects RX8 yX8_has yX8_has, .initialized RX8, .code yX8_has cX8_has 2 (some .boolean), .fieldLink RX8 52 "LastLetter$Tongue" "words" "I", .methodLink RX10 224 yX0_endless, .instanceMethod yX0_endless, .selects RX0 yX0_endless yX0_endless, .initialized RX0, .code yX0_endless cX0_endless 7 (some .int), .static yX10_isIn, .initialized RX10, .code yX10_isIn cX10_isIn 2 (some .boolean)] ++ wsX100 ++ wsX80)
def wsX10_dead : List Cond := .code yX10_dead cX10_dead 3 (some .int) :: ([.fieldLink RX10 81 "LastLetter" "current" "LLastLetter$Tongue;"] ++ wsX100 ++ wsX80)
def wsX10_hear : List Cond := .code yX10_hear cX10_hear 5 (some .int) :: ([.fieldLink RX10 81 "LastLetter" "current" "LLastLetter$Tongue;", .fieldLink RX10 74 "LastLetter" "wall" "LLastLetter$Wall;", .methodLink RX10 227 yX9_add, .instanceMethod yX9_add, .selects RX9 yX9_add yX9_add, .initialized RX9, .code yX9_add cX9_add 5 (some .int), .fieldLink RX9 37 "LastLetter$Wall" "sounds" "I", .fieldLink RX9 9 "LastLetter$Wall" "places" "[I", .fieldLink RX9 15 "LastLetter$Wall" "kinds" "[I", .fieldLink RX9 18 "LastLetter$Wall" "values" "[I", .fieldLink RX9 21 "LastLetter$Wall" "toldAt" "[I", .fieldLink RX9 41 "LastLetter$Wall" "time" "I", .fieldLink RX9 24 "LastLetter$Wall" "untoldAt" "[I"] ++ wsX100 ++ wsX80 ++ wsX90)
def wsX10_untell : List Cond := .code yX10_untell cX10_untell 2 (some .boolean) :: ([.fieldLink RX10 74 "LastLetter" "wall" "LLastLetter$Wall;", .methodLink RX10 231 yX9_takeBack, .instanceMethod yX9_takeBack, .selects RX9 yX9_takeBack yX9_takeBack, .initialized RX9, .code yX9_takeBack cX9_takeBack 2 (some .boolean), .fieldLink RX9 37 "LastLetter$Wall" "sounds" "I", .fieldLink RX9 24 "LastLetter$Wall" "untoldAt" "[I", .fieldLink RX9 41 "LastLetter$Wall" "time" "I"] ++ wsX100 ++ wsX90)
def wsX10_later : List Cond := .code yX10_later cX10_later 2 (some .int) :: ([.fieldLink RX10 74 "LastLetter" "wall" "LLastLetter$Wall;", .constant RX10 237 (100000)] ++ wsX100 ++ wsX90)
def wsX10_fits_r1 : List Cond := [Cond.constantLong RX10 238 (-1), Cond.fieldLink RX10 74 "LastLetter" "wall" "LLastLetter$Wall;", Cond.fieldLink RX10 81 "LastLetter" "current" "LLastLetter$Tongue;", Cond.methodLink RX10 240 yX9_countRows, Cond.instanceMethod yX9_countRows, Cond.selects RX9 yX9_countRows yX9_countRows, Cond.initialized RX9, Cond.code yX9_countRows cX9_countRows 7 (some .long), Cond.fieldLink RX9 30 "LastLetter$Wall" "rows" "[J", Cond.fieldLink RX9 27 "LastLetter$Wall" "standing" "[I", Cond.fieldLink RX9 34 "LastLetter$Wall" "longer" "[J", Cond.constantLong RX9 61 (1000000000000), Cond.methodLink RX9 63 Lib.MathLoose.min_long.x, Cond.static Lib.MathLoose.min_long.x, Cond.initialized "java/lang/Math", Cond.code Lib.MathLoose.min_long.x Lib.MathLoose.min_long.code 4 (some .long), Cond.methodLink RX9 44 yX9_narrow, Cond.instanceMethod yX9_narrow, Cond.selects RX9 yX9_narrow yX9_narrow, Cond.code yX9_narrow cX9_narrow 5 none, Cond.fieldLink RX9 37 "LastLetter$Wall" "sounds" "I", Cond.fieldLink RX9 24 "LastLetter$Wall" "untoldAt" "[I", Cond.fieldLink RX9 21 "LastLetter$Wall" "toldAt" "[I", Cond.fieldLink RX9 9 "LastLetter$Wall" "places" "[I"]
def wsX10_fits_r2 : List Cond := [Cond.fieldLink RX9 15 "LastLetter$Wall" "kinds" "[I", Cond.fieldLink RX9 18 "LastLetter$Wall" "values" "[I", Cond.methodLink RX9 79 yX8_everyWord, Cond.instanceMethod yX8_everyWord, Cond.selects RX8 yX8_everyWord yX8_everyWord, Cond.initialized RX8, Cond.code yX8_everyWord cX8_everyWord 1 (some .int), Cond.fieldLink RX8 52 "LastLetter$Tongue" "words" "I", Cond.methodLink RX9 83 yJ7_fill_53178, Cond.static yJ7_fill_53178, Cond.initialized RJ7, Cond.code yJ7_fill_53178 cJ7_fill_53178 4 none, Cond.methodLink RX9 89 yX9_wordsOf, Cond.instanceMethod yX9_wordsOf, Cond.selects RX9 yX9_wordsOf yX9_wordsOf, Cond.code yX9_wordsOf cX9_wordsOf 7 (some .int), Cond.static yX10_isIn, Cond.initialized RX10, Cond.code yX10_isIn cX10_isIn 2 (some .boolean), Cond.methodLink RX9 57 yX9_rowsInto, Cond.instanceMethod yX9_rowsInto, Cond.selects RX9 yX9_rowsInto yX9_rowsInto, Cond.code yX9_rowsInto cX9_rowsInto 6 (some .long)]
def wsX10_fits : List Cond := .code yX10_fits cX10_fits 3 (some .long) :: ((wsX10_fits_r1 ++ wsX10_fits_r2) ++ wsX100 ++ wsX80 ++ wsX90)
def wsX10_can_r1 : List Cond := [Cond.fieldLink RX10 74 "LastLetter" "wall" "LLastLetter$Wall;", Cond.fieldLink RX10 81 "LastLetter" "current" "LLastLetter$Tongue;", Cond.methodLink RX10 244 yX9_standAt, Cond.instanceMethod yX9_standAt, Cond.selects RX9 yX9_standAt yX9_standAt, Cond.initialized RX9, Cond.code yX9_standAt cX9_standAt 6 (some .int), Cond.fieldLink RX9 27 "LastLetter$Wall" "standing" "[I", Cond.methodLink RX9 44 yX9_narrow, Cond.instanceMethod yX9_narrow, Cond.selects RX9 yX9_narrow yX9_narrow, Cond.code yX9_narrow cX9_narrow 5 none, Cond.fieldLink RX9 37 "LastLetter$Wall" "sounds" "I", Cond.fieldLink RX9 24 "LastLetter$Wall" "untoldAt" "[I", Cond.fieldLink RX9 21 "LastLetter$Wall" "toldAt" "[I", Cond.fieldLink RX9 9 "LastLetter$Wall" "places" "[I", Cond.fieldLink RX9 15 "LastLetter$Wall" "kinds" "[I", Cond.fieldLink RX9 18 "LastLetter$Wall" "values" "[I", Cond.methodLink RX9 79 yX8_everyWord, Cond.instanceMethod yX8_everyWord, Cond.selects RX8 yX8_everyWord yX8_everyWord, Cond.initialized RX8, Cond.code yX8_everyWord cX8_everyWord 1 (some .int), Cond.fieldLink RX8 52 "LastLetter$Tongue" "words" "I"]
def wsX10_can_r2 : List Cond := [Cond.methodLink RX9 83 yJ7_fill_53178, Cond.static yJ7_fill_53178, Cond.initialized RJ7, Cond.code yJ7_fill_53178 cJ7_fill_53178 4 none, Cond.methodLink RX9 89 yX9_wordsOf, Cond.instanceMethod yX9_wordsOf, Cond.selects RX9 yX9_wordsOf yX9_wordsOf, Cond.code yX9_wordsOf cX9_wordsOf 7 (some .int), Cond.methodLink RX9 75 yX9_gathered, Cond.instanceMethod yX9_gathered, Cond.selects RX9 yX9_gathered yX9_gathered, Cond.code yX9_gathered cX9_gathered 6 (some .int), Cond.static yX10_isIn, Cond.initialized RX10, Cond.code yX10_isIn cX10_isIn 2 (some .boolean)]
def wsX10_can : List Cond := .code yX10_can cX10_can 4 (some .int) :: ((wsX10_can_r1 ++ wsX10_can_r2) ++ wsX100 ++ wsX90 ++ wsX80)
def wsX10_seed : List Cond := .code yX10_seed cX10_seed 3 (some .int) :: ([.fieldLink RX10 28 "LastLetter" "present" "LLastLetter$Talk;"] ++ wsX100 ++ wsX60)
def wsX10_image : List Cond := .code yX10_image cX10_image 2 (some .int) :: ([.fieldLink RX10 32 "LastLetter" "boxes" "[LLastLetter$Talk;", .fieldLink RX10 28 "LastLetter" "present" "LLastLetter$Talk;", .methodLink RX10 251 yX6_copy, .instanceMethod yX6_copy, .selects RX6 yX6_copy yX6_copy, .initialized RX6, .code yX6_copy cX6_copy 2 none, .fieldLink RX6 9 "LastLetter$Talk" "said" "[I", .methodLink RX6 40 arraycopyName, .native arraycopyName, .static arraycopyName, .initialized "java/lang/System", .fieldLink RX6 15 "LastLetter$Talk" "latest" "I", .fieldLink RX6 37 "LastLetter$Talk" "spoken" "I", .fieldLink RX6 28 "LastLetter$Talk" "earned" "I", .fieldLink RX6 31 "LastLetter$Talk" "doneErrands" "I", .fieldLink RX6 19 "LastLetter$Talk" "w" "I"] ++ wsX100 ++ wsX60)
def wsX10_back : List Cond := .code yX10_back cX10_back 2 (some .int) :: ([.fieldLink RX10 32 "LastLetter" "boxes" "[LLastLetter$Talk;", .fieldLink RX10 28 "LastLetter" "present" "LLastLetter$Talk;", .methodLink RX10 251 yX6_copy, .instanceMethod yX6_copy, .selects RX6 yX6_copy yX6_copy, .initialized RX6, .code yX6_copy cX6_copy 2 none, .fieldLink RX6 9 "LastLetter$Talk" "said" "[I", .methodLink RX6 40 arraycopyName, .native arraycopyName, .static arraycopyName, .initialized "java/lang/System", .fieldLink RX6 15 "LastLetter$Talk" "latest" "I", .fieldLink RX6 37 "LastLetter$Talk" "spoken" "I", .fieldLink RX6 28 "LastLetter$Talk" "earned" "I", .fieldLink RX6 31 "LastLetter$Talk" "doneErrands" "I", .fieldLink RX6 19 "LastLetter$Talk" "w" "I"] ++ wsX100 ++ wsX60)
def wsX10_about : List Cond := .code yX10_about cX10_about 2 (some .int) :: ([.fieldLink RX10 81 "LastLetter" "current" "LLastLetter$Tongue;", .fieldLink RX10 28 "LastLetter" "present" "LLastLetter$Talk;", .fieldLink RX10 74 "LastLetter" "wall" "LLastLetter$Wall;", .fieldLink RX10 12 "LastLetter" "tape" "LLastLetter$Tape;", .fieldLink RX10 39 "LastLetter" "row" "LLastLetter$Row;"] ++ wsX100 ++ wsX80 ++ wsX60 ++ wsX90 ++ wsX70 ++ wsX40)
def wsX11_clearBank : List Cond := .code yX11_clearBank cX11_clearBank 2 none :: ([.fieldLink RX11 20 "LastLetterModel" "words" "[I", .fieldLink RX11 182 "LastLetterModel" "rb" "I", .fieldLink RX11 24 "LastLetterModel" "errands" "[I", .fieldLink RX11 27 "LastLetterModel" "alikes" "[I", .fieldLink RX11 30 "LastLetterModel" "law" "[I", .fieldLink RX11 48 "LastLetterModel" "isLaw" "[Z", .fieldLink RX11 45 "LastLetterModel" "sound" "[I"] ++ wsX110)
def wsX11_wordMany : List Cond := .code yX11_wordMany cX11_wordMany 1 (some .int) :: ([.fieldLink RX11 20 "LastLetterModel" "words" "[I", .fieldLink RX11 188 "LastLetterModel" "bank" "I"] ++ wsX110)
def wsX11_soundOf : List Cond := .code yX11_soundOf cX11_soundOf 4 (some .int) :: ([.fieldLink RX11 59 "LastLetterModel" "lengths" "[I", .fieldLink RX11 45 "LastLetterModel" "sound" "[I", .fieldLink RX11 188 "LastLetterModel" "bank" "I", .fieldLink RX11 52 "LastLetterModel" "wName" "[J", .constantLong RX11 264 (255)] ++ wsX110)
def wsX11_mayFollow : List Cond := .code yX11_mayFollow cX11_mayFollow 4 (some .boolean) :: ([.fieldLink RX11 30 "LastLetterModel" "law" "[I", .fieldLink RX11 188 "LastLetterModel" "bank" "I", .fieldLink RX11 59 "LastLetterModel" "lengths" "[I", .methodLink RX11 266 yX11_soundOf, .instanceMethod yX11_soundOf, .selects RX11 yX11_soundOf yX11_soundOf, .initialized RX11, .code yX11_soundOf cX11_soundOf 4 (some .int), .fieldLink RX11 45 "LastLetterModel" "sound" "[I", .fieldLink RX11 52 "LastLetterModel" "wName" "[J", .constantLong RX11 264 (255)] ++ wsX110)
def wsX11_layFollow : List Cond := .code yX11_layFollow cX11_layFollow 4 none :: ([.fieldLink RX11 59 "LastLetterModel" "lengths" "[I", .fieldLink RX11 52 "LastLetterModel" "wName" "[J", .fieldLink RX11 188 "LastLetterModel" "bank" "I", .fieldLink RX11 56 "LastLetterModel" "follow" "[I", .methodLink RX11 257 yX11_wordMany, .instanceMethod yX11_wordMany, .selects RX11 yX11_wordMany yX11_wordMany, .initialized RX11, .code yX11_wordMany cX11_wordMany 1 (some .int), .fieldLink RX11 20 "LastLetterModel" "words" "[I", .methodLink RX11 269 yX11_mayFollow, .instanceMethod yX11_mayFollow, .selects RX11 yX11_mayFollow yX11_mayFollow, .code yX11_mayFollow cX11_mayFollow 4 (some .boolean), .fieldLink RX11 30 "LastLetterModel" "law" "[I", .methodLink RX11 266 yX11_soundOf, .instanceMethod yX11_soundOf, .selects RX11 yX11_soundOf yX11_soundOf, .code yX11_soundOf cX11_soundOf 4 (some .int), .fieldLink RX11 45 "LastLetterModel" "sound" "[I", .constantLong RX11 264 (255)] ++ wsX110)
def wsX11_begin : List Cond := .code yX11_begin cX11_begin 2 none :: ([.fieldLink RX11 62 "LastLetterModel" "said" "[I", .fieldLink RX11 276 "LastLetterModel" "latest" "I", .fieldLink RX11 279 "LastLetterModel" "talked" "I", .fieldLink RX11 282 "LastLetterModel" "sum" "I", .fieldLink RX11 285 "LastLetterModel" "doneSet" "I"] ++ wsX110)
def wsX11_init_r1 : List Cond := [Cond.methodLink RX11 1 objectInit, Cond.instanceMethod objectInit, Cond.code objectInit ⟨#[0xb1]⟩ 1 none, Cond.arrayClass .byte, Cond.fieldLink RX11 7 "LastLetterModel" "tape" "[B", Cond.fieldLink RX11 13 "LastLetterModel" "text" "[B", Cond.fieldLink RX11 16 "LastLetterModel" "faultPlace" "I", Cond.arrayClass .int, Cond.fieldLink RX11 20 "LastLetterModel" "words" "[I", Cond.fieldLink RX11 24 "LastLetterModel" "errands" "[I", Cond.fieldLink RX11 27 "LastLetterModel" "alikes" "[I", Cond.fieldLink RX11 30 "LastLetterModel" "law" "[I", Cond.fieldLink RX11 33 "LastLetterModel" "worth" "[I", Cond.fieldLink RX11 36 "LastLetterModel" "times" "[I", Cond.fieldLink RX11 39 "LastLetterModel" "eWord" "[I", Cond.fieldLink RX11 42 "LastLetterModel" "eAfter" "[I", Cond.fieldLink RX11 45 "LastLetterModel" "sound" "[I", Cond.arrayClass .boolean, Cond.fieldLink RX11 48 "LastLetterModel" "isLaw" "[Z", Cond.arrayClass .long, Cond.fieldLink RX11 52 "LastLetterModel" "wName" "[J", Cond.fieldLink RX11 56 "LastLetterModel" "follow" "[I", Cond.fieldLink RX11 59 "LastLetterModel" "lengths" "[I", Cond.fieldLink RX11 62 "LastLetterModel" "said" "[I"]
def wsX11_init_r2 : List Cond := [Cond.fieldLink RX11 65 "LastLetterModel" "w" "I", Cond.constant RX11 68 (229376), Cond.fieldLink RX11 69 "LastLetterModel" "more" "[I", Cond.fieldLink RX11 72 "LastLetterModel" "laidRow" "[I", Cond.fieldLink RX11 75 "LastLetterModel" "piece" "[I", Cond.fieldLink RX11 78 "LastLetterModel" "far" "[I", Cond.fieldLink RX11 81 "LastLetterModel" "steps" "[I", Cond.fieldLink RX11 84 "LastLetterModel" "ends" "[I", Cond.fieldLink RX11 87 "LastLetterModel" "hPlace" "[I", Cond.fieldLink RX11 90 "LastLetterModel" "hWhat" "[I", Cond.fieldLink RX11 93 "LastLetterModel" "hValue" "[I", Cond.fieldLink RX11 96 "LastLetterModel" "hTold" "[I", Cond.fieldLink RX11 99 "LastLetterModel" "hUntold" "[I", Cond.fieldLink RX11 102 "LastLetterModel" "ways" "[J", Cond.fieldLink RX11 105 "LastLetterModel" "goesOn" "[J", Cond.fieldLink RX11 108 "LastLetterModel" "boxMany" "[I", Cond.fieldLink RX11 111 "LastLetterModel" "boxLatest" "[I", Cond.fieldLink RX11 114 "LastLetterModel" "boxSum" "[I", Cond.fieldLink RX11 117 "LastLetterModel" "boxW" "[I", Cond.fieldLink RX11 120 "LastLetterModel" "boxDone" "[I", Cond.fieldLink RX11 123 "LastLetterModel" "boxSaid" "[I", Cond.methodLink RX11 126 yX11_clearBank, Cond.instanceMethod yX11_clearBank, Cond.selects RX11 yX11_clearBank yX11_clearBank]
def wsX11_init_r3 : List Cond := [Cond.initialized RX11, Cond.code yX11_clearBank cX11_clearBank 2 none, Cond.fieldLink RX11 182 "LastLetterModel" "rb" "I", Cond.methodLink RX11 129 yX11_layFollow, Cond.instanceMethod yX11_layFollow, Cond.selects RX11 yX11_layFollow yX11_layFollow, Cond.code yX11_layFollow cX11_layFollow 4 none, Cond.fieldLink RX11 188 "LastLetterModel" "bank" "I", Cond.methodLink RX11 257 yX11_wordMany, Cond.instanceMethod yX11_wordMany, Cond.selects RX11 yX11_wordMany yX11_wordMany, Cond.code yX11_wordMany cX11_wordMany 1 (some .int), Cond.methodLink RX11 269 yX11_mayFollow, Cond.instanceMethod yX11_mayFollow, Cond.selects RX11 yX11_mayFollow yX11_mayFollow, Cond.code yX11_mayFollow cX11_mayFollow 4 (some .boolean), Cond.methodLink RX11 266 yX11_soundOf, Cond.instanceMethod yX11_soundOf, Cond.selects RX11 yX11_soundOf yX11_soundOf, Cond.code yX11_soundOf cX11_soundOf 4 (some .int), Cond.constantLong RX11 264 (255), Cond.methodLink RX11 132 yX11_begin, Cond.instanceMethod yX11_begin, Cond.selects RX11 yX11_begin yX11_begin]
def wsX11_init_r4 : List Cond := [Cond.code yX11_begin cX11_begin 2 none, Cond.fieldLink RX11 276 "LastLetterModel" "latest" "I", Cond.fieldLink RX11 279 "LastLetterModel" "talked" "I", Cond.fieldLink RX11 282 "LastLetterModel" "sum" "I", Cond.fieldLink RX11 285 "LastLetterModel" "doneSet" "I"]
def wsX11_init : List Cond := .code yX11_init cX11_init 2 none :: ((wsX11_init_r1 ++ (wsX11_init_r2 ++ (wsX11_init_r3 ++ wsX11_init_r4))) ++ wsX110)
def wsX11_sign : List Cond := .code yX11_sign cX11_sign 2 (some .int) :: ([.fieldLink RX11 135 "LastLetterModel" "size" "I", .fieldLink RX11 13 "LastLetterModel" "text" "[B"] ++ wsX110)
def wsX11_isLetter : List Cond := .code yX11_isLetter cX11_isLetter 1 (some .boolean) :: ([])
def wsX11_isDigit : List Cond := .code yX11_isDigit cX11_isDigit 1 (some .boolean) :: ([])
def wsX11_fails : List Cond := .code yX11_fails cX11_fails 3 none :: ([.fieldLink RX11 138 "LastLetterModel" "faultKind" "I", .fieldLink RX11 16 "LastLetterModel" "faultPlace" "I"] ++ wsX110)
def wsX11_isGood : List Cond := .code yX11_isGood cX11_isGood 1 (some .boolean) :: ([.fieldLink RX11 138 "LastLetterModel" "faultKind" "I"] ++ wsX110)
def wsX11_goOn : List Cond := .code yX11_goOn cX11_goOn 3 none :: ([.fieldLink RX11 141 "LastLetterModel" "end" "I", .fieldLink RX11 144 "LastLetterModel" "at" "I", .fieldLink RX11 135 "LastLetterModel" "size" "I", .fieldLink RX11 151 "LastLetterModel" "token" "I", .fieldLink RX11 158 "LastLetterModel" "name" "J", .fieldLink RX11 165 "LastLetterModel" "number" "I", .methodLink RX11 147 yX11_sign, .instanceMethod yX11_sign, .selects RX11 yX11_sign yX11_sign, .initialized RX11, .code yX11_sign cX11_sign 2 (some .int), .fieldLink RX11 13 "LastLetterModel" "text" "[B", .methodLink RX11 154 yX11_isLetter, .static yX11_isLetter, .code yX11_isLetter cX11_isLetter 1 (some .boolean), .methodLink RX11 162 yX11_isDigit, .static yX11_isDigit, .code yX11_isDigit cX11_isDigit 1 (some .boolean)] ++ wsX110)
def wsX11_isWord : List Cond := .code yX11_isWord cX11_isWord 3 (some .boolean) :: ([.fieldLink RX11 151 "LastLetterModel" "token" "I", .fieldLink RX11 158 "LastLetterModel" "name" "J"] ++ wsX110)
def wsX11_misplaced : List Cond := .code yX11_misplaced cX11_misplaced 1 none :: ([.fieldLink RX11 151 "LastLetterModel" "token" "I", .fieldLink RX11 144 "LastLetterModel" "at" "I", .methodLink RX11 168 yX11_fails, .instanceMethod yX11_fails, .selects RX11 yX11_fails yX11_fails, .initialized RX11, .code yX11_fails cX11_fails 3 none, .fieldLink RX11 138 "LastLetterModel" "faultKind" "I", .fieldLink RX11 16 "LastLetterModel" "faultPlace" "I"] ++ wsX110)
def wsX11_must_r1 : List Cond := [Cond.methodLink RX11 172 yX11_isGood, Cond.instanceMethod yX11_isGood, Cond.selects RX11 yX11_isGood yX11_isGood, Cond.initialized RX11, Cond.code yX11_isGood cX11_isGood 1 (some .boolean), Cond.fieldLink RX11 138 "LastLetterModel" "faultKind" "I", Cond.methodLink RX11 176 yX11_goOn, Cond.instanceMethod yX11_goOn, Cond.selects RX11 yX11_goOn yX11_goOn, Cond.code yX11_goOn cX11_goOn 3 none, Cond.fieldLink RX11 141 "LastLetterModel" "end" "I", Cond.fieldLink RX11 144 "LastLetterModel" "at" "I", Cond.fieldLink RX11 135 "LastLetterModel" "size" "I", Cond.fieldLink RX11 151 "LastLetterModel" "token" "I", Cond.fieldLink RX11 158 "LastLetterModel" "name" "J", Cond.fieldLink RX11 165 "LastLetterModel" "number" "I", Cond.methodLink RX11 147 yX11_sign, Cond.instanceMethod yX11_sign, Cond.selects RX11 yX11_sign yX11_sign, Cond.code yX11_sign cX11_sign 2 (some .int), Cond.fieldLink RX11 13 "LastLetterModel" "text" "[B", Cond.methodLink RX11 154 yX11_isLetter, Cond.static yX11_isLetter, Cond.code yX11_isLetter cX11_isLetter 1 (some .boolean)]
def wsX11_must_r2 : List Cond := [Cond.methodLink RX11 162 yX11_isDigit, Cond.static yX11_isDigit, Cond.code yX11_isDigit cX11_isDigit 1 (some .boolean), Cond.methodLink RX11 179 yX11_misplaced, Cond.instanceMethod yX11_misplaced, Cond.selects RX11 yX11_misplaced yX11_misplaced, Cond.code yX11_misplaced cX11_misplaced 1 none, Cond.methodLink RX11 168 yX11_fails, Cond.instanceMethod yX11_fails, Cond.selects RX11 yX11_fails yX11_fails, Cond.code yX11_fails cX11_fails 3 none, Cond.fieldLink RX11 16 "LastLetterModel" "faultPlace" "I"]
def wsX11_must : List Cond := .code yX11_must cX11_must 2 none :: ((wsX11_must_r1 ++ wsX11_must_r2) ++ wsX110)
def wsX11_numeral_r1 : List Cond := [Cond.fieldLink RX11 151 "LastLetterModel" "token" "I", Cond.fieldLink RX11 165 "LastLetterModel" "number" "I", Cond.fieldLink RX11 144 "LastLetterModel" "at" "I", Cond.methodLink RX11 172 yX11_isGood, Cond.instanceMethod yX11_isGood, Cond.selects RX11 yX11_isGood yX11_isGood, Cond.initialized RX11, Cond.code yX11_isGood cX11_isGood 1 (some .boolean), Cond.fieldLink RX11 138 "LastLetterModel" "faultKind" "I", Cond.methodLink RX11 179 yX11_misplaced, Cond.instanceMethod yX11_misplaced, Cond.selects RX11 yX11_misplaced yX11_misplaced, Cond.code yX11_misplaced cX11_misplaced 1 none, Cond.methodLink RX11 168 yX11_fails, Cond.instanceMethod yX11_fails, Cond.selects RX11 yX11_fails yX11_fails, Cond.code yX11_fails cX11_fails 3 none, Cond.fieldLink RX11 16 "LastLetterModel" "faultPlace" "I", Cond.methodLink RX11 176 yX11_goOn, Cond.instanceMethod yX11_goOn, Cond.selects RX11 yX11_goOn yX11_goOn, Cond.code yX11_goOn cX11_goOn 3 none, Cond.fieldLink RX11 141 "LastLetterModel" "end" "I", Cond.fieldLink RX11 135 "LastLetterModel" "size" "I"]
def wsX11_numeral_r2 : List Cond := [Cond.fieldLink RX11 158 "LastLetterModel" "name" "J", Cond.methodLink RX11 147 yX11_sign, Cond.instanceMethod yX11_sign, Cond.selects RX11 yX11_sign yX11_sign, Cond.code yX11_sign cX11_sign 2 (some .int), Cond.fieldLink RX11 13 "LastLetterModel" "text" "[B", Cond.methodLink RX11 154 yX11_isLetter, Cond.static yX11_isLetter, Cond.code yX11_isLetter cX11_isLetter 1 (some .boolean), Cond.methodLink RX11 162 yX11_isDigit, Cond.static yX11_isDigit, Cond.code yX11_isDigit cX11_isDigit 1 (some .boolean)]
def wsX11_numeral : List Cond := .code yX11_numeral cX11_numeral 4 (some .int) :: ((wsX11_numeral_r1 ++ wsX11_numeral_r2) ++ wsX110)
def wsX11_isFull : List Cond := .code yX11_isFull cX11_isFull 1 (some .boolean) :: ([.constantLong RX11 200 (2003792484), .fieldLink RX11 20 "LastLetterModel" "words" "[I", .fieldLink RX11 182 "LastLetterModel" "rb" "I", .constantLong RX11 206 (7102839), .fieldLink RX11 48 "LastLetterModel" "isLaw" "[Z", .constantLong RX11 208 (418430675813), .fieldLink RX11 27 "LastLetterModel" "alikes" "[I", .constantLong RX11 210 (111542219664996), .fieldLink RX11 24 "LastLetterModel" "errands" "[I", .methodLink RX11 202 yX11_isWord, .instanceMethod yX11_isWord, .selects RX11 yX11_isWord yX11_isWord, .initialized RX11, .code yX11_isWord cX11_isWord 3 (some .boolean), .fieldLink RX11 151 "LastLetterModel" "token" "I", .fieldLink RX11 158 "LastLetterModel" "name" "J"] ++ wsX110)
def wsX11_wordHere : List Cond := .code yX11_wordHere cX11_wordHere 2 (some .int) :: ([.fieldLink RX11 20 "LastLetterModel" "words" "[I", .fieldLink RX11 182 "LastLetterModel" "rb" "I", .fieldLink RX11 151 "LastLetterModel" "token" "I", .fieldLink RX11 52 "LastLetterModel" "wName" "[J", .fieldLink RX11 158 "LastLetterModel" "name" "J"] ++ wsX110)
def wsX11_readWord_r1 : List Cond := [Cond.fieldLink RX11 182 "LastLetterModel" "rb" "I", Cond.fieldLink RX11 20 "LastLetterModel" "words" "[I", Cond.fieldLink RX11 151 "LastLetterModel" "token" "I", Cond.fieldLink RX11 144 "LastLetterModel" "at" "I", Cond.fieldLink RX11 52 "LastLetterModel" "wName" "[J", Cond.fieldLink RX11 158 "LastLetterModel" "name" "J", Cond.constantLong RX11 235 (512970880104), Cond.fieldLink RX11 33 "LastLetterModel" "worth" "[I", Cond.fieldLink RX11 36 "LastLetterModel" "times" "[I", Cond.constantLong RX11 241 (499984983411), Cond.methodLink RX11 179 yX11_misplaced, Cond.instanceMethod yX11_misplaced, Cond.selects RX11 yX11_misplaced yX11_misplaced, Cond.initialized RX11, Cond.code yX11_misplaced cX11_misplaced 1 none, Cond.methodLink RX11 168 yX11_fails, Cond.instanceMethod yX11_fails, Cond.selects RX11 yX11_fails yX11_fails, Cond.code yX11_fails cX11_fails 3 none, Cond.fieldLink RX11 138 "LastLetterModel" "faultKind" "I", Cond.fieldLink RX11 16 "LastLetterModel" "faultPlace" "I", Cond.methodLink RX11 231 yX11_wordHere, Cond.instanceMethod yX11_wordHere, Cond.selects RX11 yX11_wordHere yX11_wordHere]
def wsX11_readWord_r2 : List Cond := [Cond.code yX11_wordHere cX11_wordHere 2 (some .int), Cond.methodLink RX11 172 yX11_isGood, Cond.instanceMethod yX11_isGood, Cond.selects RX11 yX11_isGood yX11_isGood, Cond.code yX11_isGood cX11_isGood 1 (some .boolean), Cond.methodLink RX11 176 yX11_goOn, Cond.instanceMethod yX11_goOn, Cond.selects RX11 yX11_goOn yX11_goOn, Cond.code yX11_goOn cX11_goOn 3 none, Cond.fieldLink RX11 141 "LastLetterModel" "end" "I", Cond.fieldLink RX11 135 "LastLetterModel" "size" "I", Cond.fieldLink RX11 165 "LastLetterModel" "number" "I", Cond.methodLink RX11 147 yX11_sign, Cond.instanceMethod yX11_sign, Cond.selects RX11 yX11_sign yX11_sign, Cond.code yX11_sign cX11_sign 2 (some .int), Cond.fieldLink RX11 13 "LastLetterModel" "text" "[B", Cond.methodLink RX11 154 yX11_isLetter, Cond.static yX11_isLetter, Cond.code yX11_isLetter cX11_isLetter 1 (some .boolean), Cond.methodLink RX11 162 yX11_isDigit, Cond.static yX11_isDigit, Cond.code yX11_isDigit cX11_isDigit 1 (some .boolean), Cond.methodLink RX11 202 yX11_isWord]
def wsX11_readWord_r3 : List Cond := [Cond.instanceMethod yX11_isWord, Cond.selects RX11 yX11_isWord yX11_isWord, Cond.code yX11_isWord cX11_isWord 3 (some .boolean), Cond.methodLink RX11 227 yX11_must, Cond.instanceMethod yX11_must, Cond.selects RX11 yX11_must yX11_must, Cond.code yX11_must cX11_must 2 none, Cond.methodLink RX11 237 yX11_numeral, Cond.instanceMethod yX11_numeral, Cond.selects RX11 yX11_numeral yX11_numeral, Cond.code yX11_numeral cX11_numeral 4 (some .int)]
def wsX11_readWord : List Cond := .code yX11_readWord cX11_readWord 2 none :: ((wsX11_readWord_r1 ++ (wsX11_readWord_r2 ++ wsX11_readWord_r3)) ++ wsX110)
def wsX11_readLaw_r1 : List Cond := [Cond.fieldLink RX11 30 "LastLetterModel" "law" "[I", Cond.fieldLink RX11 182 "LastLetterModel" "rb" "I", Cond.constantLong RX11 243 (7302757), Cond.constantLong RX11 245 (7632751), Cond.constantLong RX11 247 (478694368626), Cond.fieldLink RX11 48 "LastLetterModel" "isLaw" "[Z", Cond.methodLink RX11 202 yX11_isWord, Cond.instanceMethod yX11_isWord, Cond.selects RX11 yX11_isWord yX11_isWord, Cond.initialized RX11, Cond.code yX11_isWord cX11_isWord 3 (some .boolean), Cond.fieldLink RX11 151 "LastLetterModel" "token" "I", Cond.fieldLink RX11 158 "LastLetterModel" "name" "J", Cond.methodLink RX11 227 yX11_must, Cond.instanceMethod yX11_must, Cond.selects RX11 yX11_must yX11_must, Cond.code yX11_must cX11_must 2 none, Cond.methodLink RX11 172 yX11_isGood, Cond.instanceMethod yX11_isGood, Cond.selects RX11 yX11_isGood yX11_isGood, Cond.code yX11_isGood cX11_isGood 1 (some .boolean), Cond.fieldLink RX11 138 "LastLetterModel" "faultKind" "I", Cond.methodLink RX11 176 yX11_goOn, Cond.instanceMethod yX11_goOn]
def wsX11_readLaw_r2 : List Cond := [Cond.selects RX11 yX11_goOn yX11_goOn, Cond.code yX11_goOn cX11_goOn 3 none, Cond.fieldLink RX11 141 "LastLetterModel" "end" "I", Cond.fieldLink RX11 144 "LastLetterModel" "at" "I", Cond.fieldLink RX11 135 "LastLetterModel" "size" "I", Cond.fieldLink RX11 165 "LastLetterModel" "number" "I", Cond.methodLink RX11 147 yX11_sign, Cond.instanceMethod yX11_sign, Cond.selects RX11 yX11_sign yX11_sign, Cond.code yX11_sign cX11_sign 2 (some .int), Cond.fieldLink RX11 13 "LastLetterModel" "text" "[B", Cond.methodLink RX11 154 yX11_isLetter, Cond.static yX11_isLetter, Cond.code yX11_isLetter cX11_isLetter 1 (some .boolean), Cond.methodLink RX11 162 yX11_isDigit, Cond.static yX11_isDigit, Cond.code yX11_isDigit cX11_isDigit 1 (some .boolean), Cond.methodLink RX11 179 yX11_misplaced, Cond.instanceMethod yX11_misplaced, Cond.selects RX11 yX11_misplaced yX11_misplaced, Cond.code yX11_misplaced cX11_misplaced 1 none, Cond.methodLink RX11 168 yX11_fails, Cond.instanceMethod yX11_fails, Cond.selects RX11 yX11_fails yX11_fails]
def wsX11_readLaw_r3 : List Cond := [Cond.code yX11_fails cX11_fails 3 none, Cond.fieldLink RX11 16 "LastLetterModel" "faultPlace" "I"]
def wsX11_readLaw : List Cond := .code yX11_readLaw cX11_readLaw 1 none :: ((wsX11_readLaw_r1 ++ (wsX11_readLaw_r2 ++ wsX11_readLaw_r3)) ++ wsX110)
def wsX11_letter : List Cond := .code yX11_letter cX11_letter 1 (some .int) :: ([.fieldLink RX11 151 "LastLetterModel" "token" "I", .fieldLink RX11 141 "LastLetterModel" "end" "I", .fieldLink RX11 144 "LastLetterModel" "at" "I", .methodLink RX11 172 yX11_isGood, .instanceMethod yX11_isGood, .selects RX11 yX11_isGood yX11_isGood, .initialized RX11, .code yX11_isGood cX11_isGood 1 (some .boolean), .fieldLink RX11 138 "LastLetterModel" "faultKind" "I", .methodLink RX11 179 yX11_misplaced, .instanceMethod yX11_misplaced, .selects RX11 yX11_misplaced yX11_misplaced, .code yX11_misplaced cX11_misplaced 1 none, .methodLink RX11 168 yX11_fails, .instanceMethod yX11_fails, .selects RX11 yX11_fails yX11_fails, .code yX11_fails cX11_fails 3 none, .fieldLink RX11 16 "LastLetterModel" "faultPlace" "I", .methodLink RX11 147 yX11_sign, .instanceMethod yX11_sign, .selects RX11 yX11_sign yX11_sign, .code yX11_sign cX11_sign 2 (some .int), .fieldLink RX11 135 "LastLetterModel" "size" "I", .fieldLink RX11 13 "LastLetterModel" "text" "[B"] ++ wsX110)
def wsX11_readAlike_r1 : List Cond := [Cond.fieldLink RX11 144 "LastLetterModel" "at" "I", Cond.fieldLink RX11 45 "LastLetterModel" "sound" "[I", Cond.fieldLink RX11 182 "LastLetterModel" "rb" "I", Cond.fieldLink RX11 27 "LastLetterModel" "alikes" "[I", Cond.methodLink RX11 249 yX11_letter, Cond.instanceMethod yX11_letter, Cond.selects RX11 yX11_letter yX11_letter, Cond.initialized RX11, Cond.code yX11_letter cX11_letter 1 (some .int), Cond.fieldLink RX11 151 "LastLetterModel" "token" "I", Cond.fieldLink RX11 141 "LastLetterModel" "end" "I", Cond.methodLink RX11 172 yX11_isGood, Cond.instanceMethod yX11_isGood, Cond.selects RX11 yX11_isGood yX11_isGood, Cond.code yX11_isGood cX11_isGood 1 (some .boolean), Cond.fieldLink RX11 138 "LastLetterModel" "faultKind" "I", Cond.methodLink RX11 179 yX11_misplaced, Cond.instanceMethod yX11_misplaced, Cond.selects RX11 yX11_misplaced yX11_misplaced, Cond.code yX11_misplaced cX11_misplaced 1 none, Cond.methodLink RX11 168 yX11_fails, Cond.instanceMethod yX11_fails, Cond.selects RX11 yX11_fails yX11_fails, Cond.code yX11_fails cX11_fails 3 none]
def wsX11_readAlike_r2 : List Cond := [Cond.fieldLink RX11 16 "LastLetterModel" "faultPlace" "I", Cond.methodLink RX11 147 yX11_sign, Cond.instanceMethod yX11_sign, Cond.selects RX11 yX11_sign yX11_sign, Cond.code yX11_sign cX11_sign 2 (some .int), Cond.fieldLink RX11 135 "LastLetterModel" "size" "I", Cond.fieldLink RX11 13 "LastLetterModel" "text" "[B", Cond.methodLink RX11 176 yX11_goOn, Cond.instanceMethod yX11_goOn, Cond.selects RX11 yX11_goOn yX11_goOn, Cond.code yX11_goOn cX11_goOn 3 none, Cond.fieldLink RX11 158 "LastLetterModel" "name" "J", Cond.fieldLink RX11 165 "LastLetterModel" "number" "I", Cond.methodLink RX11 154 yX11_isLetter, Cond.static yX11_isLetter, Cond.code yX11_isLetter cX11_isLetter 1 (some .boolean), Cond.methodLink RX11 162 yX11_isDigit, Cond.static yX11_isDigit, Cond.code yX11_isDigit cX11_isDigit 1 (some .boolean)]
def wsX11_readAlike : List Cond := .code yX11_readAlike cX11_readAlike 5 none :: ((wsX11_readAlike_r1 ++ wsX11_readAlike_r2) ++ wsX110)
def wsX11_errandOf : List Cond := .code yX11_errandOf cX11_errandOf 3 (some .int) :: ([.fieldLink RX11 24 "LastLetterModel" "errands" "[I", .fieldLink RX11 182 "LastLetterModel" "rb" "I", .fieldLink RX11 39 "LastLetterModel" "eWord" "[I"] ++ wsX110)
def wsX11_readErrand_r1 : List Cond := [Cond.fieldLink RX11 151 "LastLetterModel" "token" "I", Cond.fieldLink RX11 144 "LastLetterModel" "at" "I", Cond.constantLong RX11 255 (418330731890), Cond.fieldLink RX11 39 "LastLetterModel" "eWord" "[I", Cond.fieldLink RX11 182 "LastLetterModel" "rb" "I", Cond.fieldLink RX11 24 "LastLetterModel" "errands" "[I", Cond.fieldLink RX11 42 "LastLetterModel" "eAfter" "[I", Cond.methodLink RX11 231 yX11_wordHere, Cond.instanceMethod yX11_wordHere, Cond.selects RX11 yX11_wordHere yX11_wordHere, Cond.initialized RX11, Cond.code yX11_wordHere cX11_wordHere 2 (some .int), Cond.fieldLink RX11 20 "LastLetterModel" "words" "[I", Cond.fieldLink RX11 52 "LastLetterModel" "wName" "[J", Cond.fieldLink RX11 158 "LastLetterModel" "name" "J", Cond.methodLink RX11 179 yX11_misplaced, Cond.instanceMethod yX11_misplaced, Cond.selects RX11 yX11_misplaced yX11_misplaced, Cond.code yX11_misplaced cX11_misplaced 1 none, Cond.methodLink RX11 168 yX11_fails, Cond.instanceMethod yX11_fails, Cond.selects RX11 yX11_fails yX11_fails, Cond.code yX11_fails cX11_fails 3 none, Cond.fieldLink RX11 138 "LastLetterModel" "faultKind" "I"]
def wsX11_readErrand_r2 : List Cond := [Cond.fieldLink RX11 16 "LastLetterModel" "faultPlace" "I", Cond.methodLink RX11 252 yX11_errandOf, Cond.instanceMethod yX11_errandOf, Cond.selects RX11 yX11_errandOf yX11_errandOf, Cond.code yX11_errandOf cX11_errandOf 3 (some .int), Cond.methodLink RX11 172 yX11_isGood, Cond.instanceMethod yX11_isGood, Cond.selects RX11 yX11_isGood yX11_isGood, Cond.code yX11_isGood cX11_isGood 1 (some .boolean), Cond.methodLink RX11 176 yX11_goOn, Cond.instanceMethod yX11_goOn, Cond.selects RX11 yX11_goOn yX11_goOn, Cond.code yX11_goOn cX11_goOn 3 none, Cond.fieldLink RX11 141 "LastLetterModel" "end" "I", Cond.fieldLink RX11 135 "LastLetterModel" "size" "I", Cond.fieldLink RX11 165 "LastLetterModel" "number" "I", Cond.methodLink RX11 147 yX11_sign, Cond.instanceMethod yX11_sign, Cond.selects RX11 yX11_sign yX11_sign, Cond.code yX11_sign cX11_sign 2 (some .int), Cond.fieldLink RX11 13 "LastLetterModel" "text" "[B", Cond.methodLink RX11 154 yX11_isLetter, Cond.static yX11_isLetter, Cond.code yX11_isLetter cX11_isLetter 1 (some .boolean)]
def wsX11_readErrand_r3 : List Cond := [Cond.methodLink RX11 162 yX11_isDigit, Cond.static yX11_isDigit, Cond.code yX11_isDigit cX11_isDigit 1 (some .boolean), Cond.methodLink RX11 202 yX11_isWord, Cond.instanceMethod yX11_isWord, Cond.selects RX11 yX11_isWord yX11_isWord, Cond.code yX11_isWord cX11_isWord 3 (some .boolean)]
def wsX11_readErrand : List Cond := .code yX11_readErrand cX11_readErrand 4 none :: ((wsX11_readErrand_r1 ++ (wsX11_readErrand_r2 ++ wsX11_readErrand_r3)) ++ wsX110)
def wsX11_readLine_r1 : List Cond := [Cond.fieldLink RX11 158 "LastLetterModel" "name" "J", Cond.fieldLink RX11 151 "LastLetterModel" "token" "I", Cond.constantLong RX11 200 (2003792484), Cond.constantLong RX11 206 (7102839), Cond.constantLong RX11 208 (418430675813), Cond.constantLong RX11 210 (111542219664996), Cond.methodLink RX11 212 yX11_isFull, Cond.instanceMethod yX11_isFull, Cond.selects RX11 yX11_isFull yX11_isFull, Cond.initialized RX11, Cond.code yX11_isFull cX11_isFull 1 (some .boolean), Cond.fieldLink RX11 20 "LastLetterModel" "words" "[I", Cond.fieldLink RX11 182 "LastLetterModel" "rb" "I", Cond.fieldLink RX11 48 "LastLetterModel" "isLaw" "[Z", Cond.fieldLink RX11 27 "LastLetterModel" "alikes" "[I", Cond.fieldLink RX11 24 "LastLetterModel" "errands" "[I", Cond.methodLink RX11 202 yX11_isWord, Cond.instanceMethod yX11_isWord, Cond.selects RX11 yX11_isWord yX11_isWord, Cond.code yX11_isWord cX11_isWord 3 (some .boolean), Cond.methodLink RX11 179 yX11_misplaced, Cond.instanceMethod yX11_misplaced, Cond.selects RX11 yX11_misplaced yX11_misplaced, Cond.code yX11_misplaced cX11_misplaced 1 none]
def wsX11_readLine_r2 : List Cond := [Cond.fieldLink RX11 144 "LastLetterModel" "at" "I", Cond.methodLink RX11 168 yX11_fails, Cond.instanceMethod yX11_fails, Cond.selects RX11 yX11_fails yX11_fails, Cond.code yX11_fails cX11_fails 3 none, Cond.fieldLink RX11 138 "LastLetterModel" "faultKind" "I", Cond.fieldLink RX11 16 "LastLetterModel" "faultPlace" "I", Cond.methodLink RX11 172 yX11_isGood, Cond.instanceMethod yX11_isGood, Cond.selects RX11 yX11_isGood yX11_isGood, Cond.code yX11_isGood cX11_isGood 1 (some .boolean), Cond.methodLink RX11 176 yX11_goOn, Cond.instanceMethod yX11_goOn, Cond.selects RX11 yX11_goOn yX11_goOn, Cond.code yX11_goOn cX11_goOn 3 none, Cond.fieldLink RX11 141 "LastLetterModel" "end" "I", Cond.fieldLink RX11 135 "LastLetterModel" "size" "I", Cond.fieldLink RX11 165 "LastLetterModel" "number" "I", Cond.methodLink RX11 147 yX11_sign, Cond.instanceMethod yX11_sign, Cond.selects RX11 yX11_sign yX11_sign, Cond.code yX11_sign cX11_sign 2 (some .int), Cond.fieldLink RX11 13 "LastLetterModel" "text" "[B", Cond.methodLink RX11 154 yX11_isLetter]
def wsX11_readLine_r3 : List Cond := [Cond.static yX11_isLetter, Cond.code yX11_isLetter cX11_isLetter 1 (some .boolean), Cond.methodLink RX11 162 yX11_isDigit, Cond.static yX11_isDigit, Cond.code yX11_isDigit cX11_isDigit 1 (some .boolean), Cond.methodLink RX11 215 yX11_readWord, Cond.instanceMethod yX11_readWord, Cond.selects RX11 yX11_readWord yX11_readWord, Cond.code yX11_readWord cX11_readWord 2 none, Cond.fieldLink RX11 52 "LastLetterModel" "wName" "[J", Cond.constantLong RX11 235 (512970880104), Cond.fieldLink RX11 33 "LastLetterModel" "worth" "[I", Cond.fieldLink RX11 36 "LastLetterModel" "times" "[I", Cond.constantLong RX11 241 (499984983411), Cond.methodLink RX11 231 yX11_wordHere, Cond.instanceMethod yX11_wordHere, Cond.selects RX11 yX11_wordHere yX11_wordHere, Cond.code yX11_wordHere cX11_wordHere 2 (some .int), Cond.methodLink RX11 227 yX11_must, Cond.instanceMethod yX11_must, Cond.selects RX11 yX11_must yX11_must, Cond.code yX11_must cX11_must 2 none, Cond.methodLink RX11 237 yX11_numeral, Cond.instanceMethod yX11_numeral]
def wsX11_readLine_r4 : List Cond := [Cond.selects RX11 yX11_numeral yX11_numeral, Cond.code yX11_numeral cX11_numeral 4 (some .int), Cond.methodLink RX11 218 yX11_readLaw, Cond.instanceMethod yX11_readLaw, Cond.selects RX11 yX11_readLaw yX11_readLaw, Cond.code yX11_readLaw cX11_readLaw 1 none, Cond.fieldLink RX11 30 "LastLetterModel" "law" "[I", Cond.constantLong RX11 243 (7302757), Cond.constantLong RX11 245 (7632751), Cond.constantLong RX11 247 (478694368626), Cond.methodLink RX11 221 yX11_readAlike, Cond.instanceMethod yX11_readAlike, Cond.selects RX11 yX11_readAlike yX11_readAlike, Cond.code yX11_readAlike cX11_readAlike 5 none, Cond.fieldLink RX11 45 "LastLetterModel" "sound" "[I", Cond.methodLink RX11 249 yX11_letter, Cond.instanceMethod yX11_letter, Cond.selects RX11 yX11_letter yX11_letter, Cond.code yX11_letter cX11_letter 1 (some .int), Cond.methodLink RX11 224 yX11_readErrand, Cond.instanceMethod yX11_readErrand, Cond.selects RX11 yX11_readErrand yX11_readErrand, Cond.code yX11_readErrand cX11_readErrand 4 none, Cond.constantLong RX11 255 (418330731890)]
def wsX11_readLine_r5 : List Cond := [Cond.fieldLink RX11 39 "LastLetterModel" "eWord" "[I", Cond.fieldLink RX11 42 "LastLetterModel" "eAfter" "[I", Cond.methodLink RX11 252 yX11_errandOf, Cond.instanceMethod yX11_errandOf, Cond.selects RX11 yX11_errandOf yX11_errandOf, Cond.code yX11_errandOf cX11_errandOf 3 (some .int)]
def wsX11_readLine : List Cond := .code yX11_readLine cX11_readLine 3 none :: ((wsX11_readLine_r1 ++ (wsX11_readLine_r2 ++ (wsX11_readLine_r3 ++ (wsX11_readLine_r4 ++ wsX11_readLine_r5)))) ++ wsX110)
def wsX11_tongue_r1 : List Cond := [Cond.fieldLink RX11 138 "LastLetterModel" "faultKind" "I", Cond.fieldLink RX11 16 "LastLetterModel" "faultPlace" "I", Cond.fieldLink RX11 185 "LastLetterModel" "taped" "I", Cond.fieldLink RX11 135 "LastLetterModel" "size" "I", Cond.fieldLink RX11 13 "LastLetterModel" "text" "[B", Cond.fieldLink RX11 7 "LastLetterModel" "tape" "[B", Cond.fieldLink RX11 141 "LastLetterModel" "end" "I", Cond.fieldLink RX11 188 "LastLetterModel" "bank" "I", Cond.fieldLink RX11 182 "LastLetterModel" "rb" "I", Cond.fieldLink RX11 151 "LastLetterModel" "token" "I", Cond.fieldLink RX11 194 "LastLetterModel" "sounds" "I", Cond.fieldLink RX11 197 "LastLetterModel" "laid" "I", Cond.fieldLink RX11 108 "LastLetterModel" "boxMany" "[I", Cond.fieldLink RX11 20 "LastLetterModel" "words" "[I", Cond.methodLink RX11 126 yX11_clearBank, Cond.instanceMethod yX11_clearBank, Cond.selects RX11 yX11_clearBank yX11_clearBank, Cond.initialized RX11, Cond.code yX11_clearBank cX11_clearBank 2 none, Cond.fieldLink RX11 24 "LastLetterModel" "errands" "[I", Cond.fieldLink RX11 27 "LastLetterModel" "alikes" "[I", Cond.fieldLink RX11 30 "LastLetterModel" "law" "[I", Cond.fieldLink RX11 48 "LastLetterModel" "isLaw" "[Z", Cond.fieldLink RX11 45 "LastLetterModel" "sound" "[I"]
def wsX11_tongue_r2 : List Cond := [Cond.methodLink RX11 176 yX11_goOn, Cond.instanceMethod yX11_goOn, Cond.selects RX11 yX11_goOn yX11_goOn, Cond.code yX11_goOn cX11_goOn 3 none, Cond.fieldLink RX11 144 "LastLetterModel" "at" "I", Cond.fieldLink RX11 158 "LastLetterModel" "name" "J", Cond.fieldLink RX11 165 "LastLetterModel" "number" "I", Cond.methodLink RX11 147 yX11_sign, Cond.instanceMethod yX11_sign, Cond.selects RX11 yX11_sign yX11_sign, Cond.code yX11_sign cX11_sign 2 (some .int), Cond.methodLink RX11 154 yX11_isLetter, Cond.static yX11_isLetter, Cond.code yX11_isLetter cX11_isLetter 1 (some .boolean), Cond.methodLink RX11 162 yX11_isDigit, Cond.static yX11_isDigit, Cond.code yX11_isDigit cX11_isDigit 1 (some .boolean), Cond.methodLink RX11 172 yX11_isGood, Cond.instanceMethod yX11_isGood, Cond.selects RX11 yX11_isGood yX11_isGood, Cond.code yX11_isGood cX11_isGood 1 (some .boolean), Cond.methodLink RX11 191 yX11_readLine, Cond.instanceMethod yX11_readLine, Cond.selects RX11 yX11_readLine yX11_readLine]
def wsX11_tongue_r3 : List Cond := [Cond.code yX11_readLine cX11_readLine 3 none, Cond.constantLong RX11 200 (2003792484), Cond.constantLong RX11 206 (7102839), Cond.constantLong RX11 208 (418430675813), Cond.constantLong RX11 210 (111542219664996), Cond.methodLink RX11 212 yX11_isFull, Cond.instanceMethod yX11_isFull, Cond.selects RX11 yX11_isFull yX11_isFull, Cond.code yX11_isFull cX11_isFull 1 (some .boolean), Cond.methodLink RX11 202 yX11_isWord, Cond.instanceMethod yX11_isWord, Cond.selects RX11 yX11_isWord yX11_isWord, Cond.code yX11_isWord cX11_isWord 3 (some .boolean), Cond.methodLink RX11 179 yX11_misplaced, Cond.instanceMethod yX11_misplaced, Cond.selects RX11 yX11_misplaced yX11_misplaced, Cond.code yX11_misplaced cX11_misplaced 1 none, Cond.methodLink RX11 168 yX11_fails, Cond.instanceMethod yX11_fails, Cond.selects RX11 yX11_fails yX11_fails, Cond.code yX11_fails cX11_fails 3 none, Cond.methodLink RX11 215 yX11_readWord, Cond.instanceMethod yX11_readWord, Cond.selects RX11 yX11_readWord yX11_readWord]
def wsX11_tongue_r4 : List Cond := [Cond.code yX11_readWord cX11_readWord 2 none, Cond.fieldLink RX11 52 "LastLetterModel" "wName" "[J", Cond.constantLong RX11 235 (512970880104), Cond.fieldLink RX11 33 "LastLetterModel" "worth" "[I", Cond.fieldLink RX11 36 "LastLetterModel" "times" "[I", Cond.constantLong RX11 241 (499984983411), Cond.methodLink RX11 231 yX11_wordHere, Cond.instanceMethod yX11_wordHere, Cond.selects RX11 yX11_wordHere yX11_wordHere, Cond.code yX11_wordHere cX11_wordHere 2 (some .int), Cond.methodLink RX11 227 yX11_must, Cond.instanceMethod yX11_must, Cond.selects RX11 yX11_must yX11_must, Cond.code yX11_must cX11_must 2 none, Cond.methodLink RX11 237 yX11_numeral, Cond.instanceMethod yX11_numeral, Cond.selects RX11 yX11_numeral yX11_numeral, Cond.code yX11_numeral cX11_numeral 4 (some .int), Cond.methodLink RX11 218 yX11_readLaw, Cond.instanceMethod yX11_readLaw, Cond.selects RX11 yX11_readLaw yX11_readLaw, Cond.code yX11_readLaw cX11_readLaw 1 none, Cond.constantLong RX11 243 (7302757), Cond.constantLong RX11 245 (7632751)]
def wsX11_tongue_r5 : List Cond := [Cond.constantLong RX11 247 (478694368626), Cond.methodLink RX11 221 yX11_readAlike, Cond.instanceMethod yX11_readAlike, Cond.selects RX11 yX11_readAlike yX11_readAlike, Cond.code yX11_readAlike cX11_readAlike 5 none, Cond.methodLink RX11 249 yX11_letter, Cond.instanceMethod yX11_letter, Cond.selects RX11 yX11_letter yX11_letter, Cond.code yX11_letter cX11_letter 1 (some .int), Cond.methodLink RX11 224 yX11_readErrand, Cond.instanceMethod yX11_readErrand, Cond.selects RX11 yX11_readErrand yX11_readErrand, Cond.code yX11_readErrand cX11_readErrand 4 none, Cond.constantLong RX11 255 (418330731890), Cond.fieldLink RX11 39 "LastLetterModel" "eWord" "[I", Cond.fieldLink RX11 42 "LastLetterModel" "eAfter" "[I", Cond.methodLink RX11 252 yX11_errandOf, Cond.instanceMethod yX11_errandOf, Cond.selects RX11 yX11_errandOf yX11_errandOf, Cond.code yX11_errandOf cX11_errandOf 3 (some .int), Cond.methodLink RX11 129 yX11_layFollow, Cond.instanceMethod yX11_layFollow, Cond.selects RX11 yX11_layFollow yX11_layFollow, Cond.code yX11_layFollow cX11_layFollow 4 none]
def wsX11_tongue_r6 : List Cond := [Cond.fieldLink RX11 59 "LastLetterModel" "lengths" "[I", Cond.fieldLink RX11 56 "LastLetterModel" "follow" "[I", Cond.methodLink RX11 257 yX11_wordMany, Cond.instanceMethod yX11_wordMany, Cond.selects RX11 yX11_wordMany yX11_wordMany, Cond.code yX11_wordMany cX11_wordMany 1 (some .int), Cond.methodLink RX11 269 yX11_mayFollow, Cond.instanceMethod yX11_mayFollow, Cond.selects RX11 yX11_mayFollow yX11_mayFollow, Cond.code yX11_mayFollow cX11_mayFollow 4 (some .boolean), Cond.methodLink RX11 266 yX11_soundOf, Cond.instanceMethod yX11_soundOf, Cond.selects RX11 yX11_soundOf yX11_soundOf, Cond.code yX11_soundOf cX11_soundOf 4 (some .int), Cond.constantLong RX11 264 (255), Cond.methodLink RX11 132 yX11_begin, Cond.instanceMethod yX11_begin, Cond.selects RX11 yX11_begin yX11_begin, Cond.code yX11_begin cX11_begin 2 none, Cond.fieldLink RX11 62 "LastLetterModel" "said" "[I", Cond.fieldLink RX11 276 "LastLetterModel" "latest" "I", Cond.fieldLink RX11 279 "LastLetterModel" "talked" "I", Cond.fieldLink RX11 282 "LastLetterModel" "sum" "I", Cond.fieldLink RX11 285 "LastLetterModel" "doneSet" "I"]
def wsX11_tongue : List Cond := .code yX11_tongue cX11_tongue 2 (some .int) :: ((wsX11_tongue_r1 ++ (wsX11_tongue_r2 ++ (wsX11_tongue_r3 ++ (wsX11_tongue_r4 ++ (wsX11_tongue_r5 ++ wsX11_tongue_r6))))) ++ wsX110)
def wsX11_fault : List Cond := .code yX11_fault cX11_fault 2 (some .int) :: ([.fieldLink RX11 138 "LastLetterModel" "faultKind" "I", .fieldLink RX11 16 "LastLetterModel" "faultPlace" "I"] ++ wsX110)
def wsX11_isIn : List Cond := .code yX11_isIn cX11_isIn 3 (some .boolean) :: ([])
def wsX11_isWordNumber : List Cond := .code yX11_isWordNumber cX11_isWordNumber 2 (some .boolean) :: ([.methodLink RX11 257 yX11_wordMany, .instanceMethod yX11_wordMany, .selects RX11 yX11_wordMany yX11_wordMany, .initialized RX11, .code yX11_wordMany cX11_wordMany 1 (some .int), .fieldLink RX11 20 "LastLetterModel" "words" "[I", .fieldLink RX11 188 "LastLetterModel" "bank" "I", .methodLink RX11 260 yX11_isIn, .static yX11_isIn, .code yX11_isIn cX11_isIn 3 (some .boolean)] ++ wsX110)
def wsX11_isAfter : List Cond := .code yX11_isAfter cX11_isAfter 3 (some .boolean) :: ([.fieldLink RX11 56 "LastLetterModel" "follow" "[I"] ++ wsX110)
def wsX11_follow : List Cond := .code yX11_follow cX11_follow 2 (some .int) :: ([.fieldLink RX11 56 "LastLetterModel" "follow" "[I", .methodLink RX11 273 yX11_isWordNumber, .instanceMethod yX11_isWordNumber, .selects RX11 yX11_isWordNumber yX11_isWordNumber, .initialized RX11, .code yX11_isWordNumber cX11_isWordNumber 2 (some .boolean), .methodLink RX11 257 yX11_wordMany, .instanceMethod yX11_wordMany, .selects RX11 yX11_wordMany yX11_wordMany, .code yX11_wordMany cX11_wordMany 1 (some .int), .fieldLink RX11 20 "LastLetterModel" "words" "[I", .fieldLink RX11 188 "LastLetterModel" "bank" "I", .methodLink RX11 260 yX11_isIn, .static yX11_isIn, .code yX11_isIn cX11_isIn 3 (some .boolean)] ++ wsX110)
def wsX11_leftOf : List Cond := .code yX11_leftOf cX11_leftOf 2 (some .int) :: ([.fieldLink RX11 36 "LastLetterModel" "times" "[I", .fieldLink RX11 188 "LastLetterModel" "bank" "I", .fieldLink RX11 62 "LastLetterModel" "said" "[I"] ++ wsX110)
def wsX11_mayNow : List Cond := .code yX11_mayNow cX11_mayNow 3 (some .int) :: ([.fieldLink RX11 276 "LastLetterModel" "latest" "I", .methodLink RX11 257 yX11_wordMany, .instanceMethod yX11_wordMany, .selects RX11 yX11_wordMany yX11_wordMany, .initialized RX11, .code yX11_wordMany cX11_wordMany 1 (some .int), .fieldLink RX11 20 "LastLetterModel" "words" "[I", .fieldLink RX11 188 "LastLetterModel" "bank" "I", .methodLink RX11 288 yX11_leftOf, .instanceMethod yX11_leftOf, .selects RX11 yX11_leftOf yX11_leftOf, .code yX11_leftOf cX11_leftOf 2 (some .int), .fieldLink RX11 36 "LastLetterModel" "times" "[I", .fieldLink RX11 62 "LastLetterModel" "said" "[I", .methodLink RX11 291 yX11_isAfter, .instanceMethod yX11_isAfter, .selects RX11 yX11_isAfter yX11_isAfter, .code yX11_isAfter cX11_isAfter 3 (some .boolean), .fieldLink RX11 56 "LastLetterModel" "follow" "[I"] ++ wsX110)
def wsX11_may : List Cond := .code yX11_may cX11_may 1 (some .int) :: ([.methodLink RX11 294 yX11_mayNow, .instanceMethod yX11_mayNow, .selects RX11 yX11_mayNow yX11_mayNow, .initialized RX11, .code yX11_mayNow cX11_mayNow 3 (some .int), .fieldLink RX11 276 "LastLetterModel" "latest" "I", .methodLink RX11 257 yX11_wordMany, .instanceMethod yX11_wordMany, .selects RX11 yX11_wordMany yX11_wordMany, .code yX11_wordMany cX11_wordMany 1 (some .int), .fieldLink RX11 20 "LastLetterModel" "words" "[I", .fieldLink RX11 188 "LastLetterModel" "bank" "I", .methodLink RX11 288 yX11_leftOf, .instanceMethod yX11_leftOf, .selects RX11 yX11_leftOf yX11_leftOf, .code yX11_leftOf cX11_leftOf 2 (some .int), .fieldLink RX11 36 "LastLetterModel" "times" "[I", .fieldLink RX11 62 "LastLetterModel" "said" "[I", .methodLink RX11 291 yX11_isAfter, .instanceMethod yX11_isAfter, .selects RX11 yX11_isAfter yX11_isAfter, .code yX11_isAfter cX11_isAfter 3 (some .boolean), .fieldLink RX11 56 "LastLetterModel" "follow" "[I"] ++ wsX110)
def wsX11_doneBy : List Cond := .code yX11_doneBy cX11_doneBy 6 (some .int) :: ([.fieldLink RX11 24 "LastLetterModel" "errands" "[I", .fieldLink RX11 188 "LastLetterModel" "bank" "I", .fieldLink RX11 39 "LastLetterModel" "eWord" "[I", .fieldLink RX11 42 "LastLetterModel" "eAfter" "[I"] ++ wsX110)
def wsX11_says : List Cond := .code yX11_says cX11_says 2 none :: ([.fieldLink RX11 62 "LastLetterModel" "said" "[I", .fieldLink RX11 276 "LastLetterModel" "latest" "I", .fieldLink RX11 279 "LastLetterModel" "talked" "I", .fieldLink RX11 282 "LastLetterModel" "sum" "I", .fieldLink RX11 33 "LastLetterModel" "worth" "[I", .fieldLink RX11 188 "LastLetterModel" "bank" "I", .fieldLink RX11 285 "LastLetterModel" "doneSet" "I", .methodLink RX11 297 yX11_doneBy, .instanceMethod yX11_doneBy, .selects RX11 yX11_doneBy yX11_doneBy, .initialized RX11, .code yX11_doneBy cX11_doneBy 6 (some .int), .fieldLink RX11 24 "LastLetterModel" "errands" "[I", .fieldLink RX11 39 "LastLetterModel" "eWord" "[I", .fieldLink RX11 42 "LastLetterModel" "eAfter" "[I"] ++ wsX110)
def wsX11_done : List Cond := .code yX11_done cX11_done 1 (some .int) :: ([.fieldLink RX11 285 "LastLetterModel" "doneSet" "I"] ++ wsX110)
def wsX11_say_r1 : List Cond := [Cond.fieldLink RX11 33 "LastLetterModel" "worth" "[I", Cond.fieldLink RX11 188 "LastLetterModel" "bank" "I", Cond.methodLink RX11 273 yX11_isWordNumber, Cond.instanceMethod yX11_isWordNumber, Cond.selects RX11 yX11_isWordNumber yX11_isWordNumber, Cond.initialized RX11, Cond.code yX11_isWordNumber cX11_isWordNumber 2 (some .boolean), Cond.methodLink RX11 257 yX11_wordMany, Cond.instanceMethod yX11_wordMany, Cond.selects RX11 yX11_wordMany yX11_wordMany, Cond.code yX11_wordMany cX11_wordMany 1 (some .int), Cond.fieldLink RX11 20 "LastLetterModel" "words" "[I", Cond.methodLink RX11 260 yX11_isIn, Cond.static yX11_isIn, Cond.code yX11_isIn cX11_isIn 3 (some .boolean), Cond.methodLink RX11 294 yX11_mayNow, Cond.instanceMethod yX11_mayNow, Cond.selects RX11 yX11_mayNow yX11_mayNow, Cond.code yX11_mayNow cX11_mayNow 3 (some .int), Cond.fieldLink RX11 276 "LastLetterModel" "latest" "I", Cond.methodLink RX11 288 yX11_leftOf, Cond.instanceMethod yX11_leftOf, Cond.selects RX11 yX11_leftOf yX11_leftOf, Cond.code yX11_leftOf cX11_leftOf 2 (some .int)]
def wsX11_say_r2 : List Cond := [Cond.fieldLink RX11 36 "LastLetterModel" "times" "[I", Cond.fieldLink RX11 62 "LastLetterModel" "said" "[I", Cond.methodLink RX11 291 yX11_isAfter, Cond.instanceMethod yX11_isAfter, Cond.selects RX11 yX11_isAfter yX11_isAfter, Cond.code yX11_isAfter cX11_isAfter 3 (some .boolean), Cond.fieldLink RX11 56 "LastLetterModel" "follow" "[I", Cond.methodLink RX11 300 yX11_says, Cond.instanceMethod yX11_says, Cond.selects RX11 yX11_says yX11_says, Cond.code yX11_says cX11_says 2 none, Cond.fieldLink RX11 279 "LastLetterModel" "talked" "I", Cond.fieldLink RX11 282 "LastLetterModel" "sum" "I", Cond.fieldLink RX11 285 "LastLetterModel" "doneSet" "I", Cond.methodLink RX11 297 yX11_doneBy, Cond.instanceMethod yX11_doneBy, Cond.selects RX11 yX11_doneBy yX11_doneBy, Cond.code yX11_doneBy cX11_doneBy 6 (some .int), Cond.fieldLink RX11 24 "LastLetterModel" "errands" "[I", Cond.fieldLink RX11 39 "LastLetterModel" "eWord" "[I", Cond.fieldLink RX11 42 "LastLetterModel" "eAfter" "[I"]
def wsX11_say : List Cond := .code yX11_say cX11_say 2 (some .int) :: ((wsX11_say_r1 ++ wsX11_say_r2) ++ wsX110)
def wsX11_silence : List Cond := .code yX11_silence cX11_silence 2 (some .int) :: ([.fieldLink RX11 279 "LastLetterModel" "talked" "I", .fieldLink RX11 276 "LastLetterModel" "latest" "I"] ++ wsX110)
def wsX11_draw : List Cond := .code yX11_draw cX11_draw 2 (some .int) :: ([.fieldLink RX11 65 "LastLetterModel" "w" "I", .constant RX11 304 (1103515245)] ++ wsX110)
def wsX11_bitsOf : List Cond := .code yX11_bitsOf cX11_bitsOf 3 (some .int) :: ([])
def wsX11_behind : List Cond := .code yX11_behind cX11_behind 4 (some .int) :: ([.methodLink RX11 257 yX11_wordMany, .instanceMethod yX11_wordMany, .selects RX11 yX11_wordMany yX11_wordMany, .initialized RX11, .code yX11_wordMany cX11_wordMany 1 (some .int), .fieldLink RX11 20 "LastLetterModel" "words" "[I", .fieldLink RX11 188 "LastLetterModel" "bank" "I", .methodLink RX11 291 yX11_isAfter, .instanceMethod yX11_isAfter, .selects RX11 yX11_isAfter yX11_isAfter, .code yX11_isAfter cX11_isAfter 3 (some .boolean), .fieldLink RX11 56 "LastLetterModel" "follow" "[I", .methodLink RX11 288 yX11_leftOf, .instanceMethod yX11_leftOf, .selects RX11 yX11_leftOf yX11_leftOf, .code yX11_leftOf cX11_leftOf 2 (some .int), .fieldLink RX11 36 "LastLetterModel" "times" "[I", .fieldLink RX11 62 "LastLetterModel" "said" "[I"] ++ wsX110)
def wsX11_weighed : List Cond := .code yX11_weighed cX11_weighed 3 (some .int) :: ([.fieldLink RX11 33 "LastLetterModel" "worth" "[I", .fieldLink RX11 188 "LastLetterModel" "bank" "I", .methodLink RX11 305 yX11_behind, .instanceMethod yX11_behind, .selects RX11 yX11_behind yX11_behind, .initialized RX11, .code yX11_behind cX11_behind 4 (some .int), .methodLink RX11 257 yX11_wordMany, .instanceMethod yX11_wordMany, .selects RX11 yX11_wordMany yX11_wordMany, .code yX11_wordMany cX11_wordMany 1 (some .int), .fieldLink RX11 20 "LastLetterModel" "words" "[I", .methodLink RX11 291 yX11_isAfter, .instanceMethod yX11_isAfter, .selects RX11 yX11_isAfter yX11_isAfter, .code yX11_isAfter cX11_isAfter 3 (some .boolean), .fieldLink RX11 56 "LastLetterModel" "follow" "[I", .methodLink RX11 288 yX11_leftOf, .instanceMethod yX11_leftOf, .selects RX11 yX11_leftOf yX11_leftOf, .code yX11_leftOf cX11_leftOf 2 (some .int), .fieldLink RX11 36 "LastLetterModel" "times" "[I", .fieldLink RX11 62 "LastLetterModel" "said" "[I"] ++ wsX110)
def wsX11_chooses_r1 : List Cond := [Cond.methodLink RX11 308 yX11_bitsOf, Cond.static yX11_bitsOf, Cond.initialized RX11, Cond.code yX11_bitsOf cX11_bitsOf 3 (some .int), Cond.methodLink RX11 311 yX11_draw, Cond.instanceMethod yX11_draw, Cond.selects RX11 yX11_draw yX11_draw, Cond.code yX11_draw cX11_draw 2 (some .int), Cond.fieldLink RX11 65 "LastLetterModel" "w" "I", Cond.constant RX11 304 (1103515245), Cond.methodLink RX11 257 yX11_wordMany, Cond.instanceMethod yX11_wordMany, Cond.selects RX11 yX11_wordMany yX11_wordMany, Cond.code yX11_wordMany cX11_wordMany 1 (some .int), Cond.fieldLink RX11 20 "LastLetterModel" "words" "[I", Cond.fieldLink RX11 188 "LastLetterModel" "bank" "I", Cond.methodLink RX11 314 yX11_weighed, Cond.instanceMethod yX11_weighed, Cond.selects RX11 yX11_weighed yX11_weighed, Cond.code yX11_weighed cX11_weighed 3 (some .int), Cond.fieldLink RX11 33 "LastLetterModel" "worth" "[I", Cond.methodLink RX11 305 yX11_behind, Cond.instanceMethod yX11_behind, Cond.selects RX11 yX11_behind yX11_behind]
def wsX11_chooses_r2 : List Cond := [Cond.code yX11_behind cX11_behind 4 (some .int), Cond.methodLink RX11 291 yX11_isAfter, Cond.instanceMethod yX11_isAfter, Cond.selects RX11 yX11_isAfter yX11_isAfter, Cond.code yX11_isAfter cX11_isAfter 3 (some .boolean), Cond.fieldLink RX11 56 "LastLetterModel" "follow" "[I", Cond.methodLink RX11 288 yX11_leftOf, Cond.instanceMethod yX11_leftOf, Cond.selects RX11 yX11_leftOf yX11_leftOf, Cond.code yX11_leftOf cX11_leftOf 2 (some .int), Cond.fieldLink RX11 36 "LastLetterModel" "times" "[I", Cond.fieldLink RX11 62 "LastLetterModel" "said" "[I"]
def wsX11_chooses : List Cond := .code yX11_chooses cX11_chooses 5 (some .int) :: ((wsX11_chooses_r1 ++ wsX11_chooses_r2) ++ wsX110)
def wsX11_talk_r1 : List Cond := [Cond.methodLink RX11 260 yX11_isIn, Cond.static yX11_isIn, Cond.initialized RX11, Cond.code yX11_isIn cX11_isIn 3 (some .boolean), Cond.methodLink RX11 294 yX11_mayNow, Cond.instanceMethod yX11_mayNow, Cond.selects RX11 yX11_mayNow yX11_mayNow, Cond.code yX11_mayNow cX11_mayNow 3 (some .int), Cond.fieldLink RX11 276 "LastLetterModel" "latest" "I", Cond.methodLink RX11 257 yX11_wordMany, Cond.instanceMethod yX11_wordMany, Cond.selects RX11 yX11_wordMany yX11_wordMany, Cond.code yX11_wordMany cX11_wordMany 1 (some .int), Cond.fieldLink RX11 20 "LastLetterModel" "words" "[I", Cond.fieldLink RX11 188 "LastLetterModel" "bank" "I", Cond.methodLink RX11 288 yX11_leftOf, Cond.instanceMethod yX11_leftOf, Cond.selects RX11 yX11_leftOf yX11_leftOf, Cond.code yX11_leftOf cX11_leftOf 2 (some .int), Cond.fieldLink RX11 36 "LastLetterModel" "times" "[I", Cond.fieldLink RX11 62 "LastLetterModel" "said" "[I", Cond.methodLink RX11 291 yX11_isAfter, Cond.instanceMethod yX11_isAfter, Cond.selects RX11 yX11_isAfter yX11_isAfter]
def wsX11_talk_r2 : List Cond := [Cond.code yX11_isAfter cX11_isAfter 3 (some .boolean), Cond.fieldLink RX11 56 "LastLetterModel" "follow" "[I", Cond.methodLink RX11 317 yX11_chooses, Cond.instanceMethod yX11_chooses, Cond.selects RX11 yX11_chooses yX11_chooses, Cond.code yX11_chooses cX11_chooses 5 (some .int), Cond.methodLink RX11 308 yX11_bitsOf, Cond.static yX11_bitsOf, Cond.code yX11_bitsOf cX11_bitsOf 3 (some .int), Cond.methodLink RX11 311 yX11_draw, Cond.instanceMethod yX11_draw, Cond.selects RX11 yX11_draw yX11_draw, Cond.code yX11_draw cX11_draw 2 (some .int), Cond.fieldLink RX11 65 "LastLetterModel" "w" "I", Cond.constant RX11 304 (1103515245), Cond.methodLink RX11 314 yX11_weighed, Cond.instanceMethod yX11_weighed, Cond.selects RX11 yX11_weighed yX11_weighed, Cond.code yX11_weighed cX11_weighed 3 (some .int), Cond.fieldLink RX11 33 "LastLetterModel" "worth" "[I", Cond.methodLink RX11 305 yX11_behind, Cond.instanceMethod yX11_behind, Cond.selects RX11 yX11_behind yX11_behind, Cond.code yX11_behind cX11_behind 4 (some .int)]
def wsX11_talk_r3 : List Cond := [Cond.methodLink RX11 300 yX11_says, Cond.instanceMethod yX11_says, Cond.selects RX11 yX11_says yX11_says, Cond.code yX11_says cX11_says 2 none, Cond.fieldLink RX11 279 "LastLetterModel" "talked" "I", Cond.fieldLink RX11 282 "LastLetterModel" "sum" "I", Cond.fieldLink RX11 285 "LastLetterModel" "doneSet" "I", Cond.methodLink RX11 297 yX11_doneBy, Cond.instanceMethod yX11_doneBy, Cond.selects RX11 yX11_doneBy yX11_doneBy, Cond.code yX11_doneBy cX11_doneBy 6 (some .int), Cond.fieldLink RX11 24 "LastLetterModel" "errands" "[I", Cond.fieldLink RX11 39 "LastLetterModel" "eWord" "[I", Cond.fieldLink RX11 42 "LastLetterModel" "eAfter" "[I"]
def wsX11_talk : List Cond := .code yX11_talk cX11_talk 4 (some .int) :: ((wsX11_talk_r1 ++ (wsX11_talk_r2 ++ wsX11_talk_r3)) ++ wsX110)
def wsX11_word : List Cond := .code yX11_word cX11_word 3 (some .int) :: ([.fieldLink RX11 62 "LastLetterModel" "said" "[I", .methodLink RX11 273 yX11_isWordNumber, .instanceMethod yX11_isWordNumber, .selects RX11 yX11_isWordNumber yX11_isWordNumber, .initialized RX11, .code yX11_isWordNumber cX11_isWordNumber 2 (some .boolean), .methodLink RX11 257 yX11_wordMany, .instanceMethod yX11_wordMany, .selects RX11 yX11_wordMany yX11_wordMany, .code yX11_wordMany cX11_wordMany 1 (some .int), .fieldLink RX11 20 "LastLetterModel" "words" "[I", .fieldLink RX11 188 "LastLetterModel" "bank" "I", .methodLink RX11 260 yX11_isIn, .static yX11_isIn, .code yX11_isIn cX11_isIn 3 (some .boolean), .methodLink RX11 288 yX11_leftOf, .instanceMethod yX11_leftOf, .selects RX11 yX11_leftOf yX11_leftOf, .code yX11_leftOf cX11_leftOf 2 (some .int), .fieldLink RX11 36 "LastLetterModel" "times" "[I"] ++ wsX110)
def wsX11_isMany : List Cond := .code yX11_isMany cX11_isMany 1 (some .boolean) :: ([.methodLink RX11 257 yX11_wordMany, .instanceMethod yX11_wordMany, .selects RX11 yX11_wordMany yX11_wordMany, .initialized RX11, .code yX11_wordMany cX11_wordMany 1 (some .int), .fieldLink RX11 20 "LastLetterModel" "words" "[I", .fieldLink RX11 188 "LastLetterModel" "bank" "I"] ++ wsX110)
def wsX11_gives : List Cond := .code yX11_gives cX11_gives 3 (some .int) :: ([.fieldLink RX11 33 "LastLetterModel" "worth" "[I", .fieldLink RX11 188 "LastLetterModel" "bank" "I"] ++ wsX110)
def wsX11_layMore : List Cond := .code yX11_layMore cX11_layMore 8 none :: ([.fieldLink RX11 69 "LastLetterModel" "more" "[I", .methodLink RX11 257 yX11_wordMany, .instanceMethod yX11_wordMany, .selects RX11 yX11_wordMany yX11_wordMany, .initialized RX11, .code yX11_wordMany cX11_wordMany 1 (some .int), .fieldLink RX11 20 "LastLetterModel" "words" "[I", .fieldLink RX11 188 "LastLetterModel" "bank" "I", .methodLink RX11 291 yX11_isAfter, .instanceMethod yX11_isAfter, .selects RX11 yX11_isAfter yX11_isAfter, .code yX11_isAfter cX11_isAfter 3 (some .boolean), .fieldLink RX11 56 "LastLetterModel" "follow" "[I", .methodLink RX11 320 yX11_gives, .instanceMethod yX11_gives, .selects RX11 yX11_gives yX11_gives, .code yX11_gives cX11_gives 3 (some .int), .fieldLink RX11 33 "LastLetterModel" "worth" "[I"] ++ wsX110)
def wsX11_lay : List Cond := .code yX11_lay cX11_lay 2 none :: ([.fieldLink RX11 72 "LastLetterModel" "laidRow" "[I", .fieldLink RX11 197 "LastLetterModel" "laid" "I"] ++ wsX110)
def wsX11_layBest_r1 : List Cond := [Cond.fieldLink RX11 197 "LastLetterModel" "laid" "I", Cond.fieldLink RX11 69 "LastLetterModel" "more" "[I", Cond.methodLink RX11 257 yX11_wordMany, Cond.instanceMethod yX11_wordMany, Cond.selects RX11 yX11_wordMany yX11_wordMany, Cond.initialized RX11, Cond.code yX11_wordMany cX11_wordMany 1 (some .int), Cond.fieldLink RX11 20 "LastLetterModel" "words" "[I", Cond.fieldLink RX11 188 "LastLetterModel" "bank" "I", Cond.methodLink RX11 324 yX11_layMore, Cond.instanceMethod yX11_layMore, Cond.selects RX11 yX11_layMore yX11_layMore, Cond.code yX11_layMore cX11_layMore 8 none, Cond.methodLink RX11 291 yX11_isAfter, Cond.instanceMethod yX11_isAfter, Cond.selects RX11 yX11_isAfter yX11_isAfter, Cond.code yX11_isAfter cX11_isAfter 3 (some .boolean), Cond.fieldLink RX11 56 "LastLetterModel" "follow" "[I", Cond.methodLink RX11 320 yX11_gives, Cond.instanceMethod yX11_gives, Cond.selects RX11 yX11_gives yX11_gives, Cond.code yX11_gives cX11_gives 3 (some .int), Cond.fieldLink RX11 33 "LastLetterModel" "worth" "[I", Cond.methodLink RX11 327 yX11_lay]
def wsX11_layBest_r2 : List Cond := [Cond.instanceMethod yX11_lay, Cond.selects RX11 yX11_lay yX11_lay, Cond.code yX11_lay cX11_lay 2 none, Cond.fieldLink RX11 72 "LastLetterModel" "laidRow" "[I"]
def wsX11_layBest : List Cond := .code yX11_layBest cX11_layBest 8 (some .int) :: ((wsX11_layBest_r1 ++ wsX11_layBest_r2) ++ wsX110)
def wsX11_longest_r1 : List Cond := [Cond.fieldLink RX11 197 "LastLetterModel" "laid" "I", Cond.methodLink RX11 330 yX11_isMany, Cond.instanceMethod yX11_isMany, Cond.selects RX11 yX11_isMany yX11_isMany, Cond.initialized RX11, Cond.code yX11_isMany cX11_isMany 1 (some .boolean), Cond.methodLink RX11 257 yX11_wordMany, Cond.instanceMethod yX11_wordMany, Cond.selects RX11 yX11_wordMany yX11_wordMany, Cond.code yX11_wordMany cX11_wordMany 1 (some .int), Cond.fieldLink RX11 20 "LastLetterModel" "words" "[I", Cond.fieldLink RX11 188 "LastLetterModel" "bank" "I", Cond.methodLink RX11 333 yX11_layBest, Cond.instanceMethod yX11_layBest, Cond.selects RX11 yX11_layBest yX11_layBest, Cond.code yX11_layBest cX11_layBest 8 (some .int), Cond.fieldLink RX11 69 "LastLetterModel" "more" "[I", Cond.methodLink RX11 324 yX11_layMore, Cond.instanceMethod yX11_layMore, Cond.selects RX11 yX11_layMore yX11_layMore, Cond.code yX11_layMore cX11_layMore 8 none, Cond.methodLink RX11 291 yX11_isAfter, Cond.instanceMethod yX11_isAfter, Cond.selects RX11 yX11_isAfter yX11_isAfter]
def wsX11_longest_r2 : List Cond := [Cond.code yX11_isAfter cX11_isAfter 3 (some .boolean), Cond.fieldLink RX11 56 "LastLetterModel" "follow" "[I", Cond.methodLink RX11 320 yX11_gives, Cond.instanceMethod yX11_gives, Cond.selects RX11 yX11_gives yX11_gives, Cond.code yX11_gives cX11_gives 3 (some .int), Cond.fieldLink RX11 33 "LastLetterModel" "worth" "[I", Cond.methodLink RX11 327 yX11_lay, Cond.instanceMethod yX11_lay, Cond.selects RX11 yX11_lay yX11_lay, Cond.code yX11_lay cX11_lay 2 none, Cond.fieldLink RX11 72 "LastLetterModel" "laidRow" "[I"]
def wsX11_longest : List Cond := .code yX11_longest cX11_longest 1 (some .int) :: ((wsX11_longest_r1 ++ wsX11_longest_r2) ++ wsX110)
def wsX11_worthy_r1 : List Cond := [Cond.fieldLink RX11 197 "LastLetterModel" "laid" "I", Cond.methodLink RX11 330 yX11_isMany, Cond.instanceMethod yX11_isMany, Cond.selects RX11 yX11_isMany yX11_isMany, Cond.initialized RX11, Cond.code yX11_isMany cX11_isMany 1 (some .boolean), Cond.methodLink RX11 257 yX11_wordMany, Cond.instanceMethod yX11_wordMany, Cond.selects RX11 yX11_wordMany yX11_wordMany, Cond.code yX11_wordMany cX11_wordMany 1 (some .int), Cond.fieldLink RX11 20 "LastLetterModel" "words" "[I", Cond.fieldLink RX11 188 "LastLetterModel" "bank" "I", Cond.methodLink RX11 333 yX11_layBest, Cond.instanceMethod yX11_layBest, Cond.selects RX11 yX11_layBest yX11_layBest, Cond.code yX11_layBest cX11_layBest 8 (some .int), Cond.fieldLink RX11 69 "LastLetterModel" "more" "[I", Cond.methodLink RX11 324 yX11_layMore, Cond.instanceMethod yX11_layMore, Cond.selects RX11 yX11_layMore yX11_layMore, Cond.code yX11_layMore cX11_layMore 8 none, Cond.methodLink RX11 291 yX11_isAfter, Cond.instanceMethod yX11_isAfter, Cond.selects RX11 yX11_isAfter yX11_isAfter]
def wsX11_worthy_r2 : List Cond := [Cond.code yX11_isAfter cX11_isAfter 3 (some .boolean), Cond.fieldLink RX11 56 "LastLetterModel" "follow" "[I", Cond.methodLink RX11 320 yX11_gives, Cond.instanceMethod yX11_gives, Cond.selects RX11 yX11_gives yX11_gives, Cond.code yX11_gives cX11_gives 3 (some .int), Cond.fieldLink RX11 33 "LastLetterModel" "worth" "[I", Cond.methodLink RX11 327 yX11_lay, Cond.instanceMethod yX11_lay, Cond.selects RX11 yX11_lay yX11_lay, Cond.code yX11_lay cX11_lay 2 none, Cond.fieldLink RX11 72 "LastLetterModel" "laidRow" "[I"]
def wsX11_worthy : List Cond := .code yX11_worthy cX11_worthy 1 (some .int) :: ((wsX11_worthy_r1 ++ wsX11_worthy_r2) ++ wsX110)
def wsX11_layRound : List Cond := .code yX11_layRound cX11_layRound 7 (some .boolean) :: ([.fieldLink RX11 69 "LastLetterModel" "more" "[I", .methodLink RX11 291 yX11_isAfter, .instanceMethod yX11_isAfter, .selects RX11 yX11_isAfter yX11_isAfter, .initialized RX11, .code yX11_isAfter cX11_isAfter 3 (some .boolean), .fieldLink RX11 56 "LastLetterModel" "follow" "[I", .methodLink RX11 327 yX11_lay, .instanceMethod yX11_lay, .selects RX11 yX11_lay yX11_lay, .code yX11_lay cX11_lay 2 none, .fieldLink RX11 72 "LastLetterModel" "laidRow" "[I", .fieldLink RX11 197 "LastLetterModel" "laid" "I"] ++ wsX110)
def wsX11_all_r1 : List Cond := [Cond.fieldLink RX11 197 "LastLetterModel" "laid" "I", Cond.methodLink RX11 330 yX11_isMany, Cond.instanceMethod yX11_isMany, Cond.selects RX11 yX11_isMany yX11_isMany, Cond.initialized RX11, Cond.code yX11_isMany cX11_isMany 1 (some .boolean), Cond.methodLink RX11 257 yX11_wordMany, Cond.instanceMethod yX11_wordMany, Cond.selects RX11 yX11_wordMany yX11_wordMany, Cond.code yX11_wordMany cX11_wordMany 1 (some .int), Cond.fieldLink RX11 20 "LastLetterModel" "words" "[I", Cond.fieldLink RX11 188 "LastLetterModel" "bank" "I", Cond.methodLink RX11 333 yX11_layBest, Cond.instanceMethod yX11_layBest, Cond.selects RX11 yX11_layBest yX11_layBest, Cond.code yX11_layBest cX11_layBest 8 (some .int), Cond.fieldLink RX11 69 "LastLetterModel" "more" "[I", Cond.methodLink RX11 324 yX11_layMore, Cond.instanceMethod yX11_layMore, Cond.selects RX11 yX11_layMore yX11_layMore, Cond.code yX11_layMore cX11_layMore 8 none, Cond.methodLink RX11 291 yX11_isAfter, Cond.instanceMethod yX11_isAfter, Cond.selects RX11 yX11_isAfter yX11_isAfter]
def wsX11_all_r2 : List Cond := [Cond.code yX11_isAfter cX11_isAfter 3 (some .boolean), Cond.fieldLink RX11 56 "LastLetterModel" "follow" "[I", Cond.methodLink RX11 320 yX11_gives, Cond.instanceMethod yX11_gives, Cond.selects RX11 yX11_gives yX11_gives, Cond.code yX11_gives cX11_gives 3 (some .int), Cond.fieldLink RX11 33 "LastLetterModel" "worth" "[I", Cond.methodLink RX11 327 yX11_lay, Cond.instanceMethod yX11_lay, Cond.selects RX11 yX11_lay yX11_lay, Cond.code yX11_lay cX11_lay 2 none, Cond.fieldLink RX11 72 "LastLetterModel" "laidRow" "[I", Cond.methodLink RX11 337 yX11_layRound, Cond.instanceMethod yX11_layRound, Cond.selects RX11 yX11_layRound yX11_layRound, Cond.code yX11_layRound cX11_layRound 7 (some .boolean)]
def wsX11_all : List Cond := .code yX11_all cX11_all 3 (some .int) :: ((wsX11_all_r1 ++ wsX11_all_r2) ++ wsX110)
def wsX11_layBreaks : List Cond := .code yX11_layBreaks cX11_layBreaks 7 none :: ([.fieldLink RX11 69 "LastLetterModel" "more" "[I", .methodLink RX11 257 yX11_wordMany, .instanceMethod yX11_wordMany, .selects RX11 yX11_wordMany yX11_wordMany, .initialized RX11, .code yX11_wordMany cX11_wordMany 1 (some .int), .fieldLink RX11 20 "LastLetterModel" "words" "[I", .fieldLink RX11 188 "LastLetterModel" "bank" "I", .methodLink RX11 291 yX11_isAfter, .instanceMethod yX11_isAfter, .selects RX11 yX11_isAfter yX11_isAfter, .code yX11_isAfter cX11_isAfter 3 (some .boolean), .fieldLink RX11 56 "LastLetterModel" "follow" "[I"] ++ wsX110)
def wsX11_parted_r1 : List Cond := [Cond.fieldLink RX11 197 "LastLetterModel" "laid" "I", Cond.fieldLink RX11 69 "LastLetterModel" "more" "[I", Cond.methodLink RX11 330 yX11_isMany, Cond.instanceMethod yX11_isMany, Cond.selects RX11 yX11_isMany yX11_isMany, Cond.initialized RX11, Cond.code yX11_isMany cX11_isMany 1 (some .boolean), Cond.methodLink RX11 257 yX11_wordMany, Cond.instanceMethod yX11_wordMany, Cond.selects RX11 yX11_wordMany yX11_wordMany, Cond.code yX11_wordMany cX11_wordMany 1 (some .int), Cond.fieldLink RX11 20 "LastLetterModel" "words" "[I", Cond.fieldLink RX11 188 "LastLetterModel" "bank" "I", Cond.methodLink RX11 340 yX11_layBreaks, Cond.instanceMethod yX11_layBreaks, Cond.selects RX11 yX11_layBreaks yX11_layBreaks, Cond.code yX11_layBreaks cX11_layBreaks 7 none, Cond.methodLink RX11 291 yX11_isAfter, Cond.instanceMethod yX11_isAfter, Cond.selects RX11 yX11_isAfter yX11_isAfter, Cond.code yX11_isAfter cX11_isAfter 3 (some .boolean), Cond.fieldLink RX11 56 "LastLetterModel" "follow" "[I", Cond.methodLink RX11 327 yX11_lay, Cond.instanceMethod yX11_lay]
def wsX11_parted_r2 : List Cond := [Cond.selects RX11 yX11_lay yX11_lay, Cond.code yX11_lay cX11_lay 2 none, Cond.fieldLink RX11 72 "LastLetterModel" "laidRow" "[I"]
def wsX11_parted : List Cond := .code yX11_parted cX11_parted 6 (some .int) :: ((wsX11_parted_r1 ++ wsX11_parted_r2) ++ wsX110)
def wsX11_longestBut : List Cond := .code yX11_longestBut cX11_longestBut 4 (some .int) :: ([.fieldLink RX11 69 "LastLetterModel" "more" "[I", .methodLink RX11 257 yX11_wordMany, .instanceMethod yX11_wordMany, .selects RX11 yX11_wordMany yX11_wordMany, .initialized RX11, .code yX11_wordMany cX11_wordMany 1 (some .int), .fieldLink RX11 20 "LastLetterModel" "words" "[I", .fieldLink RX11 188 "LastLetterModel" "bank" "I"] ++ wsX110)
def wsX11_missed_r1 : List Cond := [Cond.fieldLink RX11 197 "LastLetterModel" "laid" "I", Cond.methodLink RX11 273 yX11_isWordNumber, Cond.instanceMethod yX11_isWordNumber, Cond.selects RX11 yX11_isWordNumber yX11_isWordNumber, Cond.initialized RX11, Cond.code yX11_isWordNumber cX11_isWordNumber 2 (some .boolean), Cond.methodLink RX11 257 yX11_wordMany, Cond.instanceMethod yX11_wordMany, Cond.selects RX11 yX11_wordMany yX11_wordMany, Cond.code yX11_wordMany cX11_wordMany 1 (some .int), Cond.fieldLink RX11 20 "LastLetterModel" "words" "[I", Cond.fieldLink RX11 188 "LastLetterModel" "bank" "I", Cond.methodLink RX11 260 yX11_isIn, Cond.static yX11_isIn, Cond.code yX11_isIn cX11_isIn 3 (some .boolean), Cond.methodLink RX11 330 yX11_isMany, Cond.instanceMethod yX11_isMany, Cond.selects RX11 yX11_isMany yX11_isMany, Cond.code yX11_isMany cX11_isMany 1 (some .boolean), Cond.methodLink RX11 324 yX11_layMore, Cond.instanceMethod yX11_layMore, Cond.selects RX11 yX11_layMore yX11_layMore, Cond.code yX11_layMore cX11_layMore 8 none, Cond.fieldLink RX11 69 "LastLetterModel" "more" "[I"]
def wsX11_missed_r2 : List Cond := [Cond.methodLink RX11 291 yX11_isAfter, Cond.instanceMethod yX11_isAfter, Cond.selects RX11 yX11_isAfter yX11_isAfter, Cond.code yX11_isAfter cX11_isAfter 3 (some .boolean), Cond.fieldLink RX11 56 "LastLetterModel" "follow" "[I", Cond.methodLink RX11 320 yX11_gives, Cond.instanceMethod yX11_gives, Cond.selects RX11 yX11_gives yX11_gives, Cond.code yX11_gives cX11_gives 3 (some .int), Cond.fieldLink RX11 33 "LastLetterModel" "worth" "[I", Cond.methodLink RX11 343 yX11_longestBut, Cond.instanceMethod yX11_longestBut, Cond.selects RX11 yX11_longestBut yX11_longestBut, Cond.code yX11_longestBut cX11_longestBut 4 (some .int)]
def wsX11_missed : List Cond := .code yX11_missed cX11_missed 2 (some .int) :: ((wsX11_missed_r1 ++ wsX11_missed_r2) ++ wsX110)
def wsX11_lies : List Cond := .code yX11_lies cX11_lies 2 (some .int) :: ([.fieldLink RX11 197 "LastLetterModel" "laid" "I", .fieldLink RX11 72 "LastLetterModel" "laidRow" "[I", .methodLink RX11 260 yX11_isIn, .static yX11_isIn, .initialized RX11, .code yX11_isIn cX11_isIn 3 (some .boolean)] ++ wsX110)
def wsX11_surplusOf : List Cond := .code yX11_surplusOf cX11_surplusOf 4 (some .int) :: ([.methodLink RX11 257 yX11_wordMany, .instanceMethod yX11_wordMany, .selects RX11 yX11_wordMany yX11_wordMany, .initialized RX11, .code yX11_wordMany cX11_wordMany 1 (some .int), .fieldLink RX11 20 "LastLetterModel" "words" "[I", .fieldLink RX11 188 "LastLetterModel" "bank" "I", .methodLink RX11 266 yX11_soundOf, .instanceMethod yX11_soundOf, .selects RX11 yX11_soundOf yX11_soundOf, .code yX11_soundOf cX11_soundOf 4 (some .int), .fieldLink RX11 59 "LastLetterModel" "lengths" "[I", .fieldLink RX11 45 "LastLetterModel" "sound" "[I", .fieldLink RX11 52 "LastLetterModel" "wName" "[J", .constantLong RX11 264 (255)] ++ wsX110)
def wsX11_surplus : List Cond := .code yX11_surplus cX11_surplus 2 (some .int) :: ([.fieldLink RX11 45 "LastLetterModel" "sound" "[I", .fieldLink RX11 188 "LastLetterModel" "bank" "I", .methodLink RX11 260 yX11_isIn, .static yX11_isIn, .initialized RX11, .code yX11_isIn cX11_isIn 3 (some .boolean), .methodLink RX11 346 yX11_surplusOf, .instanceMethod yX11_surplusOf, .selects RX11 yX11_surplusOf yX11_surplusOf, .code yX11_surplusOf cX11_surplusOf 4 (some .int), .methodLink RX11 257 yX11_wordMany, .instanceMethod yX11_wordMany, .selects RX11 yX11_wordMany yX11_wordMany, .code yX11_wordMany cX11_wordMany 1 (some .int), .fieldLink RX11 20 "LastLetterModel" "words" "[I", .methodLink RX11 266 yX11_soundOf, .instanceMethod yX11_soundOf, .selects RX11 yX11_soundOf yX11_soundOf, .code yX11_soundOf cX11_soundOf 4 (some .int), .fieldLink RX11 59 "LastLetterModel" "lengths" "[I", .fieldLink RX11 52 "LastLetterModel" "wName" "[J", .constantLong RX11 264 (255)] ++ wsX110)
def wsX11_mended : List Cond := .code yX11_mended cX11_mended 8 (some .int) :: ([.fieldLink RX11 75 "LastLetterModel" "piece" "[I", .methodLink RX11 257 yX11_wordMany, .instanceMethod yX11_wordMany, .selects RX11 yX11_wordMany yX11_wordMany, .initialized RX11, .code yX11_wordMany cX11_wordMany 1 (some .int), .fieldLink RX11 20 "LastLetterModel" "words" "[I", .fieldLink RX11 188 "LastLetterModel" "bank" "I", .methodLink RX11 266 yX11_soundOf, .instanceMethod yX11_soundOf, .selects RX11 yX11_soundOf yX11_soundOf, .code yX11_soundOf cX11_soundOf 4 (some .int), .fieldLink RX11 59 "LastLetterModel" "lengths" "[I", .fieldLink RX11 45 "LastLetterModel" "sound" "[I", .fieldLink RX11 52 "LastLetterModel" "wName" "[J", .constantLong RX11 264 (255), .methodLink RX11 346 yX11_surplusOf, .instanceMethod yX11_surplusOf, .selects RX11 yX11_surplusOf yX11_surplusOf, .code yX11_surplusOf cX11_surplusOf 4 (some .int)] ++ wsX110)
def wsX11_layFar : List Cond := .code yX11_layFar cX11_layFar 8 none :: ([.fieldLink RX11 78 "LastLetterModel" "far" "[I", .methodLink RX11 257 yX11_wordMany, .instanceMethod yX11_wordMany, .selects RX11 yX11_wordMany yX11_wordMany, .initialized RX11, .code yX11_wordMany cX11_wordMany 1 (some .int), .fieldLink RX11 20 "LastLetterModel" "words" "[I", .fieldLink RX11 188 "LastLetterModel" "bank" "I", .methodLink RX11 291 yX11_isAfter, .instanceMethod yX11_isAfter, .selects RX11 yX11_isAfter yX11_isAfter, .code yX11_isAfter cX11_isAfter 3 (some .boolean), .fieldLink RX11 56 "LastLetterModel" "follow" "[I", .methodLink RX11 297 yX11_doneBy, .instanceMethod yX11_doneBy, .selects RX11 yX11_doneBy yX11_doneBy, .code yX11_doneBy cX11_doneBy 6 (some .int), .fieldLink RX11 24 "LastLetterModel" "errands" "[I", .fieldLink RX11 39 "LastLetterModel" "eWord" "[I", .fieldLink RX11 42 "LastLetterModel" "eAfter" "[I"] ++ wsX110)
def wsX11_telling_r1 : List Cond := [Cond.fieldLink RX11 197 "LastLetterModel" "laid" "I", Cond.fieldLink RX11 24 "LastLetterModel" "errands" "[I", Cond.fieldLink RX11 188 "LastLetterModel" "bank" "I", Cond.fieldLink RX11 78 "LastLetterModel" "far" "[I", Cond.methodLink RX11 349 yX11_layFar, Cond.instanceMethod yX11_layFar, Cond.selects RX11 yX11_layFar yX11_layFar, Cond.initialized RX11, Cond.code yX11_layFar cX11_layFar 8 none, Cond.methodLink RX11 257 yX11_wordMany, Cond.instanceMethod yX11_wordMany, Cond.selects RX11 yX11_wordMany yX11_wordMany, Cond.code yX11_wordMany cX11_wordMany 1 (some .int), Cond.fieldLink RX11 20 "LastLetterModel" "words" "[I", Cond.methodLink RX11 291 yX11_isAfter, Cond.instanceMethod yX11_isAfter, Cond.selects RX11 yX11_isAfter yX11_isAfter, Cond.code yX11_isAfter cX11_isAfter 3 (some .boolean), Cond.fieldLink RX11 56 "LastLetterModel" "follow" "[I", Cond.methodLink RX11 297 yX11_doneBy, Cond.instanceMethod yX11_doneBy, Cond.selects RX11 yX11_doneBy yX11_doneBy, Cond.code yX11_doneBy cX11_doneBy 6 (some .int), Cond.fieldLink RX11 39 "LastLetterModel" "eWord" "[I"]
def wsX11_telling_r2 : List Cond := [Cond.fieldLink RX11 42 "LastLetterModel" "eAfter" "[I", Cond.methodLink RX11 327 yX11_lay, Cond.instanceMethod yX11_lay, Cond.selects RX11 yX11_lay yX11_lay, Cond.code yX11_lay cX11_lay 2 none, Cond.fieldLink RX11 72 "LastLetterModel" "laidRow" "[I"]
def wsX11_telling : List Cond := .code yX11_telling cX11_telling 7 (some .int) :: ((wsX11_telling_r1 ++ wsX11_telling_r2) ++ wsX110)
def wsX11_join_r1 : List Cond := [Cond.fieldLink RX11 197 "LastLetterModel" "laid" "I", Cond.fieldLink RX11 81 "LastLetterModel" "steps" "[I", Cond.methodLink RX11 273 yX11_isWordNumber, Cond.instanceMethod yX11_isWordNumber, Cond.selects RX11 yX11_isWordNumber yX11_isWordNumber, Cond.initialized RX11, Cond.code yX11_isWordNumber cX11_isWordNumber 2 (some .boolean), Cond.methodLink RX11 257 yX11_wordMany, Cond.instanceMethod yX11_wordMany, Cond.selects RX11 yX11_wordMany yX11_wordMany, Cond.code yX11_wordMany cX11_wordMany 1 (some .int), Cond.fieldLink RX11 20 "LastLetterModel" "words" "[I", Cond.fieldLink RX11 188 "LastLetterModel" "bank" "I", Cond.methodLink RX11 260 yX11_isIn, Cond.static yX11_isIn, Cond.code yX11_isIn cX11_isIn 3 (some .boolean), Cond.methodLink RX11 291 yX11_isAfter, Cond.instanceMethod yX11_isAfter, Cond.selects RX11 yX11_isAfter yX11_isAfter, Cond.code yX11_isAfter cX11_isAfter 3 (some .boolean), Cond.fieldLink RX11 56 "LastLetterModel" "follow" "[I", Cond.methodLink RX11 327 yX11_lay, Cond.instanceMethod yX11_lay, Cond.selects RX11 yX11_lay yX11_lay]
def wsX11_join_r2 : List Cond := [Cond.code yX11_lay cX11_lay 2 none, Cond.fieldLink RX11 72 "LastLetterModel" "laidRow" "[I"]
def wsX11_join : List Cond := .code yX11_join cX11_join 7 (some .int) :: ((wsX11_join_r1 ++ wsX11_join_r2) ++ wsX110)
def wsX11_layGame : List Cond := .code yX11_layGame cX11_layGame 6 none :: ([.fieldLink RX11 69 "LastLetterModel" "more" "[I", .methodLink RX11 257 yX11_wordMany, .instanceMethod yX11_wordMany, .selects RX11 yX11_wordMany yX11_wordMany, .initialized RX11, .code yX11_wordMany cX11_wordMany 1 (some .int), .fieldLink RX11 20 "LastLetterModel" "words" "[I", .fieldLink RX11 188 "LastLetterModel" "bank" "I", .methodLink RX11 291 yX11_isAfter, .instanceMethod yX11_isAfter, .selects RX11 yX11_isAfter yX11_isAfter, .code yX11_isAfter cX11_isAfter 3 (some .boolean), .fieldLink RX11 56 "LastLetterModel" "follow" "[I"] ++ wsX110)
def wsX11_game_r1 : List Cond := [Cond.fieldLink RX11 69 "LastLetterModel" "more" "[I", Cond.methodLink RX11 273 yX11_isWordNumber, Cond.instanceMethod yX11_isWordNumber, Cond.selects RX11 yX11_isWordNumber yX11_isWordNumber, Cond.initialized RX11, Cond.code yX11_isWordNumber cX11_isWordNumber 2 (some .boolean), Cond.methodLink RX11 257 yX11_wordMany, Cond.instanceMethod yX11_wordMany, Cond.selects RX11 yX11_wordMany yX11_wordMany, Cond.code yX11_wordMany cX11_wordMany 1 (some .int), Cond.fieldLink RX11 20 "LastLetterModel" "words" "[I", Cond.fieldLink RX11 188 "LastLetterModel" "bank" "I", Cond.methodLink RX11 260 yX11_isIn, Cond.static yX11_isIn, Cond.code yX11_isIn cX11_isIn 3 (some .boolean), Cond.methodLink RX11 330 yX11_isMany, Cond.instanceMethod yX11_isMany, Cond.selects RX11 yX11_isMany yX11_isMany, Cond.code yX11_isMany cX11_isMany 1 (some .boolean), Cond.methodLink RX11 352 yX11_layGame, Cond.instanceMethod yX11_layGame, Cond.selects RX11 yX11_layGame yX11_layGame, Cond.code yX11_layGame cX11_layGame 6 none, Cond.methodLink RX11 291 yX11_isAfter]
def wsX11_game_r2 : List Cond := [Cond.instanceMethod yX11_isAfter, Cond.selects RX11 yX11_isAfter yX11_isAfter, Cond.code yX11_isAfter cX11_isAfter 3 (some .boolean), Cond.fieldLink RX11 56 "LastLetterModel" "follow" "[I"]
def wsX11_game : List Cond := .code yX11_game cX11_game 2 (some .int) :: ((wsX11_game_r1 ++ wsX11_game_r2) ++ wsX110)
def wsX11_wins_r1 : List Cond := [Cond.fieldLink RX11 69 "LastLetterModel" "more" "[I", Cond.methodLink RX11 273 yX11_isWordNumber, Cond.instanceMethod yX11_isWordNumber, Cond.selects RX11 yX11_isWordNumber yX11_isWordNumber, Cond.initialized RX11, Cond.code yX11_isWordNumber cX11_isWordNumber 2 (some .boolean), Cond.methodLink RX11 257 yX11_wordMany, Cond.instanceMethod yX11_wordMany, Cond.selects RX11 yX11_wordMany yX11_wordMany, Cond.code yX11_wordMany cX11_wordMany 1 (some .int), Cond.fieldLink RX11 20 "LastLetterModel" "words" "[I", Cond.fieldLink RX11 188 "LastLetterModel" "bank" "I", Cond.methodLink RX11 260 yX11_isIn, Cond.static yX11_isIn, Cond.code yX11_isIn cX11_isIn 3 (some .boolean), Cond.methodLink RX11 330 yX11_isMany, Cond.instanceMethod yX11_isMany, Cond.selects RX11 yX11_isMany yX11_isMany, Cond.code yX11_isMany cX11_isMany 1 (some .boolean), Cond.methodLink RX11 352 yX11_layGame, Cond.instanceMethod yX11_layGame, Cond.selects RX11 yX11_layGame yX11_layGame, Cond.code yX11_layGame cX11_layGame 6 none, Cond.methodLink RX11 291 yX11_isAfter]
def wsX11_wins_r2 : List Cond := [Cond.instanceMethod yX11_isAfter, Cond.selects RX11 yX11_isAfter yX11_isAfter, Cond.code yX11_isAfter cX11_isAfter 3 (some .boolean), Cond.fieldLink RX11 56 "LastLetterModel" "follow" "[I"]
def wsX11_wins : List Cond := .code yX11_wins cX11_wins 3 (some .int) :: ((wsX11_wins_r1 ++ wsX11_wins_r2) ++ wsX110)
def wsX11_layDeep : List Cond := .code yX11_layDeep cX11_layDeep 8 none :: ([.fieldLink RX11 69 "LastLetterModel" "more" "[I", .methodLink RX11 257 yX11_wordMany, .instanceMethod yX11_wordMany, .selects RX11 yX11_wordMany yX11_wordMany, .initialized RX11, .code yX11_wordMany cX11_wordMany 1 (some .int), .fieldLink RX11 20 "LastLetterModel" "words" "[I", .fieldLink RX11 188 "LastLetterModel" "bank" "I", .methodLink RX11 291 yX11_isAfter, .instanceMethod yX11_isAfter, .selects RX11 yX11_isAfter yX11_isAfter, .code yX11_isAfter cX11_isAfter 3 (some .boolean), .fieldLink RX11 56 "LastLetterModel" "follow" "[I"] ++ wsX110)
def wsX11_deep_r1 : List Cond := [Cond.fieldLink RX11 69 "LastLetterModel" "more" "[I", Cond.methodLink RX11 273 yX11_isWordNumber, Cond.instanceMethod yX11_isWordNumber, Cond.selects RX11 yX11_isWordNumber yX11_isWordNumber, Cond.initialized RX11, Cond.code yX11_isWordNumber cX11_isWordNumber 2 (some .boolean), Cond.methodLink RX11 257 yX11_wordMany, Cond.instanceMethod yX11_wordMany, Cond.selects RX11 yX11_wordMany yX11_wordMany, Cond.code yX11_wordMany cX11_wordMany 1 (some .int), Cond.fieldLink RX11 20 "LastLetterModel" "words" "[I", Cond.fieldLink RX11 188 "LastLetterModel" "bank" "I", Cond.methodLink RX11 260 yX11_isIn, Cond.static yX11_isIn, Cond.code yX11_isIn cX11_isIn 3 (some .boolean), Cond.methodLink RX11 330 yX11_isMany, Cond.instanceMethod yX11_isMany, Cond.selects RX11 yX11_isMany yX11_isMany, Cond.code yX11_isMany cX11_isMany 1 (some .boolean), Cond.methodLink RX11 355 yX11_layDeep, Cond.instanceMethod yX11_layDeep, Cond.selects RX11 yX11_layDeep yX11_layDeep, Cond.code yX11_layDeep cX11_layDeep 8 none, Cond.methodLink RX11 291 yX11_isAfter]
def wsX11_deep_r2 : List Cond := [Cond.instanceMethod yX11_isAfter, Cond.selects RX11 yX11_isAfter yX11_isAfter, Cond.code yX11_isAfter cX11_isAfter 3 (some .boolean), Cond.fieldLink RX11 56 "LastLetterModel" "follow" "[I"]
def wsX11_deep : List Cond := .code yX11_deep cX11_deep 2 (some .int) :: ((wsX11_deep_r1 ++ wsX11_deep_r2) ++ wsX110)
def wsX11_score_r1 : List Cond := [Cond.fieldLink RX11 33 "LastLetterModel" "worth" "[I", Cond.fieldLink RX11 188 "LastLetterModel" "bank" "I", Cond.fieldLink RX11 69 "LastLetterModel" "more" "[I", Cond.methodLink RX11 273 yX11_isWordNumber, Cond.instanceMethod yX11_isWordNumber, Cond.selects RX11 yX11_isWordNumber yX11_isWordNumber, Cond.initialized RX11, Cond.code yX11_isWordNumber cX11_isWordNumber 2 (some .boolean), Cond.methodLink RX11 257 yX11_wordMany, Cond.instanceMethod yX11_wordMany, Cond.selects RX11 yX11_wordMany yX11_wordMany, Cond.code yX11_wordMany cX11_wordMany 1 (some .int), Cond.fieldLink RX11 20 "LastLetterModel" "words" "[I", Cond.methodLink RX11 260 yX11_isIn, Cond.static yX11_isIn, Cond.code yX11_isIn cX11_isIn 3 (some .boolean), Cond.methodLink RX11 330 yX11_isMany, Cond.instanceMethod yX11_isMany, Cond.selects RX11 yX11_isMany yX11_isMany, Cond.code yX11_isMany cX11_isMany 1 (some .boolean), Cond.methodLink RX11 291 yX11_isAfter, Cond.instanceMethod yX11_isAfter, Cond.selects RX11 yX11_isAfter yX11_isAfter, Cond.code yX11_isAfter cX11_isAfter 3 (some .boolean)]
def wsX11_score_r2 : List Cond := [Cond.fieldLink RX11 56 "LastLetterModel" "follow" "[I"]
def wsX11_score : List Cond := .code yX11_score cX11_score 9 (some .int) :: ((wsX11_score_r1 ++ wsX11_score_r2) ++ wsX110)
def wsX11_again : List Cond := .code yX11_again cX11_again 8 (some .int) :: ([.fieldLink RX11 84 "LastLetterModel" "ends" "[I", .methodLink RX11 273 yX11_isWordNumber, .instanceMethod yX11_isWordNumber, .selects RX11 yX11_isWordNumber yX11_isWordNumber, .initialized RX11, .code yX11_isWordNumber cX11_isWordNumber 2 (some .boolean), .methodLink RX11 257 yX11_wordMany, .instanceMethod yX11_wordMany, .selects RX11 yX11_wordMany yX11_wordMany, .code yX11_wordMany cX11_wordMany 1 (some .int), .fieldLink RX11 20 "LastLetterModel" "words" "[I", .fieldLink RX11 188 "LastLetterModel" "bank" "I", .methodLink RX11 260 yX11_isIn, .static yX11_isIn, .code yX11_isIn cX11_isIn 3 (some .boolean), .methodLink RX11 291 yX11_isAfter, .instanceMethod yX11_isAfter, .selects RX11 yX11_isAfter yX11_isAfter, .code yX11_isAfter cX11_isAfter 3 (some .boolean), .fieldLink RX11 56 "LastLetterModel" "follow" "[I"] ++ wsX110)
def wsX11_dead : List Cond := .code yX11_dead cX11_dead 3 (some .int) :: ([.fieldLink RX11 56 "LastLetterModel" "follow" "[I", .methodLink RX11 257 yX11_wordMany, .instanceMethod yX11_wordMany, .selects RX11 yX11_wordMany yX11_wordMany, .initialized RX11, .code yX11_wordMany cX11_wordMany 1 (some .int), .fieldLink RX11 20 "LastLetterModel" "words" "[I", .fieldLink RX11 188 "LastLetterModel" "bank" "I"] ++ wsX110)
def wsX11_hear : List Cond := .code yX11_hear cX11_hear 5 (some .int) :: ([.fieldLink RX11 194 "LastLetterModel" "sounds" "I", .fieldLink RX11 87 "LastLetterModel" "hPlace" "[I", .fieldLink RX11 90 "LastLetterModel" "hWhat" "[I", .fieldLink RX11 93 "LastLetterModel" "hValue" "[I", .fieldLink RX11 96 "LastLetterModel" "hTold" "[I", .fieldLink RX11 358 "LastLetterModel" "time" "I", .fieldLink RX11 99 "LastLetterModel" "hUntold" "[I", .methodLink RX11 273 yX11_isWordNumber, .instanceMethod yX11_isWordNumber, .selects RX11 yX11_isWordNumber yX11_isWordNumber, .initialized RX11, .code yX11_isWordNumber cX11_isWordNumber 2 (some .boolean), .methodLink RX11 257 yX11_wordMany, .instanceMethod yX11_wordMany, .selects RX11 yX11_wordMany yX11_wordMany, .code yX11_wordMany cX11_wordMany 1 (some .int), .fieldLink RX11 20 "LastLetterModel" "words" "[I", .fieldLink RX11 188 "LastLetterModel" "bank" "I", .methodLink RX11 260 yX11_isIn, .static yX11_isIn, .code yX11_isIn cX11_isIn 3 (some .boolean)] ++ wsX110)
def wsX11_untell : List Cond := .code yX11_untell cX11_untell 2 (some .boolean) :: ([.fieldLink RX11 194 "LastLetterModel" "sounds" "I", .fieldLink RX11 99 "LastLetterModel" "hUntold" "[I", .fieldLink RX11 358 "LastLetterModel" "time" "I", .methodLink RX11 260 yX11_isIn, .static yX11_isIn, .initialized RX11, .code yX11_isIn cX11_isIn 3 (some .boolean)] ++ wsX110)
def wsX11_later : List Cond := .code yX11_later cX11_later 2 (some .int) :: ([.fieldLink RX11 358 "LastLetterModel" "time" "I", .constant RX11 361 (100000), .methodLink RX11 260 yX11_isIn, .static yX11_isIn, .initialized RX11, .code yX11_isIn cX11_isIn 3 (some .boolean)] ++ wsX110)
def wsX11_isHeard : List Cond := .code yX11_isHeard cX11_isHeard 7 (some .boolean) :: ([.fieldLink RX11 194 "LastLetterModel" "sounds" "I", .fieldLink RX11 87 "LastLetterModel" "hPlace" "[I", .fieldLink RX11 96 "LastLetterModel" "hTold" "[I", .fieldLink RX11 99 "LastLetterModel" "hUntold" "[I", .fieldLink RX11 90 "LastLetterModel" "hWhat" "[I", .fieldLink RX11 93 "LastLetterModel" "hValue" "[I", .fieldLink RX11 45 "LastLetterModel" "sound" "[I", .fieldLink RX11 188 "LastLetterModel" "bank" "I", .methodLink RX11 266 yX11_soundOf, .instanceMethod yX11_soundOf, .selects RX11 yX11_soundOf yX11_soundOf, .initialized RX11, .code yX11_soundOf cX11_soundOf 4 (some .int), .fieldLink RX11 59 "LastLetterModel" "lengths" "[I", .fieldLink RX11 52 "LastLetterModel" "wName" "[J", .constantLong RX11 264 (255)] ++ wsX110)
def wsX11_less : List Cond := .code yX11_less cX11_less 2 (some .long) :: ([.constantLong RX11 362 (1000000000000)])
def wsX11_layWays_r1 : List Cond := [Cond.fieldLink RX11 102 "LastLetterModel" "ways" "[J", Cond.fieldLink RX11 105 "LastLetterModel" "goesOn" "[J", Cond.methodLink RX11 257 yX11_wordMany, Cond.instanceMethod yX11_wordMany, Cond.selects RX11 yX11_wordMany yX11_wordMany, Cond.initialized RX11, Cond.code yX11_wordMany cX11_wordMany 1 (some .int), Cond.fieldLink RX11 20 "LastLetterModel" "words" "[I", Cond.fieldLink RX11 188 "LastLetterModel" "bank" "I", Cond.methodLink RX11 291 yX11_isAfter, Cond.instanceMethod yX11_isAfter, Cond.selects RX11 yX11_isAfter yX11_isAfter, Cond.code yX11_isAfter cX11_isAfter 3 (some .boolean), Cond.fieldLink RX11 56 "LastLetterModel" "follow" "[I", Cond.methodLink RX11 364 yX11_less, Cond.static yX11_less, Cond.code yX11_less cX11_less 2 (some .long), Cond.constantLong RX11 362 (1000000000000), Cond.methodLink RX11 368 yX11_isHeard, Cond.instanceMethod yX11_isHeard, Cond.selects RX11 yX11_isHeard yX11_isHeard, Cond.code yX11_isHeard cX11_isHeard 7 (some .boolean), Cond.fieldLink RX11 194 "LastLetterModel" "sounds" "I", Cond.fieldLink RX11 87 "LastLetterModel" "hPlace" "[I"]
def wsX11_layWays_r2 : List Cond := [Cond.fieldLink RX11 96 "LastLetterModel" "hTold" "[I", Cond.fieldLink RX11 99 "LastLetterModel" "hUntold" "[I", Cond.fieldLink RX11 90 "LastLetterModel" "hWhat" "[I", Cond.fieldLink RX11 93 "LastLetterModel" "hValue" "[I", Cond.fieldLink RX11 45 "LastLetterModel" "sound" "[I", Cond.methodLink RX11 266 yX11_soundOf, Cond.instanceMethod yX11_soundOf, Cond.selects RX11 yX11_soundOf yX11_soundOf, Cond.code yX11_soundOf cX11_soundOf 4 (some .int), Cond.fieldLink RX11 59 "LastLetterModel" "lengths" "[I", Cond.fieldLink RX11 52 "LastLetterModel" "wName" "[J", Cond.constantLong RX11 264 (255)]
def wsX11_layWays : List Cond := .code yX11_layWays cX11_layWays 8 none :: ((wsX11_layWays_r1 ++ wsX11_layWays_r2) ++ wsX110)
def wsX11_fits_r1 : List Cond := [Cond.constantLong RX11 371 (-1), Cond.fieldLink RX11 102 "LastLetterModel" "ways" "[J", Cond.methodLink RX11 260 yX11_isIn, Cond.static yX11_isIn, Cond.initialized RX11, Cond.code yX11_isIn cX11_isIn 3 (some .boolean), Cond.methodLink RX11 373 yX11_layWays, Cond.instanceMethod yX11_layWays, Cond.selects RX11 yX11_layWays yX11_layWays, Cond.code yX11_layWays cX11_layWays 8 none, Cond.fieldLink RX11 105 "LastLetterModel" "goesOn" "[J", Cond.methodLink RX11 257 yX11_wordMany, Cond.instanceMethod yX11_wordMany, Cond.selects RX11 yX11_wordMany yX11_wordMany, Cond.code yX11_wordMany cX11_wordMany 1 (some .int), Cond.fieldLink RX11 20 "LastLetterModel" "words" "[I", Cond.fieldLink RX11 188 "LastLetterModel" "bank" "I", Cond.methodLink RX11 291 yX11_isAfter, Cond.instanceMethod yX11_isAfter, Cond.selects RX11 yX11_isAfter yX11_isAfter, Cond.code yX11_isAfter cX11_isAfter 3 (some .boolean), Cond.fieldLink RX11 56 "LastLetterModel" "follow" "[I", Cond.methodLink RX11 364 yX11_less, Cond.static yX11_less]
def wsX11_fits_r2 : List Cond := [Cond.code yX11_less cX11_less 2 (some .long), Cond.constantLong RX11 362 (1000000000000), Cond.methodLink RX11 368 yX11_isHeard, Cond.instanceMethod yX11_isHeard, Cond.selects RX11 yX11_isHeard yX11_isHeard, Cond.code yX11_isHeard cX11_isHeard 7 (some .boolean), Cond.fieldLink RX11 194 "LastLetterModel" "sounds" "I", Cond.fieldLink RX11 87 "LastLetterModel" "hPlace" "[I", Cond.fieldLink RX11 96 "LastLetterModel" "hTold" "[I", Cond.fieldLink RX11 99 "LastLetterModel" "hUntold" "[I", Cond.fieldLink RX11 90 "LastLetterModel" "hWhat" "[I", Cond.fieldLink RX11 93 "LastLetterModel" "hValue" "[I", Cond.fieldLink RX11 45 "LastLetterModel" "sound" "[I", Cond.methodLink RX11 266 yX11_soundOf, Cond.instanceMethod yX11_soundOf, Cond.selects RX11 yX11_soundOf yX11_soundOf, Cond.code yX11_soundOf cX11_soundOf 4 (some .int), Cond.fieldLink RX11 59 "LastLetterModel" "lengths" "[I", Cond.fieldLink RX11 52 "LastLetterModel" "wName" "[J", Cond.constantLong RX11 264 (255)]
def wsX11_fits : List Cond := .code yX11_fits cX11_fits 6 (some .long) :: ((wsX11_fits_r1 ++ wsX11_fits_r2) ++ wsX110)
def wsX11_can_r1 : List Cond := [Cond.fieldLink RX11 102 "LastLetterModel" "ways" "[J", Cond.fieldLink RX11 105 "LastLetterModel" "goesOn" "[J", Cond.methodLink RX11 260 yX11_isIn, Cond.static yX11_isIn, Cond.initialized RX11, Cond.code yX11_isIn cX11_isIn 3 (some .boolean), Cond.methodLink RX11 373 yX11_layWays, Cond.instanceMethod yX11_layWays, Cond.selects RX11 yX11_layWays yX11_layWays, Cond.code yX11_layWays cX11_layWays 8 none, Cond.methodLink RX11 257 yX11_wordMany, Cond.instanceMethod yX11_wordMany, Cond.selects RX11 yX11_wordMany yX11_wordMany, Cond.code yX11_wordMany cX11_wordMany 1 (some .int), Cond.fieldLink RX11 20 "LastLetterModel" "words" "[I", Cond.fieldLink RX11 188 "LastLetterModel" "bank" "I", Cond.methodLink RX11 291 yX11_isAfter, Cond.instanceMethod yX11_isAfter, Cond.selects RX11 yX11_isAfter yX11_isAfter, Cond.code yX11_isAfter cX11_isAfter 3 (some .boolean), Cond.fieldLink RX11 56 "LastLetterModel" "follow" "[I", Cond.methodLink RX11 364 yX11_less, Cond.static yX11_less, Cond.code yX11_less cX11_less 2 (some .long)]
def wsX11_can_r2 : List Cond := [Cond.constantLong RX11 362 (1000000000000), Cond.methodLink RX11 368 yX11_isHeard, Cond.instanceMethod yX11_isHeard, Cond.selects RX11 yX11_isHeard yX11_isHeard, Cond.code yX11_isHeard cX11_isHeard 7 (some .boolean), Cond.fieldLink RX11 194 "LastLetterModel" "sounds" "I", Cond.fieldLink RX11 87 "LastLetterModel" "hPlace" "[I", Cond.fieldLink RX11 96 "LastLetterModel" "hTold" "[I", Cond.fieldLink RX11 99 "LastLetterModel" "hUntold" "[I", Cond.fieldLink RX11 90 "LastLetterModel" "hWhat" "[I", Cond.fieldLink RX11 93 "LastLetterModel" "hValue" "[I", Cond.fieldLink RX11 45 "LastLetterModel" "sound" "[I", Cond.methodLink RX11 266 yX11_soundOf, Cond.instanceMethod yX11_soundOf, Cond.selects RX11 yX11_soundOf yX11_soundOf, Cond.code yX11_soundOf cX11_soundOf 4 (some .int), Cond.fieldLink RX11 59 "LastLetterModel" "lengths" "[I", Cond.fieldLink RX11 52 "LastLetterModel" "wName" "[J", Cond.constantLong RX11 264 (255)]
def wsX11_can : List Cond := .code yX11_can cX11_can 6 (some .int) :: ((wsX11_can_r1 ++ wsX11_can_r2) ++ wsX110)
def wsX11_seed : List Cond := .code yX11_seed cX11_seed 3 (some .int) :: ([.fieldLink RX11 65 "LastLetterModel" "w" "I"] ++ wsX110)
def wsX11_image : List Cond := .code yX11_image cX11_image 3 (some .int) :: ([.fieldLink RX11 108 "LastLetterModel" "boxMany" "[I", .fieldLink RX11 279 "LastLetterModel" "talked" "I", .fieldLink RX11 111 "LastLetterModel" "boxLatest" "[I", .fieldLink RX11 276 "LastLetterModel" "latest" "I", .fieldLink RX11 114 "LastLetterModel" "boxSum" "[I", .fieldLink RX11 282 "LastLetterModel" "sum" "I", .fieldLink RX11 120 "LastLetterModel" "boxDone" "[I", .fieldLink RX11 285 "LastLetterModel" "doneSet" "I", .fieldLink RX11 117 "LastLetterModel" "boxW" "[I", .fieldLink RX11 65 "LastLetterModel" "w" "I", .fieldLink RX11 123 "LastLetterModel" "boxSaid" "[I", .fieldLink RX11 62 "LastLetterModel" "said" "[I", .methodLink RX11 260 yX11_isIn, .static yX11_isIn, .initialized RX11, .code yX11_isIn cX11_isIn 3 (some .boolean)] ++ wsX110)
def wsX11_back : List Cond := .code yX11_back cX11_back 3 (some .int) :: ([.fieldLink RX11 108 "LastLetterModel" "boxMany" "[I", .fieldLink RX11 279 "LastLetterModel" "talked" "I", .fieldLink RX11 111 "LastLetterModel" "boxLatest" "[I", .fieldLink RX11 276 "LastLetterModel" "latest" "I", .fieldLink RX11 114 "LastLetterModel" "boxSum" "[I", .fieldLink RX11 282 "LastLetterModel" "sum" "I", .fieldLink RX11 120 "LastLetterModel" "boxDone" "[I", .fieldLink RX11 285 "LastLetterModel" "doneSet" "I", .fieldLink RX11 117 "LastLetterModel" "boxW" "[I", .fieldLink RX11 65 "LastLetterModel" "w" "I", .fieldLink RX11 62 "LastLetterModel" "said" "[I", .fieldLink RX11 123 "LastLetterModel" "boxSaid" "[I", .methodLink RX11 260 yX11_isIn, .static yX11_isIn, .initialized RX11, .code yX11_isIn cX11_isIn 3 (some .boolean)] ++ wsX110)
def wsX11_about : List Cond := .code yX11_about cX11_about 2 (some .int) :: ([.fieldLink RX11 24 "LastLetterModel" "errands" "[I", .fieldLink RX11 188 "LastLetterModel" "bank" "I", .fieldLink RX11 279 "LastLetterModel" "talked" "I", .fieldLink RX11 276 "LastLetterModel" "latest" "I", .fieldLink RX11 194 "LastLetterModel" "sounds" "I", .fieldLink RX11 358 "LastLetterModel" "time" "I", .fieldLink RX11 185 "LastLetterModel" "taped" "I", .fieldLink RX11 65 "LastLetterModel" "w" "I", .fieldLink RX11 197 "LastLetterModel" "laid" "I", .fieldLink RX11 282 "LastLetterModel" "sum" "I", .methodLink RX11 257 yX11_wordMany, .instanceMethod yX11_wordMany, .selects RX11 yX11_wordMany yX11_wordMany, .initialized RX11, .code yX11_wordMany cX11_wordMany 1 (some .int), .fieldLink RX11 20 "LastLetterModel" "words" "[I"] ++ wsX110)
def wsX11_feed : List Cond := .code yX11_feed cX11_feed 8 (some .int) :: ([.fieldLink RX11 185 "LastLetterModel" "taped" "I", .fieldLink RX11 7 "LastLetterModel" "tape" "[B"] ++ wsX110)
def wsX11_end : List Cond := .code yX11_end cX11_end 2 (some .int) :: ([.fieldLink RX11 185 "LastLetterModel" "taped" "I"] ++ wsX110)
def wsJ9_max_7cf53 : List Cond := .code yJ9_max_7cf53 cJ9_max_7cf53 2 (some .int) :: ([])
def wsJ9_min_7cf53 : List Cond := .code yJ9_min_7cf53 cJ9_min_7cf53 2 (some .int) :: ([])
def wsJ9_min_f86c9 : List Cond := .code yJ9_min_f86c9 cJ9_min_f86c9 4 (some .long) :: ([])
abbrev vwCl : List vw_C := [(RX0, TX0, 6), (RX1, TX1, 1), (RX2, TX2, 6), (RX3, TX3, 6), (RX4, TX4, 2), (RX5, TX5, 3), (RX6, TX6, 7), (RX7, TX7, 2), (RX8, TX8, 16), (RX9, TX9, 10), (RX10, TX10, 12), (RX11, TX11, 54)]

def nwF : List (String × Nat × String × String × String × String) := [(RX10, 88, RX7, "size", "I", RX10), (RX10, 106, RX6, "kept", "Z", RX10), (RX10, 110, RX4, "size", "I", RX10), (RX10, 113, RX9, "sounds", "I", RX10), (RX10, 116, RX8, "words", "I", RX10), (RX10, 119, RX3, "fault", "I", RX10), (RX10, 122, RX3, "place", "I", RX10), (RX10, 129, RX8, "followers", "[I", RX10), (RX10, 145, RX8, "worth", "[I", RX10), (RX10, 148, RX6, "spoken", "I", RX10), (RX10, 158, RX6, "said", "[I", RX10), (RX10, 186, RX4, "items", "[I", RX10), (RX10, 189, RX8, "sound", "[I", RX10), (RX10, 202, RX8, "errands", "I", RX10), (RX10, 221, RX6, "doneErrands", "I", RX10), (RX10, 234, RX9, "time", "I", RX10), (RX10, 248, RX6, "w", "I", RX10), (RX10, 255, RX6, "latest", "I", RX10), (RX10, 258, RX6, "earned", "I", RX10), (RX0, 47, RX8, "followers", "[I", RX10), (RX0, 50, RX8, "words", "I", RX10), (RX0, 67, RX8, "leaders", "[I", RX10), (RX0, 78, RX8, "worth", "[I", RX10), (RX1, 15, RX8, "words", "I", RX10), (RX1, 21, RX8, "sound", "[I", RX10), (RX1, 24, RX8, "first", "[I", RX10), (RX1, 27, RX8, "last", "[I", RX10), (RX2, 46, RX8, "words", "I", RX10), (RX2, 64, RX8, "followers", "[I", RX10), (RX2, 101, RX8, "worth", "[I", RX10), (RX3, 46, RX8, "words", "I", RX10), (RX3, 54, RX8, "law", "I", RX10), (RX3, 61, RX8, "alikes", "I", RX10), (RX3, 69, RX8, "errands", "I", RX10), (RX3, 120, RX8, "errandOf", "[I", RX10), (RX3, 132, RX7, "size", "I", RX10), (RX5, 33, RX8, "followers", "[I", RX10), (RX5, 38, RX8, "errands", "I", RX10), (RX5, 51, RX8, "words", "I", RX10), (RX5, 71, RX4, "size", "I", RX10), (RX6, 46, RX8, "times", "[I", RX10), (RX6, 55, RX8, "followers", "[I", RX10), (RX6, 62, RX8, "words", "I", RX10), (RX6, 73, RX8, "worth", "[I", RX10), (RX9, 48, RX8, "words", "I", RX10), (RX9, 69, RX8, "leaders", "[I", RX10), (RX9, 72, RX8, "followers", "[I", RX10), (RX9, 93, RX8, "first", "[I", RX10), (RX9, 96, RX8, "last", "[I", RX10), (RX9, 99, RX8, "sound", "[I", RX10)]
def nwM : List (String × Nat × MethodName × String) := [(RX10, 11, yX7_init, RX10), (RX10, 27, yX6_init, RX10), (RX10, 38, yX4_init, RX10), (RX10, 45, yX1_init, RX10), (RX10, 52, yX2_init, RX10), (RX10, 59, yX5_init, RX10), (RX10, 66, yX0_init, RX10), (RX10, 73, yX9_init, RX10), (RX0, 43, yX10_isIn, RX10), (RX2, 54, yX10_isIn, RX10), (RX2, 79, yX10_lowest, RX10), (RX3, 19, yX8_clear, RX10), (RX5, 54, yX10_isIn, RX10), (RX6, 65, yX10_isIn, RX10), (RX6, 101, yX10_lowest, RX10), (RX8, 101, yX10_isIn, RX10), (RX9, 53, yX10_isIn, RX10)]
end
section
/-! The uniform words of this claim: worlds, contracts, calls, loops. -/
abbrev tyL (cB cI cJ cS cZ cO : ClassId) : List (ClassId × FieldType) := [(cB, .byte), (cI, .int), (cJ, .long), (cS, .short), (cZ, .boolean), (cO, .object "LastLetter$Talk")]
/-- the words of private members of nest mates: they hold at every state of the run -/
def nwA (U : State) : Prop := (∀ q ∈ nwF, va_Nw (.fieldLinkNest q.1 q.2.1 q.2.2.1 q.2.2.2.1 q.2.2.2.2.1 q.2.2.2.2.2) U) ∧ ((∀ q ∈ nwM, va_Nw (.methodLinkNest q.1 q.2.1 q.2.2.1 q.2.2.2) U) ∧ va_AO "LastLetter$Talk" U)
theorem nwA_same {u U : State} (h : u.vm = U.vm) (hA : u.vm.Alike U.vm) (hN : nwA u) : nwA U := ⟨fun q hq => va_Nw.same rfl h (hN.1 q hq), fun q hq => va_Nw.same rfl h (hN.2.1 q hq), hN.2.2.moved hA⟩
theorem nwA_warm {s U : State} (hW : s.WarmedH U.vm) (hN : nwA s) : nwA U := ⟨fun q hq => va_Nw.warmF hW (hN.1 q hq), fun q hq => va_Nw.warmM hW (hN.2.1 q hq), hN.2.2.moved hW.alike⟩
/-- a contract's start: the world win, the tables, the heap's size -/
def xPre (D : va_G) (ty : List (ClassId × FieldType)) (win : va_W) (sz : Nat) (av : List Value) : Array Value → State → Prop := va_Pc av (fun U => U.heap.size = sz ∧ va_P D vwCl win U.heap ∧ va_K D vwCl ty U ∧ va_D (fun _ => True) win ∧ nwA U)
/-- a contract's end: the world w -/
def xB (D : va_G) (ty : List (ClassId × FieldType)) (A : Nat → Prop) (w : va_W) (t : State) : Prop := va_P D vwCl w t.heap ∧ va_K D vwCl ty t ∧ va_D A w
abbrev xQi (D : va_G) (ty : List (ClassId × FieldType)) (A : Nat → Prop) (post : Int32 → va_W → Prop) : Array Value → State → Outcome → State → Prop := va_Qi post (xB D ty A) A
abbrev xQl (D : va_G) (ty : List (ClassId × FieldType)) (A : Nat → Prop) (post : Int64 → va_W → Prop) : Array Value → State → Outcome → State → Prop := va_Ql post (xB D ty A) A
abbrev xQv (D : va_G) (ty : List (ClassId × FieldType)) (A : Nat → Prop) (post : va_W → Prop) : Array Value → State → Outcome → State → Prop := va_Qv post (xB D ty A) A
theorem xPre_blind {D : va_G} {ty : List (ClassId × FieldType)} {win : va_W} {sz : Nat} {av : List Value} : FrameBlind (xPre D ty win sz av) := by
  intro a U g mk q
  obtain ⟨q0, q1, qP, qK, qD, qN⟩ := q
  exact ⟨q0, q1, qP, va_K.moved (u := U) (U := U.calling g mk a) (Vm.Alike.refl U.vm) qK, qD, nwA_same (u := U) (U := U.calling g mk a) rfl (Vm.Alike.refl U.vm) qN⟩
theorem xPreS {D : va_G} {ty : List (ClassId × FieldType)} {win w : va_W} {A : Nat → Prop} {s : State} {H : Heap} {av : List Value} (hN : nwA s) (hK : va_K D vwCl ty s) (hP : va_P D vwCl w H) (hD : va_D A w) (isC : List Nat) (hnd : va_nd isC = true) (hC : isC.map (fun i => w[i]?) = win.map some) : PreS s H (xPre D ty win H.size av) av := by
  have hC' : isC.filterMap (fun i => w[i]?) = win := by
    have h1 : (isC.map (fun i => w[i]?)).filterMap id = (win.map some).filterMap id := by rw [hC]
    simpa [List.filterMap_map, Function.comp_def] using h1
  exact ⟨xPre_blind, fun U hU hW => ⟨rfl, by rw [hU], by rw [hU]; exact hP.sub isC hC', va_K.moved hW.alike hK, (hD.sub isC hnd hC).weaken (fun _ _ _ _ => trivial), nwA_warm hW hN⟩⟩
theorem xPreV {D : va_G} {ty : List (ClassId × FieldType)} {win w : va_W} {A : Nat → Prop} {s : State} {H : Heap} {C : String} {b : Nat} {As : List Value} (hN : nwA s) (hK : va_K D vwCl ty s) (hP : va_P D vwCl w H) (hD : va_D A w) (isC : List Nat) (hnd : va_nd isC = true) (hC : isC.map (fun i => w[i]?) = win.map some) (q0 ci : Nat) {r : vw_C} {fs : List Value} (hc : vwCl[ci]? = some r) (he : w[q0]? = some (b, .inr (ci, fs))) (hr : r.1 = C) : PreV s H C b (xPre D ty win H.size (.ref b :: As)) As := by
  subst hr
  exact ⟨xPre_blind, va_recv hK hP hc he, (xPreS hN hK hP hD isC hnd hC).2⟩
section XB
variable {p : Program} {l : Launch} {e : Env} {R : Room} {s : State} {m : MethodId} {args : Array Value} {below : List Frame} {meth : Method} {c : Code} {H : Heap} {locs : List Loc} {cells slots : Nat} {Q : State → Prop}
theorem xb_top {pc : Nat} {ls : Array Slot} {rest : List Value} {x y : Int32} (h : x = y) (k : W p l e R s m args below meth c H locs cells slots Q (F0 m pc ls (.int y :: rest))) : W p l e R s m args below meth c H locs cells slots Q (F0 m pc ls (.int x :: rest)) := h ▸ k
theorem xb_topl {pc : Nat} {ls : Array Slot} {rest : List Value} {x y : Int64} (h : x = y) (k : W p l e R s m args below meth c H locs cells slots Q (F0 m pc ls (.long y :: rest))) : W p l e R s m args below meth c H locs cells slots Q (F0 m pc ls (.long x :: rest)) := h ▸ k
theorem xb_topv {pc : Nat} {ls : Array Slot} {rest : List Value} {x y : Value} (h : x = y) (k : W p l e R s m args below meth c H locs cells slots Q (F0 m pc ls (y :: rest))) : W p l e R s m args below meth c H locs cells slots Q (F0 m pc ls (x :: rest)) := h ▸ k
theorem xb_up {pc : Nat} {st : List Value} (Inv : Nat → Heap → List Loc → Array Slot → Prop) (B i0 : Nat) (h0 : i0 ≤ B) {ls : Array Slot} (h : Inv i0 H locs ls)
    (step : ∀ (i : Nat) (H : Heap) (locs : List Loc) (ls : Array Slot), i < B → Inv i H locs ls → (∀ (H' : Heap) (locs' : List Loc) (ls' : Array Slot), Inv (i + 1) H' locs' ls' → W p l e R s m args below meth c H' locs' cells slots Q (F0 m pc ls' st)) → W p l e R s m args below meth c H locs cells slots Q (F0 m pc ls st))
    (exit : ∀ (H : Heap) (locs : List Loc) (ls : Array Slot), Inv B H locs ls → W p l e R s m args below meth c H locs cells slots Q (F0 m pc ls st)) : W p l e R s m args below meth c H locs cells slots Q (F0 m pc ls st) := by
  have key : ∀ (n i : Nat) (H : Heap) (locs : List Loc) (ls : Array Slot), i + n = B → Inv i H locs ls → W p l e R s m args below meth c H locs cells slots Q (F0 m pc ls st) := by
    intro n
    induction n with
    | zero =>
      intro i H locs ls hi hI
      have h1 : i = B := by omega
      rw [h1] at hI
      exact exit H locs ls hI
    | succ n ih =>
      intro i H locs ls hi hI
      exact step i H locs ls (by omega) hI (fun H' locs' ls' hI' => ih (i + 1) H' locs' ls' (by omega) hI')
  exact key (B - i0) i0 H locs ls (by omega) h
variable {D : va_G} {ty : List (ClassId × FieldType)} {win wr w : va_W} {A : Nat → Prop} {H0 : Heap} {pc mc ms : Nat} {ls : Array Slot} {st0 rest : List Value} {a : Array Value}
theorem xCi {post : Int32 → va_W → Prop} (hP : va_P D vwCl w H) (hD : va_D A w) (hS : va_S A H0 H locs) (hA : ∀ q, H0.size ≤ q → A q) (isC isR : List Nat) (hC : isC.map (fun i => w[i]?) = win.map some) (hR : isR.map (fun i => w[i]?) = wr.map some) (hn : va_nd isR = true) (hdis : ∀ i ∈ isR, i ∉ isC)
    (hr : va_Run p l e R s m args below meth c H locs cells slots mc ms (F0 m pc ls st0) rest (xQi D ty (va_A win H.size) post a) (va_A win H.size))
    (kk : ∀ (r : Int32) (w1 : va_W) (H1 : Heap) (locs1 : List Loc), post r w1 → va_P D vwCl (wr ++ w1) H1 → va_D A (wr ++ w1) → va_S A H0 H1 locs1 → W p l e R s m args below meth c H1 locs1 (cells + mc) (slots + ms) Q (F0 m (pc + 3) ls (.int r :: rest))) : W p l e R s m args below meth c H locs cells slots Q (F0 m pc ls st0) := by
  have hF := va_free (wc := win) hD hS hA isC hC
  refine va_calli hr hS (fun q _ h => hF q h) hF (fun r u t H1 locs1 ht hvm hw hB hz1 hk1 hS1 => ?_)
  obtain ⟨hP1, hK1, hD1⟩ := hB
  rw [ht] at hP1
  obtain ⟨hP2, hD2⟩ := va_join (wr := wr) (w1 := u) hP hD isC isR hC hR hn hdis hk1 hF hP1 hD1
  exact kk r u H1 locs1 hw hP2 hD2 hS1
theorem xCl {post : Int64 → va_W → Prop} (hP : va_P D vwCl w H) (hD : va_D A w) (hS : va_S A H0 H locs) (hA : ∀ q, H0.size ≤ q → A q) (isC isR : List Nat) (hC : isC.map (fun i => w[i]?) = win.map some) (hR : isR.map (fun i => w[i]?) = wr.map some) (hn : va_nd isR = true) (hdis : ∀ i ∈ isR, i ∉ isC)
    (hr : va_Run p l e R s m args below meth c H locs cells slots mc ms (F0 m pc ls st0) rest (xQl D ty (va_A win H.size) post a) (va_A win H.size))
    (kk : ∀ (r : Int64) (w1 : va_W) (H1 : Heap) (locs1 : List Loc), post r w1 → va_P D vwCl (wr ++ w1) H1 → va_D A (wr ++ w1) → va_S A H0 H1 locs1 → W p l e R s m args below meth c H1 locs1 (cells + mc) (slots + ms) Q (F0 m (pc + 3) ls (.long r :: rest))) : W p l e R s m args below meth c H locs cells slots Q (F0 m pc ls st0) := by
  have hF := va_free (wc := win) hD hS hA isC hC
  refine va_calll hr hS (fun q _ h => hF q h) hF (fun r u t H1 locs1 ht hvm hw hB hz1 hk1 hS1 => ?_)
  obtain ⟨hP1, hK1, hD1⟩ := hB
  rw [ht] at hP1
  obtain ⟨hP2, hD2⟩ := va_join (wr := wr) (w1 := u) hP hD isC isR hC hR hn hdis hk1 hF hP1 hD1
  exact kk r u H1 locs1 hw hP2 hD2 hS1
theorem xCv {post : va_W → Prop} (hP : va_P D vwCl w H) (hD : va_D A w) (hS : va_S A H0 H locs) (hA : ∀ q, H0.size ≤ q → A q) (isC isR : List Nat) (hC : isC.map (fun i => w[i]?) = win.map some) (hR : isR.map (fun i => w[i]?) = wr.map some) (hn : va_nd isR = true) (hdis : ∀ i ∈ isR, i ∉ isC)
    (hr : va_Run p l e R s m args below meth c H locs cells slots mc ms (F0 m pc ls st0) rest (xQv D ty (va_A win H.size) post a) (va_A win H.size))
    (kk : ∀ (w1 : va_W) (H1 : Heap) (locs1 : List Loc), post w1 → va_P D vwCl (wr ++ w1) H1 → va_D A (wr ++ w1) → va_S A H0 H1 locs1 → W p l e R s m args below meth c H1 locs1 (cells + mc) (slots + ms) Q (F0 m (pc + 3) ls rest)) : W p l e R s m args below meth c H locs cells slots Q (F0 m pc ls st0) := by
  have hF := va_free (wc := win) hD hS hA isC hC
  refine va_callv hr hS (fun q _ h => hF q h) hF (fun u t H1 locs1 ht hvm hw hB hz1 hk1 hS1 => ?_)
  obtain ⟨hP1, hK1, hD1⟩ := hB
  rw [ht] at hP1
  obtain ⟨hP2, hD2⟩ := va_join (wr := wr) (w1 := u) hP hD isC isR hC hR hn hdis hk1 hF hP1 hD1
  exact kk u H1 locs1 hw hP2 hD2 hS1
end XB
theorem xb_uniq {U : State} {ty : FieldType} {c1 c2 : ClassId} (h1 : va_RA U c1 ty) (h2 : va_RA U c2 ty) : c1 = c2 := by
  cases ty with
  | object C =>
    obtain ⟨-, -, -, -, -, e1⟩ := h1
    obtain ⟨-, -, -, -, -, e2⟩ := h2
    exact Option.some.inj (e1.symm.trans e2)
  | _ => exact Option.some.inj (Eq.trans (Eq.symm h1) h2)
section XN
variable {p : Program} {l : Launch} {e : Env} {R : Room} {s : State} {m : MethodId} {args : Array Value} {below : List Frame} {meth : Method} {c : Code} {H : Heap} {locs : List Loc} {cells slots : Nat} {Q : State → Prop}
variable {cc : ByteArray} {pc : Nat} {ls : Array Slot} {rest : List Value} {D : va_G} {cl : List vw_C} {A : Nat → Prop} {tys : List (ClassId × FieldType)} {ws : va_W} {H0 : Heap}
theorem xnewa (hexec : p.tables.exec = Jvm.exec) (hb : c.code = cc) {atype : ArrayType} (harr : (Cond.arrayClass (newarray.typeOf atype)).before args s = true) {ty : FieldType} (hty : newarray.typeOf atype = ty) (hK : va_K D cl tys s) (t0 : Nat) {cA : ClassId} (ht : tys[t0]? = some (cA, ty)) (hP : va_P D cl ws H) (hD : va_D A ws) (hS : va_S A H0 H locs) (hA : ∀ q, H0.size ≤ q → A q)
    {n : Int32} {N' : Nat} {a0 : vp_A} (ha : ∀ cA : ClassId, vp_cell cA a0 = arrV cA N' (fun _ => defaultValue ty)) (hn : ¬ n < 0) (hN : n.toNatClampNeg = N') (hbytes : N' * componentBytes ty ≤ 536870912) (hcells : cells + 1 ≤ R.cells) (hslots : slots + N' ≤ R.slots) (hdg : decode cc pc = .ok (.newarray atype, 2))
    (kk : ∀ (q : Nat) (H1 : Heap), va_P D cl (ws ++ [(q, .inl (cA, a0))]) H1 → va_D A (ws ++ [(q, .inl (cA, a0))]) → va_S A H0 H1 locs →
      W p l e R s m args below meth c H1 locs (cells + 1) (slots + N') Q (F0 m (pc + 2) ls (.ref q :: rest))) : W p l e R s m args below meth c H locs cells slots Q (F0 m pc ls (.int n :: rest)) := by
  refine va_newa hexec hb harr hty hK hP hD hS hA ha hn hN hbytes hcells hslots hdg (fun q cA2 H1 hK2 hP2 hD2 hS2 => ?_)
  have e1 : cA2 = cA := xb_uniq (hK2.2 tys.length (cA2, ty) (by simp)).2 (hK.2 t0 _ ht).2
  subst e1
  exact kk q H1 hP2 hD2 hS2
theorem xnewq (hexec : p.tables.exec = Jvm.exec) (hb : c.code = cc) {own C : String} {index : Nat} (hown : s.vm.findClass own = some m.cls) (hclink : (Cond.classLink own index C).before args s = true) (hover : va_AO C s) (hK : va_K D cl tys s) (t0 : Nat) {cA : ClassId} (ht : tys[t0]? = some (cA, .object C)) (hP : va_P D cl ws H) (hD : va_D A ws) (hS : va_S A H0 H locs) (hA : ∀ q, H0.size ≤ q → A q)
    {n : Int32} {N' : Nat} (hn : ¬ n < 0) (hN : n.toNatClampNeg = N') (hbytes : N' * 4 ≤ 536870912) (hcells : cells + 1 ≤ R.cells) (hslots : slots + N' ≤ R.slots) (hdg : decode cc pc = .ok (.anewarray index, 3))
    (kk : ∀ (q : Nat) (H1 : Heap), va_P D cl (ws ++ [(q, .inl (cA, N', .inr (.inr (.inr (.inr (fun _ => none))))))]) H1 → va_D A (ws ++ [(q, .inl (cA, N', .inr (.inr (.inr (.inr (fun _ => none))))))]) → va_S A H0 H1 locs →
      W p l e R s m args below meth c H1 locs (cells + 1) (slots + N') Q (F0 m (pc + 3) ls (.ref q :: rest))) : W p l e R s m args below meth c H locs cells slots Q (F0 m pc ls (.int n :: rest)) := by
  refine va_newq hexec hb hown hclink hover hK hP hD hS hA hn hN hbytes hcells hslots hdg (fun q cA2 H1 hK2 hP2 hD2 hS2 => ?_)
  have e1 : cA2 = cA := xb_uniq (hK2.2 tys.length (cA2, .object C) (by simp)).2 (hK.2 t0 _ ht).2
  subst e1
  exact kk q H1 hP2 hD2 hS2
end XN
theorem up_fill {f g : Nat → Int32} {i n : Nat} {v : Int32} (hi : i < n) (hn : n < 2 ^ 31) (h : ∀ j, j < i → f j = v) (e : upd f (Int32.toNatClampNeg (nI i)) v = g) : ∀ j, j < i + 1 → g j = v := by
  intro j hj
  subst e
  rw [nI_clamp (by omega)]
  by_cases hji : j = i
  · subst hji; exact pk_us
  · rw [pk_un hji]; exact h j (by omega)
theorem up_keep {f : Nat → Int32} {k : Nat} {v : Int32} (h : f = fun _ => v) : upd f k v = fun _ => v := by
  subst h
  funext j
  by_cases hj : j = k
  · subst hj; exact pk_us
  · exact pk_un hj
theorem ib_in {n : Int32} {N : Nat} (h0 : ¬ n < 0) (h : ¬ nI N ≤ n) (hN : N < 2 ^ 31) : vp_in n N := by
  obtain ⟨j, hj, e, -⟩ := pk_mu h0 h hN
  rw [e]
  exact vp_in_nI hj hN
theorem ib_12 {n : Int32} (c1 : ¬ n < 1) (c2 : ¬ 12 < n) : ∃ j : Nat, j < 12 ∧ n = nI (j + 1) := by
  rcases pk_ix n (n := 13) (by decide) with h | h | ⟨j, hj, e⟩
  · exact absurd h (by grind)
  · have h13 : (13 : Int32) ≤ n := h
    exact absurd h13 (by grind)
  · cases j with
    | zero => subst e; exact absurd (by decide : nI 0 < 1) c1
    | succ j => exact ⟨j, by omega, e⟩
theorem lk_out {x a b : Int32} {p q d : Int} (h0 : ¬ x = a) (h1 : ¬ x = b) (hab : a.toInt < b.toInt) : Op.lookupswitch.offset [(a.toInt, p), (b.toInt, q)] d x.toInt = d := by
  have e0 : ¬ x.toInt = a.toInt := fun e => h0 (Int32.toInt_inj.mp e)
  have e1 : ¬ x.toInt = b.toInt := fun e => h1 (Int32.toInt_inj.mp e)
  simp [Op.lookupswitch.offset]
  grind
theorem cmp_same (x : Int64) : lg_cmp x x = 0 := by
  simp [lg_cmp]
end
section
theorem dJ7_fill_53178_0 : decode cJ7_fill_53178 0 = .ok (.iconst 0, 1) := by decide +kernel
theorem dJ7_fill_53178_1 : decode cJ7_fill_53178 1 = .ok (.istore_n 2, 1) := by decide +kernel
theorem dJ7_fill_53178_2 : decode cJ7_fill_53178 2 = .ok (.aload_n 0, 1) := by decide +kernel
theorem dJ7_fill_53178_3 : decode cJ7_fill_53178 3 = .ok (.arraylength, 1) := by decide +kernel
theorem dJ7_fill_53178_4 : decode cJ7_fill_53178 4 = .ok (.istore_n 3, 1) := by decide +kernel
theorem dJ7_fill_53178_5 : decode cJ7_fill_53178 5 = .ok (.iload_n 2, 1) := by decide +kernel
theorem dJ7_fill_53178_6 : decode cJ7_fill_53178 6 = .ok (.iload_n 3, 1) := by decide +kernel
theorem dJ7_fill_53178_7 : decode cJ7_fill_53178 7 = .ok (.if_icmp .ge 13, 3) := by decide +kernel
theorem dJ7_fill_53178_10 : decode cJ7_fill_53178 10 = .ok (.aload_n 0, 1) := by decide +kernel
theorem dJ7_fill_53178_11 : decode cJ7_fill_53178 11 = .ok (.iload_n 2, 1) := by decide +kernel
theorem dJ7_fill_53178_12 : decode cJ7_fill_53178 12 = .ok (.iload_n 1, 1) := by decide +kernel
theorem dJ7_fill_53178_13 : decode cJ7_fill_53178 13 = .ok (.iastore, 1) := by decide +kernel
theorem dJ7_fill_53178_14 : decode cJ7_fill_53178 14 = .ok (.iinc 2 1, 3) := by decide +kernel
theorem dJ7_fill_53178_17 : decode cJ7_fill_53178 17 = .ok (.goto (-12), 3) := by decide +kernel
theorem dJ7_fill_53178_20 : decode cJ7_fill_53178 20 = .ok (.return_, 1) := by decide +kernel
theorem dX0_init_0 : decode cX0_init 0 = .ok (.aload_n 0, 1) := by decide +kernel
theorem dX0_init_1 : decode cX0_init 1 = .ok (.invokespecial 3, 3) := by decide +kernel
theorem dX0_init_4 : decode cX0_init 4 = .ok (.aload_n 0, 1) := by decide +kernel
theorem dX0_init_5 : decode cX0_init 5 = .ok (.iconst 1, 1) := by decide +kernel
theorem dX0_init_6 : decode cX0_init 6 = .ok (.newarray .int, 2) := by decide +kernel
theorem dX0_init_8 : decode cX0_init 8 = .ok (.putfield 9, 3) := by decide +kernel
theorem dX0_init_11 : decode cX0_init 11 = .ok (.aload_n 0, 1) := by decide +kernel
theorem dX0_init_12 : decode cX0_init 12 = .ok (.iconst 1, 1) := by decide +kernel
theorem dX0_init_13 : decode cX0_init 13 = .ok (.newarray .long, 2) := by decide +kernel
theorem dX0_init_15 : decode cX0_init 15 = .ok (.putfield 15, 3) := by decide +kernel
theorem dX0_init_18 : decode cX0_init 18 = .ok (.aload_n 0, 1) := by decide +kernel
theorem dX0_init_19 : decode cX0_init 19 = .ok (.iconst 1, 1) := by decide +kernel
theorem dX0_init_20 : decode cX0_init 20 = .ok (.newarray .short, 2) := by decide +kernel
theorem dX0_init_22 : decode cX0_init 22 = .ok (.putfield 19, 3) := by decide +kernel
theorem dX0_init_25 : decode cX0_init 25 = .ok (.return_, 1) := by decide +kernel
theorem dX1_init_0 : decode cX1_init 0 = .ok (.aload_n 0, 1) := by decide +kernel
theorem dX1_init_1 : decode cX1_init 1 = .ok (.invokespecial 3, 3) := by decide +kernel
theorem dX1_init_4 : decode cX1_init 4 = .ok (.aload_n 0, 1) := by decide +kernel
theorem dX1_init_5 : decode cX1_init 5 = .ok (.bipush 26, 2) := by decide +kernel
theorem dX1_init_7 : decode cX1_init 7 = .ok (.newarray .int, 2) := by decide +kernel
theorem dX1_init_9 : decode cX1_init 9 = .ok (.putfield 9, 3) := by decide +kernel
theorem dX1_init_12 : decode cX1_init 12 = .ok (.return_, 1) := by decide +kernel
theorem dX2_init_0 : decode cX2_init 0 = .ok (.aload_n 0, 1) := by decide +kernel
theorem dX2_init_1 : decode cX2_init 1 = .ok (.invokespecial 3, 3) := by decide +kernel
theorem dX2_init_4 : decode cX2_init 4 = .ok (.aload_n 0, 1) := by decide +kernel
theorem dX2_init_5 : decode cX2_init 5 = .ok (.iconst 1, 1) := by decide +kernel
theorem dX2_init_6 : decode cX2_init 6 = .ok (.newarray .byte, 2) := by decide +kernel
theorem dX2_init_8 : decode cX2_init 8 = .ok (.putfield 9, 3) := by decide +kernel
theorem dX2_init_11 : decode cX2_init 11 = .ok (.aload_n 0, 1) := by decide +kernel
theorem dX2_init_12 : decode cX2_init 12 = .ok (.iconst 1, 1) := by decide +kernel
theorem dX2_init_13 : decode cX2_init 13 = .ok (.newarray .int, 2) := by decide +kernel
theorem dX2_init_15 : decode cX2_init 15 = .ok (.putfield 15, 3) := by decide +kernel
theorem dX2_init_18 : decode cX2_init 18 = .ok (.aload_n 0, 1) := by decide +kernel
theorem dX2_init_19 : decode cX2_init 19 = .ok (.iconst 1, 1) := by decide +kernel
theorem dX2_init_20 : decode cX2_init 20 = .ok (.newarray .int, 2) := by decide +kernel
theorem dX2_init_22 : decode cX2_init 22 = .ok (.putfield 19, 3) := by decide +kernel
theorem dX2_init_25 : decode cX2_init 25 = .ok (.aload_n 0, 1) := by decide +kernel
theorem dX2_init_26 : decode cX2_init 26 = .ok (.iconst 1, 1) := by decide +kernel
theorem dX2_init_27 : decode cX2_init 27 = .ok (.newarray .int, 2) := by decide +kernel
theorem dX2_init_29 : decode cX2_init 29 = .ok (.putfield 22, 3) := by decide +kernel
theorem dX2_init_32 : decode cX2_init 32 = .ok (.return_, 1) := by decide +kernel
theorem dX3_init_0 : decode cX3_init 0 = .ok (.aload_n 0, 1) := by decide +kernel
theorem dX3_init_1 : decode cX3_init 1 = .ok (.invokespecial 3, 3) := by decide +kernel
theorem dX3_init_4 : decode cX3_init 4 = .ok (.aload_n 0, 1) := by decide +kernel
theorem dX3_init_5 : decode cX3_init 5 = .ok (.iconst (-1), 1) := by decide +kernel
theorem dX3_init_6 : decode cX3_init 6 = .ok (.putfield 9, 3) := by decide +kernel
theorem dX3_init_9 : decode cX3_init 9 = .ok (.aload_n 0, 1) := by decide +kernel
theorem dX3_init_10 : decode cX3_init 10 = .ok (.aload_n 1, 1) := by decide +kernel
theorem dX3_init_11 : decode cX3_init 11 = .ok (.putfield 15, 3) := by decide +kernel
theorem dX3_init_14 : decode cX3_init 14 = .ok (.return_, 1) := by decide +kernel
theorem dX4_init_0 : decode cX4_init 0 = .ok (.aload_n 0, 1) := by decide +kernel
theorem dX4_init_1 : decode cX4_init 1 = .ok (.invokespecial 3, 3) := by decide +kernel
theorem dX4_init_4 : decode cX4_init 4 = .ok (.aload_n 0, 1) := by decide +kernel
theorem dX4_init_5 : decode cX4_init 5 = .ok (.sipush 160, 3) := by decide +kernel
theorem dX4_init_8 : decode cX4_init 8 = .ok (.newarray .int, 2) := by decide +kernel
theorem dX4_init_10 : decode cX4_init 10 = .ok (.putfield 9, 3) := by decide +kernel
theorem dX4_init_13 : decode cX4_init 13 = .ok (.return_, 1) := by decide +kernel
theorem dX5_init_0 : decode cX5_init 0 = .ok (.aload_n 0, 1) := by decide +kernel
theorem dX5_init_1 : decode cX5_init 1 = .ok (.invokespecial 3, 3) := by decide +kernel
theorem dX5_init_4 : decode cX5_init 4 = .ok (.aload_n 0, 1) := by decide +kernel
theorem dX5_init_5 : decode cX5_init 5 = .ok (.sipush 1536, 3) := by decide +kernel
theorem dX5_init_8 : decode cX5_init 8 = .ok (.newarray .int, 2) := by decide +kernel
theorem dX5_init_10 : decode cX5_init 10 = .ok (.putfield 9, 3) := by decide +kernel
theorem dX5_init_13 : decode cX5_init 13 = .ok (.aload_n 0, 1) := by decide +kernel
theorem dX5_init_14 : decode cX5_init 14 = .ok (.sipush 1536, 3) := by decide +kernel
theorem dX5_init_17 : decode cX5_init 17 = .ok (.newarray .int, 2) := by decide +kernel
theorem dX5_init_19 : decode cX5_init 19 = .ok (.putfield 15, 3) := by decide +kernel
theorem dX5_init_22 : decode cX5_init 22 = .ok (.return_, 1) := by decide +kernel
theorem dX6_init_0 : decode cX6_init 0 = .ok (.aload_n 0, 1) := by decide +kernel
theorem dX6_init_1 : decode cX6_init 1 = .ok (.invokespecial 3, 3) := by decide +kernel
theorem dX6_init_4 : decode cX6_init 4 = .ok (.aload_n 0, 1) := by decide +kernel
theorem dX6_init_5 : decode cX6_init 5 = .ok (.bipush 24, 2) := by decide +kernel
theorem dX6_init_7 : decode cX6_init 7 = .ok (.newarray .int, 2) := by decide +kernel
theorem dX6_init_9 : decode cX6_init 9 = .ok (.putfield 9, 3) := by decide +kernel
theorem dX6_init_12 : decode cX6_init 12 = .ok (.aload_n 0, 1) := by decide +kernel
theorem dX6_init_13 : decode cX6_init 13 = .ok (.iconst (-1), 1) := by decide +kernel
theorem dX6_init_14 : decode cX6_init 14 = .ok (.putfield 15, 3) := by decide +kernel
theorem dX6_init_17 : decode cX6_init 17 = .ok (.aload_n 0, 1) := by decide +kernel
theorem dX6_init_18 : decode cX6_init 18 = .ok (.iconst 1, 1) := by decide +kernel
theorem dX6_init_19 : decode cX6_init 19 = .ok (.putfield 19, 3) := by decide +kernel
theorem dX6_init_22 : decode cX6_init 22 = .ok (.return_, 1) := by decide +kernel
theorem dX7_init_0 : decode cX7_init 0 = .ok (.aload_n 0, 1) := by decide +kernel
theorem dX7_init_1 : decode cX7_init 1 = .ok (.invokespecial 3, 3) := by decide +kernel
theorem dX7_init_4 : decode cX7_init 4 = .ok (.aload_n 0, 1) := by decide +kernel
theorem dX7_init_5 : decode cX7_init 5 = .ok (.sipush 1600, 3) := by decide +kernel
theorem dX7_init_8 : decode cX7_init 8 = .ok (.newarray .byte, 2) := by decide +kernel
theorem dX7_init_10 : decode cX7_init 10 = .ok (.putfield 9, 3) := by decide +kernel
theorem dX7_init_13 : decode cX7_init 13 = .ok (.return_, 1) := by decide +kernel
theorem dX9_init_0 : decode cX9_init 0 = .ok (.aload_n 0, 1) := by decide +kernel
theorem dX9_init_1 : decode cX9_init 1 = .ok (.invokespecial 3, 3) := by decide +kernel
theorem dX9_init_4 : decode cX9_init 4 = .ok (.aload_n 0, 1) := by decide +kernel
theorem dX9_init_5 : decode cX9_init 5 = .ok (.bipush 30, 2) := by decide +kernel
theorem dX9_init_7 : decode cX9_init 7 = .ok (.newarray .int, 2) := by decide +kernel
theorem dX9_init_9 : decode cX9_init 9 = .ok (.putfield 9, 3) := by decide +kernel
theorem dX9_init_12 : decode cX9_init 12 = .ok (.aload_n 0, 1) := by decide +kernel
theorem dX9_init_13 : decode cX9_init 13 = .ok (.bipush 30, 2) := by decide +kernel
theorem dX9_init_15 : decode cX9_init 15 = .ok (.newarray .int, 2) := by decide +kernel
theorem dX9_init_17 : decode cX9_init 17 = .ok (.putfield 15, 3) := by decide +kernel
theorem dX9_init_20 : decode cX9_init 20 = .ok (.aload_n 0, 1) := by decide +kernel
theorem dX9_init_21 : decode cX9_init 21 = .ok (.bipush 30, 2) := by decide +kernel
theorem dX9_init_23 : decode cX9_init 23 = .ok (.newarray .int, 2) := by decide +kernel
theorem dX9_init_25 : decode cX9_init 25 = .ok (.putfield 18, 3) := by decide +kernel
theorem dX9_init_28 : decode cX9_init 28 = .ok (.aload_n 0, 1) := by decide +kernel
theorem dX9_init_29 : decode cX9_init 29 = .ok (.bipush 30, 2) := by decide +kernel
theorem dX9_init_31 : decode cX9_init 31 = .ok (.newarray .int, 2) := by decide +kernel
theorem dX9_init_33 : decode cX9_init 33 = .ok (.putfield 21, 3) := by decide +kernel
theorem dX9_init_36 : decode cX9_init 36 = .ok (.aload_n 0, 1) := by decide +kernel
theorem dX9_init_37 : decode cX9_init 37 = .ok (.bipush 30, 2) := by decide +kernel
theorem dX9_init_39 : decode cX9_init 39 = .ok (.newarray .int, 2) := by decide +kernel
theorem dX9_init_41 : decode cX9_init 41 = .ok (.putfield 24, 3) := by decide +kernel
theorem dX9_init_44 : decode cX9_init 44 = .ok (.aload_n 0, 1) := by decide +kernel
theorem dX9_init_45 : decode cX9_init 45 = .ok (.bipush 12, 2) := by decide +kernel
theorem dX9_init_47 : decode cX9_init 47 = .ok (.newarray .int, 2) := by decide +kernel
theorem dX9_init_49 : decode cX9_init 49 = .ok (.putfield 27, 3) := by decide +kernel
theorem dX9_init_52 : decode cX9_init 52 = .ok (.aload_n 0, 1) := by decide +kernel
theorem dX9_init_53 : decode cX9_init 53 = .ok (.bipush 24, 2) := by decide +kernel
theorem dX9_init_55 : decode cX9_init 55 = .ok (.newarray .long, 2) := by decide +kernel
theorem dX9_init_57 : decode cX9_init 57 = .ok (.putfield 30, 3) := by decide +kernel
theorem dX9_init_60 : decode cX9_init 60 = .ok (.aload_n 0, 1) := by decide +kernel
theorem dX9_init_61 : decode cX9_init 61 = .ok (.bipush 24, 2) := by decide +kernel
theorem dX9_init_63 : decode cX9_init 63 = .ok (.newarray .long, 2) := by decide +kernel
theorem dX9_init_65 : decode cX9_init 65 = .ok (.putfield 34, 3) := by decide +kernel
theorem dX9_init_68 : decode cX9_init 68 = .ok (.return_, 1) := by decide +kernel
set_option maxHeartbeats 4000000 in
set_option maxRecDepth 100000 in
theorem c_J7_fill_53178 (l : Launch) (D : va_G) (cB cI cJ cS cZ cO : ClassId) (sz : Nat) (a : Nat) (v : Int32) (n : Nat) (f : Nat → Int32) (hn : n < 2 ^ 31) : Met l yJ7_fill_53178 wsJ7_fill_53178 ({ frames := 0, cells := 0, slots := 0, locals := 0 }) (xPre D (tyL cB cI cJ cS cZ cO) [(a, .inl (cI, n, .inl f))] sz [.ref a, .int v]) (xQv D (tyL cB cI cJ cS cZ cO) (va_A [(a, .inl (cI, n, .inl f))] sz) (fun u : va_W => ∃ g : Nat → Int32, u = [(a, .inl (cI, n, .inl g))] ∧ (∀ j : Nat, j < n → g j = v))) 0 0 (va_A [(a, .inl (cI, n, .inl f))] sz) := by
  refine Met.ofW (cc := cJ7_fill_53178) (maxL := 4) (ret := none) (by decide) rfl ?_
  intro p e s m args below meth c s₁ B hml hv
  obtain ⟨rfl, hsz, hP, hK, hD0, hN⟩ := hv
  have hx := B.exec
  have hb := B.bytes
  have hr := B.returns
  have hts := atoms_spec (ws := wsJ7_fill_53178) B.pre
  have hown : s.vm.findClass RJ7 = some m.cls := findClass_of_methodNamed B.named
  have hlocks := B.notSynchronized
  subst hsz
  have hD := hD0.self (sz := s.heap.size)
  generalize hAe : va_A [(a, .inl (cI, n, .inl f))] s.heap.size = A at hD ⊢
  have hA : ∀ q : Nat, s.heap.size ≤ q → A q := fun q h => by rw [← hAe]; exact Or.inr h
  have hS : va_S A s.heap s.heap [] := va_S.rf
  have hP : va_P D vwCl [(a, .inl (cI, n, .inl f))] s.heap := hP
  have hl := lv_entry ([.ref a, .int v]) (n := 4) (Nat.le_of_ble_eq_true rfl)
  rw [lg_entry_eq]
  generalize (lg_sl ([.ref a, .int v]) ++ List.replicate (4 - (lg_sl ([.ref a, .int v])).length) Slot.unset).toArray = ls at hl ⊢
  have hl : lv_has ls 4 [(0, .ref a), (1, .int v)] := hl
  refine lv_iconst (v := 0) hx hb dJ7_fill_53178_0 (by decide) ?_
  refine lv_istore_n (lv' := [(2, .int 0), (0, .ref a), (1, .int v)]) hx hb dJ7_fill_53178_1 rfl hl (by decide) rfl (fun ls hl => ?_)
  refine lv_aload_n hx hb dJ7_fill_53178_2 rfl (lv_at hl 1 rfl) ?_
  refine va_alen (v := nI n) hx hb hK hP 0 1 rfl rfl rfl dJ7_fill_53178_3 ?_
  refine lv_istore_n (lv' := [(3, .int (nI n)), (2, .int 0), (0, .ref a), (1, .int v)]) hx hb dJ7_fill_53178_4 rfl hl (by decide) rfl (fun ls hl => ?_)
  refine xb_up (fun i H locs ls => ∃ g : Nat → Int32, va_P D vwCl [(a, .inl (cI, n, .inl g))] H ∧ va_D A [(a, .inl (cI, n, .inl g))] ∧ va_S A s.heap H locs ∧ lv_has ls 4 [(3, .int (nI n)), (2, .int (nI i)), (0, .ref a), (1, .int v)] ∧ (∀ j : Nat, j < i → g j = v)) n 0 (Nat.zero_le _) ⟨f, hP, hD, hS, lv_sub hl [0, 1, 2, 3] rfl, (fun j h => absurd h (Nat.not_lt_zero j))⟩ (fun i H locs ls hi hI kk => ?_) (fun H locs ls hI => ?_)
  · obtain ⟨g, hP, hD, hS, hl, hF5_0⟩ := hI
    refine lv_iload_n hx hb dJ7_fill_53178_5 rfl (lv_at hl 1 rfl) ?_
    refine lv_iload_n hx hb dJ7_fill_53178_6 rfl (lv_at hl 0 rfl) ?_
    refine lv_icmp_ge (tgt := 20) hx hb dJ7_fill_53178_7 (by decide) (fun c_1 => absurd c_1 (nI_ge hi hn)) (fun c_1 => ?_)
    refine lv_aload_n hx hb dJ7_fill_53178_10 rfl (lv_at hl 2 rfl) ?_
    refine lv_iload_n hx hb dJ7_fill_53178_11 rfl (lv_at hl 1 rfl) ?_
    refine lv_iload_n hx hb dJ7_fill_53178_12 rfl (lv_at hl 3 rfl) ?_
    refine va_iast hx hb hK hP hD hS 0 1 rfl rfl (vp_in_nI hi hn) dJ7_fill_53178_13 (fun H locs hP hD hS => ?_)
    have hP : va_P D vwCl [(a, .inl (cI, n, .inl (upd g (Int32.toNatClampNeg (nI i)) v)))] H := hP
    have hD : va_D A [(a, .inl (cI, n, .inl (upd g (Int32.toNatClampNeg (nI i)) v)))] := hD
    generalize eg_2 : upd g (Int32.toNatClampNeg (nI i)) v = g_2 at hP hD
    refine lv_iinc (v := nI (i + 1)) (lv' := [(2, .int (nI (i + 1))), (3, .int (nI n)), (0, .ref a), (1, .int v)]) hx hb dJ7_fill_53178_14 hl (k := 1) rfl (nI_1 i) (by decide) rfl (fun ls hl => ?_)
    refine lv_goto (tgt := 5) hx hb dJ7_fill_53178_17 (by decide) ?_
    exact kk _ _ _ ⟨g_2, hP, hD, hS, lv_sub hl [1, 0, 2, 3] rfl, (up_fill hi hn hF5_0 eg_2)⟩
  · obtain ⟨g, hP, hD, hS, hl, hF5_0⟩ := hI
    refine lv_iload_n hx hb dJ7_fill_53178_5 rfl (lv_at hl 1 rfl) ?_
    refine lv_iload_n hx hb dJ7_fill_53178_6 rfl (lv_at hl 0 rfl) ?_
    refine lv_icmp_ge (tgt := 20) hx hb dJ7_fill_53178_7 (by decide) (fun c_3 => ?_) (fun c_3 => absurd (nI_le (Nat.le_refl n) hn) c_3)
    have hP9 := hP.sub (ws' := [(a, .inl (cI, n, .inl g))]) [0] rfl
    have hD9 := hD.sub (ws' := [(a, .inl (cI, n, .inl g))]) [0] (by decide) rfl
    refine W.widen (k := 0) (n := 0) (Nat.le_of_ble_eq_true rfl) (Nat.le_of_ble_eq_true rfl) ?_
    exact W.vret hx hb hr (fun tz htz hWz => ⟨⟨[(a, .inl (cI, n, .inl g))], rfl, ⟨g, rfl, hF5_0⟩, by rw [htz]; exact hP9, va_K.moved hWz.alike hK, hD9⟩, hS.F htz⟩) hS.2.2 dJ7_fill_53178_20

set_option maxHeartbeats 4000000 in
set_option maxRecDepth 100000 in
theorem c_X7_init (l : Launch) (D : va_G) (cB cI cJ cS cZ cO : ClassId) (sz : Nat) (o : Nat) : Met l yX7_init wsX7_init ({ frames := 1, cells := 1, slots := 1600, locals := 12 }) (xPre D (tyL cB cI cJ cS cZ cO) [(o, .inr (7, [.null, .int 0]))] sz [.ref o]) (xQv D (tyL cB cI cJ cS cZ cO) (va_A [(o, .inr (7, [.null, .int 0]))] sz) (fun u : va_W => ∃ q1 : Nat, ∃ g : Nat → Int32, u = [(o, .inr (7, [.ref q1, .int 0])), (q1, .inl (cB, 1600, .inl g))])) 1 1600 (va_A [(o, .inr (7, [.null, .int 0]))] sz) := by
  refine Met.ofW (cc := cX7_init) (maxL := 1) (ret := none) (by decide) rfl ?_
  intro p e s m args below meth c s₁ B hml hv
  obtain ⟨rfl, hsz, hP, hK, hD0, hN⟩ := hv
  have hx := B.exec
  have hb := B.bytes
  have hr := B.returns
  have hts := atoms_spec (ws := wsX7_init) B.pre
  have hown : s.vm.findClass RX7 = some m.cls := findClass_of_methodNamed B.named
  have hlocks := B.notSynchronized
  have hin : meth.name = "<init>" := (name_of_methodNamed B.named B.method).1
  subst hsz
  have hD := hD0.self (sz := s.heap.size)
  generalize hAe : va_A [(o, .inr (7, [.null, .int 0]))] s.heap.size = A at hD ⊢
  have hA : ∀ q : Nat, s.heap.size ≤ q → A q := fun q h => by rw [← hAe]; exact Or.inr h
  have hS : va_S A s.heap s.heap [] := va_S.rf
  have hP : va_P D vwCl [(o, .inr (7, [.null, .int 0]))] s.heap := hP
  have hl := lv_entry ([.ref o]) (n := 1) (Nat.le_of_ble_eq_true rfl)
  rw [lg_entry_eq]
  generalize (lg_sl ([.ref o]) ++ List.replicate (1 - (lg_sl ([.ref o])).length) Slot.unset).toArray = ls at hl ⊢
  have hl : lv_has ls 1 [(0, .ref o)] := hl
  refine lv_aload_n hx hb dX7_init_0 rfl (lv_at hl 0 rfl) ?_
  refine W.objInit hx hb hown (hts (.methodLink RX7 3 objectInit) (by decide +kernel)) (hts (.instanceMethod objectInit) (by decide +kernel)) (hts (.code objectInit ⟨#[0xb1]⟩ 1 none) (by decide +kernel)) rfl (by rw [hml]; exact hl.1) rfl dX7_init_1 (Nat.le_of_ble_eq_true rfl) (Nat.le_of_ble_eq_true rfl) ?_
  refine W.eq (g2 := F0 m 4 ls []) rfl ?_
  refine lv_aload_n hx hb dX7_init_4 rfl (lv_at hl 0 rfl) ?_
  refine lv_sipush (v := 1600) hx hb dX7_init_5 (by decide) ?_
  refine xnewa (atype := .byte) (a0 := (1600, .inl (fun _ => 0))) (ty := .byte) hx hb (hts (.arrayClass .byte) (by decide +kernel)) rfl hK 0 rfl hP hD hS hA (fun _ => rfl) (by decide) (by decide) (Nat.le_of_ble_eq_true rfl) (Nat.le_of_ble_eq_true rfl) (Nat.le_of_ble_eq_true rfl) dX7_init_8 (fun q_1 H hP hD hS => ?_)
  refine W.widen (k := 1) (n := 1600) (Nat.le_of_ble_eq_true rfl) (Nat.le_of_ble_eq_true rfl) ?_
  have hP : va_P D vwCl [(o, .inr (7, [.null, .int 0])), (q_1, .inl (cB, 1600, .inl (fun _ => 0)))] H := hP
  have hD : va_D A [(o, .inr (7, [.null, .int 0])), (q_1, .inl (cB, 1600, .inl (fun _ => 0)))] := hD
  refine va_putF (D := D) (ci := 7) (v := .ref q_1) (ty := .array .byte) (C := RX7) (T := TX7) (N := 2) hx hb hts (by decide +kernel) tyX7 tyX7_ok nmX7 hown hK hP hD hS 0 rfl rfl 0 (by decide) (hts (.fieldLink RX7 9 "LastLetter$Tape" "bytes" "[B") (by decide +kernel)) (fun _ h9 => h9) rfl hin rfl (by decide +kernel) rfl rfl (Nat.le_of_ble_eq_true rfl) dX7_init_10 (fun H locs hP hD hS => ?_)
  have hP : va_P D vwCl [(o, .inr (7, [.ref q_1, .int 0])), (q_1, .inl (cB, 1600, .inl (fun _ => 0)))] H := hP
  have hD : va_D A [(o, .inr (7, [.ref q_1, .int 0])), (q_1, .inl (cB, 1600, .inl (fun _ => 0)))] := hD
  have hP9 := hP.sub (ws' := [(o, .inr (7, [.ref q_1, .int 0])), (q_1, .inl (cB, 1600, .inl (fun _ => 0)))]) [0, 1] rfl
  have hD9 := hD.sub (ws' := [(o, .inr (7, [.ref q_1, .int 0])), (q_1, .inl (cB, 1600, .inl (fun _ => 0)))]) [0, 1] (by decide) rfl
  refine W.widen (k := 1) (n := 1600) (Nat.le_of_ble_eq_true rfl) (Nat.le_of_ble_eq_true rfl) ?_
  exact W.vret hx hb hr (fun tz htz hWz => ⟨⟨[(o, .inr (7, [.ref q_1, .int 0])), (q_1, .inl (cB, 1600, .inl (fun _ => 0)))], rfl, ⟨q_1, (fun _ => 0), rfl⟩, by rw [htz]; exact hP9, va_K.moved hWz.alike hK, hD9⟩, hS.F htz⟩) hS.2.2 dX7_init_13

set_option maxHeartbeats 4000000 in
set_option maxRecDepth 100000 in
theorem c_X3_init (l : Launch) (D : va_G) (cB cI cJ cS cZ cO : ClassId) (sz : Nat) (o : Nat) (t : Nat) : Met l yX3_init wsX3_init ({ frames := 1, cells := 0, slots := 0, locals := 12 }) (xPre D (tyL cB cI cJ cS cZ cO) [(o, .inr (3, [.null, .int 0, .int 0, .int 0, .int 0, .int 0]))] sz [.ref o, .ref t]) (xQv D (tyL cB cI cJ cS cZ cO) (va_A [(o, .inr (3, [.null, .int 0, .int 0, .int 0, .int 0, .int 0]))] sz) (fun u : va_W => u = [(o, .inr (3, [.ref t, .int 0, .int 0, .int 0, .int 0, .int (-1)]))])) 0 0 (va_A [(o, .inr (3, [.null, .int 0, .int 0, .int 0, .int 0, .int 0]))] sz) := by
  refine Met.ofW (cc := cX3_init) (maxL := 2) (ret := none) (by decide) rfl ?_
  intro p e s m args below meth c s₁ B hml hv
  obtain ⟨rfl, hsz, hP, hK, hD0, hN⟩ := hv
  have hx := B.exec
  have hb := B.bytes
  have hr := B.returns
  have hts := atoms_spec (ws := wsX3_init) B.pre
  have hown : s.vm.findClass RX3 = some m.cls := findClass_of_methodNamed B.named
  have hlocks := B.notSynchronized
  have hin : meth.name = "<init>" := (name_of_methodNamed B.named B.method).1
  subst hsz
  have hD := hD0.self (sz := s.heap.size)
  generalize hAe : va_A [(o, .inr (3, [.null, .int 0, .int 0, .int 0, .int 0, .int 0]))] s.heap.size = A at hD ⊢
  have hA : ∀ q : Nat, s.heap.size ≤ q → A q := fun q h => by rw [← hAe]; exact Or.inr h
  have hS : va_S A s.heap s.heap [] := va_S.rf
  have hP : va_P D vwCl [(o, .inr (3, [.null, .int 0, .int 0, .int 0, .int 0, .int 0]))] s.heap := hP
  have hl := lv_entry ([.ref o, .ref t]) (n := 2) (Nat.le_of_ble_eq_true rfl)
  rw [lg_entry_eq]
  generalize (lg_sl ([.ref o, .ref t]) ++ List.replicate (2 - (lg_sl ([.ref o, .ref t])).length) Slot.unset).toArray = ls at hl ⊢
  have hl : lv_has ls 2 [(0, .ref o), (1, .ref t)] := hl
  refine lv_aload_n hx hb dX3_init_0 rfl (lv_at hl 0 rfl) ?_
  refine W.objInit hx hb hown (hts (.methodLink RX3 3 objectInit) (by decide +kernel)) (hts (.instanceMethod objectInit) (by decide +kernel)) (hts (.code objectInit ⟨#[0xb1]⟩ 1 none) (by decide +kernel)) rfl (by rw [hml]; exact hl.1) rfl dX3_init_1 (Nat.le_of_ble_eq_true rfl) (Nat.le_of_ble_eq_true rfl) ?_
  refine W.eq (g2 := F0 m 4 ls []) rfl ?_
  refine lv_aload_n hx hb dX3_init_4 rfl (lv_at hl 0 rfl) ?_
  refine lv_iconst (v := (-1)) hx hb dX3_init_5 (by decide) ?_
  refine va_put (D := D) (ci := 3) (v := .int (-1)) (ty := .int) (C := RX3) (T := TX3) (N := 6) hx hb hts (by decide +kernel) tyX3 tyX3_ok nmX3 hown hK hP hD hS 0 rfl rfl 5 (by decide) (hts (.fieldLink RX3 9 "LastLetter$Reader" "place" "I") (by decide +kernel)) (fun _ h9 => h9) rfl (by decide +kernel) rfl rfl (Nat.le_of_ble_eq_true rfl) dX3_init_6 (fun H locs hP hD hS => ?_)
  have hP : va_P D vwCl [(o, .inr (3, [.null, .int 0, .int 0, .int 0, .int 0, .int (-1)]))] H := hP
  have hD : va_D A [(o, .inr (3, [.null, .int 0, .int 0, .int 0, .int 0, .int (-1)]))] := hD
  refine lv_aload_n hx hb dX3_init_9 rfl (lv_at hl 0 rfl) ?_
  refine lv_aload_n hx hb dX3_init_10 rfl (lv_at hl 1 rfl) ?_
  refine va_putF (D := D) (ci := 3) (v := .ref t) (ty := .object "LastLetter$Tape") (C := RX3) (T := TX3) (N := 6) hx hb hts (by decide +kernel) tyX3 tyX3_ok nmX3 hown hK hP hD hS 0 rfl rfl 0 (by decide) (hts (.fieldLink RX3 15 "LastLetter$Reader" "tape" "LLastLetter$Tape;") (by decide +kernel)) (fun _ h9 => h9) rfl hin rfl (by decide +kernel) rfl rfl (Nat.le_of_ble_eq_true rfl) dX3_init_11 (fun H locs hP hD hS => ?_)
  have hP : va_P D vwCl [(o, .inr (3, [.ref t, .int 0, .int 0, .int 0, .int 0, .int (-1)]))] H := hP
  have hD : va_D A [(o, .inr (3, [.ref t, .int 0, .int 0, .int 0, .int 0, .int (-1)]))] := hD
  have hP9 := hP.sub (ws' := [(o, .inr (3, [.ref t, .int 0, .int 0, .int 0, .int 0, .int (-1)]))]) [0] rfl
  have hD9 := hD.sub (ws' := [(o, .inr (3, [.ref t, .int 0, .int 0, .int 0, .int 0, .int (-1)]))]) [0] (by decide) rfl
  refine W.widen (k := 0) (n := 0) (Nat.le_of_ble_eq_true rfl) (Nat.le_of_ble_eq_true rfl) ?_
  exact W.vret hx hb hr (fun tz htz hWz => ⟨⟨[(o, .inr (3, [.ref t, .int 0, .int 0, .int 0, .int 0, .int (-1)]))], rfl, rfl, by rw [htz]; exact hP9, va_K.moved hWz.alike hK, hD9⟩, hS.F htz⟩) hS.2.2 dX3_init_14

set_option maxHeartbeats 4000000 in
set_option maxRecDepth 100000 in
theorem c_X6_init (l : Launch) (D : va_G) (cB cI cJ cS cZ cO : ClassId) (sz : Nat) (o : Nat) : Met l yX6_init wsX6_init ({ frames := 1, cells := 1, slots := 24, locals := 12 }) (xPre D (tyL cB cI cJ cS cZ cO) [(o, .inr (6, [.null, .int 0, .int 0, .int 0, .int 0, .int 0, .int 0]))] sz [.ref o]) (xQv D (tyL cB cI cJ cS cZ cO) (va_A [(o, .inr (6, [.null, .int 0, .int 0, .int 0, .int 0, .int 0, .int 0]))] sz) (fun u : va_W => ∃ q1 : Nat, ∃ g : Nat → Int32, u = [(o, .inr (6, [.ref q1, .int (-1), .int 0, .int 0, .int 0, .int 1, .int 0])), (q1, .inl (cI, 24, .inl g))])) 1 24 (va_A [(o, .inr (6, [.null, .int 0, .int 0, .int 0, .int 0, .int 0, .int 0]))] sz) := by
  refine Met.ofW (cc := cX6_init) (maxL := 1) (ret := none) (by decide) rfl ?_
  intro p e s m args below meth c s₁ B hml hv
  obtain ⟨rfl, hsz, hP, hK, hD0, hN⟩ := hv
  have hx := B.exec
  have hb := B.bytes
  have hr := B.returns
  have hts := atoms_spec (ws := wsX6_init) B.pre
  have hown : s.vm.findClass RX6 = some m.cls := findClass_of_methodNamed B.named
  have hlocks := B.notSynchronized
  have hin : meth.name = "<init>" := (name_of_methodNamed B.named B.method).1
  subst hsz
  have hD := hD0.self (sz := s.heap.size)
  generalize hAe : va_A [(o, .inr (6, [.null, .int 0, .int 0, .int 0, .int 0, .int 0, .int 0]))] s.heap.size = A at hD ⊢
  have hA : ∀ q : Nat, s.heap.size ≤ q → A q := fun q h => by rw [← hAe]; exact Or.inr h
  have hS : va_S A s.heap s.heap [] := va_S.rf
  have hP : va_P D vwCl [(o, .inr (6, [.null, .int 0, .int 0, .int 0, .int 0, .int 0, .int 0]))] s.heap := hP
  have hl := lv_entry ([.ref o]) (n := 1) (Nat.le_of_ble_eq_true rfl)
  rw [lg_entry_eq]
  generalize (lg_sl ([.ref o]) ++ List.replicate (1 - (lg_sl ([.ref o])).length) Slot.unset).toArray = ls at hl ⊢
  have hl : lv_has ls 1 [(0, .ref o)] := hl
  refine lv_aload_n hx hb dX6_init_0 rfl (lv_at hl 0 rfl) ?_
  refine W.objInit hx hb hown (hts (.methodLink RX6 3 objectInit) (by decide +kernel)) (hts (.instanceMethod objectInit) (by decide +kernel)) (hts (.code objectInit ⟨#[0xb1]⟩ 1 none) (by decide +kernel)) rfl (by rw [hml]; exact hl.1) rfl dX6_init_1 (Nat.le_of_ble_eq_true rfl) (Nat.le_of_ble_eq_true rfl) ?_
  refine W.eq (g2 := F0 m 4 ls []) rfl ?_
  refine lv_aload_n hx hb dX6_init_4 rfl (lv_at hl 0 rfl) ?_
  refine lv_bipush (v := 24) hx hb dX6_init_5 (by decide) ?_
  refine xnewa (atype := .int) (a0 := (24, .inl (fun _ => 0))) (ty := .int) hx hb (hts (.arrayClass .int) (by decide +kernel)) rfl hK 1 rfl hP hD hS hA (fun _ => rfl) (by decide) (by decide) (Nat.le_of_ble_eq_true rfl) (Nat.le_of_ble_eq_true rfl) (Nat.le_of_ble_eq_true rfl) dX6_init_7 (fun q_1 H hP hD hS => ?_)
  refine W.widen (k := 1) (n := 24) (Nat.le_of_ble_eq_true rfl) (Nat.le_of_ble_eq_true rfl) ?_
  have hP : va_P D vwCl [(o, .inr (6, [.null, .int 0, .int 0, .int 0, .int 0, .int 0, .int 0])), (q_1, .inl (cI, 24, .inl (fun _ => 0)))] H := hP
  have hD : va_D A [(o, .inr (6, [.null, .int 0, .int 0, .int 0, .int 0, .int 0, .int 0])), (q_1, .inl (cI, 24, .inl (fun _ => 0)))] := hD
  refine va_putF (D := D) (ci := 6) (v := .ref q_1) (ty := .array .int) (C := RX6) (T := TX6) (N := 7) hx hb hts (by decide +kernel) tyX6 tyX6_ok nmX6 hown hK hP hD hS 0 rfl rfl 0 (by decide) (hts (.fieldLink RX6 9 "LastLetter$Talk" "said" "[I") (by decide +kernel)) (fun _ h9 => h9) rfl hin rfl (by decide +kernel) rfl rfl (Nat.le_of_ble_eq_true rfl) dX6_init_9 (fun H locs hP hD hS => ?_)
  have hP : va_P D vwCl [(o, .inr (6, [.ref q_1, .int 0, .int 0, .int 0, .int 0, .int 0, .int 0])), (q_1, .inl (cI, 24, .inl (fun _ => 0)))] H := hP
  have hD : va_D A [(o, .inr (6, [.ref q_1, .int 0, .int 0, .int 0, .int 0, .int 0, .int 0])), (q_1, .inl (cI, 24, .inl (fun _ => 0)))] := hD
  refine lv_aload_n hx hb dX6_init_12 rfl (lv_at hl 0 rfl) ?_
  refine lv_iconst (v := (-1)) hx hb dX6_init_13 (by decide) ?_
  refine va_put (D := D) (ci := 6) (v := .int (-1)) (ty := .int) (C := RX6) (T := TX6) (N := 7) hx hb hts (by decide +kernel) tyX6 tyX6_ok nmX6 hown hK hP hD hS 0 rfl rfl 1 (by decide) (hts (.fieldLink RX6 15 "LastLetter$Talk" "latest" "I") (by decide +kernel)) (fun _ h9 => h9) rfl (by decide +kernel) rfl rfl (Nat.le_of_ble_eq_true rfl) dX6_init_14 (fun H locs hP hD hS => ?_)
  have hP : va_P D vwCl [(o, .inr (6, [.ref q_1, .int (-1), .int 0, .int 0, .int 0, .int 0, .int 0])), (q_1, .inl (cI, 24, .inl (fun _ => 0)))] H := hP
  have hD : va_D A [(o, .inr (6, [.ref q_1, .int (-1), .int 0, .int 0, .int 0, .int 0, .int 0])), (q_1, .inl (cI, 24, .inl (fun _ => 0)))] := hD
  refine lv_aload_n hx hb dX6_init_17 rfl (lv_at hl 0 rfl) ?_
  refine lv_iconst (v := 1) hx hb dX6_init_18 (by decide) ?_
  refine va_put (D := D) (ci := 6) (v := .int 1) (ty := .int) (C := RX6) (T := TX6) (N := 7) hx hb hts (by decide +kernel) tyX6 tyX6_ok nmX6 hown hK hP hD hS 0 rfl rfl 5 (by decide) (hts (.fieldLink RX6 19 "LastLetter$Talk" "w" "I") (by decide +kernel)) (fun _ h9 => h9) rfl (by decide +kernel) rfl rfl (Nat.le_of_ble_eq_true rfl) dX6_init_19 (fun H locs hP hD hS => ?_)
  have hP : va_P D vwCl [(o, .inr (6, [.ref q_1, .int (-1), .int 0, .int 0, .int 0, .int 1, .int 0])), (q_1, .inl (cI, 24, .inl (fun _ => 0)))] H := hP
  have hD : va_D A [(o, .inr (6, [.ref q_1, .int (-1), .int 0, .int 0, .int 0, .int 1, .int 0])), (q_1, .inl (cI, 24, .inl (fun _ => 0)))] := hD
  have hP9 := hP.sub (ws' := [(o, .inr (6, [.ref q_1, .int (-1), .int 0, .int 0, .int 0, .int 1, .int 0])), (q_1, .inl (cI, 24, .inl (fun _ => 0)))]) [0, 1] rfl
  have hD9 := hD.sub (ws' := [(o, .inr (6, [.ref q_1, .int (-1), .int 0, .int 0, .int 0, .int 1, .int 0])), (q_1, .inl (cI, 24, .inl (fun _ => 0)))]) [0, 1] (by decide) rfl
  refine W.widen (k := 1) (n := 24) (Nat.le_of_ble_eq_true rfl) (Nat.le_of_ble_eq_true rfl) ?_
  exact W.vret hx hb hr (fun tz htz hWz => ⟨⟨[(o, .inr (6, [.ref q_1, .int (-1), .int 0, .int 0, .int 0, .int 1, .int 0])), (q_1, .inl (cI, 24, .inl (fun _ => 0)))], rfl, ⟨q_1, (fun _ => 0), rfl⟩, by rw [htz]; exact hP9, va_K.moved hWz.alike hK, hD9⟩, hS.F htz⟩) hS.2.2 dX6_init_22

set_option maxHeartbeats 4000000 in
set_option maxRecDepth 100000 in
theorem c_X4_init (l : Launch) (D : va_G) (cB cI cJ cS cZ cO : ClassId) (sz : Nat) (o : Nat) : Met l yX4_init wsX4_init ({ frames := 1, cells := 1, slots := 160, locals := 12 }) (xPre D (tyL cB cI cJ cS cZ cO) [(o, .inr (4, [.null, .int 0]))] sz [.ref o]) (xQv D (tyL cB cI cJ cS cZ cO) (va_A [(o, .inr (4, [.null, .int 0]))] sz) (fun u : va_W => ∃ q1 : Nat, u = [(o, .inr (4, [.ref q1, .int 0]))])) 1 160 (va_A [(o, .inr (4, [.null, .int 0]))] sz) := by
  refine Met.ofW (cc := cX4_init) (maxL := 1) (ret := none) (by decide) rfl ?_
  intro p e s m args below meth c s₁ B hml hv
  obtain ⟨rfl, hsz, hP, hK, hD0, hN⟩ := hv
  have hx := B.exec
  have hb := B.bytes
  have hr := B.returns
  have hts := atoms_spec (ws := wsX4_init) B.pre
  have hown : s.vm.findClass RX4 = some m.cls := findClass_of_methodNamed B.named
  have hlocks := B.notSynchronized
  have hin : meth.name = "<init>" := (name_of_methodNamed B.named B.method).1
  subst hsz
  have hD := hD0.self (sz := s.heap.size)
  generalize hAe : va_A [(o, .inr (4, [.null, .int 0]))] s.heap.size = A at hD ⊢
  have hA : ∀ q : Nat, s.heap.size ≤ q → A q := fun q h => by rw [← hAe]; exact Or.inr h
  have hS : va_S A s.heap s.heap [] := va_S.rf
  have hP : va_P D vwCl [(o, .inr (4, [.null, .int 0]))] s.heap := hP
  have hl := lv_entry ([.ref o]) (n := 1) (Nat.le_of_ble_eq_true rfl)
  rw [lg_entry_eq]
  generalize (lg_sl ([.ref o]) ++ List.replicate (1 - (lg_sl ([.ref o])).length) Slot.unset).toArray = ls at hl ⊢
  have hl : lv_has ls 1 [(0, .ref o)] := hl
  refine lv_aload_n hx hb dX4_init_0 rfl (lv_at hl 0 rfl) ?_
  refine W.objInit hx hb hown (hts (.methodLink RX4 3 objectInit) (by decide +kernel)) (hts (.instanceMethod objectInit) (by decide +kernel)) (hts (.code objectInit ⟨#[0xb1]⟩ 1 none) (by decide +kernel)) rfl (by rw [hml]; exact hl.1) rfl dX4_init_1 (Nat.le_of_ble_eq_true rfl) (Nat.le_of_ble_eq_true rfl) ?_
  refine W.eq (g2 := F0 m 4 ls []) rfl ?_
  refine lv_aload_n hx hb dX4_init_4 rfl (lv_at hl 0 rfl) ?_
  refine lv_sipush (v := 160) hx hb dX4_init_5 (by decide) ?_
  refine xnewa (atype := .int) (a0 := (160, .inl (fun _ => 0))) (ty := .int) hx hb (hts (.arrayClass .int) (by decide +kernel)) rfl hK 1 rfl hP hD hS hA (fun _ => rfl) (by decide) (by decide) (Nat.le_of_ble_eq_true rfl) (Nat.le_of_ble_eq_true rfl) (Nat.le_of_ble_eq_true rfl) dX4_init_8 (fun q_1 H hP hD hS => ?_)
  refine W.widen (k := 1) (n := 160) (Nat.le_of_ble_eq_true rfl) (Nat.le_of_ble_eq_true rfl) ?_
  have hP : va_P D vwCl [(o, .inr (4, [.null, .int 0])), (q_1, .inl (cI, 160, .inl (fun _ => 0)))] H := hP
  have hD : va_D A [(o, .inr (4, [.null, .int 0])), (q_1, .inl (cI, 160, .inl (fun _ => 0)))] := hD
  refine va_putF (D := D) (ci := 4) (v := .ref q_1) (ty := .array .int) (C := RX4) (T := TX4) (N := 2) hx hb hts (by decide +kernel) tyX4 tyX4_ok nmX4 hown hK hP hD hS 0 rfl rfl 0 (by decide) (hts (.fieldLink RX4 9 "LastLetter$Row" "items" "[I") (by decide +kernel)) (fun _ h9 => h9) rfl hin rfl (by decide +kernel) rfl rfl (Nat.le_of_ble_eq_true rfl) dX4_init_10 (fun H locs hP hD hS => ?_)
  have hP : va_P D vwCl [(o, .inr (4, [.ref q_1, .int 0])), (q_1, .inl (cI, 160, .inl (fun _ => 0)))] H := hP
  have hD : va_D A [(o, .inr (4, [.ref q_1, .int 0])), (q_1, .inl (cI, 160, .inl (fun _ => 0)))] := hD
  have hP9 := hP.sub (ws' := [(o, .inr (4, [.ref q_1, .int 0]))]) [0] rfl
  have hD9 := hD.sub (ws' := [(o, .inr (4, [.ref q_1, .int 0]))]) [0] (by decide) rfl
  refine W.widen (k := 1) (n := 160) (Nat.le_of_ble_eq_true rfl) (Nat.le_of_ble_eq_true rfl) ?_
  exact W.vret hx hb hr (fun tz htz hWz => ⟨⟨[(o, .inr (4, [.ref q_1, .int 0]))], rfl, ⟨q_1, rfl⟩, by rw [htz]; exact hP9, va_K.moved hWz.alike hK, hD9⟩, hS.F htz⟩) hS.2.2 dX4_init_13

set_option maxHeartbeats 4000000 in
set_option maxRecDepth 100000 in
theorem c_X1_init (l : Launch) (D : va_G) (cB cI cJ cS cZ cO : ClassId) (sz : Nat) (o : Nat) : Met l yX1_init wsX1_init ({ frames := 1, cells := 1, slots := 26, locals := 12 }) (xPre D (tyL cB cI cJ cS cZ cO) [(o, .inr (1, [.null]))] sz [.ref o]) (xQv D (tyL cB cI cJ cS cZ cO) (va_A [(o, .inr (1, [.null]))] sz) (fun u : va_W => ∃ q1 : Nat, ∃ g : Nat → Int32, u = [(o, .inr (1, [.ref q1])), (q1, .inl (cI, 26, .inl g))])) 1 26 (va_A [(o, .inr (1, [.null]))] sz) := by
  refine Met.ofW (cc := cX1_init) (maxL := 1) (ret := none) (by decide) rfl ?_
  intro p e s m args below meth c s₁ B hml hv
  obtain ⟨rfl, hsz, hP, hK, hD0, hN⟩ := hv
  have hx := B.exec
  have hb := B.bytes
  have hr := B.returns
  have hts := atoms_spec (ws := wsX1_init) B.pre
  have hown : s.vm.findClass RX1 = some m.cls := findClass_of_methodNamed B.named
  have hlocks := B.notSynchronized
  have hin : meth.name = "<init>" := (name_of_methodNamed B.named B.method).1
  subst hsz
  have hD := hD0.self (sz := s.heap.size)
  generalize hAe : va_A [(o, .inr (1, [.null]))] s.heap.size = A at hD ⊢
  have hA : ∀ q : Nat, s.heap.size ≤ q → A q := fun q h => by rw [← hAe]; exact Or.inr h
  have hS : va_S A s.heap s.heap [] := va_S.rf
  have hP : va_P D vwCl [(o, .inr (1, [.null]))] s.heap := hP
  have hl := lv_entry ([.ref o]) (n := 1) (Nat.le_of_ble_eq_true rfl)
  rw [lg_entry_eq]
  generalize (lg_sl ([.ref o]) ++ List.replicate (1 - (lg_sl ([.ref o])).length) Slot.unset).toArray = ls at hl ⊢
  have hl : lv_has ls 1 [(0, .ref o)] := hl
  refine lv_aload_n hx hb dX1_init_0 rfl (lv_at hl 0 rfl) ?_
  refine W.objInit hx hb hown (hts (.methodLink RX1 3 objectInit) (by decide +kernel)) (hts (.instanceMethod objectInit) (by decide +kernel)) (hts (.code objectInit ⟨#[0xb1]⟩ 1 none) (by decide +kernel)) rfl (by rw [hml]; exact hl.1) rfl dX1_init_1 (Nat.le_of_ble_eq_true rfl) (Nat.le_of_ble_eq_true rfl) ?_
  refine W.eq (g2 := F0 m 4 ls []) rfl ?_
  refine lv_aload_n hx hb dX1_init_4 rfl (lv_at hl 0 rfl) ?_
  refine lv_bipush (v := 26) hx hb dX1_init_5 (by decide) ?_
  refine xnewa (atype := .int) (a0 := (26, .inl (fun _ => 0))) (ty := .int) hx hb (hts (.arrayClass .int) (by decide +kernel)) rfl hK 1 rfl hP hD hS hA (fun _ => rfl) (by decide) (by decide) (Nat.le_of_ble_eq_true rfl) (Nat.le_of_ble_eq_true rfl) (Nat.le_of_ble_eq_true rfl) dX1_init_7 (fun q_1 H hP hD hS => ?_)
  refine W.widen (k := 1) (n := 26) (Nat.le_of_ble_eq_true rfl) (Nat.le_of_ble_eq_true rfl) ?_
  have hP : va_P D vwCl [(o, .inr (1, [.null])), (q_1, .inl (cI, 26, .inl (fun _ => 0)))] H := hP
  have hD : va_D A [(o, .inr (1, [.null])), (q_1, .inl (cI, 26, .inl (fun _ => 0)))] := hD
  refine va_putF (D := D) (ci := 1) (v := .ref q_1) (ty := .array .int) (C := RX1) (T := TX1) (N := 1) hx hb hts (by decide +kernel) tyX1 tyX1_ok nmX1 hown hK hP hD hS 0 rfl rfl 0 (by decide) (hts (.fieldLink RX1 9 "LastLetter$Letters" "group" "[I") (by decide +kernel)) (fun _ h9 => h9) rfl hin rfl (by decide +kernel) rfl rfl (Nat.le_of_ble_eq_true rfl) dX1_init_9 (fun H locs hP hD hS => ?_)
  have hP : va_P D vwCl [(o, .inr (1, [.ref q_1])), (q_1, .inl (cI, 26, .inl (fun _ => 0)))] H := hP
  have hD : va_D A [(o, .inr (1, [.ref q_1])), (q_1, .inl (cI, 26, .inl (fun _ => 0)))] := hD
  have hP9 := hP.sub (ws' := [(o, .inr (1, [.ref q_1])), (q_1, .inl (cI, 26, .inl (fun _ => 0)))]) [0, 1] rfl
  have hD9 := hD.sub (ws' := [(o, .inr (1, [.ref q_1])), (q_1, .inl (cI, 26, .inl (fun _ => 0)))]) [0, 1] (by decide) rfl
  refine W.widen (k := 1) (n := 26) (Nat.le_of_ble_eq_true rfl) (Nat.le_of_ble_eq_true rfl) ?_
  exact W.vret hx hb hr (fun tz htz hWz => ⟨⟨[(o, .inr (1, [.ref q_1])), (q_1, .inl (cI, 26, .inl (fun _ => 0)))], rfl, ⟨q_1, (fun _ => 0), rfl⟩, by rw [htz]; exact hP9, va_K.moved hWz.alike hK, hD9⟩, hS.F htz⟩) hS.2.2 dX1_init_12

set_option maxHeartbeats 4000000 in
set_option maxRecDepth 100000 in
theorem c_X2_init (l : Launch) (D : va_G) (cB cI cJ cS cZ cO : ClassId) (sz : Nat) (o : Nat) : Met l yX2_init wsX2_init ({ frames := 1, cells := 4, slots := 4, locals := 12 }) (xPre D (tyL cB cI cJ cS cZ cO) [(o, .inr (2, [.null, .null, .null, .null, .int 0, .int 0]))] sz [.ref o]) (xQv D (tyL cB cI cJ cS cZ cO) (va_A [(o, .inr (2, [.null, .null, .null, .null, .int 0, .int 0]))] sz) (fun u : va_W => ∃ q1 : Nat, ∃ q2 : Nat, ∃ q3 : Nat, ∃ q4 : Nat, ∃ g1 : Nat → Int32, ∃ g2 : Nat → Int32, u = [(o, .inr (2, [.ref q1, .ref q2, .ref q3, .ref q4, .int 0, .int 0])), (q1, .inl (cB, 1, .inl g1)), (q3, .inl (cI, 1, .inl g2))])) 4 4 (va_A [(o, .inr (2, [.null, .null, .null, .null, .int 0, .int 0]))] sz) := by
  refine Met.ofW (cc := cX2_init) (maxL := 1) (ret := none) (by decide) rfl ?_
  intro p e s m args below meth c s₁ B hml hv
  obtain ⟨rfl, hsz, hP, hK, hD0, hN⟩ := hv
  have hx := B.exec
  have hb := B.bytes
  have hr := B.returns
  have hts := atoms_spec (ws := wsX2_init) B.pre
  have hown : s.vm.findClass RX2 = some m.cls := findClass_of_methodNamed B.named
  have hlocks := B.notSynchronized
  have hin : meth.name = "<init>" := (name_of_methodNamed B.named B.method).1
  subst hsz
  have hD := hD0.self (sz := s.heap.size)
  generalize hAe : va_A [(o, .inr (2, [.null, .null, .null, .null, .int 0, .int 0]))] s.heap.size = A at hD ⊢
  have hA : ∀ q : Nat, s.heap.size ≤ q → A q := fun q h => by rw [← hAe]; exact Or.inr h
  have hS : va_S A s.heap s.heap [] := va_S.rf
  have hP : va_P D vwCl [(o, .inr (2, [.null, .null, .null, .null, .int 0, .int 0]))] s.heap := hP
  have hl := lv_entry ([.ref o]) (n := 1) (Nat.le_of_ble_eq_true rfl)
  rw [lg_entry_eq]
  generalize (lg_sl ([.ref o]) ++ List.replicate (1 - (lg_sl ([.ref o])).length) Slot.unset).toArray = ls at hl ⊢
  have hl : lv_has ls 1 [(0, .ref o)] := hl
  refine lv_aload_n hx hb dX2_init_0 rfl (lv_at hl 0 rfl) ?_
  refine W.objInit hx hb hown (hts (.methodLink RX2 3 objectInit) (by decide +kernel)) (hts (.instanceMethod objectInit) (by decide +kernel)) (hts (.code objectInit ⟨#[0xb1]⟩ 1 none) (by decide +kernel)) rfl (by rw [hml]; exact hl.1) rfl dX2_init_1 (Nat.le_of_ble_eq_true rfl) (Nat.le_of_ble_eq_true rfl) ?_
  refine W.eq (g2 := F0 m 4 ls []) rfl ?_
  refine lv_aload_n hx hb dX2_init_4 rfl (lv_at hl 0 rfl) ?_
  refine lv_iconst (v := 1) hx hb dX2_init_5 (by decide) ?_
  refine xnewa (atype := .byte) (a0 := (1, .inl (fun _ => 0))) (ty := .byte) hx hb (hts (.arrayClass .byte) (by decide +kernel)) rfl hK 0 rfl hP hD hS hA (fun _ => rfl) (by decide) (by decide) (Nat.le_of_ble_eq_true rfl) (Nat.le_of_ble_eq_true rfl) (Nat.le_of_ble_eq_true rfl) dX2_init_6 (fun q_1 H hP hD hS => ?_)
  refine W.widen (k := 1) (n := 1) (Nat.le_of_ble_eq_true rfl) (Nat.le_of_ble_eq_true rfl) ?_
  have hP : va_P D vwCl [(o, .inr (2, [.null, .null, .null, .null, .int 0, .int 0])), (q_1, .inl (cB, 1, .inl (fun _ => 0)))] H := hP
  have hD : va_D A [(o, .inr (2, [.null, .null, .null, .null, .int 0, .int 0])), (q_1, .inl (cB, 1, .inl (fun _ => 0)))] := hD
  refine va_put (D := D) (ci := 2) (v := .ref q_1) (ty := .array .byte) (C := RX2) (T := TX2) (N := 6) hx hb hts (by decide +kernel) tyX2 tyX2_ok nmX2 hown hK hP hD hS 0 rfl rfl 0 (by decide) (hts (.fieldLink RX2 9 "LastLetter$Orders" "breaks" "[B") (by decide +kernel)) (fun _ h9 => h9) rfl (by decide +kernel) rfl rfl (Nat.le_of_ble_eq_true rfl) dX2_init_8 (fun H locs hP hD hS => ?_)
  have hP : va_P D vwCl [(o, .inr (2, [.ref q_1, .null, .null, .null, .int 0, .int 0])), (q_1, .inl (cB, 1, .inl (fun _ => 0)))] H := hP
  have hD : va_D A [(o, .inr (2, [.ref q_1, .null, .null, .null, .int 0, .int 0])), (q_1, .inl (cB, 1, .inl (fun _ => 0)))] := hD
  refine lv_aload_n hx hb dX2_init_11 rfl (lv_at hl 0 rfl) ?_
  refine lv_iconst (v := 1) hx hb dX2_init_12 (by decide) ?_
  refine xnewa (atype := .int) (a0 := (1, .inl (fun _ => 0))) (ty := .int) hx hb (hts (.arrayClass .int) (by decide +kernel)) rfl hK 1 rfl hP hD hS hA (fun _ => rfl) (by decide) (by decide) (Nat.le_of_ble_eq_true rfl) (Nat.le_of_ble_eq_true rfl) (Nat.le_of_ble_eq_true rfl) dX2_init_13 (fun q_2 H hP hD hS => ?_)
  refine W.widen (k := 2) (n := 2) (Nat.le_of_ble_eq_true rfl) (Nat.le_of_ble_eq_true rfl) ?_
  have hP : va_P D vwCl [(o, .inr (2, [.ref q_1, .null, .null, .null, .int 0, .int 0])), (q_1, .inl (cB, 1, .inl (fun _ => 0))), (q_2, .inl (cI, 1, .inl (fun _ => 0)))] H := hP
  have hD : va_D A [(o, .inr (2, [.ref q_1, .null, .null, .null, .int 0, .int 0])), (q_1, .inl (cB, 1, .inl (fun _ => 0))), (q_2, .inl (cI, 1, .inl (fun _ => 0)))] := hD
  refine va_put (D := D) (ci := 2) (v := .ref q_2) (ty := .array .int) (C := RX2) (T := TX2) (N := 6) hx hb hts (by decide +kernel) tyX2 tyX2_ok nmX2 hown hK hP hD hS 0 rfl rfl 1 (by decide) (hts (.fieldLink RX2 15 "LastLetter$Orders" "starts" "[I") (by decide +kernel)) (fun _ h9 => h9) rfl (by decide +kernel) rfl rfl (Nat.le_of_ble_eq_true rfl) dX2_init_15 (fun H locs hP hD hS => ?_)
  have hP : va_P D vwCl [(o, .inr (2, [.ref q_1, .ref q_2, .null, .null, .int 0, .int 0])), (q_1, .inl (cB, 1, .inl (fun _ => 0))), (q_2, .inl (cI, 1, .inl (fun _ => 0)))] H := hP
  have hD : va_D A [(o, .inr (2, [.ref q_1, .ref q_2, .null, .null, .int 0, .int 0])), (q_1, .inl (cB, 1, .inl (fun _ => 0))), (q_2, .inl (cI, 1, .inl (fun _ => 0)))] := hD
  refine lv_aload_n hx hb dX2_init_18 rfl (lv_at hl 0 rfl) ?_
  refine lv_iconst (v := 1) hx hb dX2_init_19 (by decide) ?_
  refine xnewa (atype := .int) (a0 := (1, .inl (fun _ => 0))) (ty := .int) hx hb (hts (.arrayClass .int) (by decide +kernel)) rfl hK 1 rfl hP hD hS hA (fun _ => rfl) (by decide) (by decide) (Nat.le_of_ble_eq_true rfl) (Nat.le_of_ble_eq_true rfl) (Nat.le_of_ble_eq_true rfl) dX2_init_20 (fun q_3 H hP hD hS => ?_)
  refine W.widen (k := 3) (n := 3) (Nat.le_of_ble_eq_true rfl) (Nat.le_of_ble_eq_true rfl) ?_
  have hP : va_P D vwCl [(o, .inr (2, [.ref q_1, .ref q_2, .null, .null, .int 0, .int 0])), (q_1, .inl (cB, 1, .inl (fun _ => 0))), (q_2, .inl (cI, 1, .inl (fun _ => 0))), (q_3, .inl (cI, 1, .inl (fun _ => 0)))] H := hP
  have hD : va_D A [(o, .inr (2, [.ref q_1, .ref q_2, .null, .null, .int 0, .int 0])), (q_1, .inl (cB, 1, .inl (fun _ => 0))), (q_2, .inl (cI, 1, .inl (fun _ => 0))), (q_3, .inl (cI, 1, .inl (fun _ => 0)))] := hD
  refine va_put (D := D) (ci := 2) (v := .ref q_3) (ty := .array .int) (C := RX2) (T := TX2) (N := 6) hx hb hts (by decide +kernel) tyX2 tyX2_ok nmX2 hown hK hP hD hS 0 rfl rfl 2 (by decide) (hts (.fieldLink RX2 19 "LastLetter$Orders" "worths" "[I") (by decide +kernel)) (fun _ h9 => h9) rfl (by decide +kernel) rfl rfl (Nat.le_of_ble_eq_true rfl) dX2_init_22 (fun H locs hP hD hS => ?_)
  have hP : va_P D vwCl [(o, .inr (2, [.ref q_1, .ref q_2, .ref q_3, .null, .int 0, .int 0])), (q_1, .inl (cB, 1, .inl (fun _ => 0))), (q_2, .inl (cI, 1, .inl (fun _ => 0))), (q_3, .inl (cI, 1, .inl (fun _ => 0)))] H := hP
  have hD : va_D A [(o, .inr (2, [.ref q_1, .ref q_2, .ref q_3, .null, .int 0, .int 0])), (q_1, .inl (cB, 1, .inl (fun _ => 0))), (q_2, .inl (cI, 1, .inl (fun _ => 0))), (q_3, .inl (cI, 1, .inl (fun _ => 0)))] := hD
  refine lv_aload_n hx hb dX2_init_25 rfl (lv_at hl 0 rfl) ?_
  refine lv_iconst (v := 1) hx hb dX2_init_26 (by decide) ?_
  refine xnewa (atype := .int) (a0 := (1, .inl (fun _ => 0))) (ty := .int) hx hb (hts (.arrayClass .int) (by decide +kernel)) rfl hK 1 rfl hP hD hS hA (fun _ => rfl) (by decide) (by decide) (Nat.le_of_ble_eq_true rfl) (Nat.le_of_ble_eq_true rfl) (Nat.le_of_ble_eq_true rfl) dX2_init_27 (fun q_4 H hP hD hS => ?_)
  refine W.widen (k := 4) (n := 4) (Nat.le_of_ble_eq_true rfl) (Nat.le_of_ble_eq_true rfl) ?_
  have hP : va_P D vwCl [(o, .inr (2, [.ref q_1, .ref q_2, .ref q_3, .null, .int 0, .int 0])), (q_1, .inl (cB, 1, .inl (fun _ => 0))), (q_2, .inl (cI, 1, .inl (fun _ => 0))), (q_3, .inl (cI, 1, .inl (fun _ => 0))), (q_4, .inl (cI, 1, .inl (fun _ => 0)))] H := hP
  have hD : va_D A [(o, .inr (2, [.ref q_1, .ref q_2, .ref q_3, .null, .int 0, .int 0])), (q_1, .inl (cB, 1, .inl (fun _ => 0))), (q_2, .inl (cI, 1, .inl (fun _ => 0))), (q_3, .inl (cI, 1, .inl (fun _ => 0))), (q_4, .inl (cI, 1, .inl (fun _ => 0)))] := hD
  refine va_put (D := D) (ci := 2) (v := .ref q_4) (ty := .array .int) (C := RX2) (T := TX2) (N := 6) hx hb hts (by decide +kernel) tyX2 tyX2_ok nmX2 hown hK hP hD hS 0 rfl rfl 3 (by decide) (hts (.fieldLink RX2 22 "LastLetter$Orders" "closing" "[I") (by decide +kernel)) (fun _ h9 => h9) rfl (by decide +kernel) rfl rfl (Nat.le_of_ble_eq_true rfl) dX2_init_29 (fun H locs hP hD hS => ?_)
  have hP : va_P D vwCl [(o, .inr (2, [.ref q_1, .ref q_2, .ref q_3, .ref q_4, .int 0, .int 0])), (q_1, .inl (cB, 1, .inl (fun _ => 0))), (q_2, .inl (cI, 1, .inl (fun _ => 0))), (q_3, .inl (cI, 1, .inl (fun _ => 0))), (q_4, .inl (cI, 1, .inl (fun _ => 0)))] H := hP
  have hD : va_D A [(o, .inr (2, [.ref q_1, .ref q_2, .ref q_3, .ref q_4, .int 0, .int 0])), (q_1, .inl (cB, 1, .inl (fun _ => 0))), (q_2, .inl (cI, 1, .inl (fun _ => 0))), (q_3, .inl (cI, 1, .inl (fun _ => 0))), (q_4, .inl (cI, 1, .inl (fun _ => 0)))] := hD
  have hP9 := hP.sub (ws' := [(o, .inr (2, [.ref q_1, .ref q_2, .ref q_3, .ref q_4, .int 0, .int 0])), (q_1, .inl (cB, 1, .inl (fun _ => 0))), (q_3, .inl (cI, 1, .inl (fun _ => 0)))]) [0, 1, 3] rfl
  have hD9 := hD.sub (ws' := [(o, .inr (2, [.ref q_1, .ref q_2, .ref q_3, .ref q_4, .int 0, .int 0])), (q_1, .inl (cB, 1, .inl (fun _ => 0))), (q_3, .inl (cI, 1, .inl (fun _ => 0)))]) [0, 1, 3] (by decide) rfl
  refine W.widen (k := 4) (n := 4) (Nat.le_of_ble_eq_true rfl) (Nat.le_of_ble_eq_true rfl) ?_
  exact W.vret hx hb hr (fun tz htz hWz => ⟨⟨[(o, .inr (2, [.ref q_1, .ref q_2, .ref q_3, .ref q_4, .int 0, .int 0])), (q_1, .inl (cB, 1, .inl (fun _ => 0))), (q_3, .inl (cI, 1, .inl (fun _ => 0)))], rfl, ⟨q_1, q_2, q_3, q_4, (fun _ => 0), (fun _ => 0), rfl⟩, by rw [htz]; exact hP9, va_K.moved hWz.alike hK, hD9⟩, hS.F htz⟩) hS.2.2 dX2_init_32

set_option maxHeartbeats 4000000 in
set_option maxRecDepth 100000 in
theorem c_X5_init (l : Launch) (D : va_G) (cB cI cJ cS cZ cO : ClassId) (sz : Nat) (o : Nat) : Met l yX5_init wsX5_init ({ frames := 1, cells := 2, slots := 3072, locals := 12 }) (xPre D (tyL cB cI cJ cS cZ cO) [(o, .inr (5, [.null, .null, .int 0]))] sz [.ref o]) (xQv D (tyL cB cI cJ cS cZ cO) (va_A [(o, .inr (5, [.null, .null, .int 0]))] sz) (fun u : va_W => ∃ q1 : Nat, ∃ q2 : Nat, u = [(o, .inr (5, [.ref q1, .ref q2, .int 0]))])) 2 3072 (va_A [(o, .inr (5, [.null, .null, .int 0]))] sz) := by
  refine Met.ofW (cc := cX5_init) (maxL := 1) (ret := none) (by decide) rfl ?_
  intro p e s m args below meth c s₁ B hml hv
  obtain ⟨rfl, hsz, hP, hK, hD0, hN⟩ := hv
  have hx := B.exec
  have hb := B.bytes
  have hr := B.returns
  have hts := atoms_spec (ws := wsX5_init) B.pre
  have hown : s.vm.findClass RX5 = some m.cls := findClass_of_methodNamed B.named
  have hlocks := B.notSynchronized
  have hin : meth.name = "<init>" := (name_of_methodNamed B.named B.method).1
  subst hsz
  have hD := hD0.self (sz := s.heap.size)
  generalize hAe : va_A [(o, .inr (5, [.null, .null, .int 0]))] s.heap.size = A at hD ⊢
  have hA : ∀ q : Nat, s.heap.size ≤ q → A q := fun q h => by rw [← hAe]; exact Or.inr h
  have hS : va_S A s.heap s.heap [] := va_S.rf
  have hP : va_P D vwCl [(o, .inr (5, [.null, .null, .int 0]))] s.heap := hP
  have hl := lv_entry ([.ref o]) (n := 1) (Nat.le_of_ble_eq_true rfl)
  rw [lg_entry_eq]
  generalize (lg_sl ([.ref o]) ++ List.replicate (1 - (lg_sl ([.ref o])).length) Slot.unset).toArray = ls at hl ⊢
  have hl : lv_has ls 1 [(0, .ref o)] := hl
  refine lv_aload_n hx hb dX5_init_0 rfl (lv_at hl 0 rfl) ?_
  refine W.objInit hx hb hown (hts (.methodLink RX5 3 objectInit) (by decide +kernel)) (hts (.instanceMethod objectInit) (by decide +kernel)) (hts (.code objectInit ⟨#[0xb1]⟩ 1 none) (by decide +kernel)) rfl (by rw [hml]; exact hl.1) rfl dX5_init_1 (Nat.le_of_ble_eq_true rfl) (Nat.le_of_ble_eq_true rfl) ?_
  refine W.eq (g2 := F0 m 4 ls []) rfl ?_
  refine lv_aload_n hx hb dX5_init_4 rfl (lv_at hl 0 rfl) ?_
  refine lv_sipush (v := 1536) hx hb dX5_init_5 (by decide) ?_
  refine xnewa (atype := .int) (a0 := (1536, .inl (fun _ => 0))) (ty := .int) hx hb (hts (.arrayClass .int) (by decide +kernel)) rfl hK 1 rfl hP hD hS hA (fun _ => rfl) (by decide) (by decide) (Nat.le_of_ble_eq_true rfl) (Nat.le_of_ble_eq_true rfl) (Nat.le_of_ble_eq_true rfl) dX5_init_8 (fun q_1 H hP hD hS => ?_)
  refine W.widen (k := 1) (n := 1536) (Nat.le_of_ble_eq_true rfl) (Nat.le_of_ble_eq_true rfl) ?_
  have hP : va_P D vwCl [(o, .inr (5, [.null, .null, .int 0])), (q_1, .inl (cI, 1536, .inl (fun _ => 0)))] H := hP
  have hD : va_D A [(o, .inr (5, [.null, .null, .int 0])), (q_1, .inl (cI, 1536, .inl (fun _ => 0)))] := hD
  refine va_putF (D := D) (ci := 5) (v := .ref q_1) (ty := .array .int) (C := RX5) (T := TX5) (N := 3) hx hb hts (by decide +kernel) tyX5 tyX5_ok nmX5 hown hK hP hD hS 0 rfl rfl 0 (by decide) (hts (.fieldLink RX5 9 "LastLetter$Search" "ahead" "[I") (by decide +kernel)) (fun _ h9 => h9) rfl hin rfl (by decide +kernel) rfl rfl (Nat.le_of_ble_eq_true rfl) dX5_init_10 (fun H locs hP hD hS => ?_)
  have hP : va_P D vwCl [(o, .inr (5, [.ref q_1, .null, .int 0])), (q_1, .inl (cI, 1536, .inl (fun _ => 0)))] H := hP
  have hD : va_D A [(o, .inr (5, [.ref q_1, .null, .int 0])), (q_1, .inl (cI, 1536, .inl (fun _ => 0)))] := hD
  refine lv_aload_n hx hb dX5_init_13 rfl (lv_at hl 0 rfl) ?_
  refine lv_sipush (v := 1536) hx hb dX5_init_14 (by decide) ?_
  refine xnewa (atype := .int) (a0 := (1536, .inl (fun _ => 0))) (ty := .int) hx hb (hts (.arrayClass .int) (by decide +kernel)) rfl hK 1 rfl hP hD hS hA (fun _ => rfl) (by decide) (by decide) (Nat.le_of_ble_eq_true rfl) (Nat.le_of_ble_eq_true rfl) (Nat.le_of_ble_eq_true rfl) dX5_init_17 (fun q_2 H hP hD hS => ?_)
  refine W.widen (k := 2) (n := 3072) (Nat.le_of_ble_eq_true rfl) (Nat.le_of_ble_eq_true rfl) ?_
  have hP : va_P D vwCl [(o, .inr (5, [.ref q_1, .null, .int 0])), (q_1, .inl (cI, 1536, .inl (fun _ => 0))), (q_2, .inl (cI, 1536, .inl (fun _ => 0)))] H := hP
  have hD : va_D A [(o, .inr (5, [.ref q_1, .null, .int 0])), (q_1, .inl (cI, 1536, .inl (fun _ => 0))), (q_2, .inl (cI, 1536, .inl (fun _ => 0)))] := hD
  refine va_putF (D := D) (ci := 5) (v := .ref q_2) (ty := .array .int) (C := RX5) (T := TX5) (N := 3) hx hb hts (by decide +kernel) tyX5 tyX5_ok nmX5 hown hK hP hD hS 0 rfl rfl 1 (by decide) (hts (.fieldLink RX5 15 "LastLetter$Search" "queue" "[I") (by decide +kernel)) (fun _ h9 => h9) rfl hin rfl (by decide +kernel) rfl rfl (Nat.le_of_ble_eq_true rfl) dX5_init_19 (fun H locs hP hD hS => ?_)
  have hP : va_P D vwCl [(o, .inr (5, [.ref q_1, .ref q_2, .int 0])), (q_1, .inl (cI, 1536, .inl (fun _ => 0))), (q_2, .inl (cI, 1536, .inl (fun _ => 0)))] H := hP
  have hD : va_D A [(o, .inr (5, [.ref q_1, .ref q_2, .int 0])), (q_1, .inl (cI, 1536, .inl (fun _ => 0))), (q_2, .inl (cI, 1536, .inl (fun _ => 0)))] := hD
  have hP9 := hP.sub (ws' := [(o, .inr (5, [.ref q_1, .ref q_2, .int 0]))]) [0] rfl
  have hD9 := hD.sub (ws' := [(o, .inr (5, [.ref q_1, .ref q_2, .int 0]))]) [0] (by decide) rfl
  refine W.widen (k := 2) (n := 3072) (Nat.le_of_ble_eq_true rfl) (Nat.le_of_ble_eq_true rfl) ?_
  exact W.vret hx hb hr (fun tz htz hWz => ⟨⟨[(o, .inr (5, [.ref q_1, .ref q_2, .int 0]))], rfl, ⟨q_1, q_2, rfl⟩, by rw [htz]; exact hP9, va_K.moved hWz.alike hK, hD9⟩, hS.F htz⟩) hS.2.2 dX5_init_22

set_option maxHeartbeats 4000000 in
set_option maxRecDepth 100000 in
theorem c_X0_init (l : Launch) (D : va_G) (cB cI cJ cS cZ cO : ClassId) (sz : Nat) (o : Nat) : Met l yX0_init wsX0_init ({ frames := 1, cells := 3, slots := 3, locals := 12 }) (xPre D (tyL cB cI cJ cS cZ cO) [(o, .inr (0, [.null, .null, .null, .int 0, .int 0, .int 0]))] sz [.ref o]) (xQv D (tyL cB cI cJ cS cZ cO) (va_A [(o, .inr (0, [.null, .null, .null, .int 0, .int 0, .int 0]))] sz) (fun u : va_W => ∃ q1 : Nat, ∃ q2 : Nat, ∃ q3 : Nat, u = [(o, .inr (0, [.ref q1, .ref q2, .ref q3, .int 0, .int 0, .int 0]))])) 3 3 (va_A [(o, .inr (0, [.null, .null, .null, .int 0, .int 0, .int 0]))] sz) := by
  refine Met.ofW (cc := cX0_init) (maxL := 1) (ret := none) (by decide) rfl ?_
  intro p e s m args below meth c s₁ B hml hv
  obtain ⟨rfl, hsz, hP, hK, hD0, hN⟩ := hv
  have hx := B.exec
  have hb := B.bytes
  have hr := B.returns
  have hts := atoms_spec (ws := wsX0_init) B.pre
  have hown : s.vm.findClass RX0 = some m.cls := findClass_of_methodNamed B.named
  have hlocks := B.notSynchronized
  have hin : meth.name = "<init>" := (name_of_methodNamed B.named B.method).1
  subst hsz
  have hD := hD0.self (sz := s.heap.size)
  generalize hAe : va_A [(o, .inr (0, [.null, .null, .null, .int 0, .int 0, .int 0]))] s.heap.size = A at hD ⊢
  have hA : ∀ q : Nat, s.heap.size ≤ q → A q := fun q h => by rw [← hAe]; exact Or.inr h
  have hS : va_S A s.heap s.heap [] := va_S.rf
  have hP : va_P D vwCl [(o, .inr (0, [.null, .null, .null, .int 0, .int 0, .int 0]))] s.heap := hP
  have hl := lv_entry ([.ref o]) (n := 1) (Nat.le_of_ble_eq_true rfl)
  rw [lg_entry_eq]
  generalize (lg_sl ([.ref o]) ++ List.replicate (1 - (lg_sl ([.ref o])).length) Slot.unset).toArray = ls at hl ⊢
  have hl : lv_has ls 1 [(0, .ref o)] := hl
  refine lv_aload_n hx hb dX0_init_0 rfl (lv_at hl 0 rfl) ?_
  refine W.objInit hx hb hown (hts (.methodLink RX0 3 objectInit) (by decide +kernel)) (hts (.instanceMethod objectInit) (by decide +kernel)) (hts (.code objectInit ⟨#[0xb1]⟩ 1 none) (by decide +kernel)) rfl (by rw [hml]; exact hl.1) rfl dX0_init_1 (Nat.le_of_ble_eq_true rfl) (Nat.le_of_ble_eq_true rfl) ?_
  refine W.eq (g2 := F0 m 4 ls []) rfl ?_
  refine lv_aload_n hx hb dX0_init_4 rfl (lv_at hl 0 rfl) ?_
  refine lv_iconst (v := 1) hx hb dX0_init_5 (by decide) ?_
  refine xnewa (atype := .int) (a0 := (1, .inl (fun _ => 0))) (ty := .int) hx hb (hts (.arrayClass .int) (by decide +kernel)) rfl hK 1 rfl hP hD hS hA (fun _ => rfl) (by decide) (by decide) (Nat.le_of_ble_eq_true rfl) (Nat.le_of_ble_eq_true rfl) (Nat.le_of_ble_eq_true rfl) dX0_init_6 (fun q_1 H hP hD hS => ?_)
  refine W.widen (k := 1) (n := 1) (Nat.le_of_ble_eq_true rfl) (Nat.le_of_ble_eq_true rfl) ?_
  have hP : va_P D vwCl [(o, .inr (0, [.null, .null, .null, .int 0, .int 0, .int 0])), (q_1, .inl (cI, 1, .inl (fun _ => 0)))] H := hP
  have hD : va_D A [(o, .inr (0, [.null, .null, .null, .int 0, .int 0, .int 0])), (q_1, .inl (cI, 1, .inl (fun _ => 0)))] := hD
  refine va_put (D := D) (ci := 0) (v := .ref q_1) (ty := .array .int) (C := RX0) (T := TX0) (N := 6) hx hb hts (by decide +kernel) tyX0 tyX0_ok nmX0 hown hK hP hD hS 0 rfl rfl 0 (by decide) (hts (.fieldLink RX0 9 "LastLetter$Games" "won" "[I") (by decide +kernel)) (fun _ h9 => h9) rfl (by decide +kernel) rfl rfl (Nat.le_of_ble_eq_true rfl) dX0_init_8 (fun H locs hP hD hS => ?_)
  have hP : va_P D vwCl [(o, .inr (0, [.ref q_1, .null, .null, .int 0, .int 0, .int 0])), (q_1, .inl (cI, 1, .inl (fun _ => 0)))] H := hP
  have hD : va_D A [(o, .inr (0, [.ref q_1, .null, .null, .int 0, .int 0, .int 0])), (q_1, .inl (cI, 1, .inl (fun _ => 0)))] := hD
  refine lv_aload_n hx hb dX0_init_11 rfl (lv_at hl 0 rfl) ?_
  refine lv_iconst (v := 1) hx hb dX0_init_12 (by decide) ?_
  refine xnewa (atype := .long) (a0 := (1, .inr (.inl (fun _ => 0)))) (ty := .long) hx hb (hts (.arrayClass .long) (by decide +kernel)) rfl hK 2 rfl hP hD hS hA (fun _ => rfl) (by decide) (by decide) (Nat.le_of_ble_eq_true rfl) (Nat.le_of_ble_eq_true rfl) (Nat.le_of_ble_eq_true rfl) dX0_init_13 (fun q_2 H hP hD hS => ?_)
  refine W.widen (k := 2) (n := 2) (Nat.le_of_ble_eq_true rfl) (Nat.le_of_ble_eq_true rfl) ?_
  have hP : va_P D vwCl [(o, .inr (0, [.ref q_1, .null, .null, .int 0, .int 0, .int 0])), (q_1, .inl (cI, 1, .inl (fun _ => 0))), (q_2, .inl (cJ, 1, .inr (.inl (fun _ => 0))))] H := hP
  have hD : va_D A [(o, .inr (0, [.ref q_1, .null, .null, .int 0, .int 0, .int 0])), (q_1, .inl (cI, 1, .inl (fun _ => 0))), (q_2, .inl (cJ, 1, .inr (.inl (fun _ => 0))))] := hD
  refine va_put (D := D) (ci := 0) (v := .ref q_2) (ty := .array .long) (C := RX0) (T := TX0) (N := 6) hx hb hts (by decide +kernel) tyX0 tyX0_ok nmX0 hown hK hP hD hS 0 rfl rfl 1 (by decide) (hts (.fieldLink RX0 15 "LastLetter$Games" "depths" "[J") (by decide +kernel)) (fun _ h9 => h9) rfl (by decide +kernel) rfl rfl (Nat.le_of_ble_eq_true rfl) dX0_init_15 (fun H locs hP hD hS => ?_)
  have hP : va_P D vwCl [(o, .inr (0, [.ref q_1, .ref q_2, .null, .int 0, .int 0, .int 0])), (q_1, .inl (cI, 1, .inl (fun _ => 0))), (q_2, .inl (cJ, 1, .inr (.inl (fun _ => 0))))] H := hP
  have hD : va_D A [(o, .inr (0, [.ref q_1, .ref q_2, .null, .int 0, .int 0, .int 0])), (q_1, .inl (cI, 1, .inl (fun _ => 0))), (q_2, .inl (cJ, 1, .inr (.inl (fun _ => 0))))] := hD
  refine lv_aload_n hx hb dX0_init_18 rfl (lv_at hl 0 rfl) ?_
  refine lv_iconst (v := 1) hx hb dX0_init_19 (by decide) ?_
  refine xnewa (atype := .short) (a0 := (1, .inl (fun _ => 0))) (ty := .short) hx hb (hts (.arrayClass .short) (by decide +kernel)) rfl hK 3 rfl hP hD hS hA (fun _ => rfl) (by decide) (by decide) (Nat.le_of_ble_eq_true rfl) (Nat.le_of_ble_eq_true rfl) (Nat.le_of_ble_eq_true rfl) dX0_init_20 (fun q_3 H hP hD hS => ?_)
  refine W.widen (k := 3) (n := 3) (Nat.le_of_ble_eq_true rfl) (Nat.le_of_ble_eq_true rfl) ?_
  have hP : va_P D vwCl [(o, .inr (0, [.ref q_1, .ref q_2, .null, .int 0, .int 0, .int 0])), (q_1, .inl (cI, 1, .inl (fun _ => 0))), (q_2, .inl (cJ, 1, .inr (.inl (fun _ => 0)))), (q_3, .inl (cS, 1, .inl (fun _ => 0)))] H := hP
  have hD : va_D A [(o, .inr (0, [.ref q_1, .ref q_2, .null, .int 0, .int 0, .int 0])), (q_1, .inl (cI, 1, .inl (fun _ => 0))), (q_2, .inl (cJ, 1, .inr (.inl (fun _ => 0)))), (q_3, .inl (cS, 1, .inl (fun _ => 0)))] := hD
  refine va_put (D := D) (ci := 0) (v := .ref q_3) (ty := .array .short) (C := RX0) (T := TX0) (N := 6) hx hb hts (by decide +kernel) tyX0 tyX0_ok nmX0 hown hK hP hD hS 0 rfl rfl 2 (by decide) (hts (.fieldLink RX0 19 "LastLetter$Games" "gains" "[S") (by decide +kernel)) (fun _ h9 => h9) rfl (by decide +kernel) rfl rfl (Nat.le_of_ble_eq_true rfl) dX0_init_22 (fun H locs hP hD hS => ?_)
  have hP : va_P D vwCl [(o, .inr (0, [.ref q_1, .ref q_2, .ref q_3, .int 0, .int 0, .int 0])), (q_1, .inl (cI, 1, .inl (fun _ => 0))), (q_2, .inl (cJ, 1, .inr (.inl (fun _ => 0)))), (q_3, .inl (cS, 1, .inl (fun _ => 0)))] H := hP
  have hD : va_D A [(o, .inr (0, [.ref q_1, .ref q_2, .ref q_3, .int 0, .int 0, .int 0])), (q_1, .inl (cI, 1, .inl (fun _ => 0))), (q_2, .inl (cJ, 1, .inr (.inl (fun _ => 0)))), (q_3, .inl (cS, 1, .inl (fun _ => 0)))] := hD
  have hP9 := hP.sub (ws' := [(o, .inr (0, [.ref q_1, .ref q_2, .ref q_3, .int 0, .int 0, .int 0]))]) [0] rfl
  have hD9 := hD.sub (ws' := [(o, .inr (0, [.ref q_1, .ref q_2, .ref q_3, .int 0, .int 0, .int 0]))]) [0] (by decide) rfl
  refine W.widen (k := 3) (n := 3) (Nat.le_of_ble_eq_true rfl) (Nat.le_of_ble_eq_true rfl) ?_
  exact W.vret hx hb hr (fun tz htz hWz => ⟨⟨[(o, .inr (0, [.ref q_1, .ref q_2, .ref q_3, .int 0, .int 0, .int 0]))], rfl, ⟨q_1, q_2, q_3, rfl⟩, by rw [htz]; exact hP9, va_K.moved hWz.alike hK, hD9⟩, hS.F htz⟩) hS.2.2 dX0_init_25

set_option maxHeartbeats 4000000 in
set_option maxRecDepth 100000 in
theorem c_X9_init (l : Launch) (D : va_G) (cB cI cJ cS cZ cO : ClassId) (sz : Nat) (o : Nat) : Met l yX9_init wsX9_init ({ frames := 1, cells := 8, slots := 210, locals := 12 }) (xPre D (tyL cB cI cJ cS cZ cO) [(o, .inr (9, [.null, .null, .null, .null, .null, .null, .null, .null, .int 0, .int 0]))] sz [.ref o]) (xQv D (tyL cB cI cJ cS cZ cO) (va_A [(o, .inr (9, [.null, .null, .null, .null, .null, .null, .null, .null, .int 0, .int 0]))] sz) (fun u : va_W => ∃ q1 : Nat, ∃ q2 : Nat, ∃ q3 : Nat, ∃ q4 : Nat, ∃ q5 : Nat, ∃ q6 : Nat, ∃ q7 : Nat, ∃ q8 : Nat, ∃ g1 : Nat → Int32, ∃ g2 : Nat → Int32, ∃ g3 : Nat → Int32, ∃ g4 : Nat → Int32, ∃ g5 : Nat → Int32, ∃ g6 : Nat → Int32, u = [(o, .inr (9, [.ref q1, .ref q2, .ref q3, .ref q4, .ref q5, .ref q6, .ref q7, .ref q8, .int 0, .int 0])), (q1, .inl (cI, 30, .inl g1)), (q2, .inl (cI, 30, .inl g2)), (q3, .inl (cI, 30, .inl g3)), (q4, .inl (cI, 30, .inl g4)), (q5, .inl (cI, 30, .inl g5)), (q6, .inl (cI, 12, .inl g6))])) 8 210 (va_A [(o, .inr (9, [.null, .null, .null, .null, .null, .null, .null, .null, .int 0, .int 0]))] sz) := by
  refine Met.ofW (cc := cX9_init) (maxL := 1) (ret := none) (by decide) rfl ?_
  intro p e s m args below meth c s₁ B hml hv
  obtain ⟨rfl, hsz, hP, hK, hD0, hN⟩ := hv
  have hx := B.exec
  have hb := B.bytes
  have hr := B.returns
  have hts := atoms_spec (ws := wsX9_init) B.pre
  have hown : s.vm.findClass RX9 = some m.cls := findClass_of_methodNamed B.named
  have hlocks := B.notSynchronized
  have hin : meth.name = "<init>" := (name_of_methodNamed B.named B.method).1
  subst hsz
  have hD := hD0.self (sz := s.heap.size)
  generalize hAe : va_A [(o, .inr (9, [.null, .null, .null, .null, .null, .null, .null, .null, .int 0, .int 0]))] s.heap.size = A at hD ⊢
  have hA : ∀ q : Nat, s.heap.size ≤ q → A q := fun q h => by rw [← hAe]; exact Or.inr h
  have hS : va_S A s.heap s.heap [] := va_S.rf
  have hP : va_P D vwCl [(o, .inr (9, [.null, .null, .null, .null, .null, .null, .null, .null, .int 0, .int 0]))] s.heap := hP
  have hl := lv_entry ([.ref o]) (n := 1) (Nat.le_of_ble_eq_true rfl)
  rw [lg_entry_eq]
  generalize (lg_sl ([.ref o]) ++ List.replicate (1 - (lg_sl ([.ref o])).length) Slot.unset).toArray = ls at hl ⊢
  have hl : lv_has ls 1 [(0, .ref o)] := hl
  refine lv_aload_n hx hb dX9_init_0 rfl (lv_at hl 0 rfl) ?_
  refine W.objInit hx hb hown (hts (.methodLink RX9 3 objectInit) (by decide +kernel)) (hts (.instanceMethod objectInit) (by decide +kernel)) (hts (.code objectInit ⟨#[0xb1]⟩ 1 none) (by decide +kernel)) rfl (by rw [hml]; exact hl.1) rfl dX9_init_1 (Nat.le_of_ble_eq_true rfl) (Nat.le_of_ble_eq_true rfl) ?_
  refine W.eq (g2 := F0 m 4 ls []) rfl ?_
  refine lv_aload_n hx hb dX9_init_4 rfl (lv_at hl 0 rfl) ?_
  refine lv_bipush (v := 30) hx hb dX9_init_5 (by decide) ?_
  refine xnewa (atype := .int) (a0 := (30, .inl (fun _ => 0))) (ty := .int) hx hb (hts (.arrayClass .int) (by decide +kernel)) rfl hK 1 rfl hP hD hS hA (fun _ => rfl) (by decide) (by decide) (Nat.le_of_ble_eq_true rfl) (Nat.le_of_ble_eq_true rfl) (Nat.le_of_ble_eq_true rfl) dX9_init_7 (fun q_1 H hP hD hS => ?_)
  refine W.widen (k := 1) (n := 30) (Nat.le_of_ble_eq_true rfl) (Nat.le_of_ble_eq_true rfl) ?_
  have hP : va_P D vwCl [(o, .inr (9, [.null, .null, .null, .null, .null, .null, .null, .null, .int 0, .int 0])), (q_1, .inl (cI, 30, .inl (fun _ => 0)))] H := hP
  have hD : va_D A [(o, .inr (9, [.null, .null, .null, .null, .null, .null, .null, .null, .int 0, .int 0])), (q_1, .inl (cI, 30, .inl (fun _ => 0)))] := hD
  refine va_putF (D := D) (ci := 9) (v := .ref q_1) (ty := .array .int) (C := RX9) (T := TX9) (N := 10) hx hb hts (by decide +kernel) tyX9 tyX9_ok nmX9 hown hK hP hD hS 0 rfl rfl 0 (by decide) (hts (.fieldLink RX9 9 "LastLetter$Wall" "places" "[I") (by decide +kernel)) (fun _ h9 => h9) rfl hin rfl (by decide +kernel) rfl rfl (Nat.le_of_ble_eq_true rfl) dX9_init_9 (fun H locs hP hD hS => ?_)
  have hP : va_P D vwCl [(o, .inr (9, [.ref q_1, .null, .null, .null, .null, .null, .null, .null, .int 0, .int 0])), (q_1, .inl (cI, 30, .inl (fun _ => 0)))] H := hP
  have hD : va_D A [(o, .inr (9, [.ref q_1, .null, .null, .null, .null, .null, .null, .null, .int 0, .int 0])), (q_1, .inl (cI, 30, .inl (fun _ => 0)))] := hD
  refine lv_aload_n hx hb dX9_init_12 rfl (lv_at hl 0 rfl) ?_
  refine lv_bipush (v := 30) hx hb dX9_init_13 (by decide) ?_
  refine xnewa (atype := .int) (a0 := (30, .inl (fun _ => 0))) (ty := .int) hx hb (hts (.arrayClass .int) (by decide +kernel)) rfl hK 1 rfl hP hD hS hA (fun _ => rfl) (by decide) (by decide) (Nat.le_of_ble_eq_true rfl) (Nat.le_of_ble_eq_true rfl) (Nat.le_of_ble_eq_true rfl) dX9_init_15 (fun q_2 H hP hD hS => ?_)
  refine W.widen (k := 2) (n := 60) (Nat.le_of_ble_eq_true rfl) (Nat.le_of_ble_eq_true rfl) ?_
  have hP : va_P D vwCl [(o, .inr (9, [.ref q_1, .null, .null, .null, .null, .null, .null, .null, .int 0, .int 0])), (q_1, .inl (cI, 30, .inl (fun _ => 0))), (q_2, .inl (cI, 30, .inl (fun _ => 0)))] H := hP
  have hD : va_D A [(o, .inr (9, [.ref q_1, .null, .null, .null, .null, .null, .null, .null, .int 0, .int 0])), (q_1, .inl (cI, 30, .inl (fun _ => 0))), (q_2, .inl (cI, 30, .inl (fun _ => 0)))] := hD
  refine va_putF (D := D) (ci := 9) (v := .ref q_2) (ty := .array .int) (C := RX9) (T := TX9) (N := 10) hx hb hts (by decide +kernel) tyX9 tyX9_ok nmX9 hown hK hP hD hS 0 rfl rfl 1 (by decide) (hts (.fieldLink RX9 15 "LastLetter$Wall" "kinds" "[I") (by decide +kernel)) (fun _ h9 => h9) rfl hin rfl (by decide +kernel) rfl rfl (Nat.le_of_ble_eq_true rfl) dX9_init_17 (fun H locs hP hD hS => ?_)
  have hP : va_P D vwCl [(o, .inr (9, [.ref q_1, .ref q_2, .null, .null, .null, .null, .null, .null, .int 0, .int 0])), (q_1, .inl (cI, 30, .inl (fun _ => 0))), (q_2, .inl (cI, 30, .inl (fun _ => 0)))] H := hP
  have hD : va_D A [(o, .inr (9, [.ref q_1, .ref q_2, .null, .null, .null, .null, .null, .null, .int 0, .int 0])), (q_1, .inl (cI, 30, .inl (fun _ => 0))), (q_2, .inl (cI, 30, .inl (fun _ => 0)))] := hD
  refine lv_aload_n hx hb dX9_init_20 rfl (lv_at hl 0 rfl) ?_
  refine lv_bipush (v := 30) hx hb dX9_init_21 (by decide) ?_
  refine xnewa (atype := .int) (a0 := (30, .inl (fun _ => 0))) (ty := .int) hx hb (hts (.arrayClass .int) (by decide +kernel)) rfl hK 1 rfl hP hD hS hA (fun _ => rfl) (by decide) (by decide) (Nat.le_of_ble_eq_true rfl) (Nat.le_of_ble_eq_true rfl) (Nat.le_of_ble_eq_true rfl) dX9_init_23 (fun q_3 H hP hD hS => ?_)
  refine W.widen (k := 3) (n := 90) (Nat.le_of_ble_eq_true rfl) (Nat.le_of_ble_eq_true rfl) ?_
  have hP : va_P D vwCl [(o, .inr (9, [.ref q_1, .ref q_2, .null, .null, .null, .null, .null, .null, .int 0, .int 0])), (q_1, .inl (cI, 30, .inl (fun _ => 0))), (q_2, .inl (cI, 30, .inl (fun _ => 0))), (q_3, .inl (cI, 30, .inl (fun _ => 0)))] H := hP
  have hD : va_D A [(o, .inr (9, [.ref q_1, .ref q_2, .null, .null, .null, .null, .null, .null, .int 0, .int 0])), (q_1, .inl (cI, 30, .inl (fun _ => 0))), (q_2, .inl (cI, 30, .inl (fun _ => 0))), (q_3, .inl (cI, 30, .inl (fun _ => 0)))] := hD
  refine va_putF (D := D) (ci := 9) (v := .ref q_3) (ty := .array .int) (C := RX9) (T := TX9) (N := 10) hx hb hts (by decide +kernel) tyX9 tyX9_ok nmX9 hown hK hP hD hS 0 rfl rfl 2 (by decide) (hts (.fieldLink RX9 18 "LastLetter$Wall" "values" "[I") (by decide +kernel)) (fun _ h9 => h9) rfl hin rfl (by decide +kernel) rfl rfl (Nat.le_of_ble_eq_true rfl) dX9_init_25 (fun H locs hP hD hS => ?_)
  have hP : va_P D vwCl [(o, .inr (9, [.ref q_1, .ref q_2, .ref q_3, .null, .null, .null, .null, .null, .int 0, .int 0])), (q_1, .inl (cI, 30, .inl (fun _ => 0))), (q_2, .inl (cI, 30, .inl (fun _ => 0))), (q_3, .inl (cI, 30, .inl (fun _ => 0)))] H := hP
  have hD : va_D A [(o, .inr (9, [.ref q_1, .ref q_2, .ref q_3, .null, .null, .null, .null, .null, .int 0, .int 0])), (q_1, .inl (cI, 30, .inl (fun _ => 0))), (q_2, .inl (cI, 30, .inl (fun _ => 0))), (q_3, .inl (cI, 30, .inl (fun _ => 0)))] := hD
  refine lv_aload_n hx hb dX9_init_28 rfl (lv_at hl 0 rfl) ?_
  refine lv_bipush (v := 30) hx hb dX9_init_29 (by decide) ?_
  refine xnewa (atype := .int) (a0 := (30, .inl (fun _ => 0))) (ty := .int) hx hb (hts (.arrayClass .int) (by decide +kernel)) rfl hK 1 rfl hP hD hS hA (fun _ => rfl) (by decide) (by decide) (Nat.le_of_ble_eq_true rfl) (Nat.le_of_ble_eq_true rfl) (Nat.le_of_ble_eq_true rfl) dX9_init_31 (fun q_4 H hP hD hS => ?_)
  refine W.widen (k := 4) (n := 120) (Nat.le_of_ble_eq_true rfl) (Nat.le_of_ble_eq_true rfl) ?_
  have hP : va_P D vwCl [(o, .inr (9, [.ref q_1, .ref q_2, .ref q_3, .null, .null, .null, .null, .null, .int 0, .int 0])), (q_1, .inl (cI, 30, .inl (fun _ => 0))), (q_2, .inl (cI, 30, .inl (fun _ => 0))), (q_3, .inl (cI, 30, .inl (fun _ => 0))), (q_4, .inl (cI, 30, .inl (fun _ => 0)))] H := hP
  have hD : va_D A [(o, .inr (9, [.ref q_1, .ref q_2, .ref q_3, .null, .null, .null, .null, .null, .int 0, .int 0])), (q_1, .inl (cI, 30, .inl (fun _ => 0))), (q_2, .inl (cI, 30, .inl (fun _ => 0))), (q_3, .inl (cI, 30, .inl (fun _ => 0))), (q_4, .inl (cI, 30, .inl (fun _ => 0)))] := hD
  refine va_putF (D := D) (ci := 9) (v := .ref q_4) (ty := .array .int) (C := RX9) (T := TX9) (N := 10) hx hb hts (by decide +kernel) tyX9 tyX9_ok nmX9 hown hK hP hD hS 0 rfl rfl 3 (by decide) (hts (.fieldLink RX9 21 "LastLetter$Wall" "toldAt" "[I") (by decide +kernel)) (fun _ h9 => h9) rfl hin rfl (by decide +kernel) rfl rfl (Nat.le_of_ble_eq_true rfl) dX9_init_33 (fun H locs hP hD hS => ?_)
  have hP : va_P D vwCl [(o, .inr (9, [.ref q_1, .ref q_2, .ref q_3, .ref q_4, .null, .null, .null, .null, .int 0, .int 0])), (q_1, .inl (cI, 30, .inl (fun _ => 0))), (q_2, .inl (cI, 30, .inl (fun _ => 0))), (q_3, .inl (cI, 30, .inl (fun _ => 0))), (q_4, .inl (cI, 30, .inl (fun _ => 0)))] H := hP
  have hD : va_D A [(o, .inr (9, [.ref q_1, .ref q_2, .ref q_3, .ref q_4, .null, .null, .null, .null, .int 0, .int 0])), (q_1, .inl (cI, 30, .inl (fun _ => 0))), (q_2, .inl (cI, 30, .inl (fun _ => 0))), (q_3, .inl (cI, 30, .inl (fun _ => 0))), (q_4, .inl (cI, 30, .inl (fun _ => 0)))] := hD
  refine lv_aload_n hx hb dX9_init_36 rfl (lv_at hl 0 rfl) ?_
  refine lv_bipush (v := 30) hx hb dX9_init_37 (by decide) ?_
  refine xnewa (atype := .int) (a0 := (30, .inl (fun _ => 0))) (ty := .int) hx hb (hts (.arrayClass .int) (by decide +kernel)) rfl hK 1 rfl hP hD hS hA (fun _ => rfl) (by decide) (by decide) (Nat.le_of_ble_eq_true rfl) (Nat.le_of_ble_eq_true rfl) (Nat.le_of_ble_eq_true rfl) dX9_init_39 (fun q_5 H hP hD hS => ?_)
  refine W.widen (k := 5) (n := 150) (Nat.le_of_ble_eq_true rfl) (Nat.le_of_ble_eq_true rfl) ?_
  have hP : va_P D vwCl [(o, .inr (9, [.ref q_1, .ref q_2, .ref q_3, .ref q_4, .null, .null, .null, .null, .int 0, .int 0])), (q_1, .inl (cI, 30, .inl (fun _ => 0))), (q_2, .inl (cI, 30, .inl (fun _ => 0))), (q_3, .inl (cI, 30, .inl (fun _ => 0))), (q_4, .inl (cI, 30, .inl (fun _ => 0))), (q_5, .inl (cI, 30, .inl (fun _ => 0)))] H := hP
  have hD : va_D A [(o, .inr (9, [.ref q_1, .ref q_2, .ref q_3, .ref q_4, .null, .null, .null, .null, .int 0, .int 0])), (q_1, .inl (cI, 30, .inl (fun _ => 0))), (q_2, .inl (cI, 30, .inl (fun _ => 0))), (q_3, .inl (cI, 30, .inl (fun _ => 0))), (q_4, .inl (cI, 30, .inl (fun _ => 0))), (q_5, .inl (cI, 30, .inl (fun _ => 0)))] := hD
  refine va_putF (D := D) (ci := 9) (v := .ref q_5) (ty := .array .int) (C := RX9) (T := TX9) (N := 10) hx hb hts (by decide +kernel) tyX9 tyX9_ok nmX9 hown hK hP hD hS 0 rfl rfl 4 (by decide) (hts (.fieldLink RX9 24 "LastLetter$Wall" "untoldAt" "[I") (by decide +kernel)) (fun _ h9 => h9) rfl hin rfl (by decide +kernel) rfl rfl (Nat.le_of_ble_eq_true rfl) dX9_init_41 (fun H locs hP hD hS => ?_)
  have hP : va_P D vwCl [(o, .inr (9, [.ref q_1, .ref q_2, .ref q_3, .ref q_4, .ref q_5, .null, .null, .null, .int 0, .int 0])), (q_1, .inl (cI, 30, .inl (fun _ => 0))), (q_2, .inl (cI, 30, .inl (fun _ => 0))), (q_3, .inl (cI, 30, .inl (fun _ => 0))), (q_4, .inl (cI, 30, .inl (fun _ => 0))), (q_5, .inl (cI, 30, .inl (fun _ => 0)))] H := hP
  have hD : va_D A [(o, .inr (9, [.ref q_1, .ref q_2, .ref q_3, .ref q_4, .ref q_5, .null, .null, .null, .int 0, .int 0])), (q_1, .inl (cI, 30, .inl (fun _ => 0))), (q_2, .inl (cI, 30, .inl (fun _ => 0))), (q_3, .inl (cI, 30, .inl (fun _ => 0))), (q_4, .inl (cI, 30, .inl (fun _ => 0))), (q_5, .inl (cI, 30, .inl (fun _ => 0)))] := hD
  refine lv_aload_n hx hb dX9_init_44 rfl (lv_at hl 0 rfl) ?_
  refine lv_bipush (v := 12) hx hb dX9_init_45 (by decide) ?_
  refine xnewa (atype := .int) (a0 := (12, .inl (fun _ => 0))) (ty := .int) hx hb (hts (.arrayClass .int) (by decide +kernel)) rfl hK 1 rfl hP hD hS hA (fun _ => rfl) (by decide) (by decide) (Nat.le_of_ble_eq_true rfl) (Nat.le_of_ble_eq_true rfl) (Nat.le_of_ble_eq_true rfl) dX9_init_47 (fun q_6 H hP hD hS => ?_)
  refine W.widen (k := 6) (n := 162) (Nat.le_of_ble_eq_true rfl) (Nat.le_of_ble_eq_true rfl) ?_
  have hP : va_P D vwCl [(o, .inr (9, [.ref q_1, .ref q_2, .ref q_3, .ref q_4, .ref q_5, .null, .null, .null, .int 0, .int 0])), (q_1, .inl (cI, 30, .inl (fun _ => 0))), (q_2, .inl (cI, 30, .inl (fun _ => 0))), (q_3, .inl (cI, 30, .inl (fun _ => 0))), (q_4, .inl (cI, 30, .inl (fun _ => 0))), (q_5, .inl (cI, 30, .inl (fun _ => 0))), (q_6, .inl (cI, 12, .inl (fun _ => 0)))] H := hP
  have hD : va_D A [(o, .inr (9, [.ref q_1, .ref q_2, .ref q_3, .ref q_4, .ref q_5, .null, .null, .null, .int 0, .int 0])), (q_1, .inl (cI, 30, .inl (fun _ => 0))), (q_2, .inl (cI, 30, .inl (fun _ => 0))), (q_3, .inl (cI, 30, .inl (fun _ => 0))), (q_4, .inl (cI, 30, .inl (fun _ => 0))), (q_5, .inl (cI, 30, .inl (fun _ => 0))), (q_6, .inl (cI, 12, .inl (fun _ => 0)))] := hD
  refine va_putF (D := D) (ci := 9) (v := .ref q_6) (ty := .array .int) (C := RX9) (T := TX9) (N := 10) hx hb hts (by decide +kernel) tyX9 tyX9_ok nmX9 hown hK hP hD hS 0 rfl rfl 5 (by decide) (hts (.fieldLink RX9 27 "LastLetter$Wall" "standing" "[I") (by decide +kernel)) (fun _ h9 => h9) rfl hin rfl (by decide +kernel) rfl rfl (Nat.le_of_ble_eq_true rfl) dX9_init_49 (fun H locs hP hD hS => ?_)
  have hP : va_P D vwCl [(o, .inr (9, [.ref q_1, .ref q_2, .ref q_3, .ref q_4, .ref q_5, .ref q_6, .null, .null, .int 0, .int 0])), (q_1, .inl (cI, 30, .inl (fun _ => 0))), (q_2, .inl (cI, 30, .inl (fun _ => 0))), (q_3, .inl (cI, 30, .inl (fun _ => 0))), (q_4, .inl (cI, 30, .inl (fun _ => 0))), (q_5, .inl (cI, 30, .inl (fun _ => 0))), (q_6, .inl (cI, 12, .inl (fun _ => 0)))] H := hP
  have hD : va_D A [(o, .inr (9, [.ref q_1, .ref q_2, .ref q_3, .ref q_4, .ref q_5, .ref q_6, .null, .null, .int 0, .int 0])), (q_1, .inl (cI, 30, .inl (fun _ => 0))), (q_2, .inl (cI, 30, .inl (fun _ => 0))), (q_3, .inl (cI, 30, .inl (fun _ => 0))), (q_4, .inl (cI, 30, .inl (fun _ => 0))), (q_5, .inl (cI, 30, .inl (fun _ => 0))), (q_6, .inl (cI, 12, .inl (fun _ => 0)))] := hD
  refine lv_aload_n hx hb dX9_init_52 rfl (lv_at hl 0 rfl) ?_
  refine lv_bipush (v := 24) hx hb dX9_init_53 (by decide) ?_
  refine xnewa (atype := .long) (a0 := (24, .inr (.inl (fun _ => 0)))) (ty := .long) hx hb (hts (.arrayClass .long) (by decide +kernel)) rfl hK 2 rfl hP hD hS hA (fun _ => rfl) (by decide) (by decide) (Nat.le_of_ble_eq_true rfl) (Nat.le_of_ble_eq_true rfl) (Nat.le_of_ble_eq_true rfl) dX9_init_55 (fun q_7 H hP hD hS => ?_)
  refine W.widen (k := 7) (n := 186) (Nat.le_of_ble_eq_true rfl) (Nat.le_of_ble_eq_true rfl) ?_
  have hP : va_P D vwCl [(o, .inr (9, [.ref q_1, .ref q_2, .ref q_3, .ref q_4, .ref q_5, .ref q_6, .null, .null, .int 0, .int 0])), (q_1, .inl (cI, 30, .inl (fun _ => 0))), (q_2, .inl (cI, 30, .inl (fun _ => 0))), (q_3, .inl (cI, 30, .inl (fun _ => 0))), (q_4, .inl (cI, 30, .inl (fun _ => 0))), (q_5, .inl (cI, 30, .inl (fun _ => 0))), (q_6, .inl (cI, 12, .inl (fun _ => 0))), (q_7, .inl (cJ, 24, .inr (.inl (fun _ => 0))))] H := hP
  have hD : va_D A [(o, .inr (9, [.ref q_1, .ref q_2, .ref q_3, .ref q_4, .ref q_5, .ref q_6, .null, .null, .int 0, .int 0])), (q_1, .inl (cI, 30, .inl (fun _ => 0))), (q_2, .inl (cI, 30, .inl (fun _ => 0))), (q_3, .inl (cI, 30, .inl (fun _ => 0))), (q_4, .inl (cI, 30, .inl (fun _ => 0))), (q_5, .inl (cI, 30, .inl (fun _ => 0))), (q_6, .inl (cI, 12, .inl (fun _ => 0))), (q_7, .inl (cJ, 24, .inr (.inl (fun _ => 0))))] := hD
  refine va_put (D := D) (ci := 9) (v := .ref q_7) (ty := .array .long) (C := RX9) (T := TX9) (N := 10) hx hb hts (by decide +kernel) tyX9 tyX9_ok nmX9 hown hK hP hD hS 0 rfl rfl 6 (by decide) (hts (.fieldLink RX9 30 "LastLetter$Wall" "rows" "[J") (by decide +kernel)) (fun _ h9 => h9) rfl (by decide +kernel) rfl rfl (Nat.le_of_ble_eq_true rfl) dX9_init_57 (fun H locs hP hD hS => ?_)
  have hP : va_P D vwCl [(o, .inr (9, [.ref q_1, .ref q_2, .ref q_3, .ref q_4, .ref q_5, .ref q_6, .ref q_7, .null, .int 0, .int 0])), (q_1, .inl (cI, 30, .inl (fun _ => 0))), (q_2, .inl (cI, 30, .inl (fun _ => 0))), (q_3, .inl (cI, 30, .inl (fun _ => 0))), (q_4, .inl (cI, 30, .inl (fun _ => 0))), (q_5, .inl (cI, 30, .inl (fun _ => 0))), (q_6, .inl (cI, 12, .inl (fun _ => 0))), (q_7, .inl (cJ, 24, .inr (.inl (fun _ => 0))))] H := hP
  have hD : va_D A [(o, .inr (9, [.ref q_1, .ref q_2, .ref q_3, .ref q_4, .ref q_5, .ref q_6, .ref q_7, .null, .int 0, .int 0])), (q_1, .inl (cI, 30, .inl (fun _ => 0))), (q_2, .inl (cI, 30, .inl (fun _ => 0))), (q_3, .inl (cI, 30, .inl (fun _ => 0))), (q_4, .inl (cI, 30, .inl (fun _ => 0))), (q_5, .inl (cI, 30, .inl (fun _ => 0))), (q_6, .inl (cI, 12, .inl (fun _ => 0))), (q_7, .inl (cJ, 24, .inr (.inl (fun _ => 0))))] := hD
  refine lv_aload_n hx hb dX9_init_60 rfl (lv_at hl 0 rfl) ?_
  refine lv_bipush (v := 24) hx hb dX9_init_61 (by decide) ?_
  refine xnewa (atype := .long) (a0 := (24, .inr (.inl (fun _ => 0)))) (ty := .long) hx hb (hts (.arrayClass .long) (by decide +kernel)) rfl hK 2 rfl hP hD hS hA (fun _ => rfl) (by decide) (by decide) (Nat.le_of_ble_eq_true rfl) (Nat.le_of_ble_eq_true rfl) (Nat.le_of_ble_eq_true rfl) dX9_init_63 (fun q_8 H hP hD hS => ?_)
  refine W.widen (k := 8) (n := 210) (Nat.le_of_ble_eq_true rfl) (Nat.le_of_ble_eq_true rfl) ?_
  have hP : va_P D vwCl [(o, .inr (9, [.ref q_1, .ref q_2, .ref q_3, .ref q_4, .ref q_5, .ref q_6, .ref q_7, .null, .int 0, .int 0])), (q_1, .inl (cI, 30, .inl (fun _ => 0))), (q_2, .inl (cI, 30, .inl (fun _ => 0))), (q_3, .inl (cI, 30, .inl (fun _ => 0))), (q_4, .inl (cI, 30, .inl (fun _ => 0))), (q_5, .inl (cI, 30, .inl (fun _ => 0))), (q_6, .inl (cI, 12, .inl (fun _ => 0))), (q_7, .inl (cJ, 24, .inr (.inl (fun _ => 0)))), (q_8, .inl (cJ, 24, .inr (.inl (fun _ => 0))))] H := hP
  have hD : va_D A [(o, .inr (9, [.ref q_1, .ref q_2, .ref q_3, .ref q_4, .ref q_5, .ref q_6, .ref q_7, .null, .int 0, .int 0])), (q_1, .inl (cI, 30, .inl (fun _ => 0))), (q_2, .inl (cI, 30, .inl (fun _ => 0))), (q_3, .inl (cI, 30, .inl (fun _ => 0))), (q_4, .inl (cI, 30, .inl (fun _ => 0))), (q_5, .inl (cI, 30, .inl (fun _ => 0))), (q_6, .inl (cI, 12, .inl (fun _ => 0))), (q_7, .inl (cJ, 24, .inr (.inl (fun _ => 0)))), (q_8, .inl (cJ, 24, .inr (.inl (fun _ => 0))))] := hD
  refine va_put (D := D) (ci := 9) (v := .ref q_8) (ty := .array .long) (C := RX9) (T := TX9) (N := 10) hx hb hts (by decide +kernel) tyX9 tyX9_ok nmX9 hown hK hP hD hS 0 rfl rfl 7 (by decide) (hts (.fieldLink RX9 34 "LastLetter$Wall" "longer" "[J") (by decide +kernel)) (fun _ h9 => h9) rfl (by decide +kernel) rfl rfl (Nat.le_of_ble_eq_true rfl) dX9_init_65 (fun H locs hP hD hS => ?_)
  have hP : va_P D vwCl [(o, .inr (9, [.ref q_1, .ref q_2, .ref q_3, .ref q_4, .ref q_5, .ref q_6, .ref q_7, .ref q_8, .int 0, .int 0])), (q_1, .inl (cI, 30, .inl (fun _ => 0))), (q_2, .inl (cI, 30, .inl (fun _ => 0))), (q_3, .inl (cI, 30, .inl (fun _ => 0))), (q_4, .inl (cI, 30, .inl (fun _ => 0))), (q_5, .inl (cI, 30, .inl (fun _ => 0))), (q_6, .inl (cI, 12, .inl (fun _ => 0))), (q_7, .inl (cJ, 24, .inr (.inl (fun _ => 0)))), (q_8, .inl (cJ, 24, .inr (.inl (fun _ => 0))))] H := hP
  have hD : va_D A [(o, .inr (9, [.ref q_1, .ref q_2, .ref q_3, .ref q_4, .ref q_5, .ref q_6, .ref q_7, .ref q_8, .int 0, .int 0])), (q_1, .inl (cI, 30, .inl (fun _ => 0))), (q_2, .inl (cI, 30, .inl (fun _ => 0))), (q_3, .inl (cI, 30, .inl (fun _ => 0))), (q_4, .inl (cI, 30, .inl (fun _ => 0))), (q_5, .inl (cI, 30, .inl (fun _ => 0))), (q_6, .inl (cI, 12, .inl (fun _ => 0))), (q_7, .inl (cJ, 24, .inr (.inl (fun _ => 0)))), (q_8, .inl (cJ, 24, .inr (.inl (fun _ => 0))))] := hD
  have hP9 := hP.sub (ws' := [(o, .inr (9, [.ref q_1, .ref q_2, .ref q_3, .ref q_4, .ref q_5, .ref q_6, .ref q_7, .ref q_8, .int 0, .int 0])), (q_1, .inl (cI, 30, .inl (fun _ => 0))), (q_2, .inl (cI, 30, .inl (fun _ => 0))), (q_3, .inl (cI, 30, .inl (fun _ => 0))), (q_4, .inl (cI, 30, .inl (fun _ => 0))), (q_5, .inl (cI, 30, .inl (fun _ => 0))), (q_6, .inl (cI, 12, .inl (fun _ => 0)))]) [0, 1, 2, 3, 4, 5, 6] rfl
  have hD9 := hD.sub (ws' := [(o, .inr (9, [.ref q_1, .ref q_2, .ref q_3, .ref q_4, .ref q_5, .ref q_6, .ref q_7, .ref q_8, .int 0, .int 0])), (q_1, .inl (cI, 30, .inl (fun _ => 0))), (q_2, .inl (cI, 30, .inl (fun _ => 0))), (q_3, .inl (cI, 30, .inl (fun _ => 0))), (q_4, .inl (cI, 30, .inl (fun _ => 0))), (q_5, .inl (cI, 30, .inl (fun _ => 0))), (q_6, .inl (cI, 12, .inl (fun _ => 0)))]) [0, 1, 2, 3, 4, 5, 6] (by decide) rfl
  refine W.widen (k := 8) (n := 210) (Nat.le_of_ble_eq_true rfl) (Nat.le_of_ble_eq_true rfl) ?_
  exact W.vret hx hb hr (fun tz htz hWz => ⟨⟨[(o, .inr (9, [.ref q_1, .ref q_2, .ref q_3, .ref q_4, .ref q_5, .ref q_6, .ref q_7, .ref q_8, .int 0, .int 0])), (q_1, .inl (cI, 30, .inl (fun _ => 0))), (q_2, .inl (cI, 30, .inl (fun _ => 0))), (q_3, .inl (cI, 30, .inl (fun _ => 0))), (q_4, .inl (cI, 30, .inl (fun _ => 0))), (q_5, .inl (cI, 30, .inl (fun _ => 0))), (q_6, .inl (cI, 12, .inl (fun _ => 0)))], rfl, ⟨q_1, q_2, q_3, q_4, q_5, q_6, q_7, q_8, (fun _ => 0), (fun _ => 0), (fun _ => 0), (fun _ => 0), (fun _ => 0), (fun _ => 0), rfl⟩, by rw [htz]; exact hP9, va_K.moved hWz.alike hK, hD9⟩, hS.F htz⟩) hS.2.2 dX9_init_68
end
section
theorem dX8_clear_0 : decode cX8_clear 0 = .ok (.aload_n 0, 1) := by decide +kernel
theorem dX8_clear_1 : decode cX8_clear 1 = .ok (.iconst 0, 1) := by decide +kernel
theorem dX8_clear_2 : decode cX8_clear 2 = .ok (.putfield 52, 3) := by decide +kernel
theorem dX8_clear_5 : decode cX8_clear 5 = .ok (.aload_n 0, 1) := by decide +kernel
theorem dX8_clear_6 : decode cX8_clear 6 = .ok (.iconst 0, 1) := by decide +kernel
theorem dX8_clear_7 : decode cX8_clear 7 = .ok (.putfield 56, 3) := by decide +kernel
theorem dX8_clear_10 : decode cX8_clear 10 = .ok (.aload_n 0, 1) := by decide +kernel
theorem dX8_clear_11 : decode cX8_clear 11 = .ok (.iconst 0, 1) := by decide +kernel
theorem dX8_clear_12 : decode cX8_clear 12 = .ok (.putfield 59, 3) := by decide +kernel
theorem dX8_clear_15 : decode cX8_clear 15 = .ok (.aload_n 0, 1) := by decide +kernel
theorem dX8_clear_16 : decode cX8_clear 16 = .ok (.iconst (-1), 1) := by decide +kernel
theorem dX8_clear_17 : decode cX8_clear 17 = .ok (.putfield 62, 3) := by decide +kernel
theorem dX8_clear_20 : decode cX8_clear 20 = .ok (.aload_n 0, 1) := by decide +kernel
theorem dX8_clear_21 : decode cX8_clear 21 = .ok (.getfield 34, 3) := by decide +kernel
theorem dX8_clear_24 : decode cX8_clear 24 = .ok (.iconst (-1), 1) := by decide +kernel
theorem dX8_clear_25 : decode cX8_clear 25 = .ok (.invokestatic 65, 3) := by decide +kernel
theorem dX8_clear_28 : decode cX8_clear 28 = .ok (.iconst 0, 1) := by decide +kernel
theorem dX8_clear_29 : decode cX8_clear 29 = .ok (.istore_n 1, 1) := by decide +kernel
theorem dX8_clear_30 : decode cX8_clear 30 = .ok (.iload_n 1, 1) := by decide +kernel
theorem dX8_clear_31 : decode cX8_clear 31 = .ok (.bipush 26, 2) := by decide +kernel
theorem dX8_clear_33 : decode cX8_clear 33 = .ok (.if_icmp .ge 16, 3) := by decide +kernel
theorem dX8_clear_36 : decode cX8_clear 36 = .ok (.aload_n 0, 1) := by decide +kernel
theorem dX8_clear_37 : decode cX8_clear 37 = .ok (.getfield 40, 3) := by decide +kernel
theorem dX8_clear_40 : decode cX8_clear 40 = .ok (.iload_n 1, 1) := by decide +kernel
theorem dX8_clear_41 : decode cX8_clear 41 = .ok (.iload_n 1, 1) := by decide +kernel
theorem dX8_clear_42 : decode cX8_clear 42 = .ok (.iastore, 1) := by decide +kernel
theorem dX8_clear_43 : decode cX8_clear 43 = .ok (.iinc 1 1, 3) := by decide +kernel
theorem dX8_clear_46 : decode cX8_clear 46 = .ok (.goto (-16), 3) := by decide +kernel
theorem dX8_clear_49 : decode cX8_clear 49 = .ok (.return_, 1) := by decide +kernel
theorem dX8_init_0 : decode cX8_init 0 = .ok (.aload_n 0, 1) := by decide +kernel
theorem dX8_init_1 : decode cX8_init 1 = .ok (.invokespecial 3, 3) := by decide +kernel
theorem dX8_init_4 : decode cX8_init 4 = .ok (.aload_n 0, 1) := by decide +kernel
theorem dX8_init_5 : decode cX8_init 5 = .ok (.bipush 24, 2) := by decide +kernel
theorem dX8_init_7 : decode cX8_init 7 = .ok (.newarray .long, 2) := by decide +kernel
theorem dX8_init_9 : decode cX8_init 9 = .ok (.putfield 9, 3) := by decide +kernel
theorem dX8_init_12 : decode cX8_init 12 = .ok (.aload_n 0, 1) := by decide +kernel
theorem dX8_init_13 : decode cX8_init 13 = .ok (.bipush 24, 2) := by decide +kernel
theorem dX8_init_15 : decode cX8_init 15 = .ok (.newarray .int, 2) := by decide +kernel
theorem dX8_init_17 : decode cX8_init 17 = .ok (.putfield 15, 3) := by decide +kernel
theorem dX8_init_20 : decode cX8_init 20 = .ok (.aload_n 0, 1) := by decide +kernel
theorem dX8_init_21 : decode cX8_init 21 = .ok (.bipush 24, 2) := by decide +kernel
theorem dX8_init_23 : decode cX8_init 23 = .ok (.newarray .int, 2) := by decide +kernel
theorem dX8_init_25 : decode cX8_init 25 = .ok (.putfield 19, 3) := by decide +kernel
theorem dX8_init_28 : decode cX8_init 28 = .ok (.aload_n 0, 1) := by decide +kernel
theorem dX8_init_29 : decode cX8_init 29 = .ok (.bipush 24, 2) := by decide +kernel
theorem dX8_init_31 : decode cX8_init 31 = .ok (.newarray .int, 2) := by decide +kernel
theorem dX8_init_33 : decode cX8_init 33 = .ok (.putfield 22, 3) := by decide +kernel
theorem dX8_init_36 : decode cX8_init 36 = .ok (.aload_n 0, 1) := by decide +kernel
theorem dX8_init_37 : decode cX8_init 37 = .ok (.bipush 24, 2) := by decide +kernel
theorem dX8_init_39 : decode cX8_init 39 = .ok (.newarray .int, 2) := by decide +kernel
theorem dX8_init_41 : decode cX8_init 41 = .ok (.putfield 25, 3) := by decide +kernel
theorem dX8_init_44 : decode cX8_init 44 = .ok (.aload_n 0, 1) := by decide +kernel
theorem dX8_init_45 : decode cX8_init 45 = .ok (.bipush 24, 2) := by decide +kernel
theorem dX8_init_47 : decode cX8_init 47 = .ok (.newarray .int, 2) := by decide +kernel
theorem dX8_init_49 : decode cX8_init 49 = .ok (.putfield 28, 3) := by decide +kernel
theorem dX8_init_52 : decode cX8_init 52 = .ok (.aload_n 0, 1) := by decide +kernel
theorem dX8_init_53 : decode cX8_init 53 = .ok (.bipush 24, 2) := by decide +kernel
theorem dX8_init_55 : decode cX8_init 55 = .ok (.newarray .int, 2) := by decide +kernel
theorem dX8_init_57 : decode cX8_init 57 = .ok (.putfield 31, 3) := by decide +kernel
theorem dX8_init_60 : decode cX8_init 60 = .ok (.aload_n 0, 1) := by decide +kernel
theorem dX8_init_61 : decode cX8_init 61 = .ok (.bipush 24, 2) := by decide +kernel
theorem dX8_init_63 : decode cX8_init 63 = .ok (.newarray .int, 2) := by decide +kernel
theorem dX8_init_65 : decode cX8_init 65 = .ok (.putfield 34, 3) := by decide +kernel
theorem dX8_init_68 : decode cX8_init 68 = .ok (.aload_n 0, 1) := by decide +kernel
theorem dX8_init_69 : decode cX8_init 69 = .ok (.bipush 6, 2) := by decide +kernel
theorem dX8_init_71 : decode cX8_init 71 = .ok (.newarray .int, 2) := by decide +kernel
theorem dX8_init_73 : decode cX8_init 73 = .ok (.putfield 37, 3) := by decide +kernel
theorem dX8_init_76 : decode cX8_init 76 = .ok (.aload_n 0, 1) := by decide +kernel
theorem dX8_init_77 : decode cX8_init 77 = .ok (.bipush 26, 2) := by decide +kernel
theorem dX8_init_79 : decode cX8_init 79 = .ok (.newarray .int, 2) := by decide +kernel
theorem dX8_init_81 : decode cX8_init 81 = .ok (.putfield 40, 3) := by decide +kernel
theorem dX8_init_84 : decode cX8_init 84 = .ok (.aload_n 0, 1) := by decide +kernel
theorem dX8_init_85 : decode cX8_init 85 = .ok (.bipush 24, 2) := by decide +kernel
theorem dX8_init_87 : decode cX8_init 87 = .ok (.newarray .int, 2) := by decide +kernel
theorem dX8_init_89 : decode cX8_init 89 = .ok (.putfield 43, 3) := by decide +kernel
theorem dX8_init_92 : decode cX8_init 92 = .ok (.aload_n 0, 1) := by decide +kernel
theorem dX8_init_93 : decode cX8_init 93 = .ok (.bipush 24, 2) := by decide +kernel
theorem dX8_init_95 : decode cX8_init 95 = .ok (.newarray .int, 2) := by decide +kernel
theorem dX8_init_97 : decode cX8_init 97 = .ok (.putfield 46, 3) := by decide +kernel
theorem dX8_init_100 : decode cX8_init 100 = .ok (.aload_n 0, 1) := by decide +kernel
theorem dX8_init_101 : decode cX8_init 101 = .ok (.invokevirtual 49, 3) := by decide +kernel
theorem dX8_init_104 : decode cX8_init 104 = .ok (.return_, 1) := by decide +kernel
set_option maxRecDepth 20000 in
theorem ggX8_clear_J7_fill_53178 : GoodIn wsX8_clear wsJ7_fill_53178 := goodIn_r _ [10] (by decide +kernel) (by decide +kernel)
set_option maxRecDepth 20000 in
theorem gX8_clear_J7_fill_53178 : GoodIn wsX8_clear (va_wsS RX8 65 yJ7_fill_53178 wsJ7_fill_53178) := goodIn_app (goodIn_of _ (by decide +kernel)) ggX8_clear_J7_fill_53178
set_option maxRecDepth 20000 in
theorem ggX8_init_X8_clear : GoodIn wsX8_init wsX8_clear := goodIn_r _ [22, 23, 24, 25, 26, 13, 15, 27, 28, 29, 30, 31, 32, 33, 34, 35, 36, 37, 38, 39, 40, 41, 42, 43, 44, 45, 46] (by decide +kernel) (by decide +kernel)
set_option maxRecDepth 20000 in
theorem gX8_init_X8_clear : GoodIn wsX8_init (wsV RX8 49 RX8 yX8_clear wsX8_clear) := goodIn_app (goodIn_of _ (by decide +kernel)) ggX8_init_X8_clear
set_option maxHeartbeats 4000000 in
set_option maxRecDepth 100000 in
theorem c_X8_clear (l : Launch) (D : va_G) (cB cI cJ cS cZ cO : ClassId) (sz : Nat) (o : Nat) (k_name : Nat) (k_worth : Nat) (k_times : Nat) (k_first : Nat) (k_second : Nat) (k_beforeLast : Nat) (k_last : Nat) (k_errandOf : Nat) (k_errandAfter : Nat) (k_sound : Nat) (k_followers : Nat) (k_leaders : Nat) (k_words : Int32) (k_errands : Int32) (k_alikes : Int32) (k_law : Int32) (fe : Nat → Int32) (fs : Nat → Int32) : Met l yX8_clear wsX8_clear ({ frames := 1, cells := 0, slots := 0, locals := 23 }) (xPre D (tyL cB cI cJ cS cZ cO) [(o, .inr (8, [.ref k_name, .ref k_worth, .ref k_times, .ref k_first, .ref k_second, .ref k_beforeLast, .ref k_last, .ref k_errandOf, .ref k_errandAfter, .ref k_sound, .ref k_followers, .ref k_leaders, .int k_words, .int k_errands, .int k_alikes, .int k_law])), (k_errandOf, .inl (cI, 24, .inl fe)), (k_sound, .inl (cI, 26, .inl fs))] sz [.ref o]) (xQv D (tyL cB cI cJ cS cZ cO) (va_A [(o, .inr (8, [.ref k_name, .ref k_worth, .ref k_times, .ref k_first, .ref k_second, .ref k_beforeLast, .ref k_last, .ref k_errandOf, .ref k_errandAfter, .ref k_sound, .ref k_followers, .ref k_leaders, .int k_words, .int k_errands, .int k_alikes, .int k_law])), (k_errandOf, .inl (cI, 24, .inl fe)), (k_sound, .inl (cI, 26, .inl fs))] sz) (fun u : va_W => ∃ ge : Nat → Int32, ∃ gz : Nat → Int32, u = [(o, .inr (8, [.ref k_name, .ref k_worth, .ref k_times, .ref k_first, .ref k_second, .ref k_beforeLast, .ref k_last, .ref k_errandOf, .ref k_errandAfter, .ref k_sound, .ref k_followers, .ref k_leaders, .int 0, .int 0, .int 0, .int (-1)])), (k_errandOf, .inl (cI, 24, .inl ge)), (k_sound, .inl (cI, 26, .inl gz))])) 0 0 (va_A [(o, .inr (8, [.ref k_name, .ref k_worth, .ref k_times, .ref k_first, .ref k_second, .ref k_beforeLast, .ref k_last, .ref k_errandOf, .ref k_errandAfter, .ref k_sound, .ref k_followers, .ref k_leaders, .int k_words, .int k_errands, .int k_alikes, .int k_law])), (k_errandOf, .inl (cI, 24, .inl fe)), (k_sound, .inl (cI, 26, .inl fs))] sz) := by
  refine Met.ofW (cc := cX8_clear) (maxL := 2) (ret := none) (by decide) rfl ?_
  intro p e s m args below meth c s₁ B hml hv
  obtain ⟨rfl, hsz, hP, hK, hD0, hN⟩ := hv
  have hx := B.exec
  have hb := B.bytes
  have hr := B.returns
  have hts := atoms_spec (ws := wsX8_clear) B.pre
  have hown : s.vm.findClass RX8 = some m.cls := findClass_of_methodNamed B.named
  have hlocks := B.notSynchronized
  subst hsz
  have hD := hD0.self (sz := s.heap.size)
  generalize hAe : va_A [(o, .inr (8, [.ref k_name, .ref k_worth, .ref k_times, .ref k_first, .ref k_second, .ref k_beforeLast, .ref k_last, .ref k_errandOf, .ref k_errandAfter, .ref k_sound, .ref k_followers, .ref k_leaders, .int k_words, .int k_errands, .int k_alikes, .int k_law])), (k_errandOf, .inl (cI, 24, .inl fe)), (k_sound, .inl (cI, 26, .inl fs))] s.heap.size = A at hD ⊢
  have hA : ∀ q : Nat, s.heap.size ≤ q → A q := fun q h => by rw [← hAe]; exact Or.inr h
  have hS : va_S A s.heap s.heap [] := va_S.rf
  have hP : va_P D vwCl [(o, .inr (8, [.ref k_name, .ref k_worth, .ref k_times, .ref k_first, .ref k_second, .ref k_beforeLast, .ref k_last, .ref k_errandOf, .ref k_errandAfter, .ref k_sound, .ref k_followers, .ref k_leaders, .int k_words, .int k_errands, .int k_alikes, .int k_law])), (k_errandOf, .inl (cI, 24, .inl fe)), (k_sound, .inl (cI, 26, .inl fs))] s.heap := hP
  have hl := lv_entry ([.ref o]) (n := 2) (Nat.le_of_ble_eq_true rfl)
  rw [lg_entry_eq]
  generalize (lg_sl ([.ref o]) ++ List.replicate (2 - (lg_sl ([.ref o])).length) Slot.unset).toArray = ls at hl ⊢
  have hl : lv_has ls 2 [(0, .ref o)] := hl
  refine lv_aload_n hx hb dX8_clear_0 rfl (lv_at hl 0 rfl) ?_
  refine lv_iconst (v := 0) hx hb dX8_clear_1 (by decide) ?_
  refine va_put (D := D) (ci := 8) (v := .int 0) (ty := .int) (C := RX8) (T := TX8) (N := 16) hx hb hts (by decide +kernel) tyX8 tyX8_ok nmX8 hown hK hP hD hS 0 rfl rfl 12 (by decide) (hts (.fieldLink RX8 52 "LastLetter$Tongue" "words" "I") (by decide +kernel)) (fun _ h9 => h9) rfl (by decide +kernel) rfl rfl (Nat.le_of_ble_eq_true rfl) dX8_clear_2 (fun H locs hP hD hS => ?_)
  have hP : va_P D vwCl [(o, .inr (8, [.ref k_name, .ref k_worth, .ref k_times, .ref k_first, .ref k_second, .ref k_beforeLast, .ref k_last, .ref k_errandOf, .ref k_errandAfter, .ref k_sound, .ref k_followers, .ref k_leaders, .int 0, .int k_errands, .int k_alikes, .int k_law])), (k_errandOf, .inl (cI, 24, .inl fe)), (k_sound, .inl (cI, 26, .inl fs))] H := hP
  have hD : va_D A [(o, .inr (8, [.ref k_name, .ref k_worth, .ref k_times, .ref k_first, .ref k_second, .ref k_beforeLast, .ref k_last, .ref k_errandOf, .ref k_errandAfter, .ref k_sound, .ref k_followers, .ref k_leaders, .int 0, .int k_errands, .int k_alikes, .int k_law])), (k_errandOf, .inl (cI, 24, .inl fe)), (k_sound, .inl (cI, 26, .inl fs))] := hD
  refine lv_aload_n hx hb dX8_clear_5 rfl (lv_at hl 0 rfl) ?_
  refine lv_iconst (v := 0) hx hb dX8_clear_6 (by decide) ?_
  refine va_put (D := D) (ci := 8) (v := .int 0) (ty := .int) (C := RX8) (T := TX8) (N := 16) hx hb hts (by decide +kernel) tyX8 tyX8_ok nmX8 hown hK hP hD hS 0 rfl rfl 13 (by decide) (hts (.fieldLink RX8 56 "LastLetter$Tongue" "errands" "I") (by decide +kernel)) (fun _ h9 => h9) rfl (by decide +kernel) rfl rfl (Nat.le_of_ble_eq_true rfl) dX8_clear_7 (fun H locs hP hD hS => ?_)
  have hP : va_P D vwCl [(o, .inr (8, [.ref k_name, .ref k_worth, .ref k_times, .ref k_first, .ref k_second, .ref k_beforeLast, .ref k_last, .ref k_errandOf, .ref k_errandAfter, .ref k_sound, .ref k_followers, .ref k_leaders, .int 0, .int 0, .int k_alikes, .int k_law])), (k_errandOf, .inl (cI, 24, .inl fe)), (k_sound, .inl (cI, 26, .inl fs))] H := hP
  have hD : va_D A [(o, .inr (8, [.ref k_name, .ref k_worth, .ref k_times, .ref k_first, .ref k_second, .ref k_beforeLast, .ref k_last, .ref k_errandOf, .ref k_errandAfter, .ref k_sound, .ref k_followers, .ref k_leaders, .int 0, .int 0, .int k_alikes, .int k_law])), (k_errandOf, .inl (cI, 24, .inl fe)), (k_sound, .inl (cI, 26, .inl fs))] := hD
  refine lv_aload_n hx hb dX8_clear_10 rfl (lv_at hl 0 rfl) ?_
  refine lv_iconst (v := 0) hx hb dX8_clear_11 (by decide) ?_
  refine va_put (D := D) (ci := 8) (v := .int 0) (ty := .int) (C := RX8) (T := TX8) (N := 16) hx hb hts (by decide +kernel) tyX8 tyX8_ok nmX8 hown hK hP hD hS 0 rfl rfl 14 (by decide) (hts (.fieldLink RX8 59 "LastLetter$Tongue" "alikes" "I") (by decide +kernel)) (fun _ h9 => h9) rfl (by decide +kernel) rfl rfl (Nat.le_of_ble_eq_true rfl) dX8_clear_12 (fun H locs hP hD hS => ?_)
  have hP : va_P D vwCl [(o, .inr (8, [.ref k_name, .ref k_worth, .ref k_times, .ref k_first, .ref k_second, .ref k_beforeLast, .ref k_last, .ref k_errandOf, .ref k_errandAfter, .ref k_sound, .ref k_followers, .ref k_leaders, .int 0, .int 0, .int 0, .int k_law])), (k_errandOf, .inl (cI, 24, .inl fe)), (k_sound, .inl (cI, 26, .inl fs))] H := hP
  have hD : va_D A [(o, .inr (8, [.ref k_name, .ref k_worth, .ref k_times, .ref k_first, .ref k_second, .ref k_beforeLast, .ref k_last, .ref k_errandOf, .ref k_errandAfter, .ref k_sound, .ref k_followers, .ref k_leaders, .int 0, .int 0, .int 0, .int k_law])), (k_errandOf, .inl (cI, 24, .inl fe)), (k_sound, .inl (cI, 26, .inl fs))] := hD
  refine lv_aload_n hx hb dX8_clear_15 rfl (lv_at hl 0 rfl) ?_
  refine lv_iconst (v := (-1)) hx hb dX8_clear_16 (by decide) ?_
  refine va_put (D := D) (ci := 8) (v := .int (-1)) (ty := .int) (C := RX8) (T := TX8) (N := 16) hx hb hts (by decide +kernel) tyX8 tyX8_ok nmX8 hown hK hP hD hS 0 rfl rfl 15 (by decide) (hts (.fieldLink RX8 62 "LastLetter$Tongue" "law" "I") (by decide +kernel)) (fun _ h9 => h9) rfl (by decide +kernel) rfl rfl (Nat.le_of_ble_eq_true rfl) dX8_clear_17 (fun H locs hP hD hS => ?_)
  have hP : va_P D vwCl [(o, .inr (8, [.ref k_name, .ref k_worth, .ref k_times, .ref k_first, .ref k_second, .ref k_beforeLast, .ref k_last, .ref k_errandOf, .ref k_errandAfter, .ref k_sound, .ref k_followers, .ref k_leaders, .int 0, .int 0, .int 0, .int (-1)])), (k_errandOf, .inl (cI, 24, .inl fe)), (k_sound, .inl (cI, 26, .inl fs))] H := hP
  have hD : va_D A [(o, .inr (8, [.ref k_name, .ref k_worth, .ref k_times, .ref k_first, .ref k_second, .ref k_beforeLast, .ref k_last, .ref k_errandOf, .ref k_errandAfter, .ref k_sound, .ref k_followers, .ref k_leaders, .int 0, .int 0, .int 0, .int (-1)])), (k_errandOf, .inl (cI, 24, .inl fe)), (k_sound, .inl (cI, 26, .inl fs))] := hD
  refine lv_aload_n hx hb dX8_clear_20 rfl (lv_at hl 0 rfl) ?_
  refine va_get (D := D) (ci := 8) (v := .ref k_errandOf) (C := RX8) (T := TX8) (N := 16) hx hb hts (by decide +kernel) hown hK hP 0 rfl rfl 7 (by decide) (hts (.fieldLink RX8 34 "LastLetter$Tongue" "errandOf" "[I") (by decide +kernel)) (fun _ h9 => h9) rfl dX8_clear_21 ?_
  refine lv_iconst (v := (-1)) hx hb dX8_clear_24 (by decide) ?_
  refine xCv (wr := [(o, .inr (8, [.ref k_name, .ref k_worth, .ref k_times, .ref k_first, .ref k_second, .ref k_beforeLast, .ref k_last, .ref k_errandOf, .ref k_errandAfter, .ref k_sound, .ref k_followers, .ref k_leaders, .int 0, .int 0, .int 0, .int (-1)])), (k_sound, .inl (cI, 26, .inl fs))]) (win := [(k_errandOf, .inl (cI, 24, .inl fe))]) hP hD hS hA [1] [0, 2] rfl rfl (by decide) (by decide) (va_runS (As := [.ref k_errandOf, .int (-1)]) (rest := []) ⟨hx, hb, hml, hown, hts⟩ (c_J7_fill_53178 l D cB cI cJ cS cZ cO H.size k_errandOf (-1) 24 fe (by decide)) (va_cwS 2 hts gX8_clear_J7_fill_53178 rfl rfl rfl (by decide +kernel) ⟨Nat.le_of_ble_eq_true rfl, Nat.le_of_ble_eq_true rfl⟩) (xPreS (win := [(k_errandOf, .inl (cI, 24, .inl fe))]) hN hK hP hD [1] (by decide) rfl) rfl rfl hl.1 rfl (lv_room (Nat.le_of_ble_eq_true rfl)) dX8_clear_25 ⟨Nat.le_of_ble_eq_true rfl, Nat.le_of_ble_eq_true rfl⟩) (fun w0 H locs hw hP hD hS => ?_)
  obtain ⟨g_1, rfl, hf_2⟩ := hw
  have hP : va_P D vwCl [(o, .inr (8, [.ref k_name, .ref k_worth, .ref k_times, .ref k_first, .ref k_second, .ref k_beforeLast, .ref k_last, .ref k_errandOf, .ref k_errandAfter, .ref k_sound, .ref k_followers, .ref k_leaders, .int 0, .int 0, .int 0, .int (-1)])), (k_sound, .inl (cI, 26, .inl fs)), (k_errandOf, .inl (cI, 24, .inl g_1))] H := hP
  have hD : va_D A [(o, .inr (8, [.ref k_name, .ref k_worth, .ref k_times, .ref k_first, .ref k_second, .ref k_beforeLast, .ref k_last, .ref k_errandOf, .ref k_errandAfter, .ref k_sound, .ref k_followers, .ref k_leaders, .int 0, .int 0, .int 0, .int (-1)])), (k_sound, .inl (cI, 26, .inl fs)), (k_errandOf, .inl (cI, 24, .inl g_1))] := hD
  refine lv_iconst (v := 0) hx hb dX8_clear_28 (by decide) ?_
  refine lv_istore_n (lv' := [(1, .int 0), (0, .ref o)]) hx hb dX8_clear_29 rfl hl (by decide) rfl (fun ls hl => ?_)
  refine xb_up (fun i H locs ls => ∃ g : Nat → Int32, va_P D vwCl [(o, .inr (8, [.ref k_name, .ref k_worth, .ref k_times, .ref k_first, .ref k_second, .ref k_beforeLast, .ref k_last, .ref k_errandOf, .ref k_errandAfter, .ref k_sound, .ref k_followers, .ref k_leaders, .int 0, .int 0, .int 0, .int (-1)])), (k_sound, .inl (cI, 26, .inl g)), (k_errandOf, .inl (cI, 24, .inl g_1))] H ∧ va_D A [(o, .inr (8, [.ref k_name, .ref k_worth, .ref k_times, .ref k_first, .ref k_second, .ref k_beforeLast, .ref k_last, .ref k_errandOf, .ref k_errandAfter, .ref k_sound, .ref k_followers, .ref k_leaders, .int 0, .int 0, .int 0, .int (-1)])), (k_sound, .inl (cI, 26, .inl g)), (k_errandOf, .inl (cI, 24, .inl g_1))] ∧ va_S A s.heap H locs ∧ lv_has ls 2 [(1, .int (nI i)), (0, .ref o)]) 26 0 (Nat.zero_le _) ⟨fs, hP, hD, hS, lv_sub hl [0, 1] rfl⟩ (fun i H locs ls hi hI kk => ?_) (fun H locs ls hI => ?_)
  · obtain ⟨g, hP, hD, hS, hl⟩ := hI
    refine lv_iload_n hx hb dX8_clear_30 rfl (lv_at hl 0 rfl) ?_
    refine lv_bipush (v := 26) hx hb dX8_clear_31 (by decide) ?_
    refine lv_icmp_ge (tgt := 49) hx hb dX8_clear_33 (by decide) (fun c_3 => absurd c_3 (nI_ge (b := 26) hi (by decide))) (fun c_3 => ?_)
    refine lv_aload_n hx hb dX8_clear_36 rfl (lv_at hl 1 rfl) ?_
    refine va_get (D := D) (ci := 8) (v := .ref k_sound) (C := RX8) (T := TX8) (N := 16) hx hb hts (by decide +kernel) hown hK hP 0 rfl rfl 9 (by decide) (hts (.fieldLink RX8 40 "LastLetter$Tongue" "sound" "[I") (by decide +kernel)) (fun _ h9 => h9) rfl dX8_clear_37 ?_
    refine lv_iload_n hx hb dX8_clear_40 rfl (lv_at hl 0 rfl) ?_
    refine lv_iload_n hx hb dX8_clear_41 rfl (lv_at hl 0 rfl) ?_
    refine va_iast hx hb hK hP hD hS 1 1 rfl rfl (vp_in_nI hi (by decide)) dX8_clear_42 (fun H locs hP hD hS => ?_)
    have hP : va_P D vwCl [(o, .inr (8, [.ref k_name, .ref k_worth, .ref k_times, .ref k_first, .ref k_second, .ref k_beforeLast, .ref k_last, .ref k_errandOf, .ref k_errandAfter, .ref k_sound, .ref k_followers, .ref k_leaders, .int 0, .int 0, .int 0, .int (-1)])), (k_sound, .inl (cI, 26, .inl (upd g (Int32.toNatClampNeg (nI i)) (nI i)))), (k_errandOf, .inl (cI, 24, .inl g_1))] H := hP
    have hD : va_D A [(o, .inr (8, [.ref k_name, .ref k_worth, .ref k_times, .ref k_first, .ref k_second, .ref k_beforeLast, .ref k_last, .ref k_errandOf, .ref k_errandAfter, .ref k_sound, .ref k_followers, .ref k_leaders, .int 0, .int 0, .int 0, .int (-1)])), (k_sound, .inl (cI, 26, .inl (upd g (Int32.toNatClampNeg (nI i)) (nI i)))), (k_errandOf, .inl (cI, 24, .inl g_1))] := hD
    generalize eg_4 : upd g (Int32.toNatClampNeg (nI i)) (nI i) = g_4 at hP hD
    refine lv_iinc (v := nI (i + 1)) (lv' := [(1, .int (nI (i + 1))), (0, .ref o)]) hx hb dX8_clear_43 hl (k := 0) rfl (nI_1 i) (by decide) rfl (fun ls hl => ?_)
    refine lv_goto (tgt := 30) hx hb dX8_clear_46 (by decide) ?_
    exact kk _ _ _ ⟨g_4, hP, hD, hS, lv_sub hl [0, 1] rfl⟩
  · obtain ⟨g, hP, hD, hS, hl⟩ := hI
    refine lv_iload_n hx hb dX8_clear_30 rfl (lv_at hl 0 rfl) ?_
    refine lv_bipush (v := 26) hx hb dX8_clear_31 (by decide) ?_
    refine lv_icmp_ge (tgt := 49) hx hb dX8_clear_33 (by decide) (fun c_5 => ?_) (fun c_5 => absurd (by decide) c_5)
    have hP9 := hP.sub (ws' := [(o, .inr (8, [.ref k_name, .ref k_worth, .ref k_times, .ref k_first, .ref k_second, .ref k_beforeLast, .ref k_last, .ref k_errandOf, .ref k_errandAfter, .ref k_sound, .ref k_followers, .ref k_leaders, .int 0, .int 0, .int 0, .int (-1)])), (k_errandOf, .inl (cI, 24, .inl g_1)), (k_sound, .inl (cI, 26, .inl g))]) [0, 2, 1] rfl
    have hD9 := hD.sub (ws' := [(o, .inr (8, [.ref k_name, .ref k_worth, .ref k_times, .ref k_first, .ref k_second, .ref k_beforeLast, .ref k_last, .ref k_errandOf, .ref k_errandAfter, .ref k_sound, .ref k_followers, .ref k_leaders, .int 0, .int 0, .int 0, .int (-1)])), (k_errandOf, .inl (cI, 24, .inl g_1)), (k_sound, .inl (cI, 26, .inl g))]) [0, 2, 1] (by decide) rfl
    refine W.widen (k := 0) (n := 0) (Nat.le_of_ble_eq_true rfl) (Nat.le_of_ble_eq_true rfl) ?_
    exact W.vret hx hb hr (fun tz htz hWz => ⟨⟨[(o, .inr (8, [.ref k_name, .ref k_worth, .ref k_times, .ref k_first, .ref k_second, .ref k_beforeLast, .ref k_last, .ref k_errandOf, .ref k_errandAfter, .ref k_sound, .ref k_followers, .ref k_leaders, .int 0, .int 0, .int 0, .int (-1)])), (k_errandOf, .inl (cI, 24, .inl g_1)), (k_sound, .inl (cI, 26, .inl g))], rfl, ⟨g_1, g, rfl⟩, by rw [htz]; exact hP9, va_K.moved hWz.alike hK, hD9⟩, hS.F htz⟩) hS.2.2 dX8_clear_49

set_option maxHeartbeats 4000000 in
set_option maxRecDepth 100000 in
theorem c_X8_init (l : Launch) (D : va_G) (cB cI cJ cS cZ cO : ClassId) (sz : Nat) (o : Nat) : Met l yX8_init wsX8_init ({ frames := 2, cells := 12, slots := 272, locals := 44 }) (xPre D (tyL cB cI cJ cS cZ cO) [(o, .inr (8, [.null, .null, .null, .null, .null, .null, .null, .null, .null, .null, .null, .null, .int 0, .int 0, .int 0, .int 0]))] sz [.ref o]) (xQv D (tyL cB cI cJ cS cZ cO) (va_A [(o, .inr (8, [.null, .null, .null, .null, .null, .null, .null, .null, .null, .null, .null, .null, .int 0, .int 0, .int 0, .int 0]))] sz) (fun u : va_W => ∃ q_name : Nat, ∃ q_worth : Nat, ∃ q_times : Nat, ∃ q_first : Nat, ∃ q_second : Nat, ∃ q_beforeLast : Nat, ∃ q_last : Nat, ∃ q_errandOf : Nat, ∃ q_errandAfter : Nat, ∃ q_sound : Nat, ∃ q_followers : Nat, ∃ q_leaders : Nat, ∃ ge : Nat → Int32, ∃ gz : Nat → Int32, ∃ gf : Nat → Int32, ∃ gl : Nat → Int32, u = [(o, .inr (8, [.ref q_name, .ref q_worth, .ref q_times, .ref q_first, .ref q_second, .ref q_beforeLast, .ref q_last, .ref q_errandOf, .ref q_errandAfter, .ref q_sound, .ref q_followers, .ref q_leaders, .int 0, .int 0, .int 0, .int (-1)])), (q_errandOf, .inl (cI, 24, .inl ge)), (q_sound, .inl (cI, 26, .inl gz)), (q_followers, .inl (cI, 24, .inl gf)), (q_leaders, .inl (cI, 24, .inl gl))])) 12 272 (va_A [(o, .inr (8, [.null, .null, .null, .null, .null, .null, .null, .null, .null, .null, .null, .null, .int 0, .int 0, .int 0, .int 0]))] sz) := by
  refine Met.ofW (cc := cX8_init) (maxL := 1) (ret := none) (by decide) rfl ?_
  intro p e s m args below meth c s₁ B hml hv
  obtain ⟨rfl, hsz, hP, hK, hD0, hN⟩ := hv
  have hx := B.exec
  have hb := B.bytes
  have hr := B.returns
  have hts := atoms_spec (ws := wsX8_init) B.pre
  have hown : s.vm.findClass RX8 = some m.cls := findClass_of_methodNamed B.named
  have hlocks := B.notSynchronized
  have hin : meth.name = "<init>" := (name_of_methodNamed B.named B.method).1
  subst hsz
  have hD := hD0.self (sz := s.heap.size)
  generalize hAe : va_A [(o, .inr (8, [.null, .null, .null, .null, .null, .null, .null, .null, .null, .null, .null, .null, .int 0, .int 0, .int 0, .int 0]))] s.heap.size = A at hD ⊢
  have hA : ∀ q : Nat, s.heap.size ≤ q → A q := fun q h => by rw [← hAe]; exact Or.inr h
  have hS : va_S A s.heap s.heap [] := va_S.rf
  have hP : va_P D vwCl [(o, .inr (8, [.null, .null, .null, .null, .null, .null, .null, .null, .null, .null, .null, .null, .int 0, .int 0, .int 0, .int 0]))] s.heap := hP
  have hl := lv_entry ([.ref o]) (n := 1) (Nat.le_of_ble_eq_true rfl)
  rw [lg_entry_eq]
  generalize (lg_sl ([.ref o]) ++ List.replicate (1 - (lg_sl ([.ref o])).length) Slot.unset).toArray = ls at hl ⊢
  have hl : lv_has ls 1 [(0, .ref o)] := hl
  refine lv_aload_n hx hb dX8_init_0 rfl (lv_at hl 0 rfl) ?_
  refine W.objInit hx hb hown (hts (.methodLink RX8 3 objectInit) (by decide +kernel)) (hts (.instanceMethod objectInit) (by decide +kernel)) (hts (.code objectInit ⟨#[0xb1]⟩ 1 none) (by decide +kernel)) rfl (by rw [hml]; exact hl.1) rfl dX8_init_1 (Nat.le_of_ble_eq_true rfl) (Nat.le_of_ble_eq_true rfl) ?_
  refine W.eq (g2 := F0 m 4 ls []) rfl ?_
  refine lv_aload_n hx hb dX8_init_4 rfl (lv_at hl 0 rfl) ?_
  refine lv_bipush (v := 24) hx hb dX8_init_5 (by decide) ?_
  refine xnewa (atype := .long) (a0 := (24, .inr (.inl (fun _ => 0)))) (ty := .long) hx hb (hts (.arrayClass .long) (by decide +kernel)) rfl hK 2 rfl hP hD hS hA (fun _ => rfl) (by decide) (by decide) (Nat.le_of_ble_eq_true rfl) (Nat.le_of_ble_eq_true rfl) (Nat.le_of_ble_eq_true rfl) dX8_init_7 (fun q_1 H hP hD hS => ?_)
  refine W.widen (k := 1) (n := 24) (Nat.le_of_ble_eq_true rfl) (Nat.le_of_ble_eq_true rfl) ?_
  have hP : va_P D vwCl [(o, .inr (8, [.null, .null, .null, .null, .null, .null, .null, .null, .null, .null, .null, .null, .int 0, .int 0, .int 0, .int 0])), (q_1, .inl (cJ, 24, .inr (.inl (fun _ => 0))))] H := hP
  have hD : va_D A [(o, .inr (8, [.null, .null, .null, .null, .null, .null, .null, .null, .null, .null, .null, .null, .int 0, .int 0, .int 0, .int 0])), (q_1, .inl (cJ, 24, .inr (.inl (fun _ => 0))))] := hD
  refine va_putF (D := D) (ci := 8) (v := .ref q_1) (ty := .array .long) (C := RX8) (T := TX8) (N := 16) hx hb hts (by decide +kernel) tyX8 tyX8_ok nmX8 hown hK hP hD hS 0 rfl rfl 0 (by decide) (hts (.fieldLink RX8 9 "LastLetter$Tongue" "name" "[J") (by decide +kernel)) (fun _ h9 => h9) rfl hin rfl (by decide +kernel) rfl rfl (Nat.le_of_ble_eq_true rfl) dX8_init_9 (fun H locs hP hD hS => ?_)
  have hP : va_P D vwCl [(o, .inr (8, [.ref q_1, .null, .null, .null, .null, .null, .null, .null, .null, .null, .null, .null, .int 0, .int 0, .int 0, .int 0])), (q_1, .inl (cJ, 24, .inr (.inl (fun _ => 0))))] H := hP
  have hD : va_D A [(o, .inr (8, [.ref q_1, .null, .null, .null, .null, .null, .null, .null, .null, .null, .null, .null, .int 0, .int 0, .int 0, .int 0])), (q_1, .inl (cJ, 24, .inr (.inl (fun _ => 0))))] := hD
  refine lv_aload_n hx hb dX8_init_12 rfl (lv_at hl 0 rfl) ?_
  refine lv_bipush (v := 24) hx hb dX8_init_13 (by decide) ?_
  refine xnewa (atype := .int) (a0 := (24, .inl (fun _ => 0))) (ty := .int) hx hb (hts (.arrayClass .int) (by decide +kernel)) rfl hK 1 rfl hP hD hS hA (fun _ => rfl) (by decide) (by decide) (Nat.le_of_ble_eq_true rfl) (Nat.le_of_ble_eq_true rfl) (Nat.le_of_ble_eq_true rfl) dX8_init_15 (fun q_2 H hP hD hS => ?_)
  refine W.widen (k := 2) (n := 48) (Nat.le_of_ble_eq_true rfl) (Nat.le_of_ble_eq_true rfl) ?_
  have hP : va_P D vwCl [(o, .inr (8, [.ref q_1, .null, .null, .null, .null, .null, .null, .null, .null, .null, .null, .null, .int 0, .int 0, .int 0, .int 0])), (q_1, .inl (cJ, 24, .inr (.inl (fun _ => 0)))), (q_2, .inl (cI, 24, .inl (fun _ => 0)))] H := hP
  have hD : va_D A [(o, .inr (8, [.ref q_1, .null, .null, .null, .null, .null, .null, .null, .null, .null, .null, .null, .int 0, .int 0, .int 0, .int 0])), (q_1, .inl (cJ, 24, .inr (.inl (fun _ => 0)))), (q_2, .inl (cI, 24, .inl (fun _ => 0)))] := hD
  refine va_putF (D := D) (ci := 8) (v := .ref q_2) (ty := .array .int) (C := RX8) (T := TX8) (N := 16) hx hb hts (by decide +kernel) tyX8 tyX8_ok nmX8 hown hK hP hD hS 0 rfl rfl 1 (by decide) (hts (.fieldLink RX8 15 "LastLetter$Tongue" "worth" "[I") (by decide +kernel)) (fun _ h9 => h9) rfl hin rfl (by decide +kernel) rfl rfl (Nat.le_of_ble_eq_true rfl) dX8_init_17 (fun H locs hP hD hS => ?_)
  have hP : va_P D vwCl [(o, .inr (8, [.ref q_1, .ref q_2, .null, .null, .null, .null, .null, .null, .null, .null, .null, .null, .int 0, .int 0, .int 0, .int 0])), (q_1, .inl (cJ, 24, .inr (.inl (fun _ => 0)))), (q_2, .inl (cI, 24, .inl (fun _ => 0)))] H := hP
  have hD : va_D A [(o, .inr (8, [.ref q_1, .ref q_2, .null, .null, .null, .null, .null, .null, .null, .null, .null, .null, .int 0, .int 0, .int 0, .int 0])), (q_1, .inl (cJ, 24, .inr (.inl (fun _ => 0)))), (q_2, .inl (cI, 24, .inl (fun _ => 0)))] := hD
  refine lv_aload_n hx hb dX8_init_20 rfl (lv_at hl 0 rfl) ?_
  refine lv_bipush (v := 24) hx hb dX8_init_21 (by decide) ?_
  refine xnewa (atype := .int) (a0 := (24, .inl (fun _ => 0))) (ty := .int) hx hb (hts (.arrayClass .int) (by decide +kernel)) rfl hK 1 rfl hP hD hS hA (fun _ => rfl) (by decide) (by decide) (Nat.le_of_ble_eq_true rfl) (Nat.le_of_ble_eq_true rfl) (Nat.le_of_ble_eq_true rfl) dX8_init_23 (fun q_3 H hP hD hS => ?_)
  refine W.widen (k := 3) (n := 72) (Nat.le_of_ble_eq_true rfl) (Nat.le_of_ble_eq_true rfl) ?_
  have hP : va_P D vwCl [(o, .inr (8, [.ref q_1, .ref q_2, .null, .null, .null, .null, .null, .null, .null, .null, .null, .null, .int 0, .int 0, .int 0, .int 0])), (q_1, .inl (cJ, 24, .inr (.inl (fun _ => 0)))), (q_2, .inl (cI, 24, .inl (fun _ => 0))), (q_3, .inl (cI, 24, .inl (fun _ => 0)))] H := hP
  have hD : va_D A [(o, .inr (8, [.ref q_1, .ref q_2, .null, .null, .null, .null, .null, .null, .null, .null, .null, .null, .int 0, .int 0, .int 0, .int 0])), (q_1, .inl (cJ, 24, .inr (.inl (fun _ => 0)))), (q_2, .inl (cI, 24, .inl (fun _ => 0))), (q_3, .inl (cI, 24, .inl (fun _ => 0)))] := hD
  refine va_putF (D := D) (ci := 8) (v := .ref q_3) (ty := .array .int) (C := RX8) (T := TX8) (N := 16) hx hb hts (by decide +kernel) tyX8 tyX8_ok nmX8 hown hK hP hD hS 0 rfl rfl 2 (by decide) (hts (.fieldLink RX8 19 "LastLetter$Tongue" "times" "[I") (by decide +kernel)) (fun _ h9 => h9) rfl hin rfl (by decide +kernel) rfl rfl (Nat.le_of_ble_eq_true rfl) dX8_init_25 (fun H locs hP hD hS => ?_)
  have hP : va_P D vwCl [(o, .inr (8, [.ref q_1, .ref q_2, .ref q_3, .null, .null, .null, .null, .null, .null, .null, .null, .null, .int 0, .int 0, .int 0, .int 0])), (q_1, .inl (cJ, 24, .inr (.inl (fun _ => 0)))), (q_2, .inl (cI, 24, .inl (fun _ => 0))), (q_3, .inl (cI, 24, .inl (fun _ => 0)))] H := hP
  have hD : va_D A [(o, .inr (8, [.ref q_1, .ref q_2, .ref q_3, .null, .null, .null, .null, .null, .null, .null, .null, .null, .int 0, .int 0, .int 0, .int 0])), (q_1, .inl (cJ, 24, .inr (.inl (fun _ => 0)))), (q_2, .inl (cI, 24, .inl (fun _ => 0))), (q_3, .inl (cI, 24, .inl (fun _ => 0)))] := hD
  refine lv_aload_n hx hb dX8_init_28 rfl (lv_at hl 0 rfl) ?_
  refine lv_bipush (v := 24) hx hb dX8_init_29 (by decide) ?_
  refine xnewa (atype := .int) (a0 := (24, .inl (fun _ => 0))) (ty := .int) hx hb (hts (.arrayClass .int) (by decide +kernel)) rfl hK 1 rfl hP hD hS hA (fun _ => rfl) (by decide) (by decide) (Nat.le_of_ble_eq_true rfl) (Nat.le_of_ble_eq_true rfl) (Nat.le_of_ble_eq_true rfl) dX8_init_31 (fun q_4 H hP hD hS => ?_)
  refine W.widen (k := 4) (n := 96) (Nat.le_of_ble_eq_true rfl) (Nat.le_of_ble_eq_true rfl) ?_
  have hP : va_P D vwCl [(o, .inr (8, [.ref q_1, .ref q_2, .ref q_3, .null, .null, .null, .null, .null, .null, .null, .null, .null, .int 0, .int 0, .int 0, .int 0])), (q_1, .inl (cJ, 24, .inr (.inl (fun _ => 0)))), (q_2, .inl (cI, 24, .inl (fun _ => 0))), (q_3, .inl (cI, 24, .inl (fun _ => 0))), (q_4, .inl (cI, 24, .inl (fun _ => 0)))] H := hP
  have hD : va_D A [(o, .inr (8, [.ref q_1, .ref q_2, .ref q_3, .null, .null, .null, .null, .null, .null, .null, .null, .null, .int 0, .int 0, .int 0, .int 0])), (q_1, .inl (cJ, 24, .inr (.inl (fun _ => 0)))), (q_2, .inl (cI, 24, .inl (fun _ => 0))), (q_3, .inl (cI, 24, .inl (fun _ => 0))), (q_4, .inl (cI, 24, .inl (fun _ => 0)))] := hD
  refine va_putF (D := D) (ci := 8) (v := .ref q_4) (ty := .array .int) (C := RX8) (T := TX8) (N := 16) hx hb hts (by decide +kernel) tyX8 tyX8_ok nmX8 hown hK hP hD hS 0 rfl rfl 3 (by decide) (hts (.fieldLink RX8 22 "LastLetter$Tongue" "first" "[I") (by decide +kernel)) (fun _ h9 => h9) rfl hin rfl (by decide +kernel) rfl rfl (Nat.le_of_ble_eq_true rfl) dX8_init_33 (fun H locs hP hD hS => ?_)
  have hP : va_P D vwCl [(o, .inr (8, [.ref q_1, .ref q_2, .ref q_3, .ref q_4, .null, .null, .null, .null, .null, .null, .null, .null, .int 0, .int 0, .int 0, .int 0])), (q_1, .inl (cJ, 24, .inr (.inl (fun _ => 0)))), (q_2, .inl (cI, 24, .inl (fun _ => 0))), (q_3, .inl (cI, 24, .inl (fun _ => 0))), (q_4, .inl (cI, 24, .inl (fun _ => 0)))] H := hP
  have hD : va_D A [(o, .inr (8, [.ref q_1, .ref q_2, .ref q_3, .ref q_4, .null, .null, .null, .null, .null, .null, .null, .null, .int 0, .int 0, .int 0, .int 0])), (q_1, .inl (cJ, 24, .inr (.inl (fun _ => 0)))), (q_2, .inl (cI, 24, .inl (fun _ => 0))), (q_3, .inl (cI, 24, .inl (fun _ => 0))), (q_4, .inl (cI, 24, .inl (fun _ => 0)))] := hD
  refine lv_aload_n hx hb dX8_init_36 rfl (lv_at hl 0 rfl) ?_
  refine lv_bipush (v := 24) hx hb dX8_init_37 (by decide) ?_
  refine xnewa (atype := .int) (a0 := (24, .inl (fun _ => 0))) (ty := .int) hx hb (hts (.arrayClass .int) (by decide +kernel)) rfl hK 1 rfl hP hD hS hA (fun _ => rfl) (by decide) (by decide) (Nat.le_of_ble_eq_true rfl) (Nat.le_of_ble_eq_true rfl) (Nat.le_of_ble_eq_true rfl) dX8_init_39 (fun q_5 H hP hD hS => ?_)
  refine W.widen (k := 5) (n := 120) (Nat.le_of_ble_eq_true rfl) (Nat.le_of_ble_eq_true rfl) ?_
  have hP : va_P D vwCl [(o, .inr (8, [.ref q_1, .ref q_2, .ref q_3, .ref q_4, .null, .null, .null, .null, .null, .null, .null, .null, .int 0, .int 0, .int 0, .int 0])), (q_1, .inl (cJ, 24, .inr (.inl (fun _ => 0)))), (q_2, .inl (cI, 24, .inl (fun _ => 0))), (q_3, .inl (cI, 24, .inl (fun _ => 0))), (q_4, .inl (cI, 24, .inl (fun _ => 0))), (q_5, .inl (cI, 24, .inl (fun _ => 0)))] H := hP
  have hD : va_D A [(o, .inr (8, [.ref q_1, .ref q_2, .ref q_3, .ref q_4, .null, .null, .null, .null, .null, .null, .null, .null, .int 0, .int 0, .int 0, .int 0])), (q_1, .inl (cJ, 24, .inr (.inl (fun _ => 0)))), (q_2, .inl (cI, 24, .inl (fun _ => 0))), (q_3, .inl (cI, 24, .inl (fun _ => 0))), (q_4, .inl (cI, 24, .inl (fun _ => 0))), (q_5, .inl (cI, 24, .inl (fun _ => 0)))] := hD
  refine va_putF (D := D) (ci := 8) (v := .ref q_5) (ty := .array .int) (C := RX8) (T := TX8) (N := 16) hx hb hts (by decide +kernel) tyX8 tyX8_ok nmX8 hown hK hP hD hS 0 rfl rfl 4 (by decide) (hts (.fieldLink RX8 25 "LastLetter$Tongue" "second" "[I") (by decide +kernel)) (fun _ h9 => h9) rfl hin rfl (by decide +kernel) rfl rfl (Nat.le_of_ble_eq_true rfl) dX8_init_41 (fun H locs hP hD hS => ?_)
  have hP : va_P D vwCl [(o, .inr (8, [.ref q_1, .ref q_2, .ref q_3, .ref q_4, .ref q_5, .null, .null, .null, .null, .null, .null, .null, .int 0, .int 0, .int 0, .int 0])), (q_1, .inl (cJ, 24, .inr (.inl (fun _ => 0)))), (q_2, .inl (cI, 24, .inl (fun _ => 0))), (q_3, .inl (cI, 24, .inl (fun _ => 0))), (q_4, .inl (cI, 24, .inl (fun _ => 0))), (q_5, .inl (cI, 24, .inl (fun _ => 0)))] H := hP
  have hD : va_D A [(o, .inr (8, [.ref q_1, .ref q_2, .ref q_3, .ref q_4, .ref q_5, .null, .null, .null, .null, .null, .null, .null, .int 0, .int 0, .int 0, .int 0])), (q_1, .inl (cJ, 24, .inr (.inl (fun _ => 0)))), (q_2, .inl (cI, 24, .inl (fun _ => 0))), (q_3, .inl (cI, 24, .inl (fun _ => 0))), (q_4, .inl (cI, 24, .inl (fun _ => 0))), (q_5, .inl (cI, 24, .inl (fun _ => 0)))] := hD
  refine lv_aload_n hx hb dX8_init_44 rfl (lv_at hl 0 rfl) ?_
  refine lv_bipush (v := 24) hx hb dX8_init_45 (by decide) ?_
  refine xnewa (atype := .int) (a0 := (24, .inl (fun _ => 0))) (ty := .int) hx hb (hts (.arrayClass .int) (by decide +kernel)) rfl hK 1 rfl hP hD hS hA (fun _ => rfl) (by decide) (by decide) (Nat.le_of_ble_eq_true rfl) (Nat.le_of_ble_eq_true rfl) (Nat.le_of_ble_eq_true rfl) dX8_init_47 (fun q_6 H hP hD hS => ?_)
  refine W.widen (k := 6) (n := 144) (Nat.le_of_ble_eq_true rfl) (Nat.le_of_ble_eq_true rfl) ?_
  have hP : va_P D vwCl [(o, .inr (8, [.ref q_1, .ref q_2, .ref q_3, .ref q_4, .ref q_5, .null, .null, .null, .null, .null, .null, .null, .int 0, .int 0, .int 0, .int 0])), (q_1, .inl (cJ, 24, .inr (.inl (fun _ => 0)))), (q_2, .inl (cI, 24, .inl (fun _ => 0))), (q_3, .inl (cI, 24, .inl (fun _ => 0))), (q_4, .inl (cI, 24, .inl (fun _ => 0))), (q_5, .inl (cI, 24, .inl (fun _ => 0))), (q_6, .inl (cI, 24, .inl (fun _ => 0)))] H := hP
  have hD : va_D A [(o, .inr (8, [.ref q_1, .ref q_2, .ref q_3, .ref q_4, .ref q_5, .null, .null, .null, .null, .null, .null, .null, .int 0, .int 0, .int 0, .int 0])), (q_1, .inl (cJ, 24, .inr (.inl (fun _ => 0)))), (q_2, .inl (cI, 24, .inl (fun _ => 0))), (q_3, .inl (cI, 24, .inl (fun _ => 0))), (q_4, .inl (cI, 24, .inl (fun _ => 0))), (q_5, .inl (cI, 24, .inl (fun _ => 0))), (q_6, .inl (cI, 24, .inl (fun _ => 0)))] := hD
  refine va_putF (D := D) (ci := 8) (v := .ref q_6) (ty := .array .int) (C := RX8) (T := TX8) (N := 16) hx hb hts (by decide +kernel) tyX8 tyX8_ok nmX8 hown hK hP hD hS 0 rfl rfl 5 (by decide) (hts (.fieldLink RX8 28 "LastLetter$Tongue" "beforeLast" "[I") (by decide +kernel)) (fun _ h9 => h9) rfl hin rfl (by decide +kernel) rfl rfl (Nat.le_of_ble_eq_true rfl) dX8_init_49 (fun H locs hP hD hS => ?_)
  have hP : va_P D vwCl [(o, .inr (8, [.ref q_1, .ref q_2, .ref q_3, .ref q_4, .ref q_5, .ref q_6, .null, .null, .null, .null, .null, .null, .int 0, .int 0, .int 0, .int 0])), (q_1, .inl (cJ, 24, .inr (.inl (fun _ => 0)))), (q_2, .inl (cI, 24, .inl (fun _ => 0))), (q_3, .inl (cI, 24, .inl (fun _ => 0))), (q_4, .inl (cI, 24, .inl (fun _ => 0))), (q_5, .inl (cI, 24, .inl (fun _ => 0))), (q_6, .inl (cI, 24, .inl (fun _ => 0)))] H := hP
  have hD : va_D A [(o, .inr (8, [.ref q_1, .ref q_2, .ref q_3, .ref q_4, .ref q_5, .ref q_6, .null, .null, .null, .null, .null, .null, .int 0, .int 0, .int 0, .int 0])), (q_1, .inl (cJ, 24, .inr (.inl (fun _ => 0)))), (q_2, .inl (cI, 24, .inl (fun _ => 0))), (q_3, .inl (cI, 24, .inl (fun _ => 0))), (q_4, .inl (cI, 24, .inl (fun _ => 0))), (q_5, .inl (cI, 24, .inl (fun _ => 0))), (q_6, .inl (cI, 24, .inl (fun _ => 0)))] := hD
  refine lv_aload_n hx hb dX8_init_52 rfl (lv_at hl 0 rfl) ?_
  refine lv_bipush (v := 24) hx hb dX8_init_53 (by decide) ?_
  refine xnewa (atype := .int) (a0 := (24, .inl (fun _ => 0))) (ty := .int) hx hb (hts (.arrayClass .int) (by decide +kernel)) rfl hK 1 rfl hP hD hS hA (fun _ => rfl) (by decide) (by decide) (Nat.le_of_ble_eq_true rfl) (Nat.le_of_ble_eq_true rfl) (Nat.le_of_ble_eq_true rfl) dX8_init_55 (fun q_7 H hP hD hS => ?_)
  refine W.widen (k := 7) (n := 168) (Nat.le_of_ble_eq_true rfl) (Nat.le_of_ble_eq_true rfl) ?_
  have hP : va_P D vwCl [(o, .inr (8, [.ref q_1, .ref q_2, .ref q_3, .ref q_4, .ref q_5, .ref q_6, .null, .null, .null, .null, .null, .null, .int 0, .int 0, .int 0, .int 0])), (q_1, .inl (cJ, 24, .inr (.inl (fun _ => 0)))), (q_2, .inl (cI, 24, .inl (fun _ => 0))), (q_3, .inl (cI, 24, .inl (fun _ => 0))), (q_4, .inl (cI, 24, .inl (fun _ => 0))), (q_5, .inl (cI, 24, .inl (fun _ => 0))), (q_6, .inl (cI, 24, .inl (fun _ => 0))), (q_7, .inl (cI, 24, .inl (fun _ => 0)))] H := hP
  have hD : va_D A [(o, .inr (8, [.ref q_1, .ref q_2, .ref q_3, .ref q_4, .ref q_5, .ref q_6, .null, .null, .null, .null, .null, .null, .int 0, .int 0, .int 0, .int 0])), (q_1, .inl (cJ, 24, .inr (.inl (fun _ => 0)))), (q_2, .inl (cI, 24, .inl (fun _ => 0))), (q_3, .inl (cI, 24, .inl (fun _ => 0))), (q_4, .inl (cI, 24, .inl (fun _ => 0))), (q_5, .inl (cI, 24, .inl (fun _ => 0))), (q_6, .inl (cI, 24, .inl (fun _ => 0))), (q_7, .inl (cI, 24, .inl (fun _ => 0)))] := hD
  refine va_putF (D := D) (ci := 8) (v := .ref q_7) (ty := .array .int) (C := RX8) (T := TX8) (N := 16) hx hb hts (by decide +kernel) tyX8 tyX8_ok nmX8 hown hK hP hD hS 0 rfl rfl 6 (by decide) (hts (.fieldLink RX8 31 "LastLetter$Tongue" "last" "[I") (by decide +kernel)) (fun _ h9 => h9) rfl hin rfl (by decide +kernel) rfl rfl (Nat.le_of_ble_eq_true rfl) dX8_init_57 (fun H locs hP hD hS => ?_)
  have hP : va_P D vwCl [(o, .inr (8, [.ref q_1, .ref q_2, .ref q_3, .ref q_4, .ref q_5, .ref q_6, .ref q_7, .null, .null, .null, .null, .null, .int 0, .int 0, .int 0, .int 0])), (q_1, .inl (cJ, 24, .inr (.inl (fun _ => 0)))), (q_2, .inl (cI, 24, .inl (fun _ => 0))), (q_3, .inl (cI, 24, .inl (fun _ => 0))), (q_4, .inl (cI, 24, .inl (fun _ => 0))), (q_5, .inl (cI, 24, .inl (fun _ => 0))), (q_6, .inl (cI, 24, .inl (fun _ => 0))), (q_7, .inl (cI, 24, .inl (fun _ => 0)))] H := hP
  have hD : va_D A [(o, .inr (8, [.ref q_1, .ref q_2, .ref q_3, .ref q_4, .ref q_5, .ref q_6, .ref q_7, .null, .null, .null, .null, .null, .int 0, .int 0, .int 0, .int 0])), (q_1, .inl (cJ, 24, .inr (.inl (fun _ => 0)))), (q_2, .inl (cI, 24, .inl (fun _ => 0))), (q_3, .inl (cI, 24, .inl (fun _ => 0))), (q_4, .inl (cI, 24, .inl (fun _ => 0))), (q_5, .inl (cI, 24, .inl (fun _ => 0))), (q_6, .inl (cI, 24, .inl (fun _ => 0))), (q_7, .inl (cI, 24, .inl (fun _ => 0)))] := hD
  refine lv_aload_n hx hb dX8_init_60 rfl (lv_at hl 0 rfl) ?_
  refine lv_bipush (v := 24) hx hb dX8_init_61 (by decide) ?_
  refine xnewa (atype := .int) (a0 := (24, .inl (fun _ => 0))) (ty := .int) hx hb (hts (.arrayClass .int) (by decide +kernel)) rfl hK 1 rfl hP hD hS hA (fun _ => rfl) (by decide) (by decide) (Nat.le_of_ble_eq_true rfl) (Nat.le_of_ble_eq_true rfl) (Nat.le_of_ble_eq_true rfl) dX8_init_63 (fun q_8 H hP hD hS => ?_)
  refine W.widen (k := 8) (n := 192) (Nat.le_of_ble_eq_true rfl) (Nat.le_of_ble_eq_true rfl) ?_
  have hP : va_P D vwCl [(o, .inr (8, [.ref q_1, .ref q_2, .ref q_3, .ref q_4, .ref q_5, .ref q_6, .ref q_7, .null, .null, .null, .null, .null, .int 0, .int 0, .int 0, .int 0])), (q_1, .inl (cJ, 24, .inr (.inl (fun _ => 0)))), (q_2, .inl (cI, 24, .inl (fun _ => 0))), (q_3, .inl (cI, 24, .inl (fun _ => 0))), (q_4, .inl (cI, 24, .inl (fun _ => 0))), (q_5, .inl (cI, 24, .inl (fun _ => 0))), (q_6, .inl (cI, 24, .inl (fun _ => 0))), (q_7, .inl (cI, 24, .inl (fun _ => 0))), (q_8, .inl (cI, 24, .inl (fun _ => 0)))] H := hP
  have hD : va_D A [(o, .inr (8, [.ref q_1, .ref q_2, .ref q_3, .ref q_4, .ref q_5, .ref q_6, .ref q_7, .null, .null, .null, .null, .null, .int 0, .int 0, .int 0, .int 0])), (q_1, .inl (cJ, 24, .inr (.inl (fun _ => 0)))), (q_2, .inl (cI, 24, .inl (fun _ => 0))), (q_3, .inl (cI, 24, .inl (fun _ => 0))), (q_4, .inl (cI, 24, .inl (fun _ => 0))), (q_5, .inl (cI, 24, .inl (fun _ => 0))), (q_6, .inl (cI, 24, .inl (fun _ => 0))), (q_7, .inl (cI, 24, .inl (fun _ => 0))), (q_8, .inl (cI, 24, .inl (fun _ => 0)))] := hD
  refine va_putF (D := D) (ci := 8) (v := .ref q_8) (ty := .array .int) (C := RX8) (T := TX8) (N := 16) hx hb hts (by decide +kernel) tyX8 tyX8_ok nmX8 hown hK hP hD hS 0 rfl rfl 7 (by decide) (hts (.fieldLink RX8 34 "LastLetter$Tongue" "errandOf" "[I") (by decide +kernel)) (fun _ h9 => h9) rfl hin rfl (by decide +kernel) rfl rfl (Nat.le_of_ble_eq_true rfl) dX8_init_65 (fun H locs hP hD hS => ?_)
  have hP : va_P D vwCl [(o, .inr (8, [.ref q_1, .ref q_2, .ref q_3, .ref q_4, .ref q_5, .ref q_6, .ref q_7, .ref q_8, .null, .null, .null, .null, .int 0, .int 0, .int 0, .int 0])), (q_1, .inl (cJ, 24, .inr (.inl (fun _ => 0)))), (q_2, .inl (cI, 24, .inl (fun _ => 0))), (q_3, .inl (cI, 24, .inl (fun _ => 0))), (q_4, .inl (cI, 24, .inl (fun _ => 0))), (q_5, .inl (cI, 24, .inl (fun _ => 0))), (q_6, .inl (cI, 24, .inl (fun _ => 0))), (q_7, .inl (cI, 24, .inl (fun _ => 0))), (q_8, .inl (cI, 24, .inl (fun _ => 0)))] H := hP
  have hD : va_D A [(o, .inr (8, [.ref q_1, .ref q_2, .ref q_3, .ref q_4, .ref q_5, .ref q_6, .ref q_7, .ref q_8, .null, .null, .null, .null, .int 0, .int 0, .int 0, .int 0])), (q_1, .inl (cJ, 24, .inr (.inl (fun _ => 0)))), (q_2, .inl (cI, 24, .inl (fun _ => 0))), (q_3, .inl (cI, 24, .inl (fun _ => 0))), (q_4, .inl (cI, 24, .inl (fun _ => 0))), (q_5, .inl (cI, 24, .inl (fun _ => 0))), (q_6, .inl (cI, 24, .inl (fun _ => 0))), (q_7, .inl (cI, 24, .inl (fun _ => 0))), (q_8, .inl (cI, 24, .inl (fun _ => 0)))] := hD
  refine lv_aload_n hx hb dX8_init_68 rfl (lv_at hl 0 rfl) ?_
  refine lv_bipush (v := 6) hx hb dX8_init_69 (by decide) ?_
  refine xnewa (atype := .int) (a0 := (6, .inl (fun _ => 0))) (ty := .int) hx hb (hts (.arrayClass .int) (by decide +kernel)) rfl hK 1 rfl hP hD hS hA (fun _ => rfl) (by decide) (by decide) (Nat.le_of_ble_eq_true rfl) (Nat.le_of_ble_eq_true rfl) (Nat.le_of_ble_eq_true rfl) dX8_init_71 (fun q_9 H hP hD hS => ?_)
  refine W.widen (k := 9) (n := 198) (Nat.le_of_ble_eq_true rfl) (Nat.le_of_ble_eq_true rfl) ?_
  have hP : va_P D vwCl [(o, .inr (8, [.ref q_1, .ref q_2, .ref q_3, .ref q_4, .ref q_5, .ref q_6, .ref q_7, .ref q_8, .null, .null, .null, .null, .int 0, .int 0, .int 0, .int 0])), (q_1, .inl (cJ, 24, .inr (.inl (fun _ => 0)))), (q_2, .inl (cI, 24, .inl (fun _ => 0))), (q_3, .inl (cI, 24, .inl (fun _ => 0))), (q_4, .inl (cI, 24, .inl (fun _ => 0))), (q_5, .inl (cI, 24, .inl (fun _ => 0))), (q_6, .inl (cI, 24, .inl (fun _ => 0))), (q_7, .inl (cI, 24, .inl (fun _ => 0))), (q_8, .inl (cI, 24, .inl (fun _ => 0))), (q_9, .inl (cI, 6, .inl (fun _ => 0)))] H := hP
  have hD : va_D A [(o, .inr (8, [.ref q_1, .ref q_2, .ref q_3, .ref q_4, .ref q_5, .ref q_6, .ref q_7, .ref q_8, .null, .null, .null, .null, .int 0, .int 0, .int 0, .int 0])), (q_1, .inl (cJ, 24, .inr (.inl (fun _ => 0)))), (q_2, .inl (cI, 24, .inl (fun _ => 0))), (q_3, .inl (cI, 24, .inl (fun _ => 0))), (q_4, .inl (cI, 24, .inl (fun _ => 0))), (q_5, .inl (cI, 24, .inl (fun _ => 0))), (q_6, .inl (cI, 24, .inl (fun _ => 0))), (q_7, .inl (cI, 24, .inl (fun _ => 0))), (q_8, .inl (cI, 24, .inl (fun _ => 0))), (q_9, .inl (cI, 6, .inl (fun _ => 0)))] := hD
  refine va_putF (D := D) (ci := 8) (v := .ref q_9) (ty := .array .int) (C := RX8) (T := TX8) (N := 16) hx hb hts (by decide +kernel) tyX8 tyX8_ok nmX8 hown hK hP hD hS 0 rfl rfl 8 (by decide) (hts (.fieldLink RX8 37 "LastLetter$Tongue" "errandAfter" "[I") (by decide +kernel)) (fun _ h9 => h9) rfl hin rfl (by decide +kernel) rfl rfl (Nat.le_of_ble_eq_true rfl) dX8_init_73 (fun H locs hP hD hS => ?_)
  have hP : va_P D vwCl [(o, .inr (8, [.ref q_1, .ref q_2, .ref q_3, .ref q_4, .ref q_5, .ref q_6, .ref q_7, .ref q_8, .ref q_9, .null, .null, .null, .int 0, .int 0, .int 0, .int 0])), (q_1, .inl (cJ, 24, .inr (.inl (fun _ => 0)))), (q_2, .inl (cI, 24, .inl (fun _ => 0))), (q_3, .inl (cI, 24, .inl (fun _ => 0))), (q_4, .inl (cI, 24, .inl (fun _ => 0))), (q_5, .inl (cI, 24, .inl (fun _ => 0))), (q_6, .inl (cI, 24, .inl (fun _ => 0))), (q_7, .inl (cI, 24, .inl (fun _ => 0))), (q_8, .inl (cI, 24, .inl (fun _ => 0))), (q_9, .inl (cI, 6, .inl (fun _ => 0)))] H := hP
  have hD : va_D A [(o, .inr (8, [.ref q_1, .ref q_2, .ref q_3, .ref q_4, .ref q_5, .ref q_6, .ref q_7, .ref q_8, .ref q_9, .null, .null, .null, .int 0, .int 0, .int 0, .int 0])), (q_1, .inl (cJ, 24, .inr (.inl (fun _ => 0)))), (q_2, .inl (cI, 24, .inl (fun _ => 0))), (q_3, .inl (cI, 24, .inl (fun _ => 0))), (q_4, .inl (cI, 24, .inl (fun _ => 0))), (q_5, .inl (cI, 24, .inl (fun _ => 0))), (q_6, .inl (cI, 24, .inl (fun _ => 0))), (q_7, .inl (cI, 24, .inl (fun _ => 0))), (q_8, .inl (cI, 24, .inl (fun _ => 0))), (q_9, .inl (cI, 6, .inl (fun _ => 0)))] := hD
  refine lv_aload_n hx hb dX8_init_76 rfl (lv_at hl 0 rfl) ?_
  refine lv_bipush (v := 26) hx hb dX8_init_77 (by decide) ?_
  refine xnewa (atype := .int) (a0 := (26, .inl (fun _ => 0))) (ty := .int) hx hb (hts (.arrayClass .int) (by decide +kernel)) rfl hK 1 rfl hP hD hS hA (fun _ => rfl) (by decide) (by decide) (Nat.le_of_ble_eq_true rfl) (Nat.le_of_ble_eq_true rfl) (Nat.le_of_ble_eq_true rfl) dX8_init_79 (fun q_10 H hP hD hS => ?_)
  refine W.widen (k := 10) (n := 224) (Nat.le_of_ble_eq_true rfl) (Nat.le_of_ble_eq_true rfl) ?_
  have hP : va_P D vwCl [(o, .inr (8, [.ref q_1, .ref q_2, .ref q_3, .ref q_4, .ref q_5, .ref q_6, .ref q_7, .ref q_8, .ref q_9, .null, .null, .null, .int 0, .int 0, .int 0, .int 0])), (q_1, .inl (cJ, 24, .inr (.inl (fun _ => 0)))), (q_2, .inl (cI, 24, .inl (fun _ => 0))), (q_3, .inl (cI, 24, .inl (fun _ => 0))), (q_4, .inl (cI, 24, .inl (fun _ => 0))), (q_5, .inl (cI, 24, .inl (fun _ => 0))), (q_6, .inl (cI, 24, .inl (fun _ => 0))), (q_7, .inl (cI, 24, .inl (fun _ => 0))), (q_8, .inl (cI, 24, .inl (fun _ => 0))), (q_9, .inl (cI, 6, .inl (fun _ => 0))), (q_10, .inl (cI, 26, .inl (fun _ => 0)))] H := hP
  have hD : va_D A [(o, .inr (8, [.ref q_1, .ref q_2, .ref q_3, .ref q_4, .ref q_5, .ref q_6, .ref q_7, .ref q_8, .ref q_9, .null, .null, .null, .int 0, .int 0, .int 0, .int 0])), (q_1, .inl (cJ, 24, .inr (.inl (fun _ => 0)))), (q_2, .inl (cI, 24, .inl (fun _ => 0))), (q_3, .inl (cI, 24, .inl (fun _ => 0))), (q_4, .inl (cI, 24, .inl (fun _ => 0))), (q_5, .inl (cI, 24, .inl (fun _ => 0))), (q_6, .inl (cI, 24, .inl (fun _ => 0))), (q_7, .inl (cI, 24, .inl (fun _ => 0))), (q_8, .inl (cI, 24, .inl (fun _ => 0))), (q_9, .inl (cI, 6, .inl (fun _ => 0))), (q_10, .inl (cI, 26, .inl (fun _ => 0)))] := hD
  refine va_putF (D := D) (ci := 8) (v := .ref q_10) (ty := .array .int) (C := RX8) (T := TX8) (N := 16) hx hb hts (by decide +kernel) tyX8 tyX8_ok nmX8 hown hK hP hD hS 0 rfl rfl 9 (by decide) (hts (.fieldLink RX8 40 "LastLetter$Tongue" "sound" "[I") (by decide +kernel)) (fun _ h9 => h9) rfl hin rfl (by decide +kernel) rfl rfl (Nat.le_of_ble_eq_true rfl) dX8_init_81 (fun H locs hP hD hS => ?_)
  have hP : va_P D vwCl [(o, .inr (8, [.ref q_1, .ref q_2, .ref q_3, .ref q_4, .ref q_5, .ref q_6, .ref q_7, .ref q_8, .ref q_9, .ref q_10, .null, .null, .int 0, .int 0, .int 0, .int 0])), (q_1, .inl (cJ, 24, .inr (.inl (fun _ => 0)))), (q_2, .inl (cI, 24, .inl (fun _ => 0))), (q_3, .inl (cI, 24, .inl (fun _ => 0))), (q_4, .inl (cI, 24, .inl (fun _ => 0))), (q_5, .inl (cI, 24, .inl (fun _ => 0))), (q_6, .inl (cI, 24, .inl (fun _ => 0))), (q_7, .inl (cI, 24, .inl (fun _ => 0))), (q_8, .inl (cI, 24, .inl (fun _ => 0))), (q_9, .inl (cI, 6, .inl (fun _ => 0))), (q_10, .inl (cI, 26, .inl (fun _ => 0)))] H := hP
  have hD : va_D A [(o, .inr (8, [.ref q_1, .ref q_2, .ref q_3, .ref q_4, .ref q_5, .ref q_6, .ref q_7, .ref q_8, .ref q_9, .ref q_10, .null, .null, .int 0, .int 0, .int 0, .int 0])), (q_1, .inl (cJ, 24, .inr (.inl (fun _ => 0)))), (q_2, .inl (cI, 24, .inl (fun _ => 0))), (q_3, .inl (cI, 24, .inl (fun _ => 0))), (q_4, .inl (cI, 24, .inl (fun _ => 0))), (q_5, .inl (cI, 24, .inl (fun _ => 0))), (q_6, .inl (cI, 24, .inl (fun _ => 0))), (q_7, .inl (cI, 24, .inl (fun _ => 0))), (q_8, .inl (cI, 24, .inl (fun _ => 0))), (q_9, .inl (cI, 6, .inl (fun _ => 0))), (q_10, .inl (cI, 26, .inl (fun _ => 0)))] := hD
  refine lv_aload_n hx hb dX8_init_84 rfl (lv_at hl 0 rfl) ?_
  refine lv_bipush (v := 24) hx hb dX8_init_85 (by decide) ?_
  refine xnewa (atype := .int) (a0 := (24, .inl (fun _ => 0))) (ty := .int) hx hb (hts (.arrayClass .int) (by decide +kernel)) rfl hK 1 rfl hP hD hS hA (fun _ => rfl) (by decide) (by decide) (Nat.le_of_ble_eq_true rfl) (Nat.le_of_ble_eq_true rfl) (Nat.le_of_ble_eq_true rfl) dX8_init_87 (fun q_11 H hP hD hS => ?_)
  refine W.widen (k := 11) (n := 248) (Nat.le_of_ble_eq_true rfl) (Nat.le_of_ble_eq_true rfl) ?_
  have hP : va_P D vwCl [(o, .inr (8, [.ref q_1, .ref q_2, .ref q_3, .ref q_4, .ref q_5, .ref q_6, .ref q_7, .ref q_8, .ref q_9, .ref q_10, .null, .null, .int 0, .int 0, .int 0, .int 0])), (q_1, .inl (cJ, 24, .inr (.inl (fun _ => 0)))), (q_2, .inl (cI, 24, .inl (fun _ => 0))), (q_3, .inl (cI, 24, .inl (fun _ => 0))), (q_4, .inl (cI, 24, .inl (fun _ => 0))), (q_5, .inl (cI, 24, .inl (fun _ => 0))), (q_6, .inl (cI, 24, .inl (fun _ => 0))), (q_7, .inl (cI, 24, .inl (fun _ => 0))), (q_8, .inl (cI, 24, .inl (fun _ => 0))), (q_9, .inl (cI, 6, .inl (fun _ => 0))), (q_10, .inl (cI, 26, .inl (fun _ => 0))), (q_11, .inl (cI, 24, .inl (fun _ => 0)))] H := hP
  have hD : va_D A [(o, .inr (8, [.ref q_1, .ref q_2, .ref q_3, .ref q_4, .ref q_5, .ref q_6, .ref q_7, .ref q_8, .ref q_9, .ref q_10, .null, .null, .int 0, .int 0, .int 0, .int 0])), (q_1, .inl (cJ, 24, .inr (.inl (fun _ => 0)))), (q_2, .inl (cI, 24, .inl (fun _ => 0))), (q_3, .inl (cI, 24, .inl (fun _ => 0))), (q_4, .inl (cI, 24, .inl (fun _ => 0))), (q_5, .inl (cI, 24, .inl (fun _ => 0))), (q_6, .inl (cI, 24, .inl (fun _ => 0))), (q_7, .inl (cI, 24, .inl (fun _ => 0))), (q_8, .inl (cI, 24, .inl (fun _ => 0))), (q_9, .inl (cI, 6, .inl (fun _ => 0))), (q_10, .inl (cI, 26, .inl (fun _ => 0))), (q_11, .inl (cI, 24, .inl (fun _ => 0)))] := hD
  refine va_putF (D := D) (ci := 8) (v := .ref q_11) (ty := .array .int) (C := RX8) (T := TX8) (N := 16) hx hb hts (by decide +kernel) tyX8 tyX8_ok nmX8 hown hK hP hD hS 0 rfl rfl 10 (by decide) (hts (.fieldLink RX8 43 "LastLetter$Tongue" "followers" "[I") (by decide +kernel)) (fun _ h9 => h9) rfl hin rfl (by decide +kernel) rfl rfl (Nat.le_of_ble_eq_true rfl) dX8_init_89 (fun H locs hP hD hS => ?_)
  have hP : va_P D vwCl [(o, .inr (8, [.ref q_1, .ref q_2, .ref q_3, .ref q_4, .ref q_5, .ref q_6, .ref q_7, .ref q_8, .ref q_9, .ref q_10, .ref q_11, .null, .int 0, .int 0, .int 0, .int 0])), (q_1, .inl (cJ, 24, .inr (.inl (fun _ => 0)))), (q_2, .inl (cI, 24, .inl (fun _ => 0))), (q_3, .inl (cI, 24, .inl (fun _ => 0))), (q_4, .inl (cI, 24, .inl (fun _ => 0))), (q_5, .inl (cI, 24, .inl (fun _ => 0))), (q_6, .inl (cI, 24, .inl (fun _ => 0))), (q_7, .inl (cI, 24, .inl (fun _ => 0))), (q_8, .inl (cI, 24, .inl (fun _ => 0))), (q_9, .inl (cI, 6, .inl (fun _ => 0))), (q_10, .inl (cI, 26, .inl (fun _ => 0))), (q_11, .inl (cI, 24, .inl (fun _ => 0)))] H := hP
  have hD : va_D A [(o, .inr (8, [.ref q_1, .ref q_2, .ref q_3, .ref q_4, .ref q_5, .ref q_6, .ref q_7, .ref q_8, .ref q_9, .ref q_10, .ref q_11, .null, .int 0, .int 0, .int 0, .int 0])), (q_1, .inl (cJ, 24, .inr (.inl (fun _ => 0)))), (q_2, .inl (cI, 24, .inl (fun _ => 0))), (q_3, .inl (cI, 24, .inl (fun _ => 0))), (q_4, .inl (cI, 24, .inl (fun _ => 0))), (q_5, .inl (cI, 24, .inl (fun _ => 0))), (q_6, .inl (cI, 24, .inl (fun _ => 0))), (q_7, .inl (cI, 24, .inl (fun _ => 0))), (q_8, .inl (cI, 24, .inl (fun _ => 0))), (q_9, .inl (cI, 6, .inl (fun _ => 0))), (q_10, .inl (cI, 26, .inl (fun _ => 0))), (q_11, .inl (cI, 24, .inl (fun _ => 0)))] := hD
  refine lv_aload_n hx hb dX8_init_92 rfl (lv_at hl 0 rfl) ?_
  refine lv_bipush (v := 24) hx hb dX8_init_93 (by decide) ?_
  refine xnewa (atype := .int) (a0 := (24, .inl (fun _ => 0))) (ty := .int) hx hb (hts (.arrayClass .int) (by decide +kernel)) rfl hK 1 rfl hP hD hS hA (fun _ => rfl) (by decide) (by decide) (Nat.le_of_ble_eq_true rfl) (Nat.le_of_ble_eq_true rfl) (Nat.le_of_ble_eq_true rfl) dX8_init_95 (fun q_12 H hP hD hS => ?_)
  refine W.widen (k := 12) (n := 272) (Nat.le_of_ble_eq_true rfl) (Nat.le_of_ble_eq_true rfl) ?_
  have hP : va_P D vwCl [(o, .inr (8, [.ref q_1, .ref q_2, .ref q_3, .ref q_4, .ref q_5, .ref q_6, .ref q_7, .ref q_8, .ref q_9, .ref q_10, .ref q_11, .null, .int 0, .int 0, .int 0, .int 0])), (q_1, .inl (cJ, 24, .inr (.inl (fun _ => 0)))), (q_2, .inl (cI, 24, .inl (fun _ => 0))), (q_3, .inl (cI, 24, .inl (fun _ => 0))), (q_4, .inl (cI, 24, .inl (fun _ => 0))), (q_5, .inl (cI, 24, .inl (fun _ => 0))), (q_6, .inl (cI, 24, .inl (fun _ => 0))), (q_7, .inl (cI, 24, .inl (fun _ => 0))), (q_8, .inl (cI, 24, .inl (fun _ => 0))), (q_9, .inl (cI, 6, .inl (fun _ => 0))), (q_10, .inl (cI, 26, .inl (fun _ => 0))), (q_11, .inl (cI, 24, .inl (fun _ => 0))), (q_12, .inl (cI, 24, .inl (fun _ => 0)))] H := hP
  have hD : va_D A [(o, .inr (8, [.ref q_1, .ref q_2, .ref q_3, .ref q_4, .ref q_5, .ref q_6, .ref q_7, .ref q_8, .ref q_9, .ref q_10, .ref q_11, .null, .int 0, .int 0, .int 0, .int 0])), (q_1, .inl (cJ, 24, .inr (.inl (fun _ => 0)))), (q_2, .inl (cI, 24, .inl (fun _ => 0))), (q_3, .inl (cI, 24, .inl (fun _ => 0))), (q_4, .inl (cI, 24, .inl (fun _ => 0))), (q_5, .inl (cI, 24, .inl (fun _ => 0))), (q_6, .inl (cI, 24, .inl (fun _ => 0))), (q_7, .inl (cI, 24, .inl (fun _ => 0))), (q_8, .inl (cI, 24, .inl (fun _ => 0))), (q_9, .inl (cI, 6, .inl (fun _ => 0))), (q_10, .inl (cI, 26, .inl (fun _ => 0))), (q_11, .inl (cI, 24, .inl (fun _ => 0))), (q_12, .inl (cI, 24, .inl (fun _ => 0)))] := hD
  refine va_putF (D := D) (ci := 8) (v := .ref q_12) (ty := .array .int) (C := RX8) (T := TX8) (N := 16) hx hb hts (by decide +kernel) tyX8 tyX8_ok nmX8 hown hK hP hD hS 0 rfl rfl 11 (by decide) (hts (.fieldLink RX8 46 "LastLetter$Tongue" "leaders" "[I") (by decide +kernel)) (fun _ h9 => h9) rfl hin rfl (by decide +kernel) rfl rfl (Nat.le_of_ble_eq_true rfl) dX8_init_97 (fun H locs hP hD hS => ?_)
  have hP : va_P D vwCl [(o, .inr (8, [.ref q_1, .ref q_2, .ref q_3, .ref q_4, .ref q_5, .ref q_6, .ref q_7, .ref q_8, .ref q_9, .ref q_10, .ref q_11, .ref q_12, .int 0, .int 0, .int 0, .int 0])), (q_1, .inl (cJ, 24, .inr (.inl (fun _ => 0)))), (q_2, .inl (cI, 24, .inl (fun _ => 0))), (q_3, .inl (cI, 24, .inl (fun _ => 0))), (q_4, .inl (cI, 24, .inl (fun _ => 0))), (q_5, .inl (cI, 24, .inl (fun _ => 0))), (q_6, .inl (cI, 24, .inl (fun _ => 0))), (q_7, .inl (cI, 24, .inl (fun _ => 0))), (q_8, .inl (cI, 24, .inl (fun _ => 0))), (q_9, .inl (cI, 6, .inl (fun _ => 0))), (q_10, .inl (cI, 26, .inl (fun _ => 0))), (q_11, .inl (cI, 24, .inl (fun _ => 0))), (q_12, .inl (cI, 24, .inl (fun _ => 0)))] H := hP
  have hD : va_D A [(o, .inr (8, [.ref q_1, .ref q_2, .ref q_3, .ref q_4, .ref q_5, .ref q_6, .ref q_7, .ref q_8, .ref q_9, .ref q_10, .ref q_11, .ref q_12, .int 0, .int 0, .int 0, .int 0])), (q_1, .inl (cJ, 24, .inr (.inl (fun _ => 0)))), (q_2, .inl (cI, 24, .inl (fun _ => 0))), (q_3, .inl (cI, 24, .inl (fun _ => 0))), (q_4, .inl (cI, 24, .inl (fun _ => 0))), (q_5, .inl (cI, 24, .inl (fun _ => 0))), (q_6, .inl (cI, 24, .inl (fun _ => 0))), (q_7, .inl (cI, 24, .inl (fun _ => 0))), (q_8, .inl (cI, 24, .inl (fun _ => 0))), (q_9, .inl (cI, 6, .inl (fun _ => 0))), (q_10, .inl (cI, 26, .inl (fun _ => 0))), (q_11, .inl (cI, 24, .inl (fun _ => 0))), (q_12, .inl (cI, 24, .inl (fun _ => 0)))] := hD
  refine lv_aload_n hx hb dX8_init_100 rfl (lv_at hl 0 rfl) ?_
  refine xCv (wr := [(q_1, .inl (cJ, 24, .inr (.inl (fun _ => 0)))), (q_2, .inl (cI, 24, .inl (fun _ => 0))), (q_3, .inl (cI, 24, .inl (fun _ => 0))), (q_4, .inl (cI, 24, .inl (fun _ => 0))), (q_5, .inl (cI, 24, .inl (fun _ => 0))), (q_6, .inl (cI, 24, .inl (fun _ => 0))), (q_7, .inl (cI, 24, .inl (fun _ => 0))), (q_9, .inl (cI, 6, .inl (fun _ => 0))), (q_11, .inl (cI, 24, .inl (fun _ => 0))), (q_12, .inl (cI, 24, .inl (fun _ => 0)))]) (win := [(o, .inr (8, [.ref q_1, .ref q_2, .ref q_3, .ref q_4, .ref q_5, .ref q_6, .ref q_7, .ref q_8, .ref q_9, .ref q_10, .ref q_11, .ref q_12, .int 0, .int 0, .int 0, .int 0])), (q_8, .inl (cI, 24, .inl (fun _ => 0))), (q_10, .inl (cI, 26, .inl (fun _ => 0)))]) hP hD hS hA [0, 8, 10] [1, 2, 3, 4, 5, 6, 7, 9, 11, 12] rfl rfl (by decide) (by decide) (va_runV (As := []) (rest := []) ⟨hx, hb, hml, hown, hts⟩ (c_X8_clear l D cB cI cJ cS cZ cO H.size o q_1 q_2 q_3 q_4 q_5 q_6 q_7 q_8 q_9 q_10 q_11 q_12 0 0 0 0 (fun _ => 0) (fun _ => 0) ) (cwV 0 hts gX8_init_X8_clear rfl rfl rfl (by decide +kernel) ⟨Nat.le_of_ble_eq_true rfl, Nat.le_of_ble_eq_true rfl⟩) (xPreV (win := [(o, .inr (8, [.ref q_1, .ref q_2, .ref q_3, .ref q_4, .ref q_5, .ref q_6, .ref q_7, .ref q_8, .ref q_9, .ref q_10, .ref q_11, .ref q_12, .int 0, .int 0, .int 0, .int 0])), (q_8, .inl (cI, 24, .inl (fun _ => 0))), (q_10, .inl (cI, 26, .inl (fun _ => 0)))]) hN hK hP hD [0, 8, 10] (by decide) rfl 0 8 rfl rfl rfl) rfl rfl hl.1 rfl (lv_room (Nat.le_of_ble_eq_true rfl)) dX8_init_101 ⟨Nat.le_of_ble_eq_true rfl, Nat.le_of_ble_eq_true rfl⟩) (fun w0 H locs hw hP hD hS => ?_)
  obtain ⟨ge_13, gz_14, rfl⟩ := hw
  have hP : va_P D vwCl [(q_1, .inl (cJ, 24, .inr (.inl (fun _ => 0)))), (q_2, .inl (cI, 24, .inl (fun _ => 0))), (q_3, .inl (cI, 24, .inl (fun _ => 0))), (q_4, .inl (cI, 24, .inl (fun _ => 0))), (q_5, .inl (cI, 24, .inl (fun _ => 0))), (q_6, .inl (cI, 24, .inl (fun _ => 0))), (q_7, .inl (cI, 24, .inl (fun _ => 0))), (q_9, .inl (cI, 6, .inl (fun _ => 0))), (q_11, .inl (cI, 24, .inl (fun _ => 0))), (q_12, .inl (cI, 24, .inl (fun _ => 0))), (o, .inr (8, [.ref q_1, .ref q_2, .ref q_3, .ref q_4, .ref q_5, .ref q_6, .ref q_7, .ref q_8, .ref q_9, .ref q_10, .ref q_11, .ref q_12, .int 0, .int 0, .int 0, .int (-1)])), (q_8, .inl (cI, 24, .inl ge_13)), (q_10, .inl (cI, 26, .inl gz_14))] H := hP
  have hD : va_D A [(q_1, .inl (cJ, 24, .inr (.inl (fun _ => 0)))), (q_2, .inl (cI, 24, .inl (fun _ => 0))), (q_3, .inl (cI, 24, .inl (fun _ => 0))), (q_4, .inl (cI, 24, .inl (fun _ => 0))), (q_5, .inl (cI, 24, .inl (fun _ => 0))), (q_6, .inl (cI, 24, .inl (fun _ => 0))), (q_7, .inl (cI, 24, .inl (fun _ => 0))), (q_9, .inl (cI, 6, .inl (fun _ => 0))), (q_11, .inl (cI, 24, .inl (fun _ => 0))), (q_12, .inl (cI, 24, .inl (fun _ => 0))), (o, .inr (8, [.ref q_1, .ref q_2, .ref q_3, .ref q_4, .ref q_5, .ref q_6, .ref q_7, .ref q_8, .ref q_9, .ref q_10, .ref q_11, .ref q_12, .int 0, .int 0, .int 0, .int (-1)])), (q_8, .inl (cI, 24, .inl ge_13)), (q_10, .inl (cI, 26, .inl gz_14))] := hD
  have hP9 := hP.sub (ws' := [(o, .inr (8, [.ref q_1, .ref q_2, .ref q_3, .ref q_4, .ref q_5, .ref q_6, .ref q_7, .ref q_8, .ref q_9, .ref q_10, .ref q_11, .ref q_12, .int 0, .int 0, .int 0, .int (-1)])), (q_8, .inl (cI, 24, .inl ge_13)), (q_10, .inl (cI, 26, .inl gz_14)), (q_11, .inl (cI, 24, .inl (fun _ => 0))), (q_12, .inl (cI, 24, .inl (fun _ => 0)))]) [10, 11, 12, 8, 9] rfl
  have hD9 := hD.sub (ws' := [(o, .inr (8, [.ref q_1, .ref q_2, .ref q_3, .ref q_4, .ref q_5, .ref q_6, .ref q_7, .ref q_8, .ref q_9, .ref q_10, .ref q_11, .ref q_12, .int 0, .int 0, .int 0, .int (-1)])), (q_8, .inl (cI, 24, .inl ge_13)), (q_10, .inl (cI, 26, .inl gz_14)), (q_11, .inl (cI, 24, .inl (fun _ => 0))), (q_12, .inl (cI, 24, .inl (fun _ => 0)))]) [10, 11, 12, 8, 9] (by decide) rfl
  refine W.widen (k := 12) (n := 272) (Nat.le_of_ble_eq_true rfl) (Nat.le_of_ble_eq_true rfl) ?_
  exact W.vret hx hb hr (fun tz htz hWz => ⟨⟨[(o, .inr (8, [.ref q_1, .ref q_2, .ref q_3, .ref q_4, .ref q_5, .ref q_6, .ref q_7, .ref q_8, .ref q_9, .ref q_10, .ref q_11, .ref q_12, .int 0, .int 0, .int 0, .int (-1)])), (q_8, .inl (cI, 24, .inl ge_13)), (q_10, .inl (cI, 26, .inl gz_14)), (q_11, .inl (cI, 24, .inl (fun _ => 0))), (q_12, .inl (cI, 24, .inl (fun _ => 0)))], rfl, ⟨q_1, q_2, q_3, q_4, q_5, q_6, q_7, q_8, q_9, q_10, q_11, q_12, ge_13, gz_14, (fun _ => 0), (fun _ => 0), rfl⟩, by rw [htz]; exact hP9, va_K.moved hWz.alike hK, hD9⟩, hS.F htz⟩) hS.2.2 dX8_init_104
end

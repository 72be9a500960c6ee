section
-- ===== PART A: goes FIRST, ahead of the names: the tables' words, and 'selects' of the private methods out of them =====
/-- a private method of a class that the tables say can be made, by its rows of tables_1 -/
def lw_okq (q : MethodName × Nat) : Prop := (q.1.cls ≠ "java/lang/invoke/MethodHandle" ∧ q.1.cls ≠ "java/lang/invoke/VarHandle") ∧ Cond.instantiable q.1.cls q.2 ∈ tables_1 ∧ Cond.privateMethod q.1 ∈ tables_1 ∧ Cond.instanceMethod q.1 ∈ tables_1
theorem lw_p0 : lw_okq (⟨"StackedScript", "putBytes", "(I)V"⟩, 14) := ⟨⟨by decide +kernel, by decide +kernel⟩, List.mem_of_getElem? (i := 21) (by decide +kernel), List.mem_of_getElem? (i := 411) (by decide +kernel), List.mem_of_getElem? (i := 412) (by decide +kernel)⟩
theorem lw_p1 : lw_okq (⟨"StackedScript$Reader", "skipBlanks", "()V"⟩, 7) := ⟨⟨by decide +kernel, by decide +kernel⟩, List.mem_of_getElem? (i := 133) (by decide +kernel), List.mem_of_getElem? (i := 427) (by decide +kernel), List.mem_of_getElem? (i := 428) (by decide +kernel)⟩
theorem lw_p2 : lw_okq (⟨"StackedScript$Reader", "readLine", "()V"⟩, 7) := ⟨⟨by decide +kernel, by decide +kernel⟩, List.mem_of_getElem? (i := 133) (by decide +kernel), List.mem_of_getElem? (i := 431) (by decide +kernel), List.mem_of_getElem? (i := 432) (by decide +kernel)⟩
theorem lw_p3 : lw_okq (⟨"StackedScript$Reader", "skipLetters", "()I"⟩, 7) := ⟨⟨by decide +kernel, by decide +kernel⟩, List.mem_of_getElem? (i := 133) (by decide +kernel), List.mem_of_getElem? (i := 435) (by decide +kernel), List.mem_of_getElem? (i := 436) (by decide +kernel)⟩
theorem lw_p4 : lw_okq (⟨"StackedScript$Reader", "fail", "(II)V"⟩, 7) := ⟨⟨by decide +kernel, by decide +kernel⟩, List.mem_of_getElem? (i := 133) (by decide +kernel), List.mem_of_getElem? (i := 442) (by decide +kernel), List.mem_of_getElem? (i := 443) (by decide +kernel)⟩
theorem lw_p5 : lw_okq (⟨"StackedScript$Reader", "wordAt", "(II)I"⟩, 7) := ⟨⟨by decide +kernel, by decide +kernel⟩, List.mem_of_getElem? (i := 133) (by decide +kernel), List.mem_of_getElem? (i := 446) (by decide +kernel), List.mem_of_getElem? (i := 447) (by decide +kernel)⟩
theorem lw_p6 : lw_okq (⟨"StackedScript$Reader", "isWord", "(Ljava/lang/String;II)Z"⟩, 7) := ⟨⟨by decide +kernel, by decide +kernel⟩, List.mem_of_getElem? (i := 133) (by decide +kernel), List.mem_of_getElem? (i := 470) (by decide +kernel), List.mem_of_getElem? (i := 471) (by decide +kernel)⟩
theorem lw_p7 : lw_okq (⟨"StackedScript$Reader", "byteAt", "(I)I"⟩, 7) := ⟨⟨by decide +kernel, by decide +kernel⟩, List.mem_of_getElem? (i := 133) (by decide +kernel), List.mem_of_getElem? (i := 484) (by decide +kernel), List.mem_of_getElem? (i := 485) (by decide +kernel)⟩
theorem lw_p8 : lw_okq (⟨"StackedScript$Reader", "takeRow", "(III)Z"⟩, 7) := ⟨⟨by decide +kernel, by decide +kernel⟩, List.mem_of_getElem? (i := 133) (by decide +kernel), List.mem_of_getElem? (i := 526) (by decide +kernel), List.mem_of_getElem? (i := 527) (by decide +kernel)⟩
theorem lw_p9 : lw_okq (⟨"StackedScript$Reader", "takeRa", "(I)Z"⟩, 7) := ⟨⟨by decide +kernel, by decide +kernel⟩, List.mem_of_getElem? (i := 133) (by decide +kernel), List.mem_of_getElem? (i := 539) (by decide +kernel), List.mem_of_getElem? (i := 540) (by decide +kernel)⟩
theorem lw_p10 : lw_okq (⟨"StackedScript$Reader", "takeTraits", "(III)Z"⟩, 7) := ⟨⟨by decide +kernel, by decide +kernel⟩, List.mem_of_getElem? (i := 133) (by decide +kernel), List.mem_of_getElem? (i := 547) (by decide +kernel), List.mem_of_getElem? (i := 548) (by decide +kernel)⟩
theorem lw_p11 : lw_okq (⟨"StackedScript$Reader", "takePair", "(II)Z"⟩, 7) := ⟨⟨by decide +kernel, by decide +kernel⟩, List.mem_of_getElem? (i := 133) (by decide +kernel), List.mem_of_getElem? (i := 551) (by decide +kernel), List.mem_of_getElem? (i := 552) (by decide +kernel)⟩
theorem lw_p12 : lw_okq (⟨"StackedScript$Reader", "takeSplit", "(I)Z"⟩, 7) := ⟨⟨by decide +kernel, by decide +kernel⟩, List.mem_of_getElem? (i := 133) (by decide +kernel), List.mem_of_getElem? (i := 561) (by decide +kernel), List.mem_of_getElem? (i := 562) (by decide +kernel)⟩
theorem lw_p13 : lw_okq (⟨"StackedScript$Reader", "takeKind", "(III)Z"⟩, 7) := ⟨⟨by decide +kernel, by decide +kernel⟩, List.mem_of_getElem? (i := 133) (by decide +kernel), List.mem_of_getElem? (i := 568) (by decide +kernel), List.mem_of_getElem? (i := 569) (by decide +kernel)⟩
theorem lw_p14 : lw_okq (⟨"StackedScript", "emptyTape", "(II)V"⟩, 14) := ⟨⟨by decide +kernel, by decide +kernel⟩, List.mem_of_getElem? (i := 21) (by decide +kernel), List.mem_of_getElem? (i := 572) (by decide +kernel), List.mem_of_getElem? (i := 573) (by decide +kernel)⟩
theorem lw_p15 : lw_okq (⟨"StackedScript$History", "dropEldest", "()V"⟩, 2) := ⟨⟨by decide +kernel, by decide +kernel⟩, List.mem_of_getElem? (i := 100) (by decide +kernel), List.mem_of_getElem? (i := 580) (by decide +kernel), List.mem_of_getElem? (i := 581) (by decide +kernel)⟩
def lw_privs_1 : List (MethodName × Nat) := [(⟨"StackedScript", "putBytes", "(I)V"⟩, 14), (⟨"StackedScript$Reader", "skipBlanks", "()V"⟩, 7), (⟨"StackedScript$Reader", "readLine", "()V"⟩, 7), (⟨"StackedScript$Reader", "skipLetters", "()I"⟩, 7), (⟨"StackedScript$Reader", "fail", "(II)V"⟩, 7), (⟨"StackedScript$Reader", "wordAt", "(II)I"⟩, 7), (⟨"StackedScript$Reader", "isWord", "(Ljava/lang/String;II)Z"⟩, 7), (⟨"StackedScript$Reader", "byteAt", "(I)I"⟩, 7), (⟨"StackedScript$Reader", "takeRow", "(III)Z"⟩, 7), (⟨"StackedScript$Reader", "takeRa", "(I)Z"⟩, 7), (⟨"StackedScript$Reader", "takeTraits", "(III)Z"⟩, 7), (⟨"StackedScript$Reader", "takePair", "(II)Z"⟩, 7), (⟨"StackedScript$Reader", "takeSplit", "(I)Z"⟩, 7), (⟨"StackedScript$Reader", "takeKind", "(III)Z"⟩, 7), (⟨"StackedScript", "emptyTape", "(II)V"⟩, 14), (⟨"StackedScript$History", "dropEldest", "()V"⟩, 2)]
theorem lw_r1 : ∀ q ∈ lw_privs_1, lw_okq q := List.forall_mem_cons.mpr ⟨lw_p0, List.forall_mem_cons.mpr ⟨lw_p1, List.forall_mem_cons.mpr ⟨lw_p2, List.forall_mem_cons.mpr ⟨lw_p3, List.forall_mem_cons.mpr ⟨lw_p4, List.forall_mem_cons.mpr ⟨lw_p5, List.forall_mem_cons.mpr ⟨lw_p6, List.forall_mem_cons.mpr ⟨lw_p7, List.forall_mem_cons.mpr ⟨lw_p8, List.forall_mem_cons.mpr ⟨lw_p9, List.forall_mem_cons.mpr ⟨lw_p10, List.forall_mem_cons.mpr ⟨lw_p11, List.forall_mem_cons.mpr ⟨lw_p12, List.forall_mem_cons.mpr ⟨lw_p13, List.forall_mem_cons.mpr ⟨lw_p14, List.forall_mem_cons.mpr ⟨lw_p15, fun _ h => absurd h List.not_mem_nil⟩⟩⟩⟩⟩⟩⟩⟩⟩⟩⟩⟩⟩⟩⟩⟩
theorem lw_p16 : lw_okq (⟨"StackedScript", "settle", "()V"⟩, 14) := ⟨⟨by decide +kernel, by decide +kernel⟩, List.mem_of_getElem? (i := 21) (by decide +kernel), List.mem_of_getElem? (i := 597) (by decide +kernel), List.mem_of_getElem? (i := 598) (by decide +kernel)⟩
theorem lw_p17 : lw_okq (⟨"StackedScript$Anatomy", "readChain", "(LStackedScript$Cut;)V"⟩, 15) := ⟨⟨by decide +kernel, by decide +kernel⟩, List.mem_of_getElem? (i := 193) (by decide +kernel), List.mem_of_getElem? (i := 656) (by decide +kernel), List.mem_of_getElem? (i := 657) (by decide +kernel)⟩
theorem lw_p18 : lw_okq (⟨"StackedScript$Anatomy", "readBetween", "(LStackedScript$Cut;I)V"⟩, 15) := ⟨⟨by decide +kernel, by decide +kernel⟩, List.mem_of_getElem? (i := 193) (by decide +kernel), List.mem_of_getElem? (i := 664) (by decide +kernel), List.mem_of_getElem? (i := 665) (by decide +kernel)⟩
theorem lw_p19 : lw_okq (⟨"StackedScript$Anatomy", "hasReph", "(LStackedScript$State;)Z"⟩, 15) := ⟨⟨by decide +kernel, by decide +kernel⟩, List.mem_of_getElem? (i := 193) (by decide +kernel), List.mem_of_getElem? (i := 669) (by decide +kernel), List.mem_of_getElem? (i := 670) (by decide +kernel)⟩
theorem lw_p20 : lw_okq (⟨"StackedScript$Anatomy", "chosenBase", "(LStackedScript$State;)I"⟩, 15) := ⟨⟨by decide +kernel, by decide +kernel⟩, List.mem_of_getElem? (i := 193) (by decide +kernel), List.mem_of_getElem? (i := 674) (by decide +kernel), List.mem_of_getElem? (i := 675) (by decide +kernel)⟩
theorem lw_p21 : lw_okq (⟨"StackedScript$Anatomy", "joinPairs", "(LStackedScript$State;)V"⟩, 15) := ⟨⟨by decide +kernel, by decide +kernel⟩, List.mem_of_getElem? (i := 193) (by decide +kernel), List.mem_of_getElem? (i := 679) (by decide +kernel), List.mem_of_getElem? (i := 680) (by decide +kernel)⟩
theorem lw_p22 : lw_okq (⟨"StackedScript$Drawing", "drawSigns", "(II)V"⟩, 9) := ⟨⟨by decide +kernel, by decide +kernel⟩, List.mem_of_getElem? (i := 264) (by decide +kernel), List.mem_of_getElem? (i := 697) (by decide +kernel), List.mem_of_getElem? (i := 698) (by decide +kernel)⟩
theorem lw_p23 : lw_okq (⟨"StackedScript$Drawing", "putLetter", "(III)I"⟩, 9) := ⟨⟨by decide +kernel, by decide +kernel⟩, List.mem_of_getElem? (i := 264) (by decide +kernel), List.mem_of_getElem? (i := 702) (by decide +kernel), List.mem_of_getElem? (i := 703) (by decide +kernel)⟩
theorem lw_p24 : lw_okq (⟨"StackedScript$Drawing", "put", "(IIIII)I"⟩, 9) := ⟨⟨by decide +kernel, by decide +kernel⟩, List.mem_of_getElem? (i := 264) (by decide +kernel), List.mem_of_getElem? (i := 707) (by decide +kernel), List.mem_of_getElem? (i := 708) (by decide +kernel)⟩
theorem lw_p25 : lw_okq (⟨"StackedScript$Drawing", "showBy", "(II)V"⟩, 9) := ⟨⟨by decide +kernel, by decide +kernel⟩, List.mem_of_getElem? (i := 264) (by decide +kernel), List.mem_of_getElem? (i := 711) (by decide +kernel), List.mem_of_getElem? (i := 712) (by decide +kernel)⟩
theorem lw_p26 : lw_okq (⟨"StackedScript$Drawing", "drawPart", "(IIII)V"⟩, 9) := ⟨⟨by decide +kernel, by decide +kernel⟩, List.mem_of_getElem? (i := 264) (by decide +kernel), List.mem_of_getElem? (i := 715) (by decide +kernel), List.mem_of_getElem? (i := 716) (by decide +kernel)⟩
theorem lw_p27 : lw_okq (⟨"StackedScript$Drawing", "drawAhead", "()V"⟩, 9) := ⟨⟨by decide +kernel, by decide +kernel⟩, List.mem_of_getElem? (i := 264) (by decide +kernel), List.mem_of_getElem? (i := 725) (by decide +kernel), List.mem_of_getElem? (i := 726) (by decide +kernel)⟩
theorem lw_p28 : lw_okq (⟨"StackedScript$Drawing", "isHalf", "(I)Z"⟩, 9) := ⟨⟨by decide +kernel, by decide +kernel⟩, List.mem_of_getElem? (i := 264) (by decide +kernel), List.mem_of_getElem? (i := 729) (by decide +kernel), List.mem_of_getElem? (i := 730) (by decide +kernel)⟩
theorem lw_p29 : lw_okq (⟨"StackedScript$Drawing", "drawConsonants", "(IIZI)I"⟩, 9) := ⟨⟨by decide +kernel, by decide +kernel⟩, List.mem_of_getElem? (i := 264) (by decide +kernel), List.mem_of_getElem? (i := 734) (by decide +kernel), List.mem_of_getElem? (i := 735) (by decide +kernel)⟩
theorem lw_p30 : lw_okq (⟨"StackedScript$Drawing", "drawMiddle", "()V"⟩, 9) := ⟨⟨by decide +kernel, by decide +kernel⟩, List.mem_of_getElem? (i := 264) (by decide +kernel), List.mem_of_getElem? (i := 738) (by decide +kernel), List.mem_of_getElem? (i := 739) (by decide +kernel)⟩
theorem lw_p31 : lw_okq (⟨"StackedScript$Drawing", "drawStacked", "()V"⟩, 9) := ⟨⟨by decide +kernel, by decide +kernel⟩, List.mem_of_getElem? (i := 264) (by decide +kernel), List.mem_of_getElem? (i := 743) (by decide +kernel), List.mem_of_getElem? (i := 744) (by decide +kernel)⟩
def lw_privs_2 : List (MethodName × Nat) := [(⟨"StackedScript", "settle", "()V"⟩, 14), (⟨"StackedScript$Anatomy", "readChain", "(LStackedScript$Cut;)V"⟩, 15), (⟨"StackedScript$Anatomy", "readBetween", "(LStackedScript$Cut;I)V"⟩, 15), (⟨"StackedScript$Anatomy", "hasReph", "(LStackedScript$State;)Z"⟩, 15), (⟨"StackedScript$Anatomy", "chosenBase", "(LStackedScript$State;)I"⟩, 15), (⟨"StackedScript$Anatomy", "joinPairs", "(LStackedScript$State;)V"⟩, 15), (⟨"StackedScript$Drawing", "drawSigns", "(II)V"⟩, 9), (⟨"StackedScript$Drawing", "putLetter", "(III)I"⟩, 9), (⟨"StackedScript$Drawing", "put", "(IIIII)I"⟩, 9), (⟨"StackedScript$Drawing", "showBy", "(II)V"⟩, 9), (⟨"StackedScript$Drawing", "drawPart", "(IIII)V"⟩, 9), (⟨"StackedScript$Drawing", "drawAhead", "()V"⟩, 9), (⟨"StackedScript$Drawing", "isHalf", "(I)Z"⟩, 9), (⟨"StackedScript$Drawing", "drawConsonants", "(IIZI)I"⟩, 9), (⟨"StackedScript$Drawing", "drawMiddle", "()V"⟩, 9), (⟨"StackedScript$Drawing", "drawStacked", "()V"⟩, 9)]
theorem lw_r2 : ∀ q ∈ lw_privs_2, lw_okq q := List.forall_mem_cons.mpr ⟨lw_p16, List.forall_mem_cons.mpr ⟨lw_p17, List.forall_mem_cons.mpr ⟨lw_p18, List.forall_mem_cons.mpr ⟨lw_p19, List.forall_mem_cons.mpr ⟨lw_p20, List.forall_mem_cons.mpr ⟨lw_p21, List.forall_mem_cons.mpr ⟨lw_p22, List.forall_mem_cons.mpr ⟨lw_p23, List.forall_mem_cons.mpr ⟨lw_p24, List.forall_mem_cons.mpr ⟨lw_p25, List.forall_mem_cons.mpr ⟨lw_p26, List.forall_mem_cons.mpr ⟨lw_p27, List.forall_mem_cons.mpr ⟨lw_p28, List.forall_mem_cons.mpr ⟨lw_p29, List.forall_mem_cons.mpr ⟨lw_p30, List.forall_mem_cons.mpr ⟨lw_p31, fun _ h => absurd h List.not_mem_nil⟩⟩⟩⟩⟩⟩⟩⟩⟩⟩⟩⟩⟩⟩⟩⟩
theorem lw_p32 : lw_okq (⟨"StackedScript$Drawing", "drawDead", "()V"⟩, 9) := ⟨⟨by decide +kernel, by decide +kernel⟩, List.mem_of_getElem? (i := 264) (by decide +kernel), List.mem_of_getElem? (i := 747) (by decide +kernel), List.mem_of_getElem? (i := 748) (by decide +kernel)⟩
theorem lw_p33 : lw_okq (⟨"StackedScript$Drawing", "drawReph", "()V"⟩, 9) := ⟨⟨by decide +kernel, by decide +kernel⟩, List.mem_of_getElem? (i := 264) (by decide +kernel), List.mem_of_getElem? (i := 751) (by decide +kernel), List.mem_of_getElem? (i := 752) (by decide +kernel)⟩
theorem lw_p34 : lw_okq (⟨"StackedScript$Drawing", "drawMarks", "(II)V"⟩, 9) := ⟨⟨by decide +kernel, by decide +kernel⟩, List.mem_of_getElem? (i := 264) (by decide +kernel), List.mem_of_getElem? (i := 755) (by decide +kernel), List.mem_of_getElem? (i := 756) (by decide +kernel)⟩
theorem lw_p35 : lw_okq (⟨"StackedScript$Drawing", "measure", "(I)V"⟩, 9) := ⟨⟨by decide +kernel, by decide +kernel⟩, List.mem_of_getElem? (i := 264) (by decide +kernel), List.mem_of_getElem? (i := 759) (by decide +kernel), List.mem_of_getElem? (i := 760) (by decide +kernel)⟩
theorem lw_p36 : lw_okq (⟨"StackedScript$ReadBack", "put", "(I)V"⟩, 4) := ⟨⟨by decide +kernel, by decide +kernel⟩, List.mem_of_getElem? (i := 303) (by decide +kernel), List.mem_of_getElem? (i := 776) (by decide +kernel), List.mem_of_getElem? (i := 777) (by decide +kernel)⟩
theorem lw_p37 : lw_okq (⟨"StackedScript$ReadBack", "readSigns", "(III)V"⟩, 4) := ⟨⟨by decide +kernel, by decide +kernel⟩, List.mem_of_getElem? (i := 303) (by decide +kernel), List.mem_of_getElem? (i := 780) (by decide +kernel), List.mem_of_getElem? (i := 781) (by decide +kernel)⟩
theorem lw_p38 : lw_okq (⟨"StackedScript$ReadBack", "readPart", "(II)V"⟩, 4) := ⟨⟨by decide +kernel, by decide +kernel⟩, List.mem_of_getElem? (i := 303) (by decide +kernel), List.mem_of_getElem? (i := 785) (by decide +kernel), List.mem_of_getElem? (i := 786) (by decide +kernel)⟩
theorem lw_p39 : lw_okq (⟨"StackedScript$ReadBack", "readKind", "(III)V"⟩, 4) := ⟨⟨by decide +kernel, by decide +kernel⟩, List.mem_of_getElem? (i := 303) (by decide +kernel), List.mem_of_getElem? (i := 790) (by decide +kernel), List.mem_of_getElem? (i := 791) (by decide +kernel)⟩
theorem lw_p40 : lw_okq (⟨"StackedScript", "firstNoLetter", "(I)I"⟩, 14) := ⟨⟨by decide +kernel, by decide +kernel⟩, List.mem_of_getElem? (i := 21) (by decide +kernel), List.mem_of_getElem? (i := 803) (by decide +kernel), List.mem_of_getElem? (i := 804) (by decide +kernel)⟩
theorem lw_p41 : lw_okq (⟨"StackedScript$Mender", "fewestWith", "(III)I"⟩, 3) := ⟨⟨by decide +kernel, by decide +kernel⟩, List.mem_of_getElem? (i := 345) (by decide +kernel), List.mem_of_getElem? (i := 922) (by decide +kernel), List.mem_of_getElem? (i := 923) (by decide +kernel)⟩
theorem lw_p42 : lw_okq (⟨"StackedScript$Wrap", "fits", "([III)Z"⟩, 4) := ⟨⟨by decide +kernel, by decide +kernel⟩, List.mem_of_getElem? (i := 324) (by decide +kernel), List.mem_of_getElem? (i := 1006) (by decide +kernel), List.mem_of_getElem? (i := 1007) (by decide +kernel)⟩
theorem lw_p43 : lw_okq (⟨"StackedScript$Wrap", "endLine", "(I)V"⟩, 4) := ⟨⟨by decide +kernel, by decide +kernel⟩, List.mem_of_getElem? (i := 324) (by decide +kernel), List.mem_of_getElem? (i := 1010) (by decide +kernel), List.mem_of_getElem? (i := 1011) (by decide +kernel)⟩
theorem lw_p44 : lw_okq (⟨"StackedScript$Wrap", "chooseBreak", "([IIII)V"⟩, 4) := ⟨⟨by decide +kernel, by decide +kernel⟩, List.mem_of_getElem? (i := 324) (by decide +kernel), List.mem_of_getElem? (i := 1026) (by decide +kernel), List.mem_of_getElem? (i := 1027) (by decide +kernel)⟩
theorem lw_p45 : lw_okq (⟨"StackedScript", "standsAt", "(II)Z"⟩, 14) := ⟨⟨by decide +kernel, by decide +kernel⟩, List.mem_of_getElem? (i := 21) (by decide +kernel), List.mem_of_getElem? (i := 1042) (by decide +kernel), List.mem_of_getElem? (i := 1043) (by decide +kernel)⟩
theorem lw_p46 : lw_okq (⟨"StackedScript$Drawing", "baseGlyph", "(I)I"⟩, 9) := ⟨⟨by decide +kernel, by decide +kernel⟩, List.mem_of_getElem? (i := 264) (by decide +kernel), List.mem_of_getElem? (i := 1054) (by decide +kernel), List.mem_of_getElem? (i := 1055) (by decide +kernel)⟩
theorem lw_p47 : lw_okq (⟨"StackedScript$Drawing", "glyphsInOrder", "(II)I"⟩, 9) := ⟨⟨by decide +kernel, by decide +kernel⟩, List.mem_of_getElem? (i := 264) (by decide +kernel), List.mem_of_getElem? (i := 1058) (by decide +kernel), List.mem_of_getElem? (i := 1059) (by decide +kernel)⟩
def lw_privs_3 : List (MethodName × Nat) := [(⟨"StackedScript$Drawing", "drawDead", "()V"⟩, 9), (⟨"StackedScript$Drawing", "drawReph", "()V"⟩, 9), (⟨"StackedScript$Drawing", "drawMarks", "(II)V"⟩, 9), (⟨"StackedScript$Drawing", "measure", "(I)V"⟩, 9), (⟨"StackedScript$ReadBack", "put", "(I)V"⟩, 4), (⟨"StackedScript$ReadBack", "readSigns", "(III)V"⟩, 4), (⟨"StackedScript$ReadBack", "readPart", "(II)V"⟩, 4), (⟨"StackedScript$ReadBack", "readKind", "(III)V"⟩, 4), (⟨"StackedScript", "firstNoLetter", "(I)I"⟩, 14), (⟨"StackedScript$Mender", "fewestWith", "(III)I"⟩, 3), (⟨"StackedScript$Wrap", "fits", "([III)Z"⟩, 4), (⟨"StackedScript$Wrap", "endLine", "(I)V"⟩, 4), (⟨"StackedScript$Wrap", "chooseBreak", "([IIII)V"⟩, 4), (⟨"StackedScript", "standsAt", "(II)Z"⟩, 14), (⟨"StackedScript$Drawing", "baseGlyph", "(I)I"⟩, 9), (⟨"StackedScript$Drawing", "glyphsInOrder", "(II)I"⟩, 9)]
theorem lw_r3 : ∀ q ∈ lw_privs_3, lw_okq q := List.forall_mem_cons.mpr ⟨lw_p32, List.forall_mem_cons.mpr ⟨lw_p33, List.forall_mem_cons.mpr ⟨lw_p34, List.forall_mem_cons.mpr ⟨lw_p35, List.forall_mem_cons.mpr ⟨lw_p36, List.forall_mem_cons.mpr ⟨lw_p37, List.forall_mem_cons.mpr ⟨lw_p38, List.forall_mem_cons.mpr ⟨lw_p39, List.forall_mem_cons.mpr ⟨lw_p40, List.forall_mem_cons.mpr ⟨lw_p41, List.forall_mem_cons.mpr ⟨lw_p42, List.forall_mem_cons.mpr ⟨lw_p43, List.forall_mem_cons.mpr ⟨lw_p44, List.forall_mem_cons.mpr ⟨lw_p45, List.forall_mem_cons.mpr ⟨lw_p46, List.forall_mem_cons.mpr ⟨lw_p47, fun _ h => absurd h List.not_mem_nil⟩⟩⟩⟩⟩⟩⟩⟩⟩⟩⟩⟩⟩⟩⟩⟩
theorem lw_p48 : lw_okq (⟨"StackedScript$Drawing", "orderedFirst", "(I)I"⟩, 9) := ⟨⟨by decide +kernel, by decide +kernel⟩, List.mem_of_getElem? (i := 264) (by decide +kernel), List.mem_of_getElem? (i := 1062) (by decide +kernel), List.mem_of_getElem? (i := 1063) (by decide +kernel)⟩
theorem lw_p49 : lw_okq (⟨"StackedScript", "clustersAheadOf", "(I)I"⟩, 14) := ⟨⟨by decide +kernel, by decide +kernel⟩, List.mem_of_getElem? (i := 21) (by decide +kernel), List.mem_of_getElem? (i := 1080) (by decide +kernel), List.mem_of_getElem? (i := 1081) (by decide +kernel)⟩
theorem lw_p50 : lw_okq (⟨"StackedScriptModel", "opensTape", "(I)I"⟩, 51) := ⟨⟨by decide +kernel, by decide +kernel⟩, List.mem_of_getElem? (i := 1126) (by decide +kernel), List.mem_of_getElem? (i := 1297) (by decide +kernel), List.mem_of_getElem? (i := 1298) (by decide +kernel)⟩
theorem lw_p51 : lw_okq (⟨"StackedScriptModel", "blanks", "()V"⟩, 51) := ⟨⟨by decide +kernel, by decide +kernel⟩, List.mem_of_getElem? (i := 1126) (by decide +kernel), List.mem_of_getElem? (i := 1304) (by decide +kernel), List.mem_of_getElem? (i := 1305) (by decide +kernel)⟩
theorem lw_p52 : lw_okq (⟨"StackedScriptModel", "see", "()I"⟩, 51) := ⟨⟨by decide +kernel, by decide +kernel⟩, List.mem_of_getElem? (i := 1126) (by decide +kernel), List.mem_of_getElem? (i := 1308) (by decide +kernel), List.mem_of_getElem? (i := 1309) (by decide +kernel)⟩
theorem lw_p53 : lw_okq (⟨"StackedScriptModel", "line", "()V"⟩, 51) := ⟨⟨by decide +kernel, by decide +kernel⟩, List.mem_of_getElem? (i := 1126) (by decide +kernel), List.mem_of_getElem? (i := 1312) (by decide +kernel), List.mem_of_getElem? (i := 1313) (by decide +kernel)⟩
theorem lw_p54 : lw_okq (⟨"StackedScriptModel", "goesBy", "()I"⟩, 51) := ⟨⟨by decide +kernel, by decide +kernel⟩, List.mem_of_getElem? (i := 1126) (by decide +kernel), List.mem_of_getElem? (i := 1316) (by decide +kernel), List.mem_of_getElem? (i := 1317) (by decide +kernel)⟩
theorem lw_p55 : lw_okq (⟨"StackedScriptModel", "fails", "(II)V"⟩, 51) := ⟨⟨by decide +kernel, by decide +kernel⟩, List.mem_of_getElem? (i := 1126) (by decide +kernel), List.mem_of_getElem? (i := 1322) (by decide +kernel), List.mem_of_getElem? (i := 1323) (by decide +kernel)⟩
theorem lw_p56 : lw_okq (⟨"StackedScriptModel", "wordFrom", "(I)I"⟩, 51) := ⟨⟨by decide +kernel, by decide +kernel⟩, List.mem_of_getElem? (i := 1126) (by decide +kernel), List.mem_of_getElem? (i := 1326) (by decide +kernel), List.mem_of_getElem? (i := 1327) (by decide +kernel)⟩
theorem lw_p57 : lw_okq (⟨"StackedScriptModel", "isTold", "(III)Z"⟩, 51) := ⟨⟨by decide +kernel, by decide +kernel⟩, List.mem_of_getElem? (i := 1126) (by decide +kernel), List.mem_of_getElem? (i := 1330) (by decide +kernel), List.mem_of_getElem? (i := 1331) (by decide +kernel)⟩
theorem lw_p58 : lw_okq (⟨"StackedScriptModel", "isSplit", "(II)Z"⟩, 51) := ⟨⟨by decide +kernel, by decide +kernel⟩, List.mem_of_getElem? (i := 1126) (by decide +kernel), List.mem_of_getElem? (i := 1337) (by decide +kernel), List.mem_of_getElem? (i := 1338) (by decide +kernel)⟩
theorem lw_p59 : lw_okq (⟨"StackedScriptModel", "rowLetter", "(II)I"⟩, 51) := ⟨⟨by decide +kernel, by decide +kernel⟩, List.mem_of_getElem? (i := 1126) (by decide +kernel), List.mem_of_getElem? (i := 1341) (by decide +kernel), List.mem_of_getElem? (i := 1342) (by decide +kernel)⟩
theorem lw_p60 : lw_okq (⟨"StackedScriptModel", "isPair", "(II)Z"⟩, 51) := ⟨⟨by decide +kernel, by decide +kernel⟩, List.mem_of_getElem? (i := 1126) (by decide +kernel), List.mem_of_getElem? (i := 1347) (by decide +kernel), List.mem_of_getElem? (i := 1348) (by decide +kernel)⟩
theorem lw_p61 : lw_okq (⟨"StackedScriptModel", "areMeant", "(III)Z"⟩, 51) := ⟨⟨by decide +kernel, by decide +kernel⟩, List.mem_of_getElem? (i := 1126) (by decide +kernel), List.mem_of_getElem? (i := 1354) (by decide +kernel), List.mem_of_getElem? (i := 1355) (by decide +kernel)⟩
theorem lw_p62 : lw_okq (⟨"StackedScriptModel", "notes", "()V"⟩, 51) := ⟨⟨by decide +kernel, by decide +kernel⟩, List.mem_of_getElem? (i := 1126) (by decide +kernel), List.mem_of_getElem? (i := 1358) (by decide +kernel), List.mem_of_getElem? (i := 1359) (by decide +kernel)⟩
theorem lw_p63 : lw_okq (⟨"StackedScriptModel", "many", "()I"⟩, 51) := ⟨⟨by decide +kernel, by decide +kernel⟩, List.mem_of_getElem? (i := 1126) (by decide +kernel), List.mem_of_getElem? (i := 1365) (by decide +kernel), List.mem_of_getElem? (i := 1366) (by decide +kernel)⟩
def lw_privs_4 : List (MethodName × Nat) := [(⟨"StackedScript$Drawing", "orderedFirst", "(I)I"⟩, 9), (⟨"StackedScript", "clustersAheadOf", "(I)I"⟩, 14), (⟨"StackedScriptModel", "opensTape", "(I)I"⟩, 51), (⟨"StackedScriptModel", "blanks", "()V"⟩, 51), (⟨"StackedScriptModel", "see", "()I"⟩, 51), (⟨"StackedScriptModel", "line", "()V"⟩, 51), (⟨"StackedScriptModel", "goesBy", "()I"⟩, 51), (⟨"StackedScriptModel", "fails", "(II)V"⟩, 51), (⟨"StackedScriptModel", "wordFrom", "(I)I"⟩, 51), (⟨"StackedScriptModel", "isTold", "(III)Z"⟩, 51), (⟨"StackedScriptModel", "isSplit", "(II)Z"⟩, 51), (⟨"StackedScriptModel", "rowLetter", "(II)I"⟩, 51), (⟨"StackedScriptModel", "isPair", "(II)Z"⟩, 51), (⟨"StackedScriptModel", "areMeant", "(III)Z"⟩, 51), (⟨"StackedScriptModel", "notes", "()V"⟩, 51), (⟨"StackedScriptModel", "many", "()I"⟩, 51)]
theorem lw_r4 : ∀ q ∈ lw_privs_4, lw_okq q := List.forall_mem_cons.mpr ⟨lw_p48, List.forall_mem_cons.mpr ⟨lw_p49, List.forall_mem_cons.mpr ⟨lw_p50, List.forall_mem_cons.mpr ⟨lw_p51, List.forall_mem_cons.mpr ⟨lw_p52, List.forall_mem_cons.mpr ⟨lw_p53, List.forall_mem_cons.mpr ⟨lw_p54, List.forall_mem_cons.mpr ⟨lw_p55, List.forall_mem_cons.mpr ⟨lw_p56, List.forall_mem_cons.mpr ⟨lw_p57, List.forall_mem_cons.mpr ⟨lw_p58, List.forall_mem_cons.mpr ⟨lw_p59, List.forall_mem_cons.mpr ⟨lw_p60, List.forall_mem_cons.mpr ⟨lw_p61, List.forall_mem_cons.mpr ⟨lw_p62, List.forall_mem_cons.mpr ⟨lw_p63, fun _ h => absurd h List.not_mem_nil⟩⟩⟩⟩⟩⟩⟩⟩⟩⟩⟩⟩⟩⟩⟩⟩
theorem lw_p64 : lw_okq (⟨"StackedScriptModel", "lettersWithKind", "([I)I"⟩, 51) := ⟨⟨by decide +kernel, by decide +kernel⟩, List.mem_of_getElem? (i := 1126) (by decide +kernel), List.mem_of_getElem? (i := 1369) (by decide +kernel), List.mem_of_getElem? (i := 1370) (by decide +kernel)⟩
theorem lw_p65 : lw_okq (⟨"StackedScriptModel", "letterAt", "(I)I"⟩, 51) := ⟨⟨by decide +kernel, by decide +kernel⟩, List.mem_of_getElem? (i := 1126) (by decide +kernel), List.mem_of_getElem? (i := 1393) (by decide +kernel), List.mem_of_getElem? (i := 1394) (by decide +kernel)⟩
theorem lw_p66 : lw_okq (⟨"StackedScriptModel", "goes", "(II)V"⟩, 51) := ⟨⟨by decide +kernel, by decide +kernel⟩, List.mem_of_getElem? (i := 1126) (by decide +kernel), List.mem_of_getElem? (i := 1397) (by decide +kernel), List.mem_of_getElem? (i := 1398) (by decide +kernel)⟩
theorem lw_p67 : lw_okq (⟨"StackedScriptModel", "clusterFrom", "(I)I"⟩, 51) := ⟨⟨by decide +kernel, by decide +kernel⟩, List.mem_of_getElem? (i := 1126) (by decide +kernel), List.mem_of_getElem? (i := 1405) (by decide +kernel), List.mem_of_getElem? (i := 1406) (by decide +kernel)⟩
theorem lw_p68 : lw_okq (⟨"StackedScriptModel", "laysAll", "()V"⟩, 51) := ⟨⟨by decide +kernel, by decide +kernel⟩, List.mem_of_getElem? (i := 1126) (by decide +kernel), List.mem_of_getElem? (i := 1409) (by decide +kernel), List.mem_of_getElem? (i := 1410) (by decide +kernel)⟩
theorem lw_p69 : lw_okq (⟨"StackedScriptModel", "laysCluster", "(II)I"⟩, 51) := ⟨⟨by decide +kernel, by decide +kernel⟩, List.mem_of_getElem? (i := 1126) (by decide +kernel), List.mem_of_getElem? (i := 1413) (by decide +kernel), List.mem_of_getElem? (i := 1414) (by decide +kernel)⟩
theorem lw_p70 : lw_okq (⟨"StackedScriptModel", "kindAt", "(I)I"⟩, 51) := ⟨⟨by decide +kernel, by decide +kernel⟩, List.mem_of_getElem? (i := 1126) (by decide +kernel), List.mem_of_getElem? (i := 1417) (by decide +kernel), List.mem_of_getElem? (i := 1418) (by decide +kernel)⟩
theorem lw_p71 : lw_okq (⟨"StackedScriptModel", "kindOf", "(I)I"⟩, 51) := ⟨⟨by decide +kernel, by decide +kernel⟩, List.mem_of_getElem? (i := 1126) (by decide +kernel), List.mem_of_getElem? (i := 1421) (by decide +kernel), List.mem_of_getElem? (i := 1422) (by decide +kernel)⟩
theorem lw_p72 : lw_okq (⟨"StackedScriptModel", "chains", "(I)I"⟩, 51) := ⟨⟨by decide +kernel, by decide +kernel⟩, List.mem_of_getElem? (i := 1126) (by decide +kernel), List.mem_of_getElem? (i := 1425) (by decide +kernel), List.mem_of_getElem? (i := 1426) (by decide +kernel)⟩
theorem lw_p73 : lw_okq (⟨"StackedScriptModel", "laysConsonant", "(I)V"⟩, 51) := ⟨⟨by decide +kernel, by decide +kernel⟩, List.mem_of_getElem? (i := 1126) (by decide +kernel), List.mem_of_getElem? (i := 1429) (by decide +kernel), List.mem_of_getElem? (i := 1430) (by decide +kernel)⟩
theorem lw_p74 : lw_okq (⟨"StackedScriptModel", "behind", "(I)I"⟩, 51) := ⟨⟨by decide +kernel, by decide +kernel⟩, List.mem_of_getElem? (i := 1126) (by decide +kernel), List.mem_of_getElem? (i := 1433) (by decide +kernel), List.mem_of_getElem? (i := 1434) (by decide +kernel)⟩
theorem lw_p75 : lw_okq (⟨"StackedScriptModel", "ends", "(II)I"⟩, 51) := ⟨⟨by decide +kernel, by decide +kernel⟩, List.mem_of_getElem? (i := 1126) (by decide +kernel), List.mem_of_getElem? (i := 1440) (by decide +kernel), List.mem_of_getElem? (i := 1441) (by decide +kernel)⟩
theorem lw_p76 : lw_okq (⟨"StackedScriptModel", "marksFrom", "(I)I"⟩, 51) := ⟨⟨by decide +kernel, by decide +kernel⟩, List.mem_of_getElem? (i := 1126) (by decide +kernel), List.mem_of_getElem? (i := 1448) (by decide +kernel), List.mem_of_getElem? (i := 1449) (by decide +kernel)⟩
theorem lw_p77 : lw_okq (⟨"StackedScriptModel", "laysGlyphs", "(II)V"⟩, 51) := ⟨⟨by decide +kernel, by decide +kernel⟩, List.mem_of_getElem? (i := 1126) (by decide +kernel), List.mem_of_getElem? (i := 1452) (by decide +kernel), List.mem_of_getElem? (i := 1453) (by decide +kernel)⟩
theorem lw_p78 : lw_okq (⟨"StackedScriptModel", "hasReph", "()Z"⟩, 51) := ⟨⟨by decide +kernel, by decide +kernel⟩, List.mem_of_getElem? (i := 1126) (by decide +kernel), List.mem_of_getElem? (i := 1456) (by decide +kernel), List.mem_of_getElem? (i := 1457) (by decide +kernel)⟩
theorem lw_p79 : lw_okq (⟨"StackedScriptModel", "does", "(II)Z"⟩, 51) := ⟨⟨by decide +kernel, by decide +kernel⟩, List.mem_of_getElem? (i := 1126) (by decide +kernel), List.mem_of_getElem? (i := 1460) (by decide +kernel), List.mem_of_getElem? (i := 1461) (by decide +kernel)⟩
def lw_privs_5 : List (MethodName × Nat) := [(⟨"StackedScriptModel", "lettersWithKind", "([I)I"⟩, 51), (⟨"StackedScriptModel", "letterAt", "(I)I"⟩, 51), (⟨"StackedScriptModel", "goes", "(II)V"⟩, 51), (⟨"StackedScriptModel", "clusterFrom", "(I)I"⟩, 51), (⟨"StackedScriptModel", "laysAll", "()V"⟩, 51), (⟨"StackedScriptModel", "laysCluster", "(II)I"⟩, 51), (⟨"StackedScriptModel", "kindAt", "(I)I"⟩, 51), (⟨"StackedScriptModel", "kindOf", "(I)I"⟩, 51), (⟨"StackedScriptModel", "chains", "(I)I"⟩, 51), (⟨"StackedScriptModel", "laysConsonant", "(I)V"⟩, 51), (⟨"StackedScriptModel", "behind", "(I)I"⟩, 51), (⟨"StackedScriptModel", "ends", "(II)I"⟩, 51), (⟨"StackedScriptModel", "marksFrom", "(I)I"⟩, 51), (⟨"StackedScriptModel", "laysGlyphs", "(II)V"⟩, 51), (⟨"StackedScriptModel", "hasReph", "()Z"⟩, 51), (⟨"StackedScriptModel", "does", "(II)Z"⟩, 51)]
theorem lw_r5 : ∀ q ∈ lw_privs_5, lw_okq q := List.forall_mem_cons.mpr ⟨lw_p64, List.forall_mem_cons.mpr ⟨lw_p65, List.forall_mem_cons.mpr ⟨lw_p66, List.forall_mem_cons.mpr ⟨lw_p67, List.forall_mem_cons.mpr ⟨lw_p68, List.forall_mem_cons.mpr ⟨lw_p69, List.forall_mem_cons.mpr ⟨lw_p70, List.forall_mem_cons.mpr ⟨lw_p71, List.forall_mem_cons.mpr ⟨lw_p72, List.forall_mem_cons.mpr ⟨lw_p73, List.forall_mem_cons.mpr ⟨lw_p74, List.forall_mem_cons.mpr ⟨lw_p75, List.forall_mem_cons.mpr ⟨lw_p76, List.forall_mem_cons.mpr ⟨lw_p77, List.forall_mem_cons.mpr ⟨lw_p78, List.forall_mem_cons.mpr ⟨lw_p79, fun _ h => absurd h List.not_mem_nil⟩⟩⟩⟩⟩⟩⟩⟩⟩⟩⟩⟩⟩⟩⟩⟩
theorem lw_p80 : lw_okq (⟨"StackedScriptModel", "baseOf", "(I)I"⟩, 51) := ⟨⟨by decide +kernel, by decide +kernel⟩, List.mem_of_getElem? (i := 1126) (by decide +kernel), List.mem_of_getElem? (i := 1464) (by decide +kernel), List.mem_of_getElem? (i := 1465) (by decide +kernel)⟩
theorem lw_p81 : lw_okq (⟨"StackedScriptModel", "isAheadOfBase", "(I)Z"⟩, 51) := ⟨⟨by decide +kernel, by decide +kernel⟩, List.mem_of_getElem? (i := 1126) (by decide +kernel), List.mem_of_getElem? (i := 1468) (by decide +kernel), List.mem_of_getElem? (i := 1469) (by decide +kernel)⟩
theorem lw_p82 : lw_okq (⟨"StackedScriptModel", "showsSigns", "(IIII)V"⟩, 51) := ⟨⟨by decide +kernel, by decide +kernel⟩, List.mem_of_getElem? (i := 1126) (by decide +kernel), List.mem_of_getElem? (i := 1472) (by decide +kernel), List.mem_of_getElem? (i := 1473) (by decide +kernel)⟩
theorem lw_p83 : lw_okq (⟨"StackedScriptModel", "showsAt", "(IIII)V"⟩, 51) := ⟨⟨by decide +kernel, by decide +kernel⟩, List.mem_of_getElem? (i := 1126) (by decide +kernel), List.mem_of_getElem? (i := 1476) (by decide +kernel), List.mem_of_getElem? (i := 1477) (by decide +kernel)⟩
theorem lw_p84 : lw_okq (⟨"StackedScriptModel", "shows", "(IIIII)V"⟩, 51) := ⟨⟨by decide +kernel, by decide +kernel⟩, List.mem_of_getElem? (i := 1126) (by decide +kernel), List.mem_of_getElem? (i := 1480) (by decide +kernel), List.mem_of_getElem? (i := 1481) (by decide +kernel)⟩
theorem lw_p85 : lw_okq (⟨"StackedScriptModel", "widthOf", "(II)I"⟩, 51) := ⟨⟨by decide +kernel, by decide +kernel⟩, List.mem_of_getElem? (i := 1126) (by decide +kernel), List.mem_of_getElem? (i := 1484) (by decide +kernel), List.mem_of_getElem? (i := 1485) (by decide +kernel)⟩
theorem lw_p86 : lw_okq (⟨"StackedScriptModel", "joinsChain", "(II)V"⟩, 51) := ⟨⟨by decide +kernel, by decide +kernel⟩, List.mem_of_getElem? (i := 1126) (by decide +kernel), List.mem_of_getElem? (i := 1488) (by decide +kernel), List.mem_of_getElem? (i := 1489) (by decide +kernel)⟩
theorem lw_p87 : lw_okq (⟨"StackedScriptModel", "showsAhead", "(II)I"⟩, 51) := ⟨⟨by decide +kernel, by decide +kernel⟩, List.mem_of_getElem? (i := 1126) (by decide +kernel), List.mem_of_getElem? (i := 1492) (by decide +kernel), List.mem_of_getElem? (i := 1493) (by decide +kernel)⟩
theorem lw_p88 : lw_okq (⟨"StackedScriptModel", "showsJoined", "(IIII)V"⟩, 51) := ⟨⟨by decide +kernel, by decide +kernel⟩, List.mem_of_getElem? (i := 1126) (by decide +kernel), List.mem_of_getElem? (i := 1496) (by decide +kernel), List.mem_of_getElem? (i := 1497) (by decide +kernel)⟩
theorem lw_p89 : lw_okq (⟨"StackedScriptModel", "showsWith", "(II)V"⟩, 51) := ⟨⟨by decide +kernel, by decide +kernel⟩, List.mem_of_getElem? (i := 1126) (by decide +kernel), List.mem_of_getElem? (i := 1500) (by decide +kernel), List.mem_of_getElem? (i := 1501) (by decide +kernel)⟩
theorem lw_p90 : lw_okq (⟨"StackedScriptModel", "showsStacked", "(II)V"⟩, 51) := ⟨⟨by decide +kernel, by decide +kernel⟩, List.mem_of_getElem? (i := 1126) (by decide +kernel), List.mem_of_getElem? (i := 1504) (by decide +kernel), List.mem_of_getElem? (i := 1505) (by decide +kernel)⟩
theorem lw_p91 : lw_okq (⟨"StackedScriptModel", "showsAlone", "(II)V"⟩, 51) := ⟨⟨by decide +kernel, by decide +kernel⟩, List.mem_of_getElem? (i := 1126) (by decide +kernel), List.mem_of_getElem? (i := 1508) (by decide +kernel), List.mem_of_getElem? (i := 1509) (by decide +kernel)⟩
theorem lw_p92 : lw_okq (⟨"StackedScriptModel", "joinerFrom", "(I)I"⟩, 51) := ⟨⟨by decide +kernel, by decide +kernel⟩, List.mem_of_getElem? (i := 1126) (by decide +kernel), List.mem_of_getElem? (i := 1512) (by decide +kernel), List.mem_of_getElem? (i := 1513) (by decide +kernel)⟩
theorem lw_p93 : lw_okq (⟨"StackedScriptModel", "showsKind", "(IIII)V"⟩, 51) := ⟨⟨by decide +kernel, by decide +kernel⟩, List.mem_of_getElem? (i := 1126) (by decide +kernel), List.mem_of_getElem? (i := 1516) (by decide +kernel), List.mem_of_getElem? (i := 1517) (by decide +kernel)⟩
theorem lw_p94 : lw_okq (⟨"StackedScriptModel", "readsBack", "()V"⟩, 51) := ⟨⟨by decide +kernel, by decide +kernel⟩, List.mem_of_getElem? (i := 1126) (by decide +kernel), List.mem_of_getElem? (i := 1528) (by decide +kernel), List.mem_of_getElem? (i := 1529) (by decide +kernel)⟩
theorem lw_p95 : lw_okq (⟨"StackedScriptModel", "reads", "(I)V"⟩, 51) := ⟨⟨by decide +kernel, by decide +kernel⟩, List.mem_of_getElem? (i := 1126) (by decide +kernel), List.mem_of_getElem? (i := 1532) (by decide +kernel), List.mem_of_getElem? (i := 1533) (by decide +kernel)⟩
def lw_privs_6 : List (MethodName × Nat) := [(⟨"StackedScriptModel", "baseOf", "(I)I"⟩, 51), (⟨"StackedScriptModel", "isAheadOfBase", "(I)Z"⟩, 51), (⟨"StackedScriptModel", "showsSigns", "(IIII)V"⟩, 51), (⟨"StackedScriptModel", "showsAt", "(IIII)V"⟩, 51), (⟨"StackedScriptModel", "shows", "(IIIII)V"⟩, 51), (⟨"StackedScriptModel", "widthOf", "(II)I"⟩, 51), (⟨"StackedScriptModel", "joinsChain", "(II)V"⟩, 51), (⟨"StackedScriptModel", "showsAhead", "(II)I"⟩, 51), (⟨"StackedScriptModel", "showsJoined", "(IIII)V"⟩, 51), (⟨"StackedScriptModel", "showsWith", "(II)V"⟩, 51), (⟨"StackedScriptModel", "showsStacked", "(II)V"⟩, 51), (⟨"StackedScriptModel", "showsAlone", "(II)V"⟩, 51), (⟨"StackedScriptModel", "joinerFrom", "(I)I"⟩, 51), (⟨"StackedScriptModel", "showsKind", "(IIII)V"⟩, 51), (⟨"StackedScriptModel", "readsBack", "()V"⟩, 51), (⟨"StackedScriptModel", "reads", "(I)V"⟩, 51)]
theorem lw_r6 : ∀ q ∈ lw_privs_6, lw_okq q := List.forall_mem_cons.mpr ⟨lw_p80, List.forall_mem_cons.mpr ⟨lw_p81, List.forall_mem_cons.mpr ⟨lw_p82, List.forall_mem_cons.mpr ⟨lw_p83, List.forall_mem_cons.mpr ⟨lw_p84, List.forall_mem_cons.mpr ⟨lw_p85, List.forall_mem_cons.mpr ⟨lw_p86, List.forall_mem_cons.mpr ⟨lw_p87, List.forall_mem_cons.mpr ⟨lw_p88, List.forall_mem_cons.mpr ⟨lw_p89, List.forall_mem_cons.mpr ⟨lw_p90, List.forall_mem_cons.mpr ⟨lw_p91, List.forall_mem_cons.mpr ⟨lw_p92, List.forall_mem_cons.mpr ⟨lw_p93, List.forall_mem_cons.mpr ⟨lw_p94, List.forall_mem_cons.mpr ⟨lw_p95, fun _ h => absurd h List.not_mem_nil⟩⟩⟩⟩⟩⟩⟩⟩⟩⟩⟩⟩⟩⟩⟩⟩
theorem lw_p96 : lw_okq (⟨"StackedScriptModel", "readsSigns", "(III)V"⟩, 51) := ⟨⟨by decide +kernel, by decide +kernel⟩, List.mem_of_getElem? (i := 1126) (by decide +kernel), List.mem_of_getElem? (i := 1536) (by decide +kernel), List.mem_of_getElem? (i := 1537) (by decide +kernel)⟩
theorem lw_p97 : lw_okq (⟨"StackedScriptModel", "isCluster", "(I)Z"⟩, 51) := ⟨⟨by decide +kernel, by decide +kernel⟩, List.mem_of_getElem? (i := 1126) (by decide +kernel), List.mem_of_getElem? (i := 1560) (by decide +kernel), List.mem_of_getElem? (i := 1561) (by decide +kernel)⟩
theorem lw_p98 : lw_okq (⟨"StackedScriptModel", "clusterWidth", "(I)I"⟩, 51) := ⟨⟨by decide +kernel, by decide +kernel⟩, List.mem_of_getElem? (i := 1126) (by decide +kernel), List.mem_of_getElem? (i := 1564) (by decide +kernel), List.mem_of_getElem? (i := 1565) (by decide +kernel)⟩
theorem lw_p99 : lw_okq (⟨"StackedScriptModel", "clusterWith", "(I)I"⟩, 51) := ⟨⟨by decide +kernel, by decide +kernel⟩, List.mem_of_getElem? (i := 1126) (by decide +kernel), List.mem_of_getElem? (i := 1572) (by decide +kernel), List.mem_of_getElem? (i := 1573) (by decide +kernel)⟩
theorem lw_p100 : lw_okq (⟨"StackedScriptModel", "brokenWith", "(II)I"⟩, 51) := ⟨⟨by decide +kernel, by decide +kernel⟩, List.mem_of_getElem? (i := 1126) (by decide +kernel), List.mem_of_getElem? (i := 1584) (by decide +kernel), List.mem_of_getElem? (i := 1585) (by decide +kernel)⟩
theorem lw_p101 : lw_okq (⟨"StackedScriptModel", "goesOn", "(II)I"⟩, 51) := ⟨⟨by decide +kernel, by decide +kernel⟩, List.mem_of_getElem? (i := 1126) (by decide +kernel), List.mem_of_getElem? (i := 1588) (by decide +kernel), List.mem_of_getElem? (i := 1589) (by decide +kernel)⟩
theorem lw_p102 : lw_okq (⟨"StackedScriptModel", "mends", "()V"⟩, 51) := ⟨⟨by decide +kernel, by decide +kernel⟩, List.mem_of_getElem? (i := 1126) (by decide +kernel), List.mem_of_getElem? (i := 1596) (by decide +kernel), List.mem_of_getElem? (i := 1597) (by decide +kernel)⟩
theorem lw_p103 : lw_okq (⟨"StackedScriptModel", "keeps", "(II)I"⟩, 51) := ⟨⟨by decide +kernel, by decide +kernel⟩, List.mem_of_getElem? (i := 1126) (by decide +kernel), List.mem_of_getElem? (i := 1600) (by decide +kernel), List.mem_of_getElem? (i := 1601) (by decide +kernel)⟩
theorem lw_p104 : lw_okq (⟨"StackedScriptModel", "stopOf", "(I)I"⟩, 51) := ⟨⟨by decide +kernel, by decide +kernel⟩, List.mem_of_getElem? (i := 1126) (by decide +kernel), List.mem_of_getElem? (i := 1645) (by decide +kernel), List.mem_of_getElem? (i := 1646) (by decide +kernel)⟩
theorem lw_p105 : lw_okq (⟨"StackedScriptModel", "xOf", "(I)I"⟩, 51) := ⟨⟨by decide +kernel, by decide +kernel⟩, List.mem_of_getElem? (i := 1126) (by decide +kernel), List.mem_of_getElem? (i := 1649) (by decide +kernel), List.mem_of_getElem? (i := 1650) (by decide +kernel)⟩
theorem lw_p106 : lw_okq (⟨"StackedScriptModel", "fillsLines", "(I)Z"⟩, 51) := ⟨⟨by decide +kernel, by decide +kernel⟩, List.mem_of_getElem? (i := 1126) (by decide +kernel), List.mem_of_getElem? (i := 1666) (by decide +kernel), List.mem_of_getElem? (i := 1667) (by decide +kernel)⟩
theorem lw_p107 : lw_okq (⟨"StackedScriptModel", "allFit", "(I)Z"⟩, 51) := ⟨⟨by decide +kernel, by decide +kernel⟩, List.mem_of_getElem? (i := 1126) (by decide +kernel), List.mem_of_getElem? (i := 1670) (by decide +kernel), List.mem_of_getElem? (i := 1671) (by decide +kernel)⟩
theorem lw_p108 : lw_okq (⟨"StackedScriptModel", "evens", "(I)Z"⟩, 51) := ⟨⟨by decide +kernel, by decide +kernel⟩, List.mem_of_getElem? (i := 1126) (by decide +kernel), List.mem_of_getElem? (i := 1682) (by decide +kernel), List.mem_of_getElem? (i := 1683) (by decide +kernel)⟩
theorem lw_p109 : lw_okq (⟨"StackedScriptModel", "inOrder", "(II)I"⟩, 51) := ⟨⟨by decide +kernel, by decide +kernel⟩, List.mem_of_getElem? (i := 1126) (by decide +kernel), List.mem_of_getElem? (i := 1703) (by decide +kernel), List.mem_of_getElem? (i := 1704) (by decide +kernel)⟩
theorem lw_p110 : lw_okq (⟨"StackedScriptModel", "baseGlyph", "(I)I"⟩, 51) := ⟨⟨by decide +kernel, by decide +kernel⟩, List.mem_of_getElem? (i := 1126) (by decide +kernel), List.mem_of_getElem? (i := 1707) (by decide +kernel), List.mem_of_getElem? (i := 1708) (by decide +kernel)⟩
theorem lw_p111 : lw_okq (⟨"StackedScriptModel", "glyphsOrder", "(II)I"⟩, 51) := ⟨⟨by decide +kernel, by decide +kernel⟩, List.mem_of_getElem? (i := 1126) (by decide +kernel), List.mem_of_getElem? (i := 1711) (by decide +kernel), List.mem_of_getElem? (i := 1712) (by decide +kernel)⟩
def lw_privs_7 : List (MethodName × Nat) := [(⟨"StackedScriptModel", "readsSigns", "(III)V"⟩, 51), (⟨"StackedScriptModel", "isCluster", "(I)Z"⟩, 51), (⟨"StackedScriptModel", "clusterWidth", "(I)I"⟩, 51), (⟨"StackedScriptModel", "clusterWith", "(I)I"⟩, 51), (⟨"StackedScriptModel", "brokenWith", "(II)I"⟩, 51), (⟨"StackedScriptModel", "goesOn", "(II)I"⟩, 51), (⟨"StackedScriptModel", "mends", "()V"⟩, 51), (⟨"StackedScriptModel", "keeps", "(II)I"⟩, 51), (⟨"StackedScriptModel", "stopOf", "(I)I"⟩, 51), (⟨"StackedScriptModel", "xOf", "(I)I"⟩, 51), (⟨"StackedScriptModel", "fillsLines", "(I)Z"⟩, 51), (⟨"StackedScriptModel", "allFit", "(I)Z"⟩, 51), (⟨"StackedScriptModel", "evens", "(I)Z"⟩, 51), (⟨"StackedScriptModel", "inOrder", "(II)I"⟩, 51), (⟨"StackedScriptModel", "baseGlyph", "(I)I"⟩, 51), (⟨"StackedScriptModel", "glyphsOrder", "(II)I"⟩, 51)]
theorem lw_r7 : ∀ q ∈ lw_privs_7, lw_okq q := List.forall_mem_cons.mpr ⟨lw_p96, List.forall_mem_cons.mpr ⟨lw_p97, List.forall_mem_cons.mpr ⟨lw_p98, List.forall_mem_cons.mpr ⟨lw_p99, List.forall_mem_cons.mpr ⟨lw_p100, List.forall_mem_cons.mpr ⟨lw_p101, List.forall_mem_cons.mpr ⟨lw_p102, List.forall_mem_cons.mpr ⟨lw_p103, List.forall_mem_cons.mpr ⟨lw_p104, List.forall_mem_cons.mpr ⟨lw_p105, List.forall_mem_cons.mpr ⟨lw_p106, List.forall_mem_cons.mpr ⟨lw_p107, List.forall_mem_cons.mpr ⟨lw_p108, List.forall_mem_cons.mpr ⟨lw_p109, List.forall_mem_cons.mpr ⟨lw_p110, List.forall_mem_cons.mpr ⟨lw_p111, fun _ h => absurd h List.not_mem_nil⟩⟩⟩⟩⟩⟩⟩⟩⟩⟩⟩⟩⟩⟩⟩⟩
theorem lw_p112 : lw_okq (⟨"StackedScriptModel", "ofForm", "(I)I"⟩, 51) := ⟨⟨by decide +kernel, by decide +kernel⟩, List.mem_of_getElem? (i := 1126) (by decide +kernel), List.mem_of_getElem? (i := 1744) (by decide +kernel), List.mem_of_getElem? (i := 1745) (by decide +kernel)⟩
def lw_privs_8 : List (MethodName × Nat) := [(⟨"StackedScriptModel", "ofForm", "(I)I"⟩, 51)]
theorem lw_r8 : ∀ q ∈ lw_privs_8, lw_okq q := List.forall_mem_cons.mpr ⟨lw_p112, fun _ h => absurd h List.not_mem_nil⟩
def lw_privs : List (MethodName × Nat) := lw_privs_1 ++ (lw_privs_2 ++ (lw_privs_3 ++ (lw_privs_4 ++ (lw_privs_5 ++ (lw_privs_6 ++ (lw_privs_7 ++ (lw_privs_8)))))))
def lw_tbl : List Cond := k2_sels lw_privs ++ tables_1
theorem lw_privs_ok : ∀ q ∈ lw_privs, lw_okq q := by
  show ∀ q ∈ lw_privs_1 ++ (lw_privs_2 ++ (lw_privs_3 ++ (lw_privs_4 ++ (lw_privs_5 ++ (lw_privs_6 ++ (lw_privs_7 ++ (lw_privs_8))))))), lw_okq q
  exact List.forall_mem_append.mpr ⟨lw_r1, List.forall_mem_append.mpr ⟨lw_r2, List.forall_mem_append.mpr ⟨lw_r3, List.forall_mem_append.mpr ⟨lw_r4, List.forall_mem_append.mpr ⟨lw_r5, List.forall_mem_append.mpr ⟨lw_r6, List.forall_mem_append.mpr ⟨lw_r7, lw_r8⟩⟩⟩⟩⟩⟩⟩
def R_law : String := "StackedScriptLaw"
end
section
/-! A small machine over whole numbers: values are (0, x) an int, (1, a) an object, (2, x) a long, (3, _) nothing, (4, k) a text, (5, _) null.
 The memory is a table of shapes and a function; a method is a row of (opcode, arguments). -/
abbrev zV : Type := Nat × Int
abbrev zSh : Type := Nat × Nat × List Int
abbrev zM : Type := Int → Int → Int
abbrev zIn : Type := Nat × List Int
abbrev zR : Type := Nat × List zV × List zV × List zSh × zM
abbrev zF : Type := List Int → Nat → List zV → List zV → List zSh → zM → Option zR
def zup (M : zM) (a i v : Int) : zM := fun b j => if b = a ∧ j = i then v else M b j
def zsh (S : List zSh) (a : Int) : Option zSh := if a < 0 then none else S[a.toNat]?
def zrf (r : Int) : zV := if r < 0 then (5, 0) else (1, r)
def zsetR (S : List zSh) (a : Int) (k : Nat) (v : Int) : List zSh := match S[a.toNat]? with
  | some (t, c, rs) => S.set a.toNat (t, c, rs.set k v)
  | none => S
def zcpy (M : zM) (s sp d dp n : Int) : zM := fun b j => if b = d ∧ dp ≤ j ∧ j < dp + n then M s (sp + (j - dp)) else M b j
def zTx : List (List Int) := [[99,111,110,115,111,110,97,110,116,115],[118,111,119,101,108,115],[118,105,114,97,109,97],[110,117,107,116,97],[98,101,102,111,114,101],[97,98,111,118,101],[98,101,108,111,119],[98,101,104,105,110,100],[115,112,108,105,116,115],[109,97,114,107,115],[116,97,105,108,115],[106,111,105,110,101,114],[98,114,101,97,107,101,114],[114,97],[115,116,97,99,107],[104,97,108,102],[106,111,105,110,115]]
def zarg (a : List Int) (k : Nat) : Int := a.getD k 0
def zand (x y : Int) : Int := if y = 1 ∨ y = 63 ∨ y = 255 then x % (y + 1) else ((x.toNat &&& y.toNat : Nat) : Int)
def zor (x y : Int) : Int := ((x.toNat ||| y.toNat : Nat) : Int)
def zushr (x y : Int) : Int := if y = 0 then x else (x % 4294967296) / 2 ^ y.toNat
def zbyte (x : Int) : Int := (x + 128) % 256 - 128
def zlc (x y : Int) : Int := if x < y then -1 else if x = y then 0 else 1
-- the operations
def zo_none : zF := fun _ _ _ _ _ _ => none
def zo_const : zF := fun a i ls st S M => some (i + 1, ls, (0, zarg a 0) :: st, S, M)
def zo_lconst : zF := fun a i ls st S M => some (i + 1, ls, (2, zarg a 0) :: st, S, M)
def zo_load (p : Nat → Bool) : zF := fun a i ls st S M => match ls[(zarg a 0).toNat]? with
  | some v => if p v.1 = true then some (i + 1, ls, v :: st, S, M) else none
  | none => none
def zo_store (p : Nat → Bool) : zF := fun a i ls st S M => match st with
  | v :: r => if p v.1 = true ∧ (zarg a 0).toNat < ls.length then some (i + 1, ls.set (zarg a 0).toNat v, r, S, M) else none
  | [] => none
def zo_iinc : zF := fun a i ls st S M => match ls[(zarg a 0).toNat]? with
  | some v => if v.1 = 0 ∧ -2147483648 ≤ v.2 + zarg a 1 ∧ v.2 + zarg a 1 ≤ 2147483647 then some (i + 1, ls.set (zarg a 0).toNat (0, v.2 + zarg a 1), st, S, M) else none
  | none => none
def zo_un (t : Nat) (ok : Int → Bool) (u : Nat) (f : Int → Int) : zF := fun _ i ls st S M => match st with
  | v :: r => if v.1 = t ∧ ok v.2 = true then some (i + 1, ls, (u, f v.2) :: r, S, M) else none
  | [] => none
def zo_bin (t : Nat) (ok : Int → Int → Bool) (f : Int → Int → Int) : zF := fun _ i ls st S M => match st with
  | w :: v :: r => if (w.1 = t ∧ v.1 = t) ∧ ok v.2 w.2 = true then some (i + 1, ls, (0, f v.2 w.2) :: r, S, M) else none
  | _ => none
def zinR (x : Int) : Bool := decide (-2147483648 ≤ x ∧ x ≤ 2147483647)
def zo_dup : zF := fun _ i ls st S M => match st with
  | v :: r => if v.1 ≠ 2 then some (i + 1, ls, v :: v :: r, S, M) else none
  | _ => none
def zo_pop : zF := fun _ i ls st S M => match st with
  | v :: r => if v.1 ≠ 2 then some (i + 1, ls, r, S, M) else none
  | _ => none
def zo_dup2 : zF := fun _ i ls st S M => match st with
  | v :: w :: r => if v.1 ≠ 2 ∧ w.1 ≠ 2 then some (i + 1, ls, v :: w :: v :: w :: r, S, M) else none
  | _ => none
def zo_if (f : Int → Bool) : zF := fun a i ls st S M => match st with
  | v :: r => if v.1 = 0 then some (if f v.2 = true then (zarg a 0).toNat else i + 1, ls, r, S, M) else none
  | _ => none
def zo_cmp (f : Int → Int → Bool) : zF := fun a i ls st S M => match st with
  | w :: v :: r => if w.1 = 0 ∧ v.1 = 0 then some (if f v.2 w.2 = true then (zarg a 0).toNat else i + 1, ls, r, S, M) else none
  | _ => none
def zo_goto : zF := fun a _ ls st S M => some ((zarg a 0).toNat, ls, st, S, M)
def zo_ifnull : zF := fun a i ls st S M => match st with
  | v :: r => if v.1 = 5 then some ((zarg a 0).toNat, ls, r, S, M) else if v.1 = 1 then some (i + 1, ls, r, S, M) else none
  | _ => none
def ztgt (a : List Int) (x : Int) : Int := if zarg a 0 ≤ x then (a.drop 2).getD (x - zarg a 0).toNat (zarg a 1) else zarg a 1
def zlook : List Int → Int → Int → Int
  | k :: t :: r, d, x => if x = k then t else zlook r d x
  | _, d, _ => d
def zo_table : zF := fun a _ ls st S M => match st with
  | v :: r => if v.1 = 0 then some ((ztgt a v.2).toNat, ls, r, S, M) else none
  | _ => none
def zo_lookup : zF := fun a _ ls st S M => match st with
  | v :: r => if v.1 = 0 then some ((zlook (a.drop 1) (zarg a 0) v.2).toNat, ls, r, S, M) else none
  | _ => none
def zo_getf : zF := fun a i ls st S M => match st with
  | v :: r => match zsh S v.2 with
    | some q => if v.1 = 1 ∧ q.1 = 0 ∧ (q.2.1 : Int) = zarg a 1 then
        (if zarg a 3 = 1 then some (i + 1, ls, zrf (q.2.2.getD (zarg a 2).toNat (-1)) :: r, S, M) else some (i + 1, ls, (0, M v.2 (zarg a 2)) :: r, S, M)) else none
    | none => none
  | _ => none
def zo_putf : zF := fun a i ls st S M => match st with
  | w :: v :: r => match zsh S v.2 with
    | some q => if v.1 = 1 ∧ q.1 = 0 ∧ (q.2.1 : Int) = zarg a 1 then
        (if zarg a 3 = 1 then (if w.1 = 1 ∧ (zarg a 2).toNat < q.2.2.length then some (i + 1, ls, r, zsetR S v.2 (zarg a 2).toNat w.2, M) else none)
         else if w.1 = 0 ∧ (zarg a 3 = 2 → w.2 = 0 ∨ w.2 = 1) then some (i + 1, ls, r, S, zup M v.2 (zarg a 2) w.2) else none) else none
    | none => none
  | _ => none
def zo_iald : zF := fun _ i ls st S M => match st with
  | w :: v :: r => match zsh S v.2 with
    | some q => if (w.1 = 0 ∧ v.1 = 1 ∧ q.1 = 1) ∧ 0 ≤ w.2 ∧ w.2 < (q.2.1 : Int) then some (i + 1, ls, (0, M v.2 w.2) :: r, S, M) else none
    | none => none
  | _ => none
def zo_bald : zF := fun _ i ls st S M => match st with
  | w :: v :: r => match zsh S v.2 with
    | some q => if (w.1 = 0 ∧ v.1 = 1 ∧ (q.1 = 2 ∨ q.1 = 3)) ∧ 0 ≤ w.2 ∧ w.2 < (q.2.1 : Int) then some (i + 1, ls, (0, M v.2 w.2) :: r, S, M) else none
    | none => none
  | _ => none
def zo_aald : zF := fun _ i ls st S M => match st with
  | w :: v :: r => match zsh S v.2 with
    | some q => if (w.1 = 0 ∧ v.1 = 1 ∧ (q.1 = 4 ∨ q.1 = 5)) ∧ 0 ≤ w.2 ∧ w.2 < (q.2.1 : Int) then
        some (i + 1, ls, (if q.1 = 4 then (1, q.2.2.getD 0 0 + w.2) else zrf (M v.2 w.2 - 1)) :: r, S, M) else none
    | none => none
  | _ => none
def zo_iast : zF := fun _ i ls st S M => match st with
  | x :: w :: v :: r => match zsh S v.2 with
    | some q => if (x.1 = 0 ∧ w.1 = 0 ∧ v.1 = 1 ∧ q.1 = 1) ∧ 0 ≤ w.2 ∧ w.2 < (q.2.1 : Int) then some (i + 1, ls, r, S, zup M v.2 w.2 x.2) else none
    | none => none
  | _ => none
def zo_bast : zF := fun _ i ls st S M => match st with
  | x :: w :: v :: r => match zsh S v.2 with
    | some q => if (x.1 = 0 ∧ w.1 = 0 ∧ v.1 = 1 ∧ (q.1 = 2 ∧ (-128 ≤ x.2 ∧ x.2 ≤ 127) ∨ q.1 = 3 ∧ (x.2 = 0 ∨ x.2 = 1))) ∧ 0 ≤ w.2 ∧ w.2 < (q.2.1 : Int) then some (i + 1, ls, r, S, zup M v.2 w.2 x.2) else none
    | none => none
  | _ => none
def zo_aast : zF := fun _ i ls st S M => match st with
  | x :: w :: v :: r => match zsh S v.2 with
    | some q => match zsh S x.2 with
      | some o => if (x.1 = 1 ∧ w.1 = 0 ∧ v.1 = 1 ∧ q.1 = 5 ∧ o.1 = 0 ∧ q.2.2.getD 0 0 = (o.2.1 : Int)) ∧ 0 ≤ w.2 ∧ w.2 < (q.2.1 : Int) then some (i + 1, ls, r, S, zup M v.2 w.2 (x.2 + 1)) else none
      | none => none
    | none => none
  | _ => none
def zo_alen : zF := fun _ i ls st S M => match st with
  | v :: r => match zsh S v.2 with
    | some q => if v.1 = 1 ∧ q.1 = 1 then some (i + 1, ls, (0, (q.2.1 : Int)) :: r, S, M) else none
    | none => none
  | _ => none
/-- how many fields a class has -/
def zNf : List Nat := [14, 15, 5, 9, 2, 3, 2, 4, 7, 8, 3, 4, 51]
def zo_new : zF := fun a i ls st S M => some (i + 1, ls, (1, (S.length : Int)) :: st, S ++ [(0, (zarg a 1).toNat, List.replicate (zNf.getD (zarg a 1).toNat 0) (-1))], M)
def zo_newa : zF := fun a i ls st S M => match st with
  | v :: r => if v.1 = 0 ∧ 0 ≤ v.2 ∧ v.2 ≤ 2000 then some (i + 1, ls, (1, (S.length : Int)) :: r, S ++ [((zarg a 0).toNat, v.2.toNat, [])], M) else none
  | _ => none
def zo_newq : zF := fun a i ls st S M => match st with
  | v :: r => if v.1 = 0 ∧ 0 ≤ v.2 ∧ v.2 ≤ 2000 then some (i + 1, ls, (1, (S.length : Int)) :: r, S ++ [(5, v.2.toNat, [zarg a 1])], M) else none
  | _ => none
def zo_newm : zF := fun _ i ls st S M => match st with
  | w :: v :: r => if (w.1 = 0 ∧ v.1 = 0) ∧ (0 ≤ v.2 ∧ v.2 ≤ 2000) ∧ 0 ≤ w.2 ∧ w.2 ≤ 2000 then some (i + 1, ls, (1, (S.length : Int)) :: r, S ++ (4, v.2.toNat, [(S.length : Int) + 1]) :: List.replicate v.2.toNat (1, w.2.toNat, []), M) else none
  | _ => none
def zo_obj : zF := fun _ i ls st S M => match st with
  | v :: r => if v.1 = 1 ∧ r.length ≤ 4 then some (i + 1, ls, r, S, M) else none
  | _ => none
def zo_copy : zF := fun _ i ls st S M => match st with
  | n :: dp :: d :: sp :: s :: r => match zsh S s.2 with
    | some q => match zsh S d.2 with
      | some o => if (n.1 = 0 ∧ dp.1 = 0 ∧ d.1 = 1 ∧ sp.1 = 0 ∧ s.1 = 1 ∧ q.1 = 1 ∧ o.1 = 1) ∧ (0 ≤ n.2 ∧ 0 ≤ dp.2 ∧ 0 ≤ sp.2 ∧ sp.2 + n.2 ≤ (q.2.1 : Int) ∧ dp.2 + n.2 ≤ (o.2.1 : Int)) ∧ s.2 ≠ d.2 ∧ r.length ≤ 4 then some (i + 1, ls, r, S, zcpy M s.2 sp.2 d.2 dp.2 n.2) else none
      | none => none
    | none => none
  | _ => none
def zo_min : zF := fun _ i ls st S M => match st with
  | w :: v :: r => if w.1 = 0 ∧ v.1 = 0 ∧ r.length ≤ 4 then some (i + 1, ls, (0, if v.2 ≤ w.2 then v.2 else w.2) :: r, S, M) else none
  | _ => none
def zo_abs : zF := fun _ i ls st S M => match st with
  | v :: r => if v.1 = 0 ∧ -2147483648 < v.2 ∧ r.length ≤ 4 then some (i + 1, ls, (0, if v.2 < 0 then -v.2 else v.2) :: r, S, M) else none
  | _ => none
def zo_text : zF := fun a i ls st S M => some (i + 1, ls, (4, zarg a 1) :: st, S, M)
def zo_tlen : zF := fun _ i ls st S M => match st with
  | v :: r => if v.1 = 4 ∧ (0 ≤ v.2 ∧ v.2 < 17) ∧ r.length ≤ 4 then some (i + 1, ls, (0, ((zTx.getD v.2.toNat []).length : Int)) :: r, S, M) else none
  | _ => none
def zo_char : zF := fun _ i ls st S M => match st with
  | w :: v :: r => if (w.1 = 0 ∧ v.1 = 4 ∧ r.length ≤ 4) ∧ (0 ≤ v.2 ∧ v.2 < 17) ∧ 0 ≤ w.2 ∧ w.2 < ((zTx.getD v.2.toNat []).length : Int) then some (i + 1, ls, (0, (zTx.getD v.2.toNat []).getD w.2.toNat 0) :: r, S, M) else none
  | _ => none
def zisI (t : Nat) : Bool := t == 0
def zisA (t : Nat) : Bool := t == 1 || t == 4
def zisL (t : Nat) : Bool := t == 2
def zOps : List zF := [zo_const, zo_lconst, zo_load zisI, zo_load zisA, zo_load zisL, zo_store zisI, zo_store zisA, zo_iinc,
  zo_bin 0 (fun x y => zinR (x + y)) (fun x y => x + y), zo_bin 0 (fun x y => zinR (x - y)) (fun x y => x - y), zo_bin 0 (fun x y => zinR (x * y)) (fun x y => x * y),
  zo_bin 0 (fun x y => decide (0 ≤ x ∧ 0 < y)) (fun x y => x % y), zo_bin 0 (fun x y => decide ((0 ≤ y ∧ y < 32) ∧ -2147483648 ≤ x * 2 ^ y.toNat ∧ x * 2 ^ y.toNat ≤ 2147483647)) (fun x y => x * 2 ^ y.toNat),
  zo_bin 0 (fun _ y => decide (0 ≤ y ∧ y < 32)) (fun x y => x / 2 ^ y.toNat), zo_bin 0 (fun _ y => decide (0 ≤ y ∧ y < 32)) zushr,
  zo_bin 0 (fun x y => decide ((y = 1 ∨ y = 63 ∨ y = 255) ∨ 0 ≤ x ∧ 0 ≤ y)) zand, zo_bin 0 (fun x y => decide (0 ≤ x ∧ 0 ≤ y)) zor,
  zo_un 0 (fun _ => true) 2 (fun x => x), zo_un 0 (fun _ => true) 0 zbyte, zo_bin 2 (fun _ _ => true) zlc, zo_dup, zo_pop, zo_dup2,
  zo_if (fun x => decide (x = 0)), zo_if (fun x => decide (x ≠ 0)), zo_if (fun x => decide (x < 0)), zo_if (fun x => decide (0 ≤ x)), zo_if (fun x => decide (0 < x)), zo_if (fun x => decide (x ≤ 0)),
  zo_cmp (fun x y => decide (x = y)), zo_cmp (fun x y => decide (x ≠ y)), zo_cmp (fun x y => decide (x < y)), zo_cmp (fun x y => decide (y ≤ x)), zo_cmp (fun x y => decide (y < x)), zo_cmp (fun x y => decide (x ≤ y)),
  zo_goto, zo_ifnull, zo_table, zo_lookup, zo_none, zo_getf, zo_putf, zo_iald, zo_bald, zo_aald, zo_iast, zo_bast, zo_aast, zo_alen,
  zo_new, zo_newa, zo_newq, zo_newm, zo_obj, zo_copy, zo_min, zo_abs, zo_text, zo_tlen, zo_char]
def zstep (q : zIn) : zF := fun _ i ls st S M => zOps.getD q.1 zo_none q.2 i ls st S M
def zloc0 : List zV → List zV
  | [] => []
  | v :: r => if v.1 = 2 then v :: (3, 0) :: zloc0 r else v :: zloc0 r
def zloc (vs : List zV) (n : Nat) : List zV := zloc0 vs ++ List.replicate (n - (zloc0 vs).length) (3, 0)
abbrev zPr : Type := List (List zIn × Nat × Nat × Nat)
/-- at a call: the method's fourth number is 0 (it answers nothing), 1 (a value), 3 (a value; it takes longs); only such a one is given longs; little is left on the stack -/
def zgive (r : Nat) (as rest : List zV) : Bool := (r == 3 || as.all (fun v => v.1 != 2)) && Nat.ble rest.length 4
/-- whom a method is called on: an object of its class (how 0), a cell (2); given the stack's part, the last of it first told -/
def zrecv (S : List zSh) (how cl : Int) (as : List zV) : Bool := if how = 1 then true else match as.getLast? with
  | none => false
  | some v => v.1 == 1 && (how == 2 || match zsh S v.2 with
    | some q => q.1 == 0 && ((q.2.1 : Int) == cl)
    | none => false)
/-- what a method's end answers -/
def zend (op : Nat) (st : List zV) : Option zV := match st with
  | [] => if op = 71 then some (3, 0) else none
  | [v] => if (op = 70 ∧ v.1 = 0) ∨ (op = 72 ∧ v.1 = 4) ∨ (op = 73 ∧ v.1 = 0 ∧ (v.2 = 0 ∨ v.2 = 1)) then some v else none
  | _ => none
/-- n steps at most; P: the methods -/
def zrun (P : zPr) : Nat → List zIn → Nat → List zV → List zV → List zSh → zM → Option (zV × List zSh × zM)
  | 0, _, _, _, _, _, _ => none
  | n + 1, c, i, ls, st, S, M => match c[i]? with
    | none => none
    | some q =>
      if q.1 = 60 then match P[(zarg q.2 2).toNat]? with
        | none => none
        | some y => if y.2.2.1 ≤ st.length ∧ (zgive y.2.2.2 (st.take y.2.2.1) (st.drop y.2.2.1) && zrecv S (zarg q.2 0) (zarg q.2 3) (st.take y.2.2.1)) = true then match zrun P n y.1 0 (zloc (st.take y.2.2.1).reverse y.2.1) [] S M with
            | none => none
            | some r => zrun P n c (i + 1) ls (if y.2.2.2 = 0 then st.drop y.2.2.1 else r.1 :: st.drop y.2.2.1) r.2.1 r.2.2
          else none
      else if 70 ≤ q.1 then match zend q.1 st with
        | none => none
        | some v => some (v, S, M)
      else match zstep q [] i ls st S M with
        | none => none
        | some r => zrun P n c r.1 r.2.1 r.2.2.1 r.2.2.2.1 r.2.2.2.2
theorem zrun_succ (P : zPr) (n : Nat) (c : List zIn) (i : Nat) (ls st : List zV) (S : List zSh) (M : zM) : zrun P (n + 1) c i ls st S M = (match c[i]? with
    | none => none
    | some q =>
      if q.1 = 60 then match P[(zarg q.2 2).toNat]? with
        | none => none
        | some y => if y.2.2.1 ≤ st.length ∧ (zgive y.2.2.2 (st.take y.2.2.1) (st.drop y.2.2.1) && zrecv S (zarg q.2 0) (zarg q.2 3) (st.take y.2.2.1)) = true then match zrun P n y.1 0 (zloc (st.take y.2.2.1).reverse y.2.1) [] S M with
            | none => none
            | some r => zrun P n c (i + 1) ls (if y.2.2.2 = 0 then st.drop y.2.2.1 else r.1 :: st.drop y.2.2.1) r.2.1 r.2.2
          else none
      else if 70 ≤ q.1 then match zend q.1 st with
        | none => none
        | some v => some (v, S, M)
      else match zstep q [] i ls st S M with
        | none => none
        | some r => zrun P n c r.1 r.2.1 r.2.2.1 r.2.2.2.1 r.2.2.2.2) := rfl
theorem zrun_step {P : zPr} {n : Nat} {c : List zIn} {i : Nat} {ls st : List zV} {S : List zSh} {M : zM} {q : zIn} {r : zR} (hc : c[i]? = some q) (h60 : q.1 < 60) (hs : zstep q [] i ls st S M = some r) : zrun P (n + 1) c i ls st S M = zrun P n c r.1 r.2.1 r.2.2.1 r.2.2.2.1 r.2.2.2.2 := by
  rw [zrun_succ, hc]
  dsimp only
  rw [if_neg (by omega), if_neg (by omega), hs]
theorem zrun_end {P : zPr} {n : Nat} {c : List zIn} {i : Nat} {ls st : List zV} {S : List zSh} {M : zM} {q : zIn} {v : zV} (hc : c[i]? = some q) (h70 : 70 ≤ q.1) (hs : zend q.1 st = some v) : zrun P (n + 1) c i ls st S M = some (v, S, M) := by
  rw [zrun_succ, hc]
  dsimp only
  rw [if_neg (by omega), if_pos h70, hs]
theorem zrun_call {P : zPr} {n : Nat} {c : List zIn} {i : Nat} {ls st : List zV} {S : List zSh} {M : zM} {q : zIn} {y : List zIn × Nat × Nat × Nat} {r : zV × List zSh × zM} (hc : c[i]? = some q) (h60 : q.1 = 60) (hy : P[(zarg q.2 2).toNat]? = some y) (hl : y.2.2.1 ≤ st.length ∧ (zgive y.2.2.2 (st.take y.2.2.1) (st.drop y.2.2.1) && zrecv S (zarg q.2 0) (zarg q.2 3) (st.take y.2.2.1)) = true) (hr : zrun P n y.1 0 (zloc (st.take y.2.2.1).reverse y.2.1) [] S M = some r) :
    zrun P (n + 1) c i ls st S M = zrun P n c (i + 1) ls (if y.2.2.2 = 0 then st.drop y.2.2.1 else r.1 :: st.drop y.2.2.1) r.2.1 r.2.2 := by
  rw [zrun_succ, hc]
  dsimp only
  rw [if_pos h60, hy]
  dsimp only
  rw [if_pos hl, hr]
theorem zrun_mono (P : zPr) : ∀ (n : Nat) (c : List zIn) (i : Nat) (ls st : List zV) (S : List zSh) (M : zM) (r : zV × List zSh × zM), zrun P n c i ls st S M = some r → zrun P (n + 1) c i ls st S M = some r := by
  intro n
  induction n with
  | zero => intro c i ls st S M r h; simp [zrun] at h
  | succ n ih =>
    intro c i ls st S M r h
    rw [zrun_succ] at h ⊢
    cases hc : c[i]? with
    | none => rw [hc] at h; exact h
    | some q =>
      rw [hc] at h
      dsimp only at h ⊢
      by_cases h60 : q.1 = 60
      · rw [if_pos h60] at h ⊢
        cases hP : P[(zarg q.2 2).toNat]? with
        | none => rw [hP] at h; exact h
        | some y =>
          rw [hP] at h
          dsimp only at h ⊢
          by_cases hl : y.2.2.1 ≤ st.length ∧ (zgive y.2.2.2 (st.take y.2.2.1) (st.drop y.2.2.1) && zrecv S (zarg q.2 0) (zarg q.2 3) (st.take y.2.2.1)) = true
          · rw [if_pos hl] at h ⊢
            cases hr : zrun P n y.1 0 (zloc (st.take y.2.2.1).reverse y.2.1) [] S M with
            | none => rw [hr] at h; cases h
            | some r1 =>
              rw [hr] at h
              rw [ih _ _ _ _ _ _ _ hr]
              exact ih _ _ _ _ _ _ _ h
          · rw [if_neg hl] at h; cases h
      · rw [if_neg h60] at h ⊢
        by_cases h70 : 70 ≤ q.1
        · rw [if_pos h70] at h ⊢; exact h
        · rw [if_neg h70] at h ⊢
          cases hs : zstep q [] i ls st S M with
          | none => rw [hs] at h; cases h
          | some r1 => rw [hs] at h; exact ih _ _ _ _ _ _ _ h
theorem zrun_le (P : zPr) {n m : Nat} (h : n ≤ m) {c : List zIn} {i : Nat} {ls st : List zV} {S : List zSh} {M : zM} {r : zV × List zSh × zM} (hr : zrun P n c i ls st S M = some r) : zrun P m c i ls st S M = some r := by
  induction h with
  | refl => exact hr
  | step _ ih => exact zrun_mono P _ _ _ _ _ _ _ _ ih
end
section
/-! The methods, as rows of small instructions: by program out of the listing. -/
def kX_init : List (Nat × List Int) := [(3,[0]),(53,[3]),(3,[0]),(0,[400]),(50,[1]),(41,[9,0,0,1]),(3,[0]),(0,[0]),(41,[13,0,1,0]),(3,[0]),(0,[0]),(41,[17,0,2,0]),(3,[0]),(0,[-1]),(41,[20,0,3,0]),(3,[0]),(49,[23,10]),(20,[]),(60,[2,25,270,10]),(41,[26,0,4,1]),(3,[0]),(49,[30,4]),(20,[]),(60,[2,32,229,4]),(41,[33,0,5,1]),(3,[0]),(49,[37,6]),(20,[]),(60,[2,39,237,6]),(41,[40,0,6,1]),(3,[0]),(49,[44,8]),(20,[]),(60,[2,46,248,8]),(41,[47,0,7,1]),(3,[0]),(49,[51,2]),(20,[]),(60,[2,53,190,2]),(41,[54,0,8,1]),(3,[0]),(49,[58,1]),(20,[]),(60,[2,60,182,1]),(41,[61,0,9,1]),(3,[0]),(49,[65,3]),(20,[]),(3,[0]),(40,[26,0,4,1]),(3,[0]),(40,[54,0,8,1]),(3,[0]),(40,[61,0,9,1]),(60,[2,67,204,3]),(41,[70,0,10,1]),(3,[0]),(49,[74,7]),(20,[]),(3,[0]),(40,[26,0,4,1]),(3,[0]),(40,[54,0,8,1]),(60,[2,76,241,7]),(41,[79,0,11,1]),(3,[0]),(49,[83,11]),(20,[]),(60,[2,85,276,11]),(41,[86,0,12,1]),(3,[0]),(49,[90,5]),(20,[]),(60,[2,92,234,5]),(41,[93,0,13,1]),(71,[])]
def kX_feed : List (Nat × List Int) := [(3,[0]),(40,[13,0,1,0]),(0,[20]),(8,[]),(0,[400]),(34,[8]),(0,[-3]),(70,[]),(3,[0]),(2,[1]),(60,[0,97,44,0]),(3,[0]),(2,[2]),(60,[0,97,44,0]),(3,[0]),(2,[3]),(60,[0,97,44,0]),(3,[0]),(2,[4]),(60,[0,97,44,0]),(3,[0]),(2,[5]),(60,[0,97,44,0]),(3,[0]),(40,[13,0,1,0]),(70,[])]
def kX_script : List (Nat × List Int) := [(2,[1]),(25,[6]),(2,[1]),(3,[0]),(40,[13,0,1,0]),(34,[8]),(0,[-3]),(70,[]),(3,[0]),(40,[47,0,7,1]),(3,[0]),(40,[9,0,0,1]),(2,[1]),(60,[0,101,249,8]),(3,[0]),(3,[0]),(40,[47,0,7,1]),(40,[105,8,1,0]),(3,[0]),(40,[47,0,7,1]),(40,[108,8,2,0]),(60,[0,109,45,0]),(3,[0]),(40,[17,0,2,0]),(23,[30]),(0,[-30]),(3,[0]),(40,[17,0,2,0]),(9,[]),(70,[]),(3,[0]),(40,[33,0,5,1]),(3,[0]),(40,[26,0,4,1]),(60,[0,113,230,4]),(3,[0]),(40,[26,0,4,1]),(40,[117,10,0,1]),(3,[0]),(40,[47,0,7,1]),(40,[121,8,0,1]),(60,[0,122,265,9]),(3,[0]),(60,[0,128,49,0]),(3,[0]),(40,[26,0,4,1]),(40,[117,10,0,1]),(60,[0,131,269,9]),(70,[])]
def kX_text : List (Nat × List Int) := [(2,[1]),(25,[6]),(2,[1]),(3,[0]),(40,[13,0,1,0]),(34,[8]),(0,[-3]),(70,[]),(2,[1]),(0,[60]),(34,[17]),(3,[0]),(0,[0]),(0,[-1]),(60,[0,109,45,0]),(0,[-4]),(70,[]),(3,[0]),(2,[1]),(60,[0,135,46,0]),(5,[2]),(2,[2]),(0,[-1]),(29,[30]),(3,[0]),(0,[1]),(2,[2]),(60,[0,109,45,0]),(0,[-31]),(70,[]),(3,[0]),(0,[0]),(0,[-1]),(60,[0,109,45,0]),(3,[0]),(40,[33,0,5,1]),(3,[0]),(40,[26,0,4,1]),(60,[0,113,230,4]),(3,[0]),(40,[26,0,4,1]),(3,[0]),(40,[9,0,0,1]),(2,[1]),(0,[97]),(60,[0,139,273,10]),(3,[0]),(60,[0,128,49,0]),(2,[1]),(70,[])]
def kX_fault : List (Nat × List Int) := [(2,[1]),(38,[8,0,2,1,5]),(3,[0]),(40,[17,0,2,0]),(70,[]),(3,[0]),(40,[20,0,3,0]),(70,[]),(0,[-1]),(70,[])]
def kX_insert : List (Nat × List Int) := [(2,[2]),(60,[1,143,50,0]),(24,[5]),(0,[-3]),(70,[]),(2,[1]),(25,[12]),(2,[1]),(3,[0]),(40,[26,0,4,1]),(40,[147,10,2,0]),(34,[14]),(0,[-5]),(70,[]),(3,[0]),(40,[26,0,4,1]),(40,[147,10,2,0]),(0,[60]),(31,[21]),(0,[-4]),(70,[]),(3,[0]),(40,[33,0,5,1]),(3,[0]),(40,[26,0,4,1]),(60,[0,113,230,4]),(3,[0]),(40,[26,0,4,1]),(2,[1]),(2,[2]),(60,[0,150,274,10]),(3,[0]),(60,[0,128,49,0]),(3,[0]),(40,[26,0,4,1]),(40,[147,10,2,0]),(70,[])]
def kX_backspace : List (Nat × List Int) := [(2,[1]),(0,[1]),(31,[8]),(2,[1]),(3,[0]),(40,[26,0,4,1]),(40,[147,10,2,0]),(34,[10]),(0,[-5]),(70,[]),(3,[0]),(40,[26,0,4,1]),(2,[1]),(0,[1]),(9,[]),(60,[0,153,272,10]),(5,[2]),(3,[0]),(40,[33,0,5,1]),(3,[0]),(40,[26,0,4,1]),(60,[0,113,230,4]),(3,[0]),(40,[26,0,4,1]),(2,[1]),(0,[1]),(9,[]),(0,[1]),(60,[0,156,275,10]),(3,[0]),(60,[0,128,49,0]),(2,[2]),(70,[])]
def kX_delete : List (Nat × List Int) := [(3,[0]),(40,[54,0,8,1]),(2,[1]),(60,[0,159,201,2]),(5,[2]),(2,[2]),(0,[-1]),(29,[13]),(2,[2]),(3,[0]),(40,[54,0,8,1]),(40,[162,2,0,0]),(31,[15]),(0,[-5]),(70,[]),(3,[0]),(40,[54,0,8,1]),(2,[2]),(0,[1]),(60,[0,163,194,2]),(5,[3]),(3,[0]),(40,[33,0,5,1]),(3,[0]),(40,[26,0,4,1]),(60,[0,113,230,4]),(3,[0]),(40,[26,0,4,1]),(2,[1]),(2,[3]),(60,[0,156,275,10]),(3,[0]),(60,[0,128,49,0]),(2,[3]),(70,[])]
def kX_erase : List (Nat × List Int) := [(3,[0]),(40,[26,0,4,1]),(40,[147,10,2,0]),(5,[1]),(3,[0]),(40,[33,0,5,1]),(3,[0]),(40,[26,0,4,1]),(60,[0,113,230,4]),(3,[0]),(40,[26,0,4,1]),(0,[0]),(2,[1]),(60,[0,156,275,10]),(3,[0]),(60,[0,128,49,0]),(2,[1]),(70,[])]
def kX_order : List (Nat × List Int) := [(3,[0]),(40,[79,0,11,1]),(40,[167,7,0,0]),(0,[60]),(34,[7]),(0,[-4]),(70,[]),(3,[0]),(40,[33,0,5,1]),(3,[0]),(40,[26,0,4,1]),(60,[0,113,230,4]),(3,[0]),(40,[26,0,4,1]),(3,[0]),(40,[79,0,11,1]),(40,[168,7,1,1]),(3,[0]),(40,[79,0,11,1]),(40,[167,7,0,0]),(0,[0]),(60,[0,139,273,10]),(3,[0]),(60,[0,128,49,0]),(3,[0]),(40,[26,0,4,1]),(40,[147,10,2,0]),(70,[])]
def kX_letter : List (Nat × List Int) := [(2,[1]),(60,[1,143,50,0]),(24,[5]),(0,[-2]),(70,[]),(3,[0]),(40,[26,0,4,1]),(40,[117,10,0,1]),(6,[3]),(2,[2]),(37,[0,43,11,15,23,28,33,38]),(3,[3]),(2,[1]),(60,[0,171,266,9]),(70,[]),(3,[3]),(40,[174,9,4,0]),(2,[1]),(30,[21]),(0,[1]),(35,[22]),(0,[0]),(70,[]),(3,[3]),(40,[177,9,5,0]),(2,[1]),(60,[1,180,56,0]),(70,[]),(3,[3]),(40,[183,9,6,0]),(2,[1]),(60,[1,180,56,0]),(70,[]),(3,[3]),(2,[1]),(0,[0]),(60,[0,186,267,9]),(70,[]),(3,[3]),(2,[1]),(0,[1]),(60,[0,186,267,9]),(70,[]),(0,[-2]),(70,[])]
def kX_joins : List (Nat × List Int) := [(2,[1]),(60,[1,143,50,0]),(23,[6]),(2,[2]),(60,[1,143,50,0]),(24,[8]),(0,[-2]),(70,[]),(3,[0]),(40,[26,0,4,1]),(40,[117,10,0,1]),(2,[1]),(2,[2]),(60,[0,189,268,9]),(23,[17]),(0,[1]),(35,[18]),(0,[0]),(70,[])]
def kX_at : List (Nat × List Int) := [(2,[1]),(26,[4]),(0,[-3]),(70,[]),(3,[0]),(40,[26,0,4,1]),(2,[1]),(60,[0,153,272,10]),(70,[])]
def kX_clusters : List (Nat × List Int) := [(3,[0]),(40,[54,0,8,1]),(40,[162,2,0,0]),(70,[])]
def kX_cluster : List (Nat × List Int) := [(3,[0]),(40,[54,0,8,1]),(2,[1]),(60,[0,193,193,2]),(24,[7]),(0,[-2]),(70,[]),(2,[2]),(0,[9]),(30,[15]),(3,[0]),(40,[70,0,10,1]),(2,[1]),(60,[0,196,223,3]),(70,[]),(2,[2]),(0,[10]),(30,[23]),(3,[0]),(40,[70,0,10,1]),(2,[1]),(60,[0,199,222,3]),(70,[]),(2,[2]),(25,[28]),(2,[2]),(0,[11]),(31,[30]),(0,[-2]),(35,[35]),(3,[0]),(40,[54,0,8,1]),(2,[1]),(2,[2]),(60,[0,163,194,2]),(70,[])]
def kX_of : List (Nat × List Int) := [(2,[1]),(26,[4]),(0,[-3]),(70,[]),(3,[0]),(40,[54,0,8,1]),(2,[1]),(60,[0,202,196,2]),(70,[])]
def kX_broken : List (Nat × List Int) := [(2,[1]),(0,[-1]),(32,[5]),(0,[-3]),(70,[]),(2,[1]),(0,[-1]),(30,[14]),(3,[0]),(40,[54,0,8,1]),(0,[-1]),(0,[0]),(60,[0,205,199,2]),(35,[18]),(3,[0]),(40,[54,0,8,1]),(2,[1]),(60,[0,208,198,2]),(70,[])]
def kX_mend : List (Nat × List Int) := [(2,[1]),(0,[-1]),(32,[5]),(0,[-3]),(70,[]),(3,[0]),(40,[93,0,13,1]),(3,[0]),(40,[54,0,8,1]),(60,[0,211,235,5]),(2,[1]),(0,[-1]),(30,[17]),(3,[0]),(40,[93,0,13,1]),(40,[215,5,0,0]),(70,[]),(2,[1]),(3,[0]),(40,[93,0,13,1]),(40,[215,5,0,0]),(32,[28]),(3,[0]),(40,[93,0,13,1]),(40,[216,5,1,1]),(2,[1]),(42,[]),(35,[29]),(0,[-1]),(70,[])]
def kX_may : List (Nat × List Int) := [(2,[1]),(25,[7]),(2,[1]),(3,[0]),(40,[26,0,4,1]),(40,[147,10,2,0]),(34,[9]),(0,[-5]),(70,[]),(3,[0]),(40,[54,0,8,1]),(0,[-1]),(0,[0]),(60,[0,205,199,2]),(5,[2]),(0,[0]),(5,[3]),(0,[0]),(5,[4]),(2,[4]),(0,[14]),(32,[37]),(3,[0]),(40,[54,0,8,1]),(2,[1]),(2,[4]),(60,[0,205,199,2]),(2,[2]),(33,[35]),(2,[3]),(0,[1]),(2,[4]),(12,[]),(16,[]),(5,[3]),(7,[4,1]),(35,[19]),(0,[0]),(5,[4]),(0,[0]),(5,[5]),(2,[5]),(0,[26]),(32,[58]),(2,[4]),(2,[3]),(3,[0]),(40,[26,0,4,1]),(40,[117,10,0,1]),(2,[5]),(60,[0,171,266,9]),(60,[1,180,56,0]),(2,[5]),(12,[]),(16,[]),(5,[4]),(7,[5,1]),(35,[41]),(2,[4]),(70,[])]
def kX_mended : List (Nat × List Int) := [(3,[0]),(40,[93,0,13,1]),(3,[0]),(40,[54,0,8,1]),(60,[0,211,235,5]),(3,[0]),(40,[33,0,5,1]),(3,[0]),(40,[26,0,4,1]),(60,[0,113,230,4]),(3,[0]),(40,[93,0,13,1]),(40,[215,5,0,0]),(0,[1]),(9,[]),(5,[1]),(2,[1]),(25,[29]),(3,[0]),(40,[26,0,4,1]),(3,[0]),(40,[93,0,13,1]),(40,[216,5,1,1]),(2,[1]),(42,[]),(0,[1]),(60,[0,156,275,10]),(7,[1,-1]),(35,[16]),(3,[0]),(60,[0,128,49,0]),(3,[0]),(40,[26,0,4,1]),(40,[147,10,2,0]),(70,[])]
def kX_glyphs : List (Nat × List Int) := [(3,[0]),(40,[70,0,10,1]),(40,[219,3,0,0]),(70,[])]
def kX_glyph : List (Nat × List Int) := [(2,[1]),(25,[12]),(2,[1]),(3,[0]),(40,[70,0,10,1]),(40,[219,3,0,0]),(32,[12]),(2,[2]),(25,[12]),(2,[2]),(0,[7]),(31,[14]),(0,[-2]),(70,[]),(3,[0]),(40,[70,0,10,1]),(40,[220,3,1,1]),(2,[2]),(44,[]),(2,[1]),(42,[]),(70,[])]
def kX_shown : List (Nat × List Int) := [(2,[1]),(26,[4]),(0,[-3]),(70,[]),(2,[1]),(3,[0]),(40,[26,0,4,1]),(40,[147,10,2,0]),(32,[15]),(3,[0]),(40,[70,0,10,1]),(40,[224,3,2,1]),(2,[1]),(42,[]),(35,[16]),(0,[-1]),(70,[])]
def kX_back : List (Nat × List Int) := [(2,[1]),(0,[-1]),(32,[5]),(0,[-3]),(70,[]),(2,[1]),(0,[-1]),(30,[12]),(3,[0]),(40,[79,0,11,1]),(40,[167,7,0,0]),(70,[]),(2,[1]),(3,[0]),(40,[79,0,11,1]),(40,[167,7,0,0]),(32,[23]),(3,[0]),(40,[79,0,11,1]),(40,[168,7,1,1]),(2,[1]),(42,[]),(35,[24]),(0,[-1]),(70,[])]
def kX_isOrdered : List (Nat × List Int) := [(3,[0]),(40,[79,0,11,1]),(40,[167,7,0,0]),(3,[0]),(40,[26,0,4,1]),(40,[147,10,2,0]),(29,[9]),(0,[0]),(70,[]),(0,[0]),(5,[1]),(2,[1]),(3,[0]),(40,[26,0,4,1]),(40,[147,10,2,0]),(32,[31]),(3,[0]),(40,[79,0,11,1]),(40,[168,7,1,1]),(2,[1]),(42,[]),(3,[0]),(40,[26,0,4,1]),(40,[227,10,1,1]),(2,[1]),(42,[]),(29,[29]),(0,[0]),(70,[]),(7,[1,1]),(35,[11]),(0,[1]),(70,[])]
def kX_stops : List (Nat × List Int) := [(3,[0]),(40,[54,0,8,1]),(40,[162,2,0,0]),(0,[1]),(8,[]),(70,[])]
def kX_stop : List (Nat × List Int) := [(2,[1]),(26,[4]),(0,[-3]),(70,[]),(3,[0]),(40,[54,0,8,1]),(2,[1]),(60,[0,228,200,2]),(70,[])]
def kX_next : List (Nat × List Int) := [(2,[2]),(0,[1]),(29,[8]),(2,[2]),(0,[-1]),(29,[8]),(0,[-3]),(70,[]),(2,[1]),(25,[15]),(2,[1]),(3,[0]),(40,[26,0,4,1]),(40,[147,10,2,0]),(34,[17]),(0,[-5]),(70,[]),(2,[2]),(0,[1]),(30,[25]),(3,[0]),(40,[54,0,8,1]),(2,[1]),(60,[0,231,202,2]),(35,[29]),(3,[0]),(40,[54,0,8,1]),(2,[1]),(60,[0,234,203,2]),(70,[])]
def kX_x : List (Nat × List Int) := [(3,[0]),(40,[54,0,8,1]),(2,[1]),(60,[0,159,201,2]),(5,[2]),(2,[2]),(0,[-1]),(30,[10]),(0,[-5]),(35,[14]),(3,[0]),(40,[70,0,10,1]),(2,[2]),(60,[0,237,221,3]),(70,[])]
def kX_hit : List (Nat × List Int) := [(2,[1]),(25,[5]),(2,[1]),(0,[999]),(34,[7]),(0,[-3]),(70,[]),(0,[0]),(5,[2]),(0,[1]),(5,[3]),(2,[3]),(3,[0]),(40,[54,0,8,1]),(40,[162,2,0,0]),(33,[35]),(3,[0]),(40,[70,0,10,1]),(2,[3]),(60,[0,237,221,3]),(2,[1]),(9,[]),(56,[240]),(3,[0]),(40,[70,0,10,1]),(2,[2]),(60,[0,237,221,3]),(2,[1]),(9,[]),(56,[240]),(32,[33]),(2,[3]),(5,[2]),(7,[3,1]),(35,[11]),(3,[0]),(40,[54,0,8,1]),(2,[2]),(60,[0,228,200,2]),(70,[])]
def kX_lines : List (Nat × List Int) := [(2,[1]),(60,[1,245,55,0]),(24,[5]),(0,[-3]),(70,[]),(3,[0]),(40,[86,0,12,1]),(3,[0]),(40,[70,0,10,1]),(40,[248,3,3,1]),(3,[0]),(40,[54,0,8,1]),(40,[162,2,0,0]),(2,[1]),(60,[0,251,278,11]),(70,[])]
def kX_lineEnd : List (Nat × List Int) := [(2,[1]),(60,[1,245,55,0]),(23,[5]),(2,[2]),(26,[7]),(0,[-3]),(70,[]),(3,[0]),(40,[86,0,12,1]),(3,[0]),(40,[70,0,10,1]),(40,[248,3,3,1]),(3,[0]),(40,[54,0,8,1]),(40,[162,2,0,0]),(2,[1]),(60,[0,251,278,11]),(21,[]),(2,[2]),(3,[0]),(40,[86,0,12,1]),(40,[255,11,0,0]),(32,[32]),(3,[0]),(40,[54,0,8,1]),(3,[0]),(40,[86,0,12,1]),(40,[256,11,1,1]),(2,[2]),(42,[]),(60,[0,228,200,2]),(35,[33]),(0,[-1]),(70,[])]
def kX_even : List (Nat × List Int) := [(2,[1]),(60,[1,245,55,0]),(24,[5]),(0,[-3]),(70,[]),(3,[0]),(40,[86,0,12,1]),(3,[0]),(40,[70,0,10,1]),(40,[248,3,3,1]),(3,[0]),(40,[54,0,8,1]),(40,[162,2,0,0]),(2,[1]),(60,[0,259,279,11]),(70,[])]
def kX_evenEnd : List (Nat × List Int) := [(2,[1]),(60,[1,245,55,0]),(23,[5]),(2,[2]),(26,[7]),(0,[-3]),(70,[]),(3,[0]),(40,[86,0,12,1]),(3,[0]),(40,[70,0,10,1]),(40,[248,3,3,1]),(3,[0]),(40,[54,0,8,1]),(40,[162,2,0,0]),(2,[1]),(60,[0,259,279,11]),(21,[]),(2,[2]),(3,[0]),(40,[86,0,12,1]),(40,[255,11,0,0]),(32,[32]),(3,[0]),(40,[54,0,8,1]),(3,[0]),(40,[86,0,12,1]),(40,[256,11,1,1]),(2,[2]),(42,[]),(60,[0,228,200,2]),(35,[33]),(0,[-1]),(70,[])]
def kX_narrowest : List (Nat × List Int) := [(2,[1]),(0,[1]),(31,[6]),(2,[1]),(0,[60]),(34,[8]),(0,[-3]),(70,[]),(3,[0]),(40,[54,0,8,1]),(40,[162,2,0,0]),(24,[14]),(0,[-1]),(70,[]),(0,[1]),(5,[2]),(2,[2]),(0,[200]),(33,[40]),(3,[0]),(40,[86,0,12,1]),(3,[0]),(40,[70,0,10,1]),(40,[248,3,3,1]),(3,[0]),(40,[54,0,8,1]),(40,[162,2,0,0]),(2,[2]),(60,[0,251,278,11]),(5,[3]),(2,[3]),(0,[-1]),(29,[38]),(2,[3]),(2,[1]),(33,[38]),(2,[2]),(70,[]),(7,[2,1]),(35,[16]),(0,[-1]),(70,[])]
def kX_find : List (Nat × List Int) := [(2,[1]),(25,[6]),(2,[1]),(3,[0]),(40,[13,0,1,0]),(34,[8]),(0,[-3]),(70,[]),(2,[2]),(25,[15]),(2,[2]),(3,[0]),(40,[26,0,4,1]),(40,[147,10,2,0]),(34,[17]),(0,[-5]),(70,[]),(3,[0]),(0,[0]),(41,[13,0,1,0]),(2,[1]),(24,[24]),(0,[-1]),(70,[]),(2,[2]),(5,[3]),(2,[3]),(2,[1]),(8,[]),(3,[0]),(40,[26,0,4,1]),(40,[147,10,2,0]),(33,[56]),(3,[0]),(40,[54,0,8,1]),(2,[3]),(60,[0,159,201,2]),(0,[-1]),(29,[54]),(3,[0]),(40,[54,0,8,1]),(2,[3]),(2,[1]),(8,[]),(60,[0,159,201,2]),(0,[-1]),(29,[54]),(3,[0]),(2,[3]),(2,[1]),(60,[0,262,47,0]),(23,[54]),(2,[3]),(70,[]),(7,[3,1]),(35,[26]),(0,[-1]),(70,[])]
def kX_alike : List (Nat × List Int) := [(3,[0]),(40,[54,0,8,1]),(2,[1]),(60,[0,193,193,2]),(23,[10]),(3,[0]),(40,[54,0,8,1]),(2,[2]),(60,[0,193,193,2]),(24,[12]),(0,[-2]),(70,[]),(3,[0]),(40,[70,0,10,1]),(2,[1]),(2,[2]),(60,[0,265,225,3]),(24,[20]),(0,[1]),(35,[21]),(0,[0]),(70,[])]
def kX_kinds : List (Nat × List Int) := [(0,[0]),(5,[1]),(0,[0]),(5,[2]),(2,[2]),(3,[0]),(40,[54,0,8,1]),(40,[162,2,0,0]),(32,[40]),(0,[1]),(5,[3]),(0,[0]),(5,[4]),(2,[4]),(2,[2]),(32,[30]),(2,[3]),(23,[30]),(3,[0]),(40,[70,0,10,1]),(2,[4]),(2,[2]),(60,[0,265,225,3]),(23,[26]),(0,[1]),(35,[27]),(0,[0]),(5,[3]),(7,[4,1]),(35,[13]),(2,[1]),(2,[3]),(23,[35]),(0,[1]),(35,[36]),(0,[0]),(8,[]),(5,[1]),(7,[2,1]),(35,[4]),(2,[1]),(70,[])]
def kX_compare : List (Nat × List Int) := [(3,[0]),(40,[54,0,8,1]),(2,[1]),(60,[0,193,193,2]),(23,[10]),(3,[0]),(40,[54,0,8,1]),(2,[2]),(60,[0,193,193,2]),(24,[12]),(0,[-2]),(70,[]),(3,[0]),(40,[70,0,10,1]),(2,[1]),(2,[2]),(60,[0,265,225,3]),(5,[3]),(2,[3]),(24,[22]),(0,[0]),(70,[]),(2,[3]),(26,[26]),(0,[1]),(35,[27]),(0,[2]),(70,[])]
def kX_ranked : List (Nat × List Int) := [(2,[1]),(26,[4]),(0,[-3]),(70,[]),(0,[0]),(5,[2]),(2,[2]),(3,[0]),(40,[54,0,8,1]),(40,[162,2,0,0]),(32,[20]),(3,[0]),(2,[2]),(60,[0,268,48,0]),(2,[1]),(30,[18]),(2,[2]),(70,[]),(7,[2,1]),(35,[6]),(0,[-1]),(70,[])]
def kX_undo : List (Nat × List Int) := [(2,[1]),(0,[1]),(31,[11]),(2,[1]),(0,[10]),(33,[11]),(2,[1]),(3,[0]),(40,[33,0,5,1]),(40,[271,4,0,0]),(34,[13]),(0,[-3]),(70,[]),(3,[0]),(40,[33,0,5,1]),(2,[1]),(3,[0]),(40,[26,0,4,1]),(60,[0,272,232,4]),(3,[0]),(60,[0,128,49,0]),(3,[0]),(40,[33,0,5,1]),(40,[271,4,0,0]),(70,[])]
def kX_image : List (Nat × List Int) := [(2,[1]),(25,[5]),(2,[1]),(0,[2]),(31,[7]),(0,[-2]),(70,[]),(3,[0]),(40,[40,0,6,1]),(2,[1]),(3,[0]),(40,[26,0,4,1]),(60,[0,276,239,6]),(0,[0]),(70,[])]
def kX_restore : List (Nat × List Int) := [(2,[1]),(25,[5]),(2,[1]),(0,[2]),(31,[7]),(0,[-2]),(70,[]),(3,[0]),(40,[40,0,6,1]),(2,[1]),(60,[0,279,238,6]),(24,[14]),(0,[-6]),(70,[]),(3,[0]),(40,[40,0,6,1]),(2,[1]),(3,[0]),(40,[26,0,4,1]),(60,[0,282,240,6]),(3,[0]),(40,[33,0,5,1]),(60,[0,285,233,4]),(3,[0]),(60,[0,128,49,0]),(0,[0]),(70,[])]
def kX_count : List (Nat × List Int) := [(2,[1]),(37,[0,40,2,6,11,16,19,23,30,35]),(3,[0]),(40,[26,0,4,1]),(40,[147,10,2,0]),(70,[]),(3,[0]),(40,[26,0,4,1]),(40,[117,10,0,1]),(60,[0,131,269,9]),(70,[]),(3,[0]),(40,[26,0,4,1]),(40,[117,10,0,1]),(40,[288,9,7,0]),(70,[]),(3,[0]),(40,[13,0,1,0]),(70,[]),(3,[0]),(40,[33,0,5,1]),(40,[271,4,0,0]),(70,[]),(3,[0]),(40,[70,0,10,1]),(3,[0]),(40,[54,0,8,1]),(40,[162,2,0,0]),(60,[0,237,221,3]),(70,[]),(3,[0]),(40,[70,0,10,1]),(0,[10]),(60,[0,291,224,3]),(70,[]),(3,[0]),(40,[70,0,10,1]),(0,[8]),(60,[0,291,224,3]),(70,[]),(0,[-1]),(70,[])]
def kX_putBytes : List (Nat × List Int) := [(0,[24]),(5,[2]),(2,[2]),(25,[26]),(3,[0]),(40,[13,0,1,0]),(0,[400]),(32,[24]),(3,[0]),(40,[9,0,0,1]),(3,[0]),(40,[13,0,1,0]),(2,[1]),(2,[2]),(14,[]),(0,[255]),(15,[]),(45,[]),(3,[0]),(20,[]),(40,[13,0,1,0]),(0,[1]),(8,[]),(41,[13,0,1,0]),(7,[2,-8]),(35,[2]),(71,[])]
def kX_emptyTape : List (Nat × List Int) := [(3,[0]),(0,[0]),(41,[13,0,1,0]),(3,[0]),(2,[1]),(41,[17,0,2,0]),(3,[0]),(2,[2]),(41,[20,0,3,0]),(71,[])]
def kX_firstNoLetter : List (Nat × List Int) := [(0,[0]),(5,[2]),(2,[2]),(2,[1]),(32,[20]),(2,[2]),(0,[400]),(32,[20]),(3,[0]),(40,[9,0,0,1]),(2,[2]),(42,[]),(0,[97]),(9,[]),(60,[1,143,50,0]),(24,[18]),(2,[2]),(70,[]),(7,[2,1]),(35,[2]),(0,[-1]),(70,[])]
def kX_standsAt : List (Nat × List Int) := [(0,[0]),(5,[3]),(2,[3]),(2,[2]),(32,[25]),(2,[3]),(0,[400]),(32,[25]),(3,[0]),(40,[26,0,4,1]),(2,[1]),(2,[3]),(8,[]),(60,[0,153,272,10]),(3,[0]),(40,[9,0,0,1]),(2,[3]),(42,[]),(0,[97]),(9,[]),(29,[23]),(0,[0]),(73,[]),(7,[3,1]),(35,[2]),(0,[1]),(73,[])]
def kX_clustersAheadOf : List (Nat × List Int) := [(0,[0]),(5,[2]),(0,[0]),(5,[3]),(2,[3]),(3,[0]),(40,[54,0,8,1]),(40,[162,2,0,0]),(32,[25]),(3,[0]),(40,[70,0,10,1]),(2,[3]),(2,[1]),(60,[0,265,225,3]),(5,[4]),(2,[4]),(25,[22]),(2,[4]),(24,[23]),(2,[3]),(2,[1]),(32,[23]),(7,[2,1]),(7,[3,1]),(35,[4]),(2,[2]),(70,[])]
def kX_settle : List (Nat × List Int) := [(3,[0]),(40,[54,0,8,1]),(3,[0]),(40,[26,0,4,1]),(60,[0,294,191,2]),(3,[0]),(40,[70,0,10,1]),(60,[0,297,205,3]),(3,[0]),(40,[79,0,11,1]),(60,[0,300,242,7]),(0,[0]),(5,[1]),(2,[1]),(3,[0]),(40,[54,0,8,1]),(40,[162,2,0,0]),(32,[42]),(3,[0]),(40,[61,0,9,1]),(3,[0]),(40,[26,0,4,1]),(3,[0]),(40,[54,0,8,1]),(2,[1]),(60,[0,301,183,1]),(3,[0]),(40,[54,0,8,1]),(2,[1]),(3,[0]),(40,[61,0,9,1]),(60,[0,305,192,2]),(3,[0]),(40,[70,0,10,1]),(2,[1]),(60,[0,309,206,3]),(3,[0]),(40,[79,0,11,1]),(2,[1]),(60,[0,312,243,7]),(7,[1,1]),(35,[13]),(71,[])]
def kX_isLetter : List (Nat × List Int) := [(2,[0]),(25,[7]),(2,[0]),(0,[26]),(32,[7]),(0,[1]),(35,[8]),(0,[0]),(73,[])]
def kX_isSign : List (Nat × List Int) := [(2,[0]),(0,[5]),(31,[8]),(2,[0]),(0,[9]),(33,[8]),(0,[1]),(35,[9]),(0,[0]),(73,[])]
def kX_isPart : List (Nat × List Int) := [(2,[0]),(0,[5]),(31,[8]),(2,[0]),(0,[8]),(33,[8]),(0,[1]),(35,[9]),(0,[0]),(73,[])]
def kX_isMarkOrTail : List (Nat × List Int) := [(2,[0]),(0,[10]),(29,[6]),(2,[0]),(0,[11]),(30,[8]),(0,[1]),(35,[9]),(0,[0]),(73,[])]
def kX_isJoinerOrBreaker : List (Nat × List Int) := [(2,[0]),(0,[12]),(29,[6]),(2,[0]),(0,[13]),(30,[8]),(0,[1]),(35,[9]),(0,[0]),(73,[])]
def kX_isLineWidth : List (Nat × List Int) := [(2,[0]),(0,[1]),(31,[8]),(2,[0]),(0,[200]),(33,[8]),(0,[1]),(35,[9]),(0,[0]),(73,[])]
def kX_hasBit : List (Nat × List Int) := [(2,[0]),(2,[1]),(14,[]),(0,[1]),(15,[]),(70,[])]
def kX_goOn : List (Nat × List Int) := [(2,[1]),(0,[1]),(30,[13]),(2,[0]),(0,[3]),(29,[9]),(2,[0]),(0,[4]),(30,[11]),(0,[1]),(35,[12]),(0,[-1]),(70,[]),(2,[1]),(0,[3]),(30,[31]),(2,[0]),(0,[1]),(29,[22]),(2,[0]),(0,[2]),(30,[24]),(0,[3]),(70,[]),(2,[0]),(0,[8]),(30,[29]),(0,[9]),(35,[30]),(0,[-1]),(70,[]),(2,[1]),(0,[4]),(30,[46]),(2,[0]),(0,[1]),(30,[39]),(0,[2]),(70,[]),(2,[0]),(0,[7]),(30,[44]),(0,[6]),(35,[45]),(0,[-1]),(70,[]),(2,[1]),(60,[1,315,51,0]),(23,[56]),(2,[0]),(60,[1,318,58,0]),(23,[54]),(0,[5]),(35,[55]),(0,[-1]),(70,[]),(2,[1]),(60,[1,321,53,0]),(23,[65]),(2,[0]),(24,[63]),(0,[-1]),(35,[64]),(0,[6]),(70,[]),(2,[1]),(60,[1,324,54,0]),(23,[80]),(2,[0]),(0,[3]),(30,[73]),(0,[4]),(70,[]),(2,[0]),(0,[9]),(30,[78]),(0,[6]),(35,[79]),(0,[-1]),(70,[]),(0,[-1]),(70,[])]
def kX_takesSigns : List (Nat × List Int) := [(2,[0]),(0,[1]),(29,[12]),(2,[0]),(0,[2]),(29,[12]),(2,[0]),(0,[8]),(29,[12]),(2,[0]),(0,[5]),(30,[14]),(0,[1]),(35,[15]),(0,[0]),(73,[])]
def kX_firstState : List (Nat × List Int) := [(2,[0]),(37,[1,12,2,4,6,8,12,12,12,12,12,10,10]),(0,[1]),(70,[]),(0,[7]),(70,[]),(0,[9]),(70,[]),(0,[8]),(70,[]),(0,[6]),(70,[]),(2,[0]),(60,[1,315,51,0]),(23,[17]),(0,[5]),(35,[18]),(0,[0]),(70,[])]
def kX_sortOf : List (Nat × List Int) := [(2,[0]),(37,[0,8,6,2,4,8,8,8,8,8,8,8,8,8,6,6]),(0,[0]),(70,[]),(0,[1]),(70,[]),(0,[3]),(70,[]),(0,[2]),(70,[])]
def kX_stateBehind : List (Nat × List Int) := [(2,[0]),(2,[1]),(60,[1,327,57,0]),(5,[2]),(2,[2]),(0,[-1]),(30,[10]),(2,[1]),(60,[1,330,59,0]),(35,[11]),(2,[2]),(70,[])]
def kX_breaks : List (Nat × List Int) := [(2,[1]),(60,[1,333,60,0]),(0,[2]),(30,[11]),(2,[0]),(2,[1]),(60,[1,327,57,0]),(0,[-1]),(30,[11]),(0,[1]),(35,[12]),(0,[0]),(73,[])]
def kX_wideOf : List (Nat × List Int) := [(2,[0]),(37,[0,26,2,4,6,8,26,26,10,19,26,26,26,8,8,2]),(0,[4]),(70,[]),(0,[2]),(70,[]),(0,[5]),(70,[]),(0,[3]),(70,[]),(2,[1]),(23,[15]),(2,[1]),(0,[8]),(30,[17]),(0,[2]),(35,[18]),(0,[0]),(70,[]),(2,[1]),(0,[9]),(30,[24]),(0,[1]),(35,[25]),(0,[0]),(70,[]),(0,[0]),(70,[])]
def kX_wordNamed : List (Nat × List Int) := [(2,[0]),(37,[1,34,2,4,6,8,10,12,14,16,18,20,22,24,26,28,30,32]),(57,[336,0]),(72,[]),(57,[338,1]),(72,[]),(57,[340,2]),(72,[]),(57,[342,3]),(72,[]),(57,[344,4]),(72,[]),(57,[346,5]),(72,[]),(57,[348,6]),(72,[]),(57,[350,7]),(72,[]),(57,[352,8]),(72,[]),(57,[354,9]),(72,[]),(57,[356,10]),(72,[]),(57,[358,11]),(72,[]),(57,[360,12]),(72,[]),(57,[362,13]),(72,[]),(57,[363,14]),(72,[]),(57,[365,15]),(72,[]),(57,[367,16]),(72,[])]
def kX_isToldOnce : List (Nat × List Int) := [(2,[0]),(0,[3]),(29,[12]),(2,[0]),(0,[4]),(29,[12]),(2,[0]),(60,[1,324,54,0]),(24,[12]),(2,[0]),(0,[14]),(30,[14]),(0,[1]),(35,[15]),(0,[0]),(73,[])]
def kM_within : List (Nat × List Int) := [(4,[0]),(4,[2]),(19,[]),(25,[10]),(4,[0]),(4,[4]),(19,[]),(27,[10]),(0,[1]),(35,[11]),(0,[0]),(73,[])]
def kM_init : List (Nat × List Int) := [(3,[0]),(53,[7]),(3,[0]),(0,[546]),(50,[1]),(41,[13,12,1,1]),(3,[0]),(0,[1820]),(50,[1]),(41,[17,12,2,1]),(3,[0]),(0,[2]),(50,[3]),(41,[20,12,4,1]),(3,[0]),(0,[61]),(50,[1]),(41,[24,12,5,1]),(3,[0]),(0,[60]),(50,[1]),(41,[27,12,6,1]),(3,[0]),(0,[60]),(50,[1]),(41,[30,12,7,1]),(3,[0]),(0,[60]),(50,[1]),(41,[33,12,8,1]),(3,[0]),(0,[60]),(50,[1]),(41,[36,12,9,1]),(3,[0]),(0,[60]),(50,[1]),(41,[39,12,10,1]),(3,[0]),(0,[60]),(50,[1]),(41,[42,12,11,1]),(3,[0]),(0,[60]),(50,[1]),(41,[45,12,12,1]),(3,[0]),(0,[60]),(50,[1]),(41,[48,12,13,1]),(3,[0]),(0,[61]),(50,[1]),(41,[51,12,14,1]),(3,[0]),(0,[60]),(50,[1]),(41,[54,12,16,1]),(3,[0]),(0,[60]),(50,[1]),(41,[57,12,17,1]),(3,[0]),(0,[60]),(50,[1]),(41,[60,12,18,1]),(3,[0]),(0,[60]),(50,[1]),(41,[63,12,19,1]),(3,[0]),(0,[60]),(50,[3]),(41,[66,12,20,1]),(3,[0]),(0,[180]),(50,[1]),(41,[69,12,23,1]),(3,[0]),(0,[180]),(50,[1]),(41,[72,12,24,1]),(3,[0]),(0,[180]),(50,[1]),(41,[75,12,25,1]),(3,[0]),(0,[180]),(50,[1]),(41,[78,12,26,1]),(3,[0]),(0,[180]),(50,[1]),(41,[81,12,27,1]),(3,[0]),(0,[180]),(50,[1]),(41,[84,12,28,1]),(3,[0]),(0,[180]),(50,[1]),(41,[87,12,29,1]),(3,[0]),(0,[60]),(50,[1]),(41,[90,12,30,1]),(3,[0]),(0,[120]),(50,[1]),(41,[93,12,32,1]),(3,[0]),(0,[400]),(50,[2]),(41,[96,12,34,1]),(3,[0]),(0,[-1]),(41,[100,12,39,0]),(3,[0]),(0,[122]),(50,[1]),(41,[103,12,40,1]),(3,[0]),(0,[111]),(50,[2]),(20,[]),(0,[0]),(0,[99]),(46,[]),(20,[]),(0,[1]),(0,[111]),(46,[]),(20,[]),(0,[2]),(0,[110]),(46,[]),(20,[]),(0,[3]),(0,[115]),(46,[]),(20,[]),(0,[4]),(0,[111]),(46,[]),(20,[]),(0,[5]),(0,[110]),(46,[]),(20,[]),(0,[6]),(0,[97]),(46,[]),(20,[]),(0,[7]),(0,[110]),(46,[]),(20,[]),(0,[8]),(0,[116]),(46,[]),(20,[]),(0,[9]),(0,[115]),(46,[]),(20,[]),(0,[10]),(0,[0]),(46,[]),(20,[]),(0,[11]),(0,[118]),(46,[]),(20,[]),(0,[12]),(0,[111]),(46,[]),(20,[]),(0,[13]),(0,[119]),(46,[]),(20,[]),(0,[14]),(0,[101]),(46,[]),(20,[]),(0,[15]),(0,[108]),(46,[]),(20,[]),(0,[16]),(0,[115]),(46,[]),(20,[]),(0,[17]),(0,[0]),(46,[]),(20,[]),(0,[18]),(0,[118]),(46,[]),(20,[]),(0,[19]),(0,[105]),(46,[]),(20,[]),(0,[20]),(0,[114]),(46,[]),(20,[]),(0,[21]),(0,[97]),(46,[]),(20,[]),(0,[22]),(0,[109]),(46,[]),(20,[]),(0,[23]),(0,[97]),(46,[]),(20,[]),(0,[24]),(0,[0]),(46,[]),(20,[]),(0,[25]),(0,[110]),(46,[]),(20,[]),(0,[26]),(0,[117]),(46,[]),(20,[]),(0,[27]),(0,[107]),(46,[]),(20,[]),(0,[28]),(0,[116]),(46,[]),(20,[]),(0,[29]),(0,[97]),(46,[]),(20,[]),(0,[30]),(0,[0]),(46,[]),(20,[]),(0,[31]),(0,[98]),(46,[]),(20,[]),(0,[32]),(0,[101]),(46,[]),(20,[]),(0,[33]),(0,[102]),(46,[]),(20,[]),(0,[34]),(0,[111]),(46,[]),(20,[]),(0,[35]),(0,[114]),(46,[]),(20,[]),(0,[36]),(0,[101]),(46,[]),(20,[]),(0,[37]),(0,[0]),(46,[]),(20,[]),(0,[38]),(0,[97]),(46,[]),(20,[]),(0,[39]),(0,[98]),(46,[]),(20,[]),(0,[40]),(0,[111]),(46,[]),(20,[]),(0,[41]),(0,[118]),(46,[]),(20,[]),(0,[42]),(0,[101]),(46,[]),(20,[]),(0,[43]),(0,[0]),(46,[]),(20,[]),(0,[44]),(0,[98]),(46,[]),(20,[]),(0,[45]),(0,[101]),(46,[]),(20,[]),(0,[46]),(0,[108]),(46,[]),(20,[]),(0,[47]),(0,[111]),(46,[]),(20,[]),(0,[48]),(0,[119]),(46,[]),(20,[]),(0,[49]),(0,[0]),(46,[]),(20,[]),(0,[50]),(0,[98]),(46,[]),(20,[]),(0,[51]),(0,[101]),(46,[]),(20,[]),(0,[52]),(0,[104]),(46,[]),(20,[]),(0,[53]),(0,[105]),(46,[]),(20,[]),(0,[54]),(0,[110]),(46,[]),(20,[]),(0,[55]),(0,[100]),(46,[]),(20,[]),(0,[56]),(0,[0]),(46,[]),(20,[]),(0,[57]),(0,[115]),(46,[]),(20,[]),(0,[58]),(0,[112]),(46,[]),(20,[]),(0,[59]),(0,[108]),(46,[]),(20,[]),(0,[60]),(0,[105]),(46,[]),(20,[]),(0,[61]),(0,[116]),(46,[]),(20,[]),(0,[62]),(0,[115]),(46,[]),(20,[]),(0,[63]),(0,[0]),(46,[]),(20,[]),(0,[64]),(0,[109]),(46,[]),(20,[]),(0,[65]),(0,[97]),(46,[]),(20,[]),(0,[66]),(0,[114]),(46,[]),(20,[]),(0,[67]),(0,[107]),(46,[]),(20,[]),(0,[68]),(0,[115]),(46,[]),(20,[]),(0,[69]),(0,[0]),(46,[]),(20,[]),(0,[70]),(0,[116]),(46,[]),(20,[]),(0,[71]),(0,[97]),(46,[]),(20,[]),(0,[72]),(0,[105]),(46,[]),(20,[]),(0,[73]),(0,[108]),(46,[]),(20,[]),(0,[74]),(0,[115]),(46,[]),(20,[]),(0,[75]),(0,[0]),(46,[]),(20,[]),(0,[76]),(0,[106]),(46,[]),(20,[]),(0,[77]),(0,[111]),(46,[]),(20,[]),(0,[78]),(0,[105]),(46,[]),(20,[]),(0,[79]),(0,[110]),(46,[]),(20,[]),(0,[80]),(0,[101]),(46,[]),(20,[]),(0,[81]),(0,[114]),(46,[]),(20,[]),(0,[82]),(0,[0]),(46,[]),(20,[]),(0,[83]),(0,[98]),(46,[]),(20,[]),(0,[84]),(0,[114]),(46,[]),(20,[]),(0,[85]),(0,[101]),(46,[]),(20,[]),(0,[86]),(0,[97]),(46,[]),(20,[]),(0,[87]),(0,[107]),(46,[]),(20,[]),(0,[88]),(0,[101]),(46,[]),(20,[]),(0,[89]),(0,[114]),(46,[]),(20,[]),(0,[90]),(0,[0]),(46,[]),(20,[]),(0,[91]),(0,[114]),(46,[]),(20,[]),(0,[92]),(0,[97]),(46,[]),(20,[]),(0,[93]),(0,[0]),(46,[]),(20,[]),(0,[94]),(0,[115]),(46,[]),(20,[]),(0,[95]),(0,[116]),(46,[]),(20,[]),(0,[96]),(0,[97]),(46,[]),(20,[]),(0,[97]),(0,[99]),(46,[]),(20,[]),(0,[98]),(0,[107]),(46,[]),(20,[]),(0,[99]),(0,[0]),(46,[]),(20,[]),(0,[100]),(0,[104]),(46,[]),(20,[]),(0,[101]),(0,[97]),(46,[]),(20,[]),(0,[102]),(0,[108]),(46,[]),(20,[]),(0,[103]),(0,[102]),(46,[]),(20,[]),(0,[104]),(0,[0]),(46,[]),(20,[]),(0,[105]),(0,[106]),(46,[]),(20,[]),(0,[106]),(0,[111]),(46,[]),(20,[]),(0,[107]),(0,[105]),(46,[]),(20,[]),(0,[108]),(0,[110]),(46,[]),(20,[]),(0,[109]),(0,[115]),(46,[]),(20,[]),(0,[110]),(0,[0]),(46,[]),(41,[106,12,42,1]),(3,[0]),(0,[549]),(50,[1]),(41,[109,12,44,1]),(3,[0]),(0,[60]),(50,[1]),(41,[112,12,45,1]),(3,[0]),(0,[60]),(50,[1]),(41,[115,12,47,1]),(3,[0]),(0,[61]),(50,[1]),(41,[118,12,48,1]),(3,[0]),(0,[61]),(50,[1]),(41,[121,12,49,1]),(3,[0]),(40,[13,12,1,1]),(60,[1,124,68,12]),(71,[])]
def kM_laysNone : List (Nat × List Int) := [(0,[0]),(5,[1]),(2,[1]),(0,[122]),(32,[13]),(2,[1]),(23,[11]),(3,[0]),(2,[1]),(0,[0]),(45,[]),(7,[1,1]),(35,[2]),(0,[0]),(5,[1]),(2,[1]),(0,[26]),(32,[32]),(3,[0]),(0,[54]),(2,[1]),(8,[]),(0,[-1]),(45,[]),(3,[0]),(0,[80]),(2,[1]),(8,[]),(0,[-1]),(45,[]),(7,[1,1]),(35,[15]),(71,[])]
def kM_copies : List (Nat × List Int) := [(0,[0]),(5,[5]),(2,[5]),(2,[4]),(32,[17]),(3,[2]),(2,[3]),(2,[5]),(8,[]),(3,[0]),(2,[1]),(2,[5]),(8,[]),(42,[]),(45,[]),(7,[5,1]),(35,[2]),(71,[])]
def kM_notes : List (Nat × List Int) := [(3,[0]),(40,[128,12,3,0]),(0,[10]),(30,[18]),(3,[0]),(40,[17,12,2,1]),(0,[182]),(3,[0]),(40,[17,12,2,1]),(0,[0]),(0,[1638]),(60,[1,131,69,12]),(3,[0]),(20,[]),(40,[128,12,3,0]),(0,[1]),(9,[]),(41,[128,12,3,0]),(3,[0]),(40,[13,12,1,1]),(0,[0]),(3,[0]),(40,[17,12,2,1]),(0,[182]),(3,[0]),(40,[128,12,3,0]),(10,[]),(0,[182]),(60,[1,131,69,12]),(3,[0]),(20,[]),(40,[128,12,3,0]),(0,[1]),(8,[]),(41,[128,12,3,0]),(71,[])]
def kM_many : List (Nat × List Int) := [(3,[0]),(40,[13,12,1,1]),(0,[0]),(42,[]),(70,[])]
def kM_letterAt : List (Nat × List Int) := [(3,[0]),(40,[13,12,1,1]),(0,[122]),(2,[1]),(8,[]),(42,[]),(70,[])]
def kM_isLetter : List (Nat × List Int) := [(2,[0]),(17,[]),(1,[0]),(1,[25,135]),(60,[1,137,66,12]),(73,[])]
def kM_kindOf : List (Nat × List Int) := [(3,[0]),(40,[13,12,1,1]),(0,[2]),(2,[1]),(8,[]),(42,[]),(70,[])]
def kM_does : List (Nat × List Int) := [(3,[0]),(40,[13,12,1,1]),(0,[28]),(2,[1]),(8,[]),(42,[]),(2,[2]),(15,[]),(23,[11]),(0,[1]),(35,[12]),(0,[0]),(73,[])]
def kM_kindAt : List (Nat × List Int) := [(2,[1]),(3,[0]),(60,[0,141,71,12]),(32,[10]),(3,[0]),(3,[0]),(2,[1]),(60,[0,145,72,12]),(60,[0,149,74,12]),(35,[11]),(0,[-1]),(70,[])]
def kM_doJoin : List (Nat × List Int) := [(0,[0]),(5,[3]),(2,[3]),(3,[0]),(0,[1]),(42,[]),(32,[31]),(3,[0]),(0,[106]),(0,[2]),(2,[3]),(10,[]),(8,[]),(42,[]),(2,[1]),(30,[29]),(3,[0]),(0,[106]),(0,[2]),(2,[3]),(10,[]),(8,[]),(0,[1]),(8,[]),(42,[]),(2,[2]),(30,[29]),(0,[1]),(73,[]),(7,[3,1]),(35,[2]),(0,[0]),(73,[])]
def kM_isSign : List (Nat × List Int) := [(2,[0]),(17,[]),(1,[5,152]),(1,[9,154]),(60,[1,137,66,12]),(73,[])]
def kM_isJoiner : List (Nat × List Int) := [(2,[0]),(0,[12]),(29,[6]),(2,[0]),(0,[13]),(30,[8]),(0,[1]),(35,[9]),(0,[0]),(73,[])]
def kM_laysConsonant : List (Nat × List Int) := [(3,[0]),(40,[54,12,16,1]),(3,[0]),(40,[156,12,21,0]),(2,[1]),(45,[]),(3,[0]),(40,[57,12,17,1]),(3,[0]),(40,[156,12,21,0]),(3,[0]),(2,[1]),(0,[1]),(8,[]),(60,[0,159,76,12]),(0,[4]),(30,[21]),(2,[1]),(0,[1]),(8,[]),(35,[22]),(0,[-1]),(45,[]),(3,[0]),(40,[60,12,18,1]),(3,[0]),(40,[156,12,21,0]),(0,[-1]),(45,[]),(3,[0]),(40,[63,12,19,1]),(3,[0]),(40,[156,12,21,0]),(0,[-1]),(45,[]),(3,[0]),(40,[66,12,20,1]),(3,[0]),(40,[156,12,21,0]),(0,[0]),(46,[]),(3,[0]),(20,[]),(40,[156,12,21,0]),(0,[1]),(8,[]),(41,[156,12,21,0]),(71,[])]
def kM_behind : List (Nat × List Int) := [(3,[0]),(40,[57,12,17,1]),(2,[1]),(42,[]),(0,[-1]),(30,[13]),(3,[0]),(40,[54,12,16,1]),(2,[1]),(42,[]),(0,[1]),(8,[]),(35,[19]),(3,[0]),(40,[57,12,17,1]),(2,[1]),(42,[]),(0,[1]),(8,[]),(70,[])]
def kM_chains : List (Nat × List Int) := [(3,[0]),(0,[0]),(41,[156,12,21,0]),(3,[0]),(2,[1]),(60,[0,162,80,12]),(3,[0]),(0,[0]),(60,[0,166,81,12]),(5,[2]),(0,[1]),(5,[3]),(2,[3]),(23,[87]),(3,[0]),(2,[2]),(60,[0,159,76,12]),(0,[3]),(29,[21]),(0,[-1]),(35,[35]),(3,[0]),(2,[2]),(0,[1]),(8,[]),(60,[0,159,76,12]),(60,[1,169,79,12]),(23,[32]),(2,[2]),(0,[2]),(8,[]),(35,[35]),(2,[2]),(0,[1]),(8,[]),(5,[4]),(2,[4]),(0,[-1]),(29,[46]),(3,[0]),(2,[4]),(60,[0,159,76,12]),(0,[1]),(30,[46]),(0,[1]),(35,[47]),(0,[0]),(5,[3]),(2,[3]),(24,[51]),(35,[12]),(3,[0]),(40,[60,12,18,1]),(3,[0]),(40,[156,12,21,0]),(0,[1]),(9,[]),(2,[2]),(45,[]),(3,[0]),(40,[63,12,19,1]),(3,[0]),(40,[156,12,21,0]),(0,[1]),(9,[]),(2,[4]),(2,[2]),(0,[2]),(8,[]),(30,[74]),(2,[2]),(0,[1]),(8,[]),(35,[75]),(0,[-1]),(45,[]),(3,[0]),(2,[4]),(60,[0,162,80,12]),(3,[0]),(3,[0]),(40,[156,12,21,0]),(0,[1]),(9,[]),(60,[0,166,81,12]),(5,[2]),(35,[12]),(2,[2]),(70,[])]
def kM_marksFrom : List (Nat × List Int) := [(2,[1]),(5,[2]),(3,[0]),(2,[2]),(60,[0,159,76,12]),(0,[10]),(29,[12]),(3,[0]),(2,[2]),(60,[0,159,76,12]),(0,[11]),(30,[14]),(7,[2,1]),(35,[2]),(2,[2]),(70,[])]
def kM_ends : List (Nat × List Int) := [(3,[0]),(2,[2]),(41,[173,12,22,0]),(2,[2]),(5,[3]),(3,[0]),(40,[33,12,8,1]),(2,[1]),(3,[0]),(2,[3]),(60,[0,159,76,12]),(0,[3]),(30,[15]),(0,[1]),(35,[16]),(0,[0]),(45,[]),(3,[0]),(40,[33,12,8,1]),(2,[1]),(42,[]),(0,[1]),(30,[31]),(7,[3,1]),(3,[0]),(2,[3]),(60,[0,159,76,12]),(60,[1,169,79,12]),(23,[38]),(7,[3,1]),(35,[38]),(3,[0]),(2,[3]),(60,[0,159,76,12]),(60,[1,176,78,12]),(23,[38]),(7,[3,1]),(35,[31]),(3,[0]),(2,[3]),(60,[0,179,83,12]),(70,[])]
def kM_isAheadOfBase : List (Nat × List Int) := [(2,[1]),(28,[12]),(3,[0]),(40,[63,12,19,1]),(2,[1]),(0,[1]),(9,[]),(42,[]),(0,[-1]),(29,[12]),(0,[1]),(35,[13]),(0,[0]),(73,[])]
def kM_baseOf : List (Nat × List Int) := [(3,[0]),(40,[156,12,21,0]),(0,[1]),(9,[]),(5,[2]),(2,[2]),(2,[1]),(31,[26]),(3,[0]),(3,[0]),(3,[0]),(40,[54,12,16,1]),(2,[2]),(42,[]),(60,[0,145,72,12]),(0,[2]),(60,[0,182,75,12]),(23,[22]),(3,[0]),(2,[2]),(60,[0,186,85,12]),(23,[24]),(2,[2]),(70,[]),(7,[2,-1]),(35,[5]),(2,[1]),(70,[])]
def kM_hasReph : List (Nat × List Int) := [(3,[0]),(40,[156,12,21,0]),(0,[1]),(34,[28]),(3,[0]),(3,[0]),(3,[0]),(40,[54,12,16,1]),(0,[0]),(42,[]),(60,[0,145,72,12]),(0,[1]),(60,[0,182,75,12]),(23,[28]),(3,[0]),(40,[57,12,17,1]),(0,[0]),(42,[]),(0,[-1]),(30,[28]),(3,[0]),(40,[63,12,19,1]),(0,[0]),(42,[]),(0,[-1]),(30,[28]),(0,[1]),(35,[29]),(0,[0]),(73,[])]
def kM_joinsChain : List (Nat × List Int) := [(2,[1]),(5,[3]),(2,[3]),(2,[2]),(32,[60]),(2,[3]),(2,[1]),(34,[17]),(3,[0]),(40,[66,12,20,1]),(2,[3]),(0,[1]),(9,[]),(43,[]),(23,[17]),(0,[1]),(35,[18]),(0,[0]),(5,[4]),(3,[0]),(40,[66,12,20,1]),(2,[3]),(2,[4]),(24,[56]),(3,[0]),(40,[63,12,19,1]),(2,[3]),(42,[]),(0,[-1]),(30,[56]),(3,[0]),(40,[57,12,17,1]),(2,[3]),(42,[]),(0,[-1]),(30,[56]),(3,[0]),(40,[13,12,1,1]),(3,[0]),(3,[0]),(40,[54,12,16,1]),(2,[3]),(42,[]),(60,[0,145,72,12]),(3,[0]),(3,[0]),(40,[54,12,16,1]),(2,[3]),(0,[1]),(8,[]),(42,[]),(60,[0,145,72,12]),(60,[1,189,77,12]),(23,[56]),(0,[1]),(35,[57]),(0,[0]),(46,[]),(7,[3,1]),(35,[2]),(71,[])]
def kM_laysCluster : List (Nat × List Int) := [(3,[0]),(2,[2]),(60,[0,159,76,12]),(5,[3]),(3,[0]),(40,[24,12,5,1]),(2,[1]),(2,[2]),(45,[]),(3,[0]),(40,[33,12,8,1]),(2,[1]),(0,[0]),(45,[]),(3,[0]),(0,[0]),(41,[156,12,21,0]),(3,[0]),(40,[39,12,10,1]),(2,[1]),(2,[2]),(45,[]),(3,[0]),(40,[42,12,11,1]),(2,[1]),(0,[0]),(45,[]),(3,[0]),(40,[45,12,12,1]),(2,[1]),(0,[0]),(45,[]),(3,[0]),(40,[48,12,13,1]),(2,[1]),(0,[0]),(45,[]),(2,[3]),(0,[1]),(30,[53]),(3,[0]),(40,[30,12,7,1]),(2,[1]),(0,[0]),(45,[]),(3,[0]),(2,[1]),(3,[0]),(2,[2]),(60,[0,193,82,12]),(60,[0,196,84,12]),(5,[4]),(35,[124]),(2,[3]),(0,[2]),(30,[83]),(3,[0]),(40,[30,12,7,1]),(2,[1]),(0,[1]),(45,[]),(3,[0]),(3,[0]),(2,[2]),(0,[1]),(8,[]),(60,[0,159,76,12]),(0,[4]),(30,[73]),(2,[2]),(0,[2]),(8,[]),(35,[76]),(2,[2]),(0,[1]),(8,[]),(41,[173,12,22,0]),(3,[0]),(3,[0]),(40,[173,12,22,0]),(60,[0,179,83,12]),(5,[4]),(35,[124]),(2,[3]),(23,[88]),(2,[3]),(60,[1,169,79,12]),(23,[102]),(3,[0]),(40,[30,12,7,1]),(2,[1]),(0,[3]),(45,[]),(3,[0]),(2,[2]),(0,[1]),(8,[]),(41,[173,12,22,0]),(3,[0]),(40,[173,12,22,0]),(5,[4]),(35,[124]),(3,[0]),(40,[30,12,7,1]),(2,[1]),(0,[2]),(45,[]),(3,[0]),(40,[39,12,10,1]),(2,[1]),(0,[-1]),(45,[]),(3,[0]),(2,[1]),(2,[3]),(0,[4]),(30,[121]),(2,[2]),(0,[1]),(8,[]),(35,[122]),(2,[2]),(60,[0,196,84,12]),(5,[4]),(3,[0]),(40,[27,12,6,1]),(2,[1]),(2,[4]),(2,[2]),(9,[]),(45,[]),(3,[0]),(40,[36,12,9,1]),(2,[1]),(3,[0]),(40,[156,12,21,0]),(45,[]),(3,[0]),(2,[1]),(2,[4]),(60,[0,200,101,12]),(2,[4]),(70,[])]
def kM_laysAll : List (Nat × List Int) := [(3,[0]),(0,[0]),(41,[204,12,15,0]),(3,[0]),(0,[0]),(41,[207,12,31,0]),(0,[0]),(5,[1]),(2,[1]),(3,[0]),(60,[0,141,71,12]),(32,[32]),(3,[0]),(40,[51,12,14,1]),(3,[0]),(40,[204,12,15,0]),(3,[0]),(40,[207,12,31,0]),(45,[]),(3,[0]),(3,[0]),(40,[204,12,15,0]),(2,[1]),(60,[0,210,89,12]),(5,[1]),(3,[0]),(20,[]),(40,[204,12,15,0]),(0,[1]),(8,[]),(41,[204,12,15,0]),(35,[8]),(3,[0]),(40,[24,12,5,1]),(3,[0]),(40,[204,12,15,0]),(2,[1]),(45,[]),(3,[0]),(40,[51,12,14,1]),(3,[0]),(40,[204,12,15,0]),(3,[0]),(40,[207,12,31,0]),(45,[]),(71,[])]
def kM_shows : List (Nat × List Int) := [(3,[0]),(40,[69,12,23,1]),(3,[0]),(40,[207,12,31,0]),(2,[3]),(45,[]),(3,[0]),(40,[72,12,24,1]),(3,[0]),(40,[207,12,31,0]),(2,[4]),(45,[]),(3,[0]),(40,[75,12,25,1]),(3,[0]),(40,[207,12,31,0]),(0,[-1]),(45,[]),(3,[0]),(40,[78,12,26,1]),(3,[0]),(40,[207,12,31,0]),(2,[5]),(45,[]),(3,[0]),(40,[81,12,27,1]),(3,[0]),(40,[207,12,31,0]),(2,[1]),(45,[]),(3,[0]),(40,[84,12,28,1]),(3,[0]),(40,[207,12,31,0]),(2,[2]),(45,[]),(3,[0]),(40,[87,12,29,1]),(3,[0]),(40,[207,12,31,0]),(3,[0]),(2,[3]),(2,[4]),(60,[0,213,93,12]),(45,[]),(2,[5]),(0,[-1]),(29,[54]),(3,[0]),(40,[90,12,30,1]),(2,[5]),(3,[0]),(40,[207,12,31,0]),(45,[]),(3,[0]),(20,[]),(40,[207,12,31,0]),(0,[1]),(8,[]),(41,[207,12,31,0]),(71,[])]
def kM_showsAt : List (Nat × List Int) := [(2,[4]),(0,[-1]),(29,[12]),(3,[0]),(2,[1]),(2,[2]),(2,[3]),(3,[0]),(2,[4]),(60,[0,145,72,12]),(2,[4]),(60,[0,216,91,12]),(71,[])]
def kM_widthOf : List (Nat × List Int) := [(2,[2]),(0,[-1]),(30,[5]),(0,[-1]),(35,[8]),(3,[0]),(2,[2]),(60,[0,149,74,12]),(5,[3]),(2,[1]),(37,[0,38,11,13,15,17,38,38,21,31,38,38,38,17,17,19]),(0,[4]),(70,[]),(0,[2]),(70,[]),(0,[5]),(70,[]),(0,[3]),(70,[]),(0,[4]),(70,[]),(2,[3]),(0,[5]),(29,[27]),(2,[3]),(0,[8]),(30,[29]),(0,[2]),(35,[30]),(0,[0]),(70,[]),(2,[3]),(0,[11]),(30,[36]),(0,[1]),(35,[37]),(0,[0]),(70,[]),(0,[0]),(70,[])]
def kM_showsSigns : List (Nat × List Int) := [(3,[0]),(40,[173,12,22,0]),(5,[5]),(2,[5]),(2,[4]),(32,[82]),(3,[0]),(2,[5]),(60,[0,145,72,12]),(5,[6]),(3,[0]),(2,[6]),(60,[0,149,74,12]),(2,[3]),(30,[21]),(3,[0]),(2,[1]),(2,[2]),(0,[6]),(2,[5]),(60,[0,220,92,12]),(3,[0]),(2,[6]),(60,[0,149,74,12]),(0,[9]),(29,[27]),(35,[80]),(3,[0]),(40,[13,12,1,1]),(0,[54]),(2,[6]),(8,[]),(42,[]),(5,[7]),(3,[0]),(40,[13,12,1,1]),(0,[80]),(2,[6]),(8,[]),(42,[]),(5,[8]),(3,[0]),(40,[90,12,30,1]),(2,[5]),(42,[]),(5,[9]),(3,[0]),(2,[7]),(60,[0,149,74,12]),(2,[3]),(30,[63]),(3,[0]),(2,[1]),(2,[2]),(0,[6]),(2,[7]),(2,[5]),(60,[0,216,91,12]),(3,[0]),(40,[207,12,31,0]),(0,[1]),(9,[]),(5,[9]),(3,[0]),(2,[8]),(60,[0,149,74,12]),(2,[3]),(30,[75]),(3,[0]),(2,[1]),(2,[2]),(0,[6]),(2,[8]),(2,[5]),(60,[0,216,91,12]),(3,[0]),(40,[90,12,30,1]),(2,[5]),(2,[9]),(45,[]),(7,[5,1]),(35,[3]),(71,[])]
def kM_showsKind : List (Nat × List Int) := [(3,[0]),(40,[173,12,22,0]),(5,[5]),(2,[5]),(2,[4]),(32,[19]),(3,[0]),(2,[5]),(60,[0,159,76,12]),(2,[3]),(30,[17]),(3,[0]),(2,[1]),(2,[2]),(0,[7]),(2,[5]),(60,[0,220,92,12]),(7,[5,1]),(35,[3]),(71,[])]
def kM_showsWith : List (Nat × List Int) := [(3,[0]),(40,[60,12,18,1]),(2,[1]),(42,[]),(0,[-1]),(29,[14]),(3,[0]),(40,[90,12,30,1]),(3,[0]),(40,[60,12,18,1]),(2,[1]),(42,[]),(2,[2]),(45,[]),(71,[])]
def kM_showsAhead : List (Nat × List Int) := [(3,[0]),(40,[66,12,20,1]),(2,[2]),(43,[]),(23,[9]),(2,[2]),(0,[1]),(8,[]),(35,[10]),(2,[2]),(5,[3]),(3,[0]),(3,[0]),(3,[0]),(40,[54,12,16,1]),(2,[3]),(42,[]),(60,[0,145,72,12]),(0,[4]),(60,[0,182,75,12]),(23,[37]),(3,[0]),(40,[63,12,19,1]),(2,[3]),(42,[]),(0,[-1]),(29,[35]),(3,[0]),(3,[0]),(40,[63,12,19,1]),(2,[3]),(42,[]),(60,[0,159,76,12]),(0,[13]),(29,[37]),(0,[1]),(35,[38]),(0,[0]),(5,[4]),(3,[0]),(2,[1]),(0,[1]),(2,[4]),(23,[53]),(3,[0]),(40,[66,12,20,1]),(2,[2]),(43,[]),(23,[51]),(0,[3]),(35,[61]),(0,[1]),(35,[61]),(3,[0]),(40,[66,12,20,1]),(2,[2]),(43,[]),(23,[60]),(0,[2]),(35,[61]),(0,[0]),(2,[2]),(60,[0,224,98,12]),(2,[4]),(23,[72]),(3,[0]),(2,[3]),(3,[0]),(40,[207,12,31,0]),(0,[1]),(9,[]),(60,[0,227,96,12]),(3,[0]),(2,[1]),(0,[1]),(0,[9]),(3,[0]),(40,[57,12,17,1]),(2,[3]),(42,[]),(60,[0,220,92,12]),(2,[4]),(24,[92]),(3,[0]),(2,[1]),(0,[1]),(0,[8]),(3,[0]),(40,[60,12,18,1]),(2,[3]),(42,[]),(60,[0,220,92,12]),(3,[0]),(2,[1]),(0,[1]),(0,[10]),(3,[0]),(40,[63,12,19,1]),(2,[3]),(42,[]),(60,[0,220,92,12]),(2,[3]),(0,[1]),(8,[]),(70,[])]
def kM_showsJoined : List (Nat × List Int) := [(3,[0]),(2,[1]),(2,[2]),(2,[3]),(3,[0]),(40,[54,12,16,1]),(2,[4]),(42,[]),(60,[0,220,92,12]),(3,[0]),(40,[66,12,20,1]),(2,[4]),(43,[]),(24,[15]),(71,[]),(3,[0]),(40,[75,12,25,1]),(3,[0]),(40,[207,12,31,0]),(0,[1]),(9,[]),(3,[0]),(3,[0]),(40,[54,12,16,1]),(2,[4]),(0,[1]),(8,[]),(42,[]),(60,[0,145,72,12]),(45,[]),(3,[0]),(40,[90,12,30,1]),(3,[0]),(40,[54,12,16,1]),(2,[4]),(0,[1]),(8,[]),(42,[]),(3,[0]),(40,[207,12,31,0]),(0,[1]),(9,[]),(45,[]),(3,[0]),(2,[4]),(3,[0]),(40,[207,12,31,0]),(0,[1]),(9,[]),(60,[0,227,96,12]),(71,[])]
def kM_showsStacked : List (Nat × List Int) := [(3,[0]),(2,[1]),(0,[3]),(0,[4]),(3,[0]),(40,[54,12,16,1]),(2,[2]),(42,[]),(60,[0,220,92,12]),(3,[0]),(2,[2]),(0,[1]),(9,[]),(3,[0]),(40,[207,12,31,0]),(0,[1]),(9,[]),(60,[0,227,96,12]),(3,[0]),(2,[1]),(0,[3]),(0,[9]),(3,[0]),(40,[57,12,17,1]),(2,[2]),(42,[]),(60,[0,220,92,12]),(71,[])]
def kM_joinerFrom : List (Nat × List Int) := [(3,[0]),(2,[1]),(60,[0,159,76,12]),(60,[1,169,79,12]),(23,[7]),(2,[1]),(35,[8]),(0,[-1]),(70,[])]
def kM_laysGlyphs : List (Nat × List Int) := [(3,[0]),(40,[30,12,7,1]),(2,[1]),(42,[]),(24,[10]),(3,[0]),(60,[0,230,87,12]),(23,[10]),(0,[1]),(35,[11]),(0,[0]),(5,[3]),(3,[0]),(40,[30,12,7,1]),(2,[1]),(42,[]),(24,[21]),(3,[0]),(2,[3]),(60,[0,234,86,12]),(35,[22]),(0,[0]),(5,[4]),(3,[0]),(40,[24,12,5,1]),(2,[1]),(42,[]),(5,[5]),(2,[5]),(2,[2]),(32,[38]),(3,[0]),(40,[90,12,30,1]),(2,[5]),(0,[-1]),(45,[]),(7,[5,1]),(35,[28]),(3,[0]),(2,[1]),(0,[0]),(0,[5]),(2,[2]),(60,[0,237,94,12]),(3,[0]),(40,[30,12,7,1]),(2,[1]),(42,[]),(24,[156]),(3,[0]),(2,[3]),(2,[4]),(60,[0,240,88,12]),(2,[3]),(5,[5]),(2,[5]),(2,[4]),(32,[74]),(3,[0]),(40,[66,12,20,1]),(2,[5]),(43,[]),(23,[68]),(2,[5]),(0,[1]),(8,[]),(2,[4]),(29,[74]),(3,[0]),(2,[1]),(2,[5]),(60,[0,243,97,12]),(5,[5]),(35,[55]),(3,[0]),(2,[1]),(0,[2]),(3,[0]),(40,[66,12,20,1]),(2,[5]),(43,[]),(23,[84]),(0,[2]),(35,[85]),(0,[0]),(2,[5]),(60,[0,224,98,12]),(3,[0]),(2,[1]),(0,[2]),(0,[9]),(3,[0]),(40,[57,12,17,1]),(2,[4]),(42,[]),(60,[0,220,92,12]),(2,[4]),(0,[1]),(8,[]),(5,[6]),(2,[6]),(3,[0]),(40,[156,12,21,0]),(32,[110]),(3,[0]),(2,[1]),(2,[6]),(60,[0,246,99,12]),(7,[6,1]),(35,[100]),(3,[0]),(40,[39,12,10,1]),(2,[1]),(3,[0]),(40,[54,12,16,1]),(2,[4]),(42,[]),(45,[]),(3,[0]),(40,[42,12,11,1]),(2,[1]),(2,[3]),(45,[]),(3,[0]),(40,[45,12,12,1]),(2,[1]),(3,[0]),(40,[156,12,21,0]),(0,[1]),(9,[]),(2,[4]),(9,[]),(45,[]),(2,[3]),(5,[6]),(2,[6]),(2,[4]),(32,[155]),(3,[0]),(40,[48,12,13,1]),(2,[1]),(22,[]),(42,[]),(3,[0]),(40,[66,12,20,1]),(2,[6]),(43,[]),(23,[150]),(0,[1]),(35,[151]),(0,[0]),(8,[]),(45,[]),(7,[6,1]),(35,[135]),(35,[163]),(3,[0]),(2,[1]),(3,[0]),(40,[24,12,5,1]),(2,[1]),(42,[]),(60,[0,249,102,12]),(3,[0]),(2,[1]),(0,[4]),(0,[7]),(2,[2]),(60,[0,237,94,12]),(3,[0]),(40,[33,12,8,1]),(2,[1]),(42,[]),(0,[1]),(30,[201]),(3,[0]),(2,[1]),(0,[4]),(0,[8]),(3,[0]),(40,[173,12,22,0]),(60,[0,220,92,12]),(3,[0]),(2,[1]),(0,[4]),(0,[10]),(3,[0]),(40,[173,12,22,0]),(0,[1]),(8,[]),(2,[2]),(32,[199]),(3,[0]),(3,[0]),(40,[173,12,22,0]),(0,[1]),(8,[]),(60,[0,252,100,12]),(35,[200]),(0,[-1]),(60,[0,220,92,12]),(3,[0]),(2,[1]),(0,[5]),(0,[6]),(2,[2]),(60,[0,237,94,12]),(2,[3]),(0,[1]),(30,[226]),(3,[0]),(2,[1]),(0,[6]),(0,[5]),(3,[0]),(40,[54,12,16,1]),(0,[0]),(42,[]),(60,[0,220,92,12]),(3,[0]),(0,[0]),(3,[0]),(40,[207,12,31,0]),(0,[1]),(9,[]),(60,[0,227,96,12]),(3,[0]),(2,[1]),(0,[7]),(0,[10]),(2,[2]),(60,[0,255,95,12]),(3,[0]),(2,[1]),(0,[8]),(0,[8]),(2,[2]),(60,[0,237,94,12]),(3,[0]),(2,[1]),(0,[9]),(0,[11]),(2,[2]),(60,[0,255,95,12]),(71,[])]
def kM_showsAlone : List (Nat × List Int) := [(3,[0]),(2,[2]),(60,[0,159,76,12]),(5,[3]),(3,[0]),(40,[30,12,7,1]),(2,[1]),(42,[]),(0,[1]),(30,[33]),(3,[0]),(2,[1]),(0,[2]),(0,[13]),(2,[2]),(60,[0,220,92,12]),(3,[0]),(2,[1]),(0,[2]),(0,[9]),(3,[0]),(40,[173,12,22,0]),(2,[2]),(0,[2]),(8,[]),(30,[30]),(2,[2]),(0,[1]),(8,[]),(35,[31]),(0,[-1]),(60,[0,220,92,12]),(35,[69]),(3,[0]),(40,[30,12,7,1]),(2,[1]),(42,[]),(0,[3]),(30,[51]),(3,[0]),(2,[1]),(0,[2]),(2,[3]),(60,[1,169,79,12]),(23,[47]),(0,[10]),(35,[48]),(0,[12]),(2,[2]),(60,[0,220,92,12]),(35,[69]),(3,[0]),(2,[1]),(0,[2]),(0,[11]),(0,[-1]),(0,[-1]),(60,[0,216,91,12]),(3,[0]),(2,[1]),(0,[2]),(0,[9]),(2,[3]),(0,[4]),(30,[67]),(2,[2]),(35,[68]),(0,[-1]),(60,[0,220,92,12]),(71,[])]
def kM_clusterWidth : List (Nat × List Int) := [(0,[0]),(5,[2]),(3,[0]),(40,[51,12,14,1]),(2,[1]),(42,[]),(5,[3]),(2,[3]),(3,[0]),(40,[51,12,14,1]),(2,[1]),(0,[1]),(8,[]),(42,[]),(32,[24]),(2,[2]),(3,[0]),(40,[87,12,29,1]),(2,[3]),(42,[]),(8,[]),(5,[2]),(7,[3,1]),(35,[7]),(2,[2]),(70,[])]
def kM_reads : List (Nat × List Int) := [(3,[0]),(40,[93,12,32,1]),(3,[0]),(40,[258,12,33,0]),(2,[1]),(45,[]),(3,[0]),(20,[]),(40,[258,12,33,0]),(0,[1]),(8,[]),(41,[258,12,33,0]),(71,[])]
def kM_readsSigns : List (Nat × List Int) := [(2,[2]),(5,[4]),(2,[4]),(2,[3]),(32,[61]),(3,[0]),(2,[4]),(60,[0,145,72,12]),(5,[5]),(3,[0]),(2,[5]),(60,[0,149,74,12]),(2,[1]),(30,[17]),(3,[0]),(2,[5]),(60,[0,261,104,12]),(3,[0]),(2,[5]),(60,[0,149,74,12]),(0,[9]),(29,[23]),(35,[59]),(3,[0]),(3,[0]),(40,[13,12,1,1]),(0,[54]),(2,[5]),(8,[]),(42,[]),(60,[0,149,74,12]),(2,[1]),(30,[41]),(3,[0]),(3,[0]),(40,[13,12,1,1]),(0,[54]),(2,[5]),(8,[]),(42,[]),(60,[0,261,104,12]),(3,[0]),(3,[0]),(40,[13,12,1,1]),(0,[80]),(2,[5]),(8,[]),(42,[]),(60,[0,149,74,12]),(2,[1]),(30,[59]),(3,[0]),(3,[0]),(40,[13,12,1,1]),(0,[80]),(2,[5]),(8,[]),(42,[]),(60,[0,261,104,12]),(7,[4,1]),(35,[2]),(71,[])]
def kM_readsBack : List (Nat × List Int) := [(3,[0]),(60,[0,264,90,12]),(3,[0]),(0,[0]),(41,[258,12,33,0]),(0,[0]),(5,[1]),(2,[1]),(3,[0]),(40,[204,12,15,0]),(32,[118]),(3,[0]),(40,[24,12,5,1]),(2,[1]),(42,[]),(5,[2]),(2,[2]),(3,[0]),(40,[24,12,5,1]),(2,[1]),(0,[1]),(8,[]),(42,[]),(32,[46]),(3,[0]),(2,[2]),(60,[0,159,76,12]),(60,[1,176,78,12]),(24,[44]),(3,[0]),(2,[2]),(60,[0,159,76,12]),(0,[10]),(29,[44]),(3,[0]),(2,[2]),(60,[0,159,76,12]),(0,[11]),(29,[44]),(3,[0]),(3,[0]),(2,[2]),(60,[0,145,72,12]),(60,[0,261,104,12]),(7,[2,1]),(35,[16]),(0,[5]),(5,[2]),(2,[2]),(0,[8]),(33,[66]),(3,[0]),(2,[2]),(3,[0]),(40,[24,12,5,1]),(2,[1]),(42,[]),(3,[0]),(40,[24,12,5,1]),(2,[1]),(0,[1]),(8,[]),(42,[]),(60,[0,267,105,12]),(7,[2,1]),(35,[48]),(3,[0]),(40,[24,12,5,1]),(2,[1]),(42,[]),(5,[2]),(2,[2]),(3,[0]),(40,[24,12,5,1]),(2,[1]),(0,[1]),(8,[]),(42,[]),(32,[91]),(3,[0]),(2,[2]),(60,[0,159,76,12]),(0,[10]),(30,[89]),(3,[0]),(3,[0]),(2,[2]),(60,[0,145,72,12]),(60,[0,261,104,12]),(7,[2,1]),(35,[71]),(3,[0]),(40,[24,12,5,1]),(2,[1]),(42,[]),(5,[2]),(2,[2]),(3,[0]),(40,[24,12,5,1]),(2,[1]),(0,[1]),(8,[]),(42,[]),(32,[116]),(3,[0]),(2,[2]),(60,[0,159,76,12]),(0,[11]),(30,[114]),(3,[0]),(3,[0]),(2,[2]),(60,[0,145,72,12]),(60,[0,261,104,12]),(7,[2,1]),(35,[96]),(7,[1,1]),(35,[7]),(71,[])]
def kM_feed : List (Nat × List Int) := [(3,[0]),(0,[0]),(41,[1,12,0,0]),(3,[0]),(40,[271,12,35,0]),(0,[20]),(8,[]),(0,[400]),(34,[11]),(0,[-3]),(70,[]),(0,[0]),(5,[6]),(2,[6]),(0,[20]),(32,[61]),(2,[6]),(0,[4]),(32,[21]),(2,[1]),(35,[37]),(2,[6]),(0,[8]),(32,[26]),(2,[2]),(35,[37]),(2,[6]),(0,[12]),(32,[31]),(2,[3]),(35,[37]),(2,[6]),(0,[16]),(32,[36]),(2,[4]),(35,[37]),(2,[5]),(5,[7]),(3,[0]),(40,[96,12,34,1]),(3,[0]),(40,[271,12,35,0]),(2,[7]),(0,[24]),(0,[8]),(2,[6]),(0,[4]),(11,[]),(10,[]),(9,[]),(13,[]),(18,[]),(46,[]),(3,[0]),(20,[]),(40,[271,12,35,0]),(0,[1]),(8,[]),(41,[271,12,35,0]),(7,[6,1]),(35,[13]),(3,[0]),(40,[271,12,35,0]),(70,[])]
def kM_see : List (Nat × List Int) := [(3,[0]),(40,[274,12,37,0]),(3,[0]),(40,[277,12,36,0]),(32,[13]),(3,[0]),(40,[96,12,34,1]),(3,[0]),(40,[274,12,37,0]),(43,[]),(0,[255]),(15,[]),(35,[14]),(0,[-1]),(70,[])]
def kM_fails : List (Nat × List Int) := [(3,[0]),(40,[280,12,38,0]),(23,[4]),(71,[]),(3,[0]),(2,[1]),(41,[280,12,38,0]),(3,[0]),(2,[2]),(41,[100,12,39,0]),(71,[])]
def kM_blanks : List (Nat × List Int) := [(3,[0]),(60,[0,283,108,12]),(0,[32]),(30,[11]),(3,[0]),(20,[]),(40,[274,12,37,0]),(0,[1]),(8,[]),(41,[274,12,37,0]),(35,[0]),(71,[])]
def kM_goesBy : List (Nat × List Int) := [(3,[0]),(60,[0,286,110,12]),(3,[0]),(40,[274,12,37,0]),(5,[1]),(3,[0]),(60,[0,283,108,12]),(17,[]),(1,[97,289]),(1,[122,291]),(60,[1,137,66,12]),(23,[19]),(3,[0]),(20,[]),(40,[274,12,37,0]),(0,[1]),(8,[]),(41,[274,12,37,0]),(35,[5]),(3,[0]),(40,[274,12,37,0]),(2,[1]),(30,[27]),(3,[0]),(0,[1]),(2,[1]),(60,[0,293,109,12]),(2,[1]),(70,[])]
def kM_wordFrom : List (Nat × List Int) := [(0,[0]),(5,[2]),(0,[1]),(5,[3]),(2,[3]),(0,[17]),(33,[63]),(2,[2]),(5,[4]),(3,[0]),(40,[106,12,42,1]),(2,[2]),(43,[]),(23,[16]),(7,[2,1]),(35,[9]),(2,[2]),(2,[4]),(9,[]),(3,[0]),(40,[274,12,37,0]),(2,[1]),(9,[]),(30,[26]),(0,[1]),(35,[27]),(0,[0]),(5,[5]),(0,[0]),(5,[6]),(2,[6]),(2,[2]),(2,[4]),(9,[]),(32,[56]),(2,[5]),(23,[56]),(3,[0]),(40,[106,12,42,1]),(2,[4]),(2,[6]),(8,[]),(43,[]),(3,[0]),(40,[96,12,34,1]),(2,[1]),(2,[6]),(8,[]),(43,[]),(30,[52]),(0,[1]),(35,[53]),(0,[0]),(5,[5]),(7,[6,1]),(35,[30]),(2,[5]),(23,[60]),(2,[3]),(70,[]),(7,[2,1]),(7,[3,1]),(35,[4]),(0,[-1]),(70,[])]
def kM_rowLetter : List (Nat × List Int) := [(3,[0]),(40,[96,12,34,1]),(2,[1]),(2,[2]),(8,[]),(43,[]),(0,[97]),(9,[]),(70,[])]
def kM_isSingle : List (Nat × List Int) := [(2,[0]),(0,[3]),(29,[15]),(2,[0]),(0,[4]),(29,[15]),(2,[0]),(0,[12]),(29,[15]),(2,[0]),(0,[13]),(29,[15]),(2,[0]),(0,[14]),(30,[17]),(0,[1]),(35,[18]),(0,[0]),(73,[])]
def kM_isTold : List (Nat × List Int) := [(2,[1]),(60,[1,296,114,12]),(23,[16]),(2,[3]),(0,[1]),(30,[14]),(3,[0]),(40,[299,12,41,0]),(2,[1]),(13,[]),(0,[1]),(15,[]),(0,[1]),(30,[16]),(0,[0]),(73,[]),(2,[1]),(60,[1,296,114,12]),(23,[27]),(3,[0]),(20,[]),(40,[299,12,41,0]),(0,[1]),(2,[1]),(12,[]),(16,[]),(41,[299,12,41,0]),(2,[1]),(0,[9]),(30,[35]),(3,[0]),(2,[2]),(2,[3]),(60,[0,302,117,12]),(73,[]),(2,[1]),(0,[17]),(30,[43]),(3,[0]),(2,[2]),(2,[3]),(60,[0,305,118,12]),(73,[]),(2,[1]),(0,[14]),(31,[62]),(3,[0]),(2,[2]),(2,[3]),(2,[1]),(0,[14]),(30,[54]),(0,[1]),(35,[60]),(2,[1]),(0,[15]),(30,[59]),(0,[2]),(35,[60]),(0,[4]),(60,[0,308,116,12]),(73,[]),(0,[0]),(5,[4]),(2,[4]),(2,[3]),(32,[90]),(3,[0]),(2,[2]),(2,[4]),(60,[0,312,113,12]),(5,[5]),(3,[0]),(40,[103,12,40,1]),(0,[2]),(2,[5]),(8,[]),(42,[]),(23,[81]),(0,[0]),(73,[]),(3,[0]),(40,[103,12,40,1]),(0,[2]),(2,[5]),(8,[]),(2,[1]),(45,[]),(7,[4,1]),(35,[64]),(0,[1]),(73,[])]
def kM_areMeant : List (Nat × List Int) := [(0,[0]),(5,[4]),(0,[0]),(5,[5]),(2,[5]),(2,[2]),(32,[47]),(3,[0]),(2,[1]),(2,[5]),(60,[0,312,113,12]),(5,[6]),(3,[0]),(40,[103,12,40,1]),(0,[2]),(2,[6]),(8,[]),(42,[]),(0,[1]),(30,[27]),(2,[4]),(2,[6]),(13,[]),(0,[1]),(15,[]),(0,[1]),(30,[29]),(0,[0]),(73,[]),(2,[4]),(0,[1]),(2,[6]),(12,[]),(16,[]),(5,[4]),(3,[0]),(40,[103,12,40,1]),(0,[28]),(2,[6]),(8,[]),(22,[]),(42,[]),(2,[3]),(16,[]),(45,[]),(7,[5,1]),(35,[4]),(0,[1]),(73,[])]
def kM_isSplit : List (Nat × List Int) := [(2,[2]),(0,[3]),(29,[5]),(0,[0]),(73,[]),(3,[0]),(2,[1]),(0,[0]),(60,[0,312,113,12]),(5,[3]),(3,[0]),(2,[1]),(0,[1]),(60,[0,312,113,12]),(5,[4]),(3,[0]),(2,[1]),(0,[2]),(60,[0,312,113,12]),(5,[5]),(3,[0]),(40,[103,12,40,1]),(0,[2]),(2,[3]),(8,[]),(42,[]),(24,[49]),(3,[0]),(40,[103,12,40,1]),(0,[2]),(2,[4]),(8,[]),(42,[]),(17,[]),(1,[5,152]),(1,[8,315]),(60,[1,137,66,12]),(23,[49]),(3,[0]),(40,[103,12,40,1]),(0,[2]),(2,[5]),(8,[]),(42,[]),(17,[]),(1,[5,152]),(1,[8,315]),(60,[1,137,66,12]),(24,[51]),(0,[0]),(73,[]),(3,[0]),(40,[103,12,40,1]),(0,[2]),(2,[3]),(8,[]),(0,[9]),(45,[]),(3,[0]),(40,[103,12,40,1]),(0,[54]),(2,[3]),(8,[]),(2,[4]),(45,[]),(3,[0]),(40,[103,12,40,1]),(0,[80]),(2,[3]),(8,[]),(2,[5]),(45,[]),(0,[1]),(73,[])]
def kM_isPair : List (Nat × List Int) := [(2,[2]),(0,[2]),(30,[9]),(3,[0]),(40,[103,12,40,1]),(0,[1]),(42,[]),(0,[8]),(30,[11]),(0,[0]),(73,[]),(3,[0]),(2,[1]),(0,[0]),(60,[0,312,113,12]),(5,[3]),(3,[0]),(2,[1]),(0,[1]),(60,[0,312,113,12]),(5,[4]),(3,[0]),(40,[103,12,40,1]),(0,[2]),(2,[3]),(8,[]),(42,[]),(0,[1]),(30,[43]),(3,[0]),(40,[103,12,40,1]),(0,[2]),(2,[4]),(8,[]),(42,[]),(0,[1]),(30,[43]),(3,[0]),(40,[103,12,40,1]),(2,[3]),(2,[4]),(60,[1,189,77,12]),(23,[45]),(0,[0]),(73,[]),(3,[0]),(40,[103,12,40,1]),(0,[106]),(0,[2]),(3,[0]),(40,[103,12,40,1]),(0,[1]),(42,[]),(10,[]),(8,[]),(2,[3]),(45,[]),(3,[0]),(40,[103,12,40,1]),(0,[106]),(0,[2]),(3,[0]),(40,[103,12,40,1]),(0,[1]),(42,[]),(10,[]),(8,[]),(0,[1]),(8,[]),(2,[4]),(45,[]),(3,[0]),(40,[103,12,40,1]),(0,[1]),(22,[]),(42,[]),(0,[1]),(8,[]),(45,[]),(0,[1]),(73,[])]
def kM_line : List (Nat × List Int) := [(3,[0]),(60,[0,317,111,12]),(5,[1]),(3,[0]),(40,[280,12,38,0]),(23,[7]),(71,[]),(3,[0]),(2,[1]),(60,[0,320,112,12]),(5,[2]),(2,[2]),(0,[-1]),(30,[18]),(3,[0]),(0,[2]),(2,[1]),(60,[0,293,109,12]),(3,[0]),(60,[0,317,111,12]),(5,[3]),(3,[0]),(40,[280,12,38,0]),(23,[25]),(71,[]),(3,[0]),(2,[2]),(2,[3]),(3,[0]),(40,[274,12,37,0]),(2,[3]),(9,[]),(60,[0,323,115,12]),(24,[38]),(3,[0]),(0,[3]),(2,[3]),(60,[0,293,109,12]),(3,[0]),(60,[0,286,110,12]),(3,[0]),(60,[0,283,108,12]),(0,[59]),(29,[49]),(3,[0]),(0,[1]),(3,[0]),(40,[274,12,37,0]),(60,[0,293,109,12]),(3,[0]),(20,[]),(40,[274,12,37,0]),(0,[1]),(8,[]),(41,[274,12,37,0]),(3,[0]),(60,[0,286,110,12]),(71,[])]
def kM_opensTape : List (Nat × List Int) := [(2,[1]),(17,[]),(1,[0]),(3,[0]),(40,[271,12,35,0]),(17,[]),(60,[1,137,66,12]),(24,[10]),(0,[-3]),(70,[]),(3,[0]),(0,[0]),(41,[271,12,35,0]),(3,[0]),(2,[1]),(41,[277,12,36,0]),(3,[0]),(0,[0]),(41,[274,12,37,0]),(3,[0]),(0,[0]),(41,[280,12,38,0]),(3,[0]),(0,[-1]),(41,[100,12,39,0]),(0,[0]),(70,[])]
def kM_lettersWithKind : List (Nat × List Int) := [(0,[0]),(5,[2]),(0,[0]),(5,[3]),(2,[3]),(0,[26]),(32,[21]),(2,[2]),(3,[1]),(0,[2]),(2,[3]),(8,[]),(42,[]),(23,[16]),(0,[1]),(35,[17]),(0,[0]),(8,[]),(5,[2]),(7,[3,1]),(35,[4]),(2,[2]),(70,[])]
def kM_script : List (Nat × List Int) := [(3,[0]),(0,[0]),(41,[1,12,0,0]),(3,[0]),(2,[1]),(60,[0,326,120,12]),(23,[9]),(0,[-3]),(70,[]),(3,[0]),(40,[103,12,40,1]),(60,[1,124,68,12]),(3,[0]),(0,[0]),(41,[299,12,41,0]),(3,[0]),(60,[0,286,110,12]),(3,[0]),(40,[280,12,38,0]),(24,[28]),(3,[0]),(40,[274,12,37,0]),(3,[0]),(40,[277,12,36,0]),(32,[28]),(3,[0]),(60,[0,329,119,12]),(35,[17]),(3,[0]),(40,[280,12,38,0]),(23,[36]),(0,[-30]),(3,[0]),(40,[280,12,38,0]),(9,[]),(70,[]),(3,[0]),(60,[0,332,70,12]),(3,[0]),(40,[103,12,40,1]),(0,[0]),(3,[0]),(60,[0,141,71,12]),(45,[]),(3,[0]),(40,[103,12,40,1]),(0,[0]),(3,[0]),(40,[13,12,1,1]),(0,[0]),(0,[122]),(60,[1,131,69,12]),(3,[0]),(3,[0]),(40,[13,12,1,1]),(60,[0,335,121,12]),(70,[])]
def kM_text : List (Nat × List Int) := [(3,[0]),(0,[0]),(41,[1,12,0,0]),(3,[0]),(2,[1]),(60,[0,326,120,12]),(23,[9]),(0,[-3]),(70,[]),(2,[1]),(0,[60]),(34,[14]),(0,[-4]),(70,[]),(2,[1]),(0,[1]),(9,[]),(5,[2]),(2,[2]),(25,[34]),(3,[0]),(40,[96,12,34,1]),(2,[2]),(43,[]),(17,[]),(1,[97,289]),(1,[122,291]),(60,[1,137,66,12]),(24,[32]),(3,[0]),(2,[2]),(41,[100,12,39,0]),(7,[2,-1]),(35,[18]),(3,[0]),(40,[100,12,39,0]),(0,[-1]),(29,[43]),(3,[0]),(0,[1]),(41,[280,12,38,0]),(0,[-31]),(70,[]),(3,[0]),(60,[0,332,70,12]),(0,[0]),(5,[2]),(2,[2]),(2,[1]),(32,[64]),(3,[0]),(40,[13,12,1,1]),(0,[122]),(2,[2]),(8,[]),(3,[0]),(40,[96,12,34,1]),(2,[2]),(43,[]),(0,[97]),(9,[]),(45,[]),(7,[2,1]),(35,[47]),(3,[0]),(40,[13,12,1,1]),(0,[0]),(2,[1]),(45,[]),(2,[1]),(70,[])]
def kM_fault : List (Nat × List Int) := [(3,[0]),(0,[0]),(41,[1,12,0,0]),(2,[1]),(24,[8]),(3,[0]),(40,[280,12,38,0]),(35,[15]),(2,[1]),(0,[1]),(30,[14]),(3,[0]),(40,[100,12,39,0]),(35,[15]),(0,[-1]),(70,[])]
def kM_insert : List (Nat × List Int) := [(3,[0]),(0,[0]),(41,[1,12,0,0]),(2,[2]),(60,[1,339,73,12]),(24,[8]),(0,[-3]),(70,[]),(2,[1]),(17,[]),(1,[0]),(3,[0]),(60,[0,141,71,12]),(17,[]),(60,[1,137,66,12]),(24,[18]),(0,[-5]),(70,[]),(3,[0]),(60,[0,141,71,12]),(0,[60]),(30,[24]),(0,[-4]),(70,[]),(3,[0]),(60,[0,332,70,12]),(3,[0]),(60,[0,141,71,12]),(5,[3]),(2,[3]),(2,[1]),(34,[48]),(3,[0]),(40,[13,12,1,1]),(0,[122]),(2,[3]),(8,[]),(3,[0]),(40,[13,12,1,1]),(0,[122]),(2,[3]),(8,[]),(0,[1]),(9,[]),(42,[]),(45,[]),(7,[3,-1]),(35,[29]),(3,[0]),(40,[13,12,1,1]),(0,[122]),(2,[1]),(8,[]),(2,[2]),(45,[]),(3,[0]),(40,[13,12,1,1]),(0,[0]),(22,[]),(42,[]),(0,[1]),(8,[]),(45,[]),(3,[0]),(60,[0,141,71,12]),(70,[])]
def kM_goes : List (Nat × List Int) := [(2,[1]),(5,[3]),(2,[3]),(2,[2]),(8,[]),(3,[0]),(60,[0,141,71,12]),(32,[24]),(3,[0]),(40,[13,12,1,1]),(0,[122]),(2,[3]),(8,[]),(3,[0]),(40,[13,12,1,1]),(0,[122]),(2,[3]),(8,[]),(2,[2]),(8,[]),(42,[]),(45,[]),(7,[3,1]),(35,[2]),(3,[0]),(40,[13,12,1,1]),(0,[0]),(22,[]),(42,[]),(2,[2]),(9,[]),(45,[]),(71,[])]
def kM_backspace : List (Nat × List Int) := [(3,[0]),(0,[0]),(41,[1,12,0,0]),(2,[1]),(17,[]),(1,[1]),(3,[0]),(60,[0,141,71,12]),(17,[]),(60,[1,137,66,12]),(24,[13]),(0,[-5]),(70,[]),(3,[0]),(60,[0,332,70,12]),(3,[0]),(2,[1]),(0,[1]),(9,[]),(60,[0,145,72,12]),(5,[2]),(3,[0]),(2,[1]),(0,[1]),(9,[]),(0,[1]),(60,[0,342,126,12]),(2,[2]),(70,[])]
def kM_clusterFrom : List (Nat × List Int) := [(3,[0]),(60,[0,264,90,12]),(0,[0]),(5,[2]),(2,[2]),(3,[0]),(40,[204,12,15,0]),(32,[18]),(3,[0]),(40,[24,12,5,1]),(2,[2]),(42,[]),(2,[1]),(30,[16]),(2,[2]),(70,[]),(7,[2,1]),(35,[4]),(0,[-1]),(70,[])]
def kM_delete : List (Nat × List Int) := [(3,[0]),(0,[0]),(41,[1,12,0,0]),(3,[0]),(2,[1]),(60,[0,345,128,12]),(5,[2]),(2,[2]),(0,[-1]),(30,[12]),(0,[-5]),(70,[]),(3,[0]),(60,[0,332,70,12]),(3,[0]),(2,[1]),(3,[0]),(40,[27,12,6,1]),(2,[2]),(42,[]),(60,[0,342,126,12]),(3,[0]),(40,[27,12,6,1]),(2,[2]),(42,[]),(70,[])]
def kM_erase : List (Nat × List Int) := [(3,[0]),(0,[0]),(41,[1,12,0,0]),(3,[0]),(60,[0,332,70,12]),(3,[0]),(60,[0,141,71,12]),(5,[1]),(3,[0]),(40,[13,12,1,1]),(0,[0]),(0,[0]),(45,[]),(2,[1]),(70,[])]
def kM_order : List (Nat × List Int) := [(3,[0]),(0,[0]),(41,[1,12,0,0]),(3,[0]),(60,[0,348,106,12]),(3,[0]),(40,[258,12,33,0]),(0,[60]),(34,[11]),(0,[-4]),(70,[]),(3,[0]),(60,[0,332,70,12]),(3,[0]),(40,[93,12,32,1]),(0,[0]),(3,[0]),(40,[13,12,1,1]),(0,[122]),(3,[0]),(40,[258,12,33,0]),(60,[1,131,69,12]),(3,[0]),(40,[13,12,1,1]),(0,[0]),(3,[0]),(40,[258,12,33,0]),(45,[]),(3,[0]),(40,[258,12,33,0]),(70,[])]
def kM_letter : List (Nat × List Int) := [(3,[0]),(0,[0]),(41,[1,12,0,0]),(2,[1]),(60,[1,339,73,12]),(24,[8]),(0,[-2]),(70,[]),(2,[2]),(37,[0,55,10,14,23,32,41,48]),(3,[0]),(2,[1]),(60,[0,149,74,12]),(70,[]),(3,[0]),(2,[1]),(0,[1]),(60,[0,182,75,12]),(23,[21]),(0,[1]),(35,[22]),(0,[0]),(70,[]),(3,[0]),(2,[1]),(0,[2]),(60,[0,182,75,12]),(23,[30]),(0,[1]),(35,[31]),(0,[0]),(70,[]),(3,[0]),(2,[1]),(0,[4]),(60,[0,182,75,12]),(23,[39]),(0,[1]),(35,[40]),(0,[0]),(70,[]),(3,[0]),(40,[13,12,1,1]),(0,[54]),(2,[1]),(8,[]),(42,[]),(70,[]),(3,[0]),(40,[13,12,1,1]),(0,[80]),(2,[1]),(8,[]),(42,[]),(70,[]),(0,[-2]),(70,[])]
def kM_joins : List (Nat × List Int) := [(3,[0]),(0,[0]),(41,[1,12,0,0]),(2,[1]),(60,[1,339,73,12]),(23,[9]),(2,[2]),(60,[1,339,73,12]),(24,[11]),(0,[-2]),(70,[]),(3,[0]),(40,[13,12,1,1]),(2,[1]),(2,[2]),(60,[1,189,77,12]),(23,[19]),(0,[1]),(35,[20]),(0,[0]),(70,[])]
def kM_at : List (Nat × List Int) := [(3,[0]),(0,[0]),(41,[1,12,0,0]),(2,[1]),(26,[7]),(0,[-3]),(70,[]),(2,[1]),(3,[0]),(60,[0,141,71,12]),(32,[15]),(3,[0]),(2,[1]),(60,[0,145,72,12]),(35,[16]),(0,[-1]),(70,[])]
def kM_clusters : List (Nat × List Int) := [(3,[0]),(0,[0]),(41,[1,12,0,0]),(3,[0]),(60,[0,264,90,12]),(3,[0]),(40,[204,12,15,0]),(70,[])]
def kM_isCluster : List (Nat × List Int) := [(3,[0]),(60,[0,264,90,12]),(2,[1]),(17,[]),(1,[0]),(3,[0]),(40,[204,12,15,0]),(0,[1]),(9,[]),(17,[]),(60,[1,137,66,12]),(73,[])]
def kM_cluster : List (Nat × List Int) := [(3,[0]),(0,[0]),(41,[1,12,0,0]),(3,[0]),(2,[1]),(60,[0,351,136,12]),(24,[9]),(0,[-2]),(70,[]),(2,[2]),(37,[0,72,11,16,21,26,31,36,41,46,51,56,68]),(3,[0]),(40,[24,12,5,1]),(2,[1]),(42,[]),(70,[]),(3,[0]),(40,[27,12,6,1]),(2,[1]),(42,[]),(70,[]),(3,[0]),(40,[30,12,7,1]),(2,[1]),(42,[]),(70,[]),(3,[0]),(40,[33,12,8,1]),(2,[1]),(42,[]),(70,[]),(3,[0]),(40,[36,12,9,1]),(2,[1]),(42,[]),(70,[]),(3,[0]),(40,[39,12,10,1]),(2,[1]),(42,[]),(70,[]),(3,[0]),(40,[42,12,11,1]),(2,[1]),(42,[]),(70,[]),(3,[0]),(40,[45,12,12,1]),(2,[1]),(42,[]),(70,[]),(3,[0]),(40,[48,12,13,1]),(2,[1]),(42,[]),(70,[]),(3,[0]),(40,[51,12,14,1]),(2,[1]),(0,[1]),(8,[]),(42,[]),(3,[0]),(40,[51,12,14,1]),(2,[1]),(42,[]),(9,[]),(70,[]),(3,[0]),(2,[1]),(60,[0,354,103,12]),(70,[]),(0,[-2]),(70,[])]
def kM_clusterWith : List (Nat × List Int) := [(0,[0]),(5,[2]),(3,[0]),(40,[24,12,5,1]),(2,[2]),(0,[1]),(8,[]),(42,[]),(2,[1]),(33,[12]),(7,[2,1]),(35,[2]),(2,[2]),(70,[])]
def kM_of : List (Nat × List Int) := [(3,[0]),(0,[0]),(41,[1,12,0,0]),(2,[1]),(26,[7]),(0,[-3]),(70,[]),(3,[0]),(60,[0,264,90,12]),(2,[1]),(3,[0]),(60,[0,141,71,12]),(32,[17]),(3,[0]),(2,[1]),(60,[0,357,138,12]),(35,[18]),(0,[-1]),(70,[])]
def kM_broken : List (Nat × List Int) := [(3,[0]),(0,[0]),(41,[1,12,0,0]),(2,[1]),(0,[-1]),(32,[8]),(0,[-3]),(70,[]),(3,[0]),(60,[0,264,90,12]),(0,[0]),(5,[2]),(0,[0]),(5,[3]),(2,[3]),(3,[0]),(40,[204,12,15,0]),(32,[33]),(3,[0]),(40,[30,12,7,1]),(2,[3]),(42,[]),(0,[2]),(29,[25]),(35,[31]),(2,[2]),(2,[1]),(30,[30]),(2,[3]),(70,[]),(7,[2,1]),(7,[3,1]),(35,[14]),(2,[1]),(0,[-1]),(30,[38]),(2,[2]),(35,[39]),(0,[-1]),(70,[])]
def kM_goesOn : List (Nat × List Int) := [(3,[0]),(0,[0]),(41,[360,12,43,2]),(2,[1]),(0,[1]),(29,[9]),(2,[1]),(0,[2]),(30,[11]),(0,[1]),(35,[12]),(0,[0]),(5,[3]),(2,[2]),(0,[1]),(30,[18]),(0,[1]),(70,[]),(2,[2]),(0,[2]),(30,[23]),(0,[7]),(70,[]),(2,[2]),(24,[27]),(0,[0]),(70,[]),(2,[2]),(60,[1,169,79,12]),(23,[42]),(2,[1]),(0,[3]),(30,[35]),(0,[4]),(35,[41]),(2,[1]),(0,[10]),(30,[40]),(0,[11]),(35,[41]),(0,[0]),(70,[]),(2,[2]),(0,[4]),(30,[65]),(2,[1]),(0,[1]),(30,[50]),(0,[2]),(70,[]),(3,[0]),(2,[1]),(0,[7]),(29,[56]),(0,[1]),(35,[57]),(0,[0]),(41,[360,12,43,2]),(3,[0]),(40,[360,12,43,2]),(23,[63]),(0,[9]),(35,[64]),(0,[8]),(70,[]),(2,[2]),(0,[3]),(30,[82]),(2,[3]),(23,[72]),(0,[3]),(70,[]),(3,[0]),(2,[1]),(0,[9]),(29,[78]),(0,[1]),(35,[79]),(0,[0]),(41,[360,12,43,2]),(0,[10]),(70,[]),(2,[2]),(60,[1,176,78,12]),(23,[100]),(3,[0]),(2,[3]),(24,[96]),(2,[1]),(0,[5]),(29,[96]),(2,[1]),(0,[9]),(29,[96]),(0,[1]),(35,[97]),(0,[0]),(41,[360,12,43,2]),(0,[5]),(70,[]),(3,[0]),(2,[1]),(24,[105]),(0,[1]),(35,[106]),(0,[0]),(41,[360,12,43,2]),(0,[6]),(70,[])]
def kM_brokenWith : List (Nat × List Int) := [(0,[0]),(5,[3]),(0,[0]),(5,[4]),(0,[0]),(5,[5]),(2,[5]),(3,[0]),(60,[0,141,71,12]),(33,[50]),(2,[5]),(2,[1]),(30,[27]),(3,[0]),(2,[3]),(2,[2]),(60,[0,364,141,12]),(5,[3]),(2,[4]),(3,[0]),(40,[360,12,43,2]),(23,[24]),(0,[1]),(35,[25]),(0,[0]),(8,[]),(5,[4]),(2,[5]),(3,[0]),(60,[0,141,71,12]),(30,[32]),(35,[48]),(3,[0]),(2,[3]),(3,[0]),(2,[5]),(60,[0,159,76,12]),(60,[0,364,141,12]),(5,[3]),(2,[4]),(3,[0]),(40,[360,12,43,2]),(23,[45]),(0,[1]),(35,[46]),(0,[0]),(8,[]),(5,[4]),(7,[5,1]),(35,[6]),(2,[4]),(70,[])]
def kM_may : List (Nat × List Int) := [(3,[0]),(0,[0]),(41,[1,12,0,0]),(2,[1]),(17,[]),(1,[0]),(3,[0]),(60,[0,141,71,12]),(17,[]),(60,[1,137,66,12]),(24,[13]),(0,[-5]),(70,[]),(3,[0]),(0,[-1]),(0,[0]),(60,[0,367,142,12]),(5,[2]),(0,[0]),(5,[3]),(0,[0]),(5,[4]),(2,[4]),(0,[26]),(32,[43]),(2,[3]),(3,[0]),(2,[1]),(3,[0]),(2,[4]),(60,[0,149,74,12]),(60,[0,367,142,12]),(2,[2]),(33,[38]),(0,[1]),(2,[4]),(12,[]),(35,[39]),(0,[0]),(16,[]),(5,[3]),(7,[4,1]),(35,[22]),(2,[3]),(70,[])]
def kM_keeps : List (Nat × List Int) := [(3,[0]),(2,[2]),(3,[0]),(2,[1]),(60,[0,159,76,12]),(60,[0,364,141,12]),(5,[3]),(3,[0]),(40,[360,12,43,2]),(23,[12]),(0,[268435456,370]),(35,[22]),(3,[0]),(40,[109,12,44,1]),(0,[9]),(2,[1]),(0,[1]),(8,[]),(10,[]),(2,[3]),(8,[]),(42,[]),(70,[])]
def kM_mends : List (Nat × List Int) := [(0,[0]),(5,[1]),(2,[1]),(0,[9]),(32,[17]),(3,[0]),(40,[109,12,44,1]),(0,[9]),(3,[0]),(60,[0,141,71,12]),(10,[]),(2,[1]),(8,[]),(0,[0]),(45,[]),(7,[1,1]),(35,[2]),(3,[0]),(60,[0,141,71,12]),(0,[1]),(9,[]),(5,[1]),(2,[1]),(25,[65]),(0,[0]),(5,[2]),(2,[2]),(0,[9]),(32,[63]),(0,[1]),(3,[0]),(40,[109,12,44,1]),(0,[9]),(2,[1]),(0,[1]),(8,[]),(10,[]),(2,[2]),(8,[]),(42,[]),(8,[]),(5,[3]),(3,[0]),(2,[1]),(2,[2]),(60,[0,371,144,12]),(5,[4]),(3,[0]),(40,[109,12,44,1]),(0,[9]),(2,[1]),(10,[]),(2,[2]),(8,[]),(2,[3]),(2,[4]),(32,[59]),(2,[3]),(35,[60]),(2,[4]),(45,[]),(7,[2,1]),(35,[26]),(7,[1,-1]),(35,[22]),(3,[0]),(0,[0]),(41,[374,12,46,0]),(0,[0]),(5,[1]),(0,[0]),(5,[2]),(2,[2]),(3,[0]),(60,[0,141,71,12]),(32,[119]),(0,[1]),(3,[0]),(40,[109,12,44,1]),(0,[9]),(2,[2]),(0,[1]),(8,[]),(10,[]),(2,[1]),(8,[]),(42,[]),(8,[]),(3,[0]),(40,[109,12,44,1]),(0,[9]),(2,[2]),(10,[]),(2,[1]),(8,[]),(42,[]),(30,[110]),(3,[0]),(40,[112,12,45,1]),(3,[0]),(40,[374,12,46,0]),(2,[2]),(45,[]),(3,[0]),(20,[]),(40,[374,12,46,0]),(0,[1]),(8,[]),(41,[374,12,46,0]),(35,[117]),(3,[0]),(2,[1]),(3,[0]),(2,[2]),(60,[0,159,76,12]),(60,[0,364,141,12]),(5,[1]),(7,[2,1]),(35,[72]),(71,[])]
def kM_mend : List (Nat × List Int) := [(3,[0]),(0,[0]),(41,[1,12,0,0]),(2,[1]),(0,[-1]),(32,[8]),(0,[-3]),(70,[]),(3,[0]),(60,[0,377,145,12]),(2,[1]),(0,[-1]),(30,[16]),(3,[0]),(40,[374,12,46,0]),(35,[26]),(2,[1]),(3,[0]),(40,[374,12,46,0]),(32,[25]),(3,[0]),(40,[112,12,45,1]),(2,[1]),(42,[]),(35,[26]),(0,[-1]),(70,[])]
def kM_mended : List (Nat × List Int) := [(3,[0]),(0,[0]),(41,[1,12,0,0]),(3,[0]),(60,[0,377,145,12]),(3,[0]),(60,[0,332,70,12]),(3,[0]),(40,[374,12,46,0]),(0,[1]),(9,[]),(5,[1]),(2,[1]),(25,[23]),(3,[0]),(3,[0]),(40,[112,12,45,1]),(2,[1]),(42,[]),(0,[1]),(60,[0,342,126,12]),(7,[1,-1]),(35,[12]),(3,[0]),(60,[0,141,71,12]),(70,[])]
def kM_glyphs : List (Nat × List Int) := [(3,[0]),(0,[0]),(41,[1,12,0,0]),(3,[0]),(60,[0,264,90,12]),(3,[0]),(40,[207,12,31,0]),(70,[])]
def kM_glyph : List (Nat × List Int) := [(3,[0]),(0,[0]),(41,[1,12,0,0]),(3,[0]),(60,[0,264,90,12]),(2,[1]),(17,[]),(1,[0]),(3,[0]),(40,[207,12,31,0]),(0,[1]),(9,[]),(17,[]),(60,[1,137,66,12]),(24,[17]),(0,[-2]),(70,[]),(2,[2]),(37,[0,54,19,24,29,34,39,44,49]),(3,[0]),(40,[69,12,23,1]),(2,[1]),(42,[]),(70,[]),(3,[0]),(40,[72,12,24,1]),(2,[1]),(42,[]),(70,[]),(3,[0]),(40,[75,12,25,1]),(2,[1]),(42,[]),(70,[]),(3,[0]),(40,[78,12,26,1]),(2,[1]),(42,[]),(70,[]),(3,[0]),(40,[81,12,27,1]),(2,[1]),(42,[]),(70,[]),(3,[0]),(40,[84,12,28,1]),(2,[1]),(42,[]),(70,[]),(3,[0]),(40,[87,12,29,1]),(2,[1]),(42,[]),(70,[]),(0,[-2]),(70,[])]
def kM_shown : List (Nat × List Int) := [(3,[0]),(0,[0]),(41,[1,12,0,0]),(2,[1]),(26,[7]),(0,[-3]),(70,[]),(3,[0]),(60,[0,264,90,12]),(2,[1]),(3,[0]),(60,[0,141,71,12]),(32,[18]),(3,[0]),(40,[90,12,30,1]),(2,[1]),(42,[]),(35,[19]),(0,[-1]),(70,[])]
def kM_back : List (Nat × List Int) := [(3,[0]),(0,[0]),(41,[1,12,0,0]),(2,[1]),(0,[-1]),(32,[8]),(0,[-3]),(70,[]),(3,[0]),(60,[0,348,106,12]),(2,[1]),(0,[-1]),(30,[16]),(3,[0]),(40,[258,12,33,0]),(35,[26]),(2,[1]),(3,[0]),(40,[258,12,33,0]),(32,[25]),(3,[0]),(40,[93,12,32,1]),(2,[1]),(42,[]),(35,[26]),(0,[-1]),(70,[])]
def kM_isOrdered : List (Nat × List Int) := [(3,[0]),(0,[0]),(41,[1,12,0,0]),(3,[0]),(60,[0,348,106,12]),(3,[0]),(40,[258,12,33,0]),(3,[0]),(60,[0,141,71,12]),(30,[12]),(0,[1]),(35,[13]),(0,[0]),(5,[1]),(0,[0]),(5,[2]),(2,[2]),(3,[0]),(60,[0,141,71,12]),(32,[36]),(2,[1]),(23,[36]),(3,[0]),(40,[93,12,32,1]),(2,[2]),(42,[]),(3,[0]),(2,[2]),(60,[0,145,72,12]),(30,[32]),(0,[1]),(35,[33]),(0,[0]),(5,[1]),(7,[2,1]),(35,[16]),(2,[1]),(23,[40]),(0,[1]),(35,[41]),(0,[0]),(70,[])]
def kM_stops : List (Nat × List Int) := [(3,[0]),(0,[0]),(41,[1,12,0,0]),(3,[0]),(60,[0,264,90,12]),(3,[0]),(40,[204,12,15,0]),(0,[1]),(8,[]),(70,[])]
def kM_stop : List (Nat × List Int) := [(3,[0]),(0,[0]),(41,[1,12,0,0]),(2,[1]),(26,[7]),(0,[-3]),(70,[]),(3,[0]),(60,[0,264,90,12]),(2,[1]),(3,[0]),(40,[204,12,15,0]),(33,[18]),(3,[0]),(40,[24,12,5,1]),(2,[1]),(42,[]),(35,[19]),(0,[-1]),(70,[])]
def kM_next : List (Nat × List Int) := [(3,[0]),(0,[0]),(41,[1,12,0,0]),(2,[2]),(0,[1]),(29,[11]),(2,[2]),(0,[-1]),(29,[11]),(0,[-3]),(70,[]),(2,[1]),(17,[]),(1,[0]),(3,[0]),(60,[0,141,71,12]),(17,[]),(60,[1,137,66,12]),(24,[21]),(0,[-5]),(70,[]),(3,[0]),(60,[0,264,90,12]),(2,[2]),(0,[1]),(30,[46]),(0,[0]),(5,[3]),(2,[3]),(3,[0]),(40,[204,12,15,0]),(33,[45]),(3,[0]),(40,[24,12,5,1]),(2,[3]),(42,[]),(2,[1]),(34,[43]),(3,[0]),(40,[24,12,5,1]),(2,[3]),(42,[]),(70,[]),(7,[3,1]),(35,[28]),(35,[64]),(3,[0]),(40,[204,12,15,0]),(5,[3]),(2,[3]),(25,[64]),(3,[0]),(40,[24,12,5,1]),(2,[3]),(42,[]),(2,[1]),(32,[62]),(3,[0]),(40,[24,12,5,1]),(2,[3]),(42,[]),(70,[]),(7,[3,-1]),(35,[49]),(0,[-1]),(70,[])]
def kM_stopOf : List (Nat × List Int) := [(0,[0]),(5,[2]),(2,[2]),(3,[0]),(40,[204,12,15,0]),(33,[16]),(3,[0]),(40,[24,12,5,1]),(2,[2]),(42,[]),(2,[1]),(30,[14]),(2,[2]),(70,[]),(7,[2,1]),(35,[2]),(0,[-1]),(70,[])]
def kM_xOf : List (Nat × List Int) := [(0,[0]),(5,[2]),(0,[0]),(5,[3]),(2,[3]),(2,[1]),(32,[15]),(2,[2]),(3,[0]),(2,[3]),(60,[0,354,103,12]),(8,[]),(5,[2]),(7,[3,1]),(35,[4]),(2,[2]),(70,[])]
def kM_x : List (Nat × List Int) := [(3,[0]),(0,[0]),(41,[1,12,0,0]),(3,[0]),(60,[0,264,90,12]),(3,[0]),(2,[1]),(60,[0,380,156,12]),(5,[2]),(2,[2]),(0,[-1]),(30,[14]),(0,[-5]),(35,[17]),(3,[0]),(2,[2]),(60,[0,383,157,12]),(70,[])]
def kM_apart : List (Nat × List Int) := [(2,[0]),(2,[1]),(32,[7]),(2,[1]),(2,[0]),(9,[]),(35,[10]),(2,[0]),(2,[1]),(9,[]),(70,[])]
def kM_hit : List (Nat × List Int) := [(3,[0]),(0,[0]),(41,[1,12,0,0]),(2,[1]),(17,[]),(1,[0]),(1,[999,386]),(60,[1,137,66,12]),(24,[11]),(0,[-3]),(70,[]),(3,[0]),(60,[0,264,90,12]),(0,[0]),(5,[2]),(0,[1]),(5,[3]),(2,[3]),(3,[0]),(40,[204,12,15,0]),(33,[36]),(3,[0]),(2,[3]),(60,[0,383,157,12]),(2,[1]),(60,[1,388,159,12]),(3,[0]),(2,[2]),(60,[0,383,157,12]),(2,[1]),(60,[1,388,159,12]),(32,[34]),(2,[3]),(5,[2]),(7,[3,1]),(35,[17]),(3,[0]),(40,[24,12,5,1]),(2,[2]),(42,[]),(70,[])]
def kM_allFit : List (Nat × List Int) := [(0,[0]),(5,[2]),(2,[2]),(3,[0]),(40,[204,12,15,0]),(32,[15]),(3,[0]),(2,[2]),(60,[0,354,103,12]),(2,[1]),(34,[13]),(0,[0]),(73,[]),(7,[2,1]),(35,[2]),(0,[1]),(73,[])]
def kM_fillsLines : List (Nat × List Int) := [(3,[0]),(60,[0,264,90,12]),(3,[0]),(0,[0]),(41,[391,12,50,0]),(3,[0]),(2,[1]),(60,[0,394,161,12]),(24,[11]),(0,[0]),(73,[]),(0,[0]),(5,[2]),(2,[2]),(3,[0]),(40,[204,12,15,0]),(32,[51]),(0,[0]),(5,[3]),(2,[2]),(3,[0]),(40,[204,12,15,0]),(32,[38]),(2,[3]),(3,[0]),(2,[2]),(60,[0,354,103,12]),(8,[]),(2,[1]),(33,[38]),(2,[3]),(3,[0]),(2,[2]),(60,[0,354,103,12]),(8,[]),(5,[3]),(7,[2,1]),(35,[19]),(3,[0]),(40,[115,12,47,1]),(3,[0]),(40,[391,12,50,0]),(2,[2]),(45,[]),(3,[0]),(20,[]),(40,[391,12,50,0]),(0,[1]),(8,[]),(41,[391,12,50,0]),(35,[13]),(0,[1]),(73,[])]
def kM_lines : List (Nat × List Int) := [(3,[0]),(0,[0]),(41,[1,12,0,0]),(2,[1]),(17,[]),(1,[1]),(1,[200,397]),(60,[1,137,66,12]),(24,[11]),(0,[-3]),(70,[]),(3,[0]),(2,[1]),(60,[0,399,162,12]),(23,[18]),(3,[0]),(40,[391,12,50,0]),(35,[19]),(0,[-1]),(70,[])]
def kM_lineEnd : List (Nat × List Int) := [(3,[0]),(0,[0]),(41,[1,12,0,0]),(2,[1]),(17,[]),(1,[1]),(1,[200,397]),(60,[1,137,66,12]),(23,[11]),(2,[2]),(26,[13]),(0,[-3]),(70,[]),(3,[0]),(2,[1]),(60,[0,399,162,12]),(23,[29]),(2,[2]),(3,[0]),(40,[391,12,50,0]),(32,[29]),(3,[0]),(40,[24,12,5,1]),(3,[0]),(40,[115,12,47,1]),(2,[2]),(42,[]),(42,[]),(35,[30]),(0,[-1]),(70,[])]
def kM_evens : List (Nat × List Int) := [(3,[0]),(60,[0,264,90,12]),(3,[0]),(2,[1]),(60,[0,394,161,12]),(24,[8]),(0,[0]),(73,[]),(3,[0]),(40,[118,12,48,1]),(3,[0]),(40,[204,12,15,0]),(0,[0]),(45,[]),(3,[0]),(40,[204,12,15,0]),(0,[1]),(9,[]),(5,[2]),(2,[2]),(25,[88]),(3,[0]),(40,[118,12,48,1]),(2,[2]),(0,[268435456,370]),(45,[]),(0,[0]),(5,[3]),(2,[2]),(0,[1]),(8,[]),(5,[4]),(2,[4]),(3,[0]),(40,[204,12,15,0]),(33,[86]),(2,[3]),(3,[0]),(2,[4]),(0,[1]),(9,[]),(60,[0,354,103,12]),(8,[]),(5,[3]),(2,[3]),(2,[1]),(34,[48]),(35,[86]),(2,[4]),(3,[0]),(40,[204,12,15,0]),(30,[54]),(0,[0]),(35,[66]),(2,[1]),(2,[3]),(9,[]),(2,[1]),(2,[3]),(9,[]),(10,[]),(3,[0]),(40,[118,12,48,1]),(2,[4]),(42,[]),(8,[]),(5,[5]),(2,[5]),(3,[0]),(40,[118,12,48,1]),(2,[2]),(42,[]),(34,[74]),(35,[84]),(3,[0]),(40,[118,12,48,1]),(2,[2]),(2,[5]),(45,[]),(3,[0]),(40,[121,12,49,1]),(2,[2]),(2,[4]),(45,[]),(7,[4,1]),(35,[32]),(7,[2,-1]),(35,[19]),(3,[0]),(0,[0]),(41,[391,12,50,0]),(0,[0]),(5,[2]),(2,[2]),(3,[0]),(40,[204,12,15,0]),(32,[118]),(3,[0]),(40,[115,12,47,1]),(3,[0]),(40,[391,12,50,0]),(3,[0]),(40,[121,12,49,1]),(2,[2]),(42,[]),(45,[]),(3,[0]),(20,[]),(40,[391,12,50,0]),(0,[1]),(8,[]),(41,[391,12,50,0]),(3,[0]),(40,[121,12,49,1]),(2,[2]),(42,[]),(5,[2]),(35,[93]),(0,[1]),(73,[])]
def kM_even : List (Nat × List Int) := [(3,[0]),(0,[0]),(41,[1,12,0,0]),(2,[1]),(17,[]),(1,[1]),(1,[200,397]),(60,[1,137,66,12]),(24,[11]),(0,[-3]),(70,[]),(3,[0]),(2,[1]),(60,[0,402,165,12]),(23,[20]),(3,[0]),(40,[118,12,48,1]),(0,[0]),(42,[]),(35,[21]),(0,[-1]),(70,[])]
def kM_evenEnd : List (Nat × List Int) := [(3,[0]),(0,[0]),(41,[1,12,0,0]),(2,[1]),(17,[]),(1,[1]),(1,[200,397]),(60,[1,137,66,12]),(23,[11]),(2,[2]),(26,[13]),(0,[-3]),(70,[]),(3,[0]),(2,[1]),(60,[0,402,165,12]),(23,[29]),(2,[2]),(3,[0]),(40,[391,12,50,0]),(32,[29]),(3,[0]),(40,[24,12,5,1]),(3,[0]),(40,[115,12,47,1]),(2,[2]),(42,[]),(42,[]),(35,[30]),(0,[-1]),(70,[])]
def kM_narrowest : List (Nat × List Int) := [(3,[0]),(0,[0]),(41,[1,12,0,0]),(2,[1]),(17,[]),(1,[1]),(1,[60,405]),(60,[1,137,66,12]),(24,[11]),(0,[-3]),(70,[]),(0,[1]),(5,[2]),(2,[2]),(0,[200]),(33,[31]),(3,[0]),(2,[2]),(60,[0,399,162,12]),(23,[29]),(3,[0]),(40,[391,12,50,0]),(28,[29]),(3,[0]),(40,[391,12,50,0]),(2,[1]),(33,[29]),(2,[2]),(70,[]),(7,[2,1]),(35,[13]),(0,[-1]),(70,[])]
def kM_find : List (Nat × List Int) := [(3,[0]),(0,[0]),(41,[1,12,0,0]),(2,[1]),(17,[]),(1,[0]),(3,[0]),(40,[271,12,35,0]),(17,[]),(60,[1,137,66,12]),(24,[13]),(0,[-3]),(70,[]),(2,[2]),(17,[]),(1,[0]),(3,[0]),(60,[0,141,71,12]),(17,[]),(60,[1,137,66,12]),(24,[23]),(0,[-5]),(70,[]),(3,[0]),(0,[0]),(41,[271,12,35,0]),(3,[0]),(60,[0,264,90,12]),(2,[2]),(5,[3]),(2,[3]),(2,[1]),(8,[]),(3,[0]),(60,[0,141,71,12]),(33,[85]),(2,[1]),(28,[85]),(3,[0]),(2,[3]),(60,[0,380,156,12]),(0,[-1]),(29,[52]),(3,[0]),(2,[3]),(2,[1]),(8,[]),(60,[0,380,156,12]),(0,[-1]),(29,[52]),(0,[1]),(35,[53]),(0,[0]),(5,[4]),(0,[0]),(5,[5]),(2,[5]),(2,[1]),(32,[79]),(2,[4]),(23,[79]),(3,[0]),(40,[96,12,34,1]),(2,[5]),(43,[]),(0,[97]),(3,[0]),(2,[3]),(2,[5]),(8,[]),(60,[0,145,72,12]),(8,[]),(30,[75]),(0,[1]),(35,[76]),(0,[0]),(5,[4]),(7,[5,1]),(35,[56]),(2,[4]),(23,[83]),(2,[3]),(70,[]),(7,[3,1]),(35,[30]),(0,[-1]),(70,[])]
def kM_glyphsOrder : List (Nat × List Int) := [(3,[0]),(40,[72,12,24,1]),(2,[1]),(42,[]),(0,[-1]),(30,[8]),(0,[26]),(35,[12]),(3,[0]),(40,[72,12,24,1]),(2,[1]),(42,[]),(5,[3]),(3,[0]),(40,[72,12,24,1]),(2,[2]),(42,[]),(0,[-1]),(30,[21]),(0,[26]),(35,[25]),(3,[0]),(40,[72,12,24,1]),(2,[2]),(42,[]),(5,[4]),(2,[3]),(2,[4]),(29,[36]),(2,[3]),(2,[4]),(32,[34]),(0,[1]),(35,[35]),(0,[2]),(70,[]),(3,[0]),(40,[69,12,23,1]),(2,[1]),(42,[]),(3,[0]),(40,[69,12,23,1]),(2,[2]),(42,[]),(29,[58]),(3,[0]),(40,[69,12,23,1]),(2,[1]),(42,[]),(3,[0]),(40,[69,12,23,1]),(2,[2]),(42,[]),(32,[56]),(0,[1]),(35,[57]),(0,[2]),(70,[]),(3,[0]),(40,[75,12,25,1]),(2,[1]),(42,[]),(3,[0]),(40,[75,12,25,1]),(2,[2]),(42,[]),(30,[69]),(0,[0]),(35,[81]),(3,[0]),(40,[75,12,25,1]),(2,[1]),(42,[]),(3,[0]),(40,[75,12,25,1]),(2,[2]),(42,[]),(32,[80]),(0,[1]),(35,[81]),(0,[2]),(70,[])]
def kM_baseGlyph : List (Nat × List Int) := [(3,[0]),(40,[51,12,14,1]),(2,[1]),(42,[]),(5,[2]),(3,[0]),(40,[84,12,28,1]),(2,[2]),(42,[]),(0,[2]),(29,[13]),(7,[2,1]),(35,[5]),(2,[2]),(70,[])]
def kM_inOrder : List (Nat × List Int) := [(3,[0]),(3,[0]),(2,[1]),(60,[0,407,171,12]),(3,[0]),(2,[2]),(60,[0,407,171,12]),(60,[0,410,170,12]),(5,[3]),(3,[0]),(40,[51,12,14,1]),(2,[1]),(42,[]),(5,[4]),(3,[0]),(40,[51,12,14,1]),(2,[2]),(42,[]),(5,[5]),(2,[3]),(24,[45]),(2,[4]),(3,[0]),(40,[51,12,14,1]),(2,[1]),(0,[1]),(8,[]),(42,[]),(32,[45]),(2,[5]),(3,[0]),(40,[51,12,14,1]),(2,[2]),(0,[1]),(8,[]),(42,[]),(32,[45]),(3,[0]),(2,[4]),(2,[5]),(60,[0,410,170,12]),(5,[3]),(7,[4,1]),(7,[5,1]),(35,[19]),(2,[3]),(23,[49]),(2,[3]),(70,[]),(2,[4]),(3,[0]),(40,[51,12,14,1]),(2,[1]),(0,[1]),(8,[]),(42,[]),(30,[59]),(0,[1]),(35,[60]),(0,[0]),(5,[6]),(2,[5]),(3,[0]),(40,[51,12,14,1]),(2,[2]),(0,[1]),(8,[]),(42,[]),(30,[71]),(0,[1]),(35,[72]),(0,[0]),(5,[7]),(2,[6]),(2,[7]),(30,[78]),(0,[0]),(35,[83]),(2,[6]),(23,[82]),(0,[1]),(35,[83]),(0,[2]),(70,[])]
def kM_compare : List (Nat × List Int) := [(3,[0]),(0,[0]),(41,[1,12,0,0]),(3,[0]),(2,[1]),(60,[0,351,136,12]),(23,[16]),(3,[0]),(2,[2]),(60,[0,351,136,12]),(23,[16]),(3,[0]),(2,[1]),(2,[2]),(60,[0,413,172,12]),(35,[17]),(0,[-2]),(70,[])]
def kM_alike : List (Nat × List Int) := [(3,[0]),(0,[0]),(41,[1,12,0,0]),(3,[0]),(2,[1]),(60,[0,351,136,12]),(23,[11]),(3,[0]),(2,[2]),(60,[0,351,136,12]),(24,[13]),(0,[-2]),(70,[]),(3,[0]),(2,[1]),(2,[2]),(60,[0,413,172,12]),(24,[20]),(0,[1]),(35,[21]),(0,[0]),(70,[])]
def kM_kinds : List (Nat × List Int) := [(3,[0]),(0,[0]),(41,[1,12,0,0]),(3,[0]),(60,[0,264,90,12]),(0,[0]),(5,[1]),(0,[0]),(5,[2]),(2,[2]),(3,[0]),(40,[204,12,15,0]),(32,[43]),(0,[1]),(5,[3]),(0,[0]),(5,[4]),(2,[4]),(2,[2]),(32,[33]),(2,[3]),(23,[33]),(3,[0]),(2,[2]),(2,[4]),(60,[0,413,172,12]),(23,[29]),(0,[1]),(35,[30]),(0,[0]),(5,[3]),(7,[4,1]),(35,[17]),(2,[1]),(2,[3]),(23,[38]),(0,[1]),(35,[39]),(0,[0]),(8,[]),(5,[1]),(7,[2,1]),(35,[9]),(2,[1]),(70,[])]
def kM_ranked : List (Nat × List Int) := [(3,[0]),(0,[0]),(41,[1,12,0,0]),(2,[1]),(26,[7]),(0,[-3]),(70,[]),(3,[0]),(60,[0,264,90,12]),(0,[0]),(5,[2]),(2,[2]),(3,[0]),(40,[204,12,15,0]),(32,[52]),(0,[0]),(5,[3]),(0,[0]),(5,[4]),(2,[4]),(3,[0]),(40,[204,12,15,0]),(32,[45]),(2,[3]),(3,[0]),(2,[4]),(2,[2]),(60,[0,413,172,12]),(0,[1]),(29,[38]),(2,[4]),(2,[2]),(32,[40]),(3,[0]),(2,[4]),(2,[2]),(60,[0,413,172,12]),(24,[40]),(0,[1]),(35,[41]),(0,[0]),(8,[]),(5,[3]),(7,[4,1]),(35,[19]),(2,[3]),(2,[1]),(30,[50]),(2,[2]),(70,[]),(7,[2,1]),(35,[11]),(0,[-1]),(70,[])]
def kM_undo : List (Nat × List Int) := [(3,[0]),(0,[0]),(41,[1,12,0,0]),(2,[1]),(17,[]),(1,[1]),(1,[10,416]),(60,[1,137,66,12]),(23,[13]),(2,[1]),(3,[0]),(40,[128,12,3,0]),(34,[15]),(0,[-3]),(70,[]),(3,[0]),(20,[]),(40,[128,12,3,0]),(2,[1]),(9,[]),(41,[128,12,3,0]),(3,[0]),(40,[17,12,2,1]),(0,[182]),(3,[0]),(40,[128,12,3,0]),(10,[]),(3,[0]),(40,[13,12,1,1]),(0,[0]),(0,[182]),(60,[1,131,69,12]),(3,[0]),(40,[128,12,3,0]),(70,[])]
def kM_image : List (Nat × List Int) := [(3,[0]),(0,[0]),(41,[1,12,0,0]),(2,[1]),(17,[]),(1,[0]),(1,[1]),(60,[1,137,66,12]),(24,[11]),(0,[-2]),(70,[]),(3,[0]),(40,[13,12,1,1]),(0,[0]),(3,[0]),(40,[13,12,1,1]),(0,[182]),(2,[1]),(0,[1]),(8,[]),(10,[]),(0,[182]),(60,[1,131,69,12]),(3,[0]),(40,[20,12,4,1]),(2,[1]),(0,[1]),(46,[]),(0,[0]),(70,[])]
def kM_restore : List (Nat × List Int) := [(3,[0]),(0,[0]),(41,[1,12,0,0]),(2,[1]),(17,[]),(1,[0]),(1,[1]),(60,[1,137,66,12]),(24,[11]),(0,[-2]),(70,[]),(3,[0]),(40,[20,12,4,1]),(2,[1]),(43,[]),(24,[18]),(0,[-6]),(70,[]),(3,[0]),(40,[13,12,1,1]),(0,[182]),(2,[1]),(0,[1]),(8,[]),(10,[]),(3,[0]),(40,[13,12,1,1]),(0,[0]),(0,[182]),(60,[1,131,69,12]),(3,[0]),(0,[0]),(41,[128,12,3,0]),(0,[0]),(70,[])]
def kM_ofForm : List (Nat × List Int) := [(0,[0]),(5,[2]),(0,[0]),(5,[3]),(2,[3]),(3,[0]),(40,[207,12,31,0]),(32,[22]),(2,[2]),(3,[0]),(40,[69,12,23,1]),(2,[3]),(42,[]),(2,[1]),(30,[17]),(0,[1]),(35,[18]),(0,[0]),(8,[]),(5,[2]),(7,[3,1]),(35,[4]),(2,[2]),(70,[])]
def kM_count : List (Nat × List Int) := [(3,[0]),(0,[0]),(41,[1,12,0,0]),(3,[0]),(60,[0,264,90,12]),(2,[1]),(37,[0,39,7,10,15,20,23,26,31,35]),(3,[0]),(60,[0,141,71,12]),(70,[]),(3,[0]),(3,[0]),(40,[13,12,1,1]),(60,[0,335,121,12]),(70,[]),(3,[0]),(40,[13,12,1,1]),(0,[1]),(42,[]),(70,[]),(3,[0]),(40,[271,12,35,0]),(70,[]),(3,[0]),(40,[128,12,3,0]),(70,[]),(3,[0]),(3,[0]),(40,[204,12,15,0]),(60,[0,383,157,12]),(70,[]),(3,[0]),(0,[10]),(60,[0,418,180,12]),(70,[]),(3,[0]),(0,[8]),(60,[0,418,180,12]),(70,[]),(0,[-1]),(70,[])]
def kAn_init : List (Nat × List Int) := [(3,[0]),(53,[3]),(3,[0]),(0,[0]),(41,[9,1,0,0]),(3,[0]),(0,[0]),(41,[15,1,1,0]),(3,[0]),(0,[0]),(41,[18,1,2,0]),(3,[0]),(0,[0]),(41,[21,1,3,0]),(3,[0]),(0,[3]),(41,[24,1,4,0]),(3,[0]),(0,[0]),(41,[27,1,5,0]),(3,[0]),(0,[0]),(41,[30,1,6,0]),(3,[0]),(0,[0]),(41,[33,1,7,0]),(3,[0]),(0,[-1]),(41,[36,1,8,0]),(3,[0]),(0,[0]),(41,[39,1,9,2]),(3,[0]),(0,[60]),(50,[1]),(41,[43,1,10,1]),(3,[0]),(0,[60]),(50,[1]),(41,[47,1,11,1]),(3,[0]),(0,[60]),(50,[1]),(41,[50,1,12,1]),(3,[0]),(0,[60]),(50,[1]),(41,[53,1,13,1]),(3,[0]),(0,[60]),(50,[3]),(41,[56,1,14,1]),(71,[])]
def kAn_study : List (Nat × List Int) := [(3,[0]),(3,[2]),(2,[3]),(0,[2]),(60,[0,60,194,2]),(41,[24,1,4,0]),(3,[0]),(3,[2]),(2,[3]),(0,[0]),(60,[0,60,194,2]),(41,[27,1,5,0]),(3,[0]),(3,[2]),(2,[3]),(60,[0,66,195,2]),(41,[30,1,6,0]),(3,[0]),(0,[0]),(41,[9,1,0,0]),(3,[0]),(0,[0]),(41,[15,1,1,0]),(3,[0]),(0,[0]),(41,[18,1,2,0]),(3,[0]),(0,[0]),(41,[21,1,3,0]),(3,[0]),(3,[0]),(40,[30,1,6,0]),(41,[33,1,7,0]),(3,[0]),(0,[-1]),(41,[36,1,8,0]),(3,[0]),(40,[24,1,4,0]),(24,[60]),(3,[0]),(3,[2]),(60,[0,70,184,1]),(3,[0]),(3,[0]),(3,[1]),(60,[0,74,186,1]),(23,[49]),(0,[1]),(35,[50]),(0,[0]),(41,[18,1,2,0]),(3,[0]),(3,[0]),(3,[1]),(60,[0,78,187,1]),(41,[15,1,1,0]),(3,[0]),(3,[1]),(60,[0,82,188,1]),(35,[98]),(3,[0]),(40,[24,1,4,0]),(0,[3]),(29,[98]),(3,[0]),(3,[0]),(40,[24,1,4,0]),(0,[1]),(30,[74]),(3,[0]),(40,[27,1,5,0]),(0,[1]),(8,[]),(35,[76]),(3,[0]),(40,[27,1,5,0]),(41,[33,1,7,0]),(3,[0]),(40,[33,1,7,0]),(3,[0]),(40,[30,1,6,0]),(32,[98]),(3,[2]),(3,[0]),(40,[33,1,7,0]),(60,[0,86,197,2]),(0,[4]),(30,[98]),(3,[0]),(3,[0]),(40,[33,1,7,0]),(41,[36,1,8,0]),(3,[0]),(20,[]),(40,[33,1,7,0]),(0,[1]),(8,[]),(41,[33,1,7,0]),(3,[0]),(3,[0]),(40,[33,1,7,0]),(3,[0]),(40,[30,1,6,0]),(32,[112]),(3,[2]),(3,[0]),(40,[33,1,7,0]),(60,[0,86,197,2]),(0,[3]),(30,[112]),(0,[1]),(35,[113]),(0,[0]),(41,[39,1,9,2]),(71,[])]
def kAn_readChain : List (Nat × List Int) := [(3,[0]),(40,[27,1,5,0]),(5,[2]),(2,[2]),(3,[0]),(40,[30,1,6,0]),(32,[91]),(3,[0]),(40,[9,1,0,0]),(0,[60]),(32,[91]),(3,[1]),(2,[2]),(60,[0,86,197,2]),(0,[1]),(30,[89]),(3,[0]),(3,[1]),(2,[2]),(60,[0,89,185,1]),(3,[0]),(40,[43,1,10,1]),(3,[0]),(40,[9,1,0,0]),(2,[2]),(45,[]),(3,[0]),(40,[47,1,11,1]),(3,[0]),(40,[9,1,0,0]),(2,[2]),(0,[1]),(8,[]),(3,[0]),(40,[30,1,6,0]),(32,[47]),(3,[1]),(2,[2]),(0,[1]),(8,[]),(60,[0,86,197,2]),(0,[4]),(30,[47]),(2,[2]),(0,[1]),(8,[]),(35,[48]),(0,[-1]),(45,[]),(3,[0]),(40,[50,1,12,1]),(3,[0]),(40,[9,1,0,0]),(0,[-1]),(45,[]),(3,[0]),(40,[53,1,13,1]),(3,[0]),(40,[9,1,0,0]),(0,[-1]),(45,[]),(3,[0]),(40,[56,1,14,1]),(3,[0]),(40,[9,1,0,0]),(0,[0]),(46,[]),(3,[0]),(3,[0]),(40,[47,1,11,1]),(3,[0]),(40,[9,1,0,0]),(42,[]),(0,[-1]),(30,[79]),(2,[2]),(0,[1]),(8,[]),(35,[82]),(2,[2]),(0,[2]),(8,[]),(41,[33,1,7,0]),(3,[0]),(20,[]),(40,[9,1,0,0]),(0,[1]),(8,[]),(41,[9,1,0,0]),(7,[2,1]),(35,[3]),(71,[])]
def kAn_readBetween : List (Nat × List Int) := [(3,[0]),(40,[9,1,0,0]),(24,[4]),(71,[]),(3,[0]),(40,[50,1,12,1]),(3,[0]),(40,[9,1,0,0]),(0,[1]),(9,[]),(3,[0]),(40,[33,1,7,0]),(45,[]),(3,[1]),(2,[2]),(0,[1]),(9,[]),(60,[0,86,197,2]),(60,[1,93,54,0]),(23,[30]),(3,[0]),(40,[53,1,13,1]),(3,[0]),(40,[9,1,0,0]),(0,[1]),(9,[]),(2,[2]),(0,[1]),(9,[]),(45,[]),(71,[])]
def kAn_hasReph : List (Nat × List Int) := [(3,[0]),(40,[9,1,0,0]),(0,[1]),(34,[28]),(3,[1]),(3,[0]),(40,[43,1,10,1]),(0,[0]),(42,[]),(60,[0,97,272,10]),(3,[1]),(40,[102,10,0,1]),(40,[106,9,4,0]),(30,[28]),(3,[0]),(40,[47,1,11,1]),(0,[0]),(42,[]),(0,[-1]),(30,[28]),(3,[0]),(40,[53,1,13,1]),(0,[0]),(42,[]),(0,[-1]),(30,[28]),(0,[1]),(35,[29]),(0,[0]),(73,[])]
def kAn_chosenBase : List (Nat × List Int) := [(3,[0]),(40,[9,1,0,0]),(0,[1]),(9,[]),(5,[2]),(2,[2]),(3,[0]),(40,[18,1,2,0]),(34,[32]),(3,[1]),(40,[102,10,0,1]),(40,[111,9,5,0]),(3,[1]),(3,[0]),(40,[43,1,10,1]),(2,[2]),(42,[]),(60,[0,97,272,10]),(60,[1,114,56,0]),(23,[28]),(3,[0]),(40,[53,1,13,1]),(2,[2]),(0,[1]),(9,[]),(42,[]),(0,[-1]),(29,[30]),(2,[2]),(70,[]),(7,[2,-1]),(35,[5]),(3,[0]),(40,[18,1,2,0]),(70,[])]
def kAn_joinPairs : List (Nat × List Int) := [(3,[0]),(40,[18,1,2,0]),(5,[2]),(2,[2]),(3,[0]),(40,[15,1,1,0]),(32,[73]),(2,[2]),(3,[0]),(40,[18,1,2,0]),(34,[20]),(3,[0]),(40,[56,1,14,1]),(2,[2]),(0,[1]),(9,[]),(43,[]),(23,[20]),(0,[1]),(35,[21]),(0,[0]),(5,[3]),(2,[3]),(24,[38]),(3,[0]),(40,[53,1,13,1]),(2,[2]),(42,[]),(0,[-1]),(30,[38]),(3,[0]),(40,[47,1,11,1]),(2,[2]),(42,[]),(0,[-1]),(30,[38]),(0,[1]),(35,[39]),(0,[0]),(5,[4]),(2,[4]),(23,[71]),(3,[1]),(40,[102,10,0,1]),(3,[1]),(3,[0]),(40,[43,1,10,1]),(2,[2]),(42,[]),(60,[0,97,272,10]),(3,[1]),(3,[0]),(40,[43,1,10,1]),(2,[2]),(0,[1]),(8,[]),(42,[]),(60,[0,97,272,10]),(60,[0,117,268,9]),(23,[71]),(3,[0]),(40,[56,1,14,1]),(2,[2]),(0,[1]),(46,[]),(3,[0]),(20,[]),(40,[21,1,3,0]),(0,[1]),(8,[]),(41,[21,1,3,0]),(7,[2,1]),(35,[3]),(71,[])]
def kAn_basePlace : List (Nat × List Int) := [(3,[0]),(40,[24,1,4,0]),(0,[2]),(30,[6]),(0,[-1]),(70,[]),(3,[0]),(40,[24,1,4,0]),(24,[20]),(3,[0]),(40,[15,1,1,0]),(3,[0]),(40,[9,1,0,0]),(32,[20]),(3,[0]),(40,[43,1,10,1]),(3,[0]),(40,[15,1,1,0]),(42,[]),(35,[22]),(3,[0]),(40,[27,1,5,0]),(70,[])]
def kCu_init : List (Nat × List Int) := [(3,[0]),(53,[3]),(3,[0]),(0,[0]),(41,[9,2,0,0]),(3,[0]),(0,[0]),(41,[15,2,1,0]),(3,[0]),(0,[60]),(50,[1]),(41,[18,2,2,1]),(3,[0]),(0,[60]),(50,[1]),(41,[22,2,3,1]),(3,[0]),(0,[11]),(0,[60]),(52,[25]),(41,[27,2,4,1]),(71,[])]
def kCu_split : List (Nat × List Int) := [(3,[0]),(0,[0]),(41,[9,2,0,0]),(3,[0]),(3,[1]),(40,[30,10,2,0]),(41,[15,2,1,0]),(0,[0]),(5,[2]),(0,[0]),(5,[3]),(2,[3]),(3,[0]),(40,[15,2,1,0]),(32,[103]),(2,[3]),(0,[60]),(32,[103]),(3,[0]),(40,[18,2,2,1]),(2,[3]),(3,[1]),(40,[33,10,0,1]),(3,[1]),(2,[3]),(60,[0,37,272,10]),(60,[0,41,266,9]),(45,[]),(3,[0]),(40,[9,2,0,0]),(23,[39]),(2,[2]),(3,[0]),(40,[18,2,2,1]),(2,[3]),(42,[]),(60,[1,46,57,0]),(0,[-1]),(30,[73]),(3,[0]),(40,[27,2,4,1]),(0,[0]),(44,[]),(3,[0]),(40,[9,2,0,0]),(2,[3]),(45,[]),(3,[0]),(40,[27,2,4,1]),(0,[1]),(44,[]),(3,[0]),(40,[9,2,0,0]),(0,[0]),(45,[]),(3,[0]),(40,[27,2,4,1]),(0,[2]),(44,[]),(3,[0]),(40,[9,2,0,0]),(3,[0]),(40,[18,2,2,1]),(2,[3]),(42,[]),(60,[1,50,60,0]),(45,[]),(3,[0]),(20,[]),(40,[9,2,0,0]),(0,[1]),(8,[]),(41,[9,2,0,0]),(3,[0]),(40,[27,2,4,1]),(0,[1]),(44,[]),(3,[0]),(40,[9,2,0,0]),(0,[1]),(9,[]),(22,[]),(42,[]),(0,[1]),(8,[]),(45,[]),(3,[0]),(40,[22,2,3,1]),(2,[3]),(3,[0]),(40,[9,2,0,0]),(0,[1]),(9,[]),(45,[]),(2,[2]),(3,[0]),(40,[18,2,2,1]),(2,[3]),(42,[]),(60,[1,53,61,0]),(5,[2]),(7,[3,1]),(35,[11]),(71,[])]
def kCu_describe : List (Nat × List Int) := [(3,[0]),(2,[1]),(60,[0,56,193,2]),(24,[5]),(71,[]),(3,[0]),(40,[27,2,4,1]),(0,[3]),(44,[]),(2,[1]),(3,[2]),(40,[60,1,9,2]),(23,[15]),(0,[1]),(35,[16]),(0,[0]),(45,[]),(3,[0]),(40,[27,2,4,1]),(0,[4]),(44,[]),(2,[1]),(3,[2]),(40,[66,1,0,0]),(45,[]),(3,[0]),(40,[27,2,4,1]),(0,[5]),(44,[]),(2,[1]),(3,[2]),(60,[0,67,189,1]),(45,[]),(3,[0]),(40,[27,2,4,1]),(0,[6]),(44,[]),(2,[1]),(3,[2]),(40,[71,1,2,0]),(45,[]),(3,[0]),(40,[27,2,4,1]),(0,[7]),(44,[]),(2,[1]),(3,[2]),(40,[66,1,0,0]),(24,[51]),(0,[0]),(35,[58]),(3,[2]),(40,[66,1,0,0]),(0,[1]),(9,[]),(3,[2]),(40,[74,1,1,0]),(9,[]),(45,[]),(3,[0]),(40,[27,2,4,1]),(0,[8]),(44,[]),(2,[1]),(3,[2]),(40,[77,1,3,0]),(45,[]),(71,[])]
def kCu_has : List (Nat × List Int) := [(2,[1]),(25,[8]),(2,[1]),(3,[0]),(40,[9,2,0,0]),(32,[8]),(0,[1]),(35,[9]),(0,[0]),(73,[])]
def kCu_factOf : List (Nat × List Int) := [(3,[0]),(2,[1]),(60,[0,56,193,2]),(23,[16]),(2,[2]),(25,[16]),(2,[2]),(0,[11]),(32,[16]),(3,[0]),(40,[27,2,4,1]),(2,[2]),(44,[]),(2,[1]),(42,[]),(35,[17]),(0,[-1]),(70,[])]
def kCu_endOf : List (Nat × List Int) := [(3,[0]),(2,[1]),(60,[0,56,193,2]),(23,[18]),(3,[0]),(40,[27,2,4,1]),(0,[0]),(44,[]),(2,[1]),(42,[]),(3,[0]),(40,[27,2,4,1]),(0,[1]),(44,[]),(2,[1]),(42,[]),(8,[]),(35,[19]),(0,[0]),(70,[])]
def kCu_ownerOf : List (Nat × List Int) := [(2,[1]),(25,[11]),(2,[1]),(3,[0]),(40,[15,2,1,0]),(32,[11]),(3,[0]),(40,[22,2,3,1]),(2,[1]),(42,[]),(35,[12]),(0,[-1]),(70,[])]
def kCu_kindAt : List (Nat × List Int) := [(2,[1]),(25,[11]),(2,[1]),(3,[0]),(40,[15,2,1,0]),(32,[11]),(3,[0]),(40,[18,2,2,1]),(2,[1]),(42,[]),(35,[12]),(0,[-1]),(70,[])]
def kCu_brokenAt : List (Nat × List Int) := [(0,[0]),(5,[2]),(0,[0]),(5,[3]),(2,[3]),(3,[0]),(40,[9,2,0,0]),(32,[24]),(3,[0]),(40,[27,2,4,1]),(0,[2]),(44,[]),(2,[3]),(42,[]),(0,[2]),(30,[22]),(2,[2]),(2,[1]),(30,[21]),(2,[3]),(70,[]),(7,[2,1]),(7,[3,1]),(35,[4]),(0,[-1]),(70,[])]
def kCu_brokenWith : List (Nat × List Int) := [(0,[0]),(5,[3]),(0,[0]),(5,[4]),(0,[0]),(5,[5]),(2,[5]),(3,[0]),(40,[15,2,1,0]),(33,[51]),(2,[5]),(2,[1]),(30,[27]),(2,[3]),(2,[4]),(2,[2]),(60,[1,80,62,0]),(23,[20]),(0,[1]),(35,[21]),(0,[0]),(8,[]),(5,[3]),(2,[4]),(2,[2]),(60,[1,53,61,0]),(5,[4]),(2,[5]),(3,[0]),(40,[15,2,1,0]),(32,[49]),(2,[3]),(2,[4]),(3,[0]),(2,[5]),(60,[0,84,197,2]),(60,[1,80,62,0]),(23,[40]),(0,[1]),(35,[41]),(0,[0]),(8,[]),(5,[3]),(2,[4]),(3,[0]),(2,[5]),(60,[0,84,197,2]),(60,[1,53,61,0]),(5,[4]),(7,[5,1]),(35,[6]),(2,[3]),(70,[])]
def kCu_stopPlace : List (Nat × List Int) := [(2,[1]),(25,[6]),(2,[1]),(3,[0]),(40,[9,2,0,0]),(34,[8]),(0,[-1]),(70,[]),(2,[1]),(3,[0]),(40,[9,2,0,0]),(30,[15]),(3,[0]),(40,[15,2,1,0]),(35,[21]),(3,[0]),(40,[27,2,4,1]),(0,[0]),(44,[]),(2,[1]),(42,[]),(70,[])]
def kCu_stopAt : List (Nat × List Int) := [(0,[0]),(5,[2]),(2,[2]),(3,[0]),(40,[9,2,0,0]),(33,[15]),(3,[0]),(2,[2]),(60,[0,87,200,2]),(2,[1]),(30,[13]),(2,[2]),(70,[]),(7,[2,1]),(35,[2]),(0,[-1]),(70,[])]
def kCu_stopAbove : List (Nat × List Int) := [(0,[0]),(5,[2]),(2,[2]),(3,[0]),(40,[9,2,0,0]),(33,[17]),(3,[0]),(2,[2]),(60,[0,87,200,2]),(2,[1]),(34,[15]),(3,[0]),(2,[2]),(60,[0,87,200,2]),(70,[]),(7,[2,1]),(35,[2]),(0,[-1]),(70,[])]
def kCu_stopBelow : List (Nat × List Int) := [(3,[0]),(40,[9,2,0,0]),(5,[2]),(2,[2]),(25,[16]),(3,[0]),(2,[2]),(60,[0,87,200,2]),(2,[1]),(32,[14]),(3,[0]),(2,[2]),(60,[0,87,200,2]),(70,[]),(7,[2,-1]),(35,[3]),(0,[-1]),(70,[])]
def kDr_init : List (Nat × List Int) := [(3,[0]),(53,[3]),(3,[0]),(0,[0]),(41,[9,3,0,0]),(3,[0]),(0,[7]),(0,[180]),(52,[15]),(41,[17,3,1,1]),(3,[0]),(0,[60]),(50,[1]),(41,[20,3,2,1]),(3,[0]),(0,[61]),(50,[1]),(41,[24,3,3,1]),(3,[0]),(0,[61]),(50,[1]),(41,[27,3,4,1]),(3,[0]),(0,[0]),(41,[30,3,8,0]),(3,[0]),(3,[1]),(41,[33,3,5,1]),(3,[0]),(3,[2]),(41,[37,3,6,1]),(3,[0]),(3,[3]),(41,[41,3,7,1]),(71,[])]
def kDr_clear : List (Nat × List Int) := [(3,[0]),(0,[0]),(41,[9,3,0,0]),(71,[])]
def kDr_draw : List (Nat × List Int) := [(3,[0]),(40,[37,3,6,1]),(2,[1]),(60,[0,45,193,2]),(24,[6]),(71,[]),(3,[0]),(2,[1]),(41,[30,3,8,0]),(3,[0]),(0,[5]),(0,[0]),(60,[0,51,211,3]),(3,[0]),(60,[0,55,214,3]),(3,[0]),(60,[0,58,217,3]),(3,[0]),(60,[0,61,218,3]),(3,[0]),(0,[7]),(0,[4]),(60,[0,51,211,3]),(3,[0]),(60,[0,64,219,3]),(3,[0]),(0,[6]),(0,[5]),(60,[0,51,211,3]),(3,[0]),(60,[0,67,220,3]),(3,[0]),(0,[10]),(0,[7]),(60,[0,70,213,3]),(3,[0]),(0,[8]),(0,[8]),(60,[0,51,211,3]),(3,[0]),(0,[11]),(0,[9]),(60,[0,70,213,3]),(3,[0]),(40,[27,3,4,1]),(2,[1]),(0,[1]),(8,[]),(3,[0]),(40,[9,3,0,0]),(45,[]),(3,[0]),(2,[1]),(60,[0,73,207,3]),(71,[])]
def kDr_measure : List (Nat × List Int) := [(3,[0]),(40,[24,3,3,1]),(2,[1]),(0,[1]),(8,[]),(3,[0]),(40,[24,3,3,1]),(2,[1]),(42,[]),(45,[]),(3,[0]),(40,[27,3,4,1]),(2,[1]),(42,[]),(5,[2]),(2,[2]),(3,[0]),(40,[27,3,4,1]),(2,[1]),(0,[1]),(8,[]),(42,[]),(32,[59]),(3,[0]),(40,[17,3,1,1]),(0,[6]),(44,[]),(2,[2]),(3,[0]),(40,[17,3,1,1]),(0,[0]),(44,[]),(2,[2]),(42,[]),(3,[0]),(40,[17,3,1,1]),(0,[5]),(44,[]),(2,[2]),(42,[]),(60,[1,77,63,0]),(45,[]),(3,[0]),(40,[24,3,3,1]),(2,[1]),(0,[1]),(8,[]),(22,[]),(42,[]),(3,[0]),(40,[17,3,1,1]),(0,[6]),(44,[]),(2,[2]),(42,[]),(8,[]),(45,[]),(7,[2,1]),(35,[15]),(71,[])]
def kDr_put : List (Nat × List Int) := [(3,[0]),(40,[9,3,0,0]),(0,[180]),(31,[6]),(0,[-1]),(70,[]),(3,[0]),(40,[17,3,1,1]),(0,[0]),(44,[]),(3,[0]),(40,[9,3,0,0]),(2,[1]),(45,[]),(3,[0]),(40,[17,3,1,1]),(0,[1]),(44,[]),(3,[0]),(40,[9,3,0,0]),(2,[2]),(45,[]),(3,[0]),(40,[17,3,1,1]),(0,[2]),(44,[]),(3,[0]),(40,[9,3,0,0]),(2,[3]),(45,[]),(3,[0]),(40,[17,3,1,1]),(0,[3]),(44,[]),(3,[0]),(40,[9,3,0,0]),(2,[4]),(45,[]),(3,[0]),(40,[17,3,1,1]),(0,[4]),(44,[]),(3,[0]),(40,[9,3,0,0]),(3,[0]),(40,[30,3,8,0]),(45,[]),(3,[0]),(40,[17,3,1,1]),(0,[5]),(44,[]),(3,[0]),(40,[9,3,0,0]),(2,[5]),(45,[]),(3,[0]),(20,[]),(40,[9,3,0,0]),(0,[1]),(8,[]),(41,[9,3,0,0]),(3,[0]),(40,[9,3,0,0]),(0,[1]),(9,[]),(70,[])]
def kDr_putLetter : List (Nat × List Int) := [(2,[2]),(0,[-1]),(30,[5]),(0,[-1]),(70,[]),(3,[0]),(2,[1]),(3,[0]),(40,[33,3,5,1]),(2,[2]),(60,[0,81,272,10]),(0,[-1]),(2,[2]),(2,[3]),(60,[0,87,208,3]),(5,[4]),(3,[0]),(2,[2]),(2,[4]),(60,[0,91,210,3]),(2,[4]),(70,[])]
def kDr_showBy : List (Nat × List Int) := [(2,[1]),(25,[10]),(2,[1]),(0,[60]),(32,[10]),(3,[0]),(40,[20,3,2,1]),(2,[1]),(2,[2]),(45,[]),(71,[])]
def kDr_drawSigns : List (Nat × List Int) := [(3,[0]),(40,[41,3,7,1]),(40,[94,1,7,0]),(5,[3]),(2,[3]),(3,[0]),(40,[41,3,7,1]),(40,[99,1,6,0]),(32,[42]),(3,[0]),(40,[37,3,6,1]),(2,[3]),(60,[0,102,197,2]),(2,[1]),(30,[22]),(3,[0]),(0,[6]),(2,[3]),(2,[2]),(60,[0,105,209,3]),(21,[]),(35,[40]),(3,[0]),(40,[37,3,6,1]),(2,[3]),(60,[0,102,197,2]),(0,[9]),(30,[40]),(3,[0]),(2,[3]),(0,[0]),(2,[1]),(2,[2]),(60,[0,109,212,3]),(3,[0]),(2,[3]),(0,[1]),(2,[1]),(2,[2]),(60,[0,109,212,3]),(7,[3,1]),(35,[4]),(71,[])]
def kDr_drawPart : List (Nat × List Int) := [(3,[0]),(40,[33,3,5,1]),(40,[113,10,0,1]),(3,[0]),(40,[33,3,5,1]),(2,[1]),(60,[0,81,272,10]),(2,[2]),(60,[0,117,267,9]),(5,[5]),(3,[0]),(40,[33,3,5,1]),(40,[113,10,0,1]),(2,[5]),(60,[0,122,266,9]),(2,[3]),(29,[18]),(71,[]),(3,[0]),(0,[6]),(2,[5]),(0,[-1]),(2,[1]),(2,[4]),(60,[0,87,208,3]),(5,[6]),(2,[2]),(24,[32]),(3,[0]),(2,[1]),(2,[6]),(60,[0,91,210,3]),(71,[])]
def kDr_drawMarks : List (Nat × List Int) := [(3,[0]),(40,[41,3,7,1]),(40,[94,1,7,0]),(5,[3]),(2,[3]),(3,[0]),(40,[41,3,7,1]),(40,[99,1,6,0]),(32,[23]),(3,[0]),(40,[37,3,6,1]),(2,[3]),(60,[0,102,197,2]),(2,[1]),(30,[21]),(3,[0]),(0,[7]),(2,[3]),(2,[2]),(60,[0,105,209,3]),(21,[]),(7,[3,1]),(35,[4]),(71,[])]
def kDr_drawAhead : List (Nat × List Int) := [(3,[0]),(40,[41,3,7,1]),(40,[125,1,2,0]),(5,[1]),(2,[1]),(3,[0]),(40,[41,3,7,1]),(40,[128,1,1,0]),(32,[100]),(2,[1]),(3,[0]),(40,[41,3,7,1]),(40,[125,1,2,0]),(34,[24]),(3,[0]),(40,[41,3,7,1]),(40,[131,1,14,1]),(2,[1]),(0,[1]),(9,[]),(43,[]),(23,[24]),(0,[1]),(35,[25]),(0,[0]),(5,[2]),(3,[0]),(40,[41,3,7,1]),(40,[131,1,14,1]),(2,[1]),(43,[]),(23,[36]),(2,[1]),(0,[1]),(8,[]),(35,[37]),(2,[1]),(5,[3]),(2,[2]),(24,[98]),(2,[3]),(3,[0]),(40,[41,3,7,1]),(40,[128,1,1,0]),(31,[46]),(35,[98]),(3,[0]),(2,[3]),(60,[0,135,215,3]),(5,[4]),(3,[0]),(2,[1]),(2,[3]),(2,[4]),(0,[1]),(60,[0,138,216,3]),(5,[5]),(3,[0]),(0,[9]),(3,[0]),(40,[41,3,7,1]),(40,[142,1,11,1]),(2,[3]),(42,[]),(0,[1]),(60,[0,105,209,3]),(21,[]),(2,[4]),(23,[78]),(3,[0]),(3,[0]),(40,[41,3,7,1]),(40,[145,1,12,1]),(2,[3]),(42,[]),(2,[5]),(60,[0,91,210,3]),(35,[88]),(3,[0]),(0,[8]),(3,[0]),(40,[41,3,7,1]),(40,[145,1,12,1]),(2,[3]),(42,[]),(0,[1]),(60,[0,105,209,3]),(21,[]),(3,[0]),(0,[10]),(3,[0]),(40,[41,3,7,1]),(40,[148,1,13,1]),(2,[3]),(42,[]),(0,[1]),(60,[0,105,209,3]),(21,[]),(7,[1,1]),(35,[4]),(71,[])]
def kDr_isHalf : List (Nat × List Int) := [(3,[0]),(40,[41,3,7,1]),(40,[148,1,13,1]),(2,[1]),(42,[]),(0,[-1]),(29,[19]),(3,[0]),(40,[37,3,6,1]),(3,[0]),(40,[41,3,7,1]),(40,[148,1,13,1]),(2,[1]),(42,[]),(60,[0,102,197,2]),(0,[13]),(30,[19]),(0,[1]),(35,[20]),(0,[0]),(5,[2]),(2,[2]),(24,[40]),(3,[0]),(40,[33,3,5,1]),(40,[113,10,0,1]),(40,[151,9,6,0]),(3,[0]),(40,[33,3,5,1]),(3,[0]),(40,[41,3,7,1]),(40,[154,1,10,1]),(2,[1]),(42,[]),(60,[0,81,272,10]),(60,[1,157,56,0]),(0,[1]),(30,[40]),(0,[1]),(35,[41]),(0,[0]),(73,[])]
def kDr_drawConsonants : List (Nat × List Int) := [(2,[1]),(2,[2]),(30,[17]),(3,[0]),(2,[3]),(23,[8]),(0,[1]),(35,[9]),(0,[0]),(3,[0]),(40,[41,3,7,1]),(40,[154,1,10,1]),(2,[1]),(42,[]),(2,[4]),(60,[0,105,209,3]),(70,[]),(2,[3]),(23,[21]),(0,[3]),(35,[22]),(0,[2]),(5,[5]),(3,[0]),(40,[33,3,5,1]),(3,[0]),(40,[41,3,7,1]),(40,[154,1,10,1]),(2,[1]),(42,[]),(60,[0,81,272,10]),(5,[6]),(3,[0]),(40,[33,3,5,1]),(3,[0]),(40,[41,3,7,1]),(40,[154,1,10,1]),(2,[2]),(42,[]),(60,[0,81,272,10]),(5,[7]),(3,[0]),(2,[5]),(2,[6]),(2,[7]),(3,[0]),(40,[41,3,7,1]),(40,[154,1,10,1]),(2,[1]),(42,[]),(2,[4]),(60,[0,87,208,3]),(5,[8]),(3,[0]),(3,[0]),(40,[41,3,7,1]),(40,[154,1,10,1]),(2,[1]),(42,[]),(2,[8]),(60,[0,91,210,3]),(3,[0]),(3,[0]),(40,[41,3,7,1]),(40,[145,1,12,1]),(2,[1]),(42,[]),(2,[8]),(60,[0,91,210,3]),(3,[0]),(3,[0]),(40,[41,3,7,1]),(40,[154,1,10,1]),(2,[2]),(42,[]),(2,[8]),(60,[0,91,210,3]),(2,[8]),(70,[])]
def kDr_drawMiddle : List (Nat × List Int) := [(3,[0]),(40,[41,3,7,1]),(40,[160,1,4,0]),(24,[57]),(3,[0]),(40,[41,3,7,1]),(40,[128,1,1,0]),(3,[0]),(40,[41,3,7,1]),(40,[125,1,2,0]),(34,[23]),(3,[0]),(40,[41,3,7,1]),(40,[131,1,14,1]),(3,[0]),(40,[41,3,7,1]),(40,[128,1,1,0]),(0,[1]),(9,[]),(43,[]),(23,[23]),(0,[1]),(35,[24]),(0,[0]),(5,[1]),(3,[0]),(2,[1]),(23,[34]),(3,[0]),(40,[41,3,7,1]),(40,[128,1,1,0]),(0,[1]),(9,[]),(35,[37]),(3,[0]),(40,[41,3,7,1]),(40,[128,1,1,0]),(3,[0]),(40,[41,3,7,1]),(40,[128,1,1,0]),(0,[0]),(0,[2]),(60,[0,138,216,3]),(21,[]),(3,[0]),(0,[9]),(3,[0]),(40,[41,3,7,1]),(40,[142,1,11,1]),(3,[0]),(40,[41,3,7,1]),(40,[128,1,1,0]),(42,[]),(0,[2]),(60,[0,105,209,3]),(21,[]),(71,[]),(3,[0]),(40,[41,3,7,1]),(40,[160,1,4,0]),(0,[2]),(30,[71]),(3,[0]),(0,[11]),(0,[-1]),(0,[-1]),(0,[-1]),(0,[2]),(60,[0,87,208,3]),(21,[]),(35,[103]),(3,[0]),(40,[41,3,7,1]),(40,[160,1,4,0]),(0,[1]),(30,[85]),(3,[0]),(0,[13]),(3,[0]),(40,[41,3,7,1]),(40,[163,1,5,0]),(0,[2]),(60,[0,105,209,3]),(21,[]),(35,[103]),(3,[0]),(3,[0]),(40,[37,3,6,1]),(3,[0]),(40,[41,3,7,1]),(40,[163,1,5,0]),(60,[0,102,197,2]),(60,[1,166,54,0]),(23,[96]),(0,[10]),(35,[97]),(0,[12]),(3,[0]),(40,[41,3,7,1]),(40,[163,1,5,0]),(0,[2]),(60,[0,105,209,3]),(21,[]),(3,[0]),(0,[9]),(3,[0]),(40,[41,3,7,1]),(40,[169,1,8,0]),(0,[2]),(60,[0,105,209,3]),(21,[]),(71,[])]
def kDr_drawStacked : List (Nat × List Int) := [(3,[0]),(40,[41,3,7,1]),(40,[128,1,1,0]),(0,[1]),(8,[]),(5,[1]),(2,[1]),(3,[0]),(40,[41,3,7,1]),(40,[172,1,0,0]),(32,[41]),(3,[0]),(3,[0]),(40,[41,3,7,1]),(40,[145,1,12,1]),(2,[1]),(0,[1]),(9,[]),(42,[]),(3,[0]),(0,[4]),(3,[0]),(40,[41,3,7,1]),(40,[154,1,10,1]),(2,[1]),(42,[]),(0,[3]),(60,[0,105,209,3]),(60,[0,91,210,3]),(3,[0]),(0,[9]),(3,[0]),(40,[41,3,7,1]),(40,[142,1,11,1]),(2,[1]),(42,[]),(0,[3]),(60,[0,105,209,3]),(21,[]),(7,[1,1]),(35,[6]),(71,[])]
def kDr_drawDead : List (Nat × List Int) := [(3,[0]),(40,[41,3,7,1]),(40,[173,1,9,2]),(24,[5]),(71,[]),(3,[0]),(0,[8]),(3,[0]),(40,[41,3,7,1]),(40,[94,1,7,0]),(0,[4]),(60,[0,105,209,3]),(21,[]),(3,[0]),(40,[41,3,7,1]),(40,[94,1,7,0]),(0,[1]),(8,[]),(5,[1]),(2,[1]),(3,[0]),(40,[41,3,7,1]),(40,[99,1,6,0]),(32,[36]),(3,[0]),(40,[37,3,6,1]),(2,[1]),(60,[0,102,197,2]),(60,[1,166,54,0]),(23,[36]),(3,[0]),(0,[10]),(2,[1]),(0,[4]),(60,[0,105,209,3]),(21,[]),(71,[])]
def kDr_drawReph : List (Nat × List Int) := [(3,[0]),(40,[41,3,7,1]),(40,[125,1,2,0]),(0,[1]),(30,[21]),(3,[0]),(3,[0]),(40,[41,3,7,1]),(40,[145,1,12,1]),(0,[0]),(42,[]),(3,[0]),(0,[5]),(3,[0]),(40,[41,3,7,1]),(40,[154,1,10,1]),(0,[0]),(42,[]),(0,[6]),(60,[0,105,209,3]),(60,[0,91,210,3]),(71,[])]
def kDr_xOf : List (Nat × List Int) := [(2,[1]),(25,[12]),(2,[1]),(3,[0]),(40,[37,3,6,1]),(40,[177,2,0,0]),(33,[12]),(3,[0]),(40,[24,3,3,1]),(2,[1]),(42,[]),(35,[13]),(0,[0]),(70,[])]
def kDr_widthOf : List (Nat × List Int) := [(3,[0]),(40,[37,3,6,1]),(2,[1]),(60,[0,45,193,2]),(23,[17]),(3,[0]),(40,[24,3,3,1]),(2,[1]),(0,[1]),(8,[]),(42,[]),(3,[0]),(40,[24,3,3,1]),(2,[1]),(42,[]),(9,[]),(35,[18]),(0,[0]),(70,[])]
def kDr_glyphsOf : List (Nat × List Int) := [(3,[0]),(40,[37,3,6,1]),(2,[1]),(60,[0,45,193,2]),(23,[17]),(3,[0]),(40,[27,3,4,1]),(2,[1]),(0,[1]),(8,[]),(42,[]),(3,[0]),(40,[27,3,4,1]),(2,[1]),(42,[]),(9,[]),(35,[18]),(0,[0]),(70,[])]
def kDr_glyphsOfForm : List (Nat × List Int) := [(0,[0]),(5,[2]),(0,[0]),(5,[3]),(2,[3]),(3,[0]),(40,[9,3,0,0]),(32,[24]),(2,[2]),(3,[0]),(40,[17,3,1,1]),(0,[0]),(44,[]),(2,[3]),(42,[]),(2,[1]),(30,[19]),(0,[1]),(35,[20]),(0,[0]),(8,[]),(5,[2]),(7,[3,1]),(35,[4]),(2,[2]),(70,[])]
def kDr_inOrder : List (Nat × List Int) := [(3,[0]),(40,[37,3,6,1]),(2,[1]),(60,[0,45,193,2]),(23,[10]),(3,[0]),(40,[37,3,6,1]),(2,[2]),(60,[0,45,193,2]),(24,[12]),(0,[0]),(70,[]),(3,[0]),(3,[0]),(2,[1]),(60,[0,178,228,3]),(3,[0]),(2,[2]),(60,[0,178,228,3]),(60,[0,181,226,3]),(5,[3]),(3,[0]),(2,[1]),(60,[0,184,223,3]),(3,[0]),(2,[2]),(60,[0,184,223,3]),(55,[187]),(5,[4]),(0,[0]),(5,[5]),(2,[5]),(2,[4]),(32,[53]),(2,[3]),(24,[53]),(3,[0]),(3,[0]),(40,[27,3,4,1]),(2,[1]),(42,[]),(2,[5]),(8,[]),(3,[0]),(40,[27,3,4,1]),(2,[2]),(42,[]),(2,[5]),(8,[]),(60,[0,181,226,3]),(5,[3]),(7,[5,1]),(35,[31]),(2,[3]),(24,[63]),(3,[0]),(2,[1]),(60,[0,184,223,3]),(3,[0]),(2,[2]),(60,[0,184,223,3]),(9,[]),(35,[64]),(2,[3]),(70,[])]
def kDr_glyphsInOrder : List (Nat × List Int) := [(3,[0]),(2,[1]),(60,[0,192,227,3]),(3,[0]),(2,[2]),(60,[0,192,227,3]),(9,[]),(5,[3]),(2,[3]),(24,[24]),(3,[0]),(40,[17,3,1,1]),(0,[0]),(44,[]),(2,[1]),(42,[]),(3,[0]),(40,[17,3,1,1]),(0,[0]),(44,[]),(2,[2]),(42,[]),(9,[]),(5,[3]),(2,[3]),(24,[40]),(3,[0]),(40,[17,3,1,1]),(0,[2]),(44,[]),(2,[1]),(42,[]),(3,[0]),(40,[17,3,1,1]),(0,[2]),(44,[]),(2,[2]),(42,[]),(9,[]),(35,[41]),(2,[3]),(70,[])]
def kDr_orderedFirst : List (Nat × List Int) := [(3,[0]),(40,[17,3,1,1]),(0,[0]),(44,[]),(2,[1]),(42,[]),(0,[11]),(30,[10]),(0,[26]),(35,[16]),(3,[0]),(40,[17,3,1,1]),(0,[1]),(44,[]),(2,[1]),(42,[]),(70,[])]
def kDr_baseGlyph : List (Nat × List Int) := [(3,[0]),(40,[27,3,4,1]),(2,[1]),(42,[]),(5,[2]),(2,[2]),(3,[0]),(40,[27,3,4,1]),(2,[1]),(0,[1]),(8,[]),(42,[]),(32,[25]),(3,[0]),(40,[17,3,1,1]),(0,[5]),(44,[]),(2,[2]),(42,[]),(0,[2]),(30,[23]),(2,[2]),(70,[]),(7,[2,1]),(35,[5]),(3,[0]),(40,[27,3,4,1]),(2,[1]),(42,[]),(70,[])]
def kHi_init : List (Nat × List Int) := [(3,[0]),(53,[3]),(3,[0]),(0,[0]),(41,[9,4,0,0]),(3,[0]),(0,[10]),(51,[15,10]),(41,[17,4,1,1]),(0,[0]),(5,[1]),(2,[1]),(0,[10]),(32,[23]),(3,[0]),(40,[17,4,1,1]),(2,[1]),(49,[15,10]),(20,[]),(60,[2,21,270,10]),(47,[]),(7,[1,1]),(35,[11]),(71,[])]
def kHi_keep : List (Nat × List Int) := [(3,[0]),(40,[9,4,0,0]),(0,[10]),(31,[6]),(3,[0]),(60,[0,22,231,4]),(3,[0]),(40,[17,4,1,1]),(3,[0]),(40,[9,4,0,0]),(44,[]),(6,[2]),(3,[2]),(36,[23]),(3,[2]),(3,[1]),(60,[0,25,271,10]),(3,[0]),(20,[]),(40,[9,4,0,0]),(0,[1]),(8,[]),(41,[9,4,0,0]),(71,[])]
def kHi_dropEldest : List (Nat × List Int) := [(3,[0]),(40,[17,4,1,1]),(0,[0]),(44,[]),(6,[1]),(0,[1]),(5,[2]),(2,[2]),(0,[10]),(32,[22]),(3,[0]),(40,[17,4,1,1]),(2,[2]),(0,[1]),(9,[]),(3,[0]),(40,[17,4,1,1]),(2,[2]),(44,[]),(47,[]),(7,[2,1]),(35,[7]),(3,[0]),(40,[17,4,1,1]),(0,[9]),(3,[1]),(47,[]),(3,[0]),(0,[9]),(41,[9,4,0,0]),(71,[])]
def kHi_goBack : List (Nat × List Int) := [(2,[1]),(0,[1]),(31,[7]),(2,[1]),(3,[0]),(40,[9,4,0,0]),(34,[8]),(71,[]),(3,[0]),(40,[17,4,1,1]),(3,[0]),(40,[9,4,0,0]),(2,[1]),(9,[]),(44,[]),(6,[3]),(3,[3]),(36,[27]),(3,[2]),(3,[3]),(60,[0,25,271,10]),(3,[0]),(20,[]),(40,[9,4,0,0]),(2,[1]),(9,[]),(41,[9,4,0,0]),(71,[])]
def kHi_forget : List (Nat × List Int) := [(3,[0]),(0,[0]),(41,[9,4,0,0]),(71,[])]
def kMe_init : List (Nat × List Int) := [(3,[0]),(53,[3]),(3,[0]),(0,[0]),(41,[9,5,0,0]),(3,[0]),(0,[60]),(50,[1]),(41,[15,5,1,1]),(3,[0]),(0,[61]),(0,[10]),(52,[19]),(41,[21,5,2,1]),(71,[])]
def kMe_choose : List (Nat × List Int) := [(3,[0]),(0,[0]),(41,[9,5,0,0]),(3,[1]),(3,[1]),(40,[24,2,0,0]),(0,[1]),(9,[]),(60,[0,27,195,2]),(5,[2]),(0,[0]),(5,[3]),(2,[3]),(0,[10]),(32,[24]),(3,[0]),(40,[21,5,2,1]),(2,[2]),(44,[]),(2,[3]),(0,[0]),(45,[]),(7,[3,1]),(35,[12]),(2,[2]),(0,[1]),(9,[]),(5,[3]),(2,[3]),(25,[65]),(0,[0]),(5,[4]),(2,[4]),(0,[10]),(32,[63]),(0,[1]),(3,[0]),(40,[21,5,2,1]),(2,[3]),(0,[1]),(8,[]),(44,[]),(2,[4]),(42,[]),(8,[]),(5,[5]),(3,[0]),(40,[21,5,2,1]),(2,[3]),(44,[]),(2,[4]),(2,[5]),(3,[0]),(3,[1]),(2,[3]),(60,[0,31,197,2]),(2,[3]),(2,[4]),(60,[0,34,236,5]),(55,[38]),(45,[]),(7,[4,1]),(35,[32]),(7,[3,-1]),(35,[28]),(0,[0]),(5,[3]),(0,[0]),(5,[4]),(2,[4]),(2,[2]),(32,[110]),(0,[1]),(3,[0]),(40,[21,5,2,1]),(2,[4]),(0,[1]),(8,[]),(44,[]),(2,[3]),(42,[]),(8,[]),(3,[0]),(40,[21,5,2,1]),(2,[4]),(44,[]),(2,[3]),(42,[]),(30,[102]),(3,[0]),(40,[15,5,1,1]),(3,[0]),(40,[9,5,0,0]),(2,[4]),(45,[]),(3,[0]),(20,[]),(40,[9,5,0,0]),(0,[1]),(8,[]),(41,[9,5,0,0]),(35,[108]),(2,[3]),(3,[1]),(2,[4]),(60,[0,31,197,2]),(60,[1,44,61,0]),(5,[3]),(7,[4,1]),(35,[69]),(71,[])]
def kMe_fewestWith : List (Nat × List Int) := [(2,[3]),(2,[1]),(60,[1,47,62,0]),(23,[6]),(0,[61]),(35,[16]),(3,[0]),(40,[21,5,2,1]),(2,[2]),(0,[1]),(8,[]),(44,[]),(2,[3]),(2,[1]),(60,[1,44,61,0]),(42,[]),(70,[])]
def kPi_init : List (Nat × List Int) := [(3,[0]),(53,[3]),(3,[0]),(0,[2]),(51,[9,10]),(41,[11,6,0,1]),(3,[0]),(0,[2]),(50,[3]),(41,[17,6,1,1]),(0,[0]),(5,[1]),(2,[1]),(0,[2]),(32,[24]),(3,[0]),(40,[11,6,0,1]),(2,[1]),(49,[9,10]),(20,[]),(60,[2,21,270,10]),(47,[]),(7,[1,1]),(35,[12]),(71,[])]
def kPi_isMade : List (Nat × List Int) := [(2,[1]),(25,[12]),(2,[1]),(0,[2]),(32,[12]),(3,[0]),(40,[17,6,1,1]),(2,[1]),(43,[]),(23,[12]),(0,[1]),(35,[13]),(0,[0]),(73,[])]
def kPi_take : List (Nat × List Int) := [(2,[1]),(25,[21]),(2,[1]),(0,[2]),(32,[21]),(3,[0]),(40,[11,6,0,1]),(2,[1]),(44,[]),(36,[21]),(3,[0]),(40,[11,6,0,1]),(2,[1]),(44,[]),(3,[2]),(60,[0,22,271,10]),(3,[0]),(40,[17,6,1,1]),(2,[1]),(0,[1]),(46,[]),(71,[])]
def kPi_show : List (Nat × List Int) := [(3,[0]),(2,[1]),(60,[0,26,238,6]),(23,[15]),(3,[0]),(40,[11,6,0,1]),(2,[1]),(44,[]),(36,[15]),(3,[2]),(3,[0]),(40,[11,6,0,1]),(2,[1]),(44,[]),(60,[0,22,271,10]),(71,[])]
def kRb_init : List (Nat × List Int) := [(3,[0]),(53,[3]),(3,[0]),(0,[0]),(41,[9,7,0,0]),(3,[0]),(0,[120]),(50,[1]),(41,[15,7,1,1]),(3,[0]),(3,[1]),(41,[19,7,2,1]),(3,[0]),(3,[2]),(41,[23,7,3,1]),(71,[])]
def kRb_clear : List (Nat × List Int) := [(3,[0]),(0,[0]),(41,[9,7,0,0]),(71,[])]
def kRb_read : List (Nat × List Int) := [(3,[0]),(40,[23,7,3,1]),(2,[1]),(0,[0]),(60,[0,27,194,2]),(5,[2]),(3,[0]),(40,[23,7,3,1]),(2,[1]),(60,[0,33,195,2]),(5,[3]),(2,[2]),(5,[4]),(2,[4]),(2,[3]),(32,[36]),(3,[0]),(40,[23,7,3,1]),(2,[4]),(60,[0,37,197,2]),(60,[1,40,51,0]),(24,[34]),(3,[0]),(40,[23,7,3,1]),(2,[4]),(60,[0,37,197,2]),(60,[1,44,53,0]),(24,[34]),(3,[0]),(3,[0]),(40,[19,7,2,1]),(2,[4]),(60,[0,47,272,10]),(60,[0,52,247,7]),(7,[4,1]),(35,[13]),(0,[5]),(5,[4]),(2,[4]),(0,[8]),(33,[48]),(3,[0]),(2,[4]),(2,[2]),(2,[3]),(60,[0,56,244,7]),(7,[4,1]),(35,[38]),(3,[0]),(0,[10]),(2,[2]),(2,[3]),(60,[0,60,246,7]),(3,[0]),(0,[11]),(2,[2]),(2,[3]),(60,[0,60,246,7]),(71,[])]
def kRb_readSigns : List (Nat × List Int) := [(2,[2]),(5,[4]),(2,[4]),(2,[3]),(32,[50]),(3,[0]),(40,[23,7,3,1]),(2,[4]),(60,[0,37,197,2]),(2,[1]),(30,[18]),(3,[0]),(3,[0]),(40,[19,7,2,1]),(2,[4]),(60,[0,47,272,10]),(60,[0,52,247,7]),(35,[48]),(3,[0]),(40,[23,7,3,1]),(2,[4]),(60,[0,37,197,2]),(0,[9]),(30,[48]),(3,[0]),(3,[0]),(40,[19,7,2,1]),(40,[63,10,0,1]),(3,[0]),(40,[19,7,2,1]),(2,[4]),(60,[0,47,272,10]),(0,[0]),(60,[0,67,267,9]),(2,[1]),(60,[0,72,245,7]),(3,[0]),(3,[0]),(40,[19,7,2,1]),(40,[63,10,0,1]),(3,[0]),(40,[19,7,2,1]),(2,[4]),(60,[0,47,272,10]),(0,[1]),(60,[0,67,267,9]),(2,[1]),(60,[0,72,245,7]),(7,[4,1]),(35,[2]),(71,[])]
def kRb_readPart : List (Nat × List Int) := [(3,[0]),(40,[19,7,2,1]),(40,[63,10,0,1]),(2,[1]),(60,[0,76,266,9]),(2,[2]),(30,[10]),(3,[0]),(2,[1]),(60,[0,52,247,7]),(71,[])]
def kRb_readKind : List (Nat × List Int) := [(2,[2]),(5,[4]),(2,[4]),(2,[3]),(32,[19]),(3,[0]),(40,[23,7,3,1]),(2,[4]),(60,[0,37,197,2]),(2,[1]),(30,[17]),(3,[0]),(3,[0]),(40,[19,7,2,1]),(2,[4]),(60,[0,47,272,10]),(60,[0,52,247,7]),(7,[4,1]),(35,[2]),(71,[])]
def kRb_put : List (Nat × List Int) := [(3,[0]),(40,[9,7,0,0]),(0,[120]),(32,[16]),(3,[0]),(40,[15,7,1,1]),(3,[0]),(40,[9,7,0,0]),(2,[1]),(45,[]),(3,[0]),(20,[]),(40,[9,7,0,0]),(0,[1]),(8,[]),(41,[9,7,0,0]),(71,[])]
def kRe_init : List (Nat × List Int) := [(3,[0]),(53,[3]),(3,[0]),(49,[9,9]),(20,[]),(60,[2,11,263,9]),(41,[12,8,0,1]),(3,[0]),(0,[0]),(41,[18,8,1,0]),(3,[0]),(0,[-1]),(41,[22,8,2,0]),(3,[0]),(0,[400]),(50,[1]),(41,[25,8,3,1]),(3,[0]),(0,[0]),(41,[29,8,4,0]),(3,[0]),(0,[0]),(41,[32,8,5,0]),(3,[0]),(0,[0]),(41,[35,8,6,0]),(71,[])]
def kRe_readScript : List (Nat × List Int) := [(3,[0]),(40,[12,8,0,1]),(60,[0,38,264,9]),(3,[0]),(0,[0]),(41,[18,8,1,0]),(3,[0]),(0,[-1]),(41,[22,8,2,0]),(3,[0]),(0,[0]),(41,[29,8,4,0]),(0,[0]),(5,[3]),(2,[3]),(2,[2]),(32,[39]),(2,[3]),(0,[400]),(32,[39]),(2,[3]),(3,[1]),(48,[]),(32,[39]),(3,[0]),(40,[25,8,3,1]),(2,[3]),(3,[1]),(2,[3]),(42,[]),(45,[]),(3,[0]),(20,[]),(40,[29,8,4,0]),(0,[1]),(8,[]),(41,[29,8,4,0]),(7,[3,1]),(35,[14]),(3,[0]),(0,[0]),(41,[32,8,5,0]),(3,[0]),(0,[0]),(41,[35,8,6,0]),(3,[0]),(60,[0,41,253,8]),(0,[0]),(5,[3]),(2,[3]),(0,[400]),(32,[66]),(3,[0]),(40,[32,8,5,0]),(3,[0]),(40,[29,8,4,0]),(32,[66]),(3,[0]),(40,[18,8,1,0]),(24,[66]),(3,[0]),(60,[0,44,250,8]),(3,[0]),(60,[0,41,253,8]),(7,[3,1]),(35,[49]),(71,[])]
def kRe_readLine : List (Nat × List Int) := [(3,[0]),(40,[32,8,5,0]),(5,[1]),(3,[0]),(60,[0,47,254,8]),(5,[2]),(2,[2]),(24,[14]),(3,[0]),(0,[1]),(3,[0]),(40,[32,8,5,0]),(60,[0,51,251,8]),(71,[]),(3,[0]),(2,[1]),(2,[2]),(60,[0,55,255,8]),(5,[3]),(2,[3]),(0,[-1]),(30,[27]),(3,[0]),(0,[2]),(2,[1]),(60,[0,51,251,8]),(71,[]),(3,[0]),(60,[0,41,253,8]),(3,[0]),(40,[32,8,5,0]),(5,[4]),(3,[0]),(60,[0,47,254,8]),(5,[5]),(2,[5]),(24,[43]),(3,[0]),(0,[1]),(3,[0]),(40,[32,8,5,0]),(60,[0,51,251,8]),(71,[]),(3,[0]),(2,[3]),(2,[4]),(2,[5]),(60,[0,59,257,8]),(24,[54]),(3,[0]),(0,[3]),(2,[4]),(60,[0,51,251,8]),(71,[]),(3,[0]),(60,[0,41,253,8]),(3,[0]),(3,[0]),(40,[32,8,5,0]),(60,[0,63,252,8]),(0,[59]),(29,[68]),(3,[0]),(0,[1]),(3,[0]),(40,[32,8,5,0]),(60,[0,51,251,8]),(71,[]),(3,[0]),(20,[]),(40,[32,8,5,0]),(0,[1]),(8,[]),(41,[32,8,5,0]),(71,[])]
def kRe_fail : List (Nat × List Int) := [(3,[0]),(2,[1]),(41,[18,8,1,0]),(3,[0]),(2,[2]),(41,[22,8,2,0]),(71,[])]
def kRe_byteAt : List (Nat × List Int) := [(2,[1]),(25,[11]),(2,[1]),(3,[0]),(40,[29,8,4,0]),(32,[11]),(3,[0]),(40,[25,8,3,1]),(2,[1]),(42,[]),(35,[12]),(0,[-1]),(70,[])]
def kRe_skipBlanks : List (Nat × List Int) := [(3,[0]),(40,[32,8,5,0]),(5,[1]),(2,[1]),(3,[0]),(40,[29,8,4,0]),(32,[21]),(3,[0]),(40,[25,8,3,1]),(2,[1]),(42,[]),(0,[32]),(30,[21]),(3,[0]),(20,[]),(40,[32,8,5,0]),(0,[1]),(8,[]),(41,[32,8,5,0]),(7,[1,1]),(35,[3]),(71,[])]
def kRe_skipLetters : List (Nat × List Int) := [(3,[0]),(40,[32,8,5,0]),(5,[1]),(2,[1]),(5,[2]),(2,[2]),(3,[0]),(40,[29,8,4,0]),(32,[25]),(3,[0]),(40,[25,8,3,1]),(2,[2]),(42,[]),(0,[97]),(9,[]),(60,[1,67,50,0]),(23,[25]),(3,[0]),(20,[]),(40,[32,8,5,0]),(0,[1]),(8,[]),(41,[32,8,5,0]),(7,[2,1]),(35,[5]),(3,[0]),(40,[32,8,5,0]),(2,[1]),(9,[]),(70,[])]
def kRe_wordAt : List (Nat × List Int) := [(0,[1]),(5,[3]),(2,[3]),(0,[17]),(33,[16]),(3,[0]),(2,[3]),(60,[1,71,64,0]),(2,[1]),(2,[2]),(60,[0,75,256,8]),(23,[14]),(2,[3]),(70,[]),(7,[3,1]),(35,[2]),(0,[-1]),(70,[])]
def kRe_isWord : List (Nat × List Int) := [(3,[1]),(58,[79]),(2,[3]),(29,[6]),(0,[0]),(73,[]),(0,[0]),(5,[4]),(2,[4]),(2,[3]),(32,[24]),(3,[0]),(2,[2]),(2,[4]),(8,[]),(60,[0,63,252,8]),(3,[1]),(2,[4]),(59,[84]),(29,[22]),(0,[0]),(73,[]),(7,[4,1]),(35,[8]),(0,[1]),(73,[])]
def kRe_takeRow : List (Nat × List Int) := [(2,[1]),(60,[1,88,65,0]),(23,[22]),(2,[3]),(0,[1]),(30,[12]),(3,[0]),(40,[35,8,6,0]),(2,[1]),(60,[1,91,56,0]),(0,[1]),(30,[14]),(0,[0]),(73,[]),(3,[0]),(20,[]),(40,[35,8,6,0]),(0,[1]),(2,[1]),(12,[]),(16,[]),(41,[35,8,6,0]),(2,[1]),(37,[9,67,56,67,67,67,67,24,28,28,34]),(3,[0]),(2,[2]),(60,[0,94,259,8]),(73,[]),(3,[0]),(2,[1]),(2,[2]),(2,[3]),(60,[0,97,260,8]),(73,[]),(2,[3]),(0,[2]),(30,[54]),(3,[0]),(3,[0]),(2,[2]),(60,[0,63,252,8]),(0,[97]),(9,[]),(3,[0]),(2,[2]),(0,[1]),(8,[]),(60,[0,63,252,8]),(0,[97]),(9,[]),(60,[0,100,261,8]),(23,[54]),(0,[1]),(35,[55]),(0,[0]),(73,[]),(2,[3]),(0,[3]),(30,[65]),(3,[0]),(2,[2]),(60,[0,104,262,8]),(23,[65]),(0,[1]),(35,[66]),(0,[0]),(73,[]),(3,[0]),(2,[1]),(2,[2]),(2,[3]),(60,[0,107,258,8]),(73,[])]
def kRe_takeKind : List (Nat × List Int) := [(0,[0]),(5,[4]),(2,[4]),(2,[3]),(32,[32]),(3,[0]),(2,[2]),(2,[4]),(8,[]),(60,[0,63,252,8]),(0,[97]),(9,[]),(5,[5]),(2,[5]),(60,[1,67,50,0]),(23,[22]),(3,[0]),(40,[12,8,0,1]),(40,[110,9,0,1]),(2,[5]),(42,[]),(23,[24]),(0,[0]),(73,[]),(3,[0]),(40,[12,8,0,1]),(40,[110,9,0,1]),(2,[5]),(2,[1]),(45,[]),(7,[4,1]),(35,[2]),(0,[1]),(73,[])]
def kRe_takeRa : List (Nat × List Int) := [(3,[0]),(2,[1]),(60,[0,63,252,8]),(0,[97]),(9,[]),(5,[2]),(3,[0]),(40,[12,8,0,1]),(2,[2]),(60,[0,113,266,9]),(0,[1]),(29,[14]),(0,[0]),(73,[]),(3,[0]),(40,[12,8,0,1]),(2,[2]),(41,[116,9,4,0]),(0,[1]),(73,[])]
def kRe_takeTraits : List (Nat × List Int) := [(0,[0]),(5,[4]),(0,[0]),(5,[5]),(2,[5]),(2,[3]),(32,[36]),(3,[0]),(2,[2]),(2,[5]),(8,[]),(60,[0,63,252,8]),(0,[97]),(9,[]),(5,[6]),(3,[0]),(40,[12,8,0,1]),(2,[6]),(60,[0,113,266,9]),(0,[1]),(30,[26]),(2,[4]),(2,[6]),(60,[1,91,56,0]),(0,[1]),(30,[28]),(0,[0]),(73,[]),(2,[4]),(0,[1]),(2,[6]),(12,[]),(16,[]),(5,[4]),(7,[5,1]),(35,[4]),(2,[1]),(0,[15]),(30,[47]),(3,[0]),(40,[12,8,0,1]),(20,[]),(40,[119,9,5,0]),(2,[4]),(16,[]),(41,[119,9,5,0]),(35,[54]),(3,[0]),(40,[12,8,0,1]),(20,[]),(40,[122,9,6,0]),(2,[4]),(16,[]),(41,[122,9,6,0]),(0,[1]),(73,[])]
def kRe_takePair : List (Nat × List Int) := [(3,[0]),(40,[12,8,0,1]),(2,[1]),(60,[0,113,266,9]),(0,[1]),(30,[12]),(3,[0]),(40,[12,8,0,1]),(2,[2]),(60,[0,113,266,9]),(0,[1]),(29,[14]),(0,[0]),(73,[]),(3,[0]),(40,[12,8,0,1]),(2,[1]),(2,[2]),(60,[0,125,268,9]),(24,[25]),(3,[0]),(40,[12,8,0,1]),(40,[128,9,7,0]),(0,[8]),(31,[27]),(0,[0]),(73,[]),(3,[0]),(40,[12,8,0,1]),(40,[131,9,3,1]),(2,[1]),(22,[]),(42,[]),(0,[1]),(2,[2]),(12,[]),(16,[]),(45,[]),(3,[0]),(40,[12,8,0,1]),(20,[]),(40,[128,9,7,0]),(0,[1]),(8,[]),(41,[128,9,7,0]),(0,[1]),(73,[])]
def kRe_takeSplit : List (Nat × List Int) := [(3,[0]),(2,[1]),(60,[0,63,252,8]),(0,[97]),(9,[]),(5,[2]),(3,[0]),(2,[1]),(0,[1]),(8,[]),(60,[0,63,252,8]),(0,[97]),(9,[]),(5,[3]),(3,[0]),(2,[1]),(0,[2]),(8,[]),(60,[0,63,252,8]),(0,[97]),(9,[]),(5,[4]),(2,[2]),(60,[1,67,50,0]),(23,[31]),(3,[0]),(40,[12,8,0,1]),(40,[110,9,0,1]),(2,[2]),(42,[]),(23,[33]),(0,[0]),(73,[]),(3,[0]),(40,[12,8,0,1]),(2,[3]),(60,[0,113,266,9]),(60,[1,134,52,0]),(23,[45]),(3,[0]),(40,[12,8,0,1]),(2,[4]),(60,[0,113,266,9]),(60,[1,134,52,0]),(24,[47]),(0,[0]),(73,[]),(3,[0]),(40,[12,8,0,1]),(40,[110,9,0,1]),(2,[2]),(0,[9]),(45,[]),(3,[0]),(40,[12,8,0,1]),(40,[137,9,1,1]),(2,[2]),(2,[3]),(45,[]),(3,[0]),(40,[12,8,0,1]),(40,[140,9,2,1]),(2,[2]),(2,[4]),(45,[]),(0,[1]),(73,[])]
def kSc_init : List (Nat × List Int) := [(3,[0]),(53,[3]),(3,[0]),(0,[26]),(50,[1]),(41,[9,9,0,1]),(3,[0]),(0,[26]),(50,[1]),(41,[15,9,1,1]),(3,[0]),(0,[26]),(50,[1]),(41,[18,9,2,1]),(3,[0]),(0,[26]),(50,[1]),(41,[21,9,3,1]),(3,[0]),(0,[-1]),(41,[24,9,4,0]),(3,[0]),(0,[0]),(41,[28,9,5,0]),(3,[0]),(0,[0]),(41,[31,9,6,0]),(3,[0]),(0,[0]),(41,[34,9,7,0]),(71,[])]
def kSc_clear : List (Nat × List Int) := [(0,[0]),(5,[1]),(2,[1]),(0,[26]),(32,[17]),(3,[0]),(40,[9,9,0,1]),(2,[1]),(0,[0]),(45,[]),(3,[0]),(40,[21,9,3,1]),(2,[1]),(0,[0]),(45,[]),(7,[1,1]),(35,[2]),(3,[0]),(0,[-1]),(41,[24,9,4,0]),(3,[0]),(0,[0]),(41,[28,9,5,0]),(3,[0]),(0,[0]),(41,[31,9,6,0]),(3,[0]),(0,[0]),(41,[34,9,7,0]),(71,[])]
def kSc_copyFrom : List (Nat × List Int) := [(3,[1]),(40,[9,9,0,1]),(0,[0]),(3,[0]),(40,[9,9,0,1]),(0,[0]),(0,[26]),(54,[37]),(3,[1]),(40,[15,9,1,1]),(0,[0]),(3,[0]),(40,[15,9,1,1]),(0,[0]),(0,[26]),(54,[37]),(3,[1]),(40,[18,9,2,1]),(0,[0]),(3,[0]),(40,[18,9,2,1]),(0,[0]),(0,[26]),(54,[37]),(3,[1]),(40,[21,9,3,1]),(0,[0]),(3,[0]),(40,[21,9,3,1]),(0,[0]),(0,[26]),(54,[37]),(3,[0]),(3,[1]),(40,[24,9,4,0]),(41,[24,9,4,0]),(3,[0]),(3,[1]),(40,[28,9,5,0]),(41,[28,9,5,0]),(3,[0]),(3,[1]),(40,[31,9,6,0]),(41,[31,9,6,0]),(3,[0]),(3,[1]),(40,[34,9,7,0]),(41,[34,9,7,0]),(71,[])]
def kSc_kindOf : List (Nat × List Int) := [(2,[1]),(25,[10]),(2,[1]),(0,[26]),(32,[10]),(3,[0]),(40,[9,9,0,1]),(2,[1]),(42,[]),(35,[11]),(0,[0]),(70,[])]
def kSc_partOf : List (Nat × List Int) := [(3,[0]),(2,[1]),(60,[0,43,266,9]),(0,[9]),(29,[7]),(0,[-1]),(70,[]),(2,[2]),(24,[14]),(3,[0]),(40,[15,9,1,1]),(2,[1]),(42,[]),(35,[18]),(3,[0]),(40,[18,9,2,1]),(2,[1]),(42,[]),(70,[])]
def kSc_joined : List (Nat × List Int) := [(2,[1]),(60,[1,47,50,0]),(23,[16]),(2,[2]),(60,[1,47,50,0]),(23,[16]),(3,[0]),(40,[21,9,3,1]),(2,[1]),(42,[]),(2,[2]),(60,[1,51,56,0]),(0,[1]),(30,[16]),(0,[1]),(35,[17]),(0,[0]),(73,[])]
def kSc_lettersTold : List (Nat × List Int) := [(0,[0]),(5,[1]),(0,[0]),(5,[2]),(2,[2]),(0,[26]),(32,[20]),(2,[1]),(3,[0]),(40,[9,9,0,1]),(2,[2]),(42,[]),(23,[15]),(0,[1]),(35,[16]),(0,[0]),(8,[]),(5,[1]),(7,[2,1]),(35,[4]),(2,[1]),(70,[])]
def kSt_init : List (Nat × List Int) := [(3,[0]),(53,[3]),(3,[0]),(49,[9,9]),(20,[]),(60,[2,11,263,9]),(41,[12,10,0,1]),(3,[0]),(0,[60]),(50,[1]),(41,[18,10,1,1]),(3,[0]),(0,[0]),(41,[22,10,2,0]),(71,[])]
def kSt_copyFrom : List (Nat × List Int) := [(3,[0]),(40,[12,10,0,1]),(3,[1]),(40,[12,10,0,1]),(60,[0,26,265,9]),(3,[1]),(40,[18,10,1,1]),(0,[0]),(3,[0]),(40,[18,10,1,1]),(0,[0]),(0,[60]),(54,[30]),(3,[0]),(3,[1]),(40,[22,10,2,0]),(41,[22,10,2,0]),(71,[])]
def kSt_letterAt : List (Nat × List Int) := [(2,[1]),(25,[11]),(2,[1]),(3,[0]),(40,[22,10,2,0]),(32,[11]),(3,[0]),(40,[18,10,1,1]),(2,[1]),(42,[]),(35,[12]),(0,[-1]),(70,[])]
def kSt_become : List (Nat × List Int) := [(3,[0]),(0,[0]),(41,[22,10,2,0]),(0,[0]),(5,[4]),(2,[4]),(2,[2]),(32,[32]),(2,[4]),(0,[60]),(32,[32]),(2,[4]),(3,[1]),(48,[]),(32,[32]),(3,[0]),(40,[18,10,1,1]),(2,[4]),(3,[1]),(2,[4]),(42,[]),(2,[3]),(9,[]),(45,[]),(3,[0]),(20,[]),(40,[22,10,2,0]),(0,[1]),(8,[]),(41,[22,10,2,0]),(7,[4,1]),(35,[5]),(71,[])]
def kSt_putIn : List (Nat × List Int) := [(3,[0]),(40,[22,10,2,0]),(0,[60]),(32,[10]),(2,[1]),(25,[10]),(2,[1]),(3,[0]),(40,[22,10,2,0]),(34,[11]),(71,[]),(3,[0]),(40,[22,10,2,0]),(5,[3]),(2,[3]),(2,[1]),(34,[29]),(3,[0]),(40,[18,10,1,1]),(2,[3]),(3,[0]),(40,[18,10,1,1]),(2,[3]),(0,[1]),(9,[]),(42,[]),(45,[]),(7,[3,-1]),(35,[14]),(3,[0]),(40,[18,10,1,1]),(2,[1]),(2,[2]),(45,[]),(3,[0]),(20,[]),(40,[22,10,2,0]),(0,[1]),(8,[]),(41,[22,10,2,0]),(71,[])]
def kSt_takeOut : List (Nat × List Int) := [(2,[1]),(25,[10]),(2,[2]),(25,[10]),(2,[1]),(2,[2]),(8,[]),(3,[0]),(40,[22,10,2,0]),(34,[11]),(71,[]),(2,[1]),(5,[3]),(2,[3]),(2,[2]),(8,[]),(3,[0]),(40,[22,10,2,0]),(32,[31]),(3,[0]),(40,[18,10,1,1]),(2,[3]),(3,[0]),(40,[18,10,1,1]),(2,[3]),(2,[2]),(8,[]),(42,[]),(45,[]),(7,[3,1]),(35,[13]),(3,[0]),(20,[]),(40,[22,10,2,0]),(2,[2]),(9,[]),(41,[22,10,2,0]),(71,[])]
def kWr_init : List (Nat × List Int) := [(3,[0]),(53,[3]),(3,[0]),(0,[0]),(41,[9,11,0,0]),(3,[0]),(0,[61]),(50,[1]),(41,[15,11,1,1]),(3,[0]),(0,[61]),(50,[1]),(41,[19,11,2,1]),(3,[0]),(0,[61]),(50,[1]),(41,[22,11,3,1]),(71,[])]
def kWr_fits : List (Nat × List Int) := [(2,[2]),(25,[9]),(2,[2]),(0,[60]),(33,[9]),(2,[2]),(3,[1]),(48,[]),(31,[11]),(0,[0]),(73,[]),(0,[0]),(5,[4]),(2,[4]),(2,[2]),(32,[31]),(3,[1]),(2,[4]),(0,[1]),(8,[]),(42,[]),(3,[1]),(2,[4]),(42,[]),(9,[]),(2,[3]),(34,[29]),(0,[0]),(73,[]),(7,[4,1]),(35,[13]),(0,[1]),(73,[])]
def kWr_greedy : List (Nat × List Int) := [(3,[0]),(0,[0]),(41,[9,11,0,0]),(3,[0]),(3,[1]),(2,[2]),(2,[3]),(60,[0,25,277,11]),(24,[11]),(0,[-1]),(70,[]),(0,[0]),(5,[4]),(0,[0]),(5,[5]),(2,[5]),(2,[2]),(32,[36]),(3,[1]),(2,[5]),(0,[1]),(8,[]),(42,[]),(3,[1]),(2,[4]),(42,[]),(9,[]),(2,[3]),(34,[34]),(3,[0]),(2,[5]),(60,[0,29,281,11]),(2,[5]),(5,[4]),(7,[5,1]),(35,[15]),(2,[2]),(28,[41]),(3,[0]),(2,[2]),(60,[0,29,281,11]),(3,[0]),(40,[9,11,0,0]),(70,[])]
def kWr_evenly : List (Nat × List Int) := [(3,[0]),(0,[0]),(41,[9,11,0,0]),(3,[0]),(3,[1]),(2,[2]),(2,[3]),(60,[0,25,277,11]),(24,[11]),(0,[-1]),(70,[]),(3,[0]),(40,[19,11,2,1]),(2,[2]),(0,[0]),(45,[]),(2,[2]),(0,[1]),(9,[]),(5,[4]),(2,[4]),(25,[30]),(3,[0]),(3,[1]),(2,[2]),(2,[3]),(2,[4]),(60,[0,33,280,11]),(7,[4,-1]),(35,[20]),(0,[0]),(5,[4]),(0,[0]),(5,[5]),(2,[5]),(2,[2]),(32,[50]),(2,[4]),(2,[2]),(32,[50]),(3,[0]),(40,[22,11,3,1]),(2,[4]),(42,[]),(5,[4]),(3,[0]),(2,[4]),(60,[0,29,281,11]),(7,[5,1]),(35,[34]),(3,[0]),(40,[19,11,2,1]),(0,[0]),(42,[]),(70,[])]
def kWr_chooseBreak : List (Nat × List Int) := [(3,[0]),(40,[19,11,2,1]),(2,[4]),(0,[-1]),(45,[]),(2,[4]),(0,[1]),(8,[]),(5,[5]),(2,[5]),(2,[2]),(33,[69]),(3,[1]),(2,[5]),(42,[]),(3,[1]),(2,[4]),(42,[]),(9,[]),(2,[3]),(33,[69]),(2,[3]),(3,[1]),(2,[5]),(42,[]),(3,[1]),(2,[4]),(42,[]),(9,[]),(9,[]),(5,[6]),(2,[5]),(2,[2]),(30,[36]),(0,[0]),(35,[44]),(2,[6]),(2,[6]),(10,[]),(3,[0]),(40,[19,11,2,1]),(2,[5]),(42,[]),(8,[]),(5,[7]),(3,[0]),(40,[19,11,2,1]),(2,[4]),(42,[]),(0,[-1]),(29,[57]),(2,[7]),(3,[0]),(40,[19,11,2,1]),(2,[4]),(42,[]),(33,[67]),(3,[0]),(40,[19,11,2,1]),(2,[4]),(2,[7]),(45,[]),(3,[0]),(40,[22,11,3,1]),(2,[4]),(2,[5]),(45,[]),(7,[5,1]),(35,[9]),(71,[])]
def kWr_endLine : List (Nat × List Int) := [(3,[0]),(40,[9,11,0,0]),(0,[60]),(33,[16]),(3,[0]),(40,[15,11,1,1]),(3,[0]),(40,[9,11,0,0]),(2,[1]),(45,[]),(3,[0]),(20,[]),(40,[9,11,0,0]),(0,[1]),(8,[]),(41,[9,11,0,0]),(71,[])]
def kL_law : List (Nat × List Int) := [(49,[7,0]),(20,[]),(60,[2,9,0,0]),(6,[1]),(49,[10,12]),(20,[]),(60,[2,12,67,12]),(6,[2]),(0,[0]),(5,[3]),(2,[3]),(3,[0]),(81,[]),(0,[6]),(9,[]),(33,[825]),(3,[0]),(2,[3]),(80,[]),(0,[63]),(15,[]),(37,[0,823,22,79,96,113,130,157,174,191,198,205,232,259,276,283,310,327,344,361,378,385,392,419,436,453,460,467,484,511,528,545,562,589,606,633,650,677,704,711,738,755,772,789,806]),(3,[1]),(3,[0]),(2,[3]),(0,[1]),(8,[]),(80,[]),(3,[0]),(2,[3]),(0,[2]),(8,[]),(80,[]),(3,[0]),(2,[3]),(0,[3]),(8,[]),(80,[]),(3,[0]),(2,[3]),(0,[4]),(8,[]),(80,[]),(3,[0]),(2,[3]),(0,[5]),(8,[]),(80,[]),(60,[0,13,1,0]),(3,[2]),(3,[0]),(2,[3]),(0,[1]),(8,[]),(80,[]),(3,[0]),(2,[3]),(0,[2]),(8,[]),(80,[]),(3,[0]),(2,[3]),(0,[3]),(8,[]),(80,[]),(3,[0]),(2,[3]),(0,[4]),(8,[]),(80,[]),(3,[0]),(2,[3]),(0,[5]),(8,[]),(80,[]),(60,[0,17,107,12]),(29,[823]),(0,[0]),(73,[]),(3,[1]),(3,[0]),(2,[3]),(0,[1]),(8,[]),(80,[]),(60,[0,18,2,0]),(3,[2]),(3,[0]),(2,[3]),(0,[1]),(8,[]),(80,[]),(60,[0,22,122,12]),(29,[823]),(0,[0]),(73,[]),(3,[1]),(3,[0]),(2,[3]),(0,[1]),(8,[]),(80,[]),(60,[0,23,3,0]),(3,[2]),(3,[0]),(2,[3]),(0,[1]),(8,[]),(80,[]),(60,[0,26,123,12]),(29,[823]),(0,[0]),(73,[]),(3,[1]),(3,[0]),(2,[3]),(0,[1]),(8,[]),(80,[]),(60,[0,27,4,0]),(3,[2]),(3,[0]),(2,[3]),(0,[1]),(8,[]),(80,[]),(60,[0,30,124,12]),(29,[823]),(0,[0]),(73,[]),(3,[1]),(3,[0]),(2,[3]),(0,[1]),(8,[]),(80,[]),(3,[0]),(2,[3]),(0,[2]),(8,[]),(80,[]),(60,[0,31,5,0]),(3,[2]),(3,[0]),(2,[3]),(0,[1]),(8,[]),(80,[]),(3,[0]),(2,[3]),(0,[2]),(8,[]),(80,[]),(60,[0,35,125,12]),(29,[823]),(0,[0]),(73,[]),(3,[1]),(3,[0]),(2,[3]),(0,[1]),(8,[]),(80,[]),(60,[0,36,6,0]),(3,[2]),(3,[0]),(2,[3]),(0,[1]),(8,[]),(80,[]),(60,[0,39,127,12]),(29,[823]),(0,[0]),(73,[]),(3,[1]),(3,[0]),(2,[3]),(0,[1]),(8,[]),(80,[]),(60,[0,40,7,0]),(3,[2]),(3,[0]),(2,[3]),(0,[1]),(8,[]),(80,[]),(60,[0,43,129,12]),(29,[823]),(0,[0]),(73,[]),(3,[1]),(60,[0,44,8,0]),(3,[2]),(60,[0,48,130,12]),(29,[823]),(0,[0]),(73,[]),(3,[1]),(60,[0,49,9,0]),(3,[2]),(60,[0,52,131,12]),(29,[823]),(0,[0]),(73,[]),(3,[1]),(3,[0]),(2,[3]),(0,[1]),(8,[]),(80,[]),(3,[0]),(2,[3]),(0,[2]),(8,[]),(80,[]),(60,[0,53,10,0]),(3,[2]),(3,[0]),(2,[3]),(0,[1]),(8,[]),(80,[]),(3,[0]),(2,[3]),(0,[2]),(8,[]),(80,[]),(60,[0,56,132,12]),(29,[823]),(0,[0]),(73,[]),(3,[1]),(3,[0]),(2,[3]),(0,[1]),(8,[]),(80,[]),(3,[0]),(2,[3]),(0,[2]),(8,[]),(80,[]),(60,[0,57,11,0]),(3,[2]),(3,[0]),(2,[3]),(0,[1]),(8,[]),(80,[]),(3,[0]),(2,[3]),(0,[2]),(8,[]),(80,[]),(60,[0,60,133,12]),(29,[823]),(0,[0]),(73,[]),(3,[1]),(3,[0]),(2,[3]),(0,[1]),(8,[]),(80,[]),(60,[0,61,12,0]),(3,[2]),(3,[0]),(2,[3]),(0,[1]),(8,[]),(80,[]),(60,[0,64,134,12]),(29,[823]),(0,[0]),(73,[]),(3,[1]),(60,[0,65,13,0]),(3,[2]),(60,[0,68,135,12]),(29,[823]),(0,[0]),(73,[]),(3,[1]),(3,[0]),(2,[3]),(0,[1]),(8,[]),(80,[]),(3,[0]),(2,[3]),(0,[2]),(8,[]),(80,[]),(60,[0,69,14,0]),(3,[2]),(3,[0]),(2,[3]),(0,[1]),(8,[]),(80,[]),(3,[0]),(2,[3]),(0,[2]),(8,[]),(80,[]),(60,[0,72,137,12]),(29,[823]),(0,[0]),(73,[]),(3,[1]),(3,[0]),(2,[3]),(0,[1]),(8,[]),(80,[]),(60,[0,73,15,0]),(3,[2]),(3,[0]),(2,[3]),(0,[1]),(8,[]),(80,[]),(60,[0,76,139,12]),(29,[823]),(0,[0]),(73,[]),(3,[1]),(3,[0]),(2,[3]),(0,[1]),(8,[]),(80,[]),(60,[0,77,16,0]),(3,[2]),(3,[0]),(2,[3]),(0,[1]),(8,[]),(80,[]),(60,[0,80,140,12]),(29,[823]),(0,[0]),(73,[]),(3,[1]),(3,[0]),(2,[3]),(0,[1]),(8,[]),(80,[]),(60,[0,81,17,0]),(3,[2]),(3,[0]),(2,[3]),(0,[1]),(8,[]),(80,[]),(60,[0,84,146,12]),(29,[823]),(0,[0]),(73,[]),(3,[1]),(3,[0]),(2,[3]),(0,[1]),(8,[]),(80,[]),(60,[0,85,18,0]),(3,[2]),(3,[0]),(2,[3]),(0,[1]),(8,[]),(80,[]),(60,[0,88,143,12]),(29,[823]),(0,[0]),(73,[]),(3,[1]),(60,[0,89,19,0]),(3,[2]),(60,[0,92,147,12]),(29,[823]),(0,[0]),(73,[]),(3,[1]),(60,[0,93,20,0]),(3,[2]),(60,[0,96,148,12]),(29,[823]),(0,[0]),(73,[]),(3,[1]),(3,[0]),(2,[3]),(0,[1]),(8,[]),(80,[]),(3,[0]),(2,[3]),(0,[2]),(8,[]),(80,[]),(60,[0,97,21,0]),(3,[2]),(3,[0]),(2,[3]),(0,[1]),(8,[]),(80,[]),(3,[0]),(2,[3]),(0,[2]),(8,[]),(80,[]),(60,[0,100,149,12]),(29,[823]),(0,[0]),(73,[]),(3,[1]),(3,[0]),(2,[3]),(0,[1]),(8,[]),(80,[]),(60,[0,101,22,0]),(3,[2]),(3,[0]),(2,[3]),(0,[1]),(8,[]),(80,[]),(60,[0,104,150,12]),(29,[823]),(0,[0]),(73,[]),(3,[1]),(3,[0]),(2,[3]),(0,[1]),(8,[]),(80,[]),(60,[0,105,23,0]),(3,[2]),(3,[0]),(2,[3]),(0,[1]),(8,[]),(80,[]),(60,[0,108,151,12]),(29,[823]),(0,[0]),(73,[]),(3,[1]),(60,[0,109,24,0]),(3,[2]),(60,[0,112,152,12]),(29,[823]),(0,[0]),(73,[]),(3,[1]),(60,[0,113,25,0]),(3,[2]),(60,[0,116,153,12]),(29,[823]),(0,[0]),(73,[]),(3,[1]),(3,[0]),(2,[3]),(0,[1]),(8,[]),(80,[]),(60,[0,117,26,0]),(3,[2]),(3,[0]),(2,[3]),(0,[1]),(8,[]),(80,[]),(60,[0,120,154,12]),(29,[823]),(0,[0]),(73,[]),(3,[1]),(3,[0]),(2,[3]),(0,[1]),(8,[]),(80,[]),(3,[0]),(2,[3]),(0,[2]),(8,[]),(80,[]),(60,[0,121,27,0]),(3,[2]),(3,[0]),(2,[3]),(0,[1]),(8,[]),(80,[]),(3,[0]),(2,[3]),(0,[2]),(8,[]),(80,[]),(60,[0,124,155,12]),(29,[823]),(0,[0]),(73,[]),(3,[1]),(3,[0]),(2,[3]),(0,[1]),(8,[]),(80,[]),(60,[0,125,28,0]),(3,[2]),(3,[0]),(2,[3]),(0,[1]),(8,[]),(80,[]),(60,[0,128,158,12]),(29,[823]),(0,[0]),(73,[]),(3,[1]),(3,[0]),(2,[3]),(0,[1]),(8,[]),(80,[]),(60,[0,129,29,0]),(3,[2]),(3,[0]),(2,[3]),(0,[1]),(8,[]),(80,[]),(60,[0,132,160,12]),(29,[823]),(0,[0]),(73,[]),(3,[1]),(3,[0]),(2,[3]),(0,[1]),(8,[]),(80,[]),(60,[0,133,30,0]),(3,[2]),(3,[0]),(2,[3]),(0,[1]),(8,[]),(80,[]),(60,[0,136,163,12]),(29,[823]),(0,[0]),(73,[]),(3,[1]),(3,[0]),(2,[3]),(0,[1]),(8,[]),(80,[]),(3,[0]),(2,[3]),(0,[2]),(8,[]),(80,[]),(60,[0,137,31,0]),(3,[2]),(3,[0]),(2,[3]),(0,[1]),(8,[]),(80,[]),(3,[0]),(2,[3]),(0,[2]),(8,[]),(80,[]),(60,[0,140,164,12]),(29,[823]),(0,[0]),(73,[]),(3,[1]),(3,[0]),(2,[3]),(0,[1]),(8,[]),(80,[]),(60,[0,141,32,0]),(3,[2]),(3,[0]),(2,[3]),(0,[1]),(8,[]),(80,[]),(60,[0,144,166,12]),(29,[823]),(0,[0]),(73,[]),(3,[1]),(3,[0]),(2,[3]),(0,[1]),(8,[]),(80,[]),(3,[0]),(2,[3]),(0,[2]),(8,[]),(80,[]),(60,[0,145,33,0]),(3,[2]),(3,[0]),(2,[3]),(0,[1]),(8,[]),(80,[]),(3,[0]),(2,[3]),(0,[2]),(8,[]),(80,[]),(60,[0,148,167,12]),(29,[823]),(0,[0]),(73,[]),(3,[1]),(3,[0]),(2,[3]),(0,[1]),(8,[]),(80,[]),(60,[0,149,34,0]),(3,[2]),(3,[0]),(2,[3]),(0,[1]),(8,[]),(80,[]),(60,[0,152,168,12]),(29,[823]),(0,[0]),(73,[]),(3,[1]),(3,[0]),(2,[3]),(0,[1]),(8,[]),(80,[]),(3,[0]),(2,[3]),(0,[2]),(8,[]),(80,[]),(60,[0,153,35,0]),(3,[2]),(3,[0]),(2,[3]),(0,[1]),(8,[]),(80,[]),(3,[0]),(2,[3]),(0,[2]),(8,[]),(80,[]),(60,[0,156,169,12]),(29,[823]),(0,[0]),(73,[]),(3,[1]),(3,[0]),(2,[3]),(0,[1]),(8,[]),(80,[]),(3,[0]),(2,[3]),(0,[2]),(8,[]),(80,[]),(60,[0,157,36,0]),(3,[2]),(3,[0]),(2,[3]),(0,[1]),(8,[]),(80,[]),(3,[0]),(2,[3]),(0,[2]),(8,[]),(80,[]),(60,[0,160,174,12]),(29,[823]),(0,[0]),(73,[]),(3,[1]),(60,[0,161,37,0]),(3,[2]),(60,[0,164,175,12]),(29,[823]),(0,[0]),(73,[]),(3,[1]),(3,[0]),(2,[3]),(0,[1]),(8,[]),(80,[]),(3,[0]),(2,[3]),(0,[2]),(8,[]),(80,[]),(60,[0,165,38,0]),(3,[2]),(3,[0]),(2,[3]),(0,[1]),(8,[]),(80,[]),(3,[0]),(2,[3]),(0,[2]),(8,[]),(80,[]),(60,[0,168,173,12]),(29,[823]),(0,[0]),(73,[]),(3,[1]),(3,[0]),(2,[3]),(0,[1]),(8,[]),(80,[]),(60,[0,169,39,0]),(3,[2]),(3,[0]),(2,[3]),(0,[1]),(8,[]),(80,[]),(60,[0,172,176,12]),(29,[823]),(0,[0]),(73,[]),(3,[1]),(3,[0]),(2,[3]),(0,[1]),(8,[]),(80,[]),(60,[0,173,40,0]),(3,[2]),(3,[0]),(2,[3]),(0,[1]),(8,[]),(80,[]),(60,[0,176,177,12]),(29,[823]),(0,[0]),(73,[]),(3,[1]),(3,[0]),(2,[3]),(0,[1]),(8,[]),(80,[]),(60,[0,177,41,0]),(3,[2]),(3,[0]),(2,[3]),(0,[1]),(8,[]),(80,[]),(60,[0,180,178,12]),(29,[823]),(0,[0]),(73,[]),(3,[1]),(3,[0]),(2,[3]),(0,[1]),(8,[]),(80,[]),(60,[0,181,42,0]),(3,[2]),(3,[0]),(2,[3]),(0,[1]),(8,[]),(80,[]),(60,[0,184,179,12]),(29,[823]),(0,[0]),(73,[]),(3,[1]),(3,[0]),(2,[3]),(0,[1]),(8,[]),(80,[]),(60,[0,185,43,0]),(3,[2]),(3,[0]),(2,[3]),(0,[1]),(8,[]),(80,[]),(60,[0,188,181,12]),(29,[823]),(0,[0]),(73,[]),(7,[3,6]),(35,[10]),(0,[1]),(73,[])]
/-- a method: its rows, its locals, its arguments, 1 if it answers -/
def zPt : List (List (Nat × List Int) × Nat × Nat × Nat) := [(kX_init,1,1,0),
 (kX_feed,6,6,1),
 (kX_script,2,2,1),
 (kX_text,3,2,1),
 (kX_fault,2,2,1),
 (kX_insert,3,3,1),
 (kX_backspace,3,2,1),
 (kX_delete,4,2,1),
 (kX_erase,2,1,1),
 (kX_order,1,1,1),
 (kX_letter,4,3,1),
 (kX_joins,3,3,1),
 (kX_at,2,2,1),
 (kX_clusters,1,1,1),
 (kX_cluster,3,3,1),
 (kX_of,2,2,1),
 (kX_broken,2,2,1),
 (kX_mend,2,2,1),
 (kX_may,6,2,1),
 (kX_mended,2,1,1),
 (kX_glyphs,1,1,1),
 (kX_glyph,3,3,1),
 (kX_shown,2,2,1),
 (kX_back,2,2,1),
 (kX_isOrdered,2,1,1),
 (kX_stops,1,1,1),
 (kX_stop,2,2,1),
 (kX_next,3,3,1),
 (kX_x,3,2,1),
 (kX_hit,4,2,1),
 (kX_lines,2,2,1),
 (kX_lineEnd,3,3,1),
 (kX_even,2,2,1),
 (kX_evenEnd,3,3,1),
 (kX_narrowest,4,2,1),
 (kX_find,4,3,1),
 (kX_alike,3,3,1),
 (kX_kinds,5,1,1),
 (kX_compare,4,3,1),
 (kX_ranked,3,2,1),
 (kX_undo,2,2,1),
 (kX_image,2,2,1),
 (kX_restore,2,2,1),
 (kX_count,2,2,1),
 (kX_putBytes,3,2,0),
 (kX_emptyTape,3,3,0),
 (kX_firstNoLetter,3,2,1),
 (kX_standsAt,4,3,1),
 (kX_clustersAheadOf,5,2,1),
 (kX_settle,2,1,0),
 (kX_isLetter,1,1,1),
 (kX_isSign,1,1,1),
 (kX_isPart,1,1,1),
 (kX_isMarkOrTail,1,1,1),
 (kX_isJoinerOrBreaker,1,1,1),
 (kX_isLineWidth,1,1,1),
 (kX_hasBit,2,2,1),
 (kX_goOn,2,2,1),
 (kX_takesSigns,1,1,1),
 (kX_firstState,1,1,1),
 (kX_sortOf,1,1,1),
 (kX_stateBehind,3,2,1),
 (kX_breaks,2,2,1),
 (kX_wideOf,2,2,1),
 (kX_wordNamed,1,1,1),
 (kX_isToldOnce,1,1,1),
 (kM_within,6,3,3),
 (kM_init,1,1,0),
 (kM_laysNone,2,1,0),
 (kM_copies,6,5,0),
 (kM_notes,1,1,0),
 (kM_many,1,1,1),
 (kM_letterAt,2,2,1),
 (kM_isLetter,1,1,1),
 (kM_kindOf,2,2,1),
 (kM_does,3,3,1),
 (kM_kindAt,2,2,1),
 (kM_doJoin,4,3,1),
 (kM_isSign,1,1,1),
 (kM_isJoiner,1,1,1),
 (kM_laysConsonant,2,2,0),
 (kM_behind,2,2,1),
 (kM_chains,5,2,1),
 (kM_marksFrom,3,2,1),
 (kM_ends,4,3,1),
 (kM_isAheadOfBase,2,2,1),
 (kM_baseOf,3,2,1),
 (kM_hasReph,1,1,1),
 (kM_joinsChain,5,3,0),
 (kM_laysCluster,5,3,1),
 (kM_laysAll,2,1,0),
 (kM_shows,6,6,0),
 (kM_showsAt,5,5,0),
 (kM_widthOf,4,3,1),
 (kM_showsSigns,10,5,0),
 (kM_showsKind,6,5,0),
 (kM_showsWith,3,3,0),
 (kM_showsAhead,5,3,1),
 (kM_showsJoined,5,5,0),
 (kM_showsStacked,3,3,0),
 (kM_joinerFrom,2,2,1),
 (kM_laysGlyphs,7,3,0),
 (kM_showsAlone,4,3,0),
 (kM_clusterWidth,4,2,1),
 (kM_reads,2,2,0),
 (kM_readsSigns,6,4,0),
 (kM_readsBack,3,1,0),
 (kM_feed,8,6,1),
 (kM_see,1,1,1),
 (kM_fails,3,3,0),
 (kM_blanks,1,1,0),
 (kM_goesBy,2,1,1),
 (kM_wordFrom,7,2,1),
 (kM_rowLetter,3,3,1),
 (kM_isSingle,1,1,1),
 (kM_isTold,6,4,1),
 (kM_areMeant,7,4,1),
 (kM_isSplit,6,3,1),
 (kM_isPair,5,3,1),
 (kM_line,4,1,0),
 (kM_opensTape,2,2,1),
 (kM_lettersWithKind,4,2,1),
 (kM_script,2,2,1),
 (kM_text,3,2,1),
 (kM_fault,2,2,1),
 (kM_insert,4,3,1),
 (kM_goes,4,3,0),
 (kM_backspace,3,2,1),
 (kM_clusterFrom,3,2,1),
 (kM_delete,3,2,1),
 (kM_erase,2,1,1),
 (kM_order,1,1,1),
 (kM_letter,3,3,1),
 (kM_joins,3,3,1),
 (kM_at,2,2,1),
 (kM_clusters,1,1,1),
 (kM_isCluster,2,2,1),
 (kM_cluster,3,3,1),
 (kM_clusterWith,3,2,1),
 (kM_of,2,2,1),
 (kM_broken,4,2,1),
 (kM_goesOn,4,3,1),
 (kM_brokenWith,6,3,1),
 (kM_may,5,2,1),
 (kM_keeps,4,3,1),
 (kM_mends,5,1,0),
 (kM_mend,2,2,1),
 (kM_mended,2,1,1),
 (kM_glyphs,1,1,1),
 (kM_glyph,3,3,1),
 (kM_shown,2,2,1),
 (kM_back,2,2,1),
 (kM_isOrdered,3,1,1),
 (kM_stops,1,1,1),
 (kM_stop,2,2,1),
 (kM_next,4,3,1),
 (kM_stopOf,3,2,1),
 (kM_xOf,4,2,1),
 (kM_x,3,2,1),
 (kM_apart,2,2,1),
 (kM_hit,4,2,1),
 (kM_allFit,3,2,1),
 (kM_fillsLines,4,2,1),
 (kM_lines,2,2,1),
 (kM_lineEnd,3,3,1),
 (kM_evens,6,2,1),
 (kM_even,2,2,1),
 (kM_evenEnd,3,3,1),
 (kM_narrowest,3,2,1),
 (kM_find,6,3,1),
 (kM_glyphsOrder,5,3,1),
 (kM_baseGlyph,3,2,1),
 (kM_inOrder,8,3,1),
 (kM_compare,3,3,1),
 (kM_alike,3,3,1),
 (kM_kinds,5,1,1),
 (kM_ranked,5,2,1),
 (kM_undo,2,2,1),
 (kM_image,2,2,1),
 (kM_restore,2,2,1),
 (kM_ofForm,4,2,1),
 (kM_count,2,2,1),
 (kAn_init,1,1,0),
 (kAn_study,4,4,0),
 (kAn_readChain,3,2,0),
 (kAn_readBetween,3,3,0),
 (kAn_hasReph,2,2,1),
 (kAn_chosenBase,3,2,1),
 (kAn_joinPairs,5,2,0),
 (kAn_basePlace,1,1,1),
 (kCu_init,1,1,0),
 (kCu_split,4,2,0),
 (kCu_describe,3,3,0),
 (kCu_has,2,2,1),
 (kCu_factOf,3,3,1),
 (kCu_endOf,2,2,1),
 (kCu_ownerOf,2,2,1),
 (kCu_kindAt,2,2,1),
 (kCu_brokenAt,4,2,1),
 (kCu_brokenWith,6,3,1),
 (kCu_stopPlace,2,2,1),
 (kCu_stopAt,3,2,1),
 (kCu_stopAbove,3,2,1),
 (kCu_stopBelow,3,2,1),
 (kDr_init,4,4,0),
 (kDr_clear,1,1,0),
 (kDr_draw,2,2,0),
 (kDr_measure,3,2,0),
 (kDr_put,6,6,1),
 (kDr_putLetter,5,4,1),
 (kDr_showBy,3,3,0),
 (kDr_drawSigns,4,3,0),
 (kDr_drawPart,7,5,0),
 (kDr_drawMarks,4,3,0),
 (kDr_drawAhead,6,1,0),
 (kDr_isHalf,3,2,1),
 (kDr_drawConsonants,9,5,1),
 (kDr_drawMiddle,2,1,0),
 (kDr_drawStacked,2,1,0),
 (kDr_drawDead,2,1,0),
 (kDr_drawReph,1,1,0),
 (kDr_xOf,2,2,1),
 (kDr_widthOf,2,2,1),
 (kDr_glyphsOf,2,2,1),
 (kDr_glyphsOfForm,4,2,1),
 (kDr_inOrder,6,3,1),
 (kDr_glyphsInOrder,4,3,1),
 (kDr_orderedFirst,2,2,1),
 (kDr_baseGlyph,3,2,1),
 (kHi_init,2,1,0),
 (kHi_keep,3,2,0),
 (kHi_dropEldest,3,1,0),
 (kHi_goBack,4,3,0),
 (kHi_forget,1,1,0),
 (kMe_init,1,1,0),
 (kMe_choose,6,2,0),
 (kMe_fewestWith,4,4,1),
 (kPi_init,2,1,0),
 (kPi_isMade,2,2,1),
 (kPi_take,3,3,0),
 (kPi_show,3,3,0),
 (kRb_init,3,3,0),
 (kRb_clear,1,1,0),
 (kRb_read,5,2,0),
 (kRb_readSigns,5,4,0),
 (kRb_readPart,3,3,0),
 (kRb_readKind,5,4,0),
 (kRb_put,2,2,0),
 (kRe_init,1,1,0),
 (kRe_readScript,4,3,0),
 (kRe_readLine,6,1,0),
 (kRe_fail,3,3,0),
 (kRe_byteAt,2,2,1),
 (kRe_skipBlanks,2,1,0),
 (kRe_skipLetters,3,1,1),
 (kRe_wordAt,4,3,1),
 (kRe_isWord,5,4,1),
 (kRe_takeRow,4,4,1),
 (kRe_takeKind,6,4,1),
 (kRe_takeRa,3,2,1),
 (kRe_takeTraits,7,4,1),
 (kRe_takePair,3,3,1),
 (kRe_takeSplit,5,2,1),
 (kSc_init,1,1,0),
 (kSc_clear,2,1,0),
 (kSc_copyFrom,2,2,0),
 (kSc_kindOf,2,2,1),
 (kSc_partOf,3,3,1),
 (kSc_joined,3,3,1),
 (kSc_lettersTold,3,1,1),
 (kSt_init,1,1,0),
 (kSt_copyFrom,2,2,0),
 (kSt_letterAt,2,2,1),
 (kSt_become,5,4,0),
 (kSt_putIn,4,3,0),
 (kSt_takeOut,4,3,0),
 (kWr_init,1,1,0),
 (kWr_fits,5,4,1),
 (kWr_greedy,6,4,1),
 (kWr_evenly,6,4,1),
 (kWr_chooseBreak,8,5,0),
 (kWr_endLine,2,2,0)]
end
section
/-- the shapes of the cells, once both objects are made -/
def zS0 : List zSh := [(0,0,[1,-1,-1,-1,2,9,81,98,105,120,126,138,140,144]),
 (1,400,[]),
 (0,10,[3,8,-1]),
 (0,9,[4,5,6,7,-1,-1,-1,-1]),
 (1,26,[]),
 (1,26,[]),
 (1,26,[]),
 (1,26,[]),
 (1,60,[]),
 (0,4,[-1,10]),
 (5,10,[10]),
 (0,10,[12,17,-1]),
 (0,9,[13,14,15,16,-1,-1,-1,-1]),
 (1,26,[]),
 (1,26,[]),
 (1,26,[]),
 (1,26,[]),
 (1,60,[]),
 (0,10,[19,24,-1]),
 (0,9,[20,21,22,23,-1,-1,-1,-1]),
 (1,26,[]),
 (1,26,[]),
 (1,26,[]),
 (1,26,[]),
 (1,60,[]),
 (0,10,[26,31,-1]),
 (0,9,[27,28,29,30,-1,-1,-1,-1]),
 (1,26,[]),
 (1,26,[]),
 (1,26,[]),
 (1,26,[]),
 (1,60,[]),
 (0,10,[33,38,-1]),
 (0,9,[34,35,36,37,-1,-1,-1,-1]),
 (1,26,[]),
 (1,26,[]),
 (1,26,[]),
 (1,26,[]),
 (1,60,[]),
 (0,10,[40,45,-1]),
 (0,9,[41,42,43,44,-1,-1,-1,-1]),
 (1,26,[]),
 (1,26,[]),
 (1,26,[]),
 (1,26,[]),
 (1,60,[]),
 (0,10,[47,52,-1]),
 (0,9,[48,49,50,51,-1,-1,-1,-1]),
 (1,26,[]),
 (1,26,[]),
 (1,26,[]),
 (1,26,[]),
 (1,60,[]),
 (0,10,[54,59,-1]),
 (0,9,[55,56,57,58,-1,-1,-1,-1]),
 (1,26,[]),
 (1,26,[]),
 (1,26,[]),
 (1,26,[]),
 (1,60,[]),
 (0,10,[61,66,-1]),
 (0,9,[62,63,64,65,-1,-1,-1,-1]),
 (1,26,[]),
 (1,26,[]),
 (1,26,[]),
 (1,26,[]),
 (1,60,[]),
 (0,10,[68,73,-1]),
 (0,9,[69,70,71,72,-1,-1,-1,-1]),
 (1,26,[]),
 (1,26,[]),
 (1,26,[]),
 (1,26,[]),
 (1,60,[]),
 (0,10,[75,80,-1]),
 (0,9,[76,77,78,79,-1,-1,-1,-1]),
 (1,26,[]),
 (1,26,[]),
 (1,26,[]),
 (1,26,[]),
 (1,60,[]),
 (0,6,[82,83]),
 (5,2,[10]),
 (3,2,[]),
 (0,10,[85,90,-1]),
 (0,9,[86,87,88,89,-1,-1,-1,-1]),
 (1,26,[]),
 (1,26,[]),
 (1,26,[]),
 (1,26,[]),
 (1,60,[]),
 (0,10,[92,97,-1]),
 (0,9,[93,94,95,96,-1,-1,-1,-1]),
 (1,26,[]),
 (1,26,[]),
 (1,26,[]),
 (1,26,[]),
 (1,60,[]),
 (0,8,[99,-1,-1,104,-1,-1,-1]),
 (0,9,[100,101,102,103,-1,-1,-1,-1]),
 (1,26,[]),
 (1,26,[]),
 (1,26,[]),
 (1,26,[]),
 (1,400,[]),
 (0,2,[-1,-1,106,107,108]),
 (1,60,[]),
 (1,60,[]),
 (4,11,[109]),
 (1,60,[]),
 (1,60,[]),
 (1,60,[]),
 (1,60,[]),
 (1,60,[]),
 (1,60,[]),
 (1,60,[]),
 (1,60,[]),
 (1,60,[]),
 (1,60,[]),
 (1,60,[]),
 (0,1,[-1,-1,-1,-1,-1,-1,-1,-1,-1,-1,121,122,123,124,125]),
 (1,60,[]),
 (1,60,[]),
 (1,60,[]),
 (1,60,[]),
 (3,60,[]),
 (0,3,[-1,127,135,136,137,2,105,120,-1]),
 (4,7,[128]),
 (1,180,[]),
 (1,180,[]),
 (1,180,[]),
 (1,180,[]),
 (1,180,[]),
 (1,180,[]),
 (1,180,[]),
 (1,60,[]),
 (1,61,[]),
 (1,61,[]),
 (0,7,[-1,139,2,105]),
 (1,120,[]),
 (0,11,[-1,141,142,143]),
 (1,61,[]),
 (1,61,[]),
 (1,61,[]),
 (0,5,[-1,145,146]),
 (1,60,[]),
 (4,61,[147]),
 (1,10,[]),
 (1,10,[]),
 (1,10,[]),
 (1,10,[]),
 (1,10,[]),
 (1,10,[]),
 (1,10,[]),
 (1,10,[]),
 (1,10,[]),
 (1,10,[]),
 (1,10,[]),
 (1,10,[]),
 (1,10,[]),
 (1,10,[]),
 (1,10,[]),
 (1,10,[]),
 (1,10,[]),
 (1,10,[]),
 (1,10,[]),
 (1,10,[]),
 (1,10,[]),
 (1,10,[]),
 (1,10,[]),
 (1,10,[]),
 (1,10,[]),
 (1,10,[]),
 (1,10,[]),
 (1,10,[]),
 (1,10,[]),
 (1,10,[]),
 (1,10,[]),
 (1,10,[]),
 (1,10,[]),
 (1,10,[]),
 (1,10,[]),
 (1,10,[]),
 (1,10,[]),
 (1,10,[]),
 (1,10,[]),
 (1,10,[]),
 (1,10,[]),
 (1,10,[]),
 (1,10,[]),
 (1,10,[]),
 (1,10,[]),
 (1,10,[]),
 (1,10,[]),
 (1,10,[]),
 (1,10,[]),
 (1,10,[]),
 (1,10,[]),
 (1,10,[]),
 (1,10,[]),
 (1,10,[]),
 (1,10,[]),
 (1,10,[]),
 (1,10,[]),
 (1,10,[]),
 (1,10,[]),
 (1,10,[]),
 (1,10,[]),
 (0,12,[-1,209,210,-1,211,212,213,214,215,216,217,218,219,220,221,-1,222,223,224,225,226,-1,-1,227,228,229,230,231,232,233,234,-1,235,-1,236,-1,-1,-1,-1,-1,237,-1,238,-1,239,240,-1,241,242,243,-1]),
 (1,546,[]),
 (1,1820,[]),
 (3,2,[]),
 (1,61,[]),
 (1,60,[]),
 (1,60,[]),
 (1,60,[]),
 (1,60,[]),
 (1,60,[]),
 (1,60,[]),
 (1,60,[]),
 (1,60,[]),
 (1,61,[]),
 (1,60,[]),
 (1,60,[]),
 (1,60,[]),
 (1,60,[]),
 (3,60,[]),
 (1,180,[]),
 (1,180,[]),
 (1,180,[]),
 (1,180,[]),
 (1,180,[]),
 (1,180,[]),
 (1,180,[]),
 (1,60,[]),
 (1,120,[]),
 (2,400,[]),
 (1,122,[]),
 (2,111,[]),
 (1,549,[]),
 (1,60,[]),
 (1,60,[]),
 (1,61,[]),
 (1,61,[])]
def zcls (S : List zSh) (b : Int) : Option Int := match zsh S b with
  | some (0, c, _) => some (c : Int)
  | _ => none
def zref (S : List zSh) (b : Int) (cl s : Int) : Option Int := match zsh S b with
  | some (0, c, rs) => if (c : Int) = cl ∧ 0 ≤ rs.getD s.toNat (-1) then some (rs.getD s.toNat (-1)) else none
  | _ => none
def zar (S : List zSh) (b : Int) : Option (Nat × Nat) := match zsh S b with
  | some (t, n, _) => if t = 0 then none else some (t, n)
  | none => none
def zrow (S : List zSh) (b : Int) : Option (Nat × Int) := match zsh S b with
  | some (4, n, rs) => some (n, rs.getD 0 0)
  | _ => none
theorem zcls_of {S : List zSh} {b cl : Int} (h : zcls S b = some cl) : ∃ (c : Nat) (rs : List Int), zsh S b = some (0, c, rs) ∧ (c : Int) = cl := by
  unfold zcls at h
  split at h
  · rename_i c rs hs
    exact ⟨c, rs, hs, by simpa using h⟩
  · cases h
theorem zref_of {S : List zSh} {b cl s v : Int} (h : zref S b cl s = some v) : ∃ (c : Nat) (rs : List Int), zsh S b = some (0, c, rs) ∧ (c : Int) = cl ∧ rs.getD s.toNat (-1) = v ∧ 0 ≤ v := by
  unfold zref at h
  split at h
  · rename_i c rs hs
    split at h
    · rename_i hc
      have e : rs.getD s.toNat (-1) = v := by simpa using h
      exact ⟨c, rs, hs, hc.1, e, by rw [← e]; exact hc.2⟩
    · cases h
  · cases h
theorem zar_of {S : List zSh} {b : Int} {t n : Nat} (h : zar S b = some (t, n)) : ∃ rs : List Int, zsh S b = some (t, n, rs) ∧ t ≠ 0 := by
  unfold zar at h
  split at h
  · rename_i t' n' rs hs
    split at h
    · cases h
    · rename_i h0
      cases h
      exact ⟨rs, hs, h0⟩
  · cases h
theorem zrow_of {S : List zSh} {b r : Int} {n : Nat} (h : zrow S b = some (n, r)) : ∃ rs : List Int, zsh S b = some (4, n, rs) ∧ rs.getD 0 0 = r := by
  unfold zrow at h
  split at h
  · rename_i n' rs hs
    cases h
    exact ⟨rs, hs, rfl⟩
  · cases h
theorem zup_eq (M : zM) (a i v : Int) : zup M a i v a i = v := if_pos ⟨rfl, rfl⟩
theorem zup_ne {M : zM} {a i v b j : Int} (h : b ≠ a ∨ j ≠ i) : zup M a i v b j = M b j := if_neg (fun q => h.elim (fun z => z q.1) (fun z => z q.2))
theorem zup_na {M : zM} {a i v b j : Int} (h : b ≠ a) : zup M a i v b j = M b j := if_neg (fun q => h q.1)
theorem zup_ni {M : zM} {a i v b j : Int} (h : j ≠ i) : zup M a i v b j = M b j := if_neg (fun q => h q.2)
/-- from here the machine comes to an end of which Q holds -/
def zWp (c : List zIn) (i : Nat) (ls st : List zV) (M : zM) (Q : zV → zM → Prop) : Prop := ∃ (n : Nat) (v : zV) (M' : zM), zrun zPt n c i ls st zS0 M = some (v, zS0, M') ∧ Q v M'
abbrev zFe (c : List zIn) (i j op : Nat) (a : List Int) : Prop := c[i]? = some (op, a) ∧ i + 1 = j
theorem zWp.mono {c : List zIn} {i : Nat} {ls st : List zV} {M : zM} {Q Q' : zV → zM → Prop} (h : zWp c i ls st M Q) (hq : ∀ v M', Q v M' → Q' v M') : zWp c i ls st M Q' := by
  obtain ⟨n, v, M', h1, h2⟩ := h
  exact ⟨n, v, M', h1, hq _ _ h2⟩
theorem zs_40 (a : List Int) (i : Nat) (ls st : List zV) (S : List zSh) (M : zM) : zstep (40, a) [] i ls st S M = zo_getf a i ls st S M := rfl
theorem zs_41 (a : List Int) (i : Nat) (ls st : List zV) (S : List zSh) (M : zM) : zstep (41, a) [] i ls st S M = zo_putf a i ls st S M := rfl
theorem zs_42 (a : List Int) (i : Nat) (ls st : List zV) (S : List zSh) (M : zM) : zstep (42, a) [] i ls st S M = zo_iald a i ls st S M := rfl
theorem zs_43 (a : List Int) (i : Nat) (ls st : List zV) (S : List zSh) (M : zM) : zstep (43, a) [] i ls st S M = zo_bald a i ls st S M := rfl
theorem zs_44 (a : List Int) (i : Nat) (ls st : List zV) (S : List zSh) (M : zM) : zstep (44, a) [] i ls st S M = zo_aald a i ls st S M := rfl
theorem zs_45 (a : List Int) (i : Nat) (ls st : List zV) (S : List zSh) (M : zM) : zstep (45, a) [] i ls st S M = zo_iast a i ls st S M := rfl
theorem zs_46 (a : List Int) (i : Nat) (ls st : List zV) (S : List zSh) (M : zM) : zstep (46, a) [] i ls st S M = zo_bast a i ls st S M := rfl
theorem zs_47 (a : List Int) (i : Nat) (ls st : List zV) (S : List zSh) (M : zM) : zstep (47, a) [] i ls st S M = zo_aast a i ls st S M := rfl
theorem zs_48 (a : List Int) (i : Nat) (ls st : List zV) (S : List zSh) (M : zM) : zstep (48, a) [] i ls st S M = zo_alen a i ls st S M := rfl
theorem zs_54 (a : List Int) (i : Nat) (ls st : List zV) (S : List zSh) (M : zM) : zstep (54, a) [] i ls st S M = zo_copy a i ls st S M := rfl
theorem zs_5 (a : List Int) (i : Nat) (ls st : List zV) (S : List zSh) (M : zM) : zstep (5, a) [] i ls st S M = zo_store zisI a i ls st S M := rfl
theorem zs_6 (a : List Int) (i : Nat) (ls st : List zV) (S : List zSh) (M : zM) : zstep (6, a) [] i ls st S M = zo_store zisA a i ls st S M := rfl
section ZW
variable {c : List zIn} {i j : Nat} {ls st r : List zV} {M : zM} {Q : zV → zM → Prop} {a : List Int}
theorem zw_step {op : Nat} {j : Nat} {ls' st' : List zV} {M' : zM} (hc : c[i]? = some (op, a)) (h60 : op < 60) (hs : zstep (op, a) [] i ls st zS0 M = some (j, ls', st', zS0, M')) (k : zWp c j ls' st' M' Q) : zWp c i ls st M Q := by
  obtain ⟨n, v, M2, h1, h2⟩ := k
  exact ⟨n + 1, v, M2, by rw [zrun_step (q := (op, a)) hc h60 hs]; exact h1, h2⟩
theorem zw_const {v : Int} (h : zFe c i j 0 (v :: a)) (k : zWp c j ls ((0, v) :: st) M Q) : zWp c i ls st M Q := zw_step h.1 (by decide) (by rw [← h.2]; rfl) k
theorem zw_lconst {v : Int} (h : zFe c i j 1 (v :: a)) (k : zWp c j ls ((2, v) :: st) M Q) : zWp c i ls st M Q := zw_step h.1 (by decide) (by rw [← h.2]; rfl) k
theorem zw_iload {v x : Int} (h : zFe c i j 2 (v :: a)) (hl : ls[v.toNat]? = some (0, x)) (k : zWp c j ls ((0, x) :: st) M Q) : zWp c i ls st M Q := zw_step h.1 (by decide) (by rw [← h.2]; show zo_load zisI (v :: a) i ls st zS0 M = _; unfold zo_load; rw [show zarg (v :: a) 0 = v from rfl, hl]; rfl) k
theorem zw_aload {v x : Int} (h : zFe c i j 3 (v :: a)) (hl : ls[v.toNat]? = some (1, x)) (k : zWp c j ls ((1, x) :: st) M Q) : zWp c i ls st M Q := zw_step h.1 (by decide) (by rw [← h.2]; show zo_load zisA (v :: a) i ls st zS0 M = _; unfold zo_load; rw [show zarg (v :: a) 0 = v from rfl, hl]; rfl) k
theorem zw_tload {v x : Int} (h : zFe c i j 3 (v :: a)) (hl : ls[v.toNat]? = some (4, x)) (k : zWp c j ls ((4, x) :: st) M Q) : zWp c i ls st M Q := zw_step h.1 (by decide) (by rw [← h.2]; show zo_load zisA (v :: a) i ls st zS0 M = _; unfold zo_load; rw [show zarg (v :: a) 0 = v from rfl, hl]; rfl) k
theorem zw_lload {v x : Int} (h : zFe c i j 4 (v :: a)) (hl : ls[v.toNat]? = some (2, x)) (k : zWp c j ls ((2, x) :: st) M Q) : zWp c i ls st M Q := zw_step h.1 (by decide) (by rw [← h.2]; show zo_load zisL (v :: a) i ls st zS0 M = _; unfold zo_load; rw [show zarg (v :: a) 0 = v from rfl, hl]; rfl) k
theorem zw_istore_0 {x : Int} {v0 : zV} (h : zFe c i j 5 (0 :: a)) (k : zWp c j ((0, x) :: r) st M Q) : zWp c i (v0 :: r) ((0, x) :: st) M Q := zw_step h.1 (by decide) (by rw [← h.2, zs_5]; unfold zo_store; dsimp only; rw [if_pos ⟨rfl, by simp [zarg]⟩]; rfl) k
theorem zw_astore_0 {x : Int} {v0 : zV} (h : zFe c i j 6 (0 :: a)) (k : zWp c j ((1, x) :: r) st M Q) : zWp c i (v0 :: r) ((1, x) :: st) M Q := zw_step h.1 (by decide) (by rw [← h.2, zs_6]; unfold zo_store; dsimp only; rw [if_pos ⟨rfl, by simp [zarg]⟩]; rfl) k
theorem zw_iinc_0 {x d : Int} (h : zFe c i j 7 [0, d]) (hb : -2147483648 ≤ x + d ∧ x + d ≤ 2147483647) (k : zWp c j ((0, x + d) :: r) st M Q) : zWp c i ((0, x) :: r) st M Q := zw_step h.1 (by decide) (by rw [← h.2]; exact if_pos ⟨rfl, hb⟩) k
theorem zw_istore_1 {x : Int} {v0 v1 : zV} (h : zFe c i j 5 (1 :: a)) (k : zWp c j (v0 :: (0, x) :: r) st M Q) : zWp c i (v0 :: v1 :: r) ((0, x) :: st) M Q := zw_step h.1 (by decide) (by rw [← h.2, zs_5]; unfold zo_store; dsimp only; rw [if_pos ⟨rfl, by simp [zarg]⟩]; rfl) k
theorem zw_astore_1 {x : Int} {v0 v1 : zV} (h : zFe c i j 6 (1 :: a)) (k : zWp c j (v0 :: (1, x) :: r) st M Q) : zWp c i (v0 :: v1 :: r) ((1, x) :: st) M Q := zw_step h.1 (by decide) (by rw [← h.2, zs_6]; unfold zo_store; dsimp only; rw [if_pos ⟨rfl, by simp [zarg]⟩]; rfl) k
theorem zw_iinc_1 {x d : Int} {v0 : zV} (h : zFe c i j 7 [1, d]) (hb : -2147483648 ≤ x + d ∧ x + d ≤ 2147483647) (k : zWp c j (v0 :: (0, x + d) :: r) st M Q) : zWp c i (v0 :: (0, x) :: r) st M Q := zw_step h.1 (by decide) (by rw [← h.2]; exact if_pos ⟨rfl, hb⟩) k
theorem zw_istore_2 {x : Int} {v0 v1 v2 : zV} (h : zFe c i j 5 (2 :: a)) (k : zWp c j (v0 :: v1 :: (0, x) :: r) st M Q) : zWp c i (v0 :: v1 :: v2 :: r) ((0, x) :: st) M Q := zw_step h.1 (by decide) (by rw [← h.2, zs_5]; unfold zo_store; dsimp only; rw [if_pos ⟨rfl, by simp [zarg]⟩]; rfl) k
theorem zw_astore_2 {x : Int} {v0 v1 v2 : zV} (h : zFe c i j 6 (2 :: a)) (k : zWp c j (v0 :: v1 :: (1, x) :: r) st M Q) : zWp c i (v0 :: v1 :: v2 :: r) ((1, x) :: st) M Q := zw_step h.1 (by decide) (by rw [← h.2, zs_6]; unfold zo_store; dsimp only; rw [if_pos ⟨rfl, by simp [zarg]⟩]; rfl) k
theorem zw_iinc_2 {x d : Int} {v0 v1 : zV} (h : zFe c i j 7 [2, d]) (hb : -2147483648 ≤ x + d ∧ x + d ≤ 2147483647) (k : zWp c j (v0 :: v1 :: (0, x + d) :: r) st M Q) : zWp c i (v0 :: v1 :: (0, x) :: r) st M Q := zw_step h.1 (by decide) (by rw [← h.2]; exact if_pos ⟨rfl, hb⟩) k
theorem zw_istore_3 {x : Int} {v0 v1 v2 v3 : zV} (h : zFe c i j 5 (3 :: a)) (k : zWp c j (v0 :: v1 :: v2 :: (0, x) :: r) st M Q) : zWp c i (v0 :: v1 :: v2 :: v3 :: r) ((0, x) :: st) M Q := zw_step h.1 (by decide) (by rw [← h.2, zs_5]; unfold zo_store; dsimp only; rw [if_pos ⟨rfl, by simp [zarg]⟩]; rfl) k
theorem zw_astore_3 {x : Int} {v0 v1 v2 v3 : zV} (h : zFe c i j 6 (3 :: a)) (k : zWp c j (v0 :: v1 :: v2 :: (1, x) :: r) st M Q) : zWp c i (v0 :: v1 :: v2 :: v3 :: r) ((1, x) :: st) M Q := zw_step h.1 (by decide) (by rw [← h.2, zs_6]; unfold zo_store; dsimp only; rw [if_pos ⟨rfl, by simp [zarg]⟩]; rfl) k
theorem zw_iinc_3 {x d : Int} {v0 v1 v2 : zV} (h : zFe c i j 7 [3, d]) (hb : -2147483648 ≤ x + d ∧ x + d ≤ 2147483647) (k : zWp c j (v0 :: v1 :: v2 :: (0, x + d) :: r) st M Q) : zWp c i (v0 :: v1 :: v2 :: (0, x) :: r) st M Q := zw_step h.1 (by decide) (by rw [← h.2]; exact if_pos ⟨rfl, hb⟩) k
theorem zw_istore_4 {x : Int} {v0 v1 v2 v3 v4 : zV} (h : zFe c i j 5 (4 :: a)) (k : zWp c j (v0 :: v1 :: v2 :: v3 :: (0, x) :: r) st M Q) : zWp c i (v0 :: v1 :: v2 :: v3 :: v4 :: r) ((0, x) :: st) M Q := zw_step h.1 (by decide) (by rw [← h.2, zs_5]; unfold zo_store; dsimp only; rw [if_pos ⟨rfl, by simp [zarg]⟩]; rfl) k
theorem zw_astore_4 {x : Int} {v0 v1 v2 v3 v4 : zV} (h : zFe c i j 6 (4 :: a)) (k : zWp c j (v0 :: v1 :: v2 :: v3 :: (1, x) :: r) st M Q) : zWp c i (v0 :: v1 :: v2 :: v3 :: v4 :: r) ((1, x) :: st) M Q := zw_step h.1 (by decide) (by rw [← h.2, zs_6]; unfold zo_store; dsimp only; rw [if_pos ⟨rfl, by simp [zarg]⟩]; rfl) k
theorem zw_iinc_4 {x d : Int} {v0 v1 v2 v3 : zV} (h : zFe c i j 7 [4, d]) (hb : -2147483648 ≤ x + d ∧ x + d ≤ 2147483647) (k : zWp c j (v0 :: v1 :: v2 :: v3 :: (0, x + d) :: r) st M Q) : zWp c i (v0 :: v1 :: v2 :: v3 :: (0, x) :: r) st M Q := zw_step h.1 (by decide) (by rw [← h.2]; exact if_pos ⟨rfl, hb⟩) k
theorem zw_istore_5 {x : Int} {v0 v1 v2 v3 v4 v5 : zV} (h : zFe c i j 5 (5 :: a)) (k : zWp c j (v0 :: v1 :: v2 :: v3 :: v4 :: (0, x) :: r) st M Q) : zWp c i (v0 :: v1 :: v2 :: v3 :: v4 :: v5 :: r) ((0, x) :: st) M Q := zw_step h.1 (by decide) (by rw [← h.2, zs_5]; unfold zo_store; dsimp only; rw [if_pos ⟨rfl, by simp [zarg]⟩]; rfl) k
theorem zw_astore_5 {x : Int} {v0 v1 v2 v3 v4 v5 : zV} (h : zFe c i j 6 (5 :: a)) (k : zWp c j (v0 :: v1 :: v2 :: v3 :: v4 :: (1, x) :: r) st M Q) : zWp c i (v0 :: v1 :: v2 :: v3 :: v4 :: v5 :: r) ((1, x) :: st) M Q := zw_step h.1 (by decide) (by rw [← h.2, zs_6]; unfold zo_store; dsimp only; rw [if_pos ⟨rfl, by simp [zarg]⟩]; rfl) k
theorem zw_iinc_5 {x d : Int} {v0 v1 v2 v3 v4 : zV} (h : zFe c i j 7 [5, d]) (hb : -2147483648 ≤ x + d ∧ x + d ≤ 2147483647) (k : zWp c j (v0 :: v1 :: v2 :: v3 :: v4 :: (0, x + d) :: r) st M Q) : zWp c i (v0 :: v1 :: v2 :: v3 :: v4 :: (0, x) :: r) st M Q := zw_step h.1 (by decide) (by rw [← h.2]; exact if_pos ⟨rfl, hb⟩) k
theorem zw_istore_6 {x : Int} {v0 v1 v2 v3 v4 v5 v6 : zV} (h : zFe c i j 5 (6 :: a)) (k : zWp c j (v0 :: v1 :: v2 :: v3 :: v4 :: v5 :: (0, x) :: r) st M Q) : zWp c i (v0 :: v1 :: v2 :: v3 :: v4 :: v5 :: v6 :: r) ((0, x) :: st) M Q := zw_step h.1 (by decide) (by rw [← h.2, zs_5]; unfold zo_store; dsimp only; rw [if_pos ⟨rfl, by simp [zarg]⟩]; rfl) k
theorem zw_astore_6 {x : Int} {v0 v1 v2 v3 v4 v5 v6 : zV} (h : zFe c i j 6 (6 :: a)) (k : zWp c j (v0 :: v1 :: v2 :: v3 :: v4 :: v5 :: (1, x) :: r) st M Q) : zWp c i (v0 :: v1 :: v2 :: v3 :: v4 :: v5 :: v6 :: r) ((1, x) :: st) M Q := zw_step h.1 (by decide) (by rw [← h.2, zs_6]; unfold zo_store; dsimp only; rw [if_pos ⟨rfl, by simp [zarg]⟩]; rfl) k
theorem zw_iinc_6 {x d : Int} {v0 v1 v2 v3 v4 v5 : zV} (h : zFe c i j 7 [6, d]) (hb : -2147483648 ≤ x + d ∧ x + d ≤ 2147483647) (k : zWp c j (v0 :: v1 :: v2 :: v3 :: v4 :: v5 :: (0, x + d) :: r) st M Q) : zWp c i (v0 :: v1 :: v2 :: v3 :: v4 :: v5 :: (0, x) :: r) st M Q := zw_step h.1 (by decide) (by rw [← h.2]; exact if_pos ⟨rfl, hb⟩) k
theorem zw_istore_7 {x : Int} {v0 v1 v2 v3 v4 v5 v6 v7 : zV} (h : zFe c i j 5 (7 :: a)) (k : zWp c j (v0 :: v1 :: v2 :: v3 :: v4 :: v5 :: v6 :: (0, x) :: r) st M Q) : zWp c i (v0 :: v1 :: v2 :: v3 :: v4 :: v5 :: v6 :: v7 :: r) ((0, x) :: st) M Q := zw_step h.1 (by decide) (by rw [← h.2, zs_5]; unfold zo_store; dsimp only; rw [if_pos ⟨rfl, by simp [zarg]⟩]; rfl) k
theorem zw_astore_7 {x : Int} {v0 v1 v2 v3 v4 v5 v6 v7 : zV} (h : zFe c i j 6 (7 :: a)) (k : zWp c j (v0 :: v1 :: v2 :: v3 :: v4 :: v5 :: v6 :: (1, x) :: r) st M Q) : zWp c i (v0 :: v1 :: v2 :: v3 :: v4 :: v5 :: v6 :: v7 :: r) ((1, x) :: st) M Q := zw_step h.1 (by decide) (by rw [← h.2, zs_6]; unfold zo_store; dsimp only; rw [if_pos ⟨rfl, by simp [zarg]⟩]; rfl) k
theorem zw_iinc_7 {x d : Int} {v0 v1 v2 v3 v4 v5 v6 : zV} (h : zFe c i j 7 [7, d]) (hb : -2147483648 ≤ x + d ∧ x + d ≤ 2147483647) (k : zWp c j (v0 :: v1 :: v2 :: v3 :: v4 :: v5 :: v6 :: (0, x + d) :: r) st M Q) : zWp c i (v0 :: v1 :: v2 :: v3 :: v4 :: v5 :: v6 :: (0, x) :: r) st M Q := zw_step h.1 (by decide) (by rw [← h.2]; exact if_pos ⟨rfl, hb⟩) k
theorem zw_istore_8 {x : Int} {v0 v1 v2 v3 v4 v5 v6 v7 v8 : zV} (h : zFe c i j 5 (8 :: a)) (k : zWp c j (v0 :: v1 :: v2 :: v3 :: v4 :: v5 :: v6 :: v7 :: (0, x) :: r) st M Q) : zWp c i (v0 :: v1 :: v2 :: v3 :: v4 :: v5 :: v6 :: v7 :: v8 :: r) ((0, x) :: st) M Q := zw_step h.1 (by decide) (by rw [← h.2, zs_5]; unfold zo_store; dsimp only; rw [if_pos ⟨rfl, by simp [zarg]⟩]; rfl) k
theorem zw_astore_8 {x : Int} {v0 v1 v2 v3 v4 v5 v6 v7 v8 : zV} (h : zFe c i j 6 (8 :: a)) (k : zWp c j (v0 :: v1 :: v2 :: v3 :: v4 :: v5 :: v6 :: v7 :: (1, x) :: r) st M Q) : zWp c i (v0 :: v1 :: v2 :: v3 :: v4 :: v5 :: v6 :: v7 :: v8 :: r) ((1, x) :: st) M Q := zw_step h.1 (by decide) (by rw [← h.2, zs_6]; unfold zo_store; dsimp only; rw [if_pos ⟨rfl, by simp [zarg]⟩]; rfl) k
theorem zw_iinc_8 {x d : Int} {v0 v1 v2 v3 v4 v5 v6 v7 : zV} (h : zFe c i j 7 [8, d]) (hb : -2147483648 ≤ x + d ∧ x + d ≤ 2147483647) (k : zWp c j (v0 :: v1 :: v2 :: v3 :: v4 :: v5 :: v6 :: v7 :: (0, x + d) :: r) st M Q) : zWp c i (v0 :: v1 :: v2 :: v3 :: v4 :: v5 :: v6 :: v7 :: (0, x) :: r) st M Q := zw_step h.1 (by decide) (by rw [← h.2]; exact if_pos ⟨rfl, hb⟩) k
theorem zw_istore_9 {x : Int} {v0 v1 v2 v3 v4 v5 v6 v7 v8 v9 : zV} (h : zFe c i j 5 (9 :: a)) (k : zWp c j (v0 :: v1 :: v2 :: v3 :: v4 :: v5 :: v6 :: v7 :: v8 :: (0, x) :: r) st M Q) : zWp c i (v0 :: v1 :: v2 :: v3 :: v4 :: v5 :: v6 :: v7 :: v8 :: v9 :: r) ((0, x) :: st) M Q := zw_step h.1 (by decide) (by rw [← h.2, zs_5]; unfold zo_store; dsimp only; rw [if_pos ⟨rfl, by simp [zarg]⟩]; rfl) k
theorem zw_astore_9 {x : Int} {v0 v1 v2 v3 v4 v5 v6 v7 v8 v9 : zV} (h : zFe c i j 6 (9 :: a)) (k : zWp c j (v0 :: v1 :: v2 :: v3 :: v4 :: v5 :: v6 :: v7 :: v8 :: (1, x) :: r) st M Q) : zWp c i (v0 :: v1 :: v2 :: v3 :: v4 :: v5 :: v6 :: v7 :: v8 :: v9 :: r) ((1, x) :: st) M Q := zw_step h.1 (by decide) (by rw [← h.2, zs_6]; unfold zo_store; dsimp only; rw [if_pos ⟨rfl, by simp [zarg]⟩]; rfl) k
theorem zw_iinc_9 {x d : Int} {v0 v1 v2 v3 v4 v5 v6 v7 v8 : zV} (h : zFe c i j 7 [9, d]) (hb : -2147483648 ≤ x + d ∧ x + d ≤ 2147483647) (k : zWp c j (v0 :: v1 :: v2 :: v3 :: v4 :: v5 :: v6 :: v7 :: v8 :: (0, x + d) :: r) st M Q) : zWp c i (v0 :: v1 :: v2 :: v3 :: v4 :: v5 :: v6 :: v7 :: v8 :: (0, x) :: r) st M Q := zw_step h.1 (by decide) (by rw [← h.2]; exact if_pos ⟨rfl, hb⟩) k
theorem zw_iadd {x y : Int} (h : zFe c i j 8 a) (hb : -2147483648 ≤ x + y ∧ x + y ≤ 2147483647) (k : zWp c j ls ((0, x + y) :: st) M Q) : zWp c i ls ((0, y) :: (0, x) :: st) M Q := zw_step h.1 (by decide) (by rw [← h.2]; exact if_pos ⟨⟨rfl, rfl⟩, decide_eq_true hb⟩) k
theorem zw_isub {x y : Int} (h : zFe c i j 9 a) (hb : -2147483648 ≤ x - y ∧ x - y ≤ 2147483647) (k : zWp c j ls ((0, x - y) :: st) M Q) : zWp c i ls ((0, y) :: (0, x) :: st) M Q := zw_step h.1 (by decide) (by rw [← h.2]; exact if_pos ⟨⟨rfl, rfl⟩, decide_eq_true hb⟩) k
theorem zw_imul {x y : Int} (h : zFe c i j 10 a) (hb : -2147483648 ≤ x * y ∧ x * y ≤ 2147483647) (k : zWp c j ls ((0, x * y) :: st) M Q) : zWp c i ls ((0, y) :: (0, x) :: st) M Q := zw_step h.1 (by decide) (by rw [← h.2]; exact if_pos ⟨⟨rfl, rfl⟩, decide_eq_true hb⟩) k
theorem zw_irem {x y : Int} (h : zFe c i j 11 a) (hb : 0 ≤ x ∧ 0 < y) (k : zWp c j ls ((0, x % y) :: st) M Q) : zWp c i ls ((0, y) :: (0, x) :: st) M Q := zw_step h.1 (by decide) (by rw [← h.2]; exact if_pos ⟨⟨rfl, rfl⟩, decide_eq_true hb⟩) k
theorem zw_ishl {x y : Int} (h : zFe c i j 12 a) (hb : (0 ≤ y ∧ y < 32) ∧ -2147483648 ≤ x * 2 ^ y.toNat ∧ x * 2 ^ y.toNat ≤ 2147483647) (k : zWp c j ls ((0, x * 2 ^ y.toNat) :: st) M Q) : zWp c i ls ((0, y) :: (0, x) :: st) M Q := zw_step h.1 (by decide) (by rw [← h.2]; exact if_pos ⟨⟨rfl, rfl⟩, decide_eq_true hb⟩) k
theorem zw_ishr {x y : Int} (h : zFe c i j 13 a) (hb : 0 ≤ y ∧ y < 32) (k : zWp c j ls ((0, x / 2 ^ y.toNat) :: st) M Q) : zWp c i ls ((0, y) :: (0, x) :: st) M Q := zw_step h.1 (by decide) (by rw [← h.2]; exact if_pos ⟨⟨rfl, rfl⟩, decide_eq_true hb⟩) k
theorem zw_iushr {x y : Int} (h : zFe c i j 14 a) (hb : 0 ≤ y ∧ y < 32) (k : zWp c j ls ((0, zushr x y) :: st) M Q) : zWp c i ls ((0, y) :: (0, x) :: st) M Q := zw_step h.1 (by decide) (by rw [← h.2]; exact if_pos ⟨⟨rfl, rfl⟩, decide_eq_true hb⟩) k
theorem zw_iand {x y : Int} (h : zFe c i j 15 a) (hb : (y = 1 ∨ y = 63 ∨ y = 255) ∨ 0 ≤ x ∧ 0 ≤ y) (k : zWp c j ls ((0, zand x y) :: st) M Q) : zWp c i ls ((0, y) :: (0, x) :: st) M Q := zw_step h.1 (by decide) (by rw [← h.2]; exact if_pos ⟨⟨rfl, rfl⟩, decide_eq_true hb⟩) k
theorem zw_ior {x y : Int} (h : zFe c i j 16 a) (hb : 0 ≤ x ∧ 0 ≤ y) (k : zWp c j ls ((0, zor x y) :: st) M Q) : zWp c i ls ((0, y) :: (0, x) :: st) M Q := zw_step h.1 (by decide) (by rw [← h.2]; exact if_pos ⟨⟨rfl, rfl⟩, decide_eq_true hb⟩) k
theorem zw_min {x y : Int} (h : zFe c i j 55 a) (hn : st.length ≤ 4) (k : zWp c j ls ((0, if x ≤ y then x else y) :: st) M Q) : zWp c i ls ((0, y) :: (0, x) :: st) M Q := zw_step h.1 (by decide) (by rw [← h.2]; exact if_pos ⟨rfl, rfl, hn⟩) k
theorem zw_abs {x : Int} (h : zFe c i j 56 a) (hb : -2147483648 < x) (hn : st.length ≤ 4) (k : zWp c j ls ((0, if x < 0 then -x else x) :: st) M Q) : zWp c i ls ((0, x) :: st) M Q := zw_step h.1 (by decide) (by rw [← h.2]; exact if_pos ⟨rfl, hb, hn⟩) k
theorem zw_i2l {x : Int} (h : zFe c i j 17 a) (k : zWp c j ls ((2, x) :: st) M Q) : zWp c i ls ((0, x) :: st) M Q := zw_step h.1 (by decide) (by rw [← h.2]; rfl) k
theorem zw_i2b {x : Int} (h : zFe c i j 18 a) (k : zWp c j ls ((0, zbyte x) :: st) M Q) : zWp c i ls ((0, x) :: st) M Q := zw_step h.1 (by decide) (by rw [← h.2]; rfl) k
theorem zw_lcmp {x y : Int} (h : zFe c i j 19 a) (k : zWp c j ls ((0, zlc x y) :: st) M Q) : zWp c i ls ((2, y) :: (2, x) :: st) M Q := zw_step h.1 (by decide) (by rw [← h.2]; rfl) k
theorem zw_dup {t : Nat} {x : Int} (h : zFe c i j 20 a) (ht : t ≠ 2) (k : zWp c j ls ((t, x) :: (t, x) :: st) M Q) : zWp c i ls ((t, x) :: st) M Q := zw_step h.1 (by decide) (by rw [← h.2]; exact if_pos ht) k
theorem zw_pop {t : Nat} {x : Int} (h : zFe c i j 21 a) (ht : t ≠ 2) (k : zWp c j ls st M Q) : zWp c i ls ((t, x) :: st) M Q := zw_step h.1 (by decide) (by rw [← h.2]; exact if_pos ht) k
theorem zw_dup2 {t u : Nat} {x y : Int} (h : zFe c i j 22 a) (ht : t ≠ 2 ∧ u ≠ 2) (k : zWp c j ls ((t, x) :: (u, y) :: (t, x) :: (u, y) :: st) M Q) : zWp c i ls ((t, x) :: (u, y) :: st) M Q := zw_step h.1 (by decide) (by rw [← h.2]; exact if_pos ht) k
theorem zw_ifeq {x t : Int} {t' : Nat} (h : zFe c i j 23 (t :: a)) (ht : t.toNat = t') (k1 : x = 0 → zWp c t' ls st M Q) (k2 : ¬ (x = 0) → zWp c j ls st M Q) : zWp c i ls ((0, x) :: st) M Q := by
  by_cases q : x = 0
  · exact zw_step (M' := M) h.1 (by decide) (by rw [← ht]; show some (if decide (x = 0) = true then t.toNat else i + 1, ls, st, zS0, M) = _; rw [if_pos (decide_eq_true q)]) (k1 q)
  · exact zw_step (M' := M) h.1 (by decide) (by rw [← h.2]; show some (if decide (x = 0) = true then t.toNat else i + 1, ls, st, zS0, M) = _; rw [if_neg (fun z => q (of_decide_eq_true z))]) (k2 q)
theorem zw_ifne {x t : Int} {t' : Nat} (h : zFe c i j 24 (t :: a)) (ht : t.toNat = t') (k1 : x ≠ 0 → zWp c t' ls st M Q) (k2 : ¬ (x ≠ 0) → zWp c j ls st M Q) : zWp c i ls ((0, x) :: st) M Q := by
  by_cases q : x ≠ 0
  · exact zw_step (M' := M) h.1 (by decide) (by rw [← ht]; show some (if decide (x ≠ 0) = true then t.toNat else i + 1, ls, st, zS0, M) = _; rw [if_pos (decide_eq_true q)]) (k1 q)
  · exact zw_step (M' := M) h.1 (by decide) (by rw [← h.2]; show some (if decide (x ≠ 0) = true then t.toNat else i + 1, ls, st, zS0, M) = _; rw [if_neg (fun z => q (of_decide_eq_true z))]) (k2 q)
theorem zw_iflt {x t : Int} {t' : Nat} (h : zFe c i j 25 (t :: a)) (ht : t.toNat = t') (k1 : x < 0 → zWp c t' ls st M Q) (k2 : ¬ (x < 0) → zWp c j ls st M Q) : zWp c i ls ((0, x) :: st) M Q := by
  by_cases q : x < 0
  · exact zw_step (M' := M) h.1 (by decide) (by rw [← ht]; show some (if decide (x < 0) = true then t.toNat else i + 1, ls, st, zS0, M) = _; rw [if_pos (decide_eq_true q)]) (k1 q)
  · exact zw_step (M' := M) h.1 (by decide) (by rw [← h.2]; show some (if decide (x < 0) = true then t.toNat else i + 1, ls, st, zS0, M) = _; rw [if_neg (fun z => q (of_decide_eq_true z))]) (k2 q)
theorem zw_ifge {x t : Int} {t' : Nat} (h : zFe c i j 26 (t :: a)) (ht : t.toNat = t') (k1 : 0 ≤ x → zWp c t' ls st M Q) (k2 : ¬ (0 ≤ x) → zWp c j ls st M Q) : zWp c i ls ((0, x) :: st) M Q := by
  by_cases q : 0 ≤ x
  · exact zw_step (M' := M) h.1 (by decide) (by rw [← ht]; show some (if decide (0 ≤ x) = true then t.toNat else i + 1, ls, st, zS0, M) = _; rw [if_pos (decide_eq_true q)]) (k1 q)
  · exact zw_step (M' := M) h.1 (by decide) (by rw [← h.2]; show some (if decide (0 ≤ x) = true then t.toNat else i + 1, ls, st, zS0, M) = _; rw [if_neg (fun z => q (of_decide_eq_true z))]) (k2 q)
theorem zw_ifgt {x t : Int} {t' : Nat} (h : zFe c i j 27 (t :: a)) (ht : t.toNat = t') (k1 : 0 < x → zWp c t' ls st M Q) (k2 : ¬ (0 < x) → zWp c j ls st M Q) : zWp c i ls ((0, x) :: st) M Q := by
  by_cases q : 0 < x
  · exact zw_step (M' := M) h.1 (by decide) (by rw [← ht]; show some (if decide (0 < x) = true then t.toNat else i + 1, ls, st, zS0, M) = _; rw [if_pos (decide_eq_true q)]) (k1 q)
  · exact zw_step (M' := M) h.1 (by decide) (by rw [← h.2]; show some (if decide (0 < x) = true then t.toNat else i + 1, ls, st, zS0, M) = _; rw [if_neg (fun z => q (of_decide_eq_true z))]) (k2 q)
theorem zw_ifle {x t : Int} {t' : Nat} (h : zFe c i j 28 (t :: a)) (ht : t.toNat = t') (k1 : x ≤ 0 → zWp c t' ls st M Q) (k2 : ¬ (x ≤ 0) → zWp c j ls st M Q) : zWp c i ls ((0, x) :: st) M Q := by
  by_cases q : x ≤ 0
  · exact zw_step (M' := M) h.1 (by decide) (by rw [← ht]; show some (if decide (x ≤ 0) = true then t.toNat else i + 1, ls, st, zS0, M) = _; rw [if_pos (decide_eq_true q)]) (k1 q)
  · exact zw_step (M' := M) h.1 (by decide) (by rw [← h.2]; show some (if decide (x ≤ 0) = true then t.toNat else i + 1, ls, st, zS0, M) = _; rw [if_neg (fun z => q (of_decide_eq_true z))]) (k2 q)
theorem zw_iceq {x y t : Int} {t' : Nat} (h : zFe c i j 29 (t :: a)) (ht : t.toNat = t') (k1 : x = y → zWp c t' ls st M Q) (k2 : ¬ (x = y) → zWp c j ls st M Q) : zWp c i ls ((0, y) :: (0, x) :: st) M Q := by
  by_cases q : x = y
  · exact zw_step (M' := M) h.1 (by decide) (by rw [← ht]; show some (if decide (x = y) = true then t.toNat else i + 1, ls, st, zS0, M) = _; rw [if_pos (decide_eq_true q)]) (k1 q)
  · exact zw_step (M' := M) h.1 (by decide) (by rw [← h.2]; show some (if decide (x = y) = true then t.toNat else i + 1, ls, st, zS0, M) = _; rw [if_neg (fun z => q (of_decide_eq_true z))]) (k2 q)
theorem zw_icne {x y t : Int} {t' : Nat} (h : zFe c i j 30 (t :: a)) (ht : t.toNat = t') (k1 : x ≠ y → zWp c t' ls st M Q) (k2 : ¬ (x ≠ y) → zWp c j ls st M Q) : zWp c i ls ((0, y) :: (0, x) :: st) M Q := by
  by_cases q : x ≠ y
  · exact zw_step (M' := M) h.1 (by decide) (by rw [← ht]; show some (if decide (x ≠ y) = true then t.toNat else i + 1, ls, st, zS0, M) = _; rw [if_pos (decide_eq_true q)]) (k1 q)
  · exact zw_step (M' := M) h.1 (by decide) (by rw [← h.2]; show some (if decide (x ≠ y) = true then t.toNat else i + 1, ls, st, zS0, M) = _; rw [if_neg (fun z => q (of_decide_eq_true z))]) (k2 q)
theorem zw_iclt {x y t : Int} {t' : Nat} (h : zFe c i j 31 (t :: a)) (ht : t.toNat = t') (k1 : x < y → zWp c t' ls st M Q) (k2 : ¬ (x < y) → zWp c j ls st M Q) : zWp c i ls ((0, y) :: (0, x) :: st) M Q := by
  by_cases q : x < y
  · exact zw_step (M' := M) h.1 (by decide) (by rw [← ht]; show some (if decide (x < y) = true then t.toNat else i + 1, ls, st, zS0, M) = _; rw [if_pos (decide_eq_true q)]) (k1 q)
  · exact zw_step (M' := M) h.1 (by decide) (by rw [← h.2]; show some (if decide (x < y) = true then t.toNat else i + 1, ls, st, zS0, M) = _; rw [if_neg (fun z => q (of_decide_eq_true z))]) (k2 q)
theorem zw_icge {x y t : Int} {t' : Nat} (h : zFe c i j 32 (t :: a)) (ht : t.toNat = t') (k1 : y ≤ x → zWp c t' ls st M Q) (k2 : ¬ (y ≤ x) → zWp c j ls st M Q) : zWp c i ls ((0, y) :: (0, x) :: st) M Q := by
  by_cases q : y ≤ x
  · exact zw_step (M' := M) h.1 (by decide) (by rw [← ht]; show some (if decide (y ≤ x) = true then t.toNat else i + 1, ls, st, zS0, M) = _; rw [if_pos (decide_eq_true q)]) (k1 q)
  · exact zw_step (M' := M) h.1 (by decide) (by rw [← h.2]; show some (if decide (y ≤ x) = true then t.toNat else i + 1, ls, st, zS0, M) = _; rw [if_neg (fun z => q (of_decide_eq_true z))]) (k2 q)
theorem zw_icgt {x y t : Int} {t' : Nat} (h : zFe c i j 33 (t :: a)) (ht : t.toNat = t') (k1 : y < x → zWp c t' ls st M Q) (k2 : ¬ (y < x) → zWp c j ls st M Q) : zWp c i ls ((0, y) :: (0, x) :: st) M Q := by
  by_cases q : y < x
  · exact zw_step (M' := M) h.1 (by decide) (by rw [← ht]; show some (if decide (y < x) = true then t.toNat else i + 1, ls, st, zS0, M) = _; rw [if_pos (decide_eq_true q)]) (k1 q)
  · exact zw_step (M' := M) h.1 (by decide) (by rw [← h.2]; show some (if decide (y < x) = true then t.toNat else i + 1, ls, st, zS0, M) = _; rw [if_neg (fun z => q (of_decide_eq_true z))]) (k2 q)
theorem zw_icle {x y t : Int} {t' : Nat} (h : zFe c i j 34 (t :: a)) (ht : t.toNat = t') (k1 : x ≤ y → zWp c t' ls st M Q) (k2 : ¬ (x ≤ y) → zWp c j ls st M Q) : zWp c i ls ((0, y) :: (0, x) :: st) M Q := by
  by_cases q : x ≤ y
  · exact zw_step (M' := M) h.1 (by decide) (by rw [← ht]; show some (if decide (x ≤ y) = true then t.toNat else i + 1, ls, st, zS0, M) = _; rw [if_pos (decide_eq_true q)]) (k1 q)
  · exact zw_step (M' := M) h.1 (by decide) (by rw [← h.2]; show some (if decide (x ≤ y) = true then t.toNat else i + 1, ls, st, zS0, M) = _; rw [if_neg (fun z => q (of_decide_eq_true z))]) (k2 q)
theorem zw_goto {t : Int} {t' : Nat} (h : zFe c i j 35 (t :: a)) (ht : t.toNat = t') (k : zWp c t' ls st M Q) : zWp c i ls st M Q := zw_step h.1 (by decide) (by rw [← ht]; rfl) k
theorem zw_ifnullR {x t : Int} (h : zFe c i j 36 (t :: a)) (k : zWp c j ls st M Q) : zWp c i ls ((1, x) :: st) M Q := zw_step h.1 (by decide) (by rw [← h.2]; rfl) k
theorem zw_table {x : Int} {t' : Nat} (h : zFe c i j 37 a) (ht : (ztgt a x).toNat = t') (k : zWp c t' ls st M Q) : zWp c i ls ((0, x) :: st) M Q := zw_step h.1 (by decide) (by rw [← ht]; rfl) k
theorem zw_lookup {x d : Int} {t' : Nat} (h : zFe c i j 38 (d :: a)) (ht : (zlook a d x).toNat = t') (k : zWp c t' ls st M Q) : zWp c i ls ((0, x) :: st) M Q := zw_step h.1 (by decide) (by rw [← ht]; rfl) k
theorem zw_getI {b cp cl s kd : Int} (h : zFe c i j 40 [cp, cl, s, kd]) (hs : zcls zS0 b = some cl) (hk : kd ≠ 1) (k : zWp c j ls ((0, M b s) :: st) M Q) : zWp c i ls ((1, b) :: st) M Q := by
  obtain ⟨cn, rs, e, e2⟩ := zcls_of hs
  refine zw_step h.1 (by decide) ?_ k
  rw [zs_40]; unfold zo_getf; dsimp only; rw [e]; dsimp only
  rw [if_pos ⟨rfl, rfl, e2⟩, if_neg (show ¬ zarg [cp, cl, s, kd] 3 = 1 from hk), ← h.2]
  rfl
theorem zw_getR (v : Int) {b cp cl s : Int} (h : zFe c i j 40 [cp, cl, s, 1]) (hs : zref zS0 b cl s = some v) (k : zWp c j ls ((1, v) :: st) M Q) : zWp c i ls ((1, b) :: st) M Q := by
  obtain ⟨cn, rs, e, e2, e3, e4⟩ := zref_of hs
  refine zw_step h.1 (by decide) ?_ k
  rw [zs_40]; unfold zo_getf; dsimp only; rw [e]; dsimp only
  rw [if_pos ⟨rfl, rfl, e2⟩, if_pos (show zarg [cp, cl, s, 1] 3 = 1 from rfl), ← h.2, show zarg [cp, cl, s, 1] 2 = s from rfl, e3]
  unfold zrf
  rw [if_neg (by omega)]
theorem zw_putI {b cp cl s kd v : Int} (h : zFe c i j 41 [cp, cl, s, kd]) (hs : zcls zS0 b = some cl) (hk : kd ≠ 1) (hv : kd = 2 → v = 0 ∨ v = 1) (k : zWp c j ls st (zup M b s v) Q) : zWp c i ls ((0, v) :: (1, b) :: st) M Q := by
  obtain ⟨cn, rs, e, e2⟩ := zcls_of hs
  refine zw_step h.1 (by decide) ?_ k
  rw [zs_41]; unfold zo_putf; dsimp only; rw [e]; dsimp only
  rw [if_pos ⟨rfl, rfl, e2⟩, if_neg (show ¬ zarg [cp, cl, s, kd] 3 = 1 from hk), if_pos ⟨rfl, hv⟩, ← h.2]
  rfl
theorem zw_iald {b x : Int} {n : Nat} (h : zFe c i j 42 a) (hs : zar zS0 b = some (1, n)) (hb : 0 ≤ x ∧ x < (n : Int)) (k : zWp c j ls ((0, M b x) :: st) M Q) : zWp c i ls ((0, x) :: (1, b) :: st) M Q := by
  obtain ⟨rs, e, -⟩ := zar_of hs
  refine zw_step h.1 (by decide) ?_ k
  rw [zs_42]; unfold zo_iald; dsimp only; rw [e]; dsimp only
  rw [if_pos ⟨⟨rfl, rfl, rfl⟩, hb⟩, ← h.2]
theorem zw_bald {b x : Int} {t n : Nat} (h : zFe c i j 43 a) (hs : zar zS0 b = some (t, n)) (ht : t = 2 ∨ t = 3) (hb : 0 ≤ x ∧ x < (n : Int)) (k : zWp c j ls ((0, M b x) :: st) M Q) : zWp c i ls ((0, x) :: (1, b) :: st) M Q := by
  obtain ⟨rs, e, -⟩ := zar_of hs
  refine zw_step h.1 (by decide) ?_ k
  rw [zs_43]; unfold zo_bald; dsimp only; rw [e]; dsimp only
  rw [if_pos ⟨⟨rfl, rfl, ht⟩, hb⟩, ← h.2]
theorem zw_row {b x rb : Int} {n : Nat} (h : zFe c i j 44 a) (hs : zrow zS0 b = some (n, rb)) (hb : 0 ≤ x ∧ x < (n : Int)) (k : zWp c j ls ((1, rb + x) :: st) M Q) : zWp c i ls ((0, x) :: (1, b) :: st) M Q := by
  obtain ⟨rs, e, e2⟩ := zrow_of hs
  refine zw_step h.1 (by decide) ?_ k
  rw [zs_44]; unfold zo_aald; dsimp only; rw [e]; dsimp only
  rw [if_pos ⟨⟨rfl, rfl, Or.inl rfl⟩, hb⟩, ← h.2, if_pos rfl, e2]
theorem zw_aald {b x v : Int} {n : Nat} (h : zFe c i j 44 a) (hs : zar zS0 b = some (5, n)) (hb : 0 ≤ x ∧ x < (n : Int)) (hv : M b x = v + 1) (h0 : 0 ≤ v) (k : zWp c j ls ((1, v) :: st) M Q) : zWp c i ls ((0, x) :: (1, b) :: st) M Q := by
  obtain ⟨rs, e, -⟩ := zar_of hs
  refine zw_step h.1 (by decide) ?_ k
  rw [zs_44]; unfold zo_aald; dsimp only; rw [e]; dsimp only
  rw [if_pos ⟨⟨rfl, rfl, Or.inr rfl⟩, hb⟩, ← h.2, if_neg (by decide), hv, show v + 1 - 1 = v by omega]
  unfold zrf
  rw [if_neg (by omega)]
theorem zw_iast {b x v : Int} {n : Nat} (h : zFe c i j 45 a) (hs : zar zS0 b = some (1, n)) (hb : 0 ≤ x ∧ x < (n : Int)) (k : zWp c j ls st (zup M b x v) Q) : zWp c i ls ((0, v) :: (0, x) :: (1, b) :: st) M Q := by
  obtain ⟨rs, e, -⟩ := zar_of hs
  refine zw_step h.1 (by decide) ?_ k
  rw [zs_45]; unfold zo_iast; dsimp only; rw [e]; dsimp only
  rw [if_pos ⟨⟨rfl, rfl, rfl, rfl⟩, hb⟩, ← h.2]
theorem zw_bast2 {b x v : Int} {n : Nat} (h : zFe c i j 46 a) (hs : zar zS0 b = some (2, n)) (hb : 0 ≤ x ∧ x < (n : Int)) (hv : -128 ≤ v ∧ v ≤ 127) (k : zWp c j ls st (zup M b x v) Q) : zWp c i ls ((0, v) :: (0, x) :: (1, b) :: st) M Q := by
  obtain ⟨rs, e, -⟩ := zar_of hs
  refine zw_step h.1 (by decide) ?_ k
  rw [zs_46]; unfold zo_bast; dsimp only; rw [e]; dsimp only
  rw [if_pos ⟨⟨rfl, rfl, rfl, Or.inl ⟨rfl, hv⟩⟩, hb⟩, ← h.2]
theorem zw_bast3 {b x v : Int} {n : Nat} (h : zFe c i j 46 a) (hs : zar zS0 b = some (3, n)) (hb : 0 ≤ x ∧ x < (n : Int)) (hv : v = 0 ∨ v = 1) (k : zWp c j ls st (zup M b x v) Q) : zWp c i ls ((0, v) :: (0, x) :: (1, b) :: st) M Q := by
  obtain ⟨rs, e, -⟩ := zar_of hs
  refine zw_step h.1 (by decide) ?_ k
  rw [zs_46]; unfold zo_bast; dsimp only; rw [e]; dsimp only
  rw [if_pos ⟨⟨rfl, rfl, rfl, Or.inr ⟨rfl, hv⟩⟩, hb⟩, ← h.2]
theorem zw_aast {b x v cl : Int} {n cn : Nat} {rs0 rs1 : List Int} (h : zFe c i j 47 a) (hs : zsh zS0 b = some (5, n, rs0)) (hb : 0 ≤ x ∧ x < (n : Int)) (hv : zsh zS0 v = some (0, cn, rs1)) (hcl : rs0.getD 0 0 = (cn : Int)) (k : zWp c j ls st (zup M b x (v + 1)) Q) : zWp c i ls ((1, v) :: (0, x) :: (1, b) :: st) M Q := by
  refine zw_step h.1 (by decide) ?_ k
  rw [zs_47]; unfold zo_aast; dsimp only; rw [hs]; dsimp only; rw [hv]; dsimp only
  rw [if_pos ⟨⟨rfl, rfl, rfl, rfl, rfl, hcl⟩, hb⟩, ← h.2]
theorem zw_alen {b : Int} {n : Nat} (h : zFe c i j 48 a) (hs : zar zS0 b = some (1, n)) (k : zWp c j ls ((0, (n : Int)) :: st) M Q) : zWp c i ls ((1, b) :: st) M Q := by
  obtain ⟨rs, e, -⟩ := zar_of hs
  refine zw_step h.1 (by decide) ?_ k
  rw [zs_48]; unfold zo_alen; dsimp only; rw [e]; dsimp only
  rw [if_pos ⟨rfl, rfl⟩, ← h.2]
theorem zw_copy {s sp d dp n : Int} {ns nd : Nat} (h : zFe c i j 54 a) (hs : zar zS0 s = some (1, ns)) (hd : zar zS0 d = some (1, nd)) (hb : 0 ≤ n ∧ 0 ≤ dp ∧ 0 ≤ sp ∧ sp + n ≤ (ns : Int) ∧ dp + n ≤ (nd : Int)) (hne : s ≠ d ∧ st.length ≤ 4) (k : zWp c j ls st (zcpy M s sp d dp n) Q) : zWp c i ls ((0, n) :: (0, dp) :: (1, d) :: (0, sp) :: (1, s) :: st) M Q := by
  obtain ⟨rs, e, -⟩ := zar_of hs
  obtain ⟨rd, e2, -⟩ := zar_of hd
  refine zw_step h.1 (by decide) ?_ k
  rw [zs_54]; unfold zo_copy; dsimp only; rw [e]; dsimp only; rw [e2]; dsimp only
  rw [if_pos ⟨⟨rfl, rfl, rfl, rfl, rfl, rfl, rfl⟩, hb, hne.1, hne.2⟩, ← h.2]
theorem zw_text {cp k0 : Int} (h : zFe c i j 57 [cp, k0]) (k : zWp c j ls ((4, k0) :: st) M Q) : zWp c i ls st M Q := zw_step h.1 (by decide) (by rw [← h.2]; rfl) k
theorem zw_tlen {k0 : Int} (h : zFe c i j 58 a) (hb : 0 ≤ k0 ∧ k0 < 17) (hn : st.length ≤ 4) (k : zWp c j ls ((0, ((zTx.getD k0.toNat []).length : Int)) :: st) M Q) : zWp c i ls ((4, k0) :: st) M Q := zw_step h.1 (by decide) (by rw [← h.2]; exact if_pos ⟨rfl, hb, hn⟩) k
theorem zw_char {k0 x : Int} (h : zFe c i j 59 a) (hb : (0 ≤ k0 ∧ k0 < 17) ∧ 0 ≤ x ∧ x < ((zTx.getD k0.toNat []).length : Int)) (hn : st.length ≤ 4) (k : zWp c j ls ((0, (zTx.getD k0.toNat []).getD x.toNat 0) :: st) M Q) : zWp c i ls ((0, x) :: (4, k0) :: st) M Q := zw_step h.1 (by decide) (by rw [← h.2]; exact if_pos ⟨⟨rfl, rfl, hn⟩, hb⟩) k
theorem zw_end {op : Nat} {v : zV} (hc : c[i]? = some (op, a)) (h70 : 70 ≤ op) (he : zend op st = some v) (k : Q v M) : zWp c i ls st M Q := ⟨1, v, M, zrun_end (q := (op, a)) hc h70 he, k⟩
theorem zw_ret {x : Int} (hc : c[i]? = some (70, a)) (k : Q (0, x) M) : zWp c i ls [(0, x)] M Q := zw_end hc (by decide) rfl k
theorem zw_void (hc : c[i]? = some (71, a)) (k : Q (3, 0) M) : zWp c i ls [] M Q := zw_end hc (by decide) rfl k
theorem zw_tret {x : Int} (hc : c[i]? = some (72, a)) (k : Q (4, x) M) : zWp c i ls [(4, x)] M Q := zw_end hc (by decide) rfl k
theorem zw_zret {x : Int} (hc : c[i]? = some (73, a)) (hx : x = 0 ∨ x = 1) (k : Q (0, x) M) : zWp c i ls [(0, x)] M Q := zw_end hc (by decide) (if_pos (Or.inr (Or.inr ⟨rfl, rfl, hx⟩))) k
theorem zw_calls {how cp mid cl : Int} {y : List zIn × Nat × Nat × Nat} (h : zFe c i j 60 [how, cp, mid, cl]) (hy : zPt[mid.toNat]? = some y) (hl : y.2.2.1 ≤ st.length ∧ (zgive y.2.2.2 (st.take y.2.2.1) (st.drop y.2.2.1) && zrecv zS0 how cl (st.take y.2.2.1)) = true) (k : zWp y.1 0 (zloc (st.take y.2.2.1).reverse y.2.1) [] M (fun v M' => zWp c j ls (if y.2.2.2 = 0 then st.drop y.2.2.1 else v :: st.drop y.2.2.1) M' Q)) : zWp c i ls st M Q := by
  obtain ⟨n, v, M1, h1, n2, v2, M2, h2, h3⟩ := k
  refine ⟨max n n2 + 1, v2, M2, ?_, h3⟩
  rw [zrun_call h.1 rfl hy hl (zrun_le _ (Nat.le_max_left n n2) h1), h.2]
  exact zrun_le _ (Nat.le_max_right n n2) h2
theorem zrecv_0 {b cl : Int} {as : List zV} (h : zcls zS0 b = some cl) : zrecv zS0 0 cl (as ++ [(1, b)]) = true := by
  obtain ⟨cn, rs, e, e2⟩ := zcls_of h
  unfold zrecv
  rw [if_neg (by decide), List.getLast?_concat]
  simp [e, e2]
theorem zw_calls0 {cp mid cl : Int} {cc : List zIn} {mL : Nat} (h : zFe c i j 60 [1, cp, mid, cl]) (hy : zPt[mid.toNat]? = some (cc, mL, 0, 1)) (hg : zgive 1 [] st = true) (k : zWp cc 0 (zloc [] mL) [] M (fun v M' => zWp c j ls (v :: st) M' Q)) : zWp c i ls (st) M Q := zw_calls h hy ⟨by simp, (by rw [Bool.and_eq_true]; exact ⟨hg, rfl⟩)⟩ k
theorem zw_cavs0 {cp mid cl : Int} {cc : List zIn} {mL : Nat} (h : zFe c i j 60 [1, cp, mid, cl]) (hy : zPt[mid.toNat]? = some (cc, mL, 0, 0)) (hg : zgive 0 [] st = true) (k : zWp cc 0 (zloc [] mL) [] M (fun _ M' => zWp c j ls st M' Q)) : zWp c i ls (st) M Q := zw_calls h hy ⟨by simp, (by rw [Bool.and_eq_true]; exact ⟨hg, rfl⟩)⟩ k
theorem zw_callv1 {cp mid cl : Int} {cc : List zIn} {mL : Nat} {b : Int} (h : zFe c i j 60 [0, cp, mid, cl]) (hy : zPt[mid.toNat]? = some (cc, mL, 1, 1)) (hc : zcls zS0 b = some cl) (hg : zgive 1 [(1, b)] st = true) (k : zWp cc 0 (zloc [(1, b)] mL) [] M (fun v M' => zWp c j ls (v :: st) M' Q)) : zWp c i ls ((1, b) :: st) M Q := zw_calls h hy ⟨by simp, (by rw [Bool.and_eq_true]; exact ⟨hg, zrecv_0 (as := []) hc⟩)⟩ k
theorem zw_cavv1 {cp mid cl : Int} {cc : List zIn} {mL : Nat} {b : Int} (h : zFe c i j 60 [0, cp, mid, cl]) (hy : zPt[mid.toNat]? = some (cc, mL, 1, 0)) (hc : zcls zS0 b = some cl) (hg : zgive 0 [(1, b)] st = true) (k : zWp cc 0 (zloc [(1, b)] mL) [] M (fun _ M' => zWp c j ls st M' Q)) : zWp c i ls ((1, b) :: st) M Q := zw_calls h hy ⟨by simp, (by rw [Bool.and_eq_true]; exact ⟨hg, zrecv_0 (as := []) hc⟩)⟩ k
theorem zw_calls1 {cp mid cl : Int} {cc : List zIn} {mL : Nat} {b0 : zV} (h : zFe c i j 60 [1, cp, mid, cl]) (hy : zPt[mid.toNat]? = some (cc, mL, 1, 1)) (hg : zgive 1 [b0] st = true) (k : zWp cc 0 (zloc [b0] mL) [] M (fun v M' => zWp c j ls (v :: st) M' Q)) : zWp c i ls (b0 :: st) M Q := zw_calls h hy ⟨by simp, (by rw [Bool.and_eq_true]; exact ⟨hg, rfl⟩)⟩ k
theorem zw_cavs1 {cp mid cl : Int} {cc : List zIn} {mL : Nat} {b0 : zV} (h : zFe c i j 60 [1, cp, mid, cl]) (hy : zPt[mid.toNat]? = some (cc, mL, 1, 0)) (hg : zgive 0 [b0] st = true) (k : zWp cc 0 (zloc [b0] mL) [] M (fun _ M' => zWp c j ls st M' Q)) : zWp c i ls (b0 :: st) M Q := zw_calls h hy ⟨by simp, (by rw [Bool.and_eq_true]; exact ⟨hg, rfl⟩)⟩ k
theorem zw_callv2 {cp mid cl : Int} {cc : List zIn} {mL : Nat} {b : Int} {b1 : zV} (h : zFe c i j 60 [0, cp, mid, cl]) (hy : zPt[mid.toNat]? = some (cc, mL, 2, 1)) (hc : zcls zS0 b = some cl) (hg : zgive 1 [b1, (1, b)] st = true) (k : zWp cc 0 (zloc [(1, b), b1] mL) [] M (fun v M' => zWp c j ls (v :: st) M' Q)) : zWp c i ls (b1 :: (1, b) :: st) M Q := zw_calls h hy ⟨by simp, (by rw [Bool.and_eq_true]; exact ⟨hg, zrecv_0 (as := [b1]) hc⟩)⟩ k
theorem zw_cavv2 {cp mid cl : Int} {cc : List zIn} {mL : Nat} {b : Int} {b1 : zV} (h : zFe c i j 60 [0, cp, mid, cl]) (hy : zPt[mid.toNat]? = some (cc, mL, 2, 0)) (hc : zcls zS0 b = some cl) (hg : zgive 0 [b1, (1, b)] st = true) (k : zWp cc 0 (zloc [(1, b), b1] mL) [] M (fun _ M' => zWp c j ls st M' Q)) : zWp c i ls (b1 :: (1, b) :: st) M Q := zw_calls h hy ⟨by simp, (by rw [Bool.and_eq_true]; exact ⟨hg, zrecv_0 (as := [b1]) hc⟩)⟩ k
theorem zw_calls2 {cp mid cl : Int} {cc : List zIn} {mL : Nat} {b0 b1 : zV} (h : zFe c i j 60 [1, cp, mid, cl]) (hy : zPt[mid.toNat]? = some (cc, mL, 2, 1)) (hg : zgive 1 [b1, b0] st = true) (k : zWp cc 0 (zloc [b0, b1] mL) [] M (fun v M' => zWp c j ls (v :: st) M' Q)) : zWp c i ls (b1 :: b0 :: st) M Q := zw_calls h hy ⟨by simp, (by rw [Bool.and_eq_true]; exact ⟨hg, rfl⟩)⟩ k
theorem zw_cavs2 {cp mid cl : Int} {cc : List zIn} {mL : Nat} {b0 b1 : zV} (h : zFe c i j 60 [1, cp, mid, cl]) (hy : zPt[mid.toNat]? = some (cc, mL, 2, 0)) (hg : zgive 0 [b1, b0] st = true) (k : zWp cc 0 (zloc [b0, b1] mL) [] M (fun _ M' => zWp c j ls st M' Q)) : zWp c i ls (b1 :: b0 :: st) M Q := zw_calls h hy ⟨by simp, (by rw [Bool.and_eq_true]; exact ⟨hg, rfl⟩)⟩ k
theorem zw_callv3 {cp mid cl : Int} {cc : List zIn} {mL : Nat} {b : Int} {b1 b2 : zV} (h : zFe c i j 60 [0, cp, mid, cl]) (hy : zPt[mid.toNat]? = some (cc, mL, 3, 1)) (hc : zcls zS0 b = some cl) (hg : zgive 1 [b2, b1, (1, b)] st = true) (k : zWp cc 0 (zloc [(1, b), b1, b2] mL) [] M (fun v M' => zWp c j ls (v :: st) M' Q)) : zWp c i ls (b2 :: b1 :: (1, b) :: st) M Q := zw_calls h hy ⟨by simp, (by rw [Bool.and_eq_true]; exact ⟨hg, zrecv_0 (as := [b2, b1]) hc⟩)⟩ k
theorem zw_cavv3 {cp mid cl : Int} {cc : List zIn} {mL : Nat} {b : Int} {b1 b2 : zV} (h : zFe c i j 60 [0, cp, mid, cl]) (hy : zPt[mid.toNat]? = some (cc, mL, 3, 0)) (hc : zcls zS0 b = some cl) (hg : zgive 0 [b2, b1, (1, b)] st = true) (k : zWp cc 0 (zloc [(1, b), b1, b2] mL) [] M (fun _ M' => zWp c j ls st M' Q)) : zWp c i ls (b2 :: b1 :: (1, b) :: st) M Q := zw_calls h hy ⟨by simp, (by rw [Bool.and_eq_true]; exact ⟨hg, zrecv_0 (as := [b2, b1]) hc⟩)⟩ k
theorem zw_calls3 {cp mid cl : Int} {cc : List zIn} {mL : Nat} {b0 b1 b2 : zV} (h : zFe c i j 60 [1, cp, mid, cl]) (hy : zPt[mid.toNat]? = some (cc, mL, 3, 1)) (hg : zgive 1 [b2, b1, b0] st = true) (k : zWp cc 0 (zloc [b0, b1, b2] mL) [] M (fun v M' => zWp c j ls (v :: st) M' Q)) : zWp c i ls (b2 :: b1 :: b0 :: st) M Q := zw_calls h hy ⟨by simp, (by rw [Bool.and_eq_true]; exact ⟨hg, rfl⟩)⟩ k
theorem zw_cavs3 {cp mid cl : Int} {cc : List zIn} {mL : Nat} {b0 b1 b2 : zV} (h : zFe c i j 60 [1, cp, mid, cl]) (hy : zPt[mid.toNat]? = some (cc, mL, 3, 0)) (hg : zgive 0 [b2, b1, b0] st = true) (k : zWp cc 0 (zloc [b0, b1, b2] mL) [] M (fun _ M' => zWp c j ls st M' Q)) : zWp c i ls (b2 :: b1 :: b0 :: st) M Q := zw_calls h hy ⟨by simp, (by rw [Bool.and_eq_true]; exact ⟨hg, rfl⟩)⟩ k
theorem zw_calLs3 {cp mid cl : Int} {cc : List zIn} {mL : Nat} {b0 b1 b2 : zV} (h : zFe c i j 60 [1, cp, mid, cl]) (hy : zPt[mid.toNat]? = some (cc, mL, 3, 3)) (hg : zgive 3 [b2, b1, b0] st = true) (k : zWp cc 0 (zloc [b0, b1, b2] mL) [] M (fun v M' => zWp c j ls (v :: st) M' Q)) : zWp c i ls (b2 :: b1 :: b0 :: st) M Q := zw_calls h hy ⟨by simp, (by rw [Bool.and_eq_true]; exact ⟨hg, rfl⟩)⟩ k
theorem zw_callv4 {cp mid cl : Int} {cc : List zIn} {mL : Nat} {b : Int} {b1 b2 b3 : zV} (h : zFe c i j 60 [0, cp, mid, cl]) (hy : zPt[mid.toNat]? = some (cc, mL, 4, 1)) (hc : zcls zS0 b = some cl) (hg : zgive 1 [b3, b2, b1, (1, b)] st = true) (k : zWp cc 0 (zloc [(1, b), b1, b2, b3] mL) [] M (fun v M' => zWp c j ls (v :: st) M' Q)) : zWp c i ls (b3 :: b2 :: b1 :: (1, b) :: st) M Q := zw_calls h hy ⟨by simp, (by rw [Bool.and_eq_true]; exact ⟨hg, zrecv_0 (as := [b3, b2, b1]) hc⟩)⟩ k
theorem zw_cavv4 {cp mid cl : Int} {cc : List zIn} {mL : Nat} {b : Int} {b1 b2 b3 : zV} (h : zFe c i j 60 [0, cp, mid, cl]) (hy : zPt[mid.toNat]? = some (cc, mL, 4, 0)) (hc : zcls zS0 b = some cl) (hg : zgive 0 [b3, b2, b1, (1, b)] st = true) (k : zWp cc 0 (zloc [(1, b), b1, b2, b3] mL) [] M (fun _ M' => zWp c j ls st M' Q)) : zWp c i ls (b3 :: b2 :: b1 :: (1, b) :: st) M Q := zw_calls h hy ⟨by simp, (by rw [Bool.and_eq_true]; exact ⟨hg, zrecv_0 (as := [b3, b2, b1]) hc⟩)⟩ k
theorem zw_calls4 {cp mid cl : Int} {cc : List zIn} {mL : Nat} {b0 b1 b2 b3 : zV} (h : zFe c i j 60 [1, cp, mid, cl]) (hy : zPt[mid.toNat]? = some (cc, mL, 4, 1)) (hg : zgive 1 [b3, b2, b1, b0] st = true) (k : zWp cc 0 (zloc [b0, b1, b2, b3] mL) [] M (fun v M' => zWp c j ls (v :: st) M' Q)) : zWp c i ls (b3 :: b2 :: b1 :: b0 :: st) M Q := zw_calls h hy ⟨by simp, (by rw [Bool.and_eq_true]; exact ⟨hg, rfl⟩)⟩ k
theorem zw_cavs4 {cp mid cl : Int} {cc : List zIn} {mL : Nat} {b0 b1 b2 b3 : zV} (h : zFe c i j 60 [1, cp, mid, cl]) (hy : zPt[mid.toNat]? = some (cc, mL, 4, 0)) (hg : zgive 0 [b3, b2, b1, b0] st = true) (k : zWp cc 0 (zloc [b0, b1, b2, b3] mL) [] M (fun _ M' => zWp c j ls st M' Q)) : zWp c i ls (b3 :: b2 :: b1 :: b0 :: st) M Q := zw_calls h hy ⟨by simp, (by rw [Bool.and_eq_true]; exact ⟨hg, rfl⟩)⟩ k
theorem zw_callv5 {cp mid cl : Int} {cc : List zIn} {mL : Nat} {b : Int} {b1 b2 b3 b4 : zV} (h : zFe c i j 60 [0, cp, mid, cl]) (hy : zPt[mid.toNat]? = some (cc, mL, 5, 1)) (hc : zcls zS0 b = some cl) (hg : zgive 1 [b4, b3, b2, b1, (1, b)] st = true) (k : zWp cc 0 (zloc [(1, b), b1, b2, b3, b4] mL) [] M (fun v M' => zWp c j ls (v :: st) M' Q)) : zWp c i ls (b4 :: b3 :: b2 :: b1 :: (1, b) :: st) M Q := zw_calls h hy ⟨by simp, (by rw [Bool.and_eq_true]; exact ⟨hg, zrecv_0 (as := [b4, b3, b2, b1]) hc⟩)⟩ k
theorem zw_cavv5 {cp mid cl : Int} {cc : List zIn} {mL : Nat} {b : Int} {b1 b2 b3 b4 : zV} (h : zFe c i j 60 [0, cp, mid, cl]) (hy : zPt[mid.toNat]? = some (cc, mL, 5, 0)) (hc : zcls zS0 b = some cl) (hg : zgive 0 [b4, b3, b2, b1, (1, b)] st = true) (k : zWp cc 0 (zloc [(1, b), b1, b2, b3, b4] mL) [] M (fun _ M' => zWp c j ls st M' Q)) : zWp c i ls (b4 :: b3 :: b2 :: b1 :: (1, b) :: st) M Q := zw_calls h hy ⟨by simp, (by rw [Bool.and_eq_true]; exact ⟨hg, zrecv_0 (as := [b4, b3, b2, b1]) hc⟩)⟩ k
theorem zw_calls5 {cp mid cl : Int} {cc : List zIn} {mL : Nat} {b0 b1 b2 b3 b4 : zV} (h : zFe c i j 60 [1, cp, mid, cl]) (hy : zPt[mid.toNat]? = some (cc, mL, 5, 1)) (hg : zgive 1 [b4, b3, b2, b1, b0] st = true) (k : zWp cc 0 (zloc [b0, b1, b2, b3, b4] mL) [] M (fun v M' => zWp c j ls (v :: st) M' Q)) : zWp c i ls (b4 :: b3 :: b2 :: b1 :: b0 :: st) M Q := zw_calls h hy ⟨by simp, (by rw [Bool.and_eq_true]; exact ⟨hg, rfl⟩)⟩ k
theorem zw_cavs5 {cp mid cl : Int} {cc : List zIn} {mL : Nat} {b0 b1 b2 b3 b4 : zV} (h : zFe c i j 60 [1, cp, mid, cl]) (hy : zPt[mid.toNat]? = some (cc, mL, 5, 0)) (hg : zgive 0 [b4, b3, b2, b1, b0] st = true) (k : zWp cc 0 (zloc [b0, b1, b2, b3, b4] mL) [] M (fun _ M' => zWp c j ls st M' Q)) : zWp c i ls (b4 :: b3 :: b2 :: b1 :: b0 :: st) M Q := zw_calls h hy ⟨by simp, (by rw [Bool.and_eq_true]; exact ⟨hg, rfl⟩)⟩ k
theorem zw_callv6 {cp mid cl : Int} {cc : List zIn} {mL : Nat} {b : Int} {b1 b2 b3 b4 b5 : zV} (h : zFe c i j 60 [0, cp, mid, cl]) (hy : zPt[mid.toNat]? = some (cc, mL, 6, 1)) (hc : zcls zS0 b = some cl) (hg : zgive 1 [b5, b4, b3, b2, b1, (1, b)] st = true) (k : zWp cc 0 (zloc [(1, b), b1, b2, b3, b4, b5] mL) [] M (fun v M' => zWp c j ls (v :: st) M' Q)) : zWp c i ls (b5 :: b4 :: b3 :: b2 :: b1 :: (1, b) :: st) M Q := zw_calls h hy ⟨by simp, (by rw [Bool.and_eq_true]; exact ⟨hg, zrecv_0 (as := [b5, b4, b3, b2, b1]) hc⟩)⟩ k
theorem zw_cavv6 {cp mid cl : Int} {cc : List zIn} {mL : Nat} {b : Int} {b1 b2 b3 b4 b5 : zV} (h : zFe c i j 60 [0, cp, mid, cl]) (hy : zPt[mid.toNat]? = some (cc, mL, 6, 0)) (hc : zcls zS0 b = some cl) (hg : zgive 0 [b5, b4, b3, b2, b1, (1, b)] st = true) (k : zWp cc 0 (zloc [(1, b), b1, b2, b3, b4, b5] mL) [] M (fun _ M' => zWp c j ls st M' Q)) : zWp c i ls (b5 :: b4 :: b3 :: b2 :: b1 :: (1, b) :: st) M Q := zw_calls h hy ⟨by simp, (by rw [Bool.and_eq_true]; exact ⟨hg, zrecv_0 (as := [b5, b4, b3, b2, b1]) hc⟩)⟩ k
theorem zw_calls6 {cp mid cl : Int} {cc : List zIn} {mL : Nat} {b0 b1 b2 b3 b4 b5 : zV} (h : zFe c i j 60 [1, cp, mid, cl]) (hy : zPt[mid.toNat]? = some (cc, mL, 6, 1)) (hg : zgive 1 [b5, b4, b3, b2, b1, b0] st = true) (k : zWp cc 0 (zloc [b0, b1, b2, b3, b4, b5] mL) [] M (fun v M' => zWp c j ls (v :: st) M' Q)) : zWp c i ls (b5 :: b4 :: b3 :: b2 :: b1 :: b0 :: st) M Q := zw_calls h hy ⟨by simp, (by rw [Bool.and_eq_true]; exact ⟨hg, rfl⟩)⟩ k
theorem zw_cavs6 {cp mid cl : Int} {cc : List zIn} {mL : Nat} {b0 b1 b2 b3 b4 b5 : zV} (h : zFe c i j 60 [1, cp, mid, cl]) (hy : zPt[mid.toNat]? = some (cc, mL, 6, 0)) (hg : zgive 0 [b5, b4, b3, b2, b1, b0] st = true) (k : zWp cc 0 (zloc [b0, b1, b2, b3, b4, b5] mL) [] M (fun _ M' => zWp c j ls st M' Q)) : zWp c i ls (b5 :: b4 :: b3 :: b2 :: b1 :: b0 :: st) M Q := zw_calls h hy ⟨by simp, (by rw [Bool.and_eq_true]; exact ⟨hg, rfl⟩)⟩ k
theorem zw_callv7 {cp mid cl : Int} {cc : List zIn} {mL : Nat} {b : Int} {b1 b2 b3 b4 b5 b6 : zV} (h : zFe c i j 60 [0, cp, mid, cl]) (hy : zPt[mid.toNat]? = some (cc, mL, 7, 1)) (hc : zcls zS0 b = some cl) (hg : zgive 1 [b6, b5, b4, b3, b2, b1, (1, b)] st = true) (k : zWp cc 0 (zloc [(1, b), b1, b2, b3, b4, b5, b6] mL) [] M (fun v M' => zWp c j ls (v :: st) M' Q)) : zWp c i ls (b6 :: b5 :: b4 :: b3 :: b2 :: b1 :: (1, b) :: st) M Q := zw_calls h hy ⟨by simp, (by rw [Bool.and_eq_true]; exact ⟨hg, zrecv_0 (as := [b6, b5, b4, b3, b2, b1]) hc⟩)⟩ k
theorem zw_cavv7 {cp mid cl : Int} {cc : List zIn} {mL : Nat} {b : Int} {b1 b2 b3 b4 b5 b6 : zV} (h : zFe c i j 60 [0, cp, mid, cl]) (hy : zPt[mid.toNat]? = some (cc, mL, 7, 0)) (hc : zcls zS0 b = some cl) (hg : zgive 0 [b6, b5, b4, b3, b2, b1, (1, b)] st = true) (k : zWp cc 0 (zloc [(1, b), b1, b2, b3, b4, b5, b6] mL) [] M (fun _ M' => zWp c j ls st M' Q)) : zWp c i ls (b6 :: b5 :: b4 :: b3 :: b2 :: b1 :: (1, b) :: st) M Q := zw_calls h hy ⟨by simp, (by rw [Bool.and_eq_true]; exact ⟨hg, zrecv_0 (as := [b6, b5, b4, b3, b2, b1]) hc⟩)⟩ k
theorem zw_calls7 {cp mid cl : Int} {cc : List zIn} {mL : Nat} {b0 b1 b2 b3 b4 b5 b6 : zV} (h : zFe c i j 60 [1, cp, mid, cl]) (hy : zPt[mid.toNat]? = some (cc, mL, 7, 1)) (hg : zgive 1 [b6, b5, b4, b3, b2, b1, b0] st = true) (k : zWp cc 0 (zloc [b0, b1, b2, b3, b4, b5, b6] mL) [] M (fun v M' => zWp c j ls (v :: st) M' Q)) : zWp c i ls (b6 :: b5 :: b4 :: b3 :: b2 :: b1 :: b0 :: st) M Q := zw_calls h hy ⟨by simp, (by rw [Bool.and_eq_true]; exact ⟨hg, rfl⟩)⟩ k
theorem zw_cavs7 {cp mid cl : Int} {cc : List zIn} {mL : Nat} {b0 b1 b2 b3 b4 b5 b6 : zV} (h : zFe c i j 60 [1, cp, mid, cl]) (hy : zPt[mid.toNat]? = some (cc, mL, 7, 0)) (hg : zgive 0 [b6, b5, b4, b3, b2, b1, b0] st = true) (k : zWp cc 0 (zloc [b0, b1, b2, b3, b4, b5, b6] mL) [] M (fun _ M' => zWp c j ls st M' Q)) : zWp c i ls (b6 :: b5 :: b4 :: b3 :: b2 :: b1 :: b0 :: st) M Q := zw_calls h hy ⟨by simp, (by rw [Bool.and_eq_true]; exact ⟨hg, rfl⟩)⟩ k
end ZW
end
section
/-! The classes, their fields, the methods, the links, as lists of numbers: by program. -/
def zCn : List String := ["StackedScript", "StackedScript$Anatomy", "StackedScript$Cut", "StackedScript$Drawing", "StackedScript$History", "StackedScript$Mender", "StackedScript$Pictures", "StackedScript$ReadBack", "StackedScript$Reader", "StackedScript$Script", "StackedScript$State", "StackedScript$Wrap", "StackedScriptModel"]
def zFt : List (List (String × String × String × Bool)) := [[("StackedScript", "tape", "[I", true), ("StackedScript", "tapeSize", "I", false), ("StackedScript", "faultFound", "I", false), ("StackedScript", "faultPlace", "I", false), ("StackedScript", "told", "LStackedScript$State;", true), ("StackedScript", "past", "LStackedScript$History;", true), ("StackedScript", "pictures", "LStackedScript$Pictures;", true), ("StackedScript", "reader", "LStackedScript$Reader;", true), ("StackedScript", "cut", "LStackedScript$Cut;", true), ("StackedScript", "anatomy", "LStackedScript$Anatomy;", true), ("StackedScript", "drawing", "LStackedScript$Drawing;", true), ("StackedScript", "readBack", "LStackedScript$ReadBack;", true), ("StackedScript", "wrap", "LStackedScript$Wrap;", true), ("StackedScript", "mender", "LStackedScript$Mender;", true)],
 [("StackedScript$Anatomy", "size", "I", false), ("StackedScript$Anatomy", "base", "I", false), ("StackedScript$Anatomy", "ahead", "I", false), ("StackedScript$Anatomy", "pairs", "I", false), ("StackedScript$Anatomy", "sort", "I", false), ("StackedScript$Anatomy", "begin", "I", false), ("StackedScript$Anatomy", "end", "I", false), ("StackedScript$Anatomy", "tail", "I", false), ("StackedScript$Anatomy", "ownNukta", "I", false), ("StackedScript$Anatomy", "isDead", "Z", false), ("StackedScript$Anatomy", "place", "[I", true), ("StackedScript$Anatomy", "nukta", "[I", true), ("StackedScript$Anatomy", "virama", "[I", true), ("StackedScript$Anatomy", "joiner", "[I", true), ("StackedScript$Anatomy", "joinsNext", "[Z", true)],
 [("StackedScript$Cut", "size", "I", false), ("StackedScript$Cut", "letters", "I", false), ("StackedScript$Cut", "kind", "[I", true), ("StackedScript$Cut", "owner", "[I", true), ("StackedScript$Cut", "fact", "[[I", true)],
 [("StackedScript$Drawing", "size", "I", false), ("StackedScript$Drawing", "fact", "[[I", true), ("StackedScript$Drawing", "shownBy", "[I", true), ("StackedScript$Drawing", "x", "[I", true), ("StackedScript$Drawing", "from", "[I", true), ("StackedScript$Drawing", "told", "LStackedScript$State;", true), ("StackedScript$Drawing", "cut", "LStackedScript$Cut;", true), ("StackedScript$Drawing", "body", "LStackedScript$Anatomy;", true), ("StackedScript$Drawing", "owner", "I", false)],
 [("StackedScript$History", "size", "I", false), ("StackedScript$History", "kept", "[LStackedScript$State;", true)],
 [("StackedScript$Mender", "size", "I", false), ("StackedScript$Mender", "out", "[I", true), ("StackedScript$Mender", "fewest", "[[I", true)],
 [("StackedScript$Pictures", "kept", "[LStackedScript$State;", true), ("StackedScript$Pictures", "made", "[Z", true)],
 [("StackedScript$ReadBack", "size", "I", false), ("StackedScript$ReadBack", "row", "[I", true), ("StackedScript$ReadBack", "told", "LStackedScript$State;", true), ("StackedScript$ReadBack", "cut", "LStackedScript$Cut;", true)],
 [("StackedScript$Reader", "script", "LStackedScript$Script;", true), ("StackedScript$Reader", "fault", "I", false), ("StackedScript$Reader", "faultPlace", "I", false), ("StackedScript$Reader", "bytes", "[I", true), ("StackedScript$Reader", "end", "I", false), ("StackedScript$Reader", "place", "I", false), ("StackedScript$Reader", "toldOnce", "I", false)],
 [("StackedScript$Script", "kind", "[I", true), ("StackedScript$Script", "firstPart", "[I", true), ("StackedScript$Script", "secondPart", "[I", true), ("StackedScript$Script", "joinedTo", "[I", true), ("StackedScript$Script", "ra", "I", false), ("StackedScript$Script", "stacking", "I", false), ("StackedScript$Script", "halved", "I", false), ("StackedScript$Script", "pairs", "I", false)],
 [("StackedScript$State", "script", "LStackedScript$Script;", true), ("StackedScript$State", "row", "[I", true), ("StackedScript$State", "size", "I", false)],
 [("StackedScript$Wrap", "size", "I", false), ("StackedScript$Wrap", "end", "[I", true), ("StackedScript$Wrap", "squares", "[I", true), ("StackedScript$Wrap", "firstBreak", "[I", true)],
 [("StackedScriptModel", "thrown", "I", false), ("StackedScriptModel", "all", "[I", true), ("StackedScriptModel", "deeds", "[I", true), ("StackedScriptModel", "deedMany", "I", false), ("StackedScriptModel", "hasImage", "[Z", true), ("StackedScriptModel", "from", "[I", true), ("StackedScriptModel", "size", "[I", true), ("StackedScriptModel", "sort", "[I", true), ("StackedScriptModel", "dead", "[I", true), ("StackedScriptModel", "chainMany", "[I", true), ("StackedScriptModel", "baseAt", "[I", true), ("StackedScriptModel", "reph", "[I", true), ("StackedScriptModel", "stackedMany", "[I", true), ("StackedScriptModel", "joinedMany", "[I", true), ("StackedScriptModel", "glyphFrom", "[I", true), ("StackedScriptModel", "clusterMany", "I", false), ("StackedScriptModel", "consonant", "[I", true), ("StackedScriptModel", "nukta", "[I", true), ("StackedScriptModel", "virama", "[I", true), ("StackedScriptModel", "joiner", "[I", true), ("StackedScriptModel", "isJoined", "[Z", true), ("StackedScriptModel", "chained", "I", false), ("StackedScriptModel", "endFrom", "I", false), ("StackedScriptModel", "form", "[I", true), ("StackedScriptModel", "one", "[I", true), ("StackedScriptModel", "other", "[I", true), ("StackedScriptModel", "glyphAt", "[I", true), ("StackedScriptModel", "clusterOf", "[I", true), ("StackedScriptModel", "rankOf", "[I", true), ("StackedScriptModel", "wide", "[I", true), ("StackedScriptModel", "shownBy", "[I", true), ("StackedScriptModel", "glyphMany", "I", false), ("StackedScriptModel", "readBack", "[I", true), ("StackedScriptModel", "readMany", "I", false), ("StackedScriptModel", "tape", "[B", true), ("StackedScriptModel", "taped", "I", false), ("StackedScriptModel", "long0", "I", false), ("StackedScriptModel", "spot", "I", false), ("StackedScriptModel", "wrong", "I", false), ("StackedScriptModel", "wrongAt", "I", false), ("StackedScriptModel", "told", "[I", true), ("StackedScriptModel", "toldOnce", "I", false), ("StackedScriptModel", "words", "[B", true), ("StackedScriptModel", "begins", "Z", false), ("StackedScriptModel", "fewest", "[I", true), ("StackedScriptModel", "mending", "[I", true), ("StackedScriptModel", "mendMany", "I", false), ("StackedScriptModel", "lineTo", "[I", true), ("StackedScriptModel", "farTo", "[I", true), ("StackedScriptModel", "breakTo", "[I", true), ("StackedScriptModel", "lineMany", "I", false)]]
def zFkd : List (List Nat) := [[1,0,0,0,1,1,1,1,1,1,1,1,1,1], [0,0,0,0,0,0,0,0,0,2,1,1,1,1,1], [0,0,1,1,1], [0,1,1,1,1,1,1,1,0], [0,1], [0,1,1], [1,1], [0,1,1,1], [1,0,0,1,0,0,0], [1,1,1,1,0,0,0,0], [1,1,0], [0,1,1,1], [0,1,1,0,1,1,1,1,1,1,1,1,1,1,1,0,1,1,1,1,1,0,0,1,1,1,1,1,1,1,1,0,1,0,1,0,0,0,0,0,1,0,1,2,1,1,0,1,1,1,0]]
def zC (c : Nat) : String := zCn.getD c ""
def zT (c : Nat) : u_T := fun k => (zFt.getD c []).getD k ("", "", "", false)
def zN (c : Nat) : Nat := zNf.getD c 0
def zkd (c k : Nat) : Nat := (zFkd.getD c []).getD k 0
def zTy (c k : Nat) : FieldType := (parseFieldDescriptor (zT c k).2.2.1).getD .int
set_option maxRecDepth 20000 in
def zp_0 : List Nat := [0,1,4,5,8,10,13,14,15,18,19,20,23,24,25,28,29,32,33,36,39,40,43,44,47,50,51,54,55,58,61,62,65,66,69,72,73,76,77,80,83,84,87,88,91,94,95,98,99,100,103,104,107,108,111,114,117,118,121,122,123,126,127,130,133,136,137,140,141,144,147,148,151,152,155,158]
set_option maxRecDepth 20000 in
def zp_1 : List Nat := [0,1,4,6,7,10,13,15,16,17,18,21,22,23,26,27,28,31,32,34,37,38,40,43,44,47]
set_option maxRecDepth 20000 in
def zp_2 : List Nat := [0,1,4,5,6,9,12,14,15,16,19,20,23,24,27,28,29,32,35,36,39,42,45,46,49,52,54,55,58,59,60,61,64,65,68,71,72,75,78,79,82,85,88,89,92,93,96,99,102]
set_option maxRecDepth 20000 in
def zp_3 : List Nat := [0,1,4,5,6,9,12,14,15,16,18,21,22,23,24,27,29,30,31,32,35,36,37,38,41,42,43,44,47,49,50,51,52,53,56,57,60,61,64,67,68,71,72,75,76,78,81,82,85,86]
set_option maxRecDepth 20000 in
def zp_4 : List Nat := [0,1,28,29,32,33,34,37,38,39]
set_option maxRecDepth 20000 in
def zp_5 : List Nat := [0,1,4,7,9,10,11,14,15,16,19,22,25,27,28,29,32,35,37,40,42,43,44,47,48,51,54,55,58,59,60,63,64,67,68,71,74]
set_option maxRecDepth 20000 in
def zp_6 : List Nat := [0,1,2,5,6,7,10,13,16,18,19,20,23,24,25,26,29,30,31,34,35,38,41,42,45,46,47,48,49,52,53,56,57]
set_option maxRecDepth 20000 in
def zp_7 : List Nat := [0,1,4,5,8,9,10,11,14,15,16,19,22,25,27,28,29,32,33,34,37,38,39,42,43,46,49,50,53,54,55,58,59,62,63]
set_option maxRecDepth 20000 in
def zp_8 : List Nat := [0,1,4,7,8,9,12,13,16,19,20,23,24,25,28,29,32,33]
set_option maxRecDepth 20000 in
def zp_9 : List Nat := [0,1,4,7,9,12,14,15,16,19,20,23,26,27,30,31,34,37,38,41,44,45,48,49,52,53,56,59]
set_option maxRecDepth 20000 in
def zp_10 : List Nat := [0,1,4,7,9,10,11,14,17,18,19,56,57,58,61,62,63,66,67,70,71,74,75,76,77,80,81,84,85,86,89,90,93,94,95,96,97,100,101,102,103,104,107,108,110]
set_option maxRecDepth 20000 in
def zp_11 : List Nat := [0,1,4,7,8,11,14,16,17,18,21,24,25,26,29,32,33,36,37]
set_option maxRecDepth 20000 in
def zp_12 : List Nat := [0,1,4,6,7,8,11,12,15]
set_option maxRecDepth 20000 in
def zp_13 : List Nat := [0,1,4,7]
set_option maxRecDepth 20000 in
def zp_14 : List Nat := [0,1,4,5,8,11,13,14,15,17,20,21,24,25,28,29,30,32,35,36,39,40,43,44,45,48,49,51,54,56,59,60,63,64,65,68]
set_option maxRecDepth 20000 in
def zp_15 : List Nat := [0,1,4,6,7,8,11,12,15]
set_option maxRecDepth 20000 in
def zp_16 : List Nat := [0,1,2,5,7,8,9,10,13,14,17,18,19,22,25,26,29,30,33]
set_option maxRecDepth 20000 in
def zp_17 : List Nat := [0,1,2,5,7,8,9,12,13,16,19,20,21,24,25,28,31,32,33,34,37,40,43,44,47,50,51,52,55,56]
set_option maxRecDepth 20000 in
def zp_18 : List Nat := [0,1,4,5,6,9,12,15,17,18,19,22,23,24,27,28,29,30,31,33,35,37,40,41,44,45,47,50,51,54,55,56,58,59,60,61,64,67,68,70,71,73,75,77,80,82,83,84,87,90,92,95,98,100,101,102,104,107,110,112]
set_option maxRecDepth 20000 in
def zp_19 : List Nat := [0,1,4,5,8,11,12,15,16,19,22,23,26,29,30,31,32,33,36,37,40,41,44,47,48,49,50,53,56,59,60,63,64,67,70]
set_option maxRecDepth 20000 in
def zp_20 : List Nat := [0,1,4,7]
set_option maxRecDepth 20000 in
def zp_21 : List Nat := [0,1,4,5,6,9,12,15,16,19,20,22,25,27,28,29,32,35,36,37,38,39]
set_option maxRecDepth 20000 in
def zp_22 : List Nat := [0,1,4,6,7,8,9,12,15,18,19,22,25,26,27,30,31]
set_option maxRecDepth 20000 in
def zp_23 : List Nat := [0,1,2,5,7,8,9,10,13,14,17,20,21,22,23,26,29,32,33,36,39,40,41,44,45]
set_option maxRecDepth 20000 in
def zp_24 : List Nat := [0,1,4,7,8,11,14,17,18,19,20,21,22,23,26,29,32,33,36,39,40,41,42,45,48,49,50,53,54,55,58,61,62]
set_option maxRecDepth 20000 in
def zp_25 : List Nat := [0,1,4,7,8,9]
set_option maxRecDepth 20000 in
def zp_26 : List Nat := [0,1,4,6,7,8,11,12,15]
set_option maxRecDepth 20000 in
def zp_27 : List Nat := [0,1,2,5,6,7,10,12,13,14,17,18,19,22,25,28,30,31,32,33,36,37,40,41,44,47,48,51,52,55]
set_option maxRecDepth 20000 in
def zp_28 : List Nat := [0,1,4,5,8,9,10,11,14,16,19,20,23,24,27]
set_option maxRecDepth 20000 in
def zp_29 : List Nat := [0,1,4,5,8,11,13,14,15,16,17,18,19,20,23,26,29,30,33,34,37,38,39,42,43,46,47,50,51,52,55,58,59,60,63,66,67,70,71,74]
set_option maxRecDepth 20000 in
def zp_30 : List Nat := [0,1,4,7,9,10,11,14,15,18,21,22,25,28,29,32]
set_option maxRecDepth 20000 in
def zp_31 : List Nat := [0,1,4,7,8,11,13,14,15,18,19,22,25,26,29,32,33,36,37,38,39,42,45,48,49,52,53,56,59,60,61,64,67,68]
set_option maxRecDepth 20000 in
def zp_32 : List Nat := [0,1,4,7,9,10,11,14,15,18,21,22,25,28,29,32]
set_option maxRecDepth 20000 in
def zp_33 : List Nat := [0,1,4,7,8,11,13,14,15,18,19,22,25,26,29,32,33,36,37,38,39,42,45,48,49,52,53,56,59,60,61,64,67,68]
set_option maxRecDepth 20000 in
def zp_34 : List Nat := [0,1,2,5,6,8,11,13,14,15,18,21,24,25,26,27,28,29,32,35,36,39,40,43,46,47,50,53,54,57,58,59,60,63,64,65,68,69,70,73,76,77]
set_option maxRecDepth 20000 in
def zp_35 : List Nat := [0,1,4,5,6,9,12,14,15,16,19,20,21,24,27,30,32,33,34,35,38,39,42,43,44,45,46,47,48,49,50,53,56,59,60,63,64,67,68,71,72,75,76,77,78,81,82,85,86,87,88,91,94,95,96,99,102,103]
set_option maxRecDepth 20000 in
def zp_36 : List Nat := [0,1,4,5,8,11,12,15,16,19,22,24,25,26,29,30,31,34,37,38,41,42]
set_option maxRecDepth 20000 in
def zp_37 : List Nat := [0,1,2,3,4,5,6,9,12,15,16,17,18,20,22,23,26,27,30,31,34,36,37,40,43,44,47,48,49,52,55,56,57,60,61,64,65,66,67,70,73,74]
set_option maxRecDepth 20000 in
def zp_38 : List Nat := [0,1,4,5,8,11,12,15,16,19,22,24,25,26,29,30,31,34,35,36,39,40,41,42,45,46,49,50]
set_option maxRecDepth 20000 in
def zp_39 : List Nat := [0,1,4,6,7,8,9,10,11,14,17,20,21,22,25,26,29,30,31,34,37,38]
set_option maxRecDepth 20000 in
def zp_40 : List Nat := [0,1,2,5,6,8,11,12,13,16,19,22,24,25,26,29,30,31,34,37,38,41,42,45,48]
set_option maxRecDepth 20000 in
def zp_41 : List Nat := [0,1,4,5,6,9,11,12,13,16,17,18,21,24,25]
set_option maxRecDepth 20000 in
def zp_42 : List Nat := [0,1,4,5,6,9,11,12,13,16,17,20,23,25,26,27,30,31,32,35,38,39,42,45,46,49,50]
set_option maxRecDepth 20000 in
def zp_43 : List Nat := [0,1,48,49,52,55,56,57,60,63,66,67,68,71,74,77,78,79,82,83,84,87,90,91,92,95,96,99,102,105,106,107,110,112,115,116,117,120,122,125,126,127]
set_option maxRecDepth 20000 in
def zp_44 : List Nat := [0,2,3,4,7,8,11,14,17,18,21,22,25,26,27,28,31,32,33,34,35,38,39,40,43,46,49]
set_option maxRecDepth 20000 in
def zp_45 : List Nat := [0,1,2,5,6,7,10,11,12,15]
set_option maxRecDepth 20000 in
def zp_46 : List Nat := [0,1,2,3,4,7,8,11,14,15,18,19,20,22,23,26,29,30,31,34,37,38]
set_option maxRecDepth 20000 in
def zp_47 : List Nat := [0,1,2,3,4,7,8,11,14,15,18,19,20,21,24,25,28,29,30,32,33,36,37,38,41,44,45]
set_option maxRecDepth 20000 in
def zp_48 : List Nat := [0,1,2,3,4,5,6,9,12,15,16,19,20,21,24,26,28,31,33,36,37,38,41,44,47,50,51]
set_option maxRecDepth 20000 in
def zp_49 : List Nat := [0,1,4,5,8,11,12,15,18,19,22,25,26,27,28,29,32,35,38,39,42,43,46,47,50,51,54,55,58,59,60,63,66,67,70,71,74,75,78,79,82,85,88]
set_option maxRecDepth 20000 in
def zp_50 : List Nat := [0,1,4,5,7,10,11,14,15]
set_option maxRecDepth 20000 in
def zp_51 : List Nat := [0,1,2,5,6,8,11,12,15,16]
set_option maxRecDepth 20000 in
def zp_52 : List Nat := [0,1,2,5,6,8,11,12,15,16]
set_option maxRecDepth 20000 in
def zp_53 : List Nat := [0,1,3,6,7,9,12,13,16,17]
set_option maxRecDepth 20000 in
def zp_54 : List Nat := [0,1,3,6,7,9,12,13,16,17]
set_option maxRecDepth 20000 in
def zp_55 : List Nat := [0,1,2,5,6,9,12,13,16,17]
set_option maxRecDepth 20000 in
def zp_56 : List Nat := [0,1,2,3,4,5]
set_option maxRecDepth 20000 in
def zp_57 : List Nat := [0,1,2,5,6,7,10,11,12,15,16,19,20,21,22,23,26,27,28,31,32,33,36,37,38,39,41,44,46,49,50,51,52,53,56,57,58,61,62,63,64,66,69,71,74,75,76,77,80,83,84,87,90,91,94,95,96,97,100,103,104,107,108,111,113,114,115,118,121,122,123,126,127,128,129,131,134,136,139,140,141,142]
set_option maxRecDepth 20000 in
def zp_58 : List Nat := [0,1,2,5,6,7,10,11,13,16,17,18,21,22,25,26]
set_option maxRecDepth 20000 in
def zp_59 : List Nat := [0,1,60,61,62,64,65,67,68,70,71,73,74,75,78,81,82,85,86]
set_option maxRecDepth 20000 in
def zp_60 : List Nat := [0,1,72,73,74,75,76,77,78,79]
set_option maxRecDepth 20000 in
def zp_61 : List Nat := [0,1,2,5,6,7,8,11,12,15,18,19]
set_option maxRecDepth 20000 in
def zp_62 : List Nat := [0,1,4,5,8,9,10,13,14,17,18,21,22]
set_option maxRecDepth 20000 in
def zp_63 : List Nat := [0,1,72,73,74,75,76,77,78,79,80,81,84,85,87,90,91,94,95,96,97,99,102,103,106,107,108,109]
set_option maxRecDepth 20000 in
def zp_64 : List Nat := [0,1,80,83,84,87,88,91,92,95,96,99,100,103,104,107,108,111,112,115,116,119,120,123,124,127,128,131,132,135,136,139,140,143,144,147]
set_option maxRecDepth 20000 in
def zp_65 : List Nat := [0,1,2,5,6,7,10,11,14,17,18,20,23,24,27,28]
set_option maxRecDepth 20000 in
def zp_66 : List Nat := [0,1,2,3,6,7,9,10,13,14,17,18]
set_option maxRecDepth 20000 in
def zp_67 : List Nat := [0,1,4,5,8,10,13,14,17,19,22,23,24,26,29,30,32,34,37,38,40,42,45,46,48,50,53,54,56,58,61,62,64,66,69,70,72,74,77,78,80,82,85,86,88,90,93,94,96,98,101,102,104,106,109,110,112,114,117,118,120,122,125,126,128,130,133,134,136,138,141,142,144,146,149,150,153,155,158,159,162,164,167,168,171,173,176,177,180,182,185,186,189,191,194,195,198,200,203,204,207,209,212,213,215,217,220,221,223,225,228,229,232,234,237,238,239,242,243,245,247,250,251,253,255,256,257,259,260,261,262,264,265,266,267,269,270,271,272,274,275,276,277,279,280,281,282,284,285,286,288,290,291,292,294,296,297,298,300,302,303,304,306,308,309,310,312,313,314,315,317,319,320,321,323,325,326,327,329,331,332,333,335,337,338,339,341,343,344,345,347,349,350,351,353,354,355,356,358,360,361,362,364,366,367,368,370,372,373,374,376,378,379,380,382,384,385,386,388,390,391,392,394,395,396,397,399,401,402,403,405,407,408,409,411,413,414,415,417,419,420,421,423,425,426,427,429,430,431,432,434,436,437,438,440,442,443,444,446,448,449,450,452,454,455,456,458,460,461,462,464,466,467,468,470,471,472,473,475,477,478,479,481,483,484,485,487,489,490,491,493,495,496,497,499,501,502,503,505,506,507,508,510,512,513,514,516,518,519,520,522,524,525,526,528,530,531,532,534,536,537,538,540,541,542,543,545,547,548,549,551,553,554,555,557,559,560,561,563,565,566,567,569,571,572,573,575,577,578,579,581,582,583,584,586,588,589,590,592,594,595,596,598,600,601,602,604,606,607,608,610,612,613,614,616,618,619,620,622,623,624,625,627,629,630,631,633,635,636,637,639,641,642,643,645,647,648,649,651,653,654,655,657,658,659,660,662,664,665,666,668,670,671,672,674,676,677,678,680,682,683,684,686,688,689,690,692,693,694,695,697,699,700,701,703,705,706,707,709,711,712,713,715,717,718,719,721,723,724,725,727,729,730,731,733,734,735,736,738,740,741,742,744,746,747,748,750,752,753,754,756,758,759,760,762,764,765,766,768,770,771,772,774,776,777,778,780,781,782,783,785,787,788,789,791,793,794,795,797,798,799,800,802,804,805,806,808,810,811,812,814,816,817,818,820,822,823,824,826,828,829,830,832,833,834,835,837,839,840,841,843,845,846,847,849,851,852,853,855,857,858,859,861,862,863,864,866,868,869,870,872,874,875,876,878,880,881,882,884,886,887,888,890,892,893,894,896,897,898,901,902,905,907,910,911,913,915,918,919,921,923,926,927,929,931,934,935,937,939,942,943,946,949]
set_option maxRecDepth 20000 in
def zp_68 : List Nat := [0,1,2,3,5,8,9,12,13,14,15,16,19,22,23,24,25,27,30,31,33,34,35,36,37,38,40,41,42,43,44,47,50]
set_option maxRecDepth 20000 in
def zp_69 : List Nat := [0,1,3,5,7,10,11,12,14,15,16,17,19,20,21,22,25,28]
set_option maxRecDepth 20000 in
def zp_70 : List Nat := [0,1,4,6,9,10,13,16,17,20,21,24,27,28,29,32,33,34,37,38,41,42,43,46,49,50,53,54,57,60,61,62,65,66,67,70]
set_option maxRecDepth 20000 in
def zp_71 : List Nat := [0,1,4,5,6]
set_option maxRecDepth 20000 in
def zp_72 : List Nat := [0,1,4,6,7,8,9]
set_option maxRecDepth 20000 in
def zp_73 : List Nat := [0,1,2,3,6,9]
set_option maxRecDepth 20000 in
def zp_74 : List Nat := [0,1,4,5,6,7,8]
set_option maxRecDepth 20000 in
def zp_75 : List Nat := [0,1,4,6,7,8,9,10,11,14,15,18,19]
set_option maxRecDepth 20000 in
def zp_76 : List Nat := [0,1,2,5,8,9,10,11,14,17,20,21]
set_option maxRecDepth 20000 in
def zp_77 : List Nat := [0,1,2,3,4,5,6,9,10,12,13,14,15,16,17,18,21,22,24,25,26,27,28,29,30,31,32,35,36,37,40,43,44]
set_option maxRecDepth 20000 in
def zp_78 : List Nat := [0,1,2,5,8,11]
set_option maxRecDepth 20000 in
def zp_79 : List Nat := [0,1,3,6,7,9,12,13,16,17]
set_option maxRecDepth 20000 in
def zp_80 : List Nat := [0,1,4,5,8,9,10,11,14,15,18,19,20,21,22,25,26,29,30,31,32,35,36,37,38,41,42,45,46,47,48,51,52,55,56,57,58,61,62,65,66,67,68,69,72,73,74,77]
set_option maxRecDepth 20000 in
def zp_81 : List Nat := [0,1,4,5,6,7,10,11,14,15,16,17,18,21,22,25,26,27,28,29]
set_option maxRecDepth 20000 in
def zp_82 : List Nat := [0,1,2,5,6,7,10,11,12,15,16,17,18,19,22,23,24,27,28,31,32,35,36,37,38,39,42,45,48,49,50,51,54,55,56,57,59,61,62,65,66,68,71,72,75,76,79,80,81,82,85,88,89,92,93,96,97,98,99,100,101,104,105,108,109,110,112,113,114,115,118,119,120,121,124,125,126,127,129,132,133,134,137,138,139,142,143,146,147]
set_option maxRecDepth 20000 in
def zp_83 : List Nat := [0,1,2,3,4,7,9,12,13,14,17,19,22,25,28,29]
set_option maxRecDepth 20000 in
def zp_84 : List Nat := [0,1,2,5,6,7,8,11,12,13,14,17,18,21,22,25,26,27,28,31,32,33,34,37,40,41,42,45,48,51,54,57,58,59,62,65,68,71,74,75,76,79]
set_option maxRecDepth 20000 in
def zp_85 : List Nat := [0,1,4,5,8,9,10,11,12,13,16,17,20,21]
set_option maxRecDepth 20000 in
def zp_86 : List Nat := [0,1,4,5,6,7,8,9,12,13,14,15,18,19,20,23,24,27,30,31,32,35,38,39,40,43,46,47]
set_option maxRecDepth 20000 in
def zp_87 : List Nat := [0,1,4,5,8,9,10,11,14,15,16,19,20,23,26,27,30,31,32,33,36,37,40,41,42,43,46,47,50,51]
set_option maxRecDepth 20000 in
def zp_88 : List Nat := [0,1,2,3,4,7,8,9,12,13,16,17,18,19,20,23,24,27,28,30,31,34,35,37,40,41,44,45,46,47,50,51,54,55,56,57,60,61,64,65,66,69,70,71,74,75,76,79,80,81,82,83,86,89,92,93,96,97,98,101,104]
set_option maxRecDepth 20000 in
def zp_89 : List Nat := [0,1,2,5,6,7,10,11,12,13,14,17,18,19,20,21,22,25,26,29,30,31,32,33,36,37,38,39,40,43,44,45,46,47,50,51,52,53,54,55,58,59,62,63,64,65,66,67,68,69,72,75,77,80,81,82,85,86,89,90,91,92,93,94,95,96,97,100,101,104,105,106,107,110,111,112,113,116,117,118,121,124,126,129,130,133,134,137,140,141,144,145,146,147,148,149,150,151,154,155,158,160,163,164,167,168,169,170,171,174,175,176,177,178,179,180,181,184,185,186,187,190,191,194,196,197,200,201,203,204,205,206,207,210,211,212,215,216,217,218,220,223,225]
set_option maxRecDepth 20000 in
def zp_90 : List Nat := [0,1,2,5,6,7,10,11,12,13,14,17,20,21,24,25,28,29,32,33,34,35,38,39,42,43,44,45,48,49,50,53,56,57,60,61,64,65,66,67,70,71,74,75,78,79]
set_option maxRecDepth 20000 in
def zp_91 : List Nat := [0,1,4,5,8,9,10,11,14,15,18,20,21,22,25,26,29,30,31,32,35,36,39,41,42,43,46,47,50,51,52,53,56,57,60,61,62,63,66,67,70,71,72,74,77,78,80,81,84,85,88,90,91,94,95,96,97,100,101,102,105]
set_option maxRecDepth 20000 in
def zp_92 : List Nat := [0,2,3,6,7,8,9,10,11,13,16,18,21]
set_option maxRecDepth 20000 in
def zp_93 : List Nat := [0,1,2,5,6,9,10,11,14,15,16,88,89,90,91,92,93,94,95,96,97,98,99,100,103,104,106,109,110,113,114,115,116,118,121,122,125,126,127,128]
set_option maxRecDepth 20000 in
def zp_94 : List Nat := [0,1,4,6,8,10,13,14,16,19,21,22,24,27,28,31,32,33,34,36,38,41,42,44,47,49,52,55,56,59,61,63,64,65,67,68,71,73,75,76,77,79,80,83,85,86,88,89,91,94,95,98,99,100,101,103,105,107,110,111,114,115,116,118,119,121,124,125,128,129,130,131,133,135,137,140,141,144,146,148,149,152,155]
set_option maxRecDepth 20000 in
def zp_95 : List Nat := [0,1,4,6,8,10,13,14,16,19,20,23,24,25,26,28,30,33,36,39]
set_option maxRecDepth 20000 in
def zp_96 : List Nat := [0,1,4,5,6,7,10,11,14,15,18,19,20,21,22]
set_option maxRecDepth 20000 in
def zp_97 : List Nat := [0,1,4,5,6,9,10,11,12,15,16,17,18,19,20,23,24,25,28,29,32,35,36,39,40,41,42,45,46,47,50,51,52,55,57,60,61,64,65,67,68,69,70,72,75,76,79,80,81,84,85,88,89,92,93,96,97,98,101,102,105,106,107,110,112,115,116,117,118,121,122,123,126,127,128,129,131,132,135,136,137,140,142,145,146,147,148,150,151,154,155,156,159,160,161,162,164,165,168,169,170,173,174,175,176]
set_option maxRecDepth 20000 in
def zp_98 : List Nat := [0,1,2,3,4,5,8,10,11,14,15,18,20,21,24,25,26,29,30,33,34,35,36,37,40,42,43,44,45,48,49,50,53,54,57,59,60,61,62,63,66,67,68,69,70,72,73,76,77,78,81]
set_option maxRecDepth 20000 in
def zp_99 : List Nat := [0,1,2,3,4,5,8,9,10,13,14,15,16,17,18,21,22,23,26,27,28,29,31,32,35,36,37,40]
set_option maxRecDepth 20000 in
def zp_100 : List Nat := [0,1,2,5,8,11,12,15,16]
set_option maxRecDepth 20000 in
def zp_101 : List Nat := [0,1,4,5,6,9,10,13,16,17,20,21,22,23,26,27,28,31,32,33,36,39,40,42,43,46,47,48,50,52,53,56,57,60,62,63,64,67,70,71,72,73,74,75,78,79,82,83,84,87,88,89,91,94,95,97,99,101,104,105,108,110,111,114,116,117,118,120,123,124,125,127,130,132,135,136,137,138,139,142,144,145,148,149,152,153,155,158,159,160,161,163,164,167,169,170,173,175,176,177,179,181,182,185,188,189,190,192,195,198,201,202,205,206,207,210,212,213,214,215,218,219,220,221,222,225,226,227,230,231,232,234,235,236,237,239,241,243,246,247,250,251,252,253,254,257,259,260,263,264,267,268,269,270,273,276,279,280,281,282,285,286,287,290,291,292,293,295,296,299,300,303,304,305,306,309,310,311,312,314,315,318,321,322,323,324,326,327,330,331,332,333,336,337,338,341,342,343,346,349,350,353,354,355,356,358,359,362,363,364,367,368,369,371,372,373,376,377,378,381,382,383,384,387,388,389,392,393,394,396,398,399,402,403,404,406,408,409,412,413,414,416,418,419,422]
set_option maxRecDepth 20000 in
def zp_102 : List Nat := [0,1,2,5,6,7,10,11,12,13,16,17,18,19,21,22,25,26,27,28,30,31,34,35,36,37,40,41,42,43,46,47,50,53,54,57,58,59,60,63,64,65,66,67,70,73,75,78,80,81,84,87,88,89,90,92,93,94,97,98,99,100,102,103,104,107,108,111,112,115]
set_option maxRecDepth 20000 in
def zp_103 : List Nat := [0,1,2,3,6,7,8,9,10,11,14,15,16,17,18,21,22,23,26,27,28,29,30,33,36,37]
set_option maxRecDepth 20000 in
def zp_104 : List Nat := [0,1,4,5,8,9,10,11,12,15,16,17,20]
set_option maxRecDepth 20000 in
def zp_105 : List Nat := [0,1,3,5,6,9,10,12,15,17,18,20,23,24,27,28,30,33,34,36,39,41,44,47,48,49,52,54,56,57,58,61,62,65,66,67,70,72,74,75,76,79,80,81,84,86,88,89,90,93,94,97,98,99,102,104,106,107,108,111,114,117]
set_option maxRecDepth 20000 in
def zp_106 : List Nat := [0,1,4,5,6,9,10,11,12,13,16,19,20,23,24,25,26,27,28,31,32,33,34,35,38,39,40,43,46,49,50,51,54,56,59,60,61,64,66,69,70,71,72,75,78,81,84,85,86,87,89,92,93,94,95,98,99,100,101,104,105,106,107,108,111,114,117,118,121,122,123,124,125,126,129,130,131,132,133,136,137,138,141,143,146,147,148,149,152,155,158,161,162,165,166,167,168,169,170,173,174,175,176,177,180,181,182,185,187,190,191,192,193,196,199,202,205,208,211]
set_option maxRecDepth 20000 in
def zp_107 : List Nat := [0,1,2,5,6,9,11,12,15,18,20,21,22,24,26,28,31,33,34,37,38,41,43,45,48,49,52,54,56,59,60,63,65,67,70,72,75,77,79,80,83,84,87,89,91,93,95,96,97,98,99,100,101,102,103,104,107,108,109,112,115,118,119,122]
set_option maxRecDepth 20000 in
def zp_108 : List Nat := [0,1,4,5,8,11,12,15,16,19,20,23,24,27,28]
set_option maxRecDepth 20000 in
def zp_109 : List Nat := [0,1,4,7,8,9,10,13,14,15,18]
set_option maxRecDepth 20000 in
def zp_110 : List Nat := [0,1,4,6,9,10,11,14,15,16,19,22]
set_option maxRecDepth 20000 in
def zp_111 : List Nat := [0,1,4,5,8,9,10,13,14,17,20,23,26,27,28,31,32,33,36,39,40,43,44,47,48,49,50,53,54]
set_option maxRecDepth 20000 in
def zp_112 : List Nat := [0,1,2,3,4,5,7,10,11,13,14,17,18,19,22,25,28,29,31,32,33,36,37,38,41,42,45,46,48,49,51,53,54,56,57,60,62,65,66,69,71,73,74,75,76,79,80,82,83,84,87,88,91,92,94,97,100,102,105,106,107,110,113,116,117]
set_option maxRecDepth 20000 in
def zp_113 : List Nat := [0,1,4,5,6,7,8,10,11]
set_option maxRecDepth 20000 in
def zp_114 : List Nat := [0,1,2,5,6,7,10,11,13,16,17,19,22,23,25,28,29,32,33]
set_option maxRecDepth 20000 in
def zp_115 : List Nat := [0,1,4,7,8,9,12,13,16,17,18,19,20,21,24,25,26,27,30,33,34,35,38,39,40,41,42,45,46,48,51,52,53,54,57,58,59,61,64,65,66,67,70,71,72,74,77,78,79,80,81,83,86,87,90,91,93,96,97,100,101,104,105,106,108,110,111,114,115,116,118,121,123,124,127,128,130,131,132,135,136,137,138,141,142,144,145,146,147,150,153,154]
set_option maxRecDepth 20000 in
def zp_116 : List Nat := [0,1,3,4,6,8,9,12,13,14,16,19,21,22,25,26,28,29,30,31,34,36,38,39,40,41,42,45,46,47,49,50,52,53,54,56,57,60,62,64,65,66,67,68,69,70,73,76,77]
set_option maxRecDepth 20000 in
def zp_117 : List Nat := [0,1,2,5,6,7,8,9,10,13,14,15,16,17,20,22,23,24,25,28,30,31,34,35,36,37,38,41,42,45,46,48,49,50,51,54,57,60,63,64,67,68,70,71,72,73,76,79,82,85,86,87,88,91,92,93,94,96,97,98,101,103,104,105,107,108,109,112,114,115,116,118,119,120]
set_option maxRecDepth 20000 in
def zp_118 : List Nat := [0,1,2,5,6,9,10,11,13,16,17,18,19,20,21,24,25,26,27,28,31,33,34,37,38,39,40,41,42,45,46,49,50,52,53,54,55,58,59,62,63,65,68,71,72,73,74,77,79,80,81,84,85,86,87,88,89,90,91,94,96,97,98,101,102,103,104,105,106,107,109,110,111,114,115,116,117,118,119,120,121]
set_option maxRecDepth 20000 in
def zp_119 : List Nat := [0,1,4,5,6,9,12,13,14,15,18,19,20,21,24,25,26,27,30,31,34,35,36,39,42,43,44,45,46,47,50,51,52,55,58,59,60,61,64,65,68,69,72,74,77,78,79,80,83,86,87,88,91,92,93,96,97,100]
set_option maxRecDepth 20000 in
def zp_120 : List Nat := [0,1,2,3,4,7,8,11,14,16,17,18,19,22,23,24,27,28,29,32,33,34,37,38,39,42,43]
set_option maxRecDepth 20000 in
def zp_121 : List Nat := [0,1,2,3,4,5,7,10,11,12,13,14,15,16,19,20,23,24,25,26,29,32,33]
set_option maxRecDepth 20000 in
def zp_122 : List Nat := [0,1,2,5,6,7,10,13,15,16,17,20,23,24,25,28,29,32,33,36,39,40,43,44,47,50,51,54,57,58,61,64,66,67,70,71,72,73,76,77,80,81,82,85,86,87,90,91,92,95,96,98,101,102,103,106,109]
set_option maxRecDepth 20000 in
def zp_123 : List Nat := [0,1,2,5,6,7,10,13,15,16,17,19,22,24,25,26,27,28,29,30,33,34,37,38,39,40,43,46,49,52,53,54,57,60,63,64,67,68,71,72,73,76,78,79,80,83,84,85,86,87,90,91,94,96,97,98,99,102,103,104,106,107,108,111,114,115,118,119,120,121,122]
set_option maxRecDepth 20000 in
def zp_124 : List Nat := [0,1,2,5,6,9,10,13,16,17,18,21,22,25,28,29]
set_option maxRecDepth 20000 in
def zp_125 : List Nat := [0,1,2,5,6,9,12,14,15,16,17,18,19,22,23,26,29,31,32,33,36,38,41,43,44,45,48,49,52,53,54,55,58,59,62,64,65,66,67,70,72,73,74,75,76,77,78,81,84,85,88,90,91,92,93,94,95,98,99,100,101,102,103,104,105,108]
set_option maxRecDepth 20000 in
def zp_126 : List Nat := [0,1,2,3,4,5,6,9,12,13,16,18,19,20,21,24,26,27,28,29,30,31,32,35,38,39,42,43,44,45,46,47,48]
set_option maxRecDepth 20000 in
def zp_127 : List Nat := [0,1,2,5,6,7,8,9,12,13,16,19,21,22,23,26,27,28,29,30,33,34,35,36,37,38,39,42,43]
set_option maxRecDepth 20000 in
def zp_128 : List Nat := [0,1,4,5,6,7,8,11,14,15,18,19,20,21,24,25,26,29,32,33]
set_option maxRecDepth 20000 in
def zp_129 : List Nat := [0,1,2,5,6,7,10,11,12,13,16,18,19,20,23,24,25,26,29,30,31,34,35,38,39,40]
set_option maxRecDepth 20000 in
def zp_130 : List Nat := [0,1,2,5,6,9,10,13,14,15,18,19,20,21,22]
set_option maxRecDepth 20000 in
def zp_131 : List Nat := [0,1,2,5,6,9,10,13,15,18,20,21,22,25,26,29,30,31,34,36,37,40,43,44,47,48,49,52,53,54,57]
set_option maxRecDepth 20000 in
def zp_132 : List Nat := [0,1,2,5,6,9,12,14,15,16,56,57,58,61,62,63,64,65,68,71,72,75,76,77,78,79,80,83,86,87,90,91,92,93,94,95,98,101,102,105,106,107,108,111,113,114,115,116,117,118,121,123,124,125,126,127,129]
set_option maxRecDepth 20000 in
def zp_133 : List Nat := [0,1,2,5,6,9,12,13,16,19,21,22,23,26,27,28,31,34,35,38,39]
set_option maxRecDepth 20000 in
def zp_134 : List Nat := [0,1,2,5,6,9,11,12,13,14,17,20,21,22,25,28,29]
set_option maxRecDepth 20000 in
def zp_135 : List Nat := [0,1,2,5,6,9,10,13]
set_option maxRecDepth 20000 in
def zp_136 : List Nat := [0,1,4,5,6,7,8,11,12,13,14,17]
set_option maxRecDepth 20000 in
def zp_137 : List Nat := [0,1,2,5,6,7,10,13,15,16,17,76,77,80,81,82,83,84,87,88,89,90,91,94,95,96,97,98,101,102,103,104,105,108,109,110,111,112,115,116,117,118,119,122,123,124,125,126,129,130,131,132,133,136,137,138,139,140,143,144,145,146,147,148,151,152,153,154,155,156,157,160,161,163]
set_option maxRecDepth 20000 in
def zp_138 : List Nat := [0,1,2,3,6,7,8,9,10,11,14,17,20,21]
set_option maxRecDepth 20000 in
def zp_139 : List Nat := [0,1,2,5,6,9,11,12,13,16,17,18,21,24,25,26,29,32,33]
set_option maxRecDepth 20000 in
def zp_140 : List Nat := [0,1,2,5,6,7,10,12,13,14,17,18,19,20,21,22,23,26,29,30,33,34,35,36,39,42,43,44,47,48,49,52,55,58,59,60,63,64,67,68]
set_option maxRecDepth 20000 in
def zp_141 : List Nat := [0,1,2,5,6,7,10,11,12,15,16,19,20,21,22,23,26,27,28,29,30,33,35,36,37,40,41,42,43,46,49,50,51,54,55,58,59,61,64,66,69,70,71,72,73,76,77,78,81,82,83,84,85,87,90,91,94,95,98,99,102,105,107,110,112,113,114,115,118,119,122,123,124,125,126,128,131,132,135,136,139,141,142,143,146,149,150,151,154,155,156,159,160,162,165,166,169,170,173,174,175,176,177,180,181,184,185,188,190]
set_option maxRecDepth 20000 in
def zp_142 : List Nat := [0,1,2,3,5,6,8,10,11,14,17,19,20,23,24,25,26,29,30,32,33,36,39,40,43,44,45,47,49,50,53,56,59,60,61,62,64,67,70,71,73,74,77,80,81,84,85,86,88,91,94,96]
set_option maxRecDepth 20000 in
def zp_143 : List Nat := [0,1,2,5,6,7,8,9,12,13,16,19,21,22,23,24,25,28,29,30,31,32,34,36,38,41,42,43,44,45,47,50,53,54,57,58,60,61,64,65,66,67,70,73,74]
set_option maxRecDepth 20000 in
def zp_144 : List Nat := [0,1,2,3,4,7,10,11,12,15,18,21,24,25,28,30,31,32,33,34,35,36,37]
set_option maxRecDepth 20000 in
def zp_145 : List Nat := [0,1,2,3,5,8,9,12,14,15,18,19,20,21,22,23,26,29,30,33,34,35,36,37,40,41,42,43,45,48,49,50,53,55,56,57,58,59,60,61,62,63,64,65,66,67,70,72,73,76,78,79,80,81,82,83,85,88,89,92,94,95,98,101,104,107,108,109,112,113,114,115,116,117,118,121,124,125,126,129,131,132,133,134,135,136,137,138,139,140,143,145,146,147,148,149,150,153,154,157,158,161,162,163,164,165,168,169,170,173,176,177,178,179,180,183,186,187,190,193]
set_option maxRecDepth 20000 in
def zp_146 : List Nat := [0,1,2,5,6,7,10,12,13,14,17,18,19,22,23,26,29,30,31,34,37,38,41,42,43,46,47]
set_option maxRecDepth 20000 in
def zp_147 : List Nat := [0,1,2,5,6,9,10,13,14,17,18,19,20,21,24,25,26,29,30,31,32,35,38,41,42,45]
set_option maxRecDepth 20000 in
def zp_148 : List Nat := [0,1,2,5,6,9,10,13]
set_option maxRecDepth 20000 in
def zp_149 : List Nat := [0,1,2,5,6,9,10,11,12,13,16,17,18,19,22,25,27,28,29,72,73,76,77,78,79,80,83,84,85,86,87,90,91,92,93,94,97,98,99,100,101,104,105,106,107,108,111,112,113,114,115,118,119,120,121,123]
set_option maxRecDepth 20000 in
def zp_150 : List Nat := [0,1,2,5,6,9,11,12,13,16,17,18,21,24,25,28,29,30,33,34]
set_option maxRecDepth 20000 in
def zp_151 : List Nat := [0,1,2,5,6,7,10,12,13,14,17,18,19,22,23,26,29,30,31,34,37,38,41,42,43,46,47]
set_option maxRecDepth 20000 in
def zp_152 : List Nat := [0,1,2,5,6,9,10,13,14,17,20,21,24,25,26,27,28,29,30,33,36,37,40,41,44,45,46,47,48,51,54,55,58,59,60,63,66,67,70,71,74,75]
set_option maxRecDepth 20000 in
def zp_153 : List Nat := [0,1,2,5,6,9,10,13,14,15]
set_option maxRecDepth 20000 in
def zp_154 : List Nat := [0,1,2,5,6,9,11,12,13,16,17,18,21,24,25,28,29,30,33,34]
set_option maxRecDepth 20000 in
def zp_155 : List Nat := [0,1,2,5,6,7,10,11,12,15,17,18,19,20,21,22,25,26,29,32,34,35,36,39,40,41,44,45,46,47,48,51,54,55,58,59,60,61,64,65,68,69,70,71,74,77,80,81,84,85,86,89,90,93,94,95,96,99,100,103,104,105,106,109,112,113]
set_option maxRecDepth 20000 in
def zp_156 : List Nat := [0,1,2,3,4,7,10,11,14,15,16,17,20,21,22,25,28,29]
set_option maxRecDepth 20000 in
def zp_157 : List Nat := [0,1,2,3,4,5,6,9,10,11,12,15,16,17,20,23,24]
set_option maxRecDepth 20000 in
def zp_158 : List Nat := [0,1,2,5,6,9,10,11,14,15,16,17,20,22,25,26,27,30]
set_option maxRecDepth 20000 in
def zp_159 : List Nat := [0,1,2,5,6,7,8,11,12,13,14]
set_option maxRecDepth 20000 in
def zp_160 : List Nat := [0,1,2,5,6,7,8,11,14,17,19,20,21,24,25,26,27,28,29,30,33,36,37,38,41,42,45,46,47,50,51,54,57,58,59,62,65,66,69,70,71]
set_option maxRecDepth 20000 in
def zp_161 : List Nat := [0,1,2,3,4,7,10,11,12,15,16,19,20,21,24,27,28]
set_option maxRecDepth 20000 in
def zp_162 : List Nat := [0,1,4,5,6,9,10,11,14,17,18,19,20,21,22,23,26,29,30,31,32,33,36,39,40,41,42,45,46,47,50,51,52,53,56,57,58,61,64,65,68,69,72,73,74,75,76,79,80,81,84,87,88]
set_option maxRecDepth 20000 in
def zp_163 : List Nat := [0,1,2,5,6,7,8,11,14,17,19,20,21,22,25,28,29,32,35,36]
set_option maxRecDepth 20000 in
def zp_164 : List Nat := [0,1,2,5,6,7,8,11,14,17,18,21,23,24,25,26,29,32,33,34,37,40,41,44,45,48,49,50,51,54,55]
set_option maxRecDepth 20000 in
def zp_165 : List Nat := [0,1,4,5,6,9,12,13,14,15,18,19,22,23,24,25,28,29,30,31,32,35,36,39,40,43,44,45,46,47,48,49,51,53,54,57,60,61,62,64,65,66,69,70,71,72,73,76,79,81,82,85,88,89,92,93,94,95,96,97,98,99,100,103,105,106,107,109,111,112,115,116,117,120,123,124,127,128,130,131,132,135,136,138,139,142,145,148,151,152,153,156,157,158,159,160,163,166,167,170,171,174,175,178,179,180,181,182,183,186,187,188,191,192,195,196,197,198,201,202]
set_option maxRecDepth 20000 in
def zp_166 : List Nat := [0,1,2,5,6,7,8,11,14,17,19,20,21,22,25,28,29,32,33,34,37,38]
set_option maxRecDepth 20000 in
def zp_167 : List Nat := [0,1,2,5,6,7,8,11,14,17,18,21,23,24,25,26,29,32,33,34,37,40,41,44,45,48,49,50,51,54,55]
set_option maxRecDepth 20000 in
def zp_168 : List Nat := [0,1,2,5,6,7,8,11,14,17,19,20,21,22,23,26,29,30,31,34,37,38,41,44,45,48,49,52,53,54,57,60,61]
set_option maxRecDepth 20000 in
def zp_169 : List Nat := [0,1,2,5,6,7,8,9,12,13,16,19,21,22,23,24,25,26,29,30,33,36,38,39,40,41,44,45,48,49,50,51,52,53,54,57,60,61,64,65,66,69,70,73,74,75,76,77,80,81,84,85,88,89,91,92,94,96,97,100,102,105,106,109,111,112,114,115,116,118,119,122,123,126,127,130,131,133,136,139,141,144,145,146,149,152,153]
set_option maxRecDepth 20000 in
def zp_170 : List Nat := [0,1,4,5,6,7,10,12,15,16,19,20,21,22,23,26,27,28,29,32,34,37,38,41,42,43,45,46,48,51,52,54,57,58,61,62,63,64,67,68,69,70,73,74,75,78,79,82,83,84,85,88,89,90,93,94,97,98,99,100,103,104,105,106,109,110,111,114,115,118,119,122,123,124,125,128,129,130,133,134,137,138]
set_option maxRecDepth 20000 in
def zp_171 : List Nat := [0,1,4,5,6,7,8,11,12,13,14,17,20,23,24]
set_option maxRecDepth 20000 in
def zp_172 : List Nat := [0,1,2,3,6,7,8,11,14,15,16,19,20,21,23,24,27,28,29,31,32,35,37,38,41,42,43,44,45,48,50,51,54,55,56,57,58,61,62,64,66,69,70,73,76,79,80,83,84,85,87,88,91,92,93,94,95,98,99,102,103,105,107,108,111,112,113,114,115,118,119,122,123,125,127,129,132,133,136,138,141,142,145,146]
set_option maxRecDepth 20000 in
def zp_173 : List Nat := [0,1,2,5,6,7,10,13,14,15,18,21,22,23,24,27,30,32]
set_option maxRecDepth 20000 in
def zp_174 : List Nat := [0,1,2,5,6,7,10,13,14,15,18,21,23,24,25,26,27,30,33,34,37,38]
set_option maxRecDepth 20000 in
def zp_175 : List Nat := [0,1,2,5,6,9,10,11,12,13,14,15,18,21,22,23,24,26,28,29,32,33,36,37,38,40,43,46,47,50,51,52,55,58,59,60,63,64,67,68,69,70,73,76,77]
set_option maxRecDepth 20000 in
def zp_176 : List Nat := [0,1,2,5,6,9,11,12,13,16,17,18,19,20,23,26,27,28,29,31,33,34,37,40,41,42,44,45,48,49,52,54,55,58,59,61,62,65,68,69,72,73,74,75,78,81,82,83,86,87,88,91,94,95]
set_option maxRecDepth 20000 in
def zp_177 : List Nat := [0,1,2,5,6,7,8,11,14,17,18,19,22,25,27,28,29,30,33,34,35,38,39,42,45,46,49,50,51,54,55,58,61,62,65]
set_option maxRecDepth 20000 in
def zp_178 : List Nat := [0,1,2,5,6,7,8,9,12,15,17,18,19,22,23,24,27,30,31,32,33,34,37,40,41,44,45,46,47,48]
set_option maxRecDepth 20000 in
def zp_179 : List Nat := [0,1,2,5,6,7,8,9,12,15,17,18,19,22,23,24,27,29,30,31,34,37,38,39,40,41,42,45,46,49,52,53,54,57,58]
set_option maxRecDepth 20000 in
def zp_180 : List Nat := [0,1,2,3,4,5,6,9,12,13,14,17,18,19,20,23,24,27,28,29,30,33,36,37]
set_option maxRecDepth 20000 in
def zp_181 : List Nat := [0,1,2,5,6,9,10,56,57,60,61,62,63,66,69,70,71,74,75,76,77,78,81,82,83,86,87,88,89,92,95,96,97,99,102,103,104,106,109,110,111]
set_option maxRecDepth 20000 in
def zp_182 : List Nat := [0,1,4,5,6,9,10,11,14,15,16,19,20,21,24,25,26,29,30,31,34,35,36,39,40,41,44,45,46,49,50,51,54,55,57,59,62,63,65,67,70,71,73,75,78,79,81,83,86,87,89,91,94]
set_option maxRecDepth 20000 in
def zp_183 : List Nat := [0,1,2,3,4,7,10,11,12,13,14,17,20,21,22,23,26,29,30,31,34,35,36,39,40,41,44,45,46,49,50,51,54,57,58,59,62,63,66,69,70,71,74,75,76,77,80,83,84,87,88,91,92,93,94,97,100,101,102,105,108,109,112,113,116,117,118,121,122,125,126,129,130,131,134,135,138,141,142,145,146,149,152,153,154,157,160,161,164,165,166,169,172,173,174,177,178,179,182,183,184,187,188,191,194,195,196,199,202,203,206,207,210,211,214]
set_option maxRecDepth 20000 in
def zp_184 : List Nat := [0,1,4,5,6,7,10,13,14,17,19,22,23,24,27,28,31,32,33,34,37,38,41,42,45,46,47,48,51,52,55,56,57,58,59,62,65,66,67,68,69,72,73,76,77,78,79,82,83,84,85,88,89,92,93,94,95,98,99,102,103,104,105,108,109,112,113,114,115,116,119,120,123,124,125,128,129,130,131,134,135,136,137,140,141,142,145,146,147,150,153,156]
set_option maxRecDepth 20000 in
def zp_185 : List Nat := [0,1,4,7,8,9,12,13,16,17,18,19,22,23,24,25,26,27,30,33,36,37,40,41,44,45,46,47,48,49,50]
set_option maxRecDepth 20000 in
def zp_186 : List Nat := [0,1,4,5,8,9,10,13,14,15,18,19,22,25,28,29,32,33,34,35,38,39,42,43,44,45,48,49,52,53]
set_option maxRecDepth 20000 in
def zp_187 : List Nat := [0,1,4,5,6,7,8,9,12,15,16,19,22,23,24,27,28,29,32,35,38,39,42,43,44,45,46,47,50,51,52,55,58,59,62]
set_option maxRecDepth 20000 in
def zp_188 : List Nat := [0,1,4,5,6,7,10,13,14,15,18,21,22,25,26,27,28,29,32,33,36,37,38,39,42,43,46,47,48,49,52,53,56,57,58,59,62,63,66,67,69,71,74,75,78,79,80,83,84,85,88,89,90,93,94,95,96,97,100,103,106,107,110,111,112,113,114,115,118,119,120,123,126,129]
set_option maxRecDepth 20000 in
def zp_189 : List Nat := [0,1,4,5,8,9,10,11,14,17,18,21,22,25,28,29,32,33,36,37,40,41,44]
set_option maxRecDepth 20000 in
def zp_190 : List Nat := [0,1,4,5,6,9,10,11,14,15,17,19,22,23,25,27,30,31,33,35,39,42]
set_option maxRecDepth 20000 in
def zp_191 : List Nat := [0,1,2,5,6,7,10,13,14,15,16,17,18,19,22,25,26,28,31,32,35,36,37,40,41,42,45,48,49,50,53,56,57,58,61,62,63,66,67,70,71,74,75,76,77,80,81,82,83,86,87,88,89,92,93,94,95,98,99,100,101,104,105,108,109,110,113,114,115,116,119,120,121,124,125,128,129,130,131,134,135,136,137,138,139,140,141,142,145,146,147,150,151,152,153,154,155,158,159,160,163,164,167,170]
set_option maxRecDepth 20000 in
def zp_192 : List Nat := [0,1,2,5,8,9,10,13,14,15,16,17,20,23,24,27,28,29,30,33,34,35,36,37,40,41,42,45,46,47,48,49,52,53,54,57,59,60,61,62,65,66,67,70,72,73,74,75,78,81,82,85,86,89,90,91,92,95,96,97,98,101,103,104,105,106,109,110]
set_option maxRecDepth 20000 in
def zp_193 : List Nat := [0,1,4,5,6,9,12,13,16,17]
set_option maxRecDepth 20000 in
def zp_194 : List Nat := [0,1,2,5,8,9,12,13,15,18,19,22,23,24,25,26,29,30]
set_option maxRecDepth 20000 in
def zp_195 : List Nat := [0,1,2,5,8,9,12,13,14,15,16,17,20,21,22,23,24,25,28,29]
set_option maxRecDepth 20000 in
def zp_196 : List Nat := [0,1,4,5,6,9,12,13,16,17,18,21,22]
set_option maxRecDepth 20000 in
def zp_197 : List Nat := [0,1,4,5,6,9,12,13,16,17,18,21,22]
set_option maxRecDepth 20000 in
def zp_198 : List Nat := [0,1,2,3,4,5,6,9,12,13,16,17,18,19,20,21,24,25,26,29,30,31,34,37,40,41]
set_option maxRecDepth 20000 in
def zp_199 : List Nat := [0,1,2,3,5,6,8,10,11,14,17,19,20,23,24,26,27,30,33,34,37,38,39,40,42,43,46,48,50,51,54,57,58,60,61,63,66,69,72,73,76,77,78,79,81,82,84,87,90,92,95,98,99]
set_option maxRecDepth 20000 in
def zp_200 : List Nat := [0,1,4,5,6,9,12,13,14,15,16,19,22,23,26,29,30,33,34,35,36,37]
set_option maxRecDepth 20000 in
def zp_201 : List Nat := [0,1,2,3,4,7,10,11,12,15,16,19,20,21,24,27,28]
set_option maxRecDepth 20000 in
def zp_202 : List Nat := [0,1,2,3,4,7,10,11,12,15,16,19,20,21,24,25,28,31,32]
set_option maxRecDepth 20000 in
def zp_203 : List Nat := [0,1,4,5,6,9,10,11,14,15,18,19,20,23,24,27,30,31]
set_option maxRecDepth 20000 in
def zp_204 : List Nat := [0,1,4,5,6,9,10,12,15,19,22,23,25,27,30,31,33,35,38,39,41,43,46,47,48,51,52,53,56,57,58,61,62,63,66]
set_option maxRecDepth 20000 in
def zp_205 : List Nat := [0,1,2,5]
set_option maxRecDepth 20000 in
def zp_206 : List Nat := [0,1,4,5,8,11,12,13,14,17,18,19,20,23,24,27,28,31,32,35,36,38,39,42,43,46,47,49,50,53,54,57,58,60,62,65,66,68,70,73,74,76,78,81,82,85,86,87,88,89,92,93,94,95,98]
set_option maxRecDepth 20000 in
def zp_207 : List Nat := [0,1,4,5,6,7,8,11,12,13,14,15,18,19,20,21,22,23,26,27,28,29,30,33,34,37,39,40,41,42,45,46,47,48,49,50,53,54,55,56,57,60,61,62,65,66,67,68,69,70,71,74,76,77,78,79,80,81,84,87]
set_option maxRecDepth 20000 in
def zp_208 : List Nat := [0,1,4,7,10,11,12,13,16,17,18,19,22,23,24,25,28,29,30,31,34,35,36,37,40,41,42,43,46,47,48,49,52,53,54,55,58,60,61,62,65,66,67,68,71,72,75,76,77,80,81,82,83,86,88,89,90,91,94,95,96,99,100,103,104,105]
set_option maxRecDepth 20000 in
def zp_209 : List Nat := [0,1,2,5,6,7,8,9,10,13,14,17,18,19,20,23,25,26,27,29,32,34]
set_option maxRecDepth 20000 in
def zp_210 : List Nat := [0,1,4,5,7,10,11,14,15,16,17]
set_option maxRecDepth 20000 in
def zp_211 : List Nat := [0,1,4,7,8,9,10,13,16,19,20,23,24,27,28,31,32,34,35,36,39,40,43,44,47,48,51,53,56,57,58,59,60,61,64,65,66,67,68,69,72,75,78]
set_option maxRecDepth 20000 in
def zp_212 : List Nat := [0,1,4,7,8,11,12,15,16,19,21,22,25,28,30,33,34,37,38,39,41,43,44,45,47,50,52,53,56,57,58,60,63]
set_option maxRecDepth 20000 in
def zp_213 : List Nat := [0,1,4,7,8,9,10,13,16,19,20,23,24,27,28,31,32,34,35,36,39,40,43,46]
set_option maxRecDepth 20000 in
def zp_214 : List Nat := [0,1,4,7,8,9,10,13,16,19,20,21,24,27,30,31,34,37,38,39,40,41,44,45,48,49,50,51,54,57,58,59,62,63,64,65,68,69,70,71,74,75,76,79,82,85,88,89,90,93,95,96,97,98,100,101,104,106,107,109,110,113,116,117,118,119,122,123,125,128,129,130,133,136,137,138,140,143,146,147,149,150,153,156,157,158,159,162,163,164,166,167,170,173,174,175,176,179,180,183,186]
set_option maxRecDepth 20000 in
def zp_215 : List Nat := [0,1,4,7,8,9,10,13,14,17,18,21,24,25,26,29,31,34,35,38,39,40,41,44,45,48,51,54,55,58,59,62,65,66,67,70,73,74,77,78,81,82]
set_option maxRecDepth 20000 in
def zp_216 : List Nat := [0,1,2,5,6,7,10,11,14,15,16,19,22,23,24,26,29,30,31,34,35,38,39,41,42,45,46,49,52,53,54,57,59,60,63,64,67,70,71,72,75,77,78,80,82,84,85,88,91,92,93,95,98,100,101,102,105,108,109,110,112,115,116,117,120,123,124,125,127,130,131,132,135,138,139,140,142,145,147]
set_option maxRecDepth 20000 in
def zp_217 : List Nat := [0,1,4,7,10,11,14,17,18,21,24,27,28,31,34,35,38,41,42,43,44,47,48,51,52,53,54,55,58,59,62,65,66,67,70,71,74,77,78,81,84,85,86,89,90,91,93,94,97,100,101,104,107,108,109,112,113,114,115,118,121,122,125,126,128,129,130,131,132,135,136,139,140,143,146,147,150,151,153,154,157,160,161,164,165,168,169,170,173,174,177,180,183,186,189,191,194,196,197,200,203,204,207,208,209,211,212,215,218,219,222,223]
set_option maxRecDepth 20000 in
def zp_218 : List Nat := [0,1,4,7,8,9,10,11,12,15,18,21,22,23,26,29,30,31,32,33,34,35,36,39,42,43,44,45,48,51,52,54,55,58,61,62,63,64,67,68,71,74]
set_option maxRecDepth 20000 in
def zp_219 : List Nat := [0,1,4,7,10,11,12,14,15,18,21,22,25,26,27,30,33,34,35,36,37,38,41,44,47,48,51,52,55,58,61,62,64,65,66,69,70]
set_option maxRecDepth 20000 in
def zp_220 : List Nat := [0,1,4,7,8,11,12,13,16,19,20,21,22,23,24,27,30,31,32,34,37,40]
set_option maxRecDepth 20000 in
def zp_221 : List Nat := [0,1,4,5,6,9,12,15,16,19,20,21,24,25]
set_option maxRecDepth 20000 in
def zp_222 : List Nat := [0,1,4,5,8,11,12,15,16,17,18,19,20,23,24,25,26,29,30]
set_option maxRecDepth 20000 in
def zp_223 : List Nat := [0,1,4,5,8,11,12,15,16,17,18,19,20,23,24,25,26,29,30]
set_option maxRecDepth 20000 in
def zp_224 : List Nat := [0,1,2,3,4,5,6,9,12,13,14,17,18,19,20,21,22,25,26,29,30,31,32,35,38,39]
set_option maxRecDepth 20000 in
def zp_225 : List Nat := [0,1,4,5,8,11,12,15,16,19,22,23,24,25,26,27,30,31,32,35,38,39,40,41,44,45,46,49,52,54,55,57,59,61,64,65,68,69,70,73,74,75,77,78,79,82,83,84,86,87,90,91,94,97,98,101,102,103,106,107,108,111,112,115,116]
set_option maxRecDepth 20000 in
def zp_226 : List Nat := [0,1,2,5,6,7,10,11,12,13,16,17,20,21,22,23,24,25,28,29,30,31,32,33,34,35,38,39,42,43,44,45,46,47,50,51,52,53,54,55,58,59]
set_option maxRecDepth 20000 in
def zp_227 : List Nat := [0,1,4,5,6,7,8,10,13,15,18,19,22,23,24,25,26]
set_option maxRecDepth 20000 in
def zp_228 : List Nat := [0,1,4,5,6,7,8,9,12,13,14,15,16,19,20,23,24,25,26,27,28,31,32,33,36,39,40,43,44,45]
set_option maxRecDepth 20000 in
def zp_229 : List Nat := [0,1,4,5,6,9,10,12,15,18,19,20,21,23,26,27,30,31,34,35,38,39,42,45]
set_option maxRecDepth 20000 in
def zp_230 : List Nat := [0,1,4,6,9,10,13,14,17,18,21,22,23,24,27,28,29,32,33,34,37,38,39,42]
set_option maxRecDepth 20000 in
def zp_231 : List Nat := [0,1,4,5,6,7,8,9,10,12,15,16,19,20,21,22,23,26,27,28,29,32,35,36,39,41,42,43,44,46,49]
set_option maxRecDepth 20000 in
def zp_232 : List Nat := [0,1,2,5,6,7,10,13,14,15,18,19,22,23,24,25,26,27,30,31,32,35,36,37,40,41,42,45]
set_option maxRecDepth 20000 in
def zp_233 : List Nat := [0,1,2,5]
set_option maxRecDepth 20000 in
def zp_234 : List Nat := [0,1,4,5,6,9,10,12,14,17,18,20,22,26,29]
set_option maxRecDepth 20000 in
def zp_235 : List Nat := [0,1,2,5,6,7,10,11,12,15,16,17,18,19,21,24,25,28,29,30,31,32,33,36,39,40,41,42,43,44,47,48,50,52,54,57,58,59,62,63,64,65,66,68,69,70,72,73,76,77,78,80,82,83,84,85,88,89,91,94,97,98,101,104,107,110,111,112,113,115,117,118,121,122,123,126,128,129,130,131,132,133,134,135,138,140,141,142,143,146,147,150,151,154,156,157,158,159,162,163,164,167,170,171,172,174,177,180,181,184,187]
set_option maxRecDepth 20000 in
def zp_236 : List Nat := [0,1,2,5,8,10,13,14,17,18,19,20,21,22,23,26,27]
set_option maxRecDepth 20000 in
def zp_237 : List Nat := [0,1,4,5,6,9,12,13,14,16,19,20,21,22,23,26,27,30,31,34,35,38,39,42,45]
set_option maxRecDepth 20000 in
def zp_238 : List Nat := [0,1,4,5,6,9,10,13,14,15,18,19,22,23]
set_option maxRecDepth 20000 in
def zp_239 : List Nat := [0,1,4,5,6,9,10,13,14,15,18,19,22,23,24,25,28,29,32,33,34,35]
set_option maxRecDepth 20000 in
def zp_240 : List Nat := [0,1,2,5,8,9,12,13,14,17,18,19,22,23,24,27]
set_option maxRecDepth 20000 in
def zp_241 : List Nat := [0,1,4,5,6,9,10,12,14,17,18,19,22,23,24,27]
set_option maxRecDepth 20000 in
def zp_242 : List Nat := [0,1,2,5]
set_option maxRecDepth 20000 in
def zp_243 : List Nat := [0,1,4,5,6,9,10,11,14,15,18,19,20,22,24,25,28,29,32,34,37,40,43,44,47,49,52,55,58,59,60,63,65,68,71,74,77,78,80,82,84,87,88,90,91,92,95,98,101,102,104,105,106,109,110,112,113,114,117]
set_option maxRecDepth 20000 in
def zp_244 : List Nat := [0,1,3,5,6,9,10,13,15,18,19,22,23,24,27,29,32,35,38,39,42,44,47,49,52,53,54,57,60,61,64,66,69,70,73,74,77,78,79,82,85,86,89,91,94,95,98,99,102,105,108]
set_option maxRecDepth 20000 in
def zp_245 : List Nat := [0,1,4,7,8,11,12,15,16,17,20]
set_option maxRecDepth 20000 in
def zp_246 : List Nat := [0,1,3,5,6,9,10,13,15,18,19,22,23,24,27,29,32,35,38,41]
set_option maxRecDepth 20000 in
def zp_247 : List Nat := [0,1,4,6,9,10,13,14,17,18,19,20,21,24,25,26,29]
set_option maxRecDepth 20000 in
def zp_248 : List Nat := [0,1,4,5,8,9,12,15,16,17,20,21,22,25,26,29,31,34,35,36,39,40,41,44,45,46,49]
set_option maxRecDepth 20000 in
def zp_249 : List Nat := [0,1,4,7,8,9,12,13,14,17,18,19,22,23,24,25,26,29,30,33,36,37,38,39,42,43,46,47,48,49,50,51,52,53,56,57,58,61,64,67,68,69,72,73,74,77,78,81,82,83,84,87,90,91,94,95,98,101,102,105,108,109,112,113,116,119,122]
set_option maxRecDepth 20000 in
def zp_250 : List Nat := [0,1,4,5,6,9,10,11,14,15,16,17,20,23,24,25,26,27,30,31,32,33,36,37,38,39,42,43,44,47,48,51,53,54,57,59,61,64,65,66,67,70,73,74,75,76,78,80,83,86,87,88,90,93,94,95,98,99,100,103,106,108,111,112,113,114,117,120,121,122,123,126,127,128,131]
set_option maxRecDepth 20000 in
def zp_251 : List Nat := [0,1,2,5,6,7,10]
set_option maxRecDepth 20000 in
def zp_252 : List Nat := [0,1,4,5,6,9,12,13,16,17,18,21,22]
set_option maxRecDepth 20000 in
def zp_253 : List Nat := [0,1,4,5,6,7,10,13,14,17,18,19,21,24,25,26,29,30,31,34,37,40]
set_option maxRecDepth 20000 in
def zp_254 : List Nat := [0,1,4,5,6,7,8,9,12,15,16,19,20,21,23,24,27,30,31,32,35,36,37,40,43,46,47,50,51,52]
set_option maxRecDepth 20000 in
def zp_255 : List Nat := [0,1,2,3,5,8,9,10,13,14,15,18,21,22,23,26,29,30]
set_option maxRecDepth 20000 in
def zp_256 : List Nat := [0,1,4,5,8,9,10,11,13,15,16,19,20,21,23,24,27,28,30,33,36,37,38,41,44,45]
set_option maxRecDepth 20000 in
def zp_257 : List Nat := [0,1,4,7,8,9,12,13,16,17,20,21,24,25,26,27,28,31,32,33,34,35,38,39,88,89,90,93,94,95,96,97,98,101,102,103,104,107,108,109,110,113,115,116,117,118,119,120,123,125,126,129,132,133,136,137,138,139,140,143,144,145,148,151,152,155,156,157,158,159,160,161,164]
set_option maxRecDepth 20000 in
def zp_258 : List Nat := [0,1,3,5,6,9,10,11,13,14,17,19,20,22,24,27,30,31,34,37,39,40,43,44,45,46,49,52,54,55,56,59,62,63]
set_option maxRecDepth 20000 in
def zp_259 : List Nat := [0,1,2,5,7,8,9,10,13,14,17,18,21,22,23,24,27,28,31,32]
set_option maxRecDepth 20000 in
def zp_260 : List Nat := [0,1,3,4,6,8,9,12,13,14,16,17,20,22,23,25,26,29,31,34,35,38,40,42,45,46,49,50,51,53,54,56,57,58,60,63,66,67,69,72,73,76,77,80,82,83,86,89,90,93,94,97,99,100,103,104]
set_option maxRecDepth 20000 in
def zp_261 : List Nat := [0,1,4,5,8,9,12,13,16,17,20,21,24,25,26,27,30,31,32,35,38,39,42,45,47,50,51,52,53,56,59,60,61,62,63,64,65,66,67,68,71,72,75,76,77,80,81]
set_option maxRecDepth 20000 in
def zp_262 : List Nat := [0,1,2,5,7,8,9,10,11,12,13,16,18,19,20,21,22,23,24,27,29,30,32,33,36,39,40,43,46,47,48,51,52,53,54,57,58,61,64,67,68,71,73,76,79,82,83,84,85,88,91,92,94,95,96,99,102,103,104,105,106,109,112,113,115,116,117]
set_option maxRecDepth 20000 in
def zp_263 : List Nat := [0,1,4,5,7,9,12,13,15,17,20,21,23,25,28,29,31,33,36,37,38,41,42,43,46,47,48,51,52,53,56]
set_option maxRecDepth 20000 in
def zp_264 : List Nat := [0,1,2,3,5,8,9,12,13,14,15,16,19,20,21,22,25,28,29,30,33,34,35,38,39,40,43,44,45,48]
set_option maxRecDepth 20000 in
def zp_265 : List Nat := [0,1,4,5,6,9,10,12,15,16,19,20,21,24,25,27,30,31,34,35,36,39,40,42,45,46,49,50,51,54,55,57,60,61,62,65,68,69,70,73,76,77,78,81,84,85,86,89,92]
set_option maxRecDepth 20000 in
def zp_266 : List Nat := [0,1,4,5,7,10,11,14,15,16,19,20]
set_option maxRecDepth 20000 in
def zp_267 : List Nat := [0,1,2,5,7,10,11,12,13,16,17,20,21,22,25,26,29,30,31]
set_option maxRecDepth 20000 in
def zp_268 : List Nat := [0,1,4,7,8,11,14,15,18,19,20,21,24,25,28,29,32,33]
set_option maxRecDepth 20000 in
def zp_269 : List Nat := [0,1,2,3,4,5,7,10,11,12,15,16,17,20,21,24,25,26,27,30,33,34]
set_option maxRecDepth 20000 in
def zp_270 : List Nat := [0,1,4,5,8,9,12,15,16,18,20,23,24,25,28]
set_option maxRecDepth 20000 in
def zp_271 : List Nat := [0,1,4,5,8,11,12,15,16,17,20,21,23,26,27,28,31,34]
set_option maxRecDepth 20000 in
def zp_272 : List Nat := [0,1,4,5,6,9,12,13,16,17,18,21,22]
set_option maxRecDepth 20000 in
def zp_273 : List Nat := [0,1,2,5,6,8,10,11,14,16,18,21,23,24,25,28,29,32,34,35,37,38,39,40,41,42,43,46,47,48,51,54,57]
set_option maxRecDepth 20000 in
def zp_274 : List Nat := [0,1,4,6,9,10,13,14,15,18,21,22,23,26,27,28,29,32,33,36,37,38,41,42,43,44,45,46,49,52,53,56,57,58,59,60,61,64,65,66,69]
set_option maxRecDepth 20000 in
def zp_275 : List Nat := [0,1,4,5,8,9,10,11,12,15,18,19,20,21,22,23,24,25,28,31,32,35,36,37,40,41,42,43,44,45,48,51,52,53,56,57,58,61]
set_option maxRecDepth 20000 in
def zp_276 : List Nat := [0,1,4,5,6,9,10,12,14,17,18,20,22,25,26,28,30,33]
set_option maxRecDepth 20000 in
def zp_277 : List Nat := [0,1,4,5,7,10,11,12,13,16,17,18,19,21,23,24,27,28,30,31,32,33,34,36,37,38,39,42,43,44,47,50,51]
set_option maxRecDepth 20000 in
def zp_278 : List Nat := [0,1,2,5,6,7,8,9,12,15,16,17,18,20,21,23,25,26,29,30,32,33,34,35,36,38,39,40,41,44,45,47,50,52,54,57,60,61,64,65,66,69,70,73]
set_option maxRecDepth 20000 in
def zp_279 : List Nat := [0,1,2,5,6,7,8,9,12,15,16,17,18,21,22,23,24,25,26,27,29,31,34,35,36,37,38,40,43,46,49,50,52,53,55,57,58,61,63,64,67,68,71,73,74,76,77,79,82,85,88,89,92,93,94]
set_option maxRecDepth 20000 in
def zp_280 : List Nat := [0,1,4,6,7,8,10,11,12,14,16,17,20,21,23,24,25,27,28,29,30,33,34,35,37,38,39,41,42,43,44,46,48,49,52,53,56,58,60,61,62,65,67,68,69,71,72,75,77,78,79,82,84,85,88,90,91,94,95,98,100,102,103,104,107,109,111,112,115,118]
set_option maxRecDepth 20000 in
def zp_281 : List Nat := [0,1,4,6,9,10,13,14,17,18,19,20,21,24,25,26,29]
/-- a method: own class, name, descriptor, type of its answer, frames, locals, the places of its instructions -/
def zMt : List (Nat × String × String × Option FieldType × Nat × Nat × List Nat) := [(0, "<init>", "()V", none, 4, 101, zp_0),
 (0, "feed", "(IIIII)I", some .int, 2, 62, zp_1),
 (0, "script", "(I)I", some .int, 9, 245, zp_2),
 (0, "text", "(I)I", some .int, 7, 184, zp_3),
 (0, "fault", "(I)I", some .int, 1, 40, zp_4),
 (0, "insert", "(II)I", some .int, 7, 184, zp_5),
 (0, "backspace", "(I)I", some .int, 7, 184, zp_6),
 (0, "delete", "(I)I", some .int, 7, 184, zp_7),
 (0, "erase", "()I", some .int, 7, 184, zp_8),
 (0, "order", "()I", some .int, 7, 184, zp_9),
 (0, "letter", "(II)I", some .int, 3, 83, zp_10),
 (0, "joins", "(II)I", some .int, 3, 83, zp_11),
 (0, "at", "(I)I", some .int, 2, 61, zp_12),
 (0, "clusters", "()I", some .int, 1, 40, zp_13),
 (0, "cluster", "(II)I", some .int, 3, 83, zp_14),
 (0, "of", "(I)I", some .int, 2, 61, zp_15),
 (0, "broken", "(I)I", some .int, 5, 128, zp_16),
 (0, "mend", "(I)I", some .int, 6, 151, zp_17),
 (0, "may", "(I)I", some .int, 5, 128, zp_18),
 (0, "mended", "()I", some .int, 7, 184, zp_19),
 (0, "glyphs", "()I", some .int, 1, 40, zp_20),
 (0, "glyph", "(II)I", some .int, 1, 40, zp_21),
 (0, "shown", "(I)I", some .int, 1, 40, zp_22),
 (0, "back", "(I)I", some .int, 1, 40, zp_23),
 (0, "isOrdered", "()I", some .int, 1, 40, zp_24),
 (0, "stops", "()I", some .int, 1, 40, zp_25),
 (0, "stop", "(I)I", some .int, 2, 61, zp_26),
 (0, "next", "(II)I", some .int, 3, 83, zp_27),
 (0, "x", "(I)I", some .int, 3, 83, zp_28),
 (0, "hit", "(I)I", some .int, 2, 61, zp_29),
 (0, "lines", "(I)I", some .int, 3, 89, zp_30),
 (0, "lineEnd", "(II)I", some .int, 3, 89, zp_31),
 (0, "even", "(I)I", some .int, 3, 92, zp_32),
 (0, "evenEnd", "(II)I", some .int, 3, 92, zp_33),
 (0, "narrowest", "(I)I", some .int, 3, 89, zp_34),
 (0, "find", "(II)I", some .int, 3, 84, zp_35),
 (0, "alike", "(II)I", some .int, 4, 109, zp_36),
 (0, "kinds", "()I", some .int, 4, 109, zp_37),
 (0, "compare", "(II)I", some .int, 4, 109, zp_38),
 (0, "ranked", "(I)I", some .int, 5, 133, zp_39),
 (0, "undo", "(I)I", some .int, 7, 184, zp_40),
 (0, "image", "(I)I", some .int, 4, 104, zp_41),
 (0, "restore", "(I)I", some .int, 7, 184, zp_42),
 (0, "count", "(I)I", some .int, 2, 63, zp_43),
 (0, "putBytes", "(I)V", none, 1, 40, zp_44),
 (0, "emptyTape", "(II)V", none, 1, 40, zp_45),
 (0, "firstNoLetter", "(I)I", some .int, 2, 60, zp_46),
 (0, "standsAt", "(II)Z", some .boolean, 2, 61, zp_47),
 (0, "clustersAheadOf", "(I)I", some .int, 4, 109, zp_48),
 (0, "settle", "()V", none, 6, 163, zp_49),
 (0, "isLetter", "(I)Z", some .boolean, 1, 40, zp_50),
 (0, "isSign", "(I)Z", some .boolean, 1, 40, zp_51),
 (0, "isPart", "(I)Z", some .boolean, 1, 40, zp_52),
 (0, "isMarkOrTail", "(I)Z", some .boolean, 1, 40, zp_53),
 (0, "isJoinerOrBreaker", "(I)Z", some .boolean, 1, 40, zp_54),
 (0, "isLineWidth", "(I)Z", some .boolean, 1, 40, zp_55),
 (0, "hasBit", "(II)I", some .int, 1, 40, zp_56),
 (0, "goOn", "(II)I", some .int, 2, 60, zp_57),
 (0, "takesSigns", "(I)Z", some .boolean, 1, 40, zp_58),
 (0, "firstState", "(I)I", some .int, 2, 60, zp_59),
 (0, "sortOf", "(I)I", some .int, 1, 40, zp_60),
 (0, "stateBehind", "(II)I", some .int, 3, 81, zp_61),
 (0, "breaks", "(II)Z", some .boolean, 3, 81, zp_62),
 (0, "wideOf", "(II)I", some .int, 1, 40, zp_63),
 (0, "wordNamed", "(I)Ljava/lang/String;", some (.object "java/lang/String"), 1, 40, zp_64),
 (0, "isToldOnce", "(I)Z", some .boolean, 2, 60, zp_65),
 (12, "within", "(JJJ)Z", some .boolean, 1, 40, zp_66),
 (12, "<init>", "()V", none, 2, 61, zp_67),
 (12, "laysNone", "([I)V", none, 1, 40, zp_68),
 (12, "copies", "([II[III)V", none, 1, 40, zp_69),
 (12, "notes", "()V", none, 2, 65, zp_70),
 (12, "many", "()I", some .int, 1, 40, zp_71),
 (12, "letterAt", "(I)I", some .int, 1, 40, zp_72),
 (12, "isLetter", "(I)Z", some .boolean, 2, 65, zp_73),
 (12, "kindOf", "(I)I", some .int, 1, 40, zp_74),
 (12, "does", "(II)Z", some .boolean, 1, 40, zp_75),
 (12, "kindAt", "(I)I", some .int, 2, 61, zp_76),
 (12, "doJoin", "([III)Z", some .boolean, 1, 40, zp_77),
 (12, "isSign", "(I)Z", some .boolean, 2, 65, zp_78),
 (12, "isJoiner", "(I)Z", some .boolean, 1, 40, zp_79),
 (12, "laysConsonant", "(I)V", none, 3, 82, zp_80),
 (12, "behind", "(I)I", some .int, 1, 40, zp_81),
 (12, "chains", "(I)I", some .int, 4, 103, zp_82),
 (12, "marksFrom", "(I)I", some .int, 3, 82, zp_83),
 (12, "ends", "(II)I", some .int, 4, 104, zp_84),
 (12, "isAheadOfBase", "(I)Z", some .boolean, 1, 40, zp_85),
 (12, "baseOf", "(I)I", some .int, 2, 62, zp_86),
 (12, "hasReph", "()Z", some .boolean, 2, 62, zp_87),
 (12, "joinsChain", "(II)V", none, 2, 63, zp_88),
 (12, "laysCluster", "(II)I", some .int, 8, 207, zp_89),
 (12, "laysAll", "()V", none, 9, 231, zp_90),
 (12, "shows", "(IIIII)V", none, 3, 84, zp_91),
 (12, "showsAt", "(IIII)V", none, 4, 109, zp_92),
 (12, "widthOf", "(II)I", some .int, 2, 61, zp_93),
 (12, "showsSigns", "(IIII)V", none, 5, 133, zp_94),
 (12, "showsKind", "(IIII)V", none, 5, 133, zp_95),
 (12, "showsWith", "(II)V", none, 1, 40, zp_96),
 (12, "showsAhead", "(II)I", some .int, 6, 157, zp_97),
 (12, "showsJoined", "(IIII)V", none, 5, 133, zp_98),
 (12, "showsStacked", "(II)V", none, 5, 133, zp_99),
 (12, "joinerFrom", "(I)I", some .int, 3, 82, zp_100),
 (12, "laysGlyphs", "(II)V", none, 7, 181, zp_101),
 (12, "showsAlone", "(II)V", none, 5, 133, zp_102),
 (12, "clusterWidth", "(I)I", some .int, 1, 40, zp_103),
 (12, "reads", "(I)V", none, 1, 40, zp_104),
 (12, "readsSigns", "(III)V", none, 2, 61, zp_105),
 (12, "readsBack", "()V", none, 10, 252, zp_106),
 (12, "feed", "(IIIII)I", some .int, 1, 40, zp_107),
 (12, "see", "()I", some .int, 1, 40, zp_108),
 (12, "fails", "(II)V", none, 1, 40, zp_109),
 (12, "blanks", "()V", none, 2, 60, zp_110),
 (12, "goesBy", "()I", some .int, 3, 80, zp_111),
 (12, "wordFrom", "(I)I", some .int, 1, 40, zp_112),
 (12, "rowLetter", "(II)I", some .int, 1, 40, zp_113),
 (12, "isSingle", "(I)Z", some .boolean, 1, 40, zp_114),
 (12, "isTold", "(III)Z", some .boolean, 3, 90, zp_115),
 (12, "areMeant", "(III)Z", some .boolean, 2, 62, zp_116),
 (12, "isSplit", "(II)Z", some .boolean, 2, 65, zp_117),
 (12, "isPair", "(II)Z", some .boolean, 2, 63, zp_118),
 (12, "line", "()V", none, 4, 115, zp_119),
 (12, "opensTape", "(I)I", some .int, 2, 65, zp_120),
 (12, "lettersWithKind", "([I)I", some .int, 1, 40, zp_121),
 (12, "script", "(I)I", some .int, 5, 138, zp_122),
 (12, "text", "(I)I", some .int, 3, 86, zp_123),
 (12, "fault", "(I)I", some .int, 1, 40, zp_124),
 (12, "insert", "(II)I", some .int, 3, 85, zp_125),
 (12, "goes", "(II)V", none, 2, 60, zp_126),
 (12, "backspace", "(I)I", some .int, 3, 85, zp_127),
 (12, "clusterFrom", "(I)I", some .int, 10, 252, zp_128),
 (12, "delete", "(I)I", some .int, 11, 274, zp_129),
 (12, "erase", "()I", some .int, 3, 85, zp_130),
 (12, "order", "()I", some .int, 11, 274, zp_131),
 (12, "letter", "(II)I", some .int, 3, 85, zp_132),
 (12, "joins", "(II)I", some .int, 3, 85, zp_133),
 (12, "at", "(I)I", some .int, 2, 61, zp_134),
 (12, "clusters", "()I", some .int, 10, 252, zp_135),
 (12, "isCluster", "(I)Z", some .boolean, 10, 252, zp_136),
 (12, "cluster", "(II)I", some .int, 11, 273, zp_137),
 (12, "clusterWith", "(I)I", some .int, 1, 40, zp_138),
 (12, "of", "(I)I", some .int, 10, 252, zp_139),
 (12, "broken", "(I)I", some .int, 10, 252, zp_140),
 (12, "goesOn", "(II)I", some .int, 3, 85, zp_141),
 (12, "brokenWith", "(II)I", some .int, 4, 108, zp_142),
 (12, "may", "(I)I", some .int, 5, 133, zp_143),
 (12, "keeps", "(II)I", some .int, 4, 108, zp_144),
 (12, "mends", "()V", none, 5, 131, zp_145),
 (12, "mend", "(I)I", some .int, 6, 155, zp_146),
 (12, "mended", "()I", some .int, 6, 155, zp_147),
 (12, "glyphs", "()I", some .int, 10, 252, zp_148),
 (12, "glyph", "(II)I", some .int, 10, 252, zp_149),
 (12, "shown", "(I)I", some .int, 10, 252, zp_150),
 (12, "back", "(I)I", some .int, 11, 274, zp_151),
 (12, "isOrdered", "()I", some .int, 11, 274, zp_152),
 (12, "stops", "()I", some .int, 10, 252, zp_153),
 (12, "stop", "(I)I", some .int, 10, 252, zp_154),
 (12, "next", "(II)I", some .int, 10, 252, zp_155),
 (12, "stopOf", "(I)I", some .int, 1, 40, zp_156),
 (12, "xOf", "(I)I", some .int, 2, 63, zp_157),
 (12, "x", "(I)I", some .int, 10, 252, zp_158),
 (12, "apart", "(II)I", some .int, 1, 40, zp_159),
 (12, "hit", "(I)I", some .int, 10, 252, zp_160),
 (12, "allFit", "(I)Z", some .boolean, 2, 63, zp_161),
 (12, "fillsLines", "(I)Z", some .boolean, 10, 252, zp_162),
 (12, "lines", "(I)I", some .int, 11, 275, zp_163),
 (12, "lineEnd", "(II)I", some .int, 11, 275, zp_164),
 (12, "evens", "(I)Z", some .boolean, 10, 252, zp_165),
 (12, "even", "(I)I", some .int, 11, 277, zp_166),
 (12, "evenEnd", "(II)I", some .int, 11, 277, zp_167),
 (12, "narrowest", "(I)I", some .int, 11, 275, zp_168),
 (12, "find", "(II)I", some .int, 10, 252, zp_169),
 (12, "glyphsOrder", "(II)I", some .int, 1, 40, zp_170),
 (12, "baseGlyph", "(I)I", some .int, 1, 40, zp_171),
 (12, "inOrder", "(II)I", some .int, 2, 64, zp_172),
 (12, "compare", "(II)I", some .int, 11, 273, zp_173),
 (12, "alike", "(II)I", some .int, 11, 273, zp_174),
 (12, "kinds", "()I", some .int, 10, 252, zp_175),
 (12, "ranked", "(I)I", some .int, 10, 252, zp_176),
 (12, "undo", "(I)I", some .int, 2, 65, zp_177),
 (12, "image", "(I)I", some .int, 2, 65, zp_178),
 (12, "restore", "(I)I", some .int, 2, 65, zp_179),
 (12, "ofForm", "(I)I", some .int, 1, 40, zp_180),
 (12, "count", "(I)I", some .int, 10, 252, zp_181),
 (1, "<init>", "()V", none, 1, 40, zp_182),
 (1, "study", "(LStackedScript$State;LStackedScript$Cut;I)V", none, 4, 107, zp_183),
 (1, "readChain", "(LStackedScript$Cut;)V", none, 3, 83, zp_184),
 (1, "readBetween", "(LStackedScript$Cut;I)V", none, 2, 61, zp_185),
 (1, "hasReph", "(LStackedScript$State;)Z", some .boolean, 2, 61, zp_186),
 (1, "chosenBase", "(LStackedScript$State;)I", some .int, 2, 61, zp_187),
 (1, "joinPairs", "(LStackedScript$State;)V", none, 3, 83, zp_188),
 (1, "basePlace", "()I", some .int, 1, 40, zp_189),
 (2, "<init>", "()V", none, 1, 40, zp_190),
 (2, "split", "(LStackedScript$State;)V", none, 4, 103, zp_191),
 (2, "describe", "(ILStackedScript$Anatomy;)V", none, 2, 61, zp_192),
 (2, "has", "(I)Z", some .boolean, 1, 40, zp_193),
 (2, "factOf", "(II)I", some .int, 2, 61, zp_194),
 (2, "endOf", "(I)I", some .int, 2, 61, zp_195),
 (2, "ownerOf", "(I)I", some .int, 1, 40, zp_196),
 (2, "kindAt", "(I)I", some .int, 1, 40, zp_197),
 (2, "brokenAt", "(I)I", some .int, 1, 40, zp_198),
 (2, "brokenWith", "(II)I", some .int, 4, 103, zp_199),
 (2, "stopPlace", "(I)I", some .int, 1, 40, zp_200),
 (2, "stopAt", "(I)I", some .int, 2, 61, zp_201),
 (2, "stopAbove", "(I)I", some .int, 2, 61, zp_202),
 (2, "stopBelow", "(I)I", some .int, 2, 61, zp_203),
 (3, "<init>", "(LStackedScript$State;LStackedScript$Cut;LStackedScript$Anatomy;)V", none, 1, 40, zp_204),
 (3, "clear", "()V", none, 1, 40, zp_205),
 (3, "draw", "(I)V", none, 5, 142, zp_206),
 (3, "measure", "(I)V", none, 2, 61, zp_207),
 (3, "put", "(IIIII)I", some .int, 1, 40, zp_208),
 (3, "putLetter", "(III)I", some .int, 2, 65, zp_209),
 (3, "showBy", "(II)V", none, 1, 40, zp_210),
 (3, "drawSigns", "(II)V", none, 4, 109, zp_211),
 (3, "drawPart", "(IIII)V", none, 3, 83, zp_212),
 (3, "drawMarks", "(II)V", none, 3, 89, zp_213),
 (3, "drawAhead", "()V", none, 4, 117, zp_214),
 (3, "isHalf", "(I)Z", some .boolean, 2, 61, zp_215),
 (3, "drawConsonants", "(IIZI)I", some .int, 3, 89, zp_216),
 (3, "drawMiddle", "()V", none, 4, 117, zp_217),
 (3, "drawStacked", "()V", none, 3, 89, zp_218),
 (3, "drawDead", "()V", none, 3, 89, zp_219),
 (3, "drawReph", "()V", none, 3, 89, zp_220),
 (3, "xOf", "(I)I", some .int, 1, 40, zp_221),
 (3, "widthOf", "(I)I", some .int, 2, 61, zp_222),
 (3, "glyphsOf", "(I)I", some .int, 2, 61, zp_223),
 (3, "glyphsOfForm", "(I)I", some .int, 1, 40, zp_224),
 (3, "inOrder", "(II)I", some .int, 3, 84, zp_225),
 (3, "glyphsInOrder", "(II)I", some .int, 2, 61, zp_226),
 (3, "orderedFirst", "(I)I", some .int, 1, 40, zp_227),
 (3, "baseGlyph", "(I)I", some .int, 1, 40, zp_228),
 (4, "<init>", "()V", none, 3, 80, zp_229),
 (4, "keep", "(LStackedScript$State;)V", none, 3, 82, zp_230),
 (4, "dropEldest", "()V", none, 1, 40, zp_231),
 (4, "goBack", "(ILStackedScript$State;)V", none, 3, 82, zp_232),
 (4, "forget", "()V", none, 1, 40, zp_233),
 (5, "<init>", "()V", none, 1, 40, zp_234),
 (5, "choose", "(LStackedScript$Cut;)V", none, 5, 126, zp_235),
 (5, "fewestWith", "(III)I", some .int, 4, 103, zp_236),
 (6, "<init>", "()V", none, 3, 80, zp_237),
 (6, "isMade", "(I)Z", some .boolean, 1, 40, zp_238),
 (6, "take", "(ILStackedScript$State;)V", none, 3, 82, zp_239),
 (6, "show", "(ILStackedScript$State;)V", none, 3, 82, zp_240),
 (7, "<init>", "(LStackedScript$State;LStackedScript$Cut;)V", none, 1, 40, zp_241),
 (7, "clear", "()V", none, 1, 40, zp_242),
 (7, "read", "(I)V", none, 4, 107, zp_243),
 (7, "readSigns", "(III)V", none, 3, 83, zp_244),
 (7, "readPart", "(II)V", none, 2, 61, zp_245),
 (7, "readKind", "(III)V", none, 2, 61, zp_246),
 (7, "put", "(I)V", none, 1, 40, zp_247),
 (8, "<init>", "()V", none, 2, 60, zp_248),
 (8, "readScript", "([II)V", none, 8, 222, zp_249),
 (8, "readLine", "()V", none, 7, 197, zp_250),
 (8, "fail", "(II)V", none, 1, 40, zp_251),
 (8, "byteAt", "(I)I", some .int, 1, 40, zp_252),
 (8, "skipBlanks", "()V", none, 1, 40, zp_253),
 (8, "skipLetters", "()I", some .int, 2, 60, zp_254),
 (8, "wordAt", "(II)I", some .int, 6, 174, zp_255),
 (8, "isWord", "(Ljava/lang/String;II)Z", some .boolean, 5, 150, zp_256),
 (8, "takeRow", "(III)Z", some .boolean, 4, 105, zp_257),
 (8, "takeKind", "(III)Z", some .boolean, 2, 61, zp_258),
 (8, "takeRa", "(I)Z", some .boolean, 2, 61, zp_259),
 (8, "takeTraits", "(III)Z", some .boolean, 2, 61, zp_260),
 (8, "takePair", "(II)Z", some .boolean, 3, 83, zp_261),
 (8, "takeSplit", "(I)Z", some .boolean, 2, 61, zp_262),
 (9, "<init>", "()V", none, 1, 40, zp_263),
 (9, "clear", "()V", none, 1, 40, zp_264),
 (9, "copyFrom", "(LStackedScript$Script;)V", none, 1, 40, zp_265),
 (9, "kindOf", "(I)I", some .int, 1, 40, zp_266),
 (9, "partOf", "(II)I", some .int, 2, 61, zp_267),
 (9, "joined", "(II)Z", some .boolean, 2, 61, zp_268),
 (9, "lettersTold", "()I", some .int, 1, 40, zp_269),
 (10, "<init>", "()V", none, 2, 60, zp_270),
 (10, "copyFrom", "(LStackedScript$State;)V", none, 2, 61, zp_271),
 (10, "letterAt", "(I)I", some .int, 1, 40, zp_272),
 (10, "become", "([III)V", none, 1, 40, zp_273),
 (10, "putIn", "(II)V", none, 1, 40, zp_274),
 (10, "takeOut", "(II)V", none, 1, 40, zp_275),
 (11, "<init>", "()V", none, 1, 40, zp_276),
 (11, "fits", "([III)Z", some .boolean, 1, 40, zp_277),
 (11, "greedy", "([III)I", some .int, 2, 64, zp_278),
 (11, "evenly", "([III)I", some .int, 2, 67, zp_279),
 (11, "chooseBreak", "([IIII)V", none, 1, 40, zp_280),
 (11, "endLine", "(I)V", none, 1, 40, zp_281)]
def zMb : List ByteArray := [prog_1_method_1_code, prog_1_method_2_code, prog_1_method_3_code, prog_1_method_4_code, prog_1_method_5_code, prog_1_method_6_code, prog_1_method_7_code, prog_1_method_8_code, prog_1_method_9_code, prog_1_method_10_code, prog_1_method_11_code, prog_1_method_12_code, prog_1_method_13_code, prog_1_method_14_code, prog_1_method_15_code, prog_1_method_16_code, prog_1_method_17_code, prog_1_method_18_code, prog_1_method_19_code, prog_1_method_20_code, prog_1_method_21_code, prog_1_method_22_code, prog_1_method_23_code, prog_1_method_24_code, prog_1_method_25_code, prog_1_method_26_code, prog_1_method_27_code, prog_1_method_28_code, prog_1_method_29_code, prog_1_method_30_code, prog_1_method_31_code, prog_1_method_32_code, prog_1_method_33_code, prog_1_method_34_code, prog_1_method_35_code, prog_1_method_36_code, prog_1_method_37_code, prog_1_method_38_code, prog_1_method_39_code, prog_1_method_40_code, prog_1_method_41_code, prog_1_method_42_code, prog_1_method_43_code, prog_1_method_44_code, prog_1_method_45_code, prog_1_method_46_code, prog_1_method_47_code, prog_1_method_48_code, prog_1_method_49_code, prog_1_method_50_code, prog_1_method_51_code, prog_1_method_52_code, prog_1_method_53_code, prog_1_method_54_code, prog_1_method_55_code, prog_1_method_56_code, prog_1_method_57_code, prog_1_method_58_code, prog_1_method_59_code, prog_1_method_60_code, prog_1_method_61_code, prog_1_method_62_code, prog_1_method_63_code, prog_1_method_64_code, prog_1_method_65_code, prog_1_method_66_code, prog_14_method_2_code, prog_14_method_3_code, prog_14_method_4_code, prog_14_method_5_code, prog_14_method_6_code, prog_14_method_7_code, prog_14_method_8_code, prog_14_method_9_code, prog_14_method_10_code, prog_14_method_11_code, prog_14_method_12_code, prog_14_method_13_code, prog_14_method_14_code, prog_14_method_15_code, prog_14_method_16_code, prog_14_method_17_code, prog_14_method_18_code, prog_14_method_19_code, prog_14_method_20_code, prog_14_method_21_code, prog_14_method_22_code, prog_14_method_23_code, prog_14_method_24_code, prog_14_method_25_code, prog_14_method_26_code, prog_14_method_27_code, prog_14_method_28_code, prog_14_method_29_code, prog_14_method_30_code, prog_14_method_31_code, prog_14_method_32_code, prog_14_method_33_code, prog_14_method_34_code, prog_14_method_35_code, prog_14_method_36_code, prog_14_method_37_code, prog_14_method_38_code, prog_14_method_39_code, prog_14_method_40_code, prog_14_method_41_code, prog_14_method_42_code, prog_14_method_43_code, prog_14_method_44_code, prog_14_method_45_code, prog_14_method_46_code, prog_14_method_47_code, prog_14_method_48_code, prog_14_method_49_code, prog_14_method_50_code, prog_14_method_51_code, prog_14_method_52_code, prog_14_method_53_code, prog_14_method_54_code, prog_14_method_55_code, prog_14_method_56_code, prog_14_method_57_code, prog_14_method_58_code, prog_14_method_59_code, prog_14_method_60_code, prog_14_method_61_code, prog_14_method_62_code, prog_14_method_63_code, prog_14_method_64_code, prog_14_method_65_code, prog_14_method_66_code, prog_14_method_67_code, prog_14_method_68_code, prog_14_method_69_code, prog_14_method_70_code, prog_14_method_71_code, prog_14_method_72_code, prog_14_method_73_code, prog_14_method_74_code, prog_14_method_75_code, prog_14_method_76_code, prog_14_method_77_code, prog_14_method_78_code, prog_14_method_79_code, prog_14_method_80_code, prog_14_method_81_code, prog_14_method_82_code, prog_14_method_83_code, prog_14_method_84_code, prog_14_method_85_code, prog_14_method_86_code, prog_14_method_87_code, prog_14_method_88_code, prog_14_method_89_code, prog_14_method_90_code, prog_14_method_91_code, prog_14_method_92_code, prog_14_method_93_code, prog_14_method_94_code, prog_14_method_95_code, prog_14_method_96_code, prog_14_method_97_code, prog_14_method_98_code, prog_14_method_99_code, prog_14_method_100_code, prog_14_method_101_code, prog_14_method_102_code, prog_14_method_103_code, prog_14_method_104_code, prog_14_method_105_code, prog_14_method_106_code, prog_14_method_107_code, prog_14_method_108_code, prog_14_method_109_code, prog_14_method_110_code, prog_14_method_111_code, prog_14_method_112_code, prog_14_method_113_code, prog_14_method_114_code, prog_14_method_115_code, prog_14_method_116_code, prog_14_method_117_code, prog_2_method_1_code, prog_2_method_2_code, prog_2_method_3_code, prog_2_method_4_code, prog_2_method_5_code, prog_2_method_6_code, prog_2_method_7_code, prog_2_method_8_code, prog_3_method_1_code, prog_3_method_2_code, prog_3_method_3_code, prog_3_method_4_code, prog_3_method_5_code, prog_3_method_6_code, prog_3_method_7_code, prog_3_method_8_code, prog_3_method_9_code, prog_3_method_10_code, prog_3_method_11_code, prog_3_method_12_code, prog_3_method_13_code, prog_3_method_14_code, prog_4_method_1_code, prog_4_method_2_code, prog_4_method_3_code, prog_4_method_4_code, prog_4_method_5_code, prog_4_method_6_code, prog_4_method_7_code, prog_4_method_8_code, prog_4_method_9_code, prog_4_method_10_code, prog_4_method_11_code, prog_4_method_12_code, prog_4_method_13_code, prog_4_method_14_code, prog_4_method_15_code, prog_4_method_16_code, prog_4_method_17_code, prog_4_method_18_code, prog_4_method_19_code, prog_4_method_20_code, prog_4_method_21_code, prog_4_method_22_code, prog_4_method_23_code, prog_4_method_24_code, prog_4_method_25_code, prog_5_method_1_code, prog_5_method_2_code, prog_5_method_3_code, prog_5_method_4_code, prog_5_method_5_code, prog_6_method_1_code, prog_6_method_2_code, prog_6_method_3_code, prog_7_method_1_code, prog_7_method_2_code, prog_7_method_3_code, prog_7_method_4_code, prog_8_method_1_code, prog_8_method_2_code, prog_8_method_3_code, prog_8_method_4_code, prog_8_method_5_code, prog_8_method_6_code, prog_8_method_7_code, prog_9_method_1_code, prog_9_method_2_code, prog_9_method_3_code, prog_9_method_4_code, prog_9_method_5_code, prog_9_method_6_code, prog_9_method_7_code, prog_9_method_8_code, prog_9_method_9_code, prog_9_method_10_code, prog_9_method_11_code, prog_9_method_12_code, prog_9_method_13_code, prog_9_method_14_code, prog_9_method_15_code, prog_10_method_1_code, prog_10_method_2_code, prog_10_method_3_code, prog_10_method_4_code, prog_10_method_5_code, prog_10_method_6_code, prog_10_method_7_code, prog_11_method_1_code, prog_11_method_2_code, prog_11_method_3_code, prog_11_method_4_code, prog_11_method_5_code, prog_11_method_6_code, prog_12_method_1_code, prog_12_method_2_code, prog_12_method_3_code, prog_12_method_4_code, prog_12_method_5_code, prog_12_method_6_code]
set_option maxRecDepth 20000 in
def zML : List Nat := [0,3,4,7,8,11,12,15,16,17,18,19,20,21,23,24,27,28,29,30,32,33,220,221,222,223,224,225,226,227,228,229,230,231,232,233,234,235,236,237,238,239,240,241,242,243,244,245,246,249,250,251,252,253,254,255,256,257,258,259,260,261,262,263,264,265,266,267,268,269,270,271,272,273,274,275,278,281,282,283,284,285,286,287,288,289,292,293,294,295,296,297,298,301,304,305,306,307,308,309,310,311,312,315,316,317,318,319,320,321,324,327,328,329,330,331,332,333,334,335,338,339,340,341,342,343,344,347,350,351,352,353,354,355,356,357,358,359,360,361,362,363,366,367,368,369,370,371,372,373,374,375,376,377,380,383,384,385,386,387,388,389,390,391,394,395,396,397,398,399,400,403,406,407,408,409,410,411,412,413,414,417,418,419,420,421,422,423,426,429,430,431,432,435,436,439,442,443,444,445,448,449,452,455,456,457,458,459,460,461,462,463,464,465,466,467,468,471,472,473,474,475,476,477,478,479,480,481,482,485,488,489,490,491,492,493,494,495,496,497,498,499,500,501,504,505,506,507,508,509,510,511,512,513,514,515,518,521,522,523,524,525,526,527,528,529,532,533,534,535,536,537,538,541,544,545,546,547,550,551,554,557,558,559,560,561,562,563,564,565,566,567,568,569,570,573,574,575,576,577,578,579,580,581,582,583,584,587,590,591,592,593,594,595,596,597,598,601,602,603,604,605,606,607,610,613,614,615,616,617,618,619,620,621,624,625,626,627,628,629,630,633,636,637,638,639,640,641,642,643,644,647,648,649,650,651,652,653,656,659,660,661,662,663,664,665,666,667,670,671,672,673,674,675,676,679,682,683,684,685,688,689,692,695,696,697,698,701,702,705,708,709,710,711,712,713,714,715,716,717,718,719,720,721,724,725,726,727,728,729,730,731,732,733,734,735,738,741,742,743,744,745,746,747,748,749,752,753,754,755,756,757,758,761,764,765,766,767,768,769,770,771,772,775,776,777,778,779,780,781,784,787,788,789,790,793,794,797,800,801,802,803,806,807,810,813,814,815,816,817,818,819,820,821,824,825,826,827,828,829,830,833,836,837,838,839,840,841,842,843,844,845,846,847,848,849,852,853,854,855,856,857,858,859,860,861,862,863,866,869,870,871,872,873,874,875,876,877,880,881,882,883,884,885,886,889,892,893,894,895,896,897,898,899,900,903,904,905,906,907,908,909,912,915,916,917,918,919,920,921,922,923,926,927,928,929,930,931,932,935,938,939,940,941,942,943,944,945,946,947,948,949,950,951,954,955,956,957,958,959,960,961,962,963,964,965,968,971,972,973,974,975,976,977,978,979,982,983,984,985,986,987,988,991,994,995,996,997,998,999,1000,1001,1002,1003,1004,1005,1006,1007,1010,1011,1012,1013,1014,1015,1016,1017,1018,1019,1020,1021,1024,1027,1028,1029,1030,1031,1032,1033,1034,1035,1038,1039,1040,1041,1042,1043,1044,1047,1050,1051,1052,1053,1054,1055,1056,1057,1058,1059,1060,1061,1062,1063,1066,1067,1068,1069,1070,1071,1072,1073,1074,1075,1076,1077,1080,1083,1084,1085,1086,1087,1088,1089,1090,1091,1092,1093,1094,1095,1096,1099,1100,1101,1102,1103,1104,1105,1106,1107,1108,1109,1110,1113,1116,1117,1118,1119,1122,1123,1126,1129,1130,1131,1132,1133,1134,1135,1136,1137,1138,1139,1140,1141,1142,1145,1146,1147,1148,1149,1150,1151,1152,1153,1154,1155,1156,1159,1162,1163,1164,1165,1166,1167,1168,1169,1170,1173,1174,1175,1176,1177,1178,1179,1182,1185,1186,1187,1188,1189,1190,1191,1192,1193,1196,1197,1198,1199,1200,1201,1202,1205,1208,1209,1210,1211,1212,1213,1214,1215,1216,1219,1220,1221,1222,1223,1224,1225,1228,1231,1232,1233,1234,1235,1236,1237,1238,1239,1242,1243,1244,1245,1246,1247,1248,1251,1254,1255,1256,1257,1258,1259,1260,1261,1262,1265,1266,1267,1268,1269,1270,1271,1274,1277,1278,1279,1282,1285,1286]
/-- where the words of each method stand: how it is called (0 on an object, 1 static, 2 a constructor), its code, its form, its choice -/
def zMw : List (Nat × Nat × Nat × Nat) := [(2,137,136,0),(0,522,520,521),(0,530,528,529),(0,914,912,913),(0,927,925,926),(0,931,929,930),(0,939,937,938),(0,948,946,947),(0,961,959,960),(0,965,963,964),(0,969,967,968),(0,976,974,975),(0,981,979,980),(0,985,983,984),(0,989,987,988),(0,1002,1000,1001),(0,1010,1008,1009),(0,1027,1025,1026),(0,1046,1044,1045),(0,1050,1048,1049),(0,1054,1052,1053),(0,1058,1056,1057),(0,1062,1060,1061),(0,1066,1064,1065),(0,1070,1068,1069),(0,1074,1072,1073),(0,1078,1076,1077),(0,1083,1081,1082),(0,1095,1093,1094),(0,1103,1101,1102),(0,1110,1108,1109),(0,1129,1127,1128),(0,1133,1131,1132),(0,1145,1143,1144),(0,1149,1147,1148),(0,1153,1151,1152),(0,1161,1159,1160),(0,1183,1181,1182),(0,1187,1185,1186),(0,1191,1189,1190),(0,1199,1197,1198),(0,1207,1205,1206),(0,1216,1214,1215),(0,1233,1231,1232),(0,526,525,0),(0,687,686,14),(0,918,917,40),(0,1157,1156,45),(0,1195,1194,49),(0,712,711,16),(1,553,552,0),(1,727,726,0),(1,679,678,0),(1,733,732,0),(1,647,646,0),(1,1113,1112,0),(1,650,649,0),(1,724,723,0),(1,730,729,0),(1,743,742,0),(1,736,735,0),(1,739,738,0),(1,1017,1016,0),(1,877,876,0),(1,564,563,0),(1,644,643,0),(1,1415,1414,0),(2,1242,1241,0),(1,1246,1245,0),(1,1476,1475,0),(0,1473,1472,62),(0,1480,1479,63),(0,1508,1507,65),(1,1499,1498,0),(0,1536,1535,71),(0,1575,1574,79),(0,1532,1531,70),(1,1465,1464,0),(1,1558,1557,0),(1,1551,1550,0),(0,1544,1543,73),(0,1548,1547,74),(0,1540,1539,72),(0,1563,1562,76),(0,1555,1554,75),(0,1583,1582,81),(0,1579,1578,80),(0,1571,1570,78),(0,1603,1602,86),(0,1528,1527,69),(0,1524,1523,68),(0,1595,1594,84),(0,1591,1590,83),(0,1599,1598,85),(0,1587,1586,82),(0,1631,1630,93),(0,1615,1614,89),(0,1607,1606,87),(0,1611,1610,88),(0,1619,1618,90),(0,1627,1626,92),(0,1567,1566,77),(0,1623,1622,91),(0,1679,1678,98),(0,1647,1646,95),(0,1651,1650,96),(0,1643,1642,94),(0,1404,1402,1403),(0,1423,1422,52),(0,1437,1436,55),(0,1419,1418,51),(0,1431,1430,54),(0,1441,1440,56),(0,1456,1455,59),(1,1448,1447,0),(0,1445,1444,57),(0,1469,1468,61),(0,1452,1451,58),(0,1462,1461,60),(0,1427,1426,53),(0,1412,1411,50),(0,1484,1483,64),(0,1408,1406,1407),(0,1488,1486,1487),(0,1492,1490,1491),(0,1496,1494,1495),(0,1512,1511,66),(0,1504,1502,1503),(0,1520,1519,67),(0,1516,1514,1515),(0,1635,1633,1634),(0,1639,1637,1638),(0,1655,1653,1654),(0,1659,1657,1658),(0,1663,1661,1662),(0,1667,1665,1666),(0,1675,1674,97),(0,1671,1669,1670),(0,1687,1686,99),(0,1683,1681,1682),(0,1691,1689,1690),(0,1703,1702,101),(0,1699,1698,100),(0,1695,1693,1694),(0,1715,1714,103),(0,1711,1710,102),(0,1707,1705,1706),(0,1720,1718,1719),(0,1724,1722,1723),(0,1728,1726,1727),(0,1732,1730,1731),(0,1736,1734,1735),(0,1740,1738,1739),(0,1744,1742,1743),(0,1748,1746,1747),(0,1752,1750,1751),(0,1760,1759,104),(0,1764,1763,105),(0,1756,1754,1755),(1,1772,1771,0),(0,1768,1766,1767),(0,1785,1784,107),(0,1781,1780,106),(0,1776,1774,1775),(0,1789,1787,1788),(0,1797,1796,108),(0,1793,1791,1792),(0,1801,1799,1800),(0,1805,1803,1804),(0,1810,1808,1809),(0,1826,1825,111),(0,1822,1821,110),(0,1818,1817,109),(0,1814,1812,1813),(0,1830,1828,1829),(0,1834,1832,1833),(0,1838,1836,1837),(0,1842,1840,1841),(0,1847,1845,1846),(0,1851,1849,1850),(0,1859,1858,112),(0,1855,1853,1854),(2,309,308,0),(0,755,753,754),(0,771,770,17),(0,779,778,18),(0,784,783,19),(0,789,788,20),(0,794,793,21),(0,803,801,802),(2,282,281,0),(0,716,714,715),(0,799,797,798),(0,763,761,762),(0,759,757,758),(0,767,765,766),(0,1006,1004,1005),(0,775,773,774),(0,1023,1021,1022),(0,1014,1012,1013),(0,956,954,955),(0,952,950,951),(0,1087,1085,1086),(0,1091,1089,1090),(2,380,379,0),(0,747,745,746),(0,807,805,806),(0,874,873,35),(0,822,821,24),(0,817,816,23),(0,826,825,25),(0,812,811,22),(0,830,829,26),(0,870,869,34),(0,840,839,27),(0,844,843,28),(0,849,848,29),(0,853,852,30),(0,858,857,31),(0,862,861,32),(0,866,865,33),(0,1099,1097,1098),(0,998,996,997),(0,994,992,993),(0,1237,1235,1236),(0,1165,1163,1164),(0,1173,1172,47),(0,1177,1176,48),(0,1169,1168,46),(2,216,215,0),(0,691,689,690),(0,695,694,15),(0,1203,1201,1202),(0,1229,1227,1228),(2,461,460,0),(0,1031,1029,1030),(0,1037,1036,41),(2,233,232,0),(0,1220,1218,1219),(0,1211,1209,1210),(0,1224,1222,1223),(2,419,418,0),(0,751,749,750),(0,881,879,880),(0,895,894,37),(0,900,899,38),(0,905,904,39),(0,891,890,36),(2,249,248,0),(0,534,532,533),(0,546,545,2),(0,557,556,4),(0,599,598,7),(0,542,541,1),(0,550,549,3),(0,561,560,5),(0,585,584,6),(0,641,640,8),(0,683,682,13),(0,654,653,9),(0,662,661,10),(0,666,665,11),(0,676,675,12),(2,151,150,0),(0,538,536,537),(0,703,701,702),(0,658,656,657),(0,834,832,833),(0,670,668,669),(0,909,907,908),(2,145,144,0),(0,699,697,698),(0,720,718,719),(0,923,921,922),(0,935,933,934),(0,944,942,943),(2,440,439,0),(0,1121,1120,42),(0,1117,1115,1116),(0,1137,1135,1136),(0,1141,1140,44),(0,1125,1124,43)]
def zCw : List (Nat × Nat × List Nat) := [(134, 114, [490,492,494,496,498,500,502,504,506,508,510,512,514,516]), (306, 121, [345,347,349,351,353,355,357,359,361,363,365,367,369,371,373]), (279, 120, [294,296,298,300,302]), (377, 122, [396,398,400,402,404,406,408,410,412]), (213, 117, [224,226]), (458, 125, [469,471,473]), (230, 118, [239,241]), (416, 123, [427,429,431,433]), (246, 119, [263,265,267,269,271,273,275]), (148, 116, [176,178,180,182,184,186,188,190]), (142, 115, [205,207,209]), (437, 124, [448,450,452,454]), (1239, 126, [1298,1300,1302,1304,1306,1308,1310,1312,1314,1316,1318,1320,1322,1324,1326,1328,1330,1332,1334,1336,1338,1340,1342,1344,1346,1348,1350,1352,1354,1356,1358,1360,1362,1364,1366,1368,1370,1372,1374,1376,1378,1380,1382,1384,1386,1388,1390,1392,1394,1396,1398])]
/-- links of fields: own class, entry, class, field, where the word stands; of methods: own class, entry, how (3: static of the host), method, word; of classes -/
def zFl : List (Nat × Nat × Nat × Nat × Nat) := [(0,9,0,0,476),(0,13,0,1,477),(0,17,0,2,478),(0,20,0,3,479),(0,26,0,4,480),(0,33,0,5,481),(0,40,0,6,482),(0,47,0,7,483),(0,54,0,8,484),(0,61,0,9,485),(0,70,0,10,486),(0,79,0,11,487),(0,86,0,12,488),(0,93,0,13,489),(0,105,8,1,256),(0,108,8,2,258),(0,117,10,0,196),(0,121,8,0,254),(0,147,10,2,204),(0,162,2,0,288),(0,167,7,0,422),(0,168,7,1,424),(0,174,9,4,163),(0,177,9,5,167),(0,183,9,6,170),(0,215,5,0,465),(0,216,5,1,467),(0,219,3,0,384),(0,220,3,1,386),(0,224,3,2,388),(0,227,10,1,201),(0,248,3,3,390),(0,255,11,0,443),(0,256,11,1,445),(0,271,4,0,222),(0,288,9,7,175),(1,9,1,0,311),(1,15,1,1,314),(1,18,1,2,317),(1,21,1,3,320),(1,24,1,4,322),(1,27,1,5,324),(1,30,1,6,326),(1,33,1,7,328),(1,36,1,8,330),(1,39,1,9,332),(1,43,1,10,335),(1,47,1,11,337),(1,50,1,12,339),(1,53,1,13,341),(1,56,1,14,343),(1,102,10,0,198),(1,106,9,4,162),(1,111,9,5,166),(2,9,2,0,286),(2,15,2,1,290),(2,18,2,2,291),(2,22,2,3,292),(2,27,2,4,293),(2,30,10,2,203),(2,33,10,0,195),(2,60,1,9,333),(2,66,1,0,312),(2,71,1,2,318),(2,74,1,1,315),(2,77,1,3,321),(3,9,3,0,383),(3,17,3,1,385),(3,20,3,2,387),(3,24,3,3,389),(3,27,3,4,391),(3,30,3,8,395),(3,33,3,5,392),(3,37,3,6,393),(3,41,3,7,394),(3,94,1,7,329),(3,99,1,6,327),(3,113,10,0,199),(3,125,1,2,319),(3,128,1,1,316),(3,131,1,14,344),(3,142,1,11,338),(3,145,1,12,340),(3,148,1,13,342),(3,151,9,6,171),(3,154,1,10,336),(3,160,1,4,323),(3,163,1,5,325),(3,169,1,8,331),(3,172,1,0,313),(3,173,1,9,334),(3,177,2,0,289),(4,9,4,0,221),(4,17,4,1,223),(5,9,5,0,464),(5,15,5,1,466),(5,21,5,2,468),(5,24,2,0,287),(6,11,6,0,237),(6,17,6,1,238),(7,9,7,0,421),(7,15,7,1,423),(7,19,7,2,425),(7,23,7,3,426),(7,63,10,0,197),(8,12,8,0,253),(8,18,8,1,255),(8,22,8,2,257),(8,25,8,3,259),(8,29,8,4,260),(8,32,8,5,261),(8,35,8,6,262),(8,110,9,0,154),(8,116,9,4,164),(8,119,9,5,168),(8,122,9,6,172),(8,128,9,7,174),(8,131,9,3,160),(8,137,9,1,156),(8,140,9,2,158),(9,9,9,0,153),(9,15,9,1,155),(9,18,9,2,157),(9,21,9,3,159),(9,24,9,4,161),(9,28,9,5,165),(9,31,9,6,169),(9,34,9,7,173),(10,12,10,0,194),(10,18,10,1,200),(10,22,10,2,202),(11,9,11,0,442),(11,15,11,1,444),(11,19,11,2,446),(11,22,11,3,447),(12,1,12,0,1247),(12,13,12,1,1248),(12,17,12,2,1249),(12,20,12,4,1251),(12,24,12,5,1252),(12,27,12,6,1253),(12,30,12,7,1254),(12,33,12,8,1255),(12,36,12,9,1256),(12,39,12,10,1257),(12,42,12,11,1258),(12,45,12,12,1259),(12,48,12,13,1260),(12,51,12,14,1261),(12,54,12,16,1263),(12,57,12,17,1264),(12,60,12,18,1265),(12,63,12,19,1266),(12,66,12,20,1267),(12,69,12,23,1270),(12,72,12,24,1271),(12,75,12,25,1272),(12,78,12,26,1273),(12,81,12,27,1274),(12,84,12,28,1275),(12,87,12,29,1276),(12,90,12,30,1277),(12,93,12,32,1279),(12,96,12,34,1281),(12,100,12,39,1286),(12,103,12,40,1287),(12,106,12,42,1289),(12,109,12,44,1291),(12,112,12,45,1292),(12,115,12,47,1294),(12,118,12,48,1295),(12,121,12,49,1296),(12,128,12,3,1250),(12,156,12,21,1268),(12,173,12,22,1269),(12,204,12,15,1262),(12,207,12,31,1278),(12,258,12,33,1280),(12,271,12,35,1282),(12,274,12,37,1284),(12,277,12,36,1283),(12,280,12,38,1285),(12,299,12,41,1288),(12,360,12,43,1290),(12,374,12,46,1293),(12,391,12,50,1297)]
def zMl : List (Nat × Nat × Nat × Nat × Nat) := [(0,25,2,270,143),(0,32,2,229,214),(0,39,2,237,231),(0,46,2,248,247),(0,53,2,190,280),(0,60,2,182,307),(0,67,2,204,378),(0,76,2,241,417),(0,85,2,276,438),(0,92,2,234,459),(0,97,0,44,523),(0,101,0,249,531),(0,109,0,45,684),(0,113,0,230,688),(0,122,0,265,708),(0,128,0,49,709),(0,131,0,269,906),(0,135,0,46,915),(0,139,0,273,920),(0,143,1,50,919),(0,150,0,274,932),(0,153,0,272,940),(0,156,0,275,941),(0,159,0,201,949),(0,163,0,194,957),(0,171,0,266,970),(0,180,1,56,971),(0,186,0,267,972),(0,189,0,268,977),(0,193,0,193,990),(0,196,0,223,991),(0,199,0,222,995),(0,202,0,196,1003),(0,205,0,199,1011),(0,208,0,198,1020),(0,211,0,235,1028),(0,228,0,200,1079),(0,231,0,202,1084),(0,234,0,203,1088),(0,237,0,221,1096),(0,245,1,55,1111),(0,251,0,278,1114),(0,259,0,279,1134),(0,262,0,47,1154),(0,265,0,225,1162),(0,268,0,48,1192),(0,272,0,232,1200),(0,276,0,239,1208),(0,279,0,238,1217),(0,282,0,240,1221),(0,285,0,233,1226),(0,291,0,224,1234),(0,294,0,191,713),(0,297,0,205,744),(0,300,0,242,748),(0,301,0,183,752),(0,305,0,192,796),(0,309,0,206,804),(0,312,0,243,878),(0,315,1,51,725),(0,318,1,58,728),(0,321,1,53,731),(0,324,1,54,645),(0,327,1,57,740),(0,330,1,59,741),(0,333,1,60,1018),(1,60,0,194,756),(1,66,0,195,764),(1,70,0,184,768),(1,74,0,186,781),(1,78,0,187,786),(1,82,0,188,791),(1,86,0,197,772),(1,89,0,185,776),(1,93,3,54,780),(1,97,0,272,785),(1,114,3,56,790),(1,117,0,268,795),(2,37,0,272,717),(2,41,0,266,721),(2,46,3,57,722),(2,50,3,60,734),(2,53,3,61,737),(2,56,0,193,760),(2,67,0,189,800),(2,80,3,62,1015),(2,84,0,197,1019),(2,87,0,200,953),(3,45,0,193,808),(3,51,0,211,809),(3,55,0,214,837),(3,58,0,217,850),(3,61,0,218,855),(3,64,0,219,859),(3,67,0,220,863),(3,70,0,213,867),(3,73,0,207,871),(3,77,3,63,875),(3,81,0,272,818),(3,87,0,208,819),(3,91,0,210,823),(3,102,0,197,813),(3,105,0,209,814),(3,109,0,212,827),(3,117,0,267,831),(3,122,0,266,836),(3,135,0,215,841),(3,138,0,216,846),(3,157,3,56,845),(3,166,3,54,854),(3,178,0,228,1166),(3,181,0,226,1170),(3,184,0,223,1178),(3,192,0,227,1174),(4,21,2,270,220),(4,22,0,231,692),(4,25,0,271,696),(5,27,0,195,1032),(5,31,0,197,1033),(5,34,0,236,1034),(5,44,3,61,1039),(5,47,3,62,1038),(6,21,2,270,236),(6,22,0,271,1212),(6,26,0,238,1225),(7,27,0,194,882),(7,33,0,195,883),(7,37,0,197,884),(7,40,3,51,885),(7,44,3,53,886),(7,47,0,272,887),(7,52,0,247,888),(7,56,0,244,892),(7,60,0,246,902),(7,67,0,267,896),(7,72,0,245,897),(7,76,0,266,901),(8,11,2,263,252),(8,38,0,264,535),(8,41,0,253,539),(8,44,0,250,543),(8,47,0,254,547),(8,51,0,251,554),(8,55,0,255,558),(8,59,0,257,638),(8,63,0,252,596),(8,67,3,50,551),(8,71,3,64,562),(8,75,0,256,582),(8,88,3,65,642),(8,91,3,56,648),(8,94,0,259,651),(8,97,0,260,659),(8,100,0,261,663),(8,104,0,262,673),(8,107,0,258,680),(8,113,0,266,655),(8,125,0,268,667),(8,134,3,52,677),(9,43,0,266,835),(9,47,3,50,671),(9,51,3,56,672),(10,11,2,263,149),(10,26,0,265,700),(11,25,0,277,1118),(11,29,0,281,1122),(11,33,0,280,1138),(12,124,1,68,1244),(12,131,1,69,1474),(12,137,1,66,1413),(12,141,0,71,1477),(12,145,0,72,1505),(12,149,0,74,1533),(12,159,0,76,1529),(12,162,0,80,1541),(12,166,0,81,1545),(12,169,1,79,1549),(12,176,1,78,1556),(12,179,0,83,1560),(12,182,0,75,1572),(12,186,0,85,1580),(12,189,1,77,1463),(12,193,0,82,1537),(12,196,0,84,1552),(12,200,0,101,1564),(12,210,0,89,1525),(12,213,0,93,1596),(12,216,0,91,1592),(12,220,0,92,1588),(12,224,0,98,1608),(12,227,0,96,1612),(12,230,0,87,1568),(12,234,0,86,1576),(12,237,0,94,1584),(12,240,0,88,1600),(12,243,0,97,1604),(12,246,0,99,1616),(12,249,0,102,1620),(12,252,0,100,1624),(12,255,0,95,1628),(12,261,0,104,1644),(12,264,0,90,1521),(12,267,0,105,1648),(12,283,0,108,1420),(12,286,0,110,1416),(12,293,0,109,1434),(12,296,1,114,1446),(12,302,0,117,1449),(12,305,0,118,1459),(12,308,0,116,1466),(12,312,0,113,1453),(12,317,0,111,1428),(12,320,0,112,1438),(12,323,0,115,1442),(12,326,0,120,1409),(12,329,0,119,1424),(12,332,0,70,1470),(12,335,0,121,1481),(12,339,1,73,1497),(12,342,0,126,1509),(12,345,0,128,1517),(12,348,0,106,1640),(12,351,0,136,1672),(12,354,0,103,1676),(12,357,0,138,1684),(12,364,0,141,1700),(12,367,0,142,1696),(12,371,0,144,1712),(12,377,0,145,1708),(12,380,0,156,1757),(12,383,0,157,1761),(12,388,1,159,1770),(12,394,0,161,1782),(12,399,0,162,1778),(12,402,0,165,1794),(12,407,0,171,1819),(12,410,0,170,1823),(12,413,0,172,1815),(12,418,0,180,1856),(13,9,2,0,135),(13,12,2,67,1240),(13,13,0,1,519),(13,17,0,107,1401),(13,18,0,2,527),(13,22,0,122,1405),(13,23,0,3,911),(13,26,0,123,1485),(13,27,0,4,924),(13,30,0,124,1489),(13,31,0,5,928),(13,35,0,125,1493),(13,36,0,6,936),(13,39,0,127,1501),(13,40,0,7,945),(13,43,0,129,1513),(13,44,0,8,958),(13,48,0,130,1632),(13,49,0,9,962),(13,52,0,131,1636),(13,53,0,10,966),(13,56,0,132,1652),(13,57,0,11,973),(13,60,0,133,1656),(13,61,0,12,978),(13,64,0,134,1660),(13,65,0,13,982),(13,68,0,135,1664),(13,69,0,14,986),(13,72,0,137,1668),(13,73,0,15,999),(13,76,0,139,1680),(13,77,0,16,1007),(13,80,0,140,1688),(13,81,0,17,1024),(13,84,0,146,1704),(13,85,0,18,1043),(13,88,0,143,1692),(13,89,0,19,1047),(13,92,0,147,1717),(13,93,0,20,1051),(13,96,0,148,1721),(13,97,0,21,1055),(13,100,0,149,1725),(13,101,0,22,1059),(13,104,0,150,1729),(13,105,0,23,1063),(13,108,0,151,1733),(13,109,0,24,1067),(13,112,0,152,1737),(13,113,0,25,1071),(13,116,0,153,1741),(13,117,0,26,1075),(13,120,0,154,1745),(13,121,0,27,1080),(13,124,0,155,1749),(13,125,0,28,1092),(13,128,0,158,1753),(13,129,0,29,1100),(13,132,0,160,1765),(13,133,0,30,1107),(13,136,0,163,1773),(13,137,0,31,1126),(13,140,0,164,1786),(13,141,0,32,1130),(13,144,0,166,1790),(13,145,0,33,1142),(13,148,0,167,1798),(13,149,0,34,1146),(13,152,0,168,1802),(13,153,0,35,1150),(13,156,0,169,1807),(13,157,0,36,1158),(13,160,0,174,1827),(13,161,0,37,1180),(13,164,0,175,1831),(13,165,0,38,1184),(13,168,0,173,1811),(13,169,0,39,1188),(13,172,0,176,1835),(13,173,0,40,1196),(13,176,0,177,1839),(13,177,0,41,1204),(13,180,0,178,1844),(13,181,0,42,1213),(13,184,0,179,1848),(13,185,0,43,1230),(13,188,0,181,1852)]
def zCl : List (Nat × Nat × Nat × Nat) := [(0,23,10,141),(0,30,4,212),(0,37,6,229),(0,44,8,245),(0,51,2,278),(0,58,1,305),(0,65,3,376),(0,74,7,415),(0,83,11,436),(0,90,5,457),(4,15,10,218),(6,9,10,235),(8,9,9,251),(10,9,9,147),(13,7,0,133),(13,10,12,1238)]
/-- other links: opcode, own class, entry, word -/
def zOl : List (Nat × Nat × Nat × Nat) := [(52,2,25,284),(52,3,15,382),(52,5,19,463),(53,0,3,138),(53,1,3,310),(53,2,3,283),(53,3,3,381),(53,4,3,217),(53,5,3,462),(53,6,3,234),(53,7,3,420),(53,8,3,250),(53,9,3,152),(53,10,3,146),(53,11,3,441),(53,12,7,1243),(54,9,37,704),(54,10,30,707),(55,3,187,1179),(55,5,38,1040),(56,0,240,1104),(58,8,79,586),(59,8,84,600)]
def zLc : List (Nat × Int × Nat) := [(289,97,1432),(291,122,1433),(152,5,1457),(315,8,1458),(135,25,1500),(154,9,1559),(386,999,1769),(397,200,1777),(405,60,1806),(416,10,1843)]
def zcKp : Nat := 1716
def zTl : List (Nat × Nat × Nat) := [(336,0,565),(338,1,566),(340,2,567),(342,3,568),(344,4,569),(346,5,570),(348,6,571),(350,7,572),(352,8,573),(354,9,574),(356,10,575),(358,11,576),(360,12,577),(362,13,578),(363,14,579),(365,15,580),(367,16,581)]
def zTs : List String := ["consonants", "vowels", "virama", "nukta", "before", "above", "below", "behind", "splits", "marks", "tails", "joiner", "breaker", "ra", "stack", "half", "joins"]
def zy (i : Nat) : MethodName := let r := zMt.getD i (0, "", "", none, 0, 0, []); ⟨zC r.1, r.2.1, r.2.2.1⟩
def zown (i : Nat) : Nat := (zMt.getD i (0, "", "", none, 0, 0, [])).1
def zret (i : Nat) : Option FieldType := (zMt.getD i (0, "", "", none, 0, 0, [])).2.2.2.1
def zfr (i : Nat) : Nat := (zMt.getD i (0, "", "", none, 0, 0, [])).2.2.2.2.1
def zlo (i : Nat) : Nat := (zMt.getD i (0, "", "", none, 0, 0, [])).2.2.2.2.2.1
def zps (i : Nat) : List Nat := (zMt.getD i (0, "", "", none, 0, 0, [])).2.2.2.2.2.2
def zb (i : Nat) : ByteArray := zMb.getD i ⟨#[]⟩
def zmL (i : Nat) : Nat := (zPt.getD i ([], 0, 0, 0)).2.1
def zna (i : Nat) : Nat := (zPt.getD i ([], 0, 0, 0)).2.2.1
def zk (i : Nat) : List zIn := (zPt.getD i ([], 0, 0, 0)).1
def zan (i : Nat) : Nat := (zPt.getD i ([], 0, 0, 0)).2.2.2
def zhow (i : Nat) : Nat := (zMw.getD i (9, 0, 0, 0)).1
theorem zwx_objI : lw_tbl[139]? = some (Cond.instanceMethod objectInit) := by decide +kernel
theorem zwx_objC : lw_tbl[140]? = some (Cond.code objectInit ⟨#[0xb1]⟩ 1 none) := by decide +kernel
theorem zwx_cpN : lw_tbl[706]? = some (Cond.native arraycopyName) := by decide +kernel
theorem zwx_cpS : lw_tbl[705]? = some (Cond.static arraycopyName) := by decide +kernel
theorem zwx_cpI : lw_tbl[131]? = some (Cond.initialized "java/lang/System") := by decide +kernel
theorem zwx_mI : lw_tbl[132]? = some (Cond.initialized "java/lang/Math") := by decide +kernel
theorem zwx_minS : lw_tbl[1041]? = some (Cond.static Lib.Math.min.name) := by decide +kernel
theorem zwx_absS : lw_tbl[1105]? = some (Cond.static Lib.Math.abs.name) := by decide +kernel
theorem zwx_minC : lw_tbl[1042]? = some (Cond.code Lib.Math.min.name Lib.Math.min.code 2 (some .int)) := by decide +kernel
theorem zwx_absC : lw_tbl[1106]? = some (Cond.code Lib.Math.abs.name Lib.Math.abs.code 1 (some .int)) := by decide +kernel
theorem zwx_acI : lw_tbl[193]? = some (Cond.arrayClass .int) := by decide +kernel
theorem zwx_acB : lw_tbl[910]? = some (Cond.arrayClass .byte) := by decide +kernel
theorem zwx_acZ : lw_tbl[244]? = some (Cond.arrayClass .boolean) := by decide +kernel
-- the words stand where the lists say
set_option maxRecDepth 20000 in
theorem zw_fl : zFl.all (fun e => decide (lw_tbl[e.2.2.2.2]? = some (Cond.fieldLink (if e.1 = 13 then R_law else zC e.1) e.2.1 (zC e.2.2.1) (zT e.2.2.1 e.2.2.2.1).2.1 (zT e.2.2.1 e.2.2.2.1).2.2.1))) = true := by decide +kernel
set_option maxRecDepth 20000 in
theorem zw_ml : zMl.all (fun e => decide (lw_tbl[e.2.2.2.2]? = some (if e.2.2.1 = 3 then Cond.methodLinkNest (if e.1 = 13 then R_law else zC e.1) e.2.1 (zy e.2.2.2.1) "StackedScript" else Cond.methodLink (if e.1 = 13 then R_law else zC e.1) e.2.1 (zy e.2.2.2.1)))) = true := by decide +kernel
set_option maxRecDepth 20000 in
theorem zw_cl : zCl.all (fun e => decide (lw_tbl[e.2.2.2]? = some (Cond.classLink (if e.1 = 13 then R_law else zC e.1) e.2.1 (zC e.2.2.1)))) = true := by decide +kernel
set_option maxRecDepth 20000 in
theorem zw_form : (List.range zMt.length).all (fun i => decide (lw_tbl[(zMw.getD i (0, 0, 0, 0)).2.2.1]? = some (if zhow i = 1 then Cond.static (zy i) else Cond.instanceMethod (zy i)))) = true := by decide +kernel
set_option maxRecDepth 20000 in
theorem zw_sel : (List.range zMt.length).all (fun i => zhow i != 0 || decide (lw_tbl[(zMw.getD i (0, 0, 0, 0)).2.2.2]? = some (Cond.selects (zC (zown i)) (zy i) (zy i)))) = true := by decide +kernel
set_option maxRecDepth 20000 in
theorem zw_cls : (List.range 13).all (fun c => decide (lw_tbl[(zCw.getD c (0, 0, [])).1]? = some (Cond.instantiable (zC c) (zN c))) && decide (lw_tbl[(zCw.getD c (0, 0, [])).2.1]? = some (Cond.initialized (zC c))) && (List.range (zN c)).all (fun k => decide (lw_tbl[(zCw.getD c (0, 0, [])).2.2.getD k 0]? = some (u_lay (zC c) (zT c) k)))) = true := by decide +kernel
set_option maxRecDepth 20000 in
theorem zw_ol : zOl.all (fun e => decide (lw_tbl[e.2.2.2]? = some (if e.1 = 52 then Cond.classLink (zC e.2.1) e.2.2.1 "[[I" else Cond.methodLink (zC e.2.1) e.2.2.1 (if e.1 = 53 then objectInit else if e.1 = 54 then arraycopyName else if e.1 = 55 then Lib.Math.min.name else if e.1 = 56 then Lib.Math.abs.name else if e.1 = 58 then ⟨"java/lang/String", "length", "()I"⟩ else ⟨"java/lang/String", "charAt", "(I)C"⟩)))) = true := by decide +kernel
theorem zw_lc : zLc.all (fun e => decide (lw_tbl[e.2.2]? = some (Cond.constantLong "StackedScriptModel" e.1 (Int64.ofInt e.2.1)))) = true := by decide +kernel
theorem zw_ck : lw_tbl[zcKp]? = some (Cond.constant "StackedScriptModel" 370 268435456) := by decide +kernel
theorem zw_tl : zTl.all (fun e => decide (lw_tbl[e.2.2]? = some (Cond.stringRef "StackedScript" e.1 (zTs.getD e.2.1 "")))) = true := by decide +kernel
set_option maxRecDepth 20000 in
theorem zw_desc : (List.range zMt.length).all (fun i => decide ((parseMethodDescriptor (zy i).desc).map (fun d => d.parameters.length) = some (if zhow i = 1 then zna i else zna i - 1)) && plainName (zy i).cls && decide (zC (zown i) ≠ "java/lang/invoke/MethodHandle" ∧ zC (zown i) ≠ "java/lang/invoke/VarHandle") && decide ((zhow i = 2) ↔ (zy i).name = "<init>") && decide (0 < zna i ∨ zhow i = 1) && decide (zan i = 0 ↔ zret i = none)) = true := by decide +kernel
theorem zw_ty : (List.range 13).all (fun c => (List.range (zN c)).all (fun k => decide (parseFieldDescriptor (zT c k).2.2.1 = some (zTy c k)) && decide (zkd c k = (match zTy c k with | .int => 0 | .boolean => 2 | _ => 1)) && decide ((zT c k).2.2.2 = true → zkd c k = 1) && decide ((zT c k).1 = zC c))) = true := by decide +kernel
theorem zw_nm : (List.range 13).all (fun c => (List.range (zN c)).all (fun a => (List.range (zN c)).all (fun b => decide (a = b) || decide ((zT c a).2.1 ≠ (zT c b).2.1)))) = true := by decide +kernel
end
section
/-! The decoder's rows by opcode: so that a method's bytes are gone through once -/
abbrev zDe : Type := Nat × Nat × (Nat → Nat → Nat → Instr)
def zd1 (e : zDe) (l : List UInt8) : Option (Instr × Nat) := match l with
  | [] => none
  | x :: r => if x.toNat = e.1 then (if e.2.1 = 0 then some (e.2.2 0 0 0, 1) else if e.2.1 = 1 then (match r with
      | a :: _ => some (e.2.2 a.toNat 0 0, 2)
      | [] => none) else if e.2.1 = 2 then (match r with
      | a :: b :: _ => some (e.2.2 a.toNat b.toNat 0, 3)
      | _ => none) else none) else none
def zdok (e : zDe) : Prop := ∀ (b : ByteArray) (pc : Nat) (x : Instr) (n : Nat), zd1 e (b.data.toList.drop pc) = some (x, n) → decode b pc = .ok (x, n)
theorem zd_u1 {b : ByteArray} {pc : Nat} {x : UInt8} {r : List UInt8} (h : b.data.toList.drop pc = x :: r) : (Reader.u1 : Decoder Nat) b pc = .ok (x.toNat, pc + 1) ∧ b.data.toList.drop (pc + 1) = r := by
  have hlt : pc < b.data.toList.length := by
    rcases Nat.lt_or_ge pc b.data.toList.length with q | q
    · exact q
    · rw [List.drop_eq_nil_iff.mpr q] at h; cases h
  have h2 := List.drop_eq_getElem_cons hlt
  rw [h] at h2
  have hx : b.data.toList[pc] = x := by injection h2 with q _; exact q.symm
  have hr : b.data.toList.drop (pc + 1) = r := by injection h2 with _ q; exact q.symm
  refine ⟨?_, hr⟩
  have hs : pc < b.size := by simpa using hlt
  have hb : b[pc]'hs = x := by rw [← hx]; simp [ByteArray.getElem_eq_getElem_data]
  unfold Reader.u1
  show (dite (pc < b.size) _ _ : Decoder Nat) b pc = _
  rw [dif_pos hs, ← hb]
  rfl
theorem zd_u2 {b : ByteArray} {p a c : Nat} (h1 : (Reader.u1 : Decoder Nat) b p = .ok (a, p + 1)) (h2 : (Reader.u1 : Decoder Nat) b (p + 1) = .ok (c, p + 2)) : (Reader.u2 : Decoder Nat) b p = .ok (a * 256 + c, p + 2) := by
  unfold Reader.u2
  show Except.bind (Reader.u1 (ε := DecodeError) b p) _ = _
  rw [h1]
  show Except.bind (Reader.u1 (ε := DecodeError) b (p + 1)) _ = _
  rw [h2]
  rfl
theorem zd_s2 {b : ByteArray} {p a c : Nat} (h1 : (Reader.u1 : Decoder Nat) b p = .ok (a, p + 1)) (h2 : (Reader.u1 : Decoder Nat) b (p + 1) = .ok (c, p + 2)) : (Reader.s2 : Decoder Int) b p = .ok (Reader.signed 16 (a * 256 + c), p + 2) := by
  unfold Reader.s2
  show Except.bind (Reader.u2 (ε := DecodeError) b p) _ = _
  rw [zd_u2 h1 h2]
  rfl
theorem zd_s1 {b : ByteArray} {p a : Nat} (h1 : (Reader.u1 : Decoder Nat) b p = .ok (a, p + 1)) : (Reader.s1 : Decoder Int) b p = .ok (Reader.signed 8 a, p + 1) := by
  unfold Reader.s1
  show Except.bind (Reader.u1 (ε := DecodeError) b p) _ = _
  rw [h1]
  rfl
theorem zd_dec {b : ByteArray} {pc p : Nat} {x : Instr} (h : (Decoder.instr pc) b pc = .ok (x, p)) : decode b pc = .ok (x, p - pc) := by
  unfold decode
  show Except.bind ((Decoder.instr pc) b pc) _ = _
  rw [h]
  rfl
theorem zd_0 {op : Nat} {f : Nat → Nat → Nat → Instr} (h : ∀ (b : ByteArray) (pc : Nat), (Reader.u1 : Decoder Nat) b pc = .ok (op, pc + 1) → (Decoder.instr pc) b pc = .ok (f 0 0 0, pc + 1)) : zdok (op, 0, f) := by
  intro b pc x n hz
  cases hd : b.data.toList.drop pc with
  | nil => rw [hd] at hz; cases hz
  | cons y r =>
    rw [hd] at hz
    unfold zd1 at hz
    by_cases hy : y.toNat = op
    · simp only [if_pos hy, if_true] at hz
      cases hz
      have := zd_dec (h b pc (by rw [(zd_u1 hd).1, hy]))
      rw [this]
      congr 2
      omega
    · simp only [if_neg hy] at hz; cases hz
theorem zd_1 {op : Nat} {f : Nat → Nat → Nat → Instr} (h : ∀ (b : ByteArray) (pc a : Nat), (Reader.u1 : Decoder Nat) b pc = .ok (op, pc + 1) → (Reader.u1 : Decoder Nat) b (pc + 1) = .ok (a, pc + 2) → (Decoder.instr pc) b pc = .ok (f a 0 0, pc + 2)) : zdok (op, 1, f) := by
  intro b pc x n hz
  cases hd : b.data.toList.drop pc with
  | nil => rw [hd] at hz; cases hz
  | cons y r =>
    obtain ⟨e1, e2⟩ := zd_u1 hd
    rw [hd] at hz
    unfold zd1 at hz
    by_cases hy : y.toNat = op
    · simp only [if_pos hy] at hz
      cases r with
      | nil => cases hz
      | cons a r2 =>
        cases hz
        have := zd_dec (h b pc a.toNat (by rw [e1, hy]) (zd_u1 e2).1)
        rw [this]
        congr 2
        omega
    · simp only [if_neg hy] at hz; cases hz
theorem zd_2 {op : Nat} {f : Nat → Nat → Nat → Instr} (h : ∀ (b : ByteArray) (pc a c : Nat), (Reader.u1 : Decoder Nat) b pc = .ok (op, pc + 1) → (Reader.u1 : Decoder Nat) b (pc + 1) = .ok (a, pc + 2) → (Reader.u1 : Decoder Nat) b (pc + 2) = .ok (c, pc + 3) → (Decoder.instr pc) b pc = .ok (f a c 0, pc + 3)) : zdok (op, 2, f) := by
  intro b pc x n hz
  cases hd : b.data.toList.drop pc with
  | nil => rw [hd] at hz; cases hz
  | cons y r =>
    obtain ⟨e1, e2⟩ := zd_u1 hd
    rw [hd] at hz
    unfold zd1 at hz
    by_cases hy : y.toNat = op
    · simp only [if_pos hy] at hz
      cases r with
      | nil => cases hz
      | cons a r2 =>
        obtain ⟨e3, e4⟩ := zd_u1 e2
        cases r2 with
        | nil => cases hz
        | cons c r3 =>
          cases hz
          have := zd_dec (h b pc a.toNat c.toNat (by rw [e1, hy]) e3 (zd_u1 e4).1)
          rw [this]
          congr 2
          omega
    · simp only [if_neg hy] at hz; cases hz
theorem zdo_42 : zdok (42, 0, fun _ _ _ => .aload_n 0) := zd_0 (fun b pc h => by unfold Decoder.instr; show Except.bind (Reader.u1 (ε := DecodeError) b pc) _ = _; rw [h]; rfl)
theorem zdo_180 : zdok (180, 2, fun x y _ => .getfield (x * 256 + y)) := zd_2 (fun b pc a c h h1 h2 => by unfold Decoder.instr; show Except.bind (Reader.u1 (ε := DecodeError) b pc) _ = _; rw [h]; show Except.bind (Reader.u2 (ε := DecodeError) b (pc + 1)) _ = _; rw [zd_u2 h1 h2]; rfl)
theorem zdo_182 : zdok (182, 2, fun x y _ => .invokevirtual (x * 256 + y)) := zd_2 (fun b pc a c h h1 h2 => by unfold Decoder.instr; show Except.bind (Reader.u1 (ε := DecodeError) b pc) _ = _; rw [h]; show Except.bind (Reader.u2 (ε := DecodeError) b (pc + 1)) _ = _; rw [zd_u2 h1 h2]; rfl)
theorem zdo_27 : zdok (27, 0, fun _ _ _ => .iload_n 1) := zd_0 (fun b pc h => by unfold Decoder.instr; show Except.bind (Reader.u1 (ε := DecodeError) b pc) _ = _; rw [h]; rfl)
theorem zdo_16 : zdok (16, 1, fun x _ _ => .bipush (Reader.signed 8 x)) := zd_1 (fun b pc a h h1 => by unfold Decoder.instr; show Except.bind (Reader.u1 (ε := DecodeError) b pc) _ = _; rw [h]; show Except.bind (Reader.s1 (ε := DecodeError) b (pc + 1)) _ = _; rw [zd_s1 h1]; rfl)
theorem zdo_172 : zdok (172, 0, fun _ _ _ => .ireturn) := zd_0 (fun b pc h => by unfold Decoder.instr; show Except.bind (Reader.u1 (ε := DecodeError) b pc) _ = _; rw [h]; rfl)
theorem zdo_3 : zdok (3, 0, fun _ _ _ => .iconst 0) := zd_0 (fun b pc h => by unfold Decoder.instr; show Except.bind (Reader.u1 (ε := DecodeError) b pc) _ = _; rw [h]; rfl)
theorem zdo_4 : zdok (4, 0, fun _ _ _ => .iconst 1) := zd_0 (fun b pc h => by unfold Decoder.instr; show Except.bind (Reader.u1 (ε := DecodeError) b pc) _ = _; rw [h]; rfl)
theorem zdo_28 : zdok (28, 0, fun _ _ _ => .iload_n 2) := zd_0 (fun b pc h => by unfold Decoder.instr; show Except.bind (Reader.u1 (ε := DecodeError) b pc) _ = _; rw [h]; rfl)
theorem zdo_46 : zdok (46, 0, fun _ _ _ => .iaload) := zd_0 (fun b pc h => by unfold Decoder.instr; show Except.bind (Reader.u1 (ε := DecodeError) b pc) _ = _; rw [h]; rfl)
theorem zdo_29 : zdok (29, 0, fun _ _ _ => .iload_n 3) := zd_0 (fun b pc h => by unfold Decoder.instr; show Except.bind (Reader.u1 (ε := DecodeError) b pc) _ = _; rw [h]; rfl)
theorem zdo_167 : zdok (167, 2, fun x y _ => .goto (Reader.signed 16 (x * 256 + y))) := zd_2 (fun b pc a c h h1 h2 => by unfold Decoder.instr; show Except.bind (Reader.u1 (ε := DecodeError) b pc) _ = _; rw [h]; show Except.bind (Reader.s2 (ε := DecodeError) b (pc + 1)) _ = _; rw [zd_s2 h1 h2]; rfl)
theorem zdo_96 : zdok (96, 0, fun _ _ _ => .iadd) := zd_0 (fun b pc h => by unfold Decoder.instr; show Except.bind (Reader.u1 (ε := DecodeError) b pc) _ = _; rw [h]; rfl)
theorem zdo_21 : zdok (21, 1, fun x _ _ => .iload x) := zd_1 (fun b pc a h h1 => by unfold Decoder.instr; show Except.bind (Reader.u1 (ε := DecodeError) b pc) _ = _; rw [h]; show Except.bind (Reader.u1 (ε := DecodeError) b (pc + 1)) _ = _; rw [h1]; rfl)
theorem zdo_181 : zdok (181, 2, fun x y _ => .putfield (x * 256 + y)) := zd_2 (fun b pc a c h h1 h2 => by unfold Decoder.instr; show Except.bind (Reader.u1 (ε := DecodeError) b pc) _ = _; rw [h]; show Except.bind (Reader.u2 (ε := DecodeError) b (pc + 1)) _ = _; rw [zd_u2 h1 h2]; rfl)
theorem zdo_89 : zdok (89, 0, fun _ _ _ => .dup) := zd_0 (fun b pc h => by unfold Decoder.instr; show Except.bind (Reader.u1 (ε := DecodeError) b pc) _ = _; rw [h]; rfl)
theorem zdo_159 : zdok (159, 2, fun x y _ => .if_icmp .eq (Reader.signed 16 (x * 256 + y))) := zd_2 (fun b pc a c h h1 h2 => by unfold Decoder.instr; show Except.bind (Reader.u1 (ε := DecodeError) b pc) _ = _; rw [h]; show Except.bind (Reader.s2 (ε := DecodeError) b (pc + 1)) _ = _; rw [zd_s2 h1 h2]; rfl)
theorem zdo_160 : zdok (160, 2, fun x y _ => .if_icmp .ne (Reader.signed 16 (x * 256 + y))) := zd_2 (fun b pc a c h h1 h2 => by unfold Decoder.instr; show Except.bind (Reader.u1 (ε := DecodeError) b pc) _ = _; rw [h]; show Except.bind (Reader.s2 (ε := DecodeError) b (pc + 1)) _ = _; rw [zd_s2 h1 h2]; rfl)
theorem zdo_161 : zdok (161, 2, fun x y _ => .if_icmp .lt (Reader.signed 16 (x * 256 + y))) := zd_2 (fun b pc a c h h1 h2 => by unfold Decoder.instr; show Except.bind (Reader.u1 (ε := DecodeError) b pc) _ = _; rw [h]; show Except.bind (Reader.s2 (ε := DecodeError) b (pc + 1)) _ = _; rw [zd_s2 h1 h2]; rfl)
theorem zdo_162 : zdok (162, 2, fun x y _ => .if_icmp .ge (Reader.signed 16 (x * 256 + y))) := zd_2 (fun b pc a c h h1 h2 => by unfold Decoder.instr; show Except.bind (Reader.u1 (ε := DecodeError) b pc) _ = _; rw [h]; show Except.bind (Reader.s2 (ε := DecodeError) b (pc + 1)) _ = _; rw [zd_s2 h1 h2]; rfl)
theorem zdo_163 : zdok (163, 2, fun x y _ => .if_icmp .gt (Reader.signed 16 (x * 256 + y))) := zd_2 (fun b pc a c h h1 h2 => by unfold Decoder.instr; show Except.bind (Reader.u1 (ε := DecodeError) b pc) _ = _; rw [h]; show Except.bind (Reader.s2 (ε := DecodeError) b (pc + 1)) _ = _; rw [zd_s2 h1 h2]; rfl)
theorem zdo_164 : zdok (164, 2, fun x y _ => .if_icmp .le (Reader.signed 16 (x * 256 + y))) := zd_2 (fun b pc a c h h1 h2 => by unfold Decoder.instr; show Except.bind (Reader.u1 (ε := DecodeError) b pc) _ = _; rw [h]; show Except.bind (Reader.s2 (ε := DecodeError) b (pc + 1)) _ = _; rw [zd_s2 h1 h2]; rfl)
theorem zdo_2 : zdok (2, 0, fun _ _ _ => .iconst (-1)) := zd_0 (fun b pc h => by unfold Decoder.instr; show Except.bind (Reader.u1 (ε := DecodeError) b pc) _ = _; rw [h]; rfl)
theorem zdo_132 : zdok (132, 2, fun x y _ => .iinc x (Reader.signed 8 y)) := zd_2 (fun b pc a c h h1 h2 => by unfold Decoder.instr; show Except.bind (Reader.u1 (ε := DecodeError) b pc) _ = _; rw [h]; show Except.bind (Reader.u1 (ε := DecodeError) b (pc + 1)) _ = _; rw [h1]; show Except.bind (Reader.s1 (ε := DecodeError) b (pc + 2)) _ = _; rw [zd_s1 h2]; rfl)
theorem zdo_153 : zdok (153, 2, fun x y _ => .ifCond .eq (Reader.signed 16 (x * 256 + y))) := zd_2 (fun b pc a c h h1 h2 => by unfold Decoder.instr; show Except.bind (Reader.u1 (ε := DecodeError) b pc) _ = _; rw [h]; show Except.bind (Reader.s2 (ε := DecodeError) b (pc + 1)) _ = _; rw [zd_s2 h1 h2]; rfl)
theorem zdo_154 : zdok (154, 2, fun x y _ => .ifCond .ne (Reader.signed 16 (x * 256 + y))) := zd_2 (fun b pc a c h h1 h2 => by unfold Decoder.instr; show Except.bind (Reader.u1 (ε := DecodeError) b pc) _ = _; rw [h]; show Except.bind (Reader.s2 (ε := DecodeError) b (pc + 1)) _ = _; rw [zd_s2 h1 h2]; rfl)
theorem zdo_155 : zdok (155, 2, fun x y _ => .ifCond .lt (Reader.signed 16 (x * 256 + y))) := zd_2 (fun b pc a c h h1 h2 => by unfold Decoder.instr; show Except.bind (Reader.u1 (ε := DecodeError) b pc) _ = _; rw [h]; show Except.bind (Reader.s2 (ε := DecodeError) b (pc + 1)) _ = _; rw [zd_s2 h1 h2]; rfl)
theorem zdo_156 : zdok (156, 2, fun x y _ => .ifCond .ge (Reader.signed 16 (x * 256 + y))) := zd_2 (fun b pc a c h h1 h2 => by unfold Decoder.instr; show Except.bind (Reader.u1 (ε := DecodeError) b pc) _ = _; rw [h]; show Except.bind (Reader.s2 (ε := DecodeError) b (pc + 1)) _ = _; rw [zd_s2 h1 h2]; rfl)
theorem zdo_157 : zdok (157, 2, fun x y _ => .ifCond .gt (Reader.signed 16 (x * 256 + y))) := zd_2 (fun b pc a c h h1 h2 => by unfold Decoder.instr; show Except.bind (Reader.u1 (ε := DecodeError) b pc) _ = _; rw [h]; show Except.bind (Reader.s2 (ε := DecodeError) b (pc + 1)) _ = _; rw [zd_s2 h1 h2]; rfl)
theorem zdo_158 : zdok (158, 2, fun x y _ => .ifCond .le (Reader.signed 16 (x * 256 + y))) := zd_2 (fun b pc a c h h1 h2 => by unfold Decoder.instr; show Except.bind (Reader.u1 (ε := DecodeError) b pc) _ = _; rw [h]; show Except.bind (Reader.s2 (ε := DecodeError) b (pc + 1)) _ = _; rw [zd_s2 h1 h2]; rfl)
theorem zdo_79 : zdok (79, 0, fun _ _ _ => .iastore) := zd_0 (fun b pc h => by unfold Decoder.instr; show Except.bind (Reader.u1 (ε := DecodeError) b pc) _ = _; rw [h]; rfl)
theorem zdo_84 : zdok (84, 0, fun _ _ _ => .bastore) := zd_0 (fun b pc h => by unfold Decoder.instr; show Except.bind (Reader.u1 (ε := DecodeError) b pc) _ = _; rw [h]; rfl)
theorem zdo_184 : zdok (184, 2, fun x y _ => .invokestatic (x * 256 + y)) := zd_2 (fun b pc a c h h1 h2 => by unfold Decoder.instr; show Except.bind (Reader.u1 (ε := DecodeError) b pc) _ = _; rw [h]; show Except.bind (Reader.u2 (ε := DecodeError) b (pc + 1)) _ = _; rw [zd_u2 h1 h2]; rfl)
theorem zdo_5 : zdok (5, 0, fun _ _ _ => .iconst 2) := zd_0 (fun b pc h => by unfold Decoder.instr; show Except.bind (Reader.u1 (ε := DecodeError) b pc) _ = _; rw [h]; rfl)
theorem zdo_54 : zdok (54, 1, fun x _ _ => .istore x) := zd_1 (fun b pc a h h1 => by unfold Decoder.instr; show Except.bind (Reader.u1 (ε := DecodeError) b pc) _ = _; rw [h]; show Except.bind (Reader.u1 (ε := DecodeError) b (pc + 1)) _ = _; rw [h1]; rfl)
theorem zdo_177 : zdok (177, 0, fun _ _ _ => .return_) := zd_0 (fun b pc h => by unfold Decoder.instr; show Except.bind (Reader.u1 (ε := DecodeError) b pc) _ = _; rw [h]; rfl)
theorem zdo_100 : zdok (100, 0, fun _ _ _ => .isub) := zd_0 (fun b pc h => by unfold Decoder.instr; show Except.bind (Reader.u1 (ε := DecodeError) b pc) _ = _; rw [h]; rfl)
theorem zdo_43 : zdok (43, 0, fun _ _ _ => .aload_n 1) := zd_0 (fun b pc h => by unfold Decoder.instr; show Except.bind (Reader.u1 (ε := DecodeError) b pc) _ = _; rw [h]; rfl)
theorem zdo_62 : zdok (62, 0, fun _ _ _ => .istore_n 3) := zd_0 (fun b pc h => by unfold Decoder.instr; show Except.bind (Reader.u1 (ε := DecodeError) b pc) _ = _; rw [h]; rfl)
theorem zdo_61 : zdok (61, 0, fun _ _ _ => .istore_n 2) := zd_0 (fun b pc h => by unfold Decoder.instr; show Except.bind (Reader.u1 (ε := DecodeError) b pc) _ = _; rw [h]; rfl)
theorem zdo_44 : zdok (44, 0, fun _ _ _ => .aload_n 2) := zd_0 (fun b pc h => by unfold Decoder.instr; show Except.bind (Reader.u1 (ε := DecodeError) b pc) _ = _; rw [h]; rfl)
theorem zdo_26 : zdok (26, 0, fun _ _ _ => .iload_n 0) := zd_0 (fun b pc h => by unfold Decoder.instr; show Except.bind (Reader.u1 (ε := DecodeError) b pc) _ = _; rw [h]; rfl)
theorem zdo_50 : zdok (50, 0, fun _ _ _ => .aaload) := zd_0 (fun b pc h => by unfold Decoder.instr; show Except.bind (Reader.u1 (ε := DecodeError) b pc) _ = _; rw [h]; rfl)
theorem zdo_17 : zdok (17, 2, fun x y _ => .sipush (Reader.signed 16 (x * 256 + y))) := zd_2 (fun b pc a c h h1 h2 => by unfold Decoder.instr; show Except.bind (Reader.u1 (ε := DecodeError) b pc) _ = _; rw [h]; show Except.bind (Reader.s2 (ε := DecodeError) b (pc + 1)) _ = _; rw [zd_s2 h1 h2]; rfl)
theorem zdo_60 : zdok (60, 0, fun _ _ _ => .istore_n 1) := zd_0 (fun b pc h => by unfold Decoder.instr; show Except.bind (Reader.u1 (ε := DecodeError) b pc) _ = _; rw [h]; rfl)
theorem zdo_59 : zdok (59, 0, fun _ _ _ => .istore_n 0) := zd_0 (fun b pc h => by unfold Decoder.instr; show Except.bind (Reader.u1 (ε := DecodeError) b pc) _ = _; rw [h]; rfl)
theorem zdo_7 : zdok (7, 0, fun _ _ _ => .iconst 4) := zd_0 (fun b pc h => by unfold Decoder.instr; show Except.bind (Reader.u1 (ε := DecodeError) b pc) _ = _; rw [h]; rfl)
theorem zdo_6 : zdok (6, 0, fun _ _ _ => .iconst 3) := zd_0 (fun b pc h => by unfold Decoder.instr; show Except.bind (Reader.u1 (ε := DecodeError) b pc) _ = _; rw [h]; rfl)
theorem zdo_133 : zdok (133, 0, fun _ _ _ => .i2l) := zd_0 (fun b pc h => by unfold Decoder.instr; show Except.bind (Reader.u1 (ε := DecodeError) b pc) _ = _; rw [h]; rfl)
theorem zdo_183 : zdok (183, 2, fun x y _ => .invokespecial (x * 256 + y)) := zd_2 (fun b pc a c h h1 h2 => by unfold Decoder.instr; show Except.bind (Reader.u1 (ε := DecodeError) b pc) _ = _; rw [h]; show Except.bind (Reader.u2 (ε := DecodeError) b (pc + 1)) _ = _; rw [zd_u2 h1 h2]; rfl)
theorem zdo_8 : zdok (8, 0, fun _ _ _ => .iconst 5) := zd_0 (fun b pc h => by unfold Decoder.instr; show Except.bind (Reader.u1 (ε := DecodeError) b pc) _ = _; rw [h]; rfl)
theorem zdo_51 : zdok (51, 0, fun _ _ _ => .baload) := zd_0 (fun b pc h => by unfold Decoder.instr; show Except.bind (Reader.u1 (ε := DecodeError) b pc) _ = _; rw [h]; rfl)
theorem zdo_19 : zdok (19, 2, fun x y _ => .ldc_w (x * 256 + y)) := zd_2 (fun b pc a c h h1 h2 => by unfold Decoder.instr; show Except.bind (Reader.u1 (ε := DecodeError) b pc) _ = _; rw [h]; show Except.bind (Reader.u2 (ε := DecodeError) b (pc + 1)) _ = _; rw [zd_u2 h1 h2]; rfl)
theorem zdo_20 : zdok (20, 2, fun x y _ => .ldc2_w (x * 256 + y)) := zd_2 (fun b pc a c h h1 h2 => by unfold Decoder.instr; show Except.bind (Reader.u1 (ε := DecodeError) b pc) _ = _; rw [h]; show Except.bind (Reader.u2 (ε := DecodeError) b (pc + 1)) _ = _; rw [zd_u2 h1 h2]; rfl)
theorem zdo_104 : zdok (104, 0, fun _ _ _ => .imul) := zd_0 (fun b pc h => by unfold Decoder.instr; show Except.bind (Reader.u1 (ε := DecodeError) b pc) _ = _; rw [h]; rfl)
theorem zdo_176 : zdok (176, 0, fun _ _ _ => .areturn) := zd_0 (fun b pc h => by unfold Decoder.instr; show Except.bind (Reader.u1 (ε := DecodeError) b pc) _ = _; rw [h]; rfl)
theorem zdo_87 : zdok (87, 0, fun _ _ _ => .pop) := zd_0 (fun b pc h => by unfold Decoder.instr; show Except.bind (Reader.u1 (ε := DecodeError) b pc) _ = _; rw [h]; rfl)
theorem zdo_187 : zdok (187, 2, fun x y _ => .new (x * 256 + y)) := zd_2 (fun b pc a c h h1 h2 => by unfold Decoder.instr; show Except.bind (Reader.u1 (ε := DecodeError) b pc) _ = _; rw [h]; show Except.bind (Reader.u2 (ε := DecodeError) b (pc + 1)) _ = _; rw [zd_u2 h1 h2]; rfl)
theorem zdo_9 : zdok (9, 0, fun _ _ _ => .lconst 0) := zd_0 (fun b pc h => by unfold Decoder.instr; show Except.bind (Reader.u1 (ε := DecodeError) b pc) _ = _; rw [h]; rfl)
theorem zdo_10 : zdok (10, 0, fun _ _ _ => .lconst 1) := zd_0 (fun b pc h => by unfold Decoder.instr; show Except.bind (Reader.u1 (ε := DecodeError) b pc) _ = _; rw [h]; rfl)
theorem zdo_128 : zdok (128, 0, fun _ _ _ => .ior) := zd_0 (fun b pc h => by unfold Decoder.instr; show Except.bind (Reader.u1 (ε := DecodeError) b pc) _ = _; rw [h]; rfl)
theorem zdo_45 : zdok (45, 0, fun _ _ _ => .aload_n 3) := zd_0 (fun b pc h => by unfold Decoder.instr; show Except.bind (Reader.u1 (ε := DecodeError) b pc) _ = _; rw [h]; rfl)
theorem zdo_120 : zdok (120, 0, fun _ _ _ => .ishl) := zd_0 (fun b pc h => by unfold Decoder.instr; show Except.bind (Reader.u1 (ε := DecodeError) b pc) _ = _; rw [h]; rfl)
theorem zdo_92 : zdok (92, 0, fun _ _ _ => .dup2) := zd_0 (fun b pc h => by unfold Decoder.instr; show Except.bind (Reader.u1 (ε := DecodeError) b pc) _ = _; rw [h]; rfl)
theorem zdo_126 : zdok (126, 0, fun _ _ _ => .iand) := zd_0 (fun b pc h => by unfold Decoder.instr; show Except.bind (Reader.u1 (ε := DecodeError) b pc) _ = _; rw [h]; rfl)
theorem zdo_198 : zdok (198, 2, fun x y _ => .ifnull (Reader.signed 16 (x * 256 + y))) := zd_2 (fun b pc a c h h1 h2 => by unfold Decoder.instr; show Except.bind (Reader.u1 (ε := DecodeError) b pc) _ = _; rw [h]; show Except.bind (Reader.s2 (ε := DecodeError) b (pc + 1)) _ = _; rw [zd_s2 h1 h2]; rfl)
theorem zdo_190 : zdok (190, 0, fun _ _ _ => .arraylength) := zd_0 (fun b pc h => by unfold Decoder.instr; show Except.bind (Reader.u1 (ε := DecodeError) b pc) _ = _; rw [h]; rfl)
theorem zdo_83 : zdok (83, 0, fun _ _ _ => .aastore) := zd_0 (fun b pc h => by unfold Decoder.instr; show Except.bind (Reader.u1 (ε := DecodeError) b pc) _ = _; rw [h]; rfl)
theorem zdo_122 : zdok (122, 0, fun _ _ _ => .ishr) := zd_0 (fun b pc h => by unfold Decoder.instr; show Except.bind (Reader.u1 (ε := DecodeError) b pc) _ = _; rw [h]; rfl)
theorem zdo_30 : zdok (30, 0, fun _ _ _ => .lload_n 0) := zd_0 (fun b pc h => by unfold Decoder.instr; show Except.bind (Reader.u1 (ε := DecodeError) b pc) _ = _; rw [h]; rfl)
theorem zdo_32 : zdok (32, 0, fun _ _ _ => .lload_n 2) := zd_0 (fun b pc h => by unfold Decoder.instr; show Except.bind (Reader.u1 (ε := DecodeError) b pc) _ = _; rw [h]; rfl)
theorem zdo_22 : zdok (22, 1, fun x _ _ => .lload x) := zd_1 (fun b pc a h h1 => by unfold Decoder.instr; show Except.bind (Reader.u1 (ε := DecodeError) b pc) _ = _; rw [h]; show Except.bind (Reader.u1 (ε := DecodeError) b (pc + 1)) _ = _; rw [h1]; rfl)
theorem zdo_148 : zdok (148, 0, fun _ _ _ => .lcmp) := zd_0 (fun b pc h => by unfold Decoder.instr; show Except.bind (Reader.u1 (ε := DecodeError) b pc) _ = _; rw [h]; rfl)
theorem zdo_124 : zdok (124, 0, fun _ _ _ => .iushr) := zd_0 (fun b pc h => by unfold Decoder.instr; show Except.bind (Reader.u1 (ε := DecodeError) b pc) _ = _; rw [h]; rfl)
theorem zdo_78 : zdok (78, 0, fun _ _ _ => .astore_n 3) := zd_0 (fun b pc h => by unfold Decoder.instr; show Except.bind (Reader.u1 (ε := DecodeError) b pc) _ = _; rw [h]; rfl)
theorem zdo_77 : zdok (77, 0, fun _ _ _ => .astore_n 2) := zd_0 (fun b pc h => by unfold Decoder.instr; show Except.bind (Reader.u1 (ε := DecodeError) b pc) _ = _; rw [h]; rfl)
theorem zdo_76 : zdok (76, 0, fun _ _ _ => .astore_n 1) := zd_0 (fun b pc h => by unfold Decoder.instr; show Except.bind (Reader.u1 (ε := DecodeError) b pc) _ = _; rw [h]; rfl)
theorem zdo_58 : zdok (58, 1, fun x _ _ => .astore x) := zd_1 (fun b pc a h h1 => by unfold Decoder.instr; show Except.bind (Reader.u1 (ε := DecodeError) b pc) _ = _; rw [h]; show Except.bind (Reader.u1 (ε := DecodeError) b (pc + 1)) _ = _; rw [h1]; rfl)
theorem zdo_25 : zdok (25, 1, fun x _ _ => .aload x) := zd_1 (fun b pc a h h1 => by unfold Decoder.instr; show Except.bind (Reader.u1 (ε := DecodeError) b pc) _ = _; rw [h]; show Except.bind (Reader.u1 (ε := DecodeError) b (pc + 1)) _ = _; rw [h1]; rfl)
theorem zdo_189 : zdok (189, 2, fun x y _ => .anewarray (x * 256 + y)) := zd_2 (fun b pc a c h h1 h2 => by unfold Decoder.instr; show Except.bind (Reader.u1 (ε := DecodeError) b pc) _ = _; rw [h]; show Except.bind (Reader.u2 (ε := DecodeError) b (pc + 1)) _ = _; rw [zd_u2 h1 h2]; rfl)
theorem zdo_112 : zdok (112, 0, fun _ _ _ => .irem) := zd_0 (fun b pc h => by unfold Decoder.instr; show Except.bind (Reader.u1 (ε := DecodeError) b pc) _ = _; rw [h]; rfl)
theorem zdo_145 : zdok (145, 0, fun _ _ _ => .i2b) := zd_0 (fun b pc h => by unfold Decoder.instr; show Except.bind (Reader.u1 (ε := DecodeError) b pc) _ = _; rw [h]; rfl)
def zdt : List zDe := [(42, 0, fun _ _ _ => .aload_n 0), (180, 2, fun x y _ => .getfield (x * 256 + y)), (182, 2, fun x y _ => .invokevirtual (x * 256 + y)), (27, 0, fun _ _ _ => .iload_n 1), (16, 1, fun x _ _ => .bipush (Reader.signed 8 x)), (172, 0, fun _ _ _ => .ireturn), (3, 0, fun _ _ _ => .iconst 0), (4, 0, fun _ _ _ => .iconst 1), (28, 0, fun _ _ _ => .iload_n 2), (46, 0, fun _ _ _ => .iaload), (29, 0, fun _ _ _ => .iload_n 3), (167, 2, fun x y _ => .goto (Reader.signed 16 (x * 256 + y))), (96, 0, fun _ _ _ => .iadd), (21, 1, fun x _ _ => .iload x), (181, 2, fun x y _ => .putfield (x * 256 + y)), (89, 0, fun _ _ _ => .dup), (159, 2, fun x y _ => .if_icmp .eq (Reader.signed 16 (x * 256 + y))), (160, 2, fun x y _ => .if_icmp .ne (Reader.signed 16 (x * 256 + y))), (161, 2, fun x y _ => .if_icmp .lt (Reader.signed 16 (x * 256 + y))), (162, 2, fun x y _ => .if_icmp .ge (Reader.signed 16 (x * 256 + y))), (163, 2, fun x y _ => .if_icmp .gt (Reader.signed 16 (x * 256 + y))), (164, 2, fun x y _ => .if_icmp .le (Reader.signed 16 (x * 256 + y))), (2, 0, fun _ _ _ => .iconst (-1)), (132, 2, fun x y _ => .iinc x (Reader.signed 8 y)), (153, 2, fun x y _ => .ifCond .eq (Reader.signed 16 (x * 256 + y))), (154, 2, fun x y _ => .ifCond .ne (Reader.signed 16 (x * 256 + y))), (155, 2, fun x y _ => .ifCond .lt (Reader.signed 16 (x * 256 + y))), (156, 2, fun x y _ => .ifCond .ge (Reader.signed 16 (x * 256 + y))), (157, 2, fun x y _ => .ifCond .gt (Reader.signed 16 (x * 256 + y))), (158, 2, fun x y _ => .ifCond .le (Reader.signed 16 (x * 256 + y))), (79, 0, fun _ _ _ => .iastore), (84, 0, fun _ _ _ => .bastore), (184, 2, fun x y _ => .invokestatic (x * 256 + y)), (5, 0, fun _ _ _ => .iconst 2), (54, 1, fun x _ _ => .istore x), (177, 0, fun _ _ _ => .return_), (100, 0, fun _ _ _ => .isub), (43, 0, fun _ _ _ => .aload_n 1), (62, 0, fun _ _ _ => .istore_n 3), (61, 0, fun _ _ _ => .istore_n 2), (44, 0, fun _ _ _ => .aload_n 2), (26, 0, fun _ _ _ => .iload_n 0), (50, 0, fun _ _ _ => .aaload), (17, 2, fun x y _ => .sipush (Reader.signed 16 (x * 256 + y))), (60, 0, fun _ _ _ => .istore_n 1), (59, 0, fun _ _ _ => .istore_n 0), (7, 0, fun _ _ _ => .iconst 4), (6, 0, fun _ _ _ => .iconst 3), (133, 0, fun _ _ _ => .i2l), (183, 2, fun x y _ => .invokespecial (x * 256 + y)), (8, 0, fun _ _ _ => .iconst 5), (51, 0, fun _ _ _ => .baload), (19, 2, fun x y _ => .ldc_w (x * 256 + y)), (20, 2, fun x y _ => .ldc2_w (x * 256 + y)), (104, 0, fun _ _ _ => .imul), (176, 0, fun _ _ _ => .areturn), (87, 0, fun _ _ _ => .pop), (187, 2, fun x y _ => .new (x * 256 + y)), (9, 0, fun _ _ _ => .lconst 0), (10, 0, fun _ _ _ => .lconst 1), (128, 0, fun _ _ _ => .ior), (45, 0, fun _ _ _ => .aload_n 3), (120, 0, fun _ _ _ => .ishl), (92, 0, fun _ _ _ => .dup2), (126, 0, fun _ _ _ => .iand), (198, 2, fun x y _ => .ifnull (Reader.signed 16 (x * 256 + y))), (190, 0, fun _ _ _ => .arraylength), (83, 0, fun _ _ _ => .aastore), (122, 0, fun _ _ _ => .ishr), (30, 0, fun _ _ _ => .lload_n 0), (32, 0, fun _ _ _ => .lload_n 2), (22, 1, fun x _ _ => .lload x), (148, 0, fun _ _ _ => .lcmp), (124, 0, fun _ _ _ => .iushr), (78, 0, fun _ _ _ => .astore_n 3), (77, 0, fun _ _ _ => .astore_n 2), (76, 0, fun _ _ _ => .astore_n 1), (58, 1, fun x _ _ => .astore x), (25, 1, fun x _ _ => .aload x), (189, 2, fun x y _ => .anewarray (x * 256 + y)), (112, 0, fun _ _ _ => .irem), (145, 0, fun _ _ _ => .i2b)]
theorem zdt_ok : ∀ e ∈ zdt, zdok e := List.forall_mem_cons.mpr ⟨zdo_42, List.forall_mem_cons.mpr ⟨zdo_180, List.forall_mem_cons.mpr ⟨zdo_182, List.forall_mem_cons.mpr ⟨zdo_27, List.forall_mem_cons.mpr ⟨zdo_16, List.forall_mem_cons.mpr ⟨zdo_172, List.forall_mem_cons.mpr ⟨zdo_3, List.forall_mem_cons.mpr ⟨zdo_4, List.forall_mem_cons.mpr ⟨zdo_28, List.forall_mem_cons.mpr ⟨zdo_46, List.forall_mem_cons.mpr ⟨zdo_29, List.forall_mem_cons.mpr ⟨zdo_167, List.forall_mem_cons.mpr ⟨zdo_96, List.forall_mem_cons.mpr ⟨zdo_21, List.forall_mem_cons.mpr ⟨zdo_181, List.forall_mem_cons.mpr ⟨zdo_89, List.forall_mem_cons.mpr ⟨zdo_159, List.forall_mem_cons.mpr ⟨zdo_160, List.forall_mem_cons.mpr ⟨zdo_161, List.forall_mem_cons.mpr ⟨zdo_162, List.forall_mem_cons.mpr ⟨zdo_163, List.forall_mem_cons.mpr ⟨zdo_164, List.forall_mem_cons.mpr ⟨zdo_2, List.forall_mem_cons.mpr ⟨zdo_132, List.forall_mem_cons.mpr ⟨zdo_153, List.forall_mem_cons.mpr ⟨zdo_154, List.forall_mem_cons.mpr ⟨zdo_155, List.forall_mem_cons.mpr ⟨zdo_156, List.forall_mem_cons.mpr ⟨zdo_157, List.forall_mem_cons.mpr ⟨zdo_158, List.forall_mem_cons.mpr ⟨zdo_79, List.forall_mem_cons.mpr ⟨zdo_84, List.forall_mem_cons.mpr ⟨zdo_184, List.forall_mem_cons.mpr ⟨zdo_5, List.forall_mem_cons.mpr ⟨zdo_54, List.forall_mem_cons.mpr ⟨zdo_177, List.forall_mem_cons.mpr ⟨zdo_100, List.forall_mem_cons.mpr ⟨zdo_43, List.forall_mem_cons.mpr ⟨zdo_62, List.forall_mem_cons.mpr ⟨zdo_61, List.forall_mem_cons.mpr ⟨zdo_44, List.forall_mem_cons.mpr ⟨zdo_26, List.forall_mem_cons.mpr ⟨zdo_50, List.forall_mem_cons.mpr ⟨zdo_17, List.forall_mem_cons.mpr ⟨zdo_60, List.forall_mem_cons.mpr ⟨zdo_59, List.forall_mem_cons.mpr ⟨zdo_7, List.forall_mem_cons.mpr ⟨zdo_6, List.forall_mem_cons.mpr ⟨zdo_133, List.forall_mem_cons.mpr ⟨zdo_183, List.forall_mem_cons.mpr ⟨zdo_8, List.forall_mem_cons.mpr ⟨zdo_51, List.forall_mem_cons.mpr ⟨zdo_19, List.forall_mem_cons.mpr ⟨zdo_20, List.forall_mem_cons.mpr ⟨zdo_104, List.forall_mem_cons.mpr ⟨zdo_176, List.forall_mem_cons.mpr ⟨zdo_87, List.forall_mem_cons.mpr ⟨zdo_187, List.forall_mem_cons.mpr ⟨zdo_9, List.forall_mem_cons.mpr ⟨zdo_10, List.forall_mem_cons.mpr ⟨zdo_128, List.forall_mem_cons.mpr ⟨zdo_45, List.forall_mem_cons.mpr ⟨zdo_120, List.forall_mem_cons.mpr ⟨zdo_92, List.forall_mem_cons.mpr ⟨zdo_126, List.forall_mem_cons.mpr ⟨zdo_198, List.forall_mem_cons.mpr ⟨zdo_190, List.forall_mem_cons.mpr ⟨zdo_83, List.forall_mem_cons.mpr ⟨zdo_122, List.forall_mem_cons.mpr ⟨zdo_30, List.forall_mem_cons.mpr ⟨zdo_32, List.forall_mem_cons.mpr ⟨zdo_22, List.forall_mem_cons.mpr ⟨zdo_148, List.forall_mem_cons.mpr ⟨zdo_124, List.forall_mem_cons.mpr ⟨zdo_78, List.forall_mem_cons.mpr ⟨zdo_77, List.forall_mem_cons.mpr ⟨zdo_76, List.forall_mem_cons.mpr ⟨zdo_58, List.forall_mem_cons.mpr ⟨zdo_25, List.forall_mem_cons.mpr ⟨zdo_189, List.forall_mem_cons.mpr ⟨zdo_112, List.forall_mem_cons.mpr ⟨zdo_145, fun _ h => absurd h List.not_mem_nil⟩⟩⟩⟩⟩⟩⟩⟩⟩⟩⟩⟩⟩⟩⟩⟩⟩⟩⟩⟩⟩⟩⟩⟩⟩⟩⟩⟩⟩⟩⟩⟩⟩⟩⟩⟩⟩⟩⟩⟩⟩⟩⟩⟩⟩⟩⟩⟩⟩⟩⟩⟩⟩⟩⟩⟩⟩⟩⟩⟩⟩⟩⟩⟩⟩⟩⟩⟩⟩⟩⟩⟩⟩⟩⟩⟩⟩⟩⟩⟩⟩⟩
/-- the first entry that fits -/
def zdec : List zDe → List UInt8 → Option (Instr × Nat)
  | [], _ => none
  | e :: r, l => match zd1 e l with
    | some q => some q
    | none => zdec r l
theorem zdec_ok : ∀ (t : List zDe), (∀ e ∈ t, zdok e) → ∀ (b : ByteArray) (pc : Nat) (x : Instr) (n : Nat), zdec t (b.data.toList.drop pc) = some (x, n) → decode b pc = .ok (x, n)
  | [], _, b, pc, x, n, h => by cases h
  | e :: r, ht, b, pc, x, n, h => by
    unfold zdec at h
    cases h1 : zd1 e (b.data.toList.drop pc) with
    | some q => rw [h1] at h; cases h; exact ht e List.mem_cons_self b pc x n h1
    | none => rw [h1] at h; exact zdec_ok r (fun z hz => ht z (List.mem_cons_of_mem _ hz)) b pc x n h
end
section
/-! An instruction of the bytecode against a row of the small machine: own class, places, row number, arguments, instruction -/
def zpc (pcs : List Nat) (i : Nat) : Nat := pcs.getD i 0
def zjm (pcs : List Nat) (i : Nat) (off t : Int) : Bool := decide ((zpc pcs i : Int) + off = (zpc pcs t.toNat : Int))
abbrev zH : Type := Nat → List Nat → Nat → List Int → Instr → Bool
def zh_const : zH := fun own _ _ a x => match x with
  | .iconst v => decide (v = zarg a 0 ∧ -2147483648 ≤ v ∧ v ≤ 2147483647)
  | .bipush v => decide (v = zarg a 0 ∧ -2147483648 ≤ v ∧ v ≤ 2147483647) && decide ((Int8.ofInt v).toInt32 = Int32.ofInt v)
  | .sipush v => decide (v = zarg a 0 ∧ -2147483648 ≤ v ∧ v ≤ 2147483647) && decide ((Int16.ofInt v).toInt32 = Int32.ofInt v)
  | .ldc_w k => decide (own = 12 ∧ k = 370 ∧ zarg a 0 = 268435456)
  | _ => false
def zh_lconst : zH := fun own _ _ a x => match x with
  | .lconst v => decide (((v : Nat) : Int) = zarg a 0)
  | .ldc2_w k => decide (own = 12 ∧ -2147483648 ≤ zarg a 0 ∧ zarg a 0 ≤ 2147483647) && zLc.any (fun e => e.1 == k && e.2.1 == zarg a 0)
  | _ => false
def zh_iload : zH := fun _ _ _ a x => match x with
  | .iload k => decide ((k : Int) = zarg a 0)
  | .iload_n k => decide (((k : Nat) : Int) = zarg a 0)
  | _ => false
def zh_aload : zH := fun _ _ _ a x => match x with
  | .aload k => decide ((k : Int) = zarg a 0)
  | .aload_n k => decide (((k : Nat) : Int) = zarg a 0)
  | _ => false
def zh_lload : zH := fun _ _ _ a x => match x with
  | .lload k => decide ((k : Int) = zarg a 0)
  | .lload_n k => decide (((k : Nat) : Int) = zarg a 0)
  | _ => false
def zh_istore : zH := fun _ _ _ a x => match x with
  | .istore k => decide ((k : Int) = zarg a 0)
  | .istore_n k => decide (((k : Nat) : Int) = zarg a 0)
  | _ => false
def zh_astore : zH := fun _ _ _ a x => match x with
  | .astore k => decide ((k : Int) = zarg a 0)
  | .astore_n k => decide (((k : Nat) : Int) = zarg a 0)
  | _ => false
def zh_iinc : zH := fun _ _ _ a x => match x with
  | .iinc k d => decide ((k : Int) = zarg a 0 ∧ d = zarg a 1)
  | _ => false
def zh_is (y : Instr) : zH := fun _ _ _ _ x => decide (x = y)
def zh_if (q : ClassFile.Cond) : zH := fun _ pcs i a x => match x with
  | .ifCond k off => decide (k = q) && zjm pcs i off (zarg a 0)
  | _ => false
def zh_cmp (q : ClassFile.Cond) : zH := fun _ pcs i a x => match x with
  | .if_icmp k off => decide (k = q) && zjm pcs i off (zarg a 0)
  | _ => false
def zh_goto : zH := fun _ pcs i a x => match x with
  | .goto off => zjm pcs i off (zarg a 0)
  | _ => false
def zh_ifnull : zH := fun _ pcs i a x => match x with
  | .ifnull off => zjm pcs i off (zarg a 0)
  | _ => false
def zh_table : zH := fun _ pcs i a x => match x with
  | .tableswitch d lo hi offs => decide (lo = zarg a 0 ∧ hi = lo + (a.drop 2).length - 1 ∧ offs.size = (a.drop 2).length) && zjm pcs i d (zarg a 1) && (List.range offs.size).all (fun k => zjm pcs i (offs.getD k 0) ((a.drop 2).getD k 0))
  | _ => false
def zlk (pcs : List Nat) (i : Nat) : List (Int × Int) → List Int → Bool
  | [], [] => true
  | z :: r, k :: t :: a => decide (z.1 = k) && (zjm pcs i z.2 t && zlk pcs i r a)
  | _, _ => false
def zh_lookup : zH := fun _ pcs i a x => match x with
  | .lookupswitch d ps => zlk pcs i ps.toList (a.drop 1) && zjm pcs i d (zarg a 0) && ((ps.toList.zip (ps.toList.drop 1)).all (fun (z, w) => z.1 < w.1))
  | _ => false
def zh_getf : zH := fun own _ _ a x => match x with
  | .getfield k => decide ((k : Int) = zarg a 0) && zFl.any (fun e => e.1 == own && (e.2.1 == k && (e.2.2.1 == (zarg a 1).toNat && e.2.2.2.1 == (zarg a 2).toNat))) && decide (0 ≤ zarg a 1 ∧ 0 ≤ zarg a 2 ∧ zarg a 1 < 13 ∧ (zarg a 2).toNat < zN (zarg a 1).toNat ∧ (zkd (zarg a 1).toNat (zarg a 2).toNat : Int) = zarg a 3)
  | _ => false
def zh_putf : zH := fun own _ _ a x => match x with
  | .putfield k => decide ((k : Int) = zarg a 0) && zFl.any (fun e => e.1 == own && (e.2.1 == k && (e.2.2.1 == (zarg a 1).toNat && e.2.2.2.1 == (zarg a 2).toNat))) && decide (0 ≤ zarg a 1 ∧ 0 ≤ zarg a 2 ∧ zarg a 1 < 13 ∧ (zarg a 2).toNat < zN (zarg a 1).toNat ∧ (zkd (zarg a 1).toNat (zarg a 2).toNat : Int) = zarg a 3)
  | _ => false
def zh_new : zH := fun own _ _ a x => match x with
  | .new k => decide ((k : Int) = zarg a 0) && zCl.any (fun e => e.1 == own && (e.2.1 == k && e.2.2.1 == (zarg a 1).toNat)) && decide (0 ≤ zarg a 1 ∧ zarg a 1 < 13)
  | _ => false
def zh_newa : zH := fun _ _ _ a x => match x with
  | .newarray .int => decide (zarg a 0 = 1)
  | .newarray .byte => decide (zarg a 0 = 2)
  | .newarray .boolean => decide (zarg a 0 = 3)
  | _ => false
def zh_newq : zH := fun own _ _ a x => match x with
  | .anewarray k => decide ((k : Int) = zarg a 0) && zCl.any (fun e => e.1 == own && (e.2.1 == k && e.2.2.1 == (zarg a 1).toNat)) && decide (zarg a 1 = 10)
  | _ => false
def zh_newm : zH := fun own _ _ a x => match x with
  | .multianewarray k d => decide ((k : Int) = zarg a 0 ∧ d = 2) && zOl.any (fun e => e.1 == 52 && (e.2.1 == own && e.2.2.1 == k))
  | _ => false
def zh_obj : zH := fun own _ _ a x => match x with
  | .invokespecial k => decide ((k : Int) = zarg a 0) && zOl.any (fun e => e.1 == 53 && (e.2.1 == own && e.2.2.1 == k))
  | _ => false
def zh_st (op : Nat) : zH := fun own _ _ a x => match x with
  | .invokestatic k => decide ((k : Int) = zarg a 0) && zOl.any (fun e => e.1 == op && (e.2.1 == own && e.2.2.1 == k))
  | _ => false
def zh_vi (op : Nat) : zH := fun own _ _ a x => match x with
  | .invokevirtual k => decide ((k : Int) = zarg a 0) && zOl.any (fun e => e.1 == op && (e.2.1 == own && e.2.2.1 == k))
  | _ => false
def zh_text : zH := fun own _ _ a x => match x with
  | .ldc_w k => decide ((k : Int) = zarg a 0 ∧ own = 0 ∧ 0 ≤ zarg a 1 ∧ zarg a 1 < 17) && zTl.any (fun e => e.1 == k && e.2.1 == (zarg a 1).toNat)
  | _ => false
def zh_call : zH := fun own _ _ a x => match x with
  | .invokevirtual k => decide ((k : Int) = zarg a 1 ∧ zarg a 0 = 0 ∧ 0 ≤ zarg a 2 ∧ zarg a 3 = (zown (zarg a 2).toNat : Int)) && zMl.any (fun e => e.1 == own && (e.2.1 == k && (e.2.2.1 == 0 && e.2.2.2.1 == (zarg a 2).toNat)))
  | .invokespecial k => decide ((k : Int) = zarg a 1 ∧ zarg a 0 = 2 ∧ 0 ≤ zarg a 2) && zMl.any (fun e => e.1 == own && (e.2.1 == k && (e.2.2.1 == 2 && e.2.2.2.1 == (zarg a 2).toNat)))
  | .invokestatic k => decide ((k : Int) = zarg a 1 ∧ zarg a 0 = 1 ∧ 0 ≤ zarg a 2) && (zMl.any (fun e => e.1 == own && (e.2.1 == k && (e.2.2.1 == 1 && e.2.2.2.1 == (zarg a 2).toNat))) || zMl.any (fun e => e.1 == own && (e.2.1 == k && (e.2.2.1 == 3 && e.2.2.2.1 == (zarg a 2).toNat))))
  | _ => false
def zHs : List zH := [zh_const, zh_lconst, zh_iload, zh_aload, zh_lload, zh_istore, zh_astore, zh_iinc,
  zh_is .iadd, zh_is .isub, zh_is .imul, zh_is .irem, zh_is .ishl, zh_is .ishr, zh_is .iushr, zh_is .iand, zh_is .ior, zh_is .i2l, zh_is .i2b, zh_is .lcmp, zh_is .dup, zh_is .pop, zh_is .dup2,
  zh_if .eq, zh_if .ne, zh_if .lt, zh_if .ge, zh_if .gt, zh_if .le, zh_cmp .eq, zh_cmp .ne, zh_cmp .lt, zh_cmp .ge, zh_cmp .gt, zh_cmp .le,
  zh_goto, zh_ifnull, zh_table, zh_lookup, fun _ _ _ _ _ => false, zh_getf, zh_putf, zh_is .iaload, zh_is .baload, zh_is .aaload, zh_is .iastore, zh_is .bastore, zh_is .aastore, zh_is .arraylength,
  zh_new, zh_newa, zh_newq, zh_newm, zh_obj, zh_st 54, zh_st 55, zh_st 56, zh_text, zh_vi 58, zh_vi 59, zh_call, fun _ _ _ _ _ => false, fun _ _ _ _ _ => false, fun _ _ _ _ _ => false, fun _ _ _ _ _ => false,
  fun _ _ _ _ _ => false, fun _ _ _ _ _ => false, fun _ _ _ _ _ => false, fun _ _ _ _ _ => false, fun _ _ _ _ _ => false, zh_is .ireturn, zh_is .return_, zh_is .areturn, zh_is .ireturn, fun _ _ _ _ _ => false, fun _ _ _ _ _ => false, fun _ _ _ _ _ => false, fun _ _ _ _ _ => false, fun _ _ _ _ _ => false, fun _ _ _ _ _ => false, zh_is .iaload, zh_is .arraylength]
/-- how long an instruction is (not the switches) -/
def zilen : Instr → Option Nat
  | .iconst _ | .lconst _ | .iload_n _ | .aload_n _ | .lload_n _ | .istore_n _ | .astore_n _ | .iadd | .isub | .imul | .irem | .ishl | .ishr | .iushr | .iand | .ior | .i2l | .i2b | .lcmp | .dup | .pop | .dup2 | .iaload | .baload | .aaload | .iastore | .bastore | .aastore | .arraylength | .ireturn | .return_ | .areturn => some 1
  | .bipush _ | .iload _ | .aload _ | .lload _ | .istore _ | .astore _ | .newarray _ => some 2
  | .sipush _ | .ldc_w _ | .ldc2_w _ | .iinc _ _ | .ifCond _ _ | .if_icmp _ _ | .goto _ | .ifnull _ | .getfield _ | .putfield _ | .new _ | .anewarray _ | .invokevirtual _ | .invokespecial _ | .invokestatic _ => some 3
  | .multianewarray _ _ => some 4
  | _ => none
def zlenok (x : Instr) (n : Nat) : Bool := match zilen x with
  | some k => k == n
  | none => true
/-- the rows of a method against its bytes, from the first on -/
def zgo (own : Nat) (b : ByteArray) (all : List Nat) : Nat → List zIn → List Nat → List UInt8 → Bool
  | _, [], _, _ => true
  | i, q :: qs, pc :: pcs, y :: l => match (match zdec zdt (y :: l) with
      | some r => some r
      | none => (match decode b pc with
        | .ok r => some r
        | .error _ => none)) with
    | none => false
    | some r => (match pcs with
        | [] => decide (70 ≤ q.1 ∧ q.1 < 80)
        | pc2 :: _ => pc2 == pc + r.2) && zlenok r.1 r.2 && ((zHs.getD q.1 (fun _ _ _ _ _ => false)) own all i q.2 r.1 && zgo own b all (i + 1) qs pcs ((y :: l).drop r.2))
  | _, _ :: _, _, _ => false
theorem zgo_spec (own : Nat) (b : ByteArray) (all : List Nat) : ∀ (qs : List zIn) (i : Nat) (pcs : List Nat) (l : List UInt8), zgo own b all i qs pcs l = true → (∀ pc, pcs.head? = some pc → l = b.data.toList.drop pc) → ∀ (j : Nat) (q : zIn), qs[j]? = some q →
    ∃ (x : Instr) (n : Nat), decode b (pcs.getD j 0) = .ok (x, n) ∧ ((70 ≤ q.1 ∧ q.1 < 80) ∨ pcs.getD (j + 1) 0 = pcs.getD j 0 + n) ∧ zlenok x n = true ∧ (zHs.getD q.1 (fun _ _ _ _ _ => false)) own all (i + j) q.2 x = true := by
  intro qs
  induction qs with
  | nil => intro i pcs l _ _ j q h; simp at h
  | cons q0 qs ih =>
    intro i pcs l h hl j q hj
    cases pcs with
    | nil => cases l <;> simp [zgo] at h
    | cons pc pcs =>
      cases l with
      | nil => simp [zgo] at h
      | cons y l =>
        have hl0 := hl pc rfl
        rw [zgo] at h
        have hdec : ∃ x n, decode b pc = .ok (x, n) ∧ (match zdec zdt (y :: l) with
            | some r => some r
            | none => (match decode b pc with
              | .ok r => some r
              | .error _ => none)) = some (x, n) := by
          cases h1 : zdec zdt (y :: l) with
          | some r =>
            obtain ⟨x, n⟩ := r
            exact ⟨x, n, zdec_ok zdt zdt_ok b pc x n (by rw [← hl0]; exact h1), rfl⟩
          | none =>
            rw [h1] at h
            cases h2 : decode b pc with
            | ok r => exact ⟨r.1, r.2, rfl, rfl⟩
            | error e => rw [h2] at h; cases h
        obtain ⟨x, n, hd, he⟩ := hdec
        rw [he] at h
        simp only [Bool.and_eq_true] at h
        obtain ⟨⟨h1, h4⟩, h2, h3⟩ := h
        cases j with
        | zero =>
          simp only [List.getElem?_cons_zero] at hj
          cases hj
          refine ⟨x, n, hd, ?_, h4, by simpa using h2⟩
          cases pcs with
          | nil => exact Or.inl (of_decide_eq_true h1)
          | cons pc2 pcs => exact Or.inr (by simpa using h1)
        | succ j =>
          simp only [List.getElem?_cons_succ] at hj
          have := ih (i + 1) pcs _ h3 (fun p hp => by
            cases pcs with
            | nil => cases hp
            | cons pc2 pcs =>
              simp only [List.head?_cons, Option.some.injEq] at hp
              subst hp
              have e2 : pc2 = pc + n := by simpa using h1
              rw [e2, ← List.drop_drop, ← hl0]) j q hj
          obtain ⟨x', n', a1, a2, a4, a3⟩ := this
          refine ⟨x', n', by simpa using a1, by simpa using a2, a4, ?_⟩
          rw [show i + (j + 1) = i + 1 + j by omega]
          exact a3
/-- a whole method: its rows; no stores where it takes longs; what it calls costs less room; its ends' type -/
def zgQ (i : Nat) (q : zIn) : Bool := (q.1 != 60 || decide (zfr (zarg q.2 2).toNat + 1 ≤ zfr i ∧ 8 + (zmL (zarg q.2 2).toNat + 11) + zlo (zarg q.2 2).toNat ≤ zlo i ∧ (zarg q.2 2).toNat < zPt.length)) &&
    ((decide (q.1 ≠ 58 ∧ q.1 ≠ 59) || decide (5 ≤ zfr i ∧ 150 ≤ zlo i)) &&
    (decide (q.1 ≠ 41 ∨ zarg q.2 3 ≠ 1) || decide (zhow i = 2 ∧ zarg q.2 1 = (zown i : Int))) &&
    (decide (q.1 < 70) || (match zret i with | none => decide (q.1 = 71) | some .int => decide (q.1 = 70) | some .boolean => decide (q.1 = 73) | some _ => decide (q.1 = 72))))
def zgM (i : Nat) : Bool := zgo (zown i) (zb i) (zps i) 0 (zk i) (zps i) (zb i).data.toList && ((zk i).all (zgQ i) && (decide (zan i ≠ 3) || (zk i).all (fun q => decide (q.1 < 5 ∨ 7 < q.1))) && decide (zna i ≤ zmL i ∧ zown i < 13 ∧ 1 ≤ zfr i ∧ 40 ≤ zlo i ∧ zpc (zps i) 0 = 0))
set_option maxRecDepth 20000 in
theorem zg_0 : zgM 0 = true := by decide +kernel
set_option maxRecDepth 20000 in
theorem zg_1 : zgM 1 = true := by decide +kernel
set_option maxRecDepth 20000 in
theorem zg_2 : zgM 2 = true := by decide +kernel
set_option maxRecDepth 20000 in
theorem zg_3 : zgM 3 = true := by decide +kernel
set_option maxRecDepth 20000 in
theorem zg_4 : zgM 4 = true := by decide +kernel
set_option maxRecDepth 20000 in
theorem zg_5 : zgM 5 = true := by decide +kernel
set_option maxRecDepth 20000 in
theorem zg_6 : zgM 6 = true := by decide +kernel
set_option maxRecDepth 20000 in
theorem zg_7 : zgM 7 = true := by decide +kernel
set_option maxRecDepth 20000 in
theorem zg_8 : zgM 8 = true := by decide +kernel
set_option maxRecDepth 20000 in
theorem zg_9 : zgM 9 = true := by decide +kernel
set_option maxRecDepth 20000 in
theorem zg_10 : zgM 10 = true := by decide +kernel
set_option maxRecDepth 20000 in
theorem zg_11 : zgM 11 = true := by decide +kernel
set_option maxRecDepth 20000 in
theorem zg_12 : zgM 12 = true := by decide +kernel
set_option maxRecDepth 20000 in
theorem zg_13 : zgM 13 = true := by decide +kernel
set_option maxRecDepth 20000 in
theorem zg_14 : zgM 14 = true := by decide +kernel
set_option maxRecDepth 20000 in
theorem zg_15 : zgM 15 = true := by decide +kernel
set_option maxRecDepth 20000 in
theorem zg_16 : zgM 16 = true := by decide +kernel
set_option maxRecDepth 20000 in
theorem zg_17 : zgM 17 = true := by decide +kernel
set_option maxRecDepth 20000 in
theorem zg_18 : zgM 18 = true := by decide +kernel
set_option maxRecDepth 20000 in
theorem zg_19 : zgM 19 = true := by decide +kernel
set_option maxRecDepth 20000 in
theorem zg_20 : zgM 20 = true := by decide +kernel
set_option maxRecDepth 20000 in
theorem zg_21 : zgM 21 = true := by decide +kernel
set_option maxRecDepth 20000 in
theorem zg_22 : zgM 22 = true := by decide +kernel
set_option maxRecDepth 20000 in
theorem zg_23 : zgM 23 = true := by decide +kernel
set_option maxRecDepth 20000 in
theorem zg_24 : zgM 24 = true := by decide +kernel
set_option maxRecDepth 20000 in
theorem zg_25 : zgM 25 = true := by decide +kernel
set_option maxRecDepth 20000 in
theorem zg_26 : zgM 26 = true := by decide +kernel
set_option maxRecDepth 20000 in
theorem zg_27 : zgM 27 = true := by decide +kernel
set_option maxRecDepth 20000 in
theorem zg_28 : zgM 28 = true := by decide +kernel
set_option maxRecDepth 20000 in
theorem zg_29 : zgM 29 = true := by decide +kernel
set_option maxRecDepth 20000 in
theorem zg_30 : zgM 30 = true := by decide +kernel
set_option maxRecDepth 20000 in
theorem zg_31 : zgM 31 = true := by decide +kernel
set_option maxRecDepth 20000 in
theorem zg_32 : zgM 32 = true := by decide +kernel
set_option maxRecDepth 20000 in
theorem zg_33 : zgM 33 = true := by decide +kernel
set_option maxRecDepth 20000 in
theorem zg_34 : zgM 34 = true := by decide +kernel
set_option maxRecDepth 20000 in
theorem zg_35 : zgM 35 = true := by decide +kernel
set_option maxRecDepth 20000 in
theorem zg_36 : zgM 36 = true := by decide +kernel
set_option maxRecDepth 20000 in
theorem zg_37 : zgM 37 = true := by decide +kernel
set_option maxRecDepth 20000 in
theorem zg_38 : zgM 38 = true := by decide +kernel
set_option maxRecDepth 20000 in
theorem zg_39 : zgM 39 = true := by decide +kernel
set_option maxRecDepth 20000 in
theorem zg_40 : zgM 40 = true := by decide +kernel
set_option maxRecDepth 20000 in
theorem zg_41 : zgM 41 = true := by decide +kernel
set_option maxRecDepth 20000 in
theorem zg_42 : zgM 42 = true := by decide +kernel
set_option maxRecDepth 20000 in
theorem zg_43 : zgM 43 = true := by decide +kernel
set_option maxRecDepth 20000 in
theorem zg_44 : zgM 44 = true := by decide +kernel
set_option maxRecDepth 20000 in
theorem zg_45 : zgM 45 = true := by decide +kernel
set_option maxRecDepth 20000 in
theorem zg_46 : zgM 46 = true := by decide +kernel
set_option maxRecDepth 20000 in
theorem zg_47 : zgM 47 = true := by decide +kernel
set_option maxRecDepth 20000 in
theorem zg_48 : zgM 48 = true := by decide +kernel
set_option maxRecDepth 20000 in
theorem zg_49 : zgM 49 = true := by decide +kernel
set_option maxRecDepth 20000 in
theorem zg_50 : zgM 50 = true := by decide +kernel
set_option maxRecDepth 20000 in
theorem zg_51 : zgM 51 = true := by decide +kernel
set_option maxRecDepth 20000 in
theorem zg_52 : zgM 52 = true := by decide +kernel
set_option maxRecDepth 20000 in
theorem zg_53 : zgM 53 = true := by decide +kernel
set_option maxRecDepth 20000 in
theorem zg_54 : zgM 54 = true := by decide +kernel
set_option maxRecDepth 20000 in
theorem zg_55 : zgM 55 = true := by decide +kernel
set_option maxRecDepth 20000 in
theorem zg_56 : zgM 56 = true := by decide +kernel
set_option maxRecDepth 20000 in
theorem zg_57 : zgM 57 = true := by decide +kernel
set_option maxRecDepth 20000 in
theorem zg_58 : zgM 58 = true := by decide +kernel
set_option maxRecDepth 20000 in
theorem zg_59 : zgM 59 = true := by decide +kernel
set_option maxRecDepth 20000 in
theorem zg_60 : zgM 60 = true := by decide +kernel
set_option maxRecDepth 20000 in
theorem zg_61 : zgM 61 = true := by decide +kernel
set_option maxRecDepth 20000 in
theorem zg_62 : zgM 62 = true := by decide +kernel
set_option maxRecDepth 20000 in
theorem zg_63 : zgM 63 = true := by decide +kernel
set_option maxRecDepth 20000 in
theorem zg_64 : zgM 64 = true := by decide +kernel
set_option maxRecDepth 20000 in
theorem zg_65 : zgM 65 = true := by decide +kernel
set_option maxRecDepth 20000 in
theorem zg_66 : zgM 66 = true := by decide +kernel
set_option maxRecDepth 20000 in
theorem zg_67 : zgM 67 = true := by decide +kernel
set_option maxRecDepth 20000 in
theorem zg_68 : zgM 68 = true := by decide +kernel
set_option maxRecDepth 20000 in
theorem zg_69 : zgM 69 = true := by decide +kernel
set_option maxRecDepth 20000 in
theorem zg_70 : zgM 70 = true := by decide +kernel
set_option maxRecDepth 20000 in
theorem zg_71 : zgM 71 = true := by decide +kernel
set_option maxRecDepth 20000 in
theorem zg_72 : zgM 72 = true := by decide +kernel
set_option maxRecDepth 20000 in
theorem zg_73 : zgM 73 = true := by decide +kernel
set_option maxRecDepth 20000 in
theorem zg_74 : zgM 74 = true := by decide +kernel
set_option maxRecDepth 20000 in
theorem zg_75 : zgM 75 = true := by decide +kernel
set_option maxRecDepth 20000 in
theorem zg_76 : zgM 76 = true := by decide +kernel
set_option maxRecDepth 20000 in
theorem zg_77 : zgM 77 = true := by decide +kernel
set_option maxRecDepth 20000 in
theorem zg_78 : zgM 78 = true := by decide +kernel
set_option maxRecDepth 20000 in
theorem zg_79 : zgM 79 = true := by decide +kernel
set_option maxRecDepth 20000 in
theorem zg_80 : zgM 80 = true := by decide +kernel
set_option maxRecDepth 20000 in
theorem zg_81 : zgM 81 = true := by decide +kernel
set_option maxRecDepth 20000 in
theorem zg_82 : zgM 82 = true := by decide +kernel
set_option maxRecDepth 20000 in
theorem zg_83 : zgM 83 = true := by decide +kernel
set_option maxRecDepth 20000 in
theorem zg_84 : zgM 84 = true := by decide +kernel
set_option maxRecDepth 20000 in
theorem zg_85 : zgM 85 = true := by decide +kernel
set_option maxRecDepth 20000 in
theorem zg_86 : zgM 86 = true := by decide +kernel
set_option maxRecDepth 20000 in
theorem zg_87 : zgM 87 = true := by decide +kernel
set_option maxRecDepth 20000 in
theorem zg_88 : zgM 88 = true := by decide +kernel
set_option maxRecDepth 20000 in
theorem zg_89 : zgM 89 = true := by decide +kernel
set_option maxRecDepth 20000 in
theorem zg_90 : zgM 90 = true := by decide +kernel
set_option maxRecDepth 20000 in
theorem zg_91 : zgM 91 = true := by decide +kernel
set_option maxRecDepth 20000 in
theorem zg_92 : zgM 92 = true := by decide +kernel
set_option maxRecDepth 20000 in
theorem zg_93 : zgM 93 = true := by decide +kernel
set_option maxRecDepth 20000 in
theorem zg_94 : zgM 94 = true := by decide +kernel
set_option maxRecDepth 20000 in
theorem zg_95 : zgM 95 = true := by decide +kernel
set_option maxRecDepth 20000 in
theorem zg_96 : zgM 96 = true := by decide +kernel
set_option maxRecDepth 20000 in
theorem zg_97 : zgM 97 = true := by decide +kernel
set_option maxRecDepth 20000 in
theorem zg_98 : zgM 98 = true := by decide +kernel
set_option maxRecDepth 20000 in
theorem zg_99 : zgM 99 = true := by decide +kernel
set_option maxRecDepth 20000 in
theorem zg_100 : zgM 100 = true := by decide +kernel
set_option maxRecDepth 20000 in
theorem zg_101 : zgM 101 = true := by decide +kernel
set_option maxRecDepth 20000 in
theorem zg_102 : zgM 102 = true := by decide +kernel
set_option maxRecDepth 20000 in
theorem zg_103 : zgM 103 = true := by decide +kernel
set_option maxRecDepth 20000 in
theorem zg_104 : zgM 104 = true := by decide +kernel
set_option maxRecDepth 20000 in
theorem zg_105 : zgM 105 = true := by decide +kernel
set_option maxRecDepth 20000 in
theorem zg_106 : zgM 106 = true := by decide +kernel
set_option maxRecDepth 20000 in
theorem zg_107 : zgM 107 = true := by decide +kernel
set_option maxRecDepth 20000 in
theorem zg_108 : zgM 108 = true := by decide +kernel
set_option maxRecDepth 20000 in
theorem zg_109 : zgM 109 = true := by decide +kernel
set_option maxRecDepth 20000 in
theorem zg_110 : zgM 110 = true := by decide +kernel
set_option maxRecDepth 20000 in
theorem zg_111 : zgM 111 = true := by decide +kernel
set_option maxRecDepth 20000 in
theorem zg_112 : zgM 112 = true := by decide +kernel
set_option maxRecDepth 20000 in
theorem zg_113 : zgM 113 = true := by decide +kernel
set_option maxRecDepth 20000 in
theorem zg_114 : zgM 114 = true := by decide +kernel
set_option maxRecDepth 20000 in
theorem zg_115 : zgM 115 = true := by decide +kernel
set_option maxRecDepth 20000 in
theorem zg_116 : zgM 116 = true := by decide +kernel
set_option maxRecDepth 20000 in
theorem zg_117 : zgM 117 = true := by decide +kernel
set_option maxRecDepth 20000 in
theorem zg_118 : zgM 118 = true := by decide +kernel
set_option maxRecDepth 20000 in
theorem zg_119 : zgM 119 = true := by decide +kernel
set_option maxRecDepth 20000 in
theorem zg_120 : zgM 120 = true := by decide +kernel
set_option maxRecDepth 20000 in
theorem zg_121 : zgM 121 = true := by decide +kernel
set_option maxRecDepth 20000 in
theorem zg_122 : zgM 122 = true := by decide +kernel
set_option maxRecDepth 20000 in
theorem zg_123 : zgM 123 = true := by decide +kernel
set_option maxRecDepth 20000 in
theorem zg_124 : zgM 124 = true := by decide +kernel
set_option maxRecDepth 20000 in
theorem zg_125 : zgM 125 = true := by decide +kernel
set_option maxRecDepth 20000 in
theorem zg_126 : zgM 126 = true := by decide +kernel
set_option maxRecDepth 20000 in
theorem zg_127 : zgM 127 = true := by decide +kernel
set_option maxRecDepth 20000 in
theorem zg_128 : zgM 128 = true := by decide +kernel
set_option maxRecDepth 20000 in
theorem zg_129 : zgM 129 = true := by decide +kernel
set_option maxRecDepth 20000 in
theorem zg_130 : zgM 130 = true := by decide +kernel
set_option maxRecDepth 20000 in
theorem zg_131 : zgM 131 = true := by decide +kernel
set_option maxRecDepth 20000 in
theorem zg_132 : zgM 132 = true := by decide +kernel
set_option maxRecDepth 20000 in
theorem zg_133 : zgM 133 = true := by decide +kernel
set_option maxRecDepth 20000 in
theorem zg_134 : zgM 134 = true := by decide +kernel
set_option maxRecDepth 20000 in
theorem zg_135 : zgM 135 = true := by decide +kernel
set_option maxRecDepth 20000 in
theorem zg_136 : zgM 136 = true := by decide +kernel
set_option maxRecDepth 20000 in
theorem zg_137 : zgM 137 = true := by decide +kernel
set_option maxRecDepth 20000 in
theorem zg_138 : zgM 138 = true := by decide +kernel
set_option maxRecDepth 20000 in
theorem zg_139 : zgM 139 = true := by decide +kernel
set_option maxRecDepth 20000 in
theorem zg_140 : zgM 140 = true := by decide +kernel
set_option maxRecDepth 20000 in
theorem zg_141 : zgM 141 = true := by decide +kernel
set_option maxRecDepth 20000 in
theorem zg_142 : zgM 142 = true := by decide +kernel
set_option maxRecDepth 20000 in
theorem zg_143 : zgM 143 = true := by decide +kernel
set_option maxRecDepth 20000 in
theorem zg_144 : zgM 144 = true := by decide +kernel
set_option maxRecDepth 20000 in
theorem zg_145 : zgM 145 = true := by decide +kernel
set_option maxRecDepth 20000 in
theorem zg_146 : zgM 146 = true := by decide +kernel
set_option maxRecDepth 20000 in
theorem zg_147 : zgM 147 = true := by decide +kernel
set_option maxRecDepth 20000 in
theorem zg_148 : zgM 148 = true := by decide +kernel
set_option maxRecDepth 20000 in
theorem zg_149 : zgM 149 = true := by decide +kernel
set_option maxRecDepth 20000 in
theorem zg_150 : zgM 150 = true := by decide +kernel
set_option maxRecDepth 20000 in
theorem zg_151 : zgM 151 = true := by decide +kernel
set_option maxRecDepth 20000 in
theorem zg_152 : zgM 152 = true := by decide +kernel
set_option maxRecDepth 20000 in
theorem zg_153 : zgM 153 = true := by decide +kernel
set_option maxRecDepth 20000 in
theorem zg_154 : zgM 154 = true := by decide +kernel
set_option maxRecDepth 20000 in
theorem zg_155 : zgM 155 = true := by decide +kernel
set_option maxRecDepth 20000 in
theorem zg_156 : zgM 156 = true := by decide +kernel
set_option maxRecDepth 20000 in
theorem zg_157 : zgM 157 = true := by decide +kernel
set_option maxRecDepth 20000 in
theorem zg_158 : zgM 158 = true := by decide +kernel
set_option maxRecDepth 20000 in
theorem zg_159 : zgM 159 = true := by decide +kernel
set_option maxRecDepth 20000 in
theorem zg_160 : zgM 160 = true := by decide +kernel
set_option maxRecDepth 20000 in
theorem zg_161 : zgM 161 = true := by decide +kernel
set_option maxRecDepth 20000 in
theorem zg_162 : zgM 162 = true := by decide +kernel
set_option maxRecDepth 20000 in
theorem zg_163 : zgM 163 = true := by decide +kernel
set_option maxRecDepth 20000 in
theorem zg_164 : zgM 164 = true := by decide +kernel
set_option maxRecDepth 20000 in
theorem zg_165 : zgM 165 = true := by decide +kernel
set_option maxRecDepth 20000 in
theorem zg_166 : zgM 166 = true := by decide +kernel
set_option maxRecDepth 20000 in
theorem zg_167 : zgM 167 = true := by decide +kernel
set_option maxRecDepth 20000 in
theorem zg_168 : zgM 168 = true := by decide +kernel
set_option maxRecDepth 20000 in
theorem zg_169 : zgM 169 = true := by decide +kernel
set_option maxRecDepth 20000 in
theorem zg_170 : zgM 170 = true := by decide +kernel
set_option maxRecDepth 20000 in
theorem zg_171 : zgM 171 = true := by decide +kernel
set_option maxRecDepth 20000 in
theorem zg_172 : zgM 172 = true := by decide +kernel
set_option maxRecDepth 20000 in
theorem zg_173 : zgM 173 = true := by decide +kernel
set_option maxRecDepth 20000 in
theorem zg_174 : zgM 174 = true := by decide +kernel
set_option maxRecDepth 20000 in
theorem zg_175 : zgM 175 = true := by decide +kernel
set_option maxRecDepth 20000 in
theorem zg_176 : zgM 176 = true := by decide +kernel
set_option maxRecDepth 20000 in
theorem zg_177 : zgM 177 = true := by decide +kernel
set_option maxRecDepth 20000 in
theorem zg_178 : zgM 178 = true := by decide +kernel
set_option maxRecDepth 20000 in
theorem zg_179 : zgM 179 = true := by decide +kernel
set_option maxRecDepth 20000 in
theorem zg_180 : zgM 180 = true := by decide +kernel
set_option maxRecDepth 20000 in
theorem zg_181 : zgM 181 = true := by decide +kernel
set_option maxRecDepth 20000 in
theorem zg_182 : zgM 182 = true := by decide +kernel
set_option maxRecDepth 20000 in
theorem zg_183 : zgM 183 = true := by decide +kernel
set_option maxRecDepth 20000 in
theorem zg_184 : zgM 184 = true := by decide +kernel
set_option maxRecDepth 20000 in
theorem zg_185 : zgM 185 = true := by decide +kernel
set_option maxRecDepth 20000 in
theorem zg_186 : zgM 186 = true := by decide +kernel
set_option maxRecDepth 20000 in
theorem zg_187 : zgM 187 = true := by decide +kernel
set_option maxRecDepth 20000 in
theorem zg_188 : zgM 188 = true := by decide +kernel
set_option maxRecDepth 20000 in
theorem zg_189 : zgM 189 = true := by decide +kernel
set_option maxRecDepth 20000 in
theorem zg_190 : zgM 190 = true := by decide +kernel
set_option maxRecDepth 20000 in
theorem zg_191 : zgM 191 = true := by decide +kernel
set_option maxRecDepth 20000 in
theorem zg_192 : zgM 192 = true := by decide +kernel
set_option maxRecDepth 20000 in
theorem zg_193 : zgM 193 = true := by decide +kernel
set_option maxRecDepth 20000 in
theorem zg_194 : zgM 194 = true := by decide +kernel
set_option maxRecDepth 20000 in
theorem zg_195 : zgM 195 = true := by decide +kernel
set_option maxRecDepth 20000 in
theorem zg_196 : zgM 196 = true := by decide +kernel
set_option maxRecDepth 20000 in
theorem zg_197 : zgM 197 = true := by decide +kernel
set_option maxRecDepth 20000 in
theorem zg_198 : zgM 198 = true := by decide +kernel
set_option maxRecDepth 20000 in
theorem zg_199 : zgM 199 = true := by decide +kernel
set_option maxRecDepth 20000 in
theorem zg_200 : zgM 200 = true := by decide +kernel
set_option maxRecDepth 20000 in
theorem zg_201 : zgM 201 = true := by decide +kernel
set_option maxRecDepth 20000 in
theorem zg_202 : zgM 202 = true := by decide +kernel
set_option maxRecDepth 20000 in
theorem zg_203 : zgM 203 = true := by decide +kernel
set_option maxRecDepth 20000 in
theorem zg_204 : zgM 204 = true := by decide +kernel
set_option maxRecDepth 20000 in
theorem zg_205 : zgM 205 = true := by decide +kernel
set_option maxRecDepth 20000 in
theorem zg_206 : zgM 206 = true := by decide +kernel
set_option maxRecDepth 20000 in
theorem zg_207 : zgM 207 = true := by decide +kernel
set_option maxRecDepth 20000 in
theorem zg_208 : zgM 208 = true := by decide +kernel
set_option maxRecDepth 20000 in
theorem zg_209 : zgM 209 = true := by decide +kernel
set_option maxRecDepth 20000 in
theorem zg_210 : zgM 210 = true := by decide +kernel
set_option maxRecDepth 20000 in
theorem zg_211 : zgM 211 = true := by decide +kernel
set_option maxRecDepth 20000 in
theorem zg_212 : zgM 212 = true := by decide +kernel
set_option maxRecDepth 20000 in
theorem zg_213 : zgM 213 = true := by decide +kernel
set_option maxRecDepth 20000 in
theorem zg_214 : zgM 214 = true := by decide +kernel
set_option maxRecDepth 20000 in
theorem zg_215 : zgM 215 = true := by decide +kernel
set_option maxRecDepth 20000 in
theorem zg_216 : zgM 216 = true := by decide +kernel
set_option maxRecDepth 20000 in
theorem zg_217 : zgM 217 = true := by decide +kernel
set_option maxRecDepth 20000 in
theorem zg_218 : zgM 218 = true := by decide +kernel
set_option maxRecDepth 20000 in
theorem zg_219 : zgM 219 = true := by decide +kernel
set_option maxRecDepth 20000 in
theorem zg_220 : zgM 220 = true := by decide +kernel
set_option maxRecDepth 20000 in
theorem zg_221 : zgM 221 = true := by decide +kernel
set_option maxRecDepth 20000 in
theorem zg_222 : zgM 222 = true := by decide +kernel
set_option maxRecDepth 20000 in
theorem zg_223 : zgM 223 = true := by decide +kernel
set_option maxRecDepth 20000 in
theorem zg_224 : zgM 224 = true := by decide +kernel
set_option maxRecDepth 20000 in
theorem zg_225 : zgM 225 = true := by decide +kernel
set_option maxRecDepth 20000 in
theorem zg_226 : zgM 226 = true := by decide +kernel
set_option maxRecDepth 20000 in
theorem zg_227 : zgM 227 = true := by decide +kernel
set_option maxRecDepth 20000 in
theorem zg_228 : zgM 228 = true := by decide +kernel
set_option maxRecDepth 20000 in
theorem zg_229 : zgM 229 = true := by decide +kernel
set_option maxRecDepth 20000 in
theorem zg_230 : zgM 230 = true := by decide +kernel
set_option maxRecDepth 20000 in
theorem zg_231 : zgM 231 = true := by decide +kernel
set_option maxRecDepth 20000 in
theorem zg_232 : zgM 232 = true := by decide +kernel
set_option maxRecDepth 20000 in
theorem zg_233 : zgM 233 = true := by decide +kernel
set_option maxRecDepth 20000 in
theorem zg_234 : zgM 234 = true := by decide +kernel
set_option maxRecDepth 20000 in
theorem zg_235 : zgM 235 = true := by decide +kernel
set_option maxRecDepth 20000 in
theorem zg_236 : zgM 236 = true := by decide +kernel
set_option maxRecDepth 20000 in
theorem zg_237 : zgM 237 = true := by decide +kernel
set_option maxRecDepth 20000 in
theorem zg_238 : zgM 238 = true := by decide +kernel
set_option maxRecDepth 20000 in
theorem zg_239 : zgM 239 = true := by decide +kernel
set_option maxRecDepth 20000 in
theorem zg_240 : zgM 240 = true := by decide +kernel
set_option maxRecDepth 20000 in
theorem zg_241 : zgM 241 = true := by decide +kernel
set_option maxRecDepth 20000 in
theorem zg_242 : zgM 242 = true := by decide +kernel
set_option maxRecDepth 20000 in
theorem zg_243 : zgM 243 = true := by decide +kernel
set_option maxRecDepth 20000 in
theorem zg_244 : zgM 244 = true := by decide +kernel
set_option maxRecDepth 20000 in
theorem zg_245 : zgM 245 = true := by decide +kernel
set_option maxRecDepth 20000 in
theorem zg_246 : zgM 246 = true := by decide +kernel
set_option maxRecDepth 20000 in
theorem zg_247 : zgM 247 = true := by decide +kernel
set_option maxRecDepth 20000 in
theorem zg_248 : zgM 248 = true := by decide +kernel
set_option maxRecDepth 20000 in
theorem zg_249 : zgM 249 = true := by decide +kernel
set_option maxRecDepth 20000 in
theorem zg_250 : zgM 250 = true := by decide +kernel
set_option maxRecDepth 20000 in
theorem zg_251 : zgM 251 = true := by decide +kernel
set_option maxRecDepth 20000 in
theorem zg_252 : zgM 252 = true := by decide +kernel
set_option maxRecDepth 20000 in
theorem zg_253 : zgM 253 = true := by decide +kernel
set_option maxRecDepth 20000 in
theorem zg_254 : zgM 254 = true := by decide +kernel
set_option maxRecDepth 20000 in
theorem zg_255 : zgM 255 = true := by decide +kernel
set_option maxRecDepth 20000 in
theorem zg_256 : zgM 256 = true := by decide +kernel
set_option maxRecDepth 20000 in
theorem zg_257 : zgM 257 = true := by decide +kernel
set_option maxRecDepth 20000 in
theorem zg_258 : zgM 258 = true := by decide +kernel
set_option maxRecDepth 20000 in
theorem zg_259 : zgM 259 = true := by decide +kernel
set_option maxRecDepth 20000 in
theorem zg_260 : zgM 260 = true := by decide +kernel
set_option maxRecDepth 20000 in
theorem zg_261 : zgM 261 = true := by decide +kernel
set_option maxRecDepth 20000 in
theorem zg_262 : zgM 262 = true := by decide +kernel
set_option maxRecDepth 20000 in
theorem zg_263 : zgM 263 = true := by decide +kernel
set_option maxRecDepth 20000 in
theorem zg_264 : zgM 264 = true := by decide +kernel
set_option maxRecDepth 20000 in
theorem zg_265 : zgM 265 = true := by decide +kernel
set_option maxRecDepth 20000 in
theorem zg_266 : zgM 266 = true := by decide +kernel
set_option maxRecDepth 20000 in
theorem zg_267 : zgM 267 = true := by decide +kernel
set_option maxRecDepth 20000 in
theorem zg_268 : zgM 268 = true := by decide +kernel
set_option maxRecDepth 20000 in
theorem zg_269 : zgM 269 = true := by decide +kernel
set_option maxRecDepth 20000 in
theorem zg_270 : zgM 270 = true := by decide +kernel
set_option maxRecDepth 20000 in
theorem zg_271 : zgM 271 = true := by decide +kernel
set_option maxRecDepth 20000 in
theorem zg_272 : zgM 272 = true := by decide +kernel
set_option maxRecDepth 20000 in
theorem zg_273 : zgM 273 = true := by decide +kernel
set_option maxRecDepth 20000 in
theorem zg_274 : zgM 274 = true := by decide +kernel
set_option maxRecDepth 20000 in
theorem zg_275 : zgM 275 = true := by decide +kernel
set_option maxRecDepth 20000 in
theorem zg_276 : zgM 276 = true := by decide +kernel
set_option maxRecDepth 20000 in
theorem zg_277 : zgM 277 = true := by decide +kernel
set_option maxRecDepth 20000 in
theorem zg_278 : zgM 278 = true := by decide +kernel
set_option maxRecDepth 20000 in
theorem zg_279 : zgM 279 = true := by decide +kernel
set_option maxRecDepth 20000 in
theorem zg_280 : zgM 280 = true := by decide +kernel
set_option maxRecDepth 20000 in
theorem zg_281 : zgM 281 = true := by decide +kernel
end
section
/-! The methods' code among the tables' words -/
theorem zmem_t {w : Cond} (h : w ∈ tables_1) : w ∈ lw_tbl := List.mem_append_right _ h
theorem zmem_1 {w : Cond} (h : w ∈ tables_1_1) : w ∈ lw_tbl := zmem_t (show w ∈ tables_1_1 ++ (tables_1_2 ++ (tables_1_3 ++ (tables_1_4 ++ (tables_1_5 ++ (tables_1_6 ++ (tables_1_7 ++ tables_1_8)))))) from List.mem_append_left _ h)
theorem zmem_2 {w : Cond} (h : w ∈ tables_1_2) : w ∈ lw_tbl := zmem_t (show w ∈ tables_1_1 ++ (tables_1_2 ++ (tables_1_3 ++ (tables_1_4 ++ (tables_1_5 ++ (tables_1_6 ++ (tables_1_7 ++ tables_1_8)))))) from List.mem_append_right _ (List.mem_append_left _ h))
theorem zmem_3 {w : Cond} (h : w ∈ tables_1_3) : w ∈ lw_tbl := zmem_t (show w ∈ tables_1_1 ++ (tables_1_2 ++ (tables_1_3 ++ (tables_1_4 ++ (tables_1_5 ++ (tables_1_6 ++ (tables_1_7 ++ tables_1_8)))))) from List.mem_append_right _ (List.mem_append_right _ (List.mem_append_left _ h)))
theorem zmem_4 {w : Cond} (h : w ∈ tables_1_4) : w ∈ lw_tbl := zmem_t (show w ∈ tables_1_1 ++ (tables_1_2 ++ (tables_1_3 ++ (tables_1_4 ++ (tables_1_5 ++ (tables_1_6 ++ (tables_1_7 ++ tables_1_8)))))) from List.mem_append_right _ (List.mem_append_right _ (List.mem_append_right _ (List.mem_append_left _ h))))
theorem zmem_5 {w : Cond} (h : w ∈ tables_1_5) : w ∈ lw_tbl := zmem_t (show w ∈ tables_1_1 ++ (tables_1_2 ++ (tables_1_3 ++ (tables_1_4 ++ (tables_1_5 ++ (tables_1_6 ++ (tables_1_7 ++ tables_1_8)))))) from List.mem_append_right _ (List.mem_append_right _ (List.mem_append_right _ (List.mem_append_right _ (List.mem_append_left _ h)))))
theorem zmem_6 {w : Cond} (h : w ∈ tables_1_6) : w ∈ lw_tbl := zmem_t (show w ∈ tables_1_1 ++ (tables_1_2 ++ (tables_1_3 ++ (tables_1_4 ++ (tables_1_5 ++ (tables_1_6 ++ (tables_1_7 ++ tables_1_8)))))) from List.mem_append_right _ (List.mem_append_right _ (List.mem_append_right _ (List.mem_append_right _ (List.mem_append_right _ (List.mem_append_left _ h))))))
theorem zmem_7 {w : Cond} (h : w ∈ tables_1_7) : w ∈ lw_tbl := zmem_t (show w ∈ tables_1_1 ++ (tables_1_2 ++ (tables_1_3 ++ (tables_1_4 ++ (tables_1_5 ++ (tables_1_6 ++ (tables_1_7 ++ tables_1_8)))))) from List.mem_append_right _ (List.mem_append_right _ (List.mem_append_right _ (List.mem_append_right _ (List.mem_append_right _ (List.mem_append_right _ (List.mem_append_left _ h)))))))
theorem zmem_8 {w : Cond} (h : w ∈ tables_1_8) : w ∈ lw_tbl := zmem_t (show w ∈ tables_1_1 ++ (tables_1_2 ++ (tables_1_3 ++ (tables_1_4 ++ (tables_1_5 ++ (tables_1_6 ++ (tables_1_7 ++ tables_1_8)))))) from List.mem_append_right _ (List.mem_append_right _ (List.mem_append_right _ (List.mem_append_right _ (List.mem_append_right _ (List.mem_append_right _ (List.mem_append_right _ (h))))))))
set_option maxRecDepth 20000 in
theorem zwc_0 : Cond.code (zy 0) (zb 0) (zmL 0) (zret 0) ∈ lw_tbl := zmem_1 (List.mem_of_getElem? (i := 24) rfl)
set_option maxRecDepth 20000 in
theorem zwc_1 : Cond.code (zy 1) (zb 1) (zmL 1) (zret 1) ∈ lw_tbl := zmem_2 (List.mem_of_getElem? (i := 169) rfl)
set_option maxRecDepth 20000 in
theorem zwc_2 : Cond.code (zy 2) (zb 2) (zmL 2) (zret 2) ∈ lw_tbl := zmem_2 (List.mem_of_getElem? (i := 177) rfl)
set_option maxRecDepth 20000 in
theorem zwc_3 : Cond.code (zy 3) (zb 3) (zmL 3) (zret 3) ∈ lw_tbl := zmem_4 (List.mem_of_getElem? (i := 81) rfl)
set_option maxRecDepth 20000 in
theorem zwc_4 : Cond.code (zy 4) (zb 4) (zmL 4) (zret 4) ∈ lw_tbl := zmem_4 (List.mem_of_getElem? (i := 94) rfl)
set_option maxRecDepth 20000 in
theorem zwc_5 : Cond.code (zy 5) (zb 5) (zmL 5) (zret 5) ∈ lw_tbl := zmem_4 (List.mem_of_getElem? (i := 98) rfl)
set_option maxRecDepth 20000 in
theorem zwc_6 : Cond.code (zy 6) (zb 6) (zmL 6) (zret 6) ∈ lw_tbl := zmem_4 (List.mem_of_getElem? (i := 106) rfl)
set_option maxRecDepth 20000 in
theorem zwc_7 : Cond.code (zy 7) (zb 7) (zmL 7) (zret 7) ∈ lw_tbl := zmem_4 (List.mem_of_getElem? (i := 115) rfl)
set_option maxRecDepth 20000 in
theorem zwc_8 : Cond.code (zy 8) (zb 8) (zmL 8) (zret 8) ∈ lw_tbl := zmem_4 (List.mem_of_getElem? (i := 128) rfl)
set_option maxRecDepth 20000 in
theorem zwc_9 : Cond.code (zy 9) (zb 9) (zmL 9) (zret 9) ∈ lw_tbl := zmem_4 (List.mem_of_getElem? (i := 132) rfl)
set_option maxRecDepth 20000 in
theorem zwc_10 : Cond.code (zy 10) (zb 10) (zmL 10) (zret 10) ∈ lw_tbl := zmem_4 (List.mem_of_getElem? (i := 136) rfl)
set_option maxRecDepth 20000 in
theorem zwc_11 : Cond.code (zy 11) (zb 11) (zmL 11) (zret 11) ∈ lw_tbl := zmem_4 (List.mem_of_getElem? (i := 143) rfl)
set_option maxRecDepth 20000 in
theorem zwc_12 : Cond.code (zy 12) (zb 12) (zmL 12) (zret 12) ∈ lw_tbl := zmem_4 (List.mem_of_getElem? (i := 148) rfl)
set_option maxRecDepth 20000 in
theorem zwc_13 : Cond.code (zy 13) (zb 13) (zmL 13) (zret 13) ∈ lw_tbl := zmem_4 (List.mem_of_getElem? (i := 152) rfl)
set_option maxRecDepth 20000 in
theorem zwc_14 : Cond.code (zy 14) (zb 14) (zmL 14) (zret 14) ∈ lw_tbl := zmem_4 (List.mem_of_getElem? (i := 156) rfl)
set_option maxRecDepth 20000 in
theorem zwc_15 : Cond.code (zy 15) (zb 15) (zmL 15) (zret 15) ∈ lw_tbl := zmem_4 (List.mem_of_getElem? (i := 169) rfl)
set_option maxRecDepth 20000 in
theorem zwc_16 : Cond.code (zy 16) (zb 16) (zmL 16) (zret 16) ∈ lw_tbl := zmem_4 (List.mem_of_getElem? (i := 177) rfl)
set_option maxRecDepth 20000 in
theorem zwc_17 : Cond.code (zy 17) (zb 17) (zmL 17) (zret 17) ∈ lw_tbl := zmem_4 (List.mem_of_getElem? (i := 194) rfl)
set_option maxRecDepth 20000 in
theorem zwc_18 : Cond.code (zy 18) (zb 18) (zmL 18) (zret 18) ∈ lw_tbl := zmem_4 (List.mem_of_getElem? (i := 213) rfl)
set_option maxRecDepth 20000 in
theorem zwc_19 : Cond.code (zy 19) (zb 19) (zmL 19) (zret 19) ∈ lw_tbl := zmem_4 (List.mem_of_getElem? (i := 217) rfl)
set_option maxRecDepth 20000 in
theorem zwc_20 : Cond.code (zy 20) (zb 20) (zmL 20) (zret 20) ∈ lw_tbl := zmem_4 (List.mem_of_getElem? (i := 221) rfl)
set_option maxRecDepth 20000 in
theorem zwc_21 : Cond.code (zy 21) (zb 21) (zmL 21) (zret 21) ∈ lw_tbl := zmem_4 (List.mem_of_getElem? (i := 225) rfl)
set_option maxRecDepth 20000 in
theorem zwc_22 : Cond.code (zy 22) (zb 22) (zmL 22) (zret 22) ∈ lw_tbl := zmem_4 (List.mem_of_getElem? (i := 229) rfl)
set_option maxRecDepth 20000 in
theorem zwc_23 : Cond.code (zy 23) (zb 23) (zmL 23) (zret 23) ∈ lw_tbl := zmem_4 (List.mem_of_getElem? (i := 233) rfl)
set_option maxRecDepth 20000 in
theorem zwc_24 : Cond.code (zy 24) (zb 24) (zmL 24) (zret 24) ∈ lw_tbl := zmem_4 (List.mem_of_getElem? (i := 237) rfl)
set_option maxRecDepth 20000 in
theorem zwc_25 : Cond.code (zy 25) (zb 25) (zmL 25) (zret 25) ∈ lw_tbl := zmem_5 (List.mem_of_getElem? (i := 1) rfl)
set_option maxRecDepth 20000 in
theorem zwc_26 : Cond.code (zy 26) (zb 26) (zmL 26) (zret 26) ∈ lw_tbl := zmem_5 (List.mem_of_getElem? (i := 5) rfl)
set_option maxRecDepth 20000 in
theorem zwc_27 : Cond.code (zy 27) (zb 27) (zmL 27) (zret 27) ∈ lw_tbl := zmem_5 (List.mem_of_getElem? (i := 10) rfl)
set_option maxRecDepth 20000 in
theorem zwc_28 : Cond.code (zy 28) (zb 28) (zmL 28) (zret 28) ∈ lw_tbl := zmem_5 (List.mem_of_getElem? (i := 22) rfl)
set_option maxRecDepth 20000 in
theorem zwc_29 : Cond.code (zy 29) (zb 29) (zmL 29) (zret 29) ∈ lw_tbl := zmem_5 (List.mem_of_getElem? (i := 30) rfl)
set_option maxRecDepth 20000 in
theorem zwc_30 : Cond.code (zy 30) (zb 30) (zmL 30) (zret 30) ∈ lw_tbl := zmem_5 (List.mem_of_getElem? (i := 37) rfl)
set_option maxRecDepth 20000 in
theorem zwc_31 : Cond.code (zy 31) (zb 31) (zmL 31) (zret 31) ∈ lw_tbl := zmem_5 (List.mem_of_getElem? (i := 56) rfl)
set_option maxRecDepth 20000 in
theorem zwc_32 : Cond.code (zy 32) (zb 32) (zmL 32) (zret 32) ∈ lw_tbl := zmem_5 (List.mem_of_getElem? (i := 60) rfl)
set_option maxRecDepth 20000 in
theorem zwc_33 : Cond.code (zy 33) (zb 33) (zmL 33) (zret 33) ∈ lw_tbl := zmem_5 (List.mem_of_getElem? (i := 72) rfl)
set_option maxRecDepth 20000 in
theorem zwc_34 : Cond.code (zy 34) (zb 34) (zmL 34) (zret 34) ∈ lw_tbl := zmem_5 (List.mem_of_getElem? (i := 76) rfl)
set_option maxRecDepth 20000 in
theorem zwc_35 : Cond.code (zy 35) (zb 35) (zmL 35) (zret 35) ∈ lw_tbl := zmem_5 (List.mem_of_getElem? (i := 80) rfl)
set_option maxRecDepth 20000 in
theorem zwc_36 : Cond.code (zy 36) (zb 36) (zmL 36) (zret 36) ∈ lw_tbl := zmem_5 (List.mem_of_getElem? (i := 88) rfl)
set_option maxRecDepth 20000 in
theorem zwc_37 : Cond.code (zy 37) (zb 37) (zmL 37) (zret 37) ∈ lw_tbl := zmem_5 (List.mem_of_getElem? (i := 110) rfl)
set_option maxRecDepth 20000 in
theorem zwc_38 : Cond.code (zy 38) (zb 38) (zmL 38) (zret 38) ∈ lw_tbl := zmem_5 (List.mem_of_getElem? (i := 114) rfl)
set_option maxRecDepth 20000 in
theorem zwc_39 : Cond.code (zy 39) (zb 39) (zmL 39) (zret 39) ∈ lw_tbl := zmem_5 (List.mem_of_getElem? (i := 118) rfl)
set_option maxRecDepth 20000 in
theorem zwc_40 : Cond.code (zy 40) (zb 40) (zmL 40) (zret 40) ∈ lw_tbl := zmem_5 (List.mem_of_getElem? (i := 126) rfl)
set_option maxRecDepth 20000 in
theorem zwc_41 : Cond.code (zy 41) (zb 41) (zmL 41) (zret 41) ∈ lw_tbl := zmem_5 (List.mem_of_getElem? (i := 134) rfl)
set_option maxRecDepth 20000 in
theorem zwc_42 : Cond.code (zy 42) (zb 42) (zmL 42) (zret 42) ∈ lw_tbl := zmem_5 (List.mem_of_getElem? (i := 143) rfl)
set_option maxRecDepth 20000 in
theorem zwc_43 : Cond.code (zy 43) (zb 43) (zmL 43) (zret 43) ∈ lw_tbl := zmem_5 (List.mem_of_getElem? (i := 160) rfl)
set_option maxRecDepth 20000 in
theorem zwc_44 : Cond.code (zy 44) (zb 44) (zmL 44) (zret 44) ∈ lw_tbl := zmem_2 (List.mem_of_getElem? (i := 173) rfl)
set_option maxRecDepth 20000 in
theorem zwc_45 : Cond.code (zy 45) (zb 45) (zmL 45) (zret 45) ∈ lw_tbl := zmem_3 (List.mem_of_getElem? (i := 94) rfl)
set_option maxRecDepth 20000 in
theorem zwc_46 : Cond.code (zy 46) (zb 46) (zmL 46) (zret 46) ∈ lw_tbl := zmem_4 (List.mem_of_getElem? (i := 85) rfl)
set_option maxRecDepth 20000 in
theorem zwc_47 : Cond.code (zy 47) (zb 47) (zmL 47) (zret 47) ∈ lw_tbl := zmem_5 (List.mem_of_getElem? (i := 84) rfl)
set_option maxRecDepth 20000 in
theorem zwc_48 : Cond.code (zy 48) (zb 48) (zmL 48) (zret 48) ∈ lw_tbl := zmem_5 (List.mem_of_getElem? (i := 122) rfl)
set_option maxRecDepth 20000 in
theorem zwc_49 : Cond.code (zy 49) (zb 49) (zmL 49) (zret 49) ∈ lw_tbl := zmem_3 (List.mem_of_getElem? (i := 119) rfl)
set_option maxRecDepth 20000 in
theorem zwc_50 : Cond.code (zy 50) (zb 50) (zmL 50) (zret 50) ∈ lw_tbl := zmem_2 (List.mem_of_getElem? (i := 200) rfl)
set_option maxRecDepth 20000 in
theorem zwc_51 : Cond.code (zy 51) (zb 51) (zmL 51) (zret 51) ∈ lw_tbl := zmem_3 (List.mem_of_getElem? (i := 134) rfl)
set_option maxRecDepth 20000 in
theorem zwc_52 : Cond.code (zy 52) (zb 52) (zmL 52) (zret 52) ∈ lw_tbl := zmem_3 (List.mem_of_getElem? (i := 86) rfl)
set_option maxRecDepth 20000 in
theorem zwc_53 : Cond.code (zy 53) (zb 53) (zmL 53) (zret 53) ∈ lw_tbl := zmem_3 (List.mem_of_getElem? (i := 140) rfl)
set_option maxRecDepth 20000 in
theorem zwc_54 : Cond.code (zy 54) (zb 54) (zmL 54) (zret 54) ∈ lw_tbl := zmem_3 (List.mem_of_getElem? (i := 54) rfl)
set_option maxRecDepth 20000 in
theorem zwc_55 : Cond.code (zy 55) (zb 55) (zmL 55) (zret 55) ∈ lw_tbl := zmem_5 (List.mem_of_getElem? (i := 40) rfl)
set_option maxRecDepth 20000 in
theorem zwc_56 : Cond.code (zy 56) (zb 56) (zmL 56) (zret 56) ∈ lw_tbl := zmem_3 (List.mem_of_getElem? (i := 57) rfl)
set_option maxRecDepth 20000 in
theorem zwc_57 : Cond.code (zy 57) (zb 57) (zmL 57) (zret 57) ∈ lw_tbl := zmem_3 (List.mem_of_getElem? (i := 131) rfl)
set_option maxRecDepth 20000 in
theorem zwc_58 : Cond.code (zy 58) (zb 58) (zmL 58) (zret 58) ∈ lw_tbl := zmem_3 (List.mem_of_getElem? (i := 137) rfl)
set_option maxRecDepth 20000 in
theorem zwc_59 : Cond.code (zy 59) (zb 59) (zmL 59) (zret 59) ∈ lw_tbl := zmem_3 (List.mem_of_getElem? (i := 150) rfl)
set_option maxRecDepth 20000 in
theorem zwc_60 : Cond.code (zy 60) (zb 60) (zmL 60) (zret 60) ∈ lw_tbl := zmem_3 (List.mem_of_getElem? (i := 143) rfl)
set_option maxRecDepth 20000 in
theorem zwc_61 : Cond.code (zy 61) (zb 61) (zmL 61) (zret 61) ∈ lw_tbl := zmem_3 (List.mem_of_getElem? (i := 146) rfl)
set_option maxRecDepth 20000 in
theorem zwc_62 : Cond.code (zy 62) (zb 62) (zmL 62) (zret 62) ∈ lw_tbl := zmem_4 (List.mem_of_getElem? (i := 184) rfl)
set_option maxRecDepth 20000 in
theorem zwc_63 : Cond.code (zy 63) (zb 63) (zmL 63) (zret 63) ∈ lw_tbl := zmem_4 (List.mem_of_getElem? (i := 44) rfl)
set_option maxRecDepth 20000 in
theorem zwc_64 : Cond.code (zy 64) (zb 64) (zmL 64) (zret 64) ∈ lw_tbl := zmem_2 (List.mem_of_getElem? (i := 211) rfl)
set_option maxRecDepth 20000 in
theorem zwc_65 : Cond.code (zy 65) (zb 65) (zmL 65) (zret 65) ∈ lw_tbl := zmem_3 (List.mem_of_getElem? (i := 51) rfl)
set_option maxRecDepth 20000 in
theorem zwc_66 : Cond.code (zy 66) (zb 66) (zmL 66) (zret 66) ∈ lw_tbl := zmem_6 (List.mem_of_getElem? (i := 102) rfl)
set_option maxRecDepth 20000 in
theorem zwc_67 : Cond.code (zy 67) (zb 67) (zmL 67) (zret 67) ∈ lw_tbl := zmem_5 (List.mem_of_getElem? (i := 169) rfl)
set_option maxRecDepth 20000 in
theorem zwc_68 : Cond.code (zy 68) (zb 68) (zmL 68) (zret 68) ∈ lw_tbl := zmem_5 (List.mem_of_getElem? (i := 173) rfl)
set_option maxRecDepth 20000 in
theorem zwc_69 : Cond.code (zy 69) (zb 69) (zmL 69) (zret 69) ∈ lw_tbl := zmem_6 (List.mem_of_getElem? (i := 163) rfl)
set_option maxRecDepth 20000 in
theorem zwc_70 : Cond.code (zy 70) (zb 70) (zmL 70) (zret 70) ∈ lw_tbl := zmem_6 (List.mem_of_getElem? (i := 160) rfl)
set_option maxRecDepth 20000 in
theorem zwc_71 : Cond.code (zy 71) (zb 71) (zmL 71) (zret 71) ∈ lw_tbl := zmem_6 (List.mem_of_getElem? (i := 167) rfl)
set_option maxRecDepth 20000 in
theorem zwc_72 : Cond.code (zy 72) (zb 72) (zmL 72) (zret 72) ∈ lw_tbl := zmem_6 (List.mem_of_getElem? (i := 195) rfl)
set_option maxRecDepth 20000 in
theorem zwc_73 : Cond.code (zy 73) (zb 73) (zmL 73) (zret 73) ∈ lw_tbl := zmem_6 (List.mem_of_getElem? (i := 186) rfl)
set_option maxRecDepth 20000 in
theorem zwc_74 : Cond.code (zy 74) (zb 74) (zmL 74) (zret 74) ∈ lw_tbl := zmem_6 (List.mem_of_getElem? (i := 223) rfl)
set_option maxRecDepth 20000 in
theorem zwc_75 : Cond.code (zy 75) (zb 75) (zmL 75) (zret 75) ∈ lw_tbl := zmem_7 (List.mem_of_getElem? (i := 22) rfl)
set_option maxRecDepth 20000 in
theorem zwc_76 : Cond.code (zy 76) (zb 76) (zmL 76) (zret 76) ∈ lw_tbl := zmem_6 (List.mem_of_getElem? (i := 219) rfl)
set_option maxRecDepth 20000 in
theorem zwc_77 : Cond.code (zy 77) (zb 77) (zmL 77) (zret 77) ∈ lw_tbl := zmem_6 (List.mem_of_getElem? (i := 152) rfl)
set_option maxRecDepth 20000 in
theorem zwc_78 : Cond.code (zy 78) (zb 78) (zmL 78) (zret 78) ∈ lw_tbl := zmem_7 (List.mem_of_getElem? (i := 5) rfl)
set_option maxRecDepth 20000 in
theorem zwc_79 : Cond.code (zy 79) (zb 79) (zmL 79) (zret 79) ∈ lw_tbl := zmem_6 (List.mem_of_getElem? (i := 238) rfl)
set_option maxRecDepth 20000 in
theorem zwc_80 : Cond.code (zy 80) (zb 80) (zmL 80) (zret 80) ∈ lw_tbl := zmem_6 (List.mem_of_getElem? (i := 231) rfl)
set_option maxRecDepth 20000 in
theorem zwc_81 : Cond.code (zy 81) (zb 81) (zmL 81) (zret 81) ∈ lw_tbl := zmem_6 (List.mem_of_getElem? (i := 235) rfl)
set_option maxRecDepth 20000 in
theorem zwc_82 : Cond.code (zy 82) (zb 82) (zmL 82) (zret 82) ∈ lw_tbl := zmem_6 (List.mem_of_getElem? (i := 227) rfl)
set_option maxRecDepth 20000 in
theorem zwc_83 : Cond.code (zy 83) (zb 83) (zmL 83) (zret 83) ∈ lw_tbl := zmem_7 (List.mem_of_getElem? (i := 10) rfl)
set_option maxRecDepth 20000 in
theorem zwc_84 : Cond.code (zy 84) (zb 84) (zmL 84) (zret 84) ∈ lw_tbl := zmem_7 (List.mem_of_getElem? (i := 2) rfl)
set_option maxRecDepth 20000 in
theorem zwc_85 : Cond.code (zy 85) (zb 85) (zmL 85) (zret 85) ∈ lw_tbl := zmem_7 (List.mem_of_getElem? (i := 30) rfl)
set_option maxRecDepth 20000 in
theorem zwc_86 : Cond.code (zy 86) (zb 86) (zmL 86) (zret 86) ∈ lw_tbl := zmem_7 (List.mem_of_getElem? (i := 26) rfl)
set_option maxRecDepth 20000 in
theorem zwc_87 : Cond.code (zy 87) (zb 87) (zmL 87) (zret 87) ∈ lw_tbl := zmem_7 (List.mem_of_getElem? (i := 18) rfl)
set_option maxRecDepth 20000 in
theorem zwc_88 : Cond.code (zy 88) (zb 88) (zmL 88) (zret 88) ∈ lw_tbl := zmem_7 (List.mem_of_getElem? (i := 50) rfl)
set_option maxRecDepth 20000 in
theorem zwc_89 : Cond.code (zy 89) (zb 89) (zmL 89) (zret 89) ∈ lw_tbl := zmem_6 (List.mem_of_getElem? (i := 215) rfl)
set_option maxRecDepth 20000 in
theorem zwc_90 : Cond.code (zy 90) (zb 90) (zmL 90) (zret 90) ∈ lw_tbl := zmem_6 (List.mem_of_getElem? (i := 211) rfl)
set_option maxRecDepth 20000 in
theorem zwc_91 : Cond.code (zy 91) (zb 91) (zmL 91) (zret 91) ∈ lw_tbl := zmem_7 (List.mem_of_getElem? (i := 42) rfl)
set_option maxRecDepth 20000 in
theorem zwc_92 : Cond.code (zy 92) (zb 92) (zmL 92) (zret 92) ∈ lw_tbl := zmem_7 (List.mem_of_getElem? (i := 38) rfl)
set_option maxRecDepth 20000 in
theorem zwc_93 : Cond.code (zy 93) (zb 93) (zmL 93) (zret 93) ∈ lw_tbl := zmem_7 (List.mem_of_getElem? (i := 46) rfl)
set_option maxRecDepth 20000 in
theorem zwc_94 : Cond.code (zy 94) (zb 94) (zmL 94) (zret 94) ∈ lw_tbl := zmem_7 (List.mem_of_getElem? (i := 34) rfl)
set_option maxRecDepth 20000 in
theorem zwc_95 : Cond.code (zy 95) (zb 95) (zmL 95) (zret 95) ∈ lw_tbl := zmem_7 (List.mem_of_getElem? (i := 78) rfl)
set_option maxRecDepth 20000 in
theorem zwc_96 : Cond.code (zy 96) (zb 96) (zmL 96) (zret 96) ∈ lw_tbl := zmem_7 (List.mem_of_getElem? (i := 62) rfl)
set_option maxRecDepth 20000 in
theorem zwc_97 : Cond.code (zy 97) (zb 97) (zmL 97) (zret 97) ∈ lw_tbl := zmem_7 (List.mem_of_getElem? (i := 54) rfl)
set_option maxRecDepth 20000 in
theorem zwc_98 : Cond.code (zy 98) (zb 98) (zmL 98) (zret 98) ∈ lw_tbl := zmem_7 (List.mem_of_getElem? (i := 58) rfl)
set_option maxRecDepth 20000 in
theorem zwc_99 : Cond.code (zy 99) (zb 99) (zmL 99) (zret 99) ∈ lw_tbl := zmem_7 (List.mem_of_getElem? (i := 66) rfl)
set_option maxRecDepth 20000 in
theorem zwc_100 : Cond.code (zy 100) (zb 100) (zmL 100) (zret 100) ∈ lw_tbl := zmem_7 (List.mem_of_getElem? (i := 74) rfl)
set_option maxRecDepth 20000 in
theorem zwc_101 : Cond.code (zy 101) (zb 101) (zmL 101) (zret 101) ∈ lw_tbl := zmem_7 (List.mem_of_getElem? (i := 14) rfl)
set_option maxRecDepth 20000 in
theorem zwc_102 : Cond.code (zy 102) (zb 102) (zmL 102) (zret 102) ∈ lw_tbl := zmem_7 (List.mem_of_getElem? (i := 70) rfl)
set_option maxRecDepth 20000 in
theorem zwc_103 : Cond.code (zy 103) (zb 103) (zmL 103) (zret 103) ∈ lw_tbl := zmem_7 (List.mem_of_getElem? (i := 126) rfl)
set_option maxRecDepth 20000 in
theorem zwc_104 : Cond.code (zy 104) (zb 104) (zmL 104) (zret 104) ∈ lw_tbl := zmem_7 (List.mem_of_getElem? (i := 94) rfl)
set_option maxRecDepth 20000 in
theorem zwc_105 : Cond.code (zy 105) (zb 105) (zmL 105) (zret 105) ∈ lw_tbl := zmem_7 (List.mem_of_getElem? (i := 98) rfl)
set_option maxRecDepth 20000 in
theorem zwc_106 : Cond.code (zy 106) (zb 106) (zmL 106) (zret 106) ∈ lw_tbl := zmem_7 (List.mem_of_getElem? (i := 90) rfl)
set_option maxRecDepth 20000 in
theorem zwc_107 : Cond.code (zy 107) (zb 107) (zmL 107) (zret 107) ∈ lw_tbl := zmem_6 (List.mem_of_getElem? (i := 91) rfl)
set_option maxRecDepth 20000 in
theorem zwc_108 : Cond.code (zy 108) (zb 108) (zmL 108) (zret 108) ∈ lw_tbl := zmem_6 (List.mem_of_getElem? (i := 110) rfl)
set_option maxRecDepth 20000 in
theorem zwc_109 : Cond.code (zy 109) (zb 109) (zmL 109) (zret 109) ∈ lw_tbl := zmem_6 (List.mem_of_getElem? (i := 124) rfl)
set_option maxRecDepth 20000 in
theorem zwc_110 : Cond.code (zy 110) (zb 110) (zmL 110) (zret 110) ∈ lw_tbl := zmem_6 (List.mem_of_getElem? (i := 106) rfl)
set_option maxRecDepth 20000 in
theorem zwc_111 : Cond.code (zy 111) (zb 111) (zmL 111) (zret 111) ∈ lw_tbl := zmem_6 (List.mem_of_getElem? (i := 118) rfl)
set_option maxRecDepth 20000 in
theorem zwc_112 : Cond.code (zy 112) (zb 112) (zmL 112) (zret 112) ∈ lw_tbl := zmem_6 (List.mem_of_getElem? (i := 128) rfl)
set_option maxRecDepth 20000 in
theorem zwc_113 : Cond.code (zy 113) (zb 113) (zmL 113) (zret 113) ∈ lw_tbl := zmem_6 (List.mem_of_getElem? (i := 143) rfl)
set_option maxRecDepth 20000 in
theorem zwc_114 : Cond.code (zy 114) (zb 114) (zmL 114) (zret 114) ∈ lw_tbl := zmem_6 (List.mem_of_getElem? (i := 135) rfl)
set_option maxRecDepth 20000 in
theorem zwc_115 : Cond.code (zy 115) (zb 115) (zmL 115) (zret 115) ∈ lw_tbl := zmem_6 (List.mem_of_getElem? (i := 132) rfl)
set_option maxRecDepth 20000 in
theorem zwc_116 : Cond.code (zy 116) (zb 116) (zmL 116) (zret 116) ∈ lw_tbl := zmem_6 (List.mem_of_getElem? (i := 156) rfl)
set_option maxRecDepth 20000 in
theorem zwc_117 : Cond.code (zy 117) (zb 117) (zmL 117) (zret 117) ∈ lw_tbl := zmem_6 (List.mem_of_getElem? (i := 139) rfl)
set_option maxRecDepth 20000 in
theorem zwc_118 : Cond.code (zy 118) (zb 118) (zmL 118) (zret 118) ∈ lw_tbl := zmem_6 (List.mem_of_getElem? (i := 149) rfl)
set_option maxRecDepth 20000 in
theorem zwc_119 : Cond.code (zy 119) (zb 119) (zmL 119) (zret 119) ∈ lw_tbl := zmem_6 (List.mem_of_getElem? (i := 114) rfl)
set_option maxRecDepth 20000 in
theorem zwc_120 : Cond.code (zy 120) (zb 120) (zmL 120) (zret 120) ∈ lw_tbl := zmem_6 (List.mem_of_getElem? (i := 99) rfl)
set_option maxRecDepth 20000 in
theorem zwc_121 : Cond.code (zy 121) (zb 121) (zmL 121) (zret 121) ∈ lw_tbl := zmem_6 (List.mem_of_getElem? (i := 171) rfl)
set_option maxRecDepth 20000 in
theorem zwc_122 : Cond.code (zy 122) (zb 122) (zmL 122) (zret 122) ∈ lw_tbl := zmem_6 (List.mem_of_getElem? (i := 95) rfl)
set_option maxRecDepth 20000 in
theorem zwc_123 : Cond.code (zy 123) (zb 123) (zmL 123) (zret 123) ∈ lw_tbl := zmem_6 (List.mem_of_getElem? (i := 175) rfl)
set_option maxRecDepth 20000 in
theorem zwc_124 : Cond.code (zy 124) (zb 124) (zmL 124) (zret 124) ∈ lw_tbl := zmem_6 (List.mem_of_getElem? (i := 179) rfl)
set_option maxRecDepth 20000 in
theorem zwc_125 : Cond.code (zy 125) (zb 125) (zmL 125) (zret 125) ∈ lw_tbl := zmem_6 (List.mem_of_getElem? (i := 183) rfl)
set_option maxRecDepth 20000 in
theorem zwc_126 : Cond.code (zy 126) (zb 126) (zmL 126) (zret 126) ∈ lw_tbl := zmem_6 (List.mem_of_getElem? (i := 199) rfl)
set_option maxRecDepth 20000 in
theorem zwc_127 : Cond.code (zy 127) (zb 127) (zmL 127) (zret 127) ∈ lw_tbl := zmem_6 (List.mem_of_getElem? (i := 191) rfl)
set_option maxRecDepth 20000 in
theorem zwc_128 : Cond.code (zy 128) (zb 128) (zmL 128) (zret 128) ∈ lw_tbl := zmem_6 (List.mem_of_getElem? (i := 207) rfl)
set_option maxRecDepth 20000 in
theorem zwc_129 : Cond.code (zy 129) (zb 129) (zmL 129) (zret 129) ∈ lw_tbl := zmem_6 (List.mem_of_getElem? (i := 203) rfl)
set_option maxRecDepth 20000 in
theorem zwc_130 : Cond.code (zy 130) (zb 130) (zmL 130) (zret 130) ∈ lw_tbl := zmem_7 (List.mem_of_getElem? (i := 82) rfl)
set_option maxRecDepth 20000 in
theorem zwc_131 : Cond.code (zy 131) (zb 131) (zmL 131) (zret 131) ∈ lw_tbl := zmem_7 (List.mem_of_getElem? (i := 86) rfl)
set_option maxRecDepth 20000 in
theorem zwc_132 : Cond.code (zy 132) (zb 132) (zmL 132) (zret 132) ∈ lw_tbl := zmem_7 (List.mem_of_getElem? (i := 102) rfl)
set_option maxRecDepth 20000 in
theorem zwc_133 : Cond.code (zy 133) (zb 133) (zmL 133) (zret 133) ∈ lw_tbl := zmem_7 (List.mem_of_getElem? (i := 106) rfl)
set_option maxRecDepth 20000 in
theorem zwc_134 : Cond.code (zy 134) (zb 134) (zmL 134) (zret 134) ∈ lw_tbl := zmem_7 (List.mem_of_getElem? (i := 110) rfl)
set_option maxRecDepth 20000 in
theorem zwc_135 : Cond.code (zy 135) (zb 135) (zmL 135) (zret 135) ∈ lw_tbl := zmem_7 (List.mem_of_getElem? (i := 114) rfl)
set_option maxRecDepth 20000 in
theorem zwc_136 : Cond.code (zy 136) (zb 136) (zmL 136) (zret 136) ∈ lw_tbl := zmem_7 (List.mem_of_getElem? (i := 122) rfl)
set_option maxRecDepth 20000 in
theorem zwc_137 : Cond.code (zy 137) (zb 137) (zmL 137) (zret 137) ∈ lw_tbl := zmem_7 (List.mem_of_getElem? (i := 118) rfl)
set_option maxRecDepth 20000 in
theorem zwc_138 : Cond.code (zy 138) (zb 138) (zmL 138) (zret 138) ∈ lw_tbl := zmem_7 (List.mem_of_getElem? (i := 134) rfl)
set_option maxRecDepth 20000 in
theorem zwc_139 : Cond.code (zy 139) (zb 139) (zmL 139) (zret 139) ∈ lw_tbl := zmem_7 (List.mem_of_getElem? (i := 130) rfl)
set_option maxRecDepth 20000 in
theorem zwc_140 : Cond.code (zy 140) (zb 140) (zmL 140) (zret 140) ∈ lw_tbl := zmem_7 (List.mem_of_getElem? (i := 138) rfl)
set_option maxRecDepth 20000 in
theorem zwc_141 : Cond.code (zy 141) (zb 141) (zmL 141) (zret 141) ∈ lw_tbl := zmem_7 (List.mem_of_getElem? (i := 150) rfl)
set_option maxRecDepth 20000 in
theorem zwc_142 : Cond.code (zy 142) (zb 142) (zmL 142) (zret 142) ∈ lw_tbl := zmem_7 (List.mem_of_getElem? (i := 146) rfl)
set_option maxRecDepth 20000 in
theorem zwc_143 : Cond.code (zy 143) (zb 143) (zmL 143) (zret 143) ∈ lw_tbl := zmem_7 (List.mem_of_getElem? (i := 142) rfl)
set_option maxRecDepth 20000 in
theorem zwc_144 : Cond.code (zy 144) (zb 144) (zmL 144) (zret 144) ∈ lw_tbl := zmem_7 (List.mem_of_getElem? (i := 162) rfl)
set_option maxRecDepth 20000 in
theorem zwc_145 : Cond.code (zy 145) (zb 145) (zmL 145) (zret 145) ∈ lw_tbl := zmem_7 (List.mem_of_getElem? (i := 158) rfl)
set_option maxRecDepth 20000 in
theorem zwc_146 : Cond.code (zy 146) (zb 146) (zmL 146) (zret 146) ∈ lw_tbl := zmem_7 (List.mem_of_getElem? (i := 154) rfl)
set_option maxRecDepth 20000 in
theorem zwc_147 : Cond.code (zy 147) (zb 147) (zmL 147) (zret 147) ∈ lw_tbl := zmem_7 (List.mem_of_getElem? (i := 167) rfl)
set_option maxRecDepth 20000 in
theorem zwc_148 : Cond.code (zy 148) (zb 148) (zmL 148) (zret 148) ∈ lw_tbl := zmem_7 (List.mem_of_getElem? (i := 171) rfl)
set_option maxRecDepth 20000 in
theorem zwc_149 : Cond.code (zy 149) (zb 149) (zmL 149) (zret 149) ∈ lw_tbl := zmem_7 (List.mem_of_getElem? (i := 175) rfl)
set_option maxRecDepth 20000 in
theorem zwc_150 : Cond.code (zy 150) (zb 150) (zmL 150) (zret 150) ∈ lw_tbl := zmem_7 (List.mem_of_getElem? (i := 179) rfl)
set_option maxRecDepth 20000 in
theorem zwc_151 : Cond.code (zy 151) (zb 151) (zmL 151) (zret 151) ∈ lw_tbl := zmem_7 (List.mem_of_getElem? (i := 183) rfl)
set_option maxRecDepth 20000 in
theorem zwc_152 : Cond.code (zy 152) (zb 152) (zmL 152) (zret 152) ∈ lw_tbl := zmem_7 (List.mem_of_getElem? (i := 187) rfl)
set_option maxRecDepth 20000 in
theorem zwc_153 : Cond.code (zy 153) (zb 153) (zmL 153) (zret 153) ∈ lw_tbl := zmem_7 (List.mem_of_getElem? (i := 191) rfl)
set_option maxRecDepth 20000 in
theorem zwc_154 : Cond.code (zy 154) (zb 154) (zmL 154) (zret 154) ∈ lw_tbl := zmem_7 (List.mem_of_getElem? (i := 195) rfl)
set_option maxRecDepth 20000 in
theorem zwc_155 : Cond.code (zy 155) (zb 155) (zmL 155) (zret 155) ∈ lw_tbl := zmem_7 (List.mem_of_getElem? (i := 199) rfl)
set_option maxRecDepth 20000 in
theorem zwc_156 : Cond.code (zy 156) (zb 156) (zmL 156) (zret 156) ∈ lw_tbl := zmem_7 (List.mem_of_getElem? (i := 207) rfl)
set_option maxRecDepth 20000 in
theorem zwc_157 : Cond.code (zy 157) (zb 157) (zmL 157) (zret 157) ∈ lw_tbl := zmem_7 (List.mem_of_getElem? (i := 211) rfl)
set_option maxRecDepth 20000 in
theorem zwc_158 : Cond.code (zy 158) (zb 158) (zmL 158) (zret 158) ∈ lw_tbl := zmem_7 (List.mem_of_getElem? (i := 203) rfl)
set_option maxRecDepth 20000 in
theorem zwc_159 : Cond.code (zy 159) (zb 159) (zmL 159) (zret 159) ∈ lw_tbl := zmem_7 (List.mem_of_getElem? (i := 219) rfl)
set_option maxRecDepth 20000 in
theorem zwc_160 : Cond.code (zy 160) (zb 160) (zmL 160) (zret 160) ∈ lw_tbl := zmem_7 (List.mem_of_getElem? (i := 215) rfl)
set_option maxRecDepth 20000 in
theorem zwc_161 : Cond.code (zy 161) (zb 161) (zmL 161) (zret 161) ∈ lw_tbl := zmem_7 (List.mem_of_getElem? (i := 232) rfl)
set_option maxRecDepth 20000 in
theorem zwc_162 : Cond.code (zy 162) (zb 162) (zmL 162) (zret 162) ∈ lw_tbl := zmem_7 (List.mem_of_getElem? (i := 228) rfl)
set_option maxRecDepth 20000 in
theorem zwc_163 : Cond.code (zy 163) (zb 163) (zmL 163) (zret 163) ∈ lw_tbl := zmem_7 (List.mem_of_getElem? (i := 223) rfl)
set_option maxRecDepth 20000 in
theorem zwc_164 : Cond.code (zy 164) (zb 164) (zmL 164) (zret 164) ∈ lw_tbl := zmem_7 (List.mem_of_getElem? (i := 236) rfl)
set_option maxRecDepth 20000 in
theorem zwc_165 : Cond.code (zy 165) (zb 165) (zmL 165) (zret 165) ∈ lw_tbl := zmem_8 (List.mem_of_getElem? (i := 4) rfl)
set_option maxRecDepth 20000 in
theorem zwc_166 : Cond.code (zy 166) (zb 166) (zmL 166) (zret 166) ∈ lw_tbl := zmem_8 (List.mem_of_getElem? (i := 0) rfl)
set_option maxRecDepth 20000 in
theorem zwc_167 : Cond.code (zy 167) (zb 167) (zmL 167) (zret 167) ∈ lw_tbl := zmem_8 (List.mem_of_getElem? (i := 8) rfl)
set_option maxRecDepth 20000 in
theorem zwc_168 : Cond.code (zy 168) (zb 168) (zmL 168) (zret 168) ∈ lw_tbl := zmem_8 (List.mem_of_getElem? (i := 12) rfl)
set_option maxRecDepth 20000 in
theorem zwc_169 : Cond.code (zy 169) (zb 169) (zmL 169) (zret 169) ∈ lw_tbl := zmem_8 (List.mem_of_getElem? (i := 17) rfl)
set_option maxRecDepth 20000 in
theorem zwc_170 : Cond.code (zy 170) (zb 170) (zmL 170) (zret 170) ∈ lw_tbl := zmem_8 (List.mem_of_getElem? (i := 33) rfl)
set_option maxRecDepth 20000 in
theorem zwc_171 : Cond.code (zy 171) (zb 171) (zmL 171) (zret 171) ∈ lw_tbl := zmem_8 (List.mem_of_getElem? (i := 29) rfl)
set_option maxRecDepth 20000 in
theorem zwc_172 : Cond.code (zy 172) (zb 172) (zmL 172) (zret 172) ∈ lw_tbl := zmem_8 (List.mem_of_getElem? (i := 25) rfl)
set_option maxRecDepth 20000 in
theorem zwc_173 : Cond.code (zy 173) (zb 173) (zmL 173) (zret 173) ∈ lw_tbl := zmem_8 (List.mem_of_getElem? (i := 21) rfl)
set_option maxRecDepth 20000 in
theorem zwc_174 : Cond.code (zy 174) (zb 174) (zmL 174) (zret 174) ∈ lw_tbl := zmem_8 (List.mem_of_getElem? (i := 37) rfl)
set_option maxRecDepth 20000 in
theorem zwc_175 : Cond.code (zy 175) (zb 175) (zmL 175) (zret 175) ∈ lw_tbl := zmem_8 (List.mem_of_getElem? (i := 41) rfl)
set_option maxRecDepth 20000 in
theorem zwc_176 : Cond.code (zy 176) (zb 176) (zmL 176) (zret 176) ∈ lw_tbl := zmem_8 (List.mem_of_getElem? (i := 45) rfl)
set_option maxRecDepth 20000 in
theorem zwc_177 : Cond.code (zy 177) (zb 177) (zmL 177) (zret 177) ∈ lw_tbl := zmem_8 (List.mem_of_getElem? (i := 49) rfl)
set_option maxRecDepth 20000 in
theorem zwc_178 : Cond.code (zy 178) (zb 178) (zmL 178) (zret 178) ∈ lw_tbl := zmem_8 (List.mem_of_getElem? (i := 54) rfl)
set_option maxRecDepth 20000 in
theorem zwc_179 : Cond.code (zy 179) (zb 179) (zmL 179) (zret 179) ∈ lw_tbl := zmem_8 (List.mem_of_getElem? (i := 58) rfl)
set_option maxRecDepth 20000 in
theorem zwc_180 : Cond.code (zy 180) (zb 180) (zmL 180) (zret 180) ∈ lw_tbl := zmem_8 (List.mem_of_getElem? (i := 66) rfl)
set_option maxRecDepth 20000 in
theorem zwc_181 : Cond.code (zy 181) (zb 181) (zmL 181) (zret 181) ∈ lw_tbl := zmem_8 (List.mem_of_getElem? (i := 62) rfl)
set_option maxRecDepth 20000 in
theorem zwc_182 : Cond.code (zy 182) (zb 182) (zmL 182) (zret 182) ∈ lw_tbl := zmem_1 (List.mem_of_getElem? (i := 196) rfl)
set_option maxRecDepth 20000 in
theorem zwc_183 : Cond.code (zy 183) (zb 183) (zmL 183) (zret 183) ∈ lw_tbl := zmem_3 (List.mem_of_getElem? (i := 162) rfl)
set_option maxRecDepth 20000 in
theorem zwc_184 : Cond.code (zy 184) (zb 184) (zmL 184) (zret 184) ∈ lw_tbl := zmem_3 (List.mem_of_getElem? (i := 178) rfl)
set_option maxRecDepth 20000 in
theorem zwc_185 : Cond.code (zy 185) (zb 185) (zmL 185) (zret 185) ∈ lw_tbl := zmem_3 (List.mem_of_getElem? (i := 186) rfl)
set_option maxRecDepth 20000 in
theorem zwc_186 : Cond.code (zy 186) (zb 186) (zmL 186) (zret 186) ∈ lw_tbl := zmem_3 (List.mem_of_getElem? (i := 191) rfl)
set_option maxRecDepth 20000 in
theorem zwc_187 : Cond.code (zy 187) (zb 187) (zmL 187) (zret 187) ∈ lw_tbl := zmem_3 (List.mem_of_getElem? (i := 196) rfl)
set_option maxRecDepth 20000 in
theorem zwc_188 : Cond.code (zy 188) (zb 188) (zmL 188) (zret 188) ∈ lw_tbl := zmem_3 (List.mem_of_getElem? (i := 201) rfl)
set_option maxRecDepth 20000 in
theorem zwc_189 : Cond.code (zy 189) (zb 189) (zmL 189) (zret 189) ∈ lw_tbl := zmem_3 (List.mem_of_getElem? (i := 210) rfl)
set_option maxRecDepth 20000 in
theorem zwc_190 : Cond.code (zy 190) (zb 190) (zmL 190) (zret 190) ∈ lw_tbl := zmem_1 (List.mem_of_getElem? (i := 169) rfl)
set_option maxRecDepth 20000 in
theorem zwc_191 : Cond.code (zy 191) (zb 191) (zmL 191) (zret 191) ∈ lw_tbl := zmem_3 (List.mem_of_getElem? (i := 123) rfl)
set_option maxRecDepth 20000 in
theorem zwc_192 : Cond.code (zy 192) (zb 192) (zmL 192) (zret 192) ∈ lw_tbl := zmem_3 (List.mem_of_getElem? (i := 206) rfl)
set_option maxRecDepth 20000 in
theorem zwc_193 : Cond.code (zy 193) (zb 193) (zmL 193) (zret 193) ∈ lw_tbl := zmem_3 (List.mem_of_getElem? (i := 170) rfl)
set_option maxRecDepth 20000 in
theorem zwc_194 : Cond.code (zy 194) (zb 194) (zmL 194) (zret 194) ∈ lw_tbl := zmem_3 (List.mem_of_getElem? (i := 166) rfl)
set_option maxRecDepth 20000 in
theorem zwc_195 : Cond.code (zy 195) (zb 195) (zmL 195) (zret 195) ∈ lw_tbl := zmem_3 (List.mem_of_getElem? (i := 174) rfl)
set_option maxRecDepth 20000 in
theorem zwc_196 : Cond.code (zy 196) (zb 196) (zmL 196) (zret 196) ∈ lw_tbl := zmem_4 (List.mem_of_getElem? (i := 173) rfl)
set_option maxRecDepth 20000 in
theorem zwc_197 : Cond.code (zy 197) (zb 197) (zmL 197) (zret 197) ∈ lw_tbl := zmem_3 (List.mem_of_getElem? (i := 182) rfl)
set_option maxRecDepth 20000 in
theorem zwc_198 : Cond.code (zy 198) (zb 198) (zmL 198) (zret 198) ∈ lw_tbl := zmem_4 (List.mem_of_getElem? (i := 190) rfl)
set_option maxRecDepth 20000 in
theorem zwc_199 : Cond.code (zy 199) (zb 199) (zmL 199) (zret 199) ∈ lw_tbl := zmem_4 (List.mem_of_getElem? (i := 181) rfl)
set_option maxRecDepth 20000 in
theorem zwc_200 : Cond.code (zy 200) (zb 200) (zmL 200) (zret 200) ∈ lw_tbl := zmem_4 (List.mem_of_getElem? (i := 123) rfl)
set_option maxRecDepth 20000 in
theorem zwc_201 : Cond.code (zy 201) (zb 201) (zmL 201) (zret 201) ∈ lw_tbl := zmem_4 (List.mem_of_getElem? (i := 119) rfl)
set_option maxRecDepth 20000 in
theorem zwc_202 : Cond.code (zy 202) (zb 202) (zmL 202) (zret 202) ∈ lw_tbl := zmem_5 (List.mem_of_getElem? (i := 14) rfl)
set_option maxRecDepth 20000 in
theorem zwc_203 : Cond.code (zy 203) (zb 203) (zmL 203) (zret 203) ∈ lw_tbl := zmem_5 (List.mem_of_getElem? (i := 18) rfl)
set_option maxRecDepth 20000 in
theorem zwc_204 : Cond.code (zy 204) (zb 204) (zmL 204) (zret 204) ∈ lw_tbl := zmem_2 (List.mem_of_getElem? (i := 27) rfl)
set_option maxRecDepth 20000 in
theorem zwc_205 : Cond.code (zy 205) (zb 205) (zmL 205) (zret 205) ∈ lw_tbl := zmem_3 (List.mem_of_getElem? (i := 154) rfl)
set_option maxRecDepth 20000 in
theorem zwc_206 : Cond.code (zy 206) (zb 206) (zmL 206) (zret 206) ∈ lw_tbl := zmem_3 (List.mem_of_getElem? (i := 214) rfl)
set_option maxRecDepth 20000 in
theorem zwc_207 : Cond.code (zy 207) (zb 207) (zmL 207) (zret 207) ∈ lw_tbl := zmem_4 (List.mem_of_getElem? (i := 41) rfl)
set_option maxRecDepth 20000 in
theorem zwc_208 : Cond.code (zy 208) (zb 208) (zmL 208) (zret 208) ∈ lw_tbl := zmem_3 (List.mem_of_getElem? (i := 229) rfl)
set_option maxRecDepth 20000 in
theorem zwc_209 : Cond.code (zy 209) (zb 209) (zmL 209) (zret 209) ∈ lw_tbl := zmem_3 (List.mem_of_getElem? (i := 224) rfl)
set_option maxRecDepth 20000 in
theorem zwc_210 : Cond.code (zy 210) (zb 210) (zmL 210) (zret 210) ∈ lw_tbl := zmem_3 (List.mem_of_getElem? (i := 233) rfl)
set_option maxRecDepth 20000 in
theorem zwc_211 : Cond.code (zy 211) (zb 211) (zmL 211) (zret 211) ∈ lw_tbl := zmem_3 (List.mem_of_getElem? (i := 219) rfl)
set_option maxRecDepth 20000 in
theorem zwc_212 : Cond.code (zy 212) (zb 212) (zmL 212) (zret 212) ∈ lw_tbl := zmem_3 (List.mem_of_getElem? (i := 237) rfl)
set_option maxRecDepth 20000 in
theorem zwc_213 : Cond.code (zy 213) (zb 213) (zmL 213) (zret 213) ∈ lw_tbl := zmem_4 (List.mem_of_getElem? (i := 37) rfl)
set_option maxRecDepth 20000 in
theorem zwc_214 : Cond.code (zy 214) (zb 214) (zmL 214) (zret 214) ∈ lw_tbl := zmem_4 (List.mem_of_getElem? (i := 7) rfl)
set_option maxRecDepth 20000 in
theorem zwc_215 : Cond.code (zy 215) (zb 215) (zmL 215) (zret 215) ∈ lw_tbl := zmem_4 (List.mem_of_getElem? (i := 11) rfl)
set_option maxRecDepth 20000 in
theorem zwc_216 : Cond.code (zy 216) (zb 216) (zmL 216) (zret 216) ∈ lw_tbl := zmem_4 (List.mem_of_getElem? (i := 16) rfl)
set_option maxRecDepth 20000 in
theorem zwc_217 : Cond.code (zy 217) (zb 217) (zmL 217) (zret 217) ∈ lw_tbl := zmem_4 (List.mem_of_getElem? (i := 20) rfl)
set_option maxRecDepth 20000 in
theorem zwc_218 : Cond.code (zy 218) (zb 218) (zmL 218) (zret 218) ∈ lw_tbl := zmem_4 (List.mem_of_getElem? (i := 25) rfl)
set_option maxRecDepth 20000 in
theorem zwc_219 : Cond.code (zy 219) (zb 219) (zmL 219) (zret 219) ∈ lw_tbl := zmem_4 (List.mem_of_getElem? (i := 29) rfl)
set_option maxRecDepth 20000 in
theorem zwc_220 : Cond.code (zy 220) (zb 220) (zmL 220) (zret 220) ∈ lw_tbl := zmem_4 (List.mem_of_getElem? (i := 33) rfl)
set_option maxRecDepth 20000 in
theorem zwc_221 : Cond.code (zy 221) (zb 221) (zmL 221) (zret 221) ∈ lw_tbl := zmem_5 (List.mem_of_getElem? (i := 26) rfl)
set_option maxRecDepth 20000 in
theorem zwc_222 : Cond.code (zy 222) (zb 222) (zmL 222) (zret 222) ∈ lw_tbl := zmem_4 (List.mem_of_getElem? (i := 165) rfl)
set_option maxRecDepth 20000 in
theorem zwc_223 : Cond.code (zy 223) (zb 223) (zmL 223) (zret 223) ∈ lw_tbl := zmem_4 (List.mem_of_getElem? (i := 161) rfl)
set_option maxRecDepth 20000 in
theorem zwc_224 : Cond.code (zy 224) (zb 224) (zmL 224) (zret 224) ∈ lw_tbl := zmem_5 (List.mem_of_getElem? (i := 164) rfl)
set_option maxRecDepth 20000 in
theorem zwc_225 : Cond.code (zy 225) (zb 225) (zmL 225) (zret 225) ∈ lw_tbl := zmem_5 (List.mem_of_getElem? (i := 92) rfl)
set_option maxRecDepth 20000 in
theorem zwc_226 : Cond.code (zy 226) (zb 226) (zmL 226) (zret 226) ∈ lw_tbl := zmem_5 (List.mem_of_getElem? (i := 100) rfl)
set_option maxRecDepth 20000 in
theorem zwc_227 : Cond.code (zy 227) (zb 227) (zmL 227) (zret 227) ∈ lw_tbl := zmem_5 (List.mem_of_getElem? (i := 104) rfl)
set_option maxRecDepth 20000 in
theorem zwc_228 : Cond.code (zy 228) (zb 228) (zmL 228) (zret 228) ∈ lw_tbl := zmem_5 (List.mem_of_getElem? (i := 96) rfl)
set_option maxRecDepth 20000 in
theorem zwc_229 : Cond.code (zy 229) (zb 229) (zmL 229) (zret 229) ∈ lw_tbl := zmem_1 (List.mem_of_getElem? (i := 103) rfl)
set_option maxRecDepth 20000 in
theorem zwc_230 : Cond.code (zy 230) (zb 230) (zmL 230) (zret 230) ∈ lw_tbl := zmem_3 (List.mem_of_getElem? (i := 98) rfl)
set_option maxRecDepth 20000 in
theorem zwc_231 : Cond.code (zy 231) (zb 231) (zmL 231) (zret 231) ∈ lw_tbl := zmem_3 (List.mem_of_getElem? (i := 102) rfl)
set_option maxRecDepth 20000 in
theorem zwc_232 : Cond.code (zy 232) (zb 232) (zmL 232) (zret 232) ∈ lw_tbl := zmem_5 (List.mem_of_getElem? (i := 130) rfl)
set_option maxRecDepth 20000 in
theorem zwc_233 : Cond.code (zy 233) (zb 233) (zmL 233) (zret 233) ∈ lw_tbl := zmem_5 (List.mem_of_getElem? (i := 156) rfl)
set_option maxRecDepth 20000 in
theorem zwc_234 : Cond.code (zy 234) (zb 234) (zmL 234) (zret 234) ∈ lw_tbl := zmem_2 (List.mem_of_getElem? (i := 108) rfl)
set_option maxRecDepth 20000 in
theorem zwc_235 : Cond.code (zy 235) (zb 235) (zmL 235) (zret 235) ∈ lw_tbl := zmem_4 (List.mem_of_getElem? (i := 198) rfl)
set_option maxRecDepth 20000 in
theorem zwc_236 : Cond.code (zy 236) (zb 236) (zmL 236) (zret 236) ∈ lw_tbl := zmem_4 (List.mem_of_getElem? (i := 204) rfl)
set_option maxRecDepth 20000 in
theorem zwc_237 : Cond.code (zy 237) (zb 237) (zmL 237) (zret 237) ∈ lw_tbl := zmem_1 (List.mem_of_getElem? (i := 120) rfl)
set_option maxRecDepth 20000 in
theorem zwc_238 : Cond.code (zy 238) (zb 238) (zmL 238) (zret 238) ∈ lw_tbl := zmem_5 (List.mem_of_getElem? (i := 147) rfl)
set_option maxRecDepth 20000 in
theorem zwc_239 : Cond.code (zy 239) (zb 239) (zmL 239) (zret 239) ∈ lw_tbl := zmem_5 (List.mem_of_getElem? (i := 138) rfl)
set_option maxRecDepth 20000 in
theorem zwc_240 : Cond.code (zy 240) (zb 240) (zmL 240) (zret 240) ∈ lw_tbl := zmem_5 (List.mem_of_getElem? (i := 151) rfl)
set_option maxRecDepth 20000 in
theorem zwc_241 : Cond.code (zy 241) (zb 241) (zmL 241) (zret 241) ∈ lw_tbl := zmem_2 (List.mem_of_getElem? (i := 66) rfl)
set_option maxRecDepth 20000 in
theorem zwc_242 : Cond.code (zy 242) (zb 242) (zmL 242) (zret 242) ∈ lw_tbl := zmem_3 (List.mem_of_getElem? (i := 158) rfl)
set_option maxRecDepth 20000 in
theorem zwc_243 : Cond.code (zy 243) (zb 243) (zmL 243) (zret 243) ∈ lw_tbl := zmem_4 (List.mem_of_getElem? (i := 48) rfl)
set_option maxRecDepth 20000 in
theorem zwc_244 : Cond.code (zy 244) (zb 244) (zmL 244) (zret 244) ∈ lw_tbl := zmem_4 (List.mem_of_getElem? (i := 62) rfl)
set_option maxRecDepth 20000 in
theorem zwc_245 : Cond.code (zy 245) (zb 245) (zmL 245) (zret 245) ∈ lw_tbl := zmem_4 (List.mem_of_getElem? (i := 67) rfl)
set_option maxRecDepth 20000 in
theorem zwc_246 : Cond.code (zy 246) (zb 246) (zmL 246) (zret 246) ∈ lw_tbl := zmem_4 (List.mem_of_getElem? (i := 72) rfl)
set_option maxRecDepth 20000 in
theorem zwc_247 : Cond.code (zy 247) (zb 247) (zmL 247) (zret 247) ∈ lw_tbl := zmem_4 (List.mem_of_getElem? (i := 58) rfl)
set_option maxRecDepth 20000 in
theorem zwc_248 : Cond.code (zy 248) (zb 248) (zmL 248) (zret 248) ∈ lw_tbl := zmem_1 (List.mem_of_getElem? (i := 136) rfl)
set_option maxRecDepth 20000 in
theorem zwc_249 : Cond.code (zy 249) (zb 249) (zmL 249) (zret 249) ∈ lw_tbl := zmem_2 (List.mem_of_getElem? (i := 181) rfl)
set_option maxRecDepth 20000 in
theorem zwc_250 : Cond.code (zy 250) (zb 250) (zmL 250) (zret 250) ∈ lw_tbl := zmem_2 (List.mem_of_getElem? (i := 193) rfl)
set_option maxRecDepth 20000 in
theorem zwc_251 : Cond.code (zy 251) (zb 251) (zmL 251) (zret 251) ∈ lw_tbl := zmem_2 (List.mem_of_getElem? (i := 204) rfl)
set_option maxRecDepth 20000 in
theorem zwc_252 : Cond.code (zy 252) (zb 252) (zmL 252) (zret 252) ∈ lw_tbl := zmem_3 (List.mem_of_getElem? (i := 6) rfl)
set_option maxRecDepth 20000 in
theorem zwc_253 : Cond.code (zy 253) (zb 253) (zmL 253) (zret 253) ∈ lw_tbl := zmem_2 (List.mem_of_getElem? (i := 189) rfl)
set_option maxRecDepth 20000 in
theorem zwc_254 : Cond.code (zy 254) (zb 254) (zmL 254) (zret 254) ∈ lw_tbl := zmem_2 (List.mem_of_getElem? (i := 197) rfl)
set_option maxRecDepth 20000 in
theorem zwc_255 : Cond.code (zy 255) (zb 255) (zmL 255) (zret 255) ∈ lw_tbl := zmem_2 (List.mem_of_getElem? (i := 208) rfl)
set_option maxRecDepth 20000 in
theorem zwc_256 : Cond.code (zy 256) (zb 256) (zmL 256) (zret 256) ∈ lw_tbl := zmem_2 (List.mem_of_getElem? (i := 232) rfl)
set_option maxRecDepth 20000 in
theorem zwc_257 : Cond.code (zy 257) (zb 257) (zmL 257) (zret 257) ∈ lw_tbl := zmem_3 (List.mem_of_getElem? (i := 48) rfl)
set_option maxRecDepth 20000 in
theorem zwc_258 : Cond.code (zy 258) (zb 258) (zmL 258) (zret 258) ∈ lw_tbl := zmem_3 (List.mem_of_getElem? (i := 90) rfl)
set_option maxRecDepth 20000 in
theorem zwc_259 : Cond.code (zy 259) (zb 259) (zmL 259) (zret 259) ∈ lw_tbl := zmem_3 (List.mem_of_getElem? (i := 61) rfl)
set_option maxRecDepth 20000 in
theorem zwc_260 : Cond.code (zy 260) (zb 260) (zmL 260) (zret 260) ∈ lw_tbl := zmem_3 (List.mem_of_getElem? (i := 69) rfl)
set_option maxRecDepth 20000 in
theorem zwc_261 : Cond.code (zy 261) (zb 261) (zmL 261) (zret 261) ∈ lw_tbl := zmem_3 (List.mem_of_getElem? (i := 73) rfl)
set_option maxRecDepth 20000 in
theorem zwc_262 : Cond.code (zy 262) (zb 262) (zmL 262) (zret 262) ∈ lw_tbl := zmem_3 (List.mem_of_getElem? (i := 83) rfl)
set_option maxRecDepth 20000 in
theorem zwc_263 : Cond.code (zy 263) (zb 263) (zmL 263) (zret 263) ∈ lw_tbl := zmem_1 (List.mem_of_getElem? (i := 38) rfl)
set_option maxRecDepth 20000 in
theorem zwc_264 : Cond.code (zy 264) (zb 264) (zmL 264) (zret 264) ∈ lw_tbl := zmem_2 (List.mem_of_getElem? (i := 185) rfl)
set_option maxRecDepth 20000 in
theorem zwc_265 : Cond.code (zy 265) (zb 265) (zmL 265) (zret 265) ∈ lw_tbl := zmem_3 (List.mem_of_getElem? (i := 110) rfl)
set_option maxRecDepth 20000 in
theorem zwc_266 : Cond.code (zy 266) (zb 266) (zmL 266) (zret 266) ∈ lw_tbl := zmem_3 (List.mem_of_getElem? (i := 65) rfl)
set_option maxRecDepth 20000 in
theorem zwc_267 : Cond.code (zy 267) (zb 267) (zmL 267) (zret 267) ∈ lw_tbl := zmem_4 (List.mem_of_getElem? (i := 1) rfl)
set_option maxRecDepth 20000 in
theorem zwc_268 : Cond.code (zy 268) (zb 268) (zmL 268) (zret 268) ∈ lw_tbl := zmem_3 (List.mem_of_getElem? (i := 77) rfl)
set_option maxRecDepth 20000 in
theorem zwc_269 : Cond.code (zy 269) (zb 269) (zmL 269) (zret 269) ∈ lw_tbl := zmem_4 (List.mem_of_getElem? (i := 76) rfl)
set_option maxRecDepth 20000 in
theorem zwc_270 : Cond.code (zy 270) (zb 270) (zmL 270) (zret 270) ∈ lw_tbl := zmem_1 (List.mem_of_getElem? (i := 32) rfl)
set_option maxRecDepth 20000 in
theorem zwc_271 : Cond.code (zy 271) (zb 271) (zmL 271) (zret 271) ∈ lw_tbl := zmem_3 (List.mem_of_getElem? (i := 106) rfl)
set_option maxRecDepth 20000 in
theorem zwc_272 : Cond.code (zy 272) (zb 272) (zmL 272) (zret 272) ∈ lw_tbl := zmem_3 (List.mem_of_getElem? (i := 127) rfl)
set_option maxRecDepth 20000 in
theorem zwc_273 : Cond.code (zy 273) (zb 273) (zmL 273) (zret 273) ∈ lw_tbl := zmem_4 (List.mem_of_getElem? (i := 90) rfl)
set_option maxRecDepth 20000 in
theorem zwc_274 : Cond.code (zy 274) (zb 274) (zmL 274) (zret 274) ∈ lw_tbl := zmem_4 (List.mem_of_getElem? (i := 102) rfl)
set_option maxRecDepth 20000 in
theorem zwc_275 : Cond.code (zy 275) (zb 275) (zmL 275) (zret 275) ∈ lw_tbl := zmem_4 (List.mem_of_getElem? (i := 111) rfl)
set_option maxRecDepth 20000 in
theorem zwc_276 : Cond.code (zy 276) (zb 276) (zmL 276) (zret 276) ∈ lw_tbl := zmem_2 (List.mem_of_getElem? (i := 87) rfl)
set_option maxRecDepth 20000 in
theorem zwc_277 : Cond.code (zy 277) (zb 277) (zmL 277) (zret 277) ∈ lw_tbl := zmem_5 (List.mem_of_getElem? (i := 48) rfl)
set_option maxRecDepth 20000 in
theorem zwc_278 : Cond.code (zy 278) (zb 278) (zmL 278) (zret 278) ∈ lw_tbl := zmem_5 (List.mem_of_getElem? (i := 44) rfl)
set_option maxRecDepth 20000 in
theorem zwc_279 : Cond.code (zy 279) (zb 279) (zmL 279) (zret 279) ∈ lw_tbl := zmem_5 (List.mem_of_getElem? (i := 64) rfl)
set_option maxRecDepth 20000 in
theorem zwc_280 : Cond.code (zy 280) (zb 280) (zmL 280) (zret 280) ∈ lw_tbl := zmem_5 (List.mem_of_getElem? (i := 68) rfl)
set_option maxRecDepth 20000 in
theorem zwc_281 : Cond.code (zy 281) (zb 281) (zmL 281) (zret 281) ∈ lw_tbl := zmem_5 (List.mem_of_getElem? (i := 52) rfl)
end
section
/-! Every method's rows and code -/
def zgP (i : Nat) : Prop := zgM i = true ∧ Cond.code (zy i) (zb i) (zmL i) (zret i) ∈ lw_tbl
theorem zgc_0 : ∀ i ∈ ([0,1,2,3,4,5,6,7,8,9,10,11,12,13,14,15] : List Nat), zgP i := List.forall_mem_cons.mpr ⟨⟨zg_0, zwc_0⟩, List.forall_mem_cons.mpr ⟨⟨zg_1, zwc_1⟩, List.forall_mem_cons.mpr ⟨⟨zg_2, zwc_2⟩, List.forall_mem_cons.mpr ⟨⟨zg_3, zwc_3⟩, List.forall_mem_cons.mpr ⟨⟨zg_4, zwc_4⟩, List.forall_mem_cons.mpr ⟨⟨zg_5, zwc_5⟩, List.forall_mem_cons.mpr ⟨⟨zg_6, zwc_6⟩, List.forall_mem_cons.mpr ⟨⟨zg_7, zwc_7⟩, List.forall_mem_cons.mpr ⟨⟨zg_8, zwc_8⟩, List.forall_mem_cons.mpr ⟨⟨zg_9, zwc_9⟩, List.forall_mem_cons.mpr ⟨⟨zg_10, zwc_10⟩, List.forall_mem_cons.mpr ⟨⟨zg_11, zwc_11⟩, List.forall_mem_cons.mpr ⟨⟨zg_12, zwc_12⟩, List.forall_mem_cons.mpr ⟨⟨zg_13, zwc_13⟩, List.forall_mem_cons.mpr ⟨⟨zg_14, zwc_14⟩, List.forall_mem_cons.mpr ⟨⟨zg_15, zwc_15⟩, fun _ h => absurd h List.not_mem_nil⟩⟩⟩⟩⟩⟩⟩⟩⟩⟩⟩⟩⟩⟩⟩⟩
theorem zgc_1 : ∀ i ∈ ([16,17,18,19,20,21,22,23,24,25,26,27,28,29,30,31] : List Nat), zgP i := List.forall_mem_cons.mpr ⟨⟨zg_16, zwc_16⟩, List.forall_mem_cons.mpr ⟨⟨zg_17, zwc_17⟩, List.forall_mem_cons.mpr ⟨⟨zg_18, zwc_18⟩, List.forall_mem_cons.mpr ⟨⟨zg_19, zwc_19⟩, List.forall_mem_cons.mpr ⟨⟨zg_20, zwc_20⟩, List.forall_mem_cons.mpr ⟨⟨zg_21, zwc_21⟩, List.forall_mem_cons.mpr ⟨⟨zg_22, zwc_22⟩, List.forall_mem_cons.mpr ⟨⟨zg_23, zwc_23⟩, List.forall_mem_cons.mpr ⟨⟨zg_24, zwc_24⟩, List.forall_mem_cons.mpr ⟨⟨zg_25, zwc_25⟩, List.forall_mem_cons.mpr ⟨⟨zg_26, zwc_26⟩, List.forall_mem_cons.mpr ⟨⟨zg_27, zwc_27⟩, List.forall_mem_cons.mpr ⟨⟨zg_28, zwc_28⟩, List.forall_mem_cons.mpr ⟨⟨zg_29, zwc_29⟩, List.forall_mem_cons.mpr ⟨⟨zg_30, zwc_30⟩, List.forall_mem_cons.mpr ⟨⟨zg_31, zwc_31⟩, fun _ h => absurd h List.not_mem_nil⟩⟩⟩⟩⟩⟩⟩⟩⟩⟩⟩⟩⟩⟩⟩⟩
theorem zgc_2 : ∀ i ∈ ([32,33,34,35,36,37,38,39,40,41,42,43,44,45,46,47] : List Nat), zgP i := List.forall_mem_cons.mpr ⟨⟨zg_32, zwc_32⟩, List.forall_mem_cons.mpr ⟨⟨zg_33, zwc_33⟩, List.forall_mem_cons.mpr ⟨⟨zg_34, zwc_34⟩, List.forall_mem_cons.mpr ⟨⟨zg_35, zwc_35⟩, List.forall_mem_cons.mpr ⟨⟨zg_36, zwc_36⟩, List.forall_mem_cons.mpr ⟨⟨zg_37, zwc_37⟩, List.forall_mem_cons.mpr ⟨⟨zg_38, zwc_38⟩, List.forall_mem_cons.mpr ⟨⟨zg_39, zwc_39⟩, List.forall_mem_cons.mpr ⟨⟨zg_40, zwc_40⟩, List.forall_mem_cons.mpr ⟨⟨zg_41, zwc_41⟩, List.forall_mem_cons.mpr ⟨⟨zg_42, zwc_42⟩, List.forall_mem_cons.mpr ⟨⟨zg_43, zwc_43⟩, List.forall_mem_cons.mpr ⟨⟨zg_44, zwc_44⟩, List.forall_mem_cons.mpr ⟨⟨zg_45, zwc_45⟩, List.forall_mem_cons.mpr ⟨⟨zg_46, zwc_46⟩, List.forall_mem_cons.mpr ⟨⟨zg_47, zwc_47⟩, fun _ h => absurd h List.not_mem_nil⟩⟩⟩⟩⟩⟩⟩⟩⟩⟩⟩⟩⟩⟩⟩⟩
theorem zgc_3 : ∀ i ∈ ([48,49,50,51,52,53,54,55,56,57,58,59,60,61,62,63] : List Nat), zgP i := List.forall_mem_cons.mpr ⟨⟨zg_48, zwc_48⟩, List.forall_mem_cons.mpr ⟨⟨zg_49, zwc_49⟩, List.forall_mem_cons.mpr ⟨⟨zg_50, zwc_50⟩, List.forall_mem_cons.mpr ⟨⟨zg_51, zwc_51⟩, List.forall_mem_cons.mpr ⟨⟨zg_52, zwc_52⟩, List.forall_mem_cons.mpr ⟨⟨zg_53, zwc_53⟩, List.forall_mem_cons.mpr ⟨⟨zg_54, zwc_54⟩, List.forall_mem_cons.mpr ⟨⟨zg_55, zwc_55⟩, List.forall_mem_cons.mpr ⟨⟨zg_56, zwc_56⟩, List.forall_mem_cons.mpr ⟨⟨zg_57, zwc_57⟩, List.forall_mem_cons.mpr ⟨⟨zg_58, zwc_58⟩, List.forall_mem_cons.mpr ⟨⟨zg_59, zwc_59⟩, List.forall_mem_cons.mpr ⟨⟨zg_60, zwc_60⟩, List.forall_mem_cons.mpr ⟨⟨zg_61, zwc_61⟩, List.forall_mem_cons.mpr ⟨⟨zg_62, zwc_62⟩, List.forall_mem_cons.mpr ⟨⟨zg_63, zwc_63⟩, fun _ h => absurd h List.not_mem_nil⟩⟩⟩⟩⟩⟩⟩⟩⟩⟩⟩⟩⟩⟩⟩⟩
theorem zgc_4 : ∀ i ∈ ([64,65,66,67,68,69,70,71,72,73,74,75,76,77,78,79] : List Nat), zgP i := List.forall_mem_cons.mpr ⟨⟨zg_64, zwc_64⟩, List.forall_mem_cons.mpr ⟨⟨zg_65, zwc_65⟩, List.forall_mem_cons.mpr ⟨⟨zg_66, zwc_66⟩, List.forall_mem_cons.mpr ⟨⟨zg_67, zwc_67⟩, List.forall_mem_cons.mpr ⟨⟨zg_68, zwc_68⟩, List.forall_mem_cons.mpr ⟨⟨zg_69, zwc_69⟩, List.forall_mem_cons.mpr ⟨⟨zg_70, zwc_70⟩, List.forall_mem_cons.mpr ⟨⟨zg_71, zwc_71⟩, List.forall_mem_cons.mpr ⟨⟨zg_72, zwc_72⟩, List.forall_mem_cons.mpr ⟨⟨zg_73, zwc_73⟩, List.forall_mem_cons.mpr ⟨⟨zg_74, zwc_74⟩, List.forall_mem_cons.mpr ⟨⟨zg_75, zwc_75⟩, List.forall_mem_cons.mpr ⟨⟨zg_76, zwc_76⟩, List.forall_mem_cons.mpr ⟨⟨zg_77, zwc_77⟩, List.forall_mem_cons.mpr ⟨⟨zg_78, zwc_78⟩, List.forall_mem_cons.mpr ⟨⟨zg_79, zwc_79⟩, fun _ h => absurd h List.not_mem_nil⟩⟩⟩⟩⟩⟩⟩⟩⟩⟩⟩⟩⟩⟩⟩⟩
theorem zgc_5 : ∀ i ∈ ([80,81,82,83,84,85,86,87,88,89,90,91,92,93,94,95] : List Nat), zgP i := List.forall_mem_cons.mpr ⟨⟨zg_80, zwc_80⟩, List.forall_mem_cons.mpr ⟨⟨zg_81, zwc_81⟩, List.forall_mem_cons.mpr ⟨⟨zg_82, zwc_82⟩, List.forall_mem_cons.mpr ⟨⟨zg_83, zwc_83⟩, List.forall_mem_cons.mpr ⟨⟨zg_84, zwc_84⟩, List.forall_mem_cons.mpr ⟨⟨zg_85, zwc_85⟩, List.forall_mem_cons.mpr ⟨⟨zg_86, zwc_86⟩, List.forall_mem_cons.mpr ⟨⟨zg_87, zwc_87⟩, List.forall_mem_cons.mpr ⟨⟨zg_88, zwc_88⟩, List.forall_mem_cons.mpr ⟨⟨zg_89, zwc_89⟩, List.forall_mem_cons.mpr ⟨⟨zg_90, zwc_90⟩, List.forall_mem_cons.mpr ⟨⟨zg_91, zwc_91⟩, List.forall_mem_cons.mpr ⟨⟨zg_92, zwc_92⟩, List.forall_mem_cons.mpr ⟨⟨zg_93, zwc_93⟩, List.forall_mem_cons.mpr ⟨⟨zg_94, zwc_94⟩, List.forall_mem_cons.mpr ⟨⟨zg_95, zwc_95⟩, fun _ h => absurd h List.not_mem_nil⟩⟩⟩⟩⟩⟩⟩⟩⟩⟩⟩⟩⟩⟩⟩⟩
theorem zgc_6 : ∀ i ∈ ([96,97,98,99,100,101,102,103,104,105,106,107,108,109,110,111] : List Nat), zgP i := List.forall_mem_cons.mpr ⟨⟨zg_96, zwc_96⟩, List.forall_mem_cons.mpr ⟨⟨zg_97, zwc_97⟩, List.forall_mem_cons.mpr ⟨⟨zg_98, zwc_98⟩, List.forall_mem_cons.mpr ⟨⟨zg_99, zwc_99⟩, List.forall_mem_cons.mpr ⟨⟨zg_100, zwc_100⟩, List.forall_mem_cons.mpr ⟨⟨zg_101, zwc_101⟩, List.forall_mem_cons.mpr ⟨⟨zg_102, zwc_102⟩, List.forall_mem_cons.mpr ⟨⟨zg_103, zwc_103⟩, List.forall_mem_cons.mpr ⟨⟨zg_104, zwc_104⟩, List.forall_mem_cons.mpr ⟨⟨zg_105, zwc_105⟩, List.forall_mem_cons.mpr ⟨⟨zg_106, zwc_106⟩, List.forall_mem_cons.mpr ⟨⟨zg_107, zwc_107⟩, List.forall_mem_cons.mpr ⟨⟨zg_108, zwc_108⟩, List.forall_mem_cons.mpr ⟨⟨zg_109, zwc_109⟩, List.forall_mem_cons.mpr ⟨⟨zg_110, zwc_110⟩, List.forall_mem_cons.mpr ⟨⟨zg_111, zwc_111⟩, fun _ h => absurd h List.not_mem_nil⟩⟩⟩⟩⟩⟩⟩⟩⟩⟩⟩⟩⟩⟩⟩⟩
theorem zgc_7 : ∀ i ∈ ([112,113,114,115,116,117,118,119,120,121,122,123,124,125,126,127] : List Nat), zgP i := List.forall_mem_cons.mpr ⟨⟨zg_112, zwc_112⟩, List.forall_mem_cons.mpr ⟨⟨zg_113, zwc_113⟩, List.forall_mem_cons.mpr ⟨⟨zg_114, zwc_114⟩, List.forall_mem_cons.mpr ⟨⟨zg_115, zwc_115⟩, List.forall_mem_cons.mpr ⟨⟨zg_116, zwc_116⟩, List.forall_mem_cons.mpr ⟨⟨zg_117, zwc_117⟩, List.forall_mem_cons.mpr ⟨⟨zg_118, zwc_118⟩, List.forall_mem_cons.mpr ⟨⟨zg_119, zwc_119⟩, List.forall_mem_cons.mpr ⟨⟨zg_120, zwc_120⟩, List.forall_mem_cons.mpr ⟨⟨zg_121, zwc_121⟩, List.forall_mem_cons.mpr ⟨⟨zg_122, zwc_122⟩, List.forall_mem_cons.mpr ⟨⟨zg_123, zwc_123⟩, List.forall_mem_cons.mpr ⟨⟨zg_124, zwc_124⟩, List.forall_mem_cons.mpr ⟨⟨zg_125, zwc_125⟩, List.forall_mem_cons.mpr ⟨⟨zg_126, zwc_126⟩, List.forall_mem_cons.mpr ⟨⟨zg_127, zwc_127⟩, fun _ h => absurd h List.not_mem_nil⟩⟩⟩⟩⟩⟩⟩⟩⟩⟩⟩⟩⟩⟩⟩⟩
theorem zgc_8 : ∀ i ∈ ([128,129,130,131,132,133,134,135,136,137,138,139,140,141,142,143] : List Nat), zgP i := List.forall_mem_cons.mpr ⟨⟨zg_128, zwc_128⟩, List.forall_mem_cons.mpr ⟨⟨zg_129, zwc_129⟩, List.forall_mem_cons.mpr ⟨⟨zg_130, zwc_130⟩, List.forall_mem_cons.mpr ⟨⟨zg_131, zwc_131⟩, List.forall_mem_cons.mpr ⟨⟨zg_132, zwc_132⟩, List.forall_mem_cons.mpr ⟨⟨zg_133, zwc_133⟩, List.forall_mem_cons.mpr ⟨⟨zg_134, zwc_134⟩, List.forall_mem_cons.mpr ⟨⟨zg_135, zwc_135⟩, List.forall_mem_cons.mpr ⟨⟨zg_136, zwc_136⟩, List.forall_mem_cons.mpr ⟨⟨zg_137, zwc_137⟩, List.forall_mem_cons.mpr ⟨⟨zg_138, zwc_138⟩, List.forall_mem_cons.mpr ⟨⟨zg_139, zwc_139⟩, List.forall_mem_cons.mpr ⟨⟨zg_140, zwc_140⟩, List.forall_mem_cons.mpr ⟨⟨zg_141, zwc_141⟩, List.forall_mem_cons.mpr ⟨⟨zg_142, zwc_142⟩, List.forall_mem_cons.mpr ⟨⟨zg_143, zwc_143⟩, fun _ h => absurd h List.not_mem_nil⟩⟩⟩⟩⟩⟩⟩⟩⟩⟩⟩⟩⟩⟩⟩⟩
theorem zgc_9 : ∀ i ∈ ([144,145,146,147,148,149,150,151,152,153,154,155,156,157,158,159] : List Nat), zgP i := List.forall_mem_cons.mpr ⟨⟨zg_144, zwc_144⟩, List.forall_mem_cons.mpr ⟨⟨zg_145, zwc_145⟩, List.forall_mem_cons.mpr ⟨⟨zg_146, zwc_146⟩, List.forall_mem_cons.mpr ⟨⟨zg_147, zwc_147⟩, List.forall_mem_cons.mpr ⟨⟨zg_148, zwc_148⟩, List.forall_mem_cons.mpr ⟨⟨zg_149, zwc_149⟩, List.forall_mem_cons.mpr ⟨⟨zg_150, zwc_150⟩, List.forall_mem_cons.mpr ⟨⟨zg_151, zwc_151⟩, List.forall_mem_cons.mpr ⟨⟨zg_152, zwc_152⟩, List.forall_mem_cons.mpr ⟨⟨zg_153, zwc_153⟩, List.forall_mem_cons.mpr ⟨⟨zg_154, zwc_154⟩, List.forall_mem_cons.mpr ⟨⟨zg_155, zwc_155⟩, List.forall_mem_cons.mpr ⟨⟨zg_156, zwc_156⟩, List.forall_mem_cons.mpr ⟨⟨zg_157, zwc_157⟩, List.forall_mem_cons.mpr ⟨⟨zg_158, zwc_158⟩, List.forall_mem_cons.mpr ⟨⟨zg_159, zwc_159⟩, fun _ h => absurd h List.not_mem_nil⟩⟩⟩⟩⟩⟩⟩⟩⟩⟩⟩⟩⟩⟩⟩⟩
theorem zgc_10 : ∀ i ∈ ([160,161,162,163,164,165,166,167,168,169,170,171,172,173,174,175] : List Nat), zgP i := List.forall_mem_cons.mpr ⟨⟨zg_160, zwc_160⟩, List.forall_mem_cons.mpr ⟨⟨zg_161, zwc_161⟩, List.forall_mem_cons.mpr ⟨⟨zg_162, zwc_162⟩, List.forall_mem_cons.mpr ⟨⟨zg_163, zwc_163⟩, List.forall_mem_cons.mpr ⟨⟨zg_164, zwc_164⟩, List.forall_mem_cons.mpr ⟨⟨zg_165, zwc_165⟩, List.forall_mem_cons.mpr ⟨⟨zg_166, zwc_166⟩, List.forall_mem_cons.mpr ⟨⟨zg_167, zwc_167⟩, List.forall_mem_cons.mpr ⟨⟨zg_168, zwc_168⟩, List.forall_mem_cons.mpr ⟨⟨zg_169, zwc_169⟩, List.forall_mem_cons.mpr ⟨⟨zg_170, zwc_170⟩, List.forall_mem_cons.mpr ⟨⟨zg_171, zwc_171⟩, List.forall_mem_cons.mpr ⟨⟨zg_172, zwc_172⟩, List.forall_mem_cons.mpr ⟨⟨zg_173, zwc_173⟩, List.forall_mem_cons.mpr ⟨⟨zg_174, zwc_174⟩, List.forall_mem_cons.mpr ⟨⟨zg_175, zwc_175⟩, fun _ h => absurd h List.not_mem_nil⟩⟩⟩⟩⟩⟩⟩⟩⟩⟩⟩⟩⟩⟩⟩⟩
theorem zgc_11 : ∀ i ∈ ([176,177,178,179,180,181,182,183,184,185,186,187,188,189,190,191] : List Nat), zgP i := List.forall_mem_cons.mpr ⟨⟨zg_176, zwc_176⟩, List.forall_mem_cons.mpr ⟨⟨zg_177, zwc_177⟩, List.forall_mem_cons.mpr ⟨⟨zg_178, zwc_178⟩, List.forall_mem_cons.mpr ⟨⟨zg_179, zwc_179⟩, List.forall_mem_cons.mpr ⟨⟨zg_180, zwc_180⟩, List.forall_mem_cons.mpr ⟨⟨zg_181, zwc_181⟩, List.forall_mem_cons.mpr ⟨⟨zg_182, zwc_182⟩, List.forall_mem_cons.mpr ⟨⟨zg_183, zwc_183⟩, List.forall_mem_cons.mpr ⟨⟨zg_184, zwc_184⟩, List.forall_mem_cons.mpr ⟨⟨zg_185, zwc_185⟩, List.forall_mem_cons.mpr ⟨⟨zg_186, zwc_186⟩, List.forall_mem_cons.mpr ⟨⟨zg_187, zwc_187⟩, List.forall_mem_cons.mpr ⟨⟨zg_188, zwc_188⟩, List.forall_mem_cons.mpr ⟨⟨zg_189, zwc_189⟩, List.forall_mem_cons.mpr ⟨⟨zg_190, zwc_190⟩, List.forall_mem_cons.mpr ⟨⟨zg_191, zwc_191⟩, fun _ h => absurd h List.not_mem_nil⟩⟩⟩⟩⟩⟩⟩⟩⟩⟩⟩⟩⟩⟩⟩⟩
theorem zgc_12 : ∀ i ∈ ([192,193,194,195,196,197,198,199,200,201,202,203,204,205,206,207] : List Nat), zgP i := List.forall_mem_cons.mpr ⟨⟨zg_192, zwc_192⟩, List.forall_mem_cons.mpr ⟨⟨zg_193, zwc_193⟩, List.forall_mem_cons.mpr ⟨⟨zg_194, zwc_194⟩, List.forall_mem_cons.mpr ⟨⟨zg_195, zwc_195⟩, List.forall_mem_cons.mpr ⟨⟨zg_196, zwc_196⟩, List.forall_mem_cons.mpr ⟨⟨zg_197, zwc_197⟩, List.forall_mem_cons.mpr ⟨⟨zg_198, zwc_198⟩, List.forall_mem_cons.mpr ⟨⟨zg_199, zwc_199⟩, List.forall_mem_cons.mpr ⟨⟨zg_200, zwc_200⟩, List.forall_mem_cons.mpr ⟨⟨zg_201, zwc_201⟩, List.forall_mem_cons.mpr ⟨⟨zg_202, zwc_202⟩, List.forall_mem_cons.mpr ⟨⟨zg_203, zwc_203⟩, List.forall_mem_cons.mpr ⟨⟨zg_204, zwc_204⟩, List.forall_mem_cons.mpr ⟨⟨zg_205, zwc_205⟩, List.forall_mem_cons.mpr ⟨⟨zg_206, zwc_206⟩, List.forall_mem_cons.mpr ⟨⟨zg_207, zwc_207⟩, fun _ h => absurd h List.not_mem_nil⟩⟩⟩⟩⟩⟩⟩⟩⟩⟩⟩⟩⟩⟩⟩⟩
theorem zgc_13 : ∀ i ∈ ([208,209,210,211,212,213,214,215,216,217,218,219,220,221,222,223] : List Nat), zgP i := List.forall_mem_cons.mpr ⟨⟨zg_208, zwc_208⟩, List.forall_mem_cons.mpr ⟨⟨zg_209, zwc_209⟩, List.forall_mem_cons.mpr ⟨⟨zg_210, zwc_210⟩, List.forall_mem_cons.mpr ⟨⟨zg_211, zwc_211⟩, List.forall_mem_cons.mpr ⟨⟨zg_212, zwc_212⟩, List.forall_mem_cons.mpr ⟨⟨zg_213, zwc_213⟩, List.forall_mem_cons.mpr ⟨⟨zg_214, zwc_214⟩, List.forall_mem_cons.mpr ⟨⟨zg_215, zwc_215⟩, List.forall_mem_cons.mpr ⟨⟨zg_216, zwc_216⟩, List.forall_mem_cons.mpr ⟨⟨zg_217, zwc_217⟩, List.forall_mem_cons.mpr ⟨⟨zg_218, zwc_218⟩, List.forall_mem_cons.mpr ⟨⟨zg_219, zwc_219⟩, List.forall_mem_cons.mpr ⟨⟨zg_220, zwc_220⟩, List.forall_mem_cons.mpr ⟨⟨zg_221, zwc_221⟩, List.forall_mem_cons.mpr ⟨⟨zg_222, zwc_222⟩, List.forall_mem_cons.mpr ⟨⟨zg_223, zwc_223⟩, fun _ h => absurd h List.not_mem_nil⟩⟩⟩⟩⟩⟩⟩⟩⟩⟩⟩⟩⟩⟩⟩⟩
theorem zgc_14 : ∀ i ∈ ([224,225,226,227,228,229,230,231,232,233,234,235,236,237,238,239] : List Nat), zgP i := List.forall_mem_cons.mpr ⟨⟨zg_224, zwc_224⟩, List.forall_mem_cons.mpr ⟨⟨zg_225, zwc_225⟩, List.forall_mem_cons.mpr ⟨⟨zg_226, zwc_226⟩, List.forall_mem_cons.mpr ⟨⟨zg_227, zwc_227⟩, List.forall_mem_cons.mpr ⟨⟨zg_228, zwc_228⟩, List.forall_mem_cons.mpr ⟨⟨zg_229, zwc_229⟩, List.forall_mem_cons.mpr ⟨⟨zg_230, zwc_230⟩, List.forall_mem_cons.mpr ⟨⟨zg_231, zwc_231⟩, List.forall_mem_cons.mpr ⟨⟨zg_232, zwc_232⟩, List.forall_mem_cons.mpr ⟨⟨zg_233, zwc_233⟩, List.forall_mem_cons.mpr ⟨⟨zg_234, zwc_234⟩, List.forall_mem_cons.mpr ⟨⟨zg_235, zwc_235⟩, List.forall_mem_cons.mpr ⟨⟨zg_236, zwc_236⟩, List.forall_mem_cons.mpr ⟨⟨zg_237, zwc_237⟩, List.forall_mem_cons.mpr ⟨⟨zg_238, zwc_238⟩, List.forall_mem_cons.mpr ⟨⟨zg_239, zwc_239⟩, fun _ h => absurd h List.not_mem_nil⟩⟩⟩⟩⟩⟩⟩⟩⟩⟩⟩⟩⟩⟩⟩⟩
theorem zgc_15 : ∀ i ∈ ([240,241,242,243,244,245,246,247,248,249,250,251,252,253,254,255] : List Nat), zgP i := List.forall_mem_cons.mpr ⟨⟨zg_240, zwc_240⟩, List.forall_mem_cons.mpr ⟨⟨zg_241, zwc_241⟩, List.forall_mem_cons.mpr ⟨⟨zg_242, zwc_242⟩, List.forall_mem_cons.mpr ⟨⟨zg_243, zwc_243⟩, List.forall_mem_cons.mpr ⟨⟨zg_244, zwc_244⟩, List.forall_mem_cons.mpr ⟨⟨zg_245, zwc_245⟩, List.forall_mem_cons.mpr ⟨⟨zg_246, zwc_246⟩, List.forall_mem_cons.mpr ⟨⟨zg_247, zwc_247⟩, List.forall_mem_cons.mpr ⟨⟨zg_248, zwc_248⟩, List.forall_mem_cons.mpr ⟨⟨zg_249, zwc_249⟩, List.forall_mem_cons.mpr ⟨⟨zg_250, zwc_250⟩, List.forall_mem_cons.mpr ⟨⟨zg_251, zwc_251⟩, List.forall_mem_cons.mpr ⟨⟨zg_252, zwc_252⟩, List.forall_mem_cons.mpr ⟨⟨zg_253, zwc_253⟩, List.forall_mem_cons.mpr ⟨⟨zg_254, zwc_254⟩, List.forall_mem_cons.mpr ⟨⟨zg_255, zwc_255⟩, fun _ h => absurd h List.not_mem_nil⟩⟩⟩⟩⟩⟩⟩⟩⟩⟩⟩⟩⟩⟩⟩⟩
theorem zgc_16 : ∀ i ∈ ([256,257,258,259,260,261,262,263,264,265,266,267,268,269,270,271] : List Nat), zgP i := List.forall_mem_cons.mpr ⟨⟨zg_256, zwc_256⟩, List.forall_mem_cons.mpr ⟨⟨zg_257, zwc_257⟩, List.forall_mem_cons.mpr ⟨⟨zg_258, zwc_258⟩, List.forall_mem_cons.mpr ⟨⟨zg_259, zwc_259⟩, List.forall_mem_cons.mpr ⟨⟨zg_260, zwc_260⟩, List.forall_mem_cons.mpr ⟨⟨zg_261, zwc_261⟩, List.forall_mem_cons.mpr ⟨⟨zg_262, zwc_262⟩, List.forall_mem_cons.mpr ⟨⟨zg_263, zwc_263⟩, List.forall_mem_cons.mpr ⟨⟨zg_264, zwc_264⟩, List.forall_mem_cons.mpr ⟨⟨zg_265, zwc_265⟩, List.forall_mem_cons.mpr ⟨⟨zg_266, zwc_266⟩, List.forall_mem_cons.mpr ⟨⟨zg_267, zwc_267⟩, List.forall_mem_cons.mpr ⟨⟨zg_268, zwc_268⟩, List.forall_mem_cons.mpr ⟨⟨zg_269, zwc_269⟩, List.forall_mem_cons.mpr ⟨⟨zg_270, zwc_270⟩, List.forall_mem_cons.mpr ⟨⟨zg_271, zwc_271⟩, fun _ h => absurd h List.not_mem_nil⟩⟩⟩⟩⟩⟩⟩⟩⟩⟩⟩⟩⟩⟩⟩⟩
theorem zgc_17 : ∀ i ∈ ([272,273,274,275,276,277,278,279,280,281] : List Nat), zgP i := List.forall_mem_cons.mpr ⟨⟨zg_272, zwc_272⟩, List.forall_mem_cons.mpr ⟨⟨zg_273, zwc_273⟩, List.forall_mem_cons.mpr ⟨⟨zg_274, zwc_274⟩, List.forall_mem_cons.mpr ⟨⟨zg_275, zwc_275⟩, List.forall_mem_cons.mpr ⟨⟨zg_276, zwc_276⟩, List.forall_mem_cons.mpr ⟨⟨zg_277, zwc_277⟩, List.forall_mem_cons.mpr ⟨⟨zg_278, zwc_278⟩, List.forall_mem_cons.mpr ⟨⟨zg_279, zwc_279⟩, List.forall_mem_cons.mpr ⟨⟨zg_280, zwc_280⟩, List.forall_mem_cons.mpr ⟨⟨zg_281, zwc_281⟩, fun _ h => absurd h List.not_mem_nil⟩⟩⟩⟩⟩⟩⟩⟩⟩⟩
def zgI : List Nat := ([0,1,2,3,4,5,6,7,8,9,10,11,12,13,14,15] : List Nat) ++ (([16,17,18,19,20,21,22,23,24,25,26,27,28,29,30,31] : List Nat) ++ (([32,33,34,35,36,37,38,39,40,41,42,43,44,45,46,47] : List Nat) ++ (([48,49,50,51,52,53,54,55,56,57,58,59,60,61,62,63] : List Nat) ++ (([64,65,66,67,68,69,70,71,72,73,74,75,76,77,78,79] : List Nat) ++ (([80,81,82,83,84,85,86,87,88,89,90,91,92,93,94,95] : List Nat) ++ (([96,97,98,99,100,101,102,103,104,105,106,107,108,109,110,111] : List Nat) ++ (([112,113,114,115,116,117,118,119,120,121,122,123,124,125,126,127] : List Nat) ++ (([128,129,130,131,132,133,134,135,136,137,138,139,140,141,142,143] : List Nat) ++ (([144,145,146,147,148,149,150,151,152,153,154,155,156,157,158,159] : List Nat) ++ (([160,161,162,163,164,165,166,167,168,169,170,171,172,173,174,175] : List Nat) ++ (([176,177,178,179,180,181,182,183,184,185,186,187,188,189,190,191] : List Nat) ++ (([192,193,194,195,196,197,198,199,200,201,202,203,204,205,206,207] : List Nat) ++ (([208,209,210,211,212,213,214,215,216,217,218,219,220,221,222,223] : List Nat) ++ (([224,225,226,227,228,229,230,231,232,233,234,235,236,237,238,239] : List Nat) ++ (([240,241,242,243,244,245,246,247,248,249,250,251,252,253,254,255] : List Nat) ++ (([256,257,258,259,260,261,262,263,264,265,266,267,268,269,270,271] : List Nat) ++ (([272,273,274,275,276,277,278,279,280,281] : List Nat))))))))))))))))))
theorem zgI_all : ∀ i, i < 282 → i ∈ zgI := by decide +kernel
theorem zg_all : ∀ i, i < 282 → zgP i := fun i h => (show ∀ i ∈ ([0,1,2,3,4,5,6,7,8,9,10,11,12,13,14,15] : List Nat) ++ (([16,17,18,19,20,21,22,23,24,25,26,27,28,29,30,31] : List Nat) ++ (([32,33,34,35,36,37,38,39,40,41,42,43,44,45,46,47] : List Nat) ++ (([48,49,50,51,52,53,54,55,56,57,58,59,60,61,62,63] : List Nat) ++ (([64,65,66,67,68,69,70,71,72,73,74,75,76,77,78,79] : List Nat) ++ (([80,81,82,83,84,85,86,87,88,89,90,91,92,93,94,95] : List Nat) ++ (([96,97,98,99,100,101,102,103,104,105,106,107,108,109,110,111] : List Nat) ++ (([112,113,114,115,116,117,118,119,120,121,122,123,124,125,126,127] : List Nat) ++ (([128,129,130,131,132,133,134,135,136,137,138,139,140,141,142,143] : List Nat) ++ (([144,145,146,147,148,149,150,151,152,153,154,155,156,157,158,159] : List Nat) ++ (([160,161,162,163,164,165,166,167,168,169,170,171,172,173,174,175] : List Nat) ++ (([176,177,178,179,180,181,182,183,184,185,186,187,188,189,190,191] : List Nat) ++ (([192,193,194,195,196,197,198,199,200,201,202,203,204,205,206,207] : List Nat) ++ (([208,209,210,211,212,213,214,215,216,217,218,219,220,221,222,223] : List Nat) ++ (([224,225,226,227,228,229,230,231,232,233,234,235,236,237,238,239] : List Nat) ++ (([240,241,242,243,244,245,246,247,248,249,250,251,252,253,254,255] : List Nat) ++ (([256,257,258,259,260,261,262,263,264,265,266,267,268,269,270,271] : List Nat) ++ (([272,273,274,275,276,277,278,279,280,281] : List Nat)))))))))))))))))), zgP i from fun i h => (List.mem_append.mp h).elim (zgc_0 i) ((fun i h => (List.mem_append.mp h).elim (zgc_1 i) ((fun i h => (List.mem_append.mp h).elim (zgc_2 i) ((fun i h => (List.mem_append.mp h).elim (zgc_3 i) ((fun i h => (List.mem_append.mp h).elim (zgc_4 i) ((fun i h => (List.mem_append.mp h).elim (zgc_5 i) ((fun i h => (List.mem_append.mp h).elim (zgc_6 i) ((fun i h => (List.mem_append.mp h).elim (zgc_7 i) ((fun i h => (List.mem_append.mp h).elim (zgc_8 i) ((fun i h => (List.mem_append.mp h).elim (zgc_9 i) ((fun i h => (List.mem_append.mp h).elim (zgc_10 i) ((fun i h => (List.mem_append.mp h).elim (zgc_11 i) ((fun i h => (List.mem_append.mp h).elim (zgc_12 i) ((fun i h => (List.mem_append.mp h).elim (zgc_13 i) ((fun i h => (List.mem_append.mp h).elim (zgc_14 i) ((fun i h => (List.mem_append.mp h).elim (zgc_15 i) ((fun i h => (List.mem_append.mp h).elim (zgc_16 i) ((zgc_17) i)) i)) i)) i)) i)) i)) i)) i)) i)) i)) i)) i)) i)) i)) i)) i)) i)) i (zgI_all i h)
end
section
/-! What the small machine's state says of the real one's -/
noncomputable def zcl : List vw_C := (List.range 13).map (fun c => (zC c, zT c, zN c))
theorem zcl_at {c : Nat} (h : c < 13) : zcl[c]? = some (zC c, zT c, zN c) := by
  unfold zcl
  rw [List.getElem?_map, List.getElem?_range h]
  rfl
/-- the words that a method needs beside its own code -/
noncomputable def zTb : List Cond := lw_tbl.filter goodWord
theorem zTb_of {w : Cond} {k : Nat} (h : lw_tbl[k]? = some w) (hg : goodWord w = true) : w ∈ zTb := List.mem_filter.mpr ⟨List.mem_of_getElem? h, hg⟩
theorem zTb_good {w : Cond} (h : w ∈ zTb) : (w.onTables && w.keeps) = true ∨ ∃ ty, w = .arrayClass ty := good_of_word (List.mem_filter.mp h).2
def zcv (adK ad : Nat → Nat) (v : zV) : Value := if v.1 = 0 then .int (Int32.ofInt v.2) else if v.1 = 1 then .ref (ad v.2.toNat) else if v.1 = 2 then .long (Int64.ofInt v.2) else if v.1 = 4 then .ref (adK v.2.toNat) else .null
theorem zcv_0 (adK ad : Nat → Nat) (x : Int) : zcv adK ad (0, x) = .int (Int32.ofInt x) := rfl
theorem zcv_1 (adK ad : Nat → Nat) (x : Int) : zcv adK ad (1, x) = .ref (ad x.toNat) := rfl
theorem zcv_2 (adK ad : Nat → Nat) (x : Int) : zcv adK ad (2, x) = .long (Int64.ofInt x) := rfl
theorem zcv_4 (adK ad : Nat → Nat) (x : Int) : zcv adK ad (4, x) = .ref (adK x.toNat) := rfl
theorem zcv_i {adK ad : Nat → Nat} {v : zV} (h : v.1 = 0) : zcv adK ad v = .int (Int32.ofInt v.2) := if_pos h
theorem zcv_r {adK ad : Nat → Nat} {v : zV} (h : v.1 = 1) : zcv adK ad v = .ref (ad v.2.toNat) := by
  unfold zcv
  rw [if_neg (by omega), if_pos h]
theorem zcv_l {adK ad : Nat → Nat} {v : zV} (h : v.1 = 2) : zcv adK ad v = .long (Int64.ofInt v.2) := by
  unfold zcv
  rw [if_neg (by omega), if_neg (by omega), if_pos h]
theorem zcv_t {adK ad : Nat → Nat} {v : zV} (h : v.1 = 4) : zcv adK ad v = .ref (adK v.2.toNat) := by
  unfold zcv
  rw [if_neg (by omega), if_neg (by omega), if_neg (by omega), if_pos h]
theorem zcv_n {adK ad : Nat → Nat} {v : zV} (h : v.1 = 5) : zcv adK ad v = .null := by
  unfold zcv
  rw [if_neg (by omega), if_neg (by omega), if_neg (by omega), if_neg (by omega)]
theorem zcv_cat {adK ad : Nat → Nat} {v : zV} (h : v.1 ≠ 2) : (zcv adK ad v).category = 1 := by
  unfold zcv
  by_cases h0 : v.1 = 0
  · rw [if_pos h0]; rfl
  · rw [if_neg h0]
    by_cases h1 : v.1 = 1
    · rw [if_pos h1]; rfl
    · rw [if_neg h1, if_neg h]
      by_cases h4 : v.1 = 4
      · rw [if_pos h4]; rfl
      · rw [if_neg h4]; rfl
theorem zcv_cat2 {adK ad : Nat → Nat} (v : zV) : (zcv adK ad v).category ≤ 2 := by
  rcases lv_cat (zcv adK ad v) with h | h <;> omega
def zok (n : Nat) (v : zV) : Prop := ((v.1 = 0 ∨ v.1 = 2) → -2147483648 ≤ v.2 ∧ v.2 ≤ 2147483647) ∧ (v.1 = 1 → 0 ≤ v.2 ∧ v.2 < n)
theorem zok.mono {n k : Nat} {v : zV} (h : zok n v) (hk : n ≤ k) : zok k v := ⟨h.1, fun z => ⟨(h.2 z).1, by have := (h.2 z).2; omega⟩⟩
def zag (n : Nat) (ad0 : Nat → Nat) (cA0 : Nat → ClassId) (ad : Nat → Nat) (cA : Nat → ClassId) : Prop := ∀ k, k < n → ad k = ad0 k ∧ cA k = cA0 k
theorem zag.rf {n : Nat} {ad : Nat → Nat} {cA : Nat → ClassId} : zag n ad cA ad cA := fun _ _ => ⟨rfl, rfl⟩
theorem zag.tr {n k : Nat} {a0 a1 a2 : Nat → Nat} {c0 c1 c2 : Nat → ClassId} (h1 : zag n a0 c0 a1 c1) (h2 : zag k a1 c1 a2 c2) (hk : n ≤ k) : zag n a0 c0 a2 c2 := fun i hi => ⟨((h2 i (by omega)).1).trans (h1 i hi).1, ((h2 i (by omega)).2).trans (h1 i hi).2⟩
theorem zcv_ag {adK ad0 ad : Nat → Nat} {cA0 cA : Nat → ClassId} {n : Nat} {v : zV} (h : zag n ad0 cA0 ad cA) (hv : zok n v) : zcv adK ad v = zcv adK ad0 v := by
  unfold zcv
  by_cases h1 : v.1 = 1
  · have := hv.2 h1
    rw [if_neg (by omega), if_pos h1, if_neg (by omega), if_pos h1, (h _ (show v.2.toNat < n by omega)).1]
  · rw [if_neg h1, if_neg h1]
/-- the locals, as the kit's rows want them -/
def zls (adK ad : Nat → Nat) : Nat → List zV → List (Nat × Value)
  | _, [] => []
  | k, v :: r => if v.1 = 3 then zls adK ad (k + 1) r else (k, zcv adK ad v) :: zls adK ad (k + 1) r
theorem zls_mem {adK ad : Nat → Nat} : ∀ (ls : List zV) (k : Nat) (q : Nat × Value), q ∈ zls adK ad k ls ↔ ∃ (j : Nat) (v : zV), ls[j]? = some v ∧ v.1 ≠ 3 ∧ q = (k + j, zcv adK ad v) := by
  intro ls
  induction ls with
  | nil => intro k q; simp [zls]
  | cons v r ih =>
    intro k q
    unfold zls
    by_cases h : v.1 = 3
    · rw [if_pos h, ih]
      constructor
      · rintro ⟨j, w, h1, h2, rfl⟩
        exact ⟨j + 1, w, by simpa using h1, h2, by rw [show k + 1 + j = k + (j + 1) by omega]⟩
      · rintro ⟨j, w, h1, h2, rfl⟩
        cases j with
        | zero => simp only [List.getElem?_cons_zero, Option.some.injEq] at h1; subst h1; exact absurd h h2
        | succ j => exact ⟨j, w, by simpa using h1, h2, by rw [show k + 1 + j = k + (j + 1) by omega]⟩
    · rw [if_neg h, List.mem_cons, ih]
      constructor
      · rintro (rfl | ⟨j, w, h1, h2, rfl⟩)
        · exact ⟨0, v, rfl, h, by simp⟩
        · exact ⟨j + 1, w, by simpa using h1, h2, by rw [show k + 1 + j = k + (j + 1) by omega]⟩
      · rintro ⟨j, w, h1, h2, rfl⟩
        cases j with
        | zero => simp only [List.getElem?_cons_zero, Option.some.injEq] at h1; subst h1; exact Or.inl (by simp)
        | succ j => exact Or.inr ⟨j, w, by simpa using h1, h2, by rw [show k + 1 + j = k + (j + 1) by omega]⟩
theorem zls_at {adK ad : Nat → Nat} {als : Array Slot} {nL : Nat} {ls : List zV} (h : lv_has als nL (zls adK ad 0 ls)) {k : Nat} {v : zV} (hv : ls[k]? = some v) (h3 : v.1 ≠ 3) : als[k]? = some (.val (zcv adK ad v)) :=
  h.2.2 (k, zcv adK ad v) ((zls_mem ls 0 _).mpr ⟨k, v, hv, h3, by simp⟩)
theorem lv_has.of {als : Array Slot} {nL : Nat} {l l' : List (Nat × Value)} (h : lv_has als nL l) (hs : ∀ q ∈ l', q ∈ l) : lv_has als nL l' := ⟨h.1, h.2.1, fun q hq => h.2.2 q (hs q hq)⟩
/-- behind a store -/
theorem zls_set {adK ad : Nat → Nat} {als : Array Slot} {nL k : Nat} {ls : List zV} {v : zV} (hk : k < ls.length) (hn : ∀ w ∈ ls, w.1 ≠ 2)
    (h : lv_has als nL ((k, zcv adK ad v) :: (zls adK ad 0 ls).filter (fun q => !(q.1 == k) && !(q.1 + 1 == k && q.2.category == 2)))) : lv_has als nL (zls adK ad 0 (ls.set k v)) := by
  refine h.of (fun q hq => ?_)
  obtain ⟨j, w, h1, h2, rfl⟩ := (zls_mem _ 0 q).mp hq
  rw [Nat.zero_add]
  by_cases hj : j = k
  · subst hj
    rw [List.getElem?_set_self hk] at h1
    cases h1
    exact List.mem_cons_self
  · rw [List.getElem?_set_ne (Ne.symm hj)] at h1
    refine List.mem_cons_of_mem _ (List.mem_filter.mpr ⟨(zls_mem _ 0 _).mpr ⟨j, w, h1, h2, by simp⟩, ?_⟩)
    have hc := zcv_cat (adK := adK) (ad := ad) (hn w (List.mem_of_getElem? h1))
    simp [hj, hc]
theorem zls_get {adK ad : Nat → Nat} {ls : List zV} {k : Nat} {v : zV} (hv : ls[k]? = some v) (h3 : v.1 ≠ 3) : ∃ j : Nat, (zls adK ad 0 ls)[j]? = some (k, zcv adK ad v) :=
  List.getElem?_of_mem ((zls_mem ls 0 _).mpr ⟨k, v, hv, h3, by simp⟩)
theorem zls_ag {adK ad0 ad : Nat → Nat} {cA0 cA : Nat → ClassId} {n : Nat} (h : zag n ad0 cA0 ad cA) : ∀ (ls : List zV) (k : Nat), (∀ v ∈ ls, zok n v) → zls adK ad k ls = zls adK ad0 k ls := by
  intro ls
  induction ls with
  | nil => intro k _; rfl
  | cons v r ih =>
    intro k hv
    unfold zls
    rw [ih (k + 1) (fun w hw => hv w (List.mem_cons_of_mem _ hw)), zcv_ag h (hv v List.mem_cons_self)]
/-- the cells -/
def zel (adK ad : Nat → Nat) (cA : Nat → ClassId) (M : zM) (k : Nat) (q : zSh) : va_E :=
  if q.1 = 0 then .inr (q.2.1, (List.range (zN q.2.1)).map (fun j => if zkd q.2.1 j = 1 then zcv adK ad (zrf (q.2.2.getD j (-1))) else .int (Int32.ofInt (M k j))))
  else if q.1 = 4 then .inl (cA k, q.2.1, .inr (.inr (.inr (.inr (fun j => if j < q.2.1 then some (ad (q.2.2.getD 0 0 + j).toNat) else none)))))
  else if q.1 = 5 then .inl (cA k, q.2.1, .inr (.inr (.inr (.inr (fun j => if M k j ≤ 0 then none else some (ad (M k j - 1).toNat))))))
  else .inl (cA k, q.2.1, .inl (fun j => Int32.ofInt (M k j)))
def zws (adK ad : Nat → Nat) (cA : Nat → ClassId) (S : List zSh) (M : zM) : va_W := (List.range S.length).map (fun k => (ad k, zel adK ad cA M k (S.getD k (9, 0, []))))
theorem zws_at {adK ad : Nat → Nat} {cA : Nat → ClassId} {S : List zSh} {M : zM} {k : Nat} {q : zSh} (h : S[k]? = some q) : (zws adK ad cA S M)[k]? = some (ad k, zel adK ad cA M k q) := by
  have hk : k < S.length := (List.getElem?_eq_some_iff.mp h).1
  unfold zws
  rw [List.getElem?_map, List.getElem?_range hk]
  simp [List.getD, h]
theorem zws_len {adK ad : Nat → Nat} {cA : Nat → ClassId} {S : List zSh} {M : zM} : (zws adK ad cA S M).length = S.length := by simp [zws]
def zaty (q : zSh) : FieldType := if q.1 = 1 then .int else if q.1 = 2 then .byte else if q.1 = 3 then .boolean else if q.1 = 4 then .array .int else .object (zC (q.2.2.getD 0 0).toNat)
def zval (S : List zSh) (M : zM) : Prop :=
  (∀ (k : Nat) (q : zSh), S[k]? = some q → (q.1 ≤ 5 ∧ q.2.1 ≤ 2000) ∧ (q.1 = 0 → q.2.1 < 13 ∧ q.2.2.length = zN q.2.1 ∧ ∀ j : Nat, q.2.2.getD j (-1) < S.length) ∧ (q.1 = 4 → 0 ≤ q.2.2.getD 0 0 ∧ q.2.2.getD 0 0 + q.2.1 ≤ S.length) ∧ (q.1 = 5 → q.2.2.getD 0 0 = 10 ∧ ∀ j : Int, M k j ≤ S.length)) ∧
  (∀ (k : Nat) (q : zSh), S[k]? = some q → q.1 ≠ 5 → ∀ j : Int, -2147483648 ≤ M k j ∧ M k j ≤ 2147483647) ∧
  (∀ k : Nat, S.length ≤ k → ∀ j : Int, M k j = 0)
def zKs (D : va_G) (cA : Nat → ClassId) (S : List zSh) (s : State) : Prop := va_K D zcl [] s ∧ ∀ (k : Nat) (q : zSh), S[k]? = some q → q.1 ≠ 0 → ArrOfT s (cA k) (zaty q) ∧ va_RA s (cA k) (zaty q)
def zRep (D : va_G) (adK ad : Nat → Nat) (cA : Nat → ClassId) (S : List zSh) (M : zM) (s : State) (H : Heap) (A : Nat → Prop) : Prop := va_P D zcl (zws adK ad cA S M) H ∧ va_D A (zws adK ad cA S M) ∧ zKs D cA S s ∧ zval S M
theorem zKs.one {D : va_G} {cA : Nat → ClassId} {S : List zSh} {s : State} (h : zKs D cA S s) {k : Nat} {q : zSh} (hq : S[k]? = some q) (h0 : q.1 ≠ 0) : va_K D zcl [(cA k, zaty q)] s := ⟨h.1.1, fun j x hx => by
  have hz : j < 1 := (List.getElem?_eq_some_iff.mp hx).1
  rw [show j = 0 by omega] at hx
  cases hx
  exact h.2 k q hq h0⟩
theorem zKs.moved {D : va_G} {cA : Nat → ClassId} {S : List zSh} {u U : State} (hvm : u.vm.Alike U.vm) (h : zKs D cA S u) : zKs D cA S U := ⟨va_K.moved hvm h.1, fun k q hq h0 => ⟨arrOfT_moved hvm (h.2 k q hq h0).1, (h.2 k q hq h0).2.moved hvm⟩⟩
theorem zsh_of {S : List zSh} {a : Int} {q : zSh} (h : zsh S a = some q) : 0 ≤ a ∧ S[a.toNat]? = some q := by
  unfold zsh at h
  split at h
  · cases h
  · exact ⟨by omega, h⟩
/-- writing one place of one cell -/
theorem zws_set {adK ad : Nat → Nat} {cA : Nat → ClassId} {S : List zSh} {M : zM} {k : Nat} {q : zSh} {i v : Int} {x : va_E} (h : S[k]? = some q) (hx : zel adK ad cA (zup M k i v) k q = x) : (zws adK ad cA S M).set k (ad k, x) = zws adK ad cA S (zup M k i v) := by
  subst hx
  apply List.ext_getElem?
  intro j
  have hk : k < S.length := (List.getElem?_eq_some_iff.mp h).1
  by_cases hj : j = k
  · subst hj
    rw [List.getElem?_set_self (by rw [zws_len]; exact hk), zws_at h]
  · rw [List.getElem?_set_ne (Ne.symm hj)]
    cases hq : S[j]? with
    | none =>
      have hl : S.length ≤ j := by simpa using hq
      rw [List.getElem?_eq_none (by rw [zws_len]; exact hl), List.getElem?_eq_none (by rw [zws_len]; exact hl)]
    | some q' =>
      rw [zws_at hq, zws_at hq]
      have e : ∀ z : Int, zup M k i v (j : Int) z = M j z := fun z => zup_na (by omega)
      unfold zel
      simp only [e]
/-- cells counted -/
def zsz (q : zSh) : Nat := if q.1 = 0 then zN q.2.1 else q.2.1
def zsl (S : List zSh) : Nat := (S.map zsz).sum
theorem zsl_app (S T : List zSh) : zsl (S ++ T) = zsl S + zsl T := by simp [zsl]
end
section
/-! Numbers of the small machine, numbers of the real one -/
theorem zi32 {x : Int} (h : -2147483648 ≤ x ∧ x ≤ 2147483647) : (Int32.ofInt x).toInt = x := by
  rw [Int32.toInt_ofInt]
  show x.bmod 4294967296 = x
  rw [Int.bmod_eq_of_le] <;> omega
theorem zi64 {x : Int} (h : -2147483648 ≤ x ∧ x ≤ 2147483647) : (Int64.ofInt x).toInt = x := by
  rw [Int64.toInt_ofInt]
  show x.bmod 18446744073709551616 = x
  rw [Int.bmod_eq_of_le] <;> omega
theorem zi_add (x y : Int) : Int32.ofInt x + Int32.ofInt y = Int32.ofInt (x + y) := (Int32.ofInt_add x y).symm
theorem zi_sub (x y : Int) : Int32.ofInt x - Int32.ofInt y = Int32.ofInt (x - y) := (Int32.ofInt_sub x y).symm
theorem zi_mul (x y : Int) : Int32.ofInt x * Int32.ofInt y = Int32.ofInt (x * y) := (Int32.ofInt_mul x y).symm
theorem zi_lt {x y : Int} (hx : -2147483648 ≤ x ∧ x ≤ 2147483647) (hy : -2147483648 ≤ y ∧ y ≤ 2147483647) : (Int32.ofInt x < Int32.ofInt y) ↔ x < y := by
  rw [Int32.lt_iff_toInt_lt, zi32 hx, zi32 hy]
theorem zi_le {x y : Int} (hx : -2147483648 ≤ x ∧ x ≤ 2147483647) (hy : -2147483648 ≤ y ∧ y ≤ 2147483647) : (Int32.ofInt x ≤ Int32.ofInt y) ↔ x ≤ y := by
  rw [Int32.le_iff_toInt_le, zi32 hx, zi32 hy]
theorem zi_eq {x y : Int} (hx : -2147483648 ≤ x ∧ x ≤ 2147483647) (hy : -2147483648 ≤ y ∧ y ≤ 2147483647) : (Int32.ofInt x = Int32.ofInt y) ↔ x = y := by
  constructor
  · intro h
    have := congrArg Int32.toInt h
    rwa [zi32 hx, zi32 hy] at this
  · rintro rfl; rfl
theorem zi_0 : (0 : Int32) = Int32.ofInt 0 := rfl
theorem zi_nat {x : Int} (h : 0 ≤ x ∧ x ≤ 2147483647) : (Int32.ofInt x).toNatClampNeg = x.toNat := by
  unfold Int32.toNatClampNeg
  rw [zi32 ⟨by omega, h.2⟩]
theorem zi_in {x : Int} {n : Nat} (h : 0 ≤ x ∧ x < n) (hx : x ≤ 2147483647) : vp_in (Int32.ofInt x) n := by
  unfold vp_in
  rw [zi_nat ⟨h.1, hx⟩]
  intro q
  rcases q with q | q
  · rw [zi_0, zi_lt ⟨by omega, hx⟩ ⟨by omega, by omega⟩] at q
    omega
  · omega
theorem zi_inj {a b : Int32} (h : a.toBitVec.toNat = b.toBitVec.toNat) : a = b := Int32.toBitVec_inj.mp (BitVec.eq_of_toNat_eq h)
theorem zi_tn (x : Int) : (Int32.ofInt x).toBitVec.toNat = (x % 4294967296).toNat := by
  rw [Int32.toBitVec_ofInt, BitVec.toNat_ofInt]
  rfl
theorem zi_and {x y : Int} (h : (y = 1 ∨ y = 63 ∨ y = 255) ∨ 0 ≤ x ∧ 0 ≤ y) (hx : -2147483648 ≤ x ∧ x ≤ 2147483647) (hy : -2147483648 ≤ y ∧ y ≤ 2147483647) : Int32.ofInt x &&& Int32.ofInt y = Int32.ofInt (zand x y) := by
  apply zi_inj
  rw [Int32.toBitVec_and, BitVec.toNat_and, zi_tn, zi_tn, zi_tn]
  unfold zand
  by_cases h1 : y = 1 ∨ y = 63 ∨ y = 255
  · rw [if_pos h1]
    rcases h1 with rfl | rfl | rfl
    · show _ &&& (2 ^ 1 - 1) = _
      rw [Nat.and_two_pow_sub_one_eq_mod]; omega
    · show _ &&& (2 ^ 6 - 1) = _
      rw [Nat.and_two_pow_sub_one_eq_mod]; omega
    · show _ &&& (2 ^ 8 - 1) = _
      rw [Nat.and_two_pow_sub_one_eq_mod]; omega
  · rw [if_neg h1]
    obtain ⟨h2, h3⟩ := h.resolve_left h1
    have hle : x.toNat &&& y.toNat ≤ x.toNat := Nat.and_le_left
    have e1 : (x % 4294967296).toNat = x.toNat := by omega
    have e2 : (y % 4294967296).toNat = y.toNat := by omega
    rw [e1, e2]
    omega
theorem zi_or {x y : Int} (h : 0 ≤ x ∧ 0 ≤ y) (hx : -2147483648 ≤ x ∧ x ≤ 2147483647) (hy : -2147483648 ≤ y ∧ y ≤ 2147483647) : Int32.ofInt x ||| Int32.ofInt y = Int32.ofInt (zor x y) ∧ zor x y ≤ 2147483647 := by
  have hlt : x.toNat ||| y.toNat < 2 ^ 31 := Nat.or_lt_two_pow (by omega) (by omega)
  refine ⟨?_, by unfold zor; omega⟩
  apply zi_inj
  rw [Int32.toBitVec_or, BitVec.toNat_or, zi_tn, zi_tn, zi_tn]
  unfold zor
  have e1 : (x % 4294967296).toNat = x.toNat := by omega
  have e2 : (y % 4294967296).toNat = y.toNat := by omega
  rw [e1, e2]
  omega
theorem zi_31 {y : Int} (h : 0 ≤ y ∧ y < 32) : Int32.ofInt y &&& 31 = Int32.ofInt y := by
  apply zi_inj
  rw [Int32.toBitVec_and, BitVec.toNat_and, zi_tn]
  show (y % 4294967296).toNat &&& (2 ^ 5 - 1) = _
  rw [Nat.and_two_pow_sub_one_eq_mod]; omega
theorem zi_sm : ∀ k : Fin 32, (BitVec.ofNat 32 k).smod 32 = BitVec.ofNat 32 k := by decide +kernel
theorem zi_sn {y : Int} (h : 0 ≤ y ∧ y < 32) : ((Int32.ofInt y).toBitVec.smod 32).toNat = y.toNat := by
  have e : (Int32.ofInt y).toBitVec = BitVec.ofNat 32 y.toNat := by
    apply BitVec.eq_of_toNat_eq
    rw [zi_tn, BitVec.toNat_ofNat]
    omega
  rw [e]
  have := zi_sm ⟨y.toNat, by omega⟩
  dsimp only at this
  rw [this, BitVec.toNat_ofNat]
  omega
theorem zi_sh {x y : Int} (h : 0 ≤ y ∧ y < 32) : Int32.ofInt x <<< (Int32.ofInt y &&& 31) = Int32.ofInt (x * 2 ^ y.toNat) := by
  rw [zi_31 h]
  apply zi_inj
  show ((Int32.ofInt x).toBitVec <<< ((Int32.ofInt y).toBitVec.smod 32)).toNat = _
  rw [BitVec.shiftLeft_eq', BitVec.toNat_shiftLeft, zi_sn h, zi_tn, zi_tn, Nat.shiftLeft_eq]
  have e : ((x % 4294967296).toNat : Int) = x % 4294967296 := Int.toNat_of_nonneg (Int.emod_nonneg _ (by decide))
  apply Int.ofNat.inj
  show (((x % 4294967296).toNat * 2 ^ y.toNat % 2 ^ 32 : Nat) : Int) = ((x * 2 ^ y.toNat % 4294967296).toNat : Int)
  rw [Int.toNat_of_nonneg (Int.emod_nonneg _ (by decide)), Int.natCast_emod, Int.natCast_mul, e]
  show (x % 4294967296 * ((2 ^ y.toNat : Nat) : Int)) % 4294967296 = _
  rw [Int.natCast_pow, Int.mul_emod, Int.emod_emod, ← Int.mul_emod]
  rfl
theorem zi_ir {x y : Int} (h : 0 ≤ x ∧ 0 < y) (hx : -2147483648 ≤ x ∧ x ≤ 2147483647) (hy : -2147483648 ≤ y ∧ y ≤ 2147483647) : Int32.ofInt x - Int32.ofInt x / Int32.ofInt y * Int32.ofInt y = Int32.ofInt (x % y) := by
  have hd : 0 ≤ x / y ∧ x / y ≤ x := ⟨Int.ediv_nonneg h.1 (by omega), Int.ediv_le_self y h.1⟩
  have e : Int32.ofInt x / Int32.ofInt y = Int32.ofInt (x / y) := by
    apply Int32.toInt_inj.mp
    rw [Int32.toInt_div, zi32 hx, zi32 hy, zi32 (by omega), Int.tdiv_eq_ediv_of_nonneg h.1]
    show (x / y).bmod 4294967296 = x / y
    rw [Int.bmod_eq_of_le] <;> omega
  rw [e, zi_mul, zi_sub]
  congr 1
  have := Int.emod_add_mul_ediv x y
  rw [Int.mul_comm]
  omega
theorem zi_sr {x y : Int} (h : 0 ≤ y ∧ y < 32) (hx : -2147483648 ≤ x ∧ x ≤ 2147483647) : Int32.ofInt x >>> (Int32.ofInt y &&& 31) = Int32.ofInt (x / 2 ^ y.toNat) ∧ -2147483648 ≤ x / 2 ^ y.toNat ∧ x / 2 ^ y.toNat ≤ 2147483647 := by
  have hp : (1 : Int) ≤ 2 ^ y.toNat := by
    have : 1 ≤ 2 ^ y.toNat := Nat.one_le_two_pow
    exact_mod_cast this
  have hr : -2147483648 ≤ x / 2 ^ y.toNat ∧ x / 2 ^ y.toNat ≤ 2147483647 := by
    constructor
    · apply Int.le_ediv_of_mul_le (by omega)
      have : (2147483648 : Int) * 1 ≤ 2147483648 * 2 ^ y.toNat := Int.mul_le_mul_of_nonneg_left hp (by decide)
      omega
    · apply Int.le_of_lt_add_one
      apply Int.ediv_lt_of_lt_mul (by omega)
      have : (2147483648 : Int) * 1 ≤ 2147483648 * 2 ^ y.toNat := Int.mul_le_mul_of_nonneg_left hp (by decide)
      omega
  refine ⟨?_, hr⟩
  rw [zi_31 h]
  apply Int32.toInt_inj.mp
  rw [zi32 hr]
  show ((Int32.ofInt x).toBitVec.sshiftRight' ((Int32.ofInt y).toBitVec.smod 32)).toInt = _
  rw [BitVec.toInt_sshiftRight', zi_sn h, Int.shiftRight_eq_div_pow]
  show (Int32.ofInt x).toInt / _ = _
  rw [zi32 hx]
  rfl
theorem zi_us {x y : Int} (h : 0 ≤ y ∧ y < 32) (hx : -2147483648 ≤ x ∧ x ≤ 2147483647) : ((Int32.ofInt x).toUInt32 >>> ((Int32.ofInt y).toUInt32 &&& Int32.toUInt32 31)).toInt32 = Int32.ofInt (zushr x y) ∧ -2147483648 ≤ zushr x y ∧ zushr x y ≤ 2147483647 := by
  have hx0 : 0 ≤ x % 4294967296 ∧ x % 4294967296 < 4294967296 := ⟨Int.emod_nonneg _ (by decide), Int.emod_lt_of_pos _ (by decide)⟩
  have e1 : ((Int32.ofInt x).toUInt32 >>> ((Int32.ofInt y).toUInt32 &&& Int32.toUInt32 31)).toInt32.toBitVec.toNat = (x % 4294967296).toNat / 2 ^ y.toNat := by
    show ((Int32.ofInt x).toUInt32 >>> ((Int32.ofInt y).toUInt32 &&& Int32.toUInt32 31)).toNat = _
    rw [UInt32.toNat_shiftRight, UInt32.toNat_and]
    show (Int32.ofInt x).toBitVec.toNat >>> (((Int32.ofInt y).toBitVec.toNat &&& (2 ^ 5 - 1)) % 32) = _
    rw [Nat.and_two_pow_sub_one_eq_mod, zi_tn, zi_tn, Nat.shiftRight_eq_div_pow]
    congr 2
    omega
  unfold zushr
  by_cases hy : y = 0
  · subst hy
    rw [if_pos rfl]
    refine ⟨zi_inj ?_, hx⟩
    rw [e1, zi_tn]
    simp
  · rw [if_neg hy]
    have hp : (2 : Int) ≤ 2 ^ y.toNat := by
      have : 2 ^ 1 ≤ 2 ^ y.toNat := Nat.pow_le_pow_right (by decide) (by omega)
      exact_mod_cast this
    have hr : 0 ≤ x % 4294967296 / 2 ^ y.toNat ∧ x % 4294967296 / 2 ^ y.toNat < 2147483648 := by
      refine ⟨Int.ediv_nonneg hx0.1 (by omega), Int.ediv_lt_of_lt_mul (by omega) ?_⟩
      have : (2147483648 : Int) * 2 ≤ 2147483648 * 2 ^ y.toNat := Int.mul_le_mul_of_nonneg_left hp (by decide)
      omega
    refine ⟨zi_inj ?_, by omega⟩
    rw [e1, zi_tn]
    apply Int.ofNat.inj
    show (((x % 4294967296).toNat / 2 ^ y.toNat : Nat) : Int) = ((x % 4294967296 / 2 ^ y.toNat % 4294967296).toNat : Int)
    rw [Int.toNat_of_nonneg (Int.emod_nonneg _ (by decide)), Int.emod_eq_of_lt hr.1 (by omega), Int.natCast_ediv, Int.toNat_of_nonneg hx0.1, Int.natCast_pow]
    rfl
theorem zi_by (x : Int) : (Int32.ofInt x).toInt8.toInt32 = Int32.ofInt (zbyte x) ∧ -2147483648 ≤ zbyte x ∧ zbyte x ≤ 2147483647 := by
  have hr : -2147483648 ≤ zbyte x ∧ zbyte x ≤ 2147483647 := by unfold zbyte; omega
  refine ⟨?_, hr⟩
  apply Int32.toInt_inj.mp
  rw [zi32 hr, Int32.toInt8_ofInt, Int8.toInt_toInt32, Int8.toInt_ofInt]
  show x.bmod 256 = _
  unfold Int.bmod zbyte
  show (if x % 256 < 128 then x % 256 else x % 256 - 256) = _
  split <;> omega
theorem zi_cm {x y : Int} (hx : -2147483648 ≤ x ∧ x ≤ 2147483647) (hy : -2147483648 ≤ y ∧ y ≤ 2147483647) : lg_cmp (Int64.ofInt x) (Int64.ofInt y) = Int32.ofInt (zlc x y) := by
  unfold lg_cmp zlc
  have h1 : (Int64.ofInt x > Int64.ofInt y) ↔ y < x := by
    rw [gt_iff_lt, Int64.lt_iff_toInt_lt, zi64 hx, zi64 hy]
  have h2 : (Int64.ofInt x = Int64.ofInt y) ↔ x = y := by
    rw [← Int64.toInt_inj, zi64 hx, zi64 hy]
  by_cases a : x < y
  · rw [if_neg (by rw [h1]; omega), if_neg (by rw [h2]; omega), if_pos a]; rfl
  · rw [if_neg a]
    by_cases b : x = y
    · rw [if_neg (by rw [h1]; omega), if_pos (h2.mpr b), if_pos b]; rfl
    · rw [if_pos (by rw [h1]; omega), if_neg b]; rfl
end
section
/-! One row of the small machine, over the real one -/
/-- from every real state that the small machine's state speaks of, the rest goes well -/
def zG (p : Program) (l : Launch) (e : Env) (R : Room) (s : State) (m : MethodId) (args : Array Value) (below : List Frame) (meth : Method) (c : Code) (Q : State → Prop) (D : va_G) (adK : Nat → Nat) (A : Nat → Prop) (nL : Nat) (k : List zIn) (pcs : List Nat) (S0 : List zSh) (ad0 : Nat → Nat) (cA0 : Nat → ClassId) (i : Nat) (ls st : List zV) (S : List zSh) (M : zM) : Prop :=
  ∀ (ad : Nat → Nat) (cA : Nat → ClassId) (H : Heap) (locs : List Loc) (als : Array Slot), zag S0.length ad0 cA0 ad cA → S0.length ≤ S.length → zsl S0 ≤ zsl S → lv_has als nL (zls adK ad 0 ls) → ls.length = nL →
    ((∀ q ∈ k, q.1 < 5 ∨ 7 < q.1) ∨ ∀ v ∈ ls, v.1 ≠ 2) → (∀ v ∈ ls, zok S.length v) → (∀ v ∈ st, zok S.length v ∧ v.1 ≠ 3) → zRep D adK ad cA S M s H A → va_S A s.heap H locs →
    W p l e R s m args below meth c H locs (S.length - S0.length) (zsl S - zsl S0) Q (F0 m (zpc pcs i) als (st.map (zcv adK ad)))
def zAOA (s : State) : Prop := (Cond.arrayOver (.array .int)).before #[] s = true
/-- two statics of the JDK -/
def zStr (A : Nat → Prop) (U : State) (H : Heap) : Prop := va_Z "java/lang/String" "COMPACT_STRINGS" "Z" (.int 1) A U H ∧ va_Zq "jdk/internal/util/Preconditions" "SIOOBE_FORMATTER" "Ljava/util/function/BiFunction;" A U H
/-- what holds throughout a method -/
def zFx (p : Program) (R : Room) (s : State) (m : MethodId) (args : Array Value) (meth : Method) (c : Code) (adK adV : Nat → Nat) (A : Nat → Prop) (nL : Nat) (k : List zIn) (own : Nat) (cc : ByteArray) : Prop :=
  p.tables.exec = Jvm.exec ∧ c.code = cc ∧ c.maxLocals = nL ∧ s.vm.findClass (if own = 13 then R_law else zC own) = some m.cls ∧ (∀ w ∈ zTb, w.before args s = true) ∧ (1 ≤ R.frames ∧ 40 ≤ R.locals) ∧ (∀ q, s.heap.size ≤ q → A q) ∧
  (∀ q ∈ k, q.1 = 41 → zarg q.2 3 = 1 → meth.name = "<init>" ∧ zarg q.2 1 = (own : Int)) ∧ ((∃ q ∈ k, q.1 = 58 ∨ q.1 = 59) → 5 ≤ R.frames ∧ 150 ≤ R.locals) ∧
  (∀ q ∈ zMl, q.2.2.1 = 3 → va_Nw (.methodLinkNest (if q.1 = 13 then R_law else zC q.1) q.2.1 (zy q.2.2.2.1) "StackedScript") s) ∧ va_AO "StackedScript$State" s ∧ zAOA s ∧
  vk_S 17 (zTx.map List.length) (zTx.map (fun t => t.map Int32.ofInt)) adK adV A s s.heap ∧ (∀ q ∈ zTl, vk_R "StackedScript" q.1 (zTs.getD q.2.1 "") (adK q.2.1) s) ∧ zStr A s s.heap
def zOK (op : Nat) (o : zF) (h : zH) : Prop :=
  ∀ (p : Program) (l : Launch) (e : Env) (R : Room) (s : State) (m : MethodId) (args : Array Value) (below : List Frame) (meth : Method) (c : Code) (Q : State → Prop) (D : va_G) (adK adV : Nat → Nat) (A : Nat → Prop) (nL : Nat) (k : List zIn) (pcs : List Nat) (S0 : List zSh) (ad0 : Nat → Nat) (cA0 : Nat → ClassId) (own : Nat) (cc : ByteArray) (x : Instr) (n i : Nat) (a : List Int) (ls st : List zV) (S : List zSh) (M : zM) (r : zR),
    zFx p R s m args meth c adK adV A nL k own cc → decode cc (zpc pcs i) = .ok (x, n) → zpc pcs (i + 1) = zpc pcs i + n → zlenok x n = true → h own pcs i a x = true → (op, a) ∈ k → o a i ls st S M = some r →
    r.2.2.2.1.length - S0.length ≤ R.cells → zsl r.2.2.2.1 - zsl S0 ≤ R.slots →
    zG p l e R s m args below meth c Q D adK A nL k pcs S0 ad0 cA0 r.1 r.2.1 r.2.2.1 r.2.2.2.1 r.2.2.2.2 → zG p l e R s m args below meth c Q D adK A nL k pcs S0 ad0 cA0 i ls st S M
theorem zlen_of {x : Instr} {n k : Nat} (h : zlenok x n = true) (hx : zilen x = some k) : n = k := by
  unfold zlenok at h
  rw [hx] at h
  have : k = n := by simpa using h
  exact this.symm
theorem zTb_at {w : Cond} {k : Nat} {s : State} {args : Array Value} (h : ∀ w ∈ zTb, w.before args s = true) (hk : lw_tbl[k]? = some w) (hg : goodWord w = true) : w.before args s = true := h w (zTb_of hk hg)
theorem zi_jm {pcs : List Nat} {i : Nat} {off t : Int} (h : zjm pcs i off t = true) : (zpc pcs i : Int) + off = (zpc pcs t.toNat : Int) := of_decide_eq_true h
theorem zint {n : Nat} {x : Int} (h : -2147483648 ≤ x ∧ x ≤ 2147483647) : zok n (0, x) ∧ ((0, x) : zV).1 ≠ 3 := ⟨⟨fun _ => h, fun z => absurd z (by decide : (0 : Nat) ≠ 1)⟩, (by decide : (0 : Nat) ≠ 3)⟩
theorem zlng {n : Nat} {x : Int} (h : -2147483648 ≤ x ∧ x ≤ 2147483647) : zok n (2, x) ∧ ((2, x) : zV).1 ≠ 3 := ⟨⟨fun _ => h, fun z => absurd z (by decide : (2 : Nat) ≠ 1)⟩, (by decide : (2 : Nat) ≠ 3)⟩
theorem zk_none (op : Nat) (h : zH) : zOK op zo_none h := by
  intro p l e R s m args below meth c Q D adK adV A nL k pcs S0 ad0 cA0 own cc x n i a ls st S M r F hd hp hn hh hm ho hc hs hG
  cases ho
theorem zk_const : zOK 0 zo_const zh_const := by
  intro p l e R s m args below meth c Q D adK adV A nL k pcs S0 ad0 cA0 own cc x n i a ls st S M r F hd hp hn hh hm ho hc hs hG
  cases ho
  intro ad cA H locs als hag hS0 hZ0 hl hL hst hlk hok hR hS
  dsimp only at hG
  unfold zh_const at hh
  obtain ⟨hx, hb, -, hown, hts, -⟩ := F
  have go : ∀ hr : -2147483648 ≤ zarg a 0 ∧ zarg a 0 ≤ 2147483647, W p l e R s m args below meth c H locs (S.length - S0.length) (zsl S - zsl S0) Q (F0 m (zpc pcs i + n) als (.int (Int32.ofInt (zarg a 0)) :: st.map (zcv adK ad))) := fun hr => by
    have kk := hG ad cA H locs als hag hS0 hZ0 hl hL hst hlk (List.forall_mem_cons.mpr ⟨zint hr, hok⟩) hR hS
    rw [List.map_cons, zcv_0, hp] at kk
    exact kk
  split at hh
  · rename_i v
    obtain ⟨hv, hr⟩ := of_decide_eq_true hh
    rw [zlen_of hn rfl] at hd go
    exact lv_iconst hx hb hd (by rw [hv]) (go (by rw [← hv]; exact hr))
  · rename_i v
    simp only [Bool.and_eq_true, decide_eq_true_eq] at hh
    obtain ⟨⟨hv, hr⟩, h8⟩ := hh
    rw [zlen_of hn rfl] at hd go
    exact lv_bipush hx hb hd (by rw [← hv, h8]) (go (by rw [← hv]; exact hr))
  · rename_i v
    simp only [Bool.and_eq_true, decide_eq_true_eq] at hh
    obtain ⟨⟨hv, hr⟩, h8⟩ := hh
    rw [zlen_of hn rfl] at hd go
    exact lv_sipush hx hb hd (by rw [← hv, h8]) (go (by rw [← hv]; exact hr))
  · rename_i v
    obtain ⟨ho2, rfl, hv⟩ := of_decide_eq_true hh
    rw [zlen_of hn rfl] at hd go
    rw [if_neg (by omega), ho2] at hown
    have go := go (by rw [hv]; decide)
    rw [hv] at go
    exact lv_ldcw (own := "StackedScriptModel") hx hb hown (zTb_at hts zw_ck rfl) hd go
  · cases hh
theorem zk_lconst : zOK 1 zo_lconst zh_lconst := by
  intro p l e R s m args below meth c Q D adK adV A nL k pcs S0 ad0 cA0 own cc x n i a ls st S M r F hd hp hn hh hm ho hc hs hG
  cases ho
  intro ad cA H locs als hag hS0 hZ0 hl hL hst hlk hok hR hS
  dsimp only at hG
  unfold zh_lconst at hh
  obtain ⟨hx, hb, -, hown, hts, -⟩ := F
  have go : ∀ hr : -2147483648 ≤ zarg a 0 ∧ zarg a 0 ≤ 2147483647, W p l e R s m args below meth c H locs (S.length - S0.length) (zsl S - zsl S0) Q (F0 m (zpc pcs i + n) als (.long (Int64.ofInt (zarg a 0)) :: st.map (zcv adK ad))) := fun hr => by
    have kk := hG ad cA H locs als hag hS0 hZ0 hl hL hst hlk (List.forall_mem_cons.mpr ⟨zlng hr, hok⟩) hR hS
    rw [List.map_cons, zcv_2, hp] at kk
    exact kk
  split at hh
  · rename_i v
    have hv := of_decide_eq_true hh
    have hlt := v.isLt
    rw [zlen_of hn rfl] at hd go
    exact lv_lconst hx hb hd (by rw [← hv]; rfl) (go (by omega))
  · rename_i v
    simp only [Bool.and_eq_true, decide_eq_true_eq] at hh
    obtain ⟨⟨ho2, hr⟩, hm2⟩ := hh
    rw [zlen_of hn rfl] at hd go
    rw [if_neg (by omega), ho2] at hown
    obtain ⟨q, hq, he⟩ := List.any_eq_true.mp hm2
    simp only [Bool.and_eq_true, beq_iff_eq] at he
    have hw := of_decide_eq_true (List.all_eq_true.mp zw_lc q hq)
    rw [he.1, he.2] at hw
    exact lv_ldc2 (own := "StackedScriptModel") hx hb hown (zTb_at hts hw rfl) hd (go hr)
  · cases hh

theorem zk_iload : zOK 2 (zo_load zisI) zh_iload := by
  intro p l e R s m args below meth c Q D adK adV A nL k pcs S0 ad0 cA0 own cc x n i a ls st S M r F hd hp hn hh hm ho hc hs hG
  unfold zo_load at ho
  split at ho
  · rename_i v hv
    split at ho
    · rename_i hi
      cases ho
      intro ad cA H locs als hag hS0 hZ0 hl hL hst hlk hok hR hS
      dsimp only at hG
      unfold zh_iload at hh
      obtain ⟨hx, hb, -⟩ := F
      have ht : v.1 = 0 := by simpa [zisI] using hi
      have kk := hG ad cA H locs als hag hS0 hZ0 hl hL hst hlk (List.forall_mem_cons.mpr ⟨⟨hlk v (List.mem_of_getElem? hv), by omega⟩, hok⟩) hR hS
      rw [List.map_cons, hp] at kk
      have ha := zls_at hl hv (by omega)
      rw [zcv_i ht] at kk ha
      split at hh
      · have e := of_decide_eq_true hh
        rw [zlen_of hn rfl] at hd kk
        exact lv_iload hx hb hd (by rw [← ha, ← e]; rfl) kk
      · have e := of_decide_eq_true hh
        rw [zlen_of hn rfl] at hd kk
        exact lv_iload_n hx hb hd rfl (by rw [← ha, ← e]; rfl) kk
      · cases hh
    · cases ho
  · cases ho
theorem zk_aload : zOK 3 (zo_load zisA) zh_aload := by
  intro p l e R s m args below meth c Q D adK adV A nL k pcs S0 ad0 cA0 own cc x n i a ls st S M r F hd hp hn hh hm ho hc hs hG
  unfold zo_load at ho
  split at ho
  · rename_i v hv
    split at ho
    · rename_i hi
      cases ho
      intro ad cA H locs als hag hS0 hZ0 hl hL hst hlk hok hR hS
      dsimp only at hG
      unfold zh_aload at hh
      obtain ⟨hx, hb, -⟩ := F
      have ht : v.1 = 1 ∨ v.1 = 4 := by simpa [zisA] using hi
      have kk := hG ad cA H locs als hag hS0 hZ0 hl hL hst hlk (List.forall_mem_cons.mpr ⟨⟨hlk v (List.mem_of_getElem? hv), by omega⟩, hok⟩) hR hS
      rw [List.map_cons, hp] at kk
      have ha := zls_at hl hv (by omega)
      have hr : ∃ q, zcv adK ad v = .ref q := by
        rcases ht with ht | ht
        · exact ⟨_, zcv_r ht⟩
        · exact ⟨_, zcv_t ht⟩
      obtain ⟨q, hq⟩ := hr
      rw [hq] at kk ha
      split at hh
      · have e := of_decide_eq_true hh
        rw [zlen_of hn rfl] at hd kk
        exact lv_aload hx hb hd (by rw [← ha, ← e]; rfl) kk
      · have e := of_decide_eq_true hh
        rw [zlen_of hn rfl] at hd kk
        exact lv_aload_n hx hb hd rfl (by rw [← ha, ← e]; rfl) kk
      · cases hh
    · cases ho
  · cases ho
theorem zk_lload : zOK 4 (zo_load zisL) zh_lload := by
  intro p l e R s m args below meth c Q D adK adV A nL k pcs S0 ad0 cA0 own cc x n i a ls st S M r F hd hp hn hh hm ho hc hs hG
  unfold zo_load at ho
  split at ho
  · rename_i v hv
    split at ho
    · rename_i hi
      cases ho
      intro ad cA H locs als hag hS0 hZ0 hl hL hst hlk hok hR hS
      dsimp only at hG
      unfold zh_lload at hh
      obtain ⟨hx, hb, -⟩ := F
      have ht : v.1 = 2 := by simpa [zisL] using hi
      have kk := hG ad cA H locs als hag hS0 hZ0 hl hL hst hlk (List.forall_mem_cons.mpr ⟨⟨hlk v (List.mem_of_getElem? hv), by omega⟩, hok⟩) hR hS
      rw [List.map_cons, hp] at kk
      have ha := zls_at hl hv (by omega)
      rw [zcv_l ht] at kk ha
      split at hh
      · have e := of_decide_eq_true hh
        rw [zlen_of hn rfl] at hd kk
        exact lv_lload hx hb hd (by rw [← ha, ← e]; rfl) kk
      · have e := of_decide_eq_true hh
        rw [zlen_of hn rfl] at hd kk
        exact lv_lload_n hx hb hd rfl (by rw [← ha, ← e]; rfl) kk
      · cases hh
    · cases ho
  · cases ho
theorem zk_istore : zOK 5 (zo_store zisI) zh_istore := by
  intro p l e R s m args below meth c Q D adK adV A nL k pcs S0 ad0 cA0 own cc x n i a ls st S M r F hd hp hn hh hm ho hc hs hG
  unfold zo_store at ho
  split at ho
  · rename_i v rr
    split at ho
    · rename_i hi
      obtain ⟨hi, hlt⟩ := hi
      cases ho
      intro ad cA H locs als hag hS0 hZ0 hl hL hst hlk hok hR hS
      dsimp only at hG
      unfold zh_istore at hh
      obtain ⟨hx, hb, -⟩ := F
      have ht : v.1 = 0 := by simpa [zisI] using hi
      have hn2 : ∀ w ∈ ls, w.1 ≠ 2 := by
        rcases hst with q | q
        · have := q _ hm
          omega
        · exact q
      have hn3 : ∀ w ∈ ls.set (zarg a 0).toNat v, w.1 ≠ 2 := fun w hw => by
        rcases List.mem_or_eq_of_mem_set hw with q | rfl
        · exact hn2 w q
        · omega
      have go : ∀ als' : Array Slot, lv_has als' nL ((( zarg a 0).toNat, zcv adK ad v) :: (zls adK ad 0 ls).filter (fun q => !(q.1 == (zarg a 0).toNat) && !(q.1 + 1 == (zarg a 0).toNat && q.2.category == 2))) → W p l e R s m args below meth c H locs (S.length - S0.length) (zsl S - zsl S0) Q (F0 m (zpc pcs i + n) als' (rr.map (zcv adK ad))) := fun als' h' => by
        have kk := hG ad cA H locs als' hag hS0 hZ0 (zls_set hlt hn2 h') (by rw [List.length_set]; exact hL) (Or.inr hn3) (fun w hw => by
          rcases List.mem_or_eq_of_mem_set hw with q | rfl
          · exact hlk w q
          · exact (hok w List.mem_cons_self).1) (List.forall_mem_cons.mp hok).2 hR hS
        rw [hp] at kk
        exact kk
      rw [List.map_cons]
      rw [zcv_i ht] at go ⊢
      split at hh
      · have e := of_decide_eq_true hh
        rw [zlen_of hn rfl] at hd go
        exact lv_istore hx hb hd hl (by omega) rfl (fun als' h' => go als' (by rw [← e]; exact h'))
      · have e := of_decide_eq_true hh
        rw [zlen_of hn rfl] at hd go
        exact lv_istore_n hx hb hd rfl hl (by omega) rfl (fun als' h' => go als' (by rw [← e]; exact h'))
      · cases hh
    · cases ho
  · cases ho
theorem zk_astore : zOK 6 (zo_store zisA) zh_astore := by
  intro p l e R s m args below meth c Q D adK adV A nL k pcs S0 ad0 cA0 own cc x n i a ls st S M r F hd hp hn hh hm ho hc hs hG
  unfold zo_store at ho
  split at ho
  · rename_i v rr
    split at ho
    · rename_i hi
      obtain ⟨hi, hlt⟩ := hi
      cases ho
      intro ad cA H locs als hag hS0 hZ0 hl hL hst hlk hok hR hS
      dsimp only at hG
      unfold zh_astore at hh
      obtain ⟨hx, hb, -⟩ := F
      have ht : v.1 = 1 ∨ v.1 = 4 := by simpa [zisA] using hi
      have hn2 : ∀ w ∈ ls, w.1 ≠ 2 := by
        rcases hst with q | q
        · have := q _ hm
          omega
        · exact q
      have hn3 : ∀ w ∈ ls.set (zarg a 0).toNat v, w.1 ≠ 2 := fun w hw => by
        rcases List.mem_or_eq_of_mem_set hw with q | rfl
        · exact hn2 w q
        · omega
      have go : ∀ als' : Array Slot, lv_has als' nL ((( zarg a 0).toNat, zcv adK ad v) :: (zls adK ad 0 ls).filter (fun q => !(q.1 == (zarg a 0).toNat) && !(q.1 + 1 == (zarg a 0).toNat && q.2.category == 2))) → W p l e R s m args below meth c H locs (S.length - S0.length) (zsl S - zsl S0) Q (F0 m (zpc pcs i + n) als' (rr.map (zcv adK ad))) := fun als' h' => by
        have kk := hG ad cA H locs als' hag hS0 hZ0 (zls_set hlt hn2 h') (by rw [List.length_set]; exact hL) (Or.inr hn3) (fun w hw => by
          rcases List.mem_or_eq_of_mem_set hw with q | rfl
          · exact hlk w q
          · exact (hok w List.mem_cons_self).1) (List.forall_mem_cons.mp hok).2 hR hS
        rw [hp] at kk
        exact kk
      rw [List.map_cons]
      have hr : ∃ q, zcv adK ad v = .ref q := by
        rcases ht with ht | ht
        · exact ⟨_, zcv_r ht⟩
        · exact ⟨_, zcv_t ht⟩
      obtain ⟨q, hq⟩ := hr
      rw [hq] at go ⊢
      split at hh
      · have e := of_decide_eq_true hh
        rw [zlen_of hn rfl] at hd go
        exact lv_astore hx hb hd hl (by omega) rfl (fun als' h' => go als' (by rw [← e]; exact h'))
      · have e := of_decide_eq_true hh
        rw [zlen_of hn rfl] at hd go
        exact lv_astore_n hx hb hd rfl hl (by omega) rfl (fun als' h' => go als' (by rw [← e]; exact h'))
      · cases hh
    · cases ho
  · cases ho
theorem zk_iinc : zOK 7 zo_iinc zh_iinc := by
  intro p l e R s m args below meth c Q D adK adV A nL k pcs S0 ad0 cA0 own cc x n i a ls st S M r F hd hp hn hh hm ho hc hs hG
  unfold zo_iinc at ho
  split at ho
  · rename_i v hv
    split at ho
    · rename_i hi
      obtain ⟨ht, hi⟩ := hi
      cases ho
      intro ad cA H locs als hag hS0 hZ0 hl hL hst hlk hok hR hS
      dsimp only at hG
      unfold zh_iinc at hh
      obtain ⟨hx, hb, -⟩ := F
      have hlt : (zarg a 0).toNat < ls.length := (List.getElem?_eq_some_iff.mp hv).1
      have hn2 : ∀ w ∈ ls, w.1 ≠ 2 := by
        rcases hst with q | q
        · have := q _ hm
          omega
        · exact q
      obtain ⟨j, hj⟩ := zls_get (adK := adK) (ad := ad) hv (by omega)
      rw [zcv_i ht] at hj
      split at hh
      · rename_i k' d'
        obtain ⟨e, e2⟩ := of_decide_eq_true hh
        rw [zlen_of hn rfl] at hd hp
        have e3 : (zarg a 0).toNat = k' := by rw [← e]; rfl
        rw [e3] at hj
        refine lv_iinc (v := Int32.ofInt (v.2 + zarg a 1)) hx hb hd hl hj (by rw [e2, zi_add]) (by omega) rfl (fun als' h' => ?_)
        have kk := hG ad cA H locs als' hag hS0 hZ0 (zls_set (v := (0, v.2 + zarg a 1)) hlt hn2 (by rw [e3]; exact h')) (by rw [List.length_set]; exact hL) (Or.inr (fun w hw => by
          rcases List.mem_or_eq_of_mem_set hw with q | rfl
          · exact hn2 w q
          · exact (by decide : (0 : Nat) ≠ 2))) (fun w hw => by
          rcases List.mem_or_eq_of_mem_set hw with q | rfl
          · exact hlk w q
          · exact (zint hi).1) hok hR hS
        rw [hp] at kk
        exact kk
      · cases hh
    · cases ho
  · cases ho
/-- two ints, an int -/
theorem zk_bin {op : Nat} {ok : Int → Int → Bool} {f : Int → Int → Int} {y : Instr} (g : Int32 → Int32 → Int32) (hy : zilen y = some 1)
    (row : ∀ {p : Program} {l : Launch} {e : Env} {R : Room} {s : State} {m : MethodId} {args : Array Value} {below : List Frame} {meth : Method} {c : Code} {H : Heap} {locs : List Loc} {cells slots : Nat} {Q : State → Prop} {cc : ByteArray} {pc : Nat} {ls : Array Slot} {rest : List Value} {u v : Int}, p.tables.exec = Jvm.exec → c.code = cc → ok u v = true → (-2147483648 ≤ u ∧ u ≤ 2147483647) → (-2147483648 ≤ v ∧ v ≤ 2147483647) → decode cc pc = .ok (y, 1) →
      W p l e R s m args below meth c H locs cells slots Q (F0 m (pc + 1) ls (.int (g (Int32.ofInt u) (Int32.ofInt v)) :: rest)) → W p l e R s m args below meth c H locs cells slots Q (F0 m pc ls (.int (Int32.ofInt v) :: .int (Int32.ofInt u) :: rest)))
    (hv : ∀ u v : Int, ok u v = true → (-2147483648 ≤ u ∧ u ≤ 2147483647) → (-2147483648 ≤ v ∧ v ≤ 2147483647) → g (Int32.ofInt u) (Int32.ofInt v) = Int32.ofInt (f u v) ∧ -2147483648 ≤ f u v ∧ f u v ≤ 2147483647) : zOK op (zo_bin 0 ok f) (zh_is y) := by
  intro p l e R s m args below meth c Q D adK adV A nL k pcs S0 ad0 cA0 own cc x n i a ls st S M r F hd hp hn hh hm ho hc hs hG
  unfold zo_bin at ho
  split at ho
  · rename_i w v rr
    split at ho
    · rename_i hi
      obtain ⟨⟨hw, hv1⟩, hk⟩ := hi
      cases ho
      intro ad cA H locs als hag hS0 hZ0 hl hL hst hlk hok hR hS
      dsimp only at hG
      unfold zh_is at hh
      have e := of_decide_eq_true hh
      subst e
      obtain ⟨hx, hb, -⟩ := F
      rw [zlen_of hn hy] at hd hp
      obtain ⟨ow, ov, orr⟩ := (List.forall_mem_cons.mp hok).imp_right List.forall_mem_cons.mp
      have rw' := ow.1.1 (Or.inl hw)
      have rv' := ov.1.1 (Or.inl hv1)
      obtain ⟨e1, e2⟩ := hv v.2 w.2 hk rv' rw'
      have kk := hG ad cA H locs als hag hS0 hZ0 hl hL hst hlk (List.forall_mem_cons.mpr ⟨zint e2, orr⟩) hR hS
      rw [List.map_cons, zcv_0, hp, ← e1] at kk
      rw [List.map_cons, List.map_cons, zcv_i hw, zcv_i hv1]
      exact row hx hb hk rv' rw' hd kk
    · cases ho
  · cases ho
theorem zk_i2l : zOK 17 (zo_un 0 (fun _ => true) 2 (fun x => x)) (zh_is .i2l) := by
  intro p l e R s m args below meth c Q D adK adV A nL k pcs S0 ad0 cA0 own cc x n i a ls st S M r F hd hp hn hh hm ho hc hs hG
  unfold zo_un at ho
  split at ho
  · rename_i v rr
    split at ho
    · rename_i hi
      cases ho
      intro ad cA H locs als hag hS0 hZ0 hl hL hst hlk hok hR hS
      dsimp only at hG
      unfold zh_is at hh
      have e := of_decide_eq_true hh
      subst e
      obtain ⟨hx, hb, -⟩ := F
      rw [zlen_of hn rfl] at hd hp
      obtain ⟨ov, orr⟩ := List.forall_mem_cons.mp hok
      have rv' := ov.1.1 (Or.inl hi.1)
      have kk := hG ad cA H locs als hag hS0 hZ0 hl hL hst hlk (List.forall_mem_cons.mpr ⟨zlng rv', orr⟩) hR hS
      rw [List.map_cons, zcv_2, hp] at kk
      rw [List.map_cons, zcv_i hi.1]
      exact lv_i2l hx hb hd (by apply Int64.toInt_inj.mp; rw [Int32.toInt_toInt64, zi32 rv', zi64 rv']) kk
    · cases ho
  · cases ho
theorem zk_i2b : zOK 18 (zo_un 0 (fun _ => true) 0 zbyte) (zh_is .i2b) := by
  intro p l e R s m args below meth c Q D adK adV A nL k pcs S0 ad0 cA0 own cc x n i a ls st S M r F hd hp hn hh hm ho hc hs hG
  unfold zo_un at ho
  split at ho
  · rename_i v rr
    split at ho
    · rename_i hi
      cases ho
      intro ad cA H locs als hag hS0 hZ0 hl hL hst hlk hok hR hS
      dsimp only at hG
      unfold zh_is at hh
      have e := of_decide_eq_true hh
      subst e
      obtain ⟨hx, hb, -⟩ := F
      rw [zlen_of hn rfl] at hd hp
      obtain ⟨ov, orr⟩ := List.forall_mem_cons.mp hok
      obtain ⟨e1, e2⟩ := zi_by v.2
      have kk := hG ad cA H locs als hag hS0 hZ0 hl hL hst hlk (List.forall_mem_cons.mpr ⟨zint e2, orr⟩) hR hS
      rw [List.map_cons, zcv_0, hp] at kk
      rw [List.map_cons, zcv_i hi.1]
      exact lv_i2b hx hb hd e1 kk
    · cases ho
  · cases ho
theorem zk_lcmp : zOK 19 (zo_bin 2 (fun _ _ => true) zlc) (zh_is .lcmp) := by
  intro p l e R s m args below meth c Q D adK adV A nL k pcs S0 ad0 cA0 own cc x n i a ls st S M r F hd hp hn hh hm ho hc hs hG
  unfold zo_bin at ho
  split at ho
  · rename_i w v rr
    split at ho
    · rename_i hi
      obtain ⟨⟨hw, hv1⟩, hk⟩ := hi
      cases ho
      intro ad cA H locs als hag hS0 hZ0 hl hL hst hlk hok hR hS
      dsimp only at hG
      unfold zh_is at hh
      have e := of_decide_eq_true hh
      subst e
      obtain ⟨hx, hb, -⟩ := F
      rw [zlen_of hn rfl] at hd hp
      obtain ⟨ow, ov, orr⟩ := (List.forall_mem_cons.mp hok).imp_right List.forall_mem_cons.mp
      have rw' := ow.1.1 (Or.inr hw)
      have rv' := ov.1.1 (Or.inr hv1)
      have kk := hG ad cA H locs als hag hS0 hZ0 hl hL hst hlk (List.forall_mem_cons.mpr ⟨zint (by unfold zlc; split <;> (try split) <;> omega), orr⟩) hR hS
      rw [List.map_cons, zcv_0, hp, ← zi_cm rv' rw'] at kk
      rw [List.map_cons, List.map_cons, zcv_l hw, zcv_l hv1]
      exact W.lcmp hx hb hd kk
    · cases ho
  · cases ho
theorem zk_dup : zOK 20 zo_dup (zh_is .dup) := by
  intro p l e R s m args below meth c Q D adK adV A nL k pcs S0 ad0 cA0 own cc x n i a ls st S M r F hd hp hn hh hm ho hc hs hG
  unfold zo_dup at ho
  split at ho
  · rename_i v rr
    split at ho
    · rename_i hi
      cases ho
      intro ad cA H locs als hag hS0 hZ0 hl hL hst hlk hok hR hS
      dsimp only at hG
      unfold zh_is at hh
      have e := of_decide_eq_true hh
      subst e
      obtain ⟨hx, hb, -⟩ := F
      rw [zlen_of hn rfl] at hd hp
      have kk := hG ad cA H locs als hag hS0 hZ0 hl hL hst hlk (List.forall_mem_cons.mpr ⟨hok v List.mem_cons_self, hok⟩) hR hS
      rw [List.map_cons, List.map_cons, hp] at kk
      rw [List.map_cons]
      exact lv_dup hx hb hd (zcv_cat hi) kk
    · cases ho
  · cases ho
theorem zk_pop : zOK 21 zo_pop (zh_is .pop) := by
  intro p l e R s m args below meth c Q D adK adV A nL k pcs S0 ad0 cA0 own cc x n i a ls st S M r F hd hp hn hh hm ho hc hs hG
  unfold zo_pop at ho
  split at ho
  · rename_i v rr
    split at ho
    · rename_i hi
      cases ho
      intro ad cA H locs als hag hS0 hZ0 hl hL hst hlk hok hR hS
      dsimp only at hG
      unfold zh_is at hh
      have e := of_decide_eq_true hh
      subst e
      obtain ⟨hx, hb, -⟩ := F
      rw [zlen_of hn rfl] at hd hp
      have kk := hG ad cA H locs als hag hS0 hZ0 hl hL hst hlk (List.forall_mem_cons.mp hok).2 hR hS
      rw [hp] at kk
      rw [List.map_cons]
      exact lv_pop hx hb hd (zcv_cat hi) kk
    · cases ho
  · cases ho
theorem zk_dup2 : zOK 22 zo_dup2 (zh_is .dup2) := by
  intro p l e R s m args below meth c Q D adK adV A nL k pcs S0 ad0 cA0 own cc x n i a ls st S M r F hd hp hn hh hm ho hc hs hG
  unfold zo_dup2 at ho
  split at ho
  · rename_i v w rr
    split at ho
    · rename_i hi
      cases ho
      intro ad cA H locs als hag hS0 hZ0 hl hL hst hlk hok hR hS
      dsimp only at hG
      unfold zh_is at hh
      have e := of_decide_eq_true hh
      subst e
      obtain ⟨hx, hb, -⟩ := F
      rw [zlen_of hn rfl] at hd hp
      have kk := hG ad cA H locs als hag hS0 hZ0 hl hL hst hlk (List.forall_mem_cons.mpr ⟨hok v List.mem_cons_self, List.forall_mem_cons.mpr ⟨hok w (List.mem_cons_of_mem _ List.mem_cons_self), hok⟩⟩) hR hS
      simp only [List.map_cons] at kk ⊢
      rw [hp] at kk
      exact lv_dup2_11 hx hb hd (zcv_cat hi.1) (zcv_cat hi.2) kk
    · cases ho
  · cases ho
theorem zk_ifeq : zOK 23 (zo_if (fun x => decide (x = 0))) (zh_if .eq) := by
  intro p l e R s m args below meth c Q D adK adV A nL k pcs S0 ad0 cA0 own cc x n i a ls st S M r F hd hp hn hh hm ho hc hs hG
  unfold zo_if at ho
  split at ho
  · rename_i v rr
    split at ho
    · rename_i hi
      intro ad cA H locs als hag hS0 hZ0 hl hL hst hlk hok hR hS
      unfold zh_if at hh
      split at hh
      · rename_i q off
        simp only [Bool.and_eq_true, decide_eq_true_eq] at hh
        obtain ⟨rfl, hj⟩ := hh
        have hj := zi_jm hj
        obtain ⟨hx, hb, -⟩ := F
        rw [zlen_of hn rfl] at hd hp
        obtain ⟨ov, orr⟩ := List.forall_mem_cons.mp hok
        have rv := ov.1.1 (Or.inl hi)
        have z0 : -2147483648 ≤ (0 : Int) ∧ (0 : Int) ≤ 2147483647 := by decide
        have key := zi_eq rv z0
        rw [List.map_cons, zcv_i hi]
        refine lv_if_eq hx hb hd hj (fun q => ?_) (fun q => ?_)
        · rw [if_pos (decide_eq_true (key.mp q))] at ho
          cases ho
          exact hG ad cA H locs als hag hS0 hZ0 hl hL hst hlk orr hR hS
        · rw [if_neg (fun z => q (key.mpr (of_decide_eq_true z)))] at ho
          cases ho
          have kk := hG ad cA H locs als hag hS0 hZ0 hl hL hst hlk orr hR hS
          dsimp only at kk
          rw [hp] at kk
          exact kk
      · cases hh
    · cases ho
  · cases ho
theorem zk_ifne : zOK 24 (zo_if (fun x => decide (x ≠ 0))) (zh_if .ne) := by
  intro p l e R s m args below meth c Q D adK adV A nL k pcs S0 ad0 cA0 own cc x n i a ls st S M r F hd hp hn hh hm ho hc hs hG
  unfold zo_if at ho
  split at ho
  · rename_i v rr
    split at ho
    · rename_i hi
      intro ad cA H locs als hag hS0 hZ0 hl hL hst hlk hok hR hS
      unfold zh_if at hh
      split at hh
      · rename_i q off
        simp only [Bool.and_eq_true, decide_eq_true_eq] at hh
        obtain ⟨rfl, hj⟩ := hh
        have hj := zi_jm hj
        obtain ⟨hx, hb, -⟩ := F
        rw [zlen_of hn rfl] at hd hp
        obtain ⟨ov, orr⟩ := List.forall_mem_cons.mp hok
        have rv := ov.1.1 (Or.inl hi)
        have z0 : -2147483648 ≤ (0 : Int) ∧ (0 : Int) ≤ 2147483647 := by decide
        have key := not_congr (zi_eq rv z0)
        rw [List.map_cons, zcv_i hi]
        refine lv_if_ne hx hb hd hj (fun q => ?_) (fun q => ?_)
        · rw [if_pos (decide_eq_true (key.mp q))] at ho
          cases ho
          exact hG ad cA H locs als hag hS0 hZ0 hl hL hst hlk orr hR hS
        · rw [if_neg (fun z => (of_decide_eq_true z) ((zi_eq rv z0).mp q))] at ho
          cases ho
          have kk := hG ad cA H locs als hag hS0 hZ0 hl hL hst hlk orr hR hS
          dsimp only at kk
          rw [hp] at kk
          exact kk
      · cases hh
    · cases ho
  · cases ho
theorem zk_iflt : zOK 25 (zo_if (fun x => decide (x < 0))) (zh_if .lt) := by
  intro p l e R s m args below meth c Q D adK adV A nL k pcs S0 ad0 cA0 own cc x n i a ls st S M r F hd hp hn hh hm ho hc hs hG
  unfold zo_if at ho
  split at ho
  · rename_i v rr
    split at ho
    · rename_i hi
      intro ad cA H locs als hag hS0 hZ0 hl hL hst hlk hok hR hS
      unfold zh_if at hh
      split at hh
      · rename_i q off
        simp only [Bool.and_eq_true, decide_eq_true_eq] at hh
        obtain ⟨rfl, hj⟩ := hh
        have hj := zi_jm hj
        obtain ⟨hx, hb, -⟩ := F
        rw [zlen_of hn rfl] at hd hp
        obtain ⟨ov, orr⟩ := List.forall_mem_cons.mp hok
        have rv := ov.1.1 (Or.inl hi)
        have z0 : -2147483648 ≤ (0 : Int) ∧ (0 : Int) ≤ 2147483647 := by decide
        have key := zi_lt rv z0
        rw [List.map_cons, zcv_i hi]
        refine lv_if_lt hx hb hd hj (fun q => ?_) (fun q => ?_)
        · rw [if_pos (decide_eq_true (key.mp q))] at ho
          cases ho
          exact hG ad cA H locs als hag hS0 hZ0 hl hL hst hlk orr hR hS
        · rw [if_neg (fun z => q (key.mpr (of_decide_eq_true z)))] at ho
          cases ho
          have kk := hG ad cA H locs als hag hS0 hZ0 hl hL hst hlk orr hR hS
          dsimp only at kk
          rw [hp] at kk
          exact kk
      · cases hh
    · cases ho
  · cases ho
theorem zk_ifge : zOK 26 (zo_if (fun x => decide (0 ≤ x))) (zh_if .ge) := by
  intro p l e R s m args below meth c Q D adK adV A nL k pcs S0 ad0 cA0 own cc x n i a ls st S M r F hd hp hn hh hm ho hc hs hG
  unfold zo_if at ho
  split at ho
  · rename_i v rr
    split at ho
    · rename_i hi
      intro ad cA H locs als hag hS0 hZ0 hl hL hst hlk hok hR hS
      unfold zh_if at hh
      split at hh
      · rename_i q off
        simp only [Bool.and_eq_true, decide_eq_true_eq] at hh
        obtain ⟨rfl, hj⟩ := hh
        have hj := zi_jm hj
        obtain ⟨hx, hb, -⟩ := F
        rw [zlen_of hn rfl] at hd hp
        obtain ⟨ov, orr⟩ := List.forall_mem_cons.mp hok
        have rv := ov.1.1 (Or.inl hi)
        have z0 : -2147483648 ≤ (0 : Int) ∧ (0 : Int) ≤ 2147483647 := by decide
        have key := zi_le z0 rv
        rw [List.map_cons, zcv_i hi]
        refine lv_if_ge hx hb hd hj (fun q => ?_) (fun q => ?_)
        · rw [if_pos (decide_eq_true (key.mp q))] at ho
          cases ho
          exact hG ad cA H locs als hag hS0 hZ0 hl hL hst hlk orr hR hS
        · rw [if_neg (fun z => q (key.mpr (of_decide_eq_true z)))] at ho
          cases ho
          have kk := hG ad cA H locs als hag hS0 hZ0 hl hL hst hlk orr hR hS
          dsimp only at kk
          rw [hp] at kk
          exact kk
      · cases hh
    · cases ho
  · cases ho
theorem zk_ifgt : zOK 27 (zo_if (fun x => decide (0 < x))) (zh_if .gt) := by
  intro p l e R s m args below meth c Q D adK adV A nL k pcs S0 ad0 cA0 own cc x n i a ls st S M r F hd hp hn hh hm ho hc hs hG
  unfold zo_if at ho
  split at ho
  · rename_i v rr
    split at ho
    · rename_i hi
      intro ad cA H locs als hag hS0 hZ0 hl hL hst hlk hok hR hS
      unfold zh_if at hh
      split at hh
      · rename_i q off
        simp only [Bool.and_eq_true, decide_eq_true_eq] at hh
        obtain ⟨rfl, hj⟩ := hh
        have hj := zi_jm hj
        obtain ⟨hx, hb, -⟩ := F
        rw [zlen_of hn rfl] at hd hp
        obtain ⟨ov, orr⟩ := List.forall_mem_cons.mp hok
        have rv := ov.1.1 (Or.inl hi)
        have z0 : -2147483648 ≤ (0 : Int) ∧ (0 : Int) ≤ 2147483647 := by decide
        have key := zi_lt z0 rv
        rw [List.map_cons, zcv_i hi]
        refine lv_if_gt hx hb hd hj (fun q => ?_) (fun q => ?_)
        · rw [if_pos (decide_eq_true (key.mp q))] at ho
          cases ho
          exact hG ad cA H locs als hag hS0 hZ0 hl hL hst hlk orr hR hS
        · rw [if_neg (fun z => q (key.mpr (of_decide_eq_true z)))] at ho
          cases ho
          have kk := hG ad cA H locs als hag hS0 hZ0 hl hL hst hlk orr hR hS
          dsimp only at kk
          rw [hp] at kk
          exact kk
      · cases hh
    · cases ho
  · cases ho
theorem zk_ifle : zOK 28 (zo_if (fun x => decide (x ≤ 0))) (zh_if .le) := by
  intro p l e R s m args below meth c Q D adK adV A nL k pcs S0 ad0 cA0 own cc x n i a ls st S M r F hd hp hn hh hm ho hc hs hG
  unfold zo_if at ho
  split at ho
  · rename_i v rr
    split at ho
    · rename_i hi
      intro ad cA H locs als hag hS0 hZ0 hl hL hst hlk hok hR hS
      unfold zh_if at hh
      split at hh
      · rename_i q off
        simp only [Bool.and_eq_true, decide_eq_true_eq] at hh
        obtain ⟨rfl, hj⟩ := hh
        have hj := zi_jm hj
        obtain ⟨hx, hb, -⟩ := F
        rw [zlen_of hn rfl] at hd hp
        obtain ⟨ov, orr⟩ := List.forall_mem_cons.mp hok
        have rv := ov.1.1 (Or.inl hi)
        have z0 : -2147483648 ≤ (0 : Int) ∧ (0 : Int) ≤ 2147483647 := by decide
        have key := zi_le rv z0
        rw [List.map_cons, zcv_i hi]
        refine lv_if_le hx hb hd hj (fun q => ?_) (fun q => ?_)
        · rw [if_pos (decide_eq_true (key.mp q))] at ho
          cases ho
          exact hG ad cA H locs als hag hS0 hZ0 hl hL hst hlk orr hR hS
        · rw [if_neg (fun z => q (key.mpr (of_decide_eq_true z)))] at ho
          cases ho
          have kk := hG ad cA H locs als hag hS0 hZ0 hl hL hst hlk orr hR hS
          dsimp only at kk
          rw [hp] at kk
          exact kk
      · cases hh
    · cases ho
  · cases ho
theorem zk_iceq : zOK 29 (zo_cmp (fun x y => decide (x = y))) (zh_cmp .eq) := by
  intro p l e R s m args below meth c Q D adK adV A nL k pcs S0 ad0 cA0 own cc x n i a ls st S M r F hd hp hn hh hm ho hc hs hG
  unfold zo_cmp at ho
  split at ho
  · rename_i w v rr
    split at ho
    · rename_i hi
      intro ad cA H locs als hag hS0 hZ0 hl hL hst hlk hok hR hS
      unfold zh_cmp at hh
      split at hh
      · rename_i q off
        simp only [Bool.and_eq_true, decide_eq_true_eq] at hh
        obtain ⟨rfl, hj⟩ := hh
        have hj := zi_jm hj
        obtain ⟨hx, hb, -⟩ := F
        rw [zlen_of hn rfl] at hd hp
        obtain ⟨ow, ov, orr⟩ := (List.forall_mem_cons.mp hok).imp_right List.forall_mem_cons.mp
        have rv := ov.1.1 (Or.inl hi.2)
        have rw2 := ow.1.1 (Or.inl hi.1)
        have key := zi_eq rv rw2
        rw [List.map_cons, List.map_cons, zcv_i hi.1, zcv_i hi.2]
        refine lv_icmp_eq hx hb hd hj (fun q => ?_) (fun q => ?_)
        · rw [if_pos (decide_eq_true (key.mp q))] at ho
          cases ho
          exact hG ad cA H locs als hag hS0 hZ0 hl hL hst hlk orr hR hS
        · rw [if_neg (fun z => q (key.mpr (of_decide_eq_true z)))] at ho
          cases ho
          have kk := hG ad cA H locs als hag hS0 hZ0 hl hL hst hlk orr hR hS
          dsimp only at kk
          rw [hp] at kk
          exact kk
      · cases hh
    · cases ho
  · cases ho
theorem zk_icne : zOK 30 (zo_cmp (fun x y => decide (x ≠ y))) (zh_cmp .ne) := by
  intro p l e R s m args below meth c Q D adK adV A nL k pcs S0 ad0 cA0 own cc x n i a ls st S M r F hd hp hn hh hm ho hc hs hG
  unfold zo_cmp at ho
  split at ho
  · rename_i w v rr
    split at ho
    · rename_i hi
      intro ad cA H locs als hag hS0 hZ0 hl hL hst hlk hok hR hS
      unfold zh_cmp at hh
      split at hh
      · rename_i q off
        simp only [Bool.and_eq_true, decide_eq_true_eq] at hh
        obtain ⟨rfl, hj⟩ := hh
        have hj := zi_jm hj
        obtain ⟨hx, hb, -⟩ := F
        rw [zlen_of hn rfl] at hd hp
        obtain ⟨ow, ov, orr⟩ := (List.forall_mem_cons.mp hok).imp_right List.forall_mem_cons.mp
        have rv := ov.1.1 (Or.inl hi.2)
        have rw2 := ow.1.1 (Or.inl hi.1)
        have key := not_congr (zi_eq rv rw2)
        rw [List.map_cons, List.map_cons, zcv_i hi.1, zcv_i hi.2]
        refine lv_icmp_ne hx hb hd hj (fun q => ?_) (fun q => ?_)
        · rw [if_pos (decide_eq_true (key.mp q))] at ho
          cases ho
          exact hG ad cA H locs als hag hS0 hZ0 hl hL hst hlk orr hR hS
        · rw [if_neg (fun z => (of_decide_eq_true z) ((zi_eq rv rw2).mp q))] at ho
          cases ho
          have kk := hG ad cA H locs als hag hS0 hZ0 hl hL hst hlk orr hR hS
          dsimp only at kk
          rw [hp] at kk
          exact kk
      · cases hh
    · cases ho
  · cases ho
theorem zk_iclt : zOK 31 (zo_cmp (fun x y => decide (x < y))) (zh_cmp .lt) := by
  intro p l e R s m args below meth c Q D adK adV A nL k pcs S0 ad0 cA0 own cc x n i a ls st S M r F hd hp hn hh hm ho hc hs hG
  unfold zo_cmp at ho
  split at ho
  · rename_i w v rr
    split at ho
    · rename_i hi
      intro ad cA H locs als hag hS0 hZ0 hl hL hst hlk hok hR hS
      unfold zh_cmp at hh
      split at hh
      · rename_i q off
        simp only [Bool.and_eq_true, decide_eq_true_eq] at hh
        obtain ⟨rfl, hj⟩ := hh
        have hj := zi_jm hj
        obtain ⟨hx, hb, -⟩ := F
        rw [zlen_of hn rfl] at hd hp
        obtain ⟨ow, ov, orr⟩ := (List.forall_mem_cons.mp hok).imp_right List.forall_mem_cons.mp
        have rv := ov.1.1 (Or.inl hi.2)
        have rw2 := ow.1.1 (Or.inl hi.1)
        have key := zi_lt rv rw2
        rw [List.map_cons, List.map_cons, zcv_i hi.1, zcv_i hi.2]
        refine lv_icmp_lt hx hb hd hj (fun q => ?_) (fun q => ?_)
        · rw [if_pos (decide_eq_true (key.mp q))] at ho
          cases ho
          exact hG ad cA H locs als hag hS0 hZ0 hl hL hst hlk orr hR hS
        · rw [if_neg (fun z => q (key.mpr (of_decide_eq_true z)))] at ho
          cases ho
          have kk := hG ad cA H locs als hag hS0 hZ0 hl hL hst hlk orr hR hS
          dsimp only at kk
          rw [hp] at kk
          exact kk
      · cases hh
    · cases ho
  · cases ho
theorem zk_icge : zOK 32 (zo_cmp (fun x y => decide (y ≤ x))) (zh_cmp .ge) := by
  intro p l e R s m args below meth c Q D adK adV A nL k pcs S0 ad0 cA0 own cc x n i a ls st S M r F hd hp hn hh hm ho hc hs hG
  unfold zo_cmp at ho
  split at ho
  · rename_i w v rr
    split at ho
    · rename_i hi
      intro ad cA H locs als hag hS0 hZ0 hl hL hst hlk hok hR hS
      unfold zh_cmp at hh
      split at hh
      · rename_i q off
        simp only [Bool.and_eq_true, decide_eq_true_eq] at hh
        obtain ⟨rfl, hj⟩ := hh
        have hj := zi_jm hj
        obtain ⟨hx, hb, -⟩ := F
        rw [zlen_of hn rfl] at hd hp
        obtain ⟨ow, ov, orr⟩ := (List.forall_mem_cons.mp hok).imp_right List.forall_mem_cons.mp
        have rv := ov.1.1 (Or.inl hi.2)
        have rw2 := ow.1.1 (Or.inl hi.1)
        have key := zi_le rw2 rv
        rw [List.map_cons, List.map_cons, zcv_i hi.1, zcv_i hi.2]
        refine lv_icmp_ge hx hb hd hj (fun q => ?_) (fun q => ?_)
        · rw [if_pos (decide_eq_true (key.mp q))] at ho
          cases ho
          exact hG ad cA H locs als hag hS0 hZ0 hl hL hst hlk orr hR hS
        · rw [if_neg (fun z => q (key.mpr (of_decide_eq_true z)))] at ho
          cases ho
          have kk := hG ad cA H locs als hag hS0 hZ0 hl hL hst hlk orr hR hS
          dsimp only at kk
          rw [hp] at kk
          exact kk
      · cases hh
    · cases ho
  · cases ho
theorem zk_icgt : zOK 33 (zo_cmp (fun x y => decide (y < x))) (zh_cmp .gt) := by
  intro p l e R s m args below meth c Q D adK adV A nL k pcs S0 ad0 cA0 own cc x n i a ls st S M r F hd hp hn hh hm ho hc hs hG
  unfold zo_cmp at ho
  split at ho
  · rename_i w v rr
    split at ho
    · rename_i hi
      intro ad cA H locs als hag hS0 hZ0 hl hL hst hlk hok hR hS
      unfold zh_cmp at hh
      split at hh
      · rename_i q off
        simp only [Bool.and_eq_true, decide_eq_true_eq] at hh
        obtain ⟨rfl, hj⟩ := hh
        have hj := zi_jm hj
        obtain ⟨hx, hb, -⟩ := F
        rw [zlen_of hn rfl] at hd hp
        obtain ⟨ow, ov, orr⟩ := (List.forall_mem_cons.mp hok).imp_right List.forall_mem_cons.mp
        have rv := ov.1.1 (Or.inl hi.2)
        have rw2 := ow.1.1 (Or.inl hi.1)
        have key := zi_lt rw2 rv
        rw [List.map_cons, List.map_cons, zcv_i hi.1, zcv_i hi.2]
        refine lv_icmp_gt hx hb hd hj (fun q => ?_) (fun q => ?_)
        · rw [if_pos (decide_eq_true (key.mp q))] at ho
          cases ho
          exact hG ad cA H locs als hag hS0 hZ0 hl hL hst hlk orr hR hS
        · rw [if_neg (fun z => q (key.mpr (of_decide_eq_true z)))] at ho
          cases ho
          have kk := hG ad cA H locs als hag hS0 hZ0 hl hL hst hlk orr hR hS
          dsimp only at kk
          rw [hp] at kk
          exact kk
      · cases hh
    · cases ho
  · cases ho
theorem zk_icle : zOK 34 (zo_cmp (fun x y => decide (x ≤ y))) (zh_cmp .le) := by
  intro p l e R s m args below meth c Q D adK adV A nL k pcs S0 ad0 cA0 own cc x n i a ls st S M r F hd hp hn hh hm ho hc hs hG
  unfold zo_cmp at ho
  split at ho
  · rename_i w v rr
    split at ho
    · rename_i hi
      intro ad cA H locs als hag hS0 hZ0 hl hL hst hlk hok hR hS
      unfold zh_cmp at hh
      split at hh
      · rename_i q off
        simp only [Bool.and_eq_true, decide_eq_true_eq] at hh
        obtain ⟨rfl, hj⟩ := hh
        have hj := zi_jm hj
        obtain ⟨hx, hb, -⟩ := F
        rw [zlen_of hn rfl] at hd hp
        obtain ⟨ow, ov, orr⟩ := (List.forall_mem_cons.mp hok).imp_right List.forall_mem_cons.mp
        have rv := ov.1.1 (Or.inl hi.2)
        have rw2 := ow.1.1 (Or.inl hi.1)
        have key := zi_le rv rw2
        rw [List.map_cons, List.map_cons, zcv_i hi.1, zcv_i hi.2]
        refine lv_icmp_le hx hb hd hj (fun q => ?_) (fun q => ?_)
        · rw [if_pos (decide_eq_true (key.mp q))] at ho
          cases ho
          exact hG ad cA H locs als hag hS0 hZ0 hl hL hst hlk orr hR hS
        · rw [if_neg (fun z => q (key.mpr (of_decide_eq_true z)))] at ho
          cases ho
          have kk := hG ad cA H locs als hag hS0 hZ0 hl hL hst hlk orr hR hS
          dsimp only at kk
          rw [hp] at kk
          exact kk
      · cases hh
    · cases ho
  · cases ho
theorem zk_goto : zOK 35 zo_goto zh_goto := by
  intro p l e R s m args below meth c Q D adK adV A nL k pcs S0 ad0 cA0 own cc x n i a ls st S M r F hd hp hn hh hm ho hc hs hG
  cases ho
  intro ad cA H locs als hag hS0 hZ0 hl hL hst hlk hok hR hS
  unfold zh_goto at hh
  split at hh
  · have hj := zi_jm hh
    obtain ⟨hx, hb, -⟩ := F
    rw [zlen_of hn rfl] at hd
    exact lv_goto hx hb hd hj (hG ad cA H locs als hag hS0 hZ0 hl hL hst hlk hok hR hS)
  · cases hh
theorem zk_ifnull : zOK 36 zo_ifnull zh_ifnull := by
  intro p l e R s m args below meth c Q D adK adV A nL k pcs S0 ad0 cA0 own cc x n i a ls st S M r F hd hp hn hh hm ho hc hs hG
  unfold zo_ifnull at ho
  split at ho
  · rename_i v rr
    unfold zh_ifnull at hh
    split at hh
    · have hj := zi_jm hh
      obtain ⟨hx, hb, -⟩ := F
      rw [zlen_of hn rfl] at hd hp
      split at ho
      · rename_i hi
        cases ho
        intro ad cA H locs als hag hS0 hZ0 hl hL hst hlk hok hR hS
        rw [List.map_cons, zcv_n hi]
        exact lv_ifnullN hx hb hd hj (hG ad cA H locs als hag hS0 hZ0 hl hL hst hlk (List.forall_mem_cons.mp hok).2 hR hS)
      · split at ho
        · rename_i hi
          cases ho
          intro ad cA H locs als hag hS0 hZ0 hl hL hst hlk hok hR hS
          have kk := hG ad cA H locs als hag hS0 hZ0 hl hL hst hlk (List.forall_mem_cons.mp hok).2 hR hS
          rw [hp] at kk
          rw [List.map_cons, zcv_r hi]
          exact lv_ifnull hx hb hd kk
        · cases ho
    · cases hh
  · cases ho
end
section
/-! Heap, switches -/
theorem zgetD_out {α : Type} {l : List α} {k : Nat} {d : α} (h : l.length ≤ k) : l.getD k d = d := by simp [List.getD, List.getElem?_eq_none h]
theorem zgetD_in {α : Type} {l : List α} {k : Nat} {d e : α} (h : k < l.length) : l.getD k d = l.getD k e := by simp [List.getD, List.getElem?_eq_getElem h]
theorem zk_table : zOK 37 zo_table zh_table := by
  intro p l e R s m args below meth c Q D adK adV A nL k pcs S0 ad0 cA0 own cc x n i a ls st S M r F hd hp hn hh hm ho hc hs hG
  unfold zo_table at ho
  split at ho
  · rename_i v rr
    split at ho
    · rename_i hi
      cases ho
      intro ad cA H locs als hag hS0 hZ0 hl hL hst hlk hok hR hS
      unfold zh_table at hh
      split at hh
      · rename_i d lo hi2 offs
        simp only [Bool.and_eq_true, decide_eq_true_eq] at hh
        obtain ⟨⟨⟨e1, e2, e3⟩, hj⟩, hall⟩ := hh
        have hj := zi_jm hj
        obtain ⟨hx, hb, -⟩ := F
        obtain ⟨ov, orr⟩ := List.forall_mem_cons.mp hok
        have rv := ov.1.1 (Or.inl hi)
        have kk := hG ad cA H locs als hag hS0 hZ0 hl hL hst hlk orr hR hS
        dsimp only at kk
        rw [List.map_cons, zcv_i hi]
        by_cases hout : v.2 < lo ∨ hi2 < v.2
        · have e : ztgt a v.2 = zarg a 1 := by
            unfold ztgt
            split
            · rw [zgetD_out (by omega)]
            · rfl
          rw [e] at kk
          exact lv_tableOut hx hb hd (by rw [zi32 rv]; exact hout) hj kk
        · have hk : (v.2 - lo).toNat < offs.size := by omega
          have e : ztgt a v.2 = (a.drop 2).getD (v.2 - lo).toNat 0 := by
            unfold ztgt
            rw [if_pos (by omega), ← e1]
            exact zgetD_in (by omega)
          rw [e] at kk
          have h2 := zi_jm (List.all_eq_true.mp hall _ (List.mem_range.mpr hk))
          refine lv_tableIn (off := offs.getD (v.2 - lo).toNat 0) hx hb hd (by rw [zi32 rv]; omega) (by rw [zi32 rv]; omega) ?_ h2 kk
          rw [zi32 rv, Array.getD_eq_getD_getElem?, Array.getElem?_eq_getElem hk]
          rfl
      · cases hh
    · cases ho
  · cases ho
theorem zlk_ok {pcs : List Nat} {i : Nat} {d dt v : Int} (hd : (zpc pcs i : Int) + d = (zpc pcs dt.toNat : Int)) : ∀ (ps : List (Int × Int)) (a : List Int), zlk pcs i ps a = true → (zpc pcs i : Int) + Op.lookupswitch.offset ps d v = (zpc pcs (zlook a dt v).toNat : Int)
  | [], [], _ => hd
  | z :: r, k :: t :: a, h => by
    unfold zlk at h
    simp only [Bool.and_eq_true, decide_eq_true_eq] at h
    obtain ⟨e, hj, h2⟩ := h
    obtain ⟨z1, z2⟩ := z
    rw [Op.lookupswitch.offset_cons]
    unfold zlook
    dsimp only at e hj
    by_cases q : v = k
    · rw [if_pos (by omega), if_pos q]
      exact zi_jm hj
    · rw [if_neg (by omega), if_neg q]
      exact zlk_ok hd r a h2
  | [], _ :: _, h => by simp [zlk] at h
  | _ :: _, [], h => by simp [zlk] at h
  | _ :: _, [_], h => by simp [zlk] at h
theorem zk_lookup : zOK 38 zo_lookup zh_lookup := by
  intro p l e R s m args below meth c Q D adK adV A nL k pcs S0 ad0 cA0 own cc x n i a ls st S M r F hd hp hn hh hm ho hc hs hG
  unfold zo_lookup at ho
  split at ho
  · rename_i v rr
    split at ho
    · rename_i hi
      cases ho
      intro ad cA H locs als hag hS0 hZ0 hl hL hst hlk hok hR hS
      unfold zh_lookup at hh
      split at hh
      · rename_i d ps
        simp only [Bool.and_eq_true] at hh
        obtain ⟨⟨h1, hj⟩, hall⟩ := hh
        have hj := zi_jm hj
        obtain ⟨hx, hb, -⟩ := F
        obtain ⟨ov, orr⟩ := List.forall_mem_cons.mp hok
        have rv := ov.1.1 (Or.inl hi)
        have kk := hG ad cA H locs als hag hS0 hZ0 hl hL hst hlk orr hR hS
        dsimp only at kk
        rw [List.map_cons, zcv_i hi]
        exact lv_lookup hx hb hd hall rfl (by rw [zi32 rv]; exact zlk_ok hj _ _ h1) kk
      · cases hh
    · cases ho
  · cases ho
/-- the class's own words -/
theorem zin_ws {c : Nat} (hc : c < 13) : ∀ w ∈ u_ws (zC c) (zT c) (zN c), w ∈ zTb := by
  intro w hw
  obtain ⟨k, hk, rfl⟩ := List.mem_map.mp hw
  have h := List.all_eq_true.mp zw_cls c (List.mem_range.mpr hc)
  simp only [Bool.and_eq_true] at h
  have h2 := of_decide_eq_true (List.all_eq_true.mp h.2 k hk)
  refine zTb_of h2 ?_
  unfold u_lay
  split <;> rfl
theorem zty_ok {c k : Nat} (hc : c < 13) (hk : k < zN c) : parseFieldDescriptor (zT c k).2.2.1 = some (zTy c k) ∧ zkd c k = (match zTy c k with | .int => 0 | .boolean => 2 | _ => 1) ∧ ((zT c k).2.2.2 = true → zkd c k = 1) ∧ (zT c k).1 = zC c := by
  have h := List.all_eq_true.mp (List.all_eq_true.mp zw_ty c (List.mem_range.mpr hc)) k (List.mem_range.mpr hk)
  simp only [Bool.and_eq_true, decide_eq_true_eq] at h
  exact ⟨h.1.1.1, h.1.1.2, h.1.2, h.2⟩
theorem znm_ok {c : Nat} (hc : c < 13) : ∀ a, a < zN c → ∀ b, b < zN c → a ≠ b → (zT c a).2.1 ≠ (zT c b).2.1 := by
  intro a ha b hb hab
  have h := List.all_eq_true.mp (List.all_eq_true.mp (List.all_eq_true.mp zw_nm c (List.mem_range.mpr hc)) a (List.mem_range.mpr ha)) b (List.mem_range.mpr hb)
  simp only [Bool.or_eq_true, decide_eq_true_eq] at h
  exact h.resolve_left hab
/-- a field's link -/
theorem zfl_ok {own k c sl : Nat} {s : State} {args : Array Value} (hts : ∀ w ∈ zTb, w.before args s = true) (h : zFl.any (fun e => e.1 == own && (e.2.1 == k && (e.2.2.1 == c && e.2.2.2.1 == sl))) = true) : (Cond.fieldLink (if own = 13 then R_law else zC own) k (zC c) (zT c sl).2.1 (zT c sl).2.2.1).before args s = true := by
  obtain ⟨q, hq, he⟩ := List.any_eq_true.mp h
  simp only [Bool.and_eq_true, beq_iff_eq] at he
  obtain ⟨e1, e2, e3, e4⟩ := he
  have hw := of_decide_eq_true (List.all_eq_true.mp zw_fl q hq)
  rw [e1, e2, e3, e4] at hw
  exact zTb_at hts hw rfl
theorem zel_0 {adK ad : Nat → Nat} {cA : Nat → ClassId} {M : zM} {k : Nat} {q : zSh} (h : q.1 = 0) : zel adK ad cA M k q = .inr (q.2.1, (List.range (zN q.2.1)).map (fun j => if zkd q.2.1 j = 1 then zcv adK ad (zrf (q.2.2.getD j (-1))) else .int (Int32.ofInt (M k j)))) := if_pos h
theorem zel_4 {adK ad : Nat → Nat} {cA : Nat → ClassId} {M : zM} {k : Nat} {q : zSh} (h : q.1 = 4) : zel adK ad cA M k q = .inl (cA k, q.2.1, .inr (.inr (.inr (.inr (fun j => if j < q.2.1 then some (ad (q.2.2.getD 0 0 + j).toNat) else none))))) := by
  unfold zel
  rw [if_neg (by omega), if_pos h]
theorem zel_5 {adK ad : Nat → Nat} {cA : Nat → ClassId} {M : zM} {k : Nat} {q : zSh} (h : q.1 = 5) : zel adK ad cA M k q = .inl (cA k, q.2.1, .inr (.inr (.inr (.inr (fun j => if M k j ≤ 0 then none else some (ad (M k j - 1).toNat)))))) := by
  unfold zel
  rw [if_neg (by omega), if_neg (by omega), if_pos h]
theorem zel_a {adK ad : Nat → Nat} {cA : Nat → ClassId} {M : zM} {k : Nat} {q : zSh} (h : q.1 = 1 ∨ q.1 = 2 ∨ q.1 = 3) : zel adK ad cA M k q = .inl (cA k, q.2.1, .inl (fun j => Int32.ofInt (M k j))) := by
  unfold zel
  rw [if_neg (by omega), if_neg (by omega), if_neg (by omega)]
theorem zaty_1 {q : zSh} (h : q.1 = 1) : zaty q = .int := if_pos h
theorem zaty_2 {q : zSh} (h : q.1 = 2) : zaty q = .byte := by unfold zaty; rw [if_neg (by omega), if_pos h]
theorem zaty_3 {q : zSh} (h : q.1 = 3) : zaty q = .boolean := by unfold zaty; rw [if_neg (by omega), if_neg (by omega), if_pos h]
theorem zaty_4 {q : zSh} (h : q.1 = 4) : zaty q = .array .int := by unfold zaty; rw [if_neg (by omega), if_neg (by omega), if_neg (by omega), if_pos h]
theorem zaty_5 {q : zSh} (h : q.1 = 5) : zaty q = .object (zC (q.2.2.getD 0 0).toNat) := by unfold zaty; rw [if_neg (by omega), if_neg (by omega), if_neg (by omega), if_neg (by omega)]
theorem zrf_ok {n : Nat} {r : Int} (h : r < n) : zok n (zrf r) ∧ (zrf r).1 ≠ 3 := by
  unfold zrf
  split
  · exact ⟨⟨fun z => by rcases z with z | z <;> exact absurd z (by decide), fun z => absurd z (by decide)⟩, (by decide : (5 : Nat) ≠ 3)⟩
  · exact ⟨⟨fun z => by rcases z with z | z; exact absurd z (by decide : (1 : Nat) ≠ 0); exact absurd z (by decide : (1 : Nat) ≠ 2), fun _ => ⟨by show 0 ≤ r; omega, h⟩⟩, (by decide : (1 : Nat) ≠ 3)⟩
theorem zcv_rf {adK ad : Nat → Nat} {r : Int} : zcv adK ad (zrf r) = va_rf (if r < 0 then none else some (ad r.toNat)) := by
  unfold zrf
  split <;> rfl
theorem zk_getf : zOK 40 zo_getf zh_getf := by
  intro p l e R s m args below meth c Q D adK adV A nL k pcs S0 ad0 cA0 own cc x n i a ls st S M r F hd hp hn hh hm ho hc hs hG
  unfold zo_getf at ho
  split at ho
  · rename_i v rr
    split at ho
    · rename_i q hq
      split at ho
      · rename_i hi
        obtain ⟨ht, h0, hcl⟩ := hi
        obtain ⟨hnn, hq⟩ := zsh_of hq
        unfold zh_getf at hh
        split at hh
        · rename_i kx
          simp only [Bool.and_eq_true, decide_eq_true_eq] at hh
          obtain ⟨⟨e1, hany⟩, g0, g1, g2, g3, g4⟩ := hh
          have hcn : (zarg a 1).toNat = q.2.1 := by omega
          rw [hcn] at hany g3 g4
          obtain ⟨hx, hb, hml, hown, hts, -⟩ := F
          rw [zlen_of hn rfl] at hd hp
          have hcl13 : q.2.1 < 13 := by omega
          obtain ⟨f1, f2, f3, f4⟩ := zty_ok hcl13 g3
          have hG' : zG p l e R s m args below meth c Q D adK A nL k pcs S0 ad0 cA0 (i + 1) ls ((if zkd q.2.1 (zarg a 2).toNat = 1 then zrf (q.2.2.getD (zarg a 2).toNat (-1)) else (0, M v.2 (zarg a 2))) :: rr) S M := by
            by_cases hk : zarg a 3 = 1
            · rw [if_pos hk] at ho
              cases ho
              rw [if_pos (by omega)]
              exact hG
            · rw [if_neg hk] at ho
              cases ho
              rw [if_neg (by omega)]
              exact hG
          intro ad cA H locs als hag hS0 hZ0 hl hL hst hlk hok hR hS
          obtain ⟨hP, hD, hK, hV⟩ := id hR
          obtain ⟨ov, orr⟩ := List.forall_mem_cons.mp hok
          have hva := hV.1 _ _ hq
          have kk := hG' ad cA H locs als hag hS0 hZ0 hl hL hst hlk (List.forall_mem_cons.mpr ⟨by
            by_cases hk : zkd q.2.1 (zarg a 2).toNat = 1
            · rw [if_pos hk]
              exact zrf_ok ((hva.2.1 h0).2.2 _)
            · rw [if_neg hk]
              refine zint ?_
              have := hV.2.1 _ _ hq (by omega) (zarg a 2)
              rw [show ((v.2.toNat : Nat) : Int) = v.2 by omega] at this
              exact this, orr⟩) hR hS
          rw [hp, List.map_cons] at kk
          rw [List.map_cons, zcv_r ht]
          refine va_get (T := zT q.2.1) (N := zN q.2.1) (ci := q.2.1) (ref := zC q.2.1) (C := zC q.2.1) hx hb hts (zin_ws hcl13) hown hK.1 hP v.2.toNat ((zws_at hq).trans (by rw [zel_0 h0])) (zcl_at hcl13) (zarg a 2).toNat g3 (zfl_ok hts hany) (fun x hx => by rw [f4] at hx; exact hx) ?_ hd kk
          rw [List.getElem?_map, List.getElem?_range g3]
          show some _ = some _
          congr 1
          dsimp only
          by_cases hk : zkd q.2.1 (zarg a 2).toNat = 1
          · rw [if_pos hk, if_pos hk]
          · rw [if_neg hk, if_neg hk, zcv_0, show ((v.2.toNat : Nat) : Int) = v.2 by omega, show (((zarg a 2).toNat : Nat) : Int) = zarg a 2 by omega]
        · cases hh
      · cases ho
    · cases ho
  · cases ho
theorem zup_val {S : List zSh} {M : zM} {k : Nat} {q : zSh} {i v : Int} (h : zval S M) (hq : S[k]? = some q) (h5 : q.1 ≠ 5 → -2147483648 ≤ v ∧ v ≤ 2147483647) (h5' : q.1 = 5 → v ≤ S.length) : zval S (zup M k i v) := by
  have hk : k < S.length := (List.getElem?_eq_some_iff.mp hq).1
  refine ⟨fun j q' hj => ?_, fun j q' hj hn z => ?_, fun j hj z => ?_⟩
  · obtain ⟨a1, a2, a3, a4⟩ := h.1 j q' hj
    refine ⟨a1, a2, a3, fun e => ⟨(a4 e).1, fun z => ?_⟩⟩
    by_cases hz : (j : Int) = k ∧ z = i
    · have e1 : j = k := by omega
      subst e1
      rw [hq] at hj
      cases hj
      unfold zup
      rw [if_pos hz]
      exact h5' e
    · unfold zup
      rw [if_neg hz]
      exact (a4 e).2 z
  · by_cases hz : (j : Int) = k ∧ z = i
    · have e1 : j = k := by omega
      subst e1
      rw [hq] at hj
      cases hj
      unfold zup
      rw [if_pos hz]
      exact h5 hn
    · unfold zup
      rw [if_neg hz]
      exact h.2.1 j q' hj hn z
  · unfold zup
    rw [if_neg (by omega)]
    exact h.2.2 j hj z
theorem zset_map {α : Type} {f g : Nat → α} {n k : Nat} {v : α} (hv : g k = v) (ho : ∀ j, j ≠ k → g j = f j) : ((List.range n).map f).set k v = (List.range n).map g := by
  apply List.ext_getElem?
  intro j
  by_cases hj : j = k
  · subst hj
    by_cases hn : j < n
    · rw [List.getElem?_set_self (by simpa using hn), List.getElem?_map, List.getElem?_range hn, ← hv]
      rfl
    · rw [List.getElem?_eq_none (by simp; omega), List.getElem?_eq_none (by simp; omega)]
  · rw [List.getElem?_set_ne (Ne.symm hj), List.getElem?_map, List.getElem?_map]
    by_cases hn : j < n
    · rw [List.getElem?_range hn]
      show some _ = some _
      rw [ho j hj]
    · rw [List.getElem?_eq_none (by simpa using hn)]
      rfl
theorem zw_fin : (List.range 13).all (fun c => (List.range (zN c)).all (fun k => decide (zkd c k = 1 → (zT c k).2.2.2 = true))) = true := by decide +kernel
theorem zfin_ok {c k : Nat} (hc : c < 13) (hk : k < zN c) (h : zkd c k = 1) : (zT c k).2.2.2 = true := of_decide_eq_true (List.all_eq_true.mp (List.all_eq_true.mp zw_fin c (List.mem_range.mpr hc)) k (List.mem_range.mpr hk)) h
theorem zw_fit : (List.range 13).all (fun c => (List.range (zN c)).all (fun k => decide (zkd c k = 1 → (match zTy c k with | .object _ => true | .array _ => true | _ => false) = true))) = true := by decide +kernel
theorem zfit_ok {c k : Nat} (hc : c < 13) (hk : k < zN c) (h : zkd c k = 1) (u : Nat) : narrow (zTy c k) (.ref u) = .ref u ∧ fits (zTy c k) (.ref u) = true := by
  have h2 := of_decide_eq_true (List.all_eq_true.mp (List.all_eq_true.mp zw_fit c (List.mem_range.mpr hc)) k (List.mem_range.mpr hk)) h
  cases hz : zTy c k with
  | object n => exact ⟨rfl, rfl⟩
  | array t => exact ⟨rfl, rfl⟩
  | _ => rw [hz] at h2; cases h2
theorem zk_putf : zOK 41 zo_putf zh_putf := by
  intro p l e R s m args below meth c Q D adK adV A nL k pcs S0 ad0 cA0 own cc x n i a ls st S M r F hd hp hn hh hm ho hc hs hG
  unfold zo_putf at ho
  split at ho
  · rename_i w v rr
    split at ho
    · rename_i q hq
      split at ho
      · rename_i hi
        obtain ⟨ht, h0, hcl⟩ := hi
        obtain ⟨hnn, hq⟩ := zsh_of hq
        unfold zh_putf at hh
        split at hh
        · rename_i kx
          simp only [Bool.and_eq_true, decide_eq_true_eq] at hh
          obtain ⟨⟨e1, hany⟩, g0, g1, g2, g3, g4⟩ := hh
          have hcn : (zarg a 1).toNat = q.2.1 := by omega
          rw [hcn] at hany g3 g4
          obtain ⟨hx, hb, hml, hown, hts, hroom, hA, hfin, -⟩ := F
          rw [zlen_of hn rfl] at hd hp
          have hcl13 : q.2.1 < 13 := by omega
          obtain ⟨f1, f2, f3, f4⟩ := zty_ok hcl13 g3
          by_cases hk : zarg a 3 = 1
          · rw [if_pos hk] at ho
            split at ho
            · rename_i hw
              obtain ⟨hw, hwl⟩ := hw
              cases ho
              have hf := hfin _ hm rfl hk
              dsimp only at hf
              have howner : own = q.2.1 := by omega
              rw [if_neg (by omega), howner] at hown
              have hkd : zkd q.2.1 (zarg a 2).toNat = 1 := by omega
              intro ad cA H locs als hag hS0 hZ0 hl hL hst hlk hok hR hS
              obtain ⟨hP, hD, hK, hV⟩ := id hR
              obtain ⟨ow, ov, orr⟩ := (List.forall_mem_cons.mp hok).imp_right List.forall_mem_cons.mp
              have hw1 := ow.1.2 hw
              have hlt : v.2.toNat < S.length := (List.getElem?_eq_some_iff.mp hq).1
              have hZ : zsetR S v.2 (zarg a 2).toNat w.2 = S.set v.2.toNat (q.1, q.2.1, q.2.2.set (zarg a 2).toNat w.2) := by
                unfold zsetR
                rw [hq]
              have hq1 : (S.set v.2.toNat (q.1, q.2.1, q.2.2.set (zarg a 2).toNat w.2))[v.2.toNat]? = some (q.1, q.2.1, q.2.2.set (zarg a 2).toNat w.2) := List.getElem?_set_self hlt
              have hoth : ∀ j q', (S.set v.2.toNat (q.1, q.2.1, q.2.2.set (zarg a 2).toNat w.2))[j]? = some q' → (j = v.2.toNat ∧ q' = (q.1, q.2.1, q.2.2.set (zarg a 2).toNat w.2)) ∨ (j ≠ v.2.toNat ∧ S[j]? = some q') := fun j q' h => by
                by_cases hj : j = v.2.toNat
                · subst hj
                  rw [hq1] at h
                  cases h
                  exact Or.inl ⟨rfl, rfl⟩
                · rw [List.getElem?_set_ne (Ne.symm hj)] at h
                  exact Or.inr ⟨hj, h⟩
              have hlen : (S.set v.2.toNat (q.1, q.2.1, q.2.2.set (zarg a 2).toNat w.2)).length = S.length := List.length_set
              have hsz : zsl (S.set v.2.toNat (q.1, q.2.1, q.2.2.set (zarg a 2).toNat w.2)) = zsl S := by
                unfold zsl
                congr 1
                apply List.ext_getElem?
                intro j
                rw [List.getElem?_map, List.getElem?_map]
                by_cases hj : j = v.2.toNat
                · subst hj
                  rw [hq1, hq]
                  rfl
                · rw [List.getElem?_set_ne (Ne.symm hj)]
              have hset : ((List.range (zN q.2.1)).map (fun j => if zkd q.2.1 j = 1 then zcv adK ad (zrf (q.2.2.getD j (-1))) else .int (Int32.ofInt (M v.2.toNat j)))).set (zarg a 2).toNat (.ref (ad w.2.toNat)) = (List.range (zN q.2.1)).map (fun j => if zkd q.2.1 j = 1 then zcv adK ad (zrf ((q.2.2.set (zarg a 2).toNat w.2).getD j (-1))) else .int (Int32.ofInt (M v.2.toNat j))) := by
                apply zset_map
                · rw [if_pos hkd]
                  have e : (q.2.2.set (zarg a 2).toNat w.2).getD (zarg a 2).toNat (-1) = w.2 := by simp [List.getD, List.getElem?_set_self hwl]
                  rw [e, zcv_rf, if_neg (by omega)]
                  rfl
                · intro j hj
                  have e : (q.2.2.set (zarg a 2).toNat w.2).getD j (-1) = q.2.2.getD j (-1) := by simp [List.getD, List.getElem?_set_ne (Ne.symm hj)]
                  rw [e]
              have hws : (zws adK ad cA S M).set v.2.toNat (ad v.2.toNat, .inr (q.2.1, (List.range (zN q.2.1)).map (fun j => if zkd q.2.1 j = 1 then zcv adK ad (zrf ((q.2.2.set (zarg a 2).toNat w.2).getD j (-1))) else .int (Int32.ofInt (M v.2.toNat j))))) = zws adK ad cA (S.set v.2.toNat (q.1, q.2.1, q.2.2.set (zarg a 2).toNat w.2)) M := by
                apply List.ext_getElem?
                intro j
                by_cases hj : j = v.2.toNat
                · subst hj
                  rw [List.getElem?_set_self (by rw [zws_len]; exact hlt), zws_at hq1, zel_0 (show (q.1, q.2.1, q.2.2.set (zarg a 2).toNat w.2).1 = 0 from h0)]
                · rw [List.getElem?_set_ne (Ne.symm hj)]
                  cases hqj : S[j]? with
                  | none =>
                    have hl : S.length ≤ j := by simpa using hqj
                    rw [List.getElem?_eq_none (by rw [zws_len]; exact hl), List.getElem?_eq_none (by rw [zws_len, hlen]; exact hl)]
                  | some q' => rw [zws_at hqj, zws_at (by rw [List.getElem?_set_ne (Ne.symm hj)]; exact hqj)]
              have hnm : (zT q.2.1 (zarg a 2).toNat).2.2.2 = true := zfin_ok hcl13 g3 hkd
              have hty : ∀ u : Nat, narrow (zTy q.2.1 (zarg a 2).toNat) (.ref u) = .ref u ∧ fits (zTy q.2.1 (zarg a 2).toNat) (.ref u) = true := zfit_ok hcl13 g3 hkd
              rw [List.map_cons, List.map_cons, zcv_r ht, zcv_r hw]
              refine va_putF (T := zT q.2.1) (N := zN q.2.1) (ci := q.2.1) (ref := zC q.2.1) (C := zC q.2.1) (ty := zTy q.2.1 (zarg a 2).toNat) hx hb hts (zin_ws hcl13) (zTy q.2.1) (fun k hk => (zty_ok hcl13 hk).1) (znm_ok hcl13) hown hK.1 hP hD hS v.2.toNat ((zws_at hq).trans (by rw [zel_0 h0])) (zcl_at hcl13) (zarg a 2).toNat g3 (by have := zfl_ok (args := args) hts hany; rw [if_neg (by omega), howner] at this; exact this) (fun x hx => by rw [f4] at hx; exact hx) hnm hf.1 f4 f1 (hty _).1 (hty _).2 (by rw [List.length_map, List.length_range]; exact g3) hd (fun H1 locs1 hP1 hD1 hS1 => ?_)
              rw [hset, hws] at hP1 hD1
              dsimp only at hG
              rw [hZ] at hG
              have kk := hG ad cA H1 locs1 als hag (by rw [hlen]; exact hS0) (by rw [hsz]; exact hZ0) hl hL hst (by rw [hlen]; exact hlk) (by rw [hlen]; exact orr) ⟨hP1, hD1, ⟨hK.1, fun j q' hj hn => by
                rcases hoth j q' hj with ⟨-, rfl⟩ | ⟨-, h⟩
                · exact absurd h0 hn
                · exact hK.2 j q' h hn⟩, by
                refine ⟨fun j q' hj => ?_, fun j q' hj hn z => ?_, fun j hj z => hV.2.2 j (by rw [hlen] at hj; exact hj) z⟩
                · rw [hlen]
                  rcases hoth j q' hj with ⟨-, rfl⟩ | ⟨-, h⟩
                  · obtain ⟨a1, a2, a3, a4⟩ := hV.1 _ q hq
                    refine ⟨a1, fun z => ⟨(a2 h0).1, by rw [List.length_set]; exact (a2 h0).2.1, fun j => ?_⟩, fun z => absurd (h0.symm.trans z) (by decide), fun z => absurd (h0.symm.trans z) (by decide)⟩
                    show (q.2.2.set (zarg a 2).toNat w.2).getD j (-1) < _
                    by_cases hj2 : j = (zarg a 2).toNat
                    · subst hj2
                      have e : (q.2.2.set (zarg a 2).toNat w.2).getD (zarg a 2).toNat (-1) = w.2 := by simp [List.getD, List.getElem?_set_self hwl]
                      rw [e]
                      exact hw1.2
                    · have e : (q.2.2.set (zarg a 2).toNat w.2).getD j (-1) = q.2.2.getD j (-1) := by simp [List.getD, List.getElem?_set_ne (Ne.symm hj2)]
                      rw [e]
                      exact (a2 h0).2.2 j
                  · exact hV.1 j q' h
                · rcases hoth j q' hj with ⟨rfl, rfl⟩ | ⟨-, h⟩
                  · exact hV.2.1 _ q hq hn z
                  · exact hV.2.1 j q' h hn z⟩ hS1
              rw [hp, hlen, hsz] at kk
              exact kk
            · cases ho
          · rw [if_neg hk] at ho
            split at ho
            · rename_i hw
              obtain ⟨hw, hbool⟩ := hw
              cases ho
              intro ad cA H locs als hag hS0 hZ0 hl hL hst hlk hok hR hS
              obtain ⟨hP, hD, hK, hV⟩ := id hR
              obtain ⟨ow, ov, orr⟩ := (List.forall_mem_cons.mp hok).imp_right List.forall_mem_cons.mp
              have rw' := ow.1.1 (Or.inl hw)
              have hkd : zkd q.2.1 (zarg a 2).toNat ≠ 1 := by omega
              have hnf : (zT q.2.1 (zarg a 2).toNat).2.2.2 = false := by
                cases hz : (zT q.2.1 (zarg a 2).toNat).2.2.2 with
                | false => rfl
                | true => exact absurd (f3 hz) hkd
              have hv2 : ((v.2.toNat : Nat) : Int) = v.2 := by omega
              have ha2 : (((zarg a 2).toNat : Nat) : Int) = zarg a 2 := by omega
              have hset : ((List.range (zN q.2.1)).map (fun j => if zkd q.2.1 j = 1 then zcv adK ad (zrf (q.2.2.getD j (-1))) else .int (Int32.ofInt (M v.2.toNat j)))).set (zarg a 2).toNat (.int (Int32.ofInt w.2)) = (List.range (zN q.2.1)).map (fun j => if zkd q.2.1 j = 1 then zcv adK ad (zrf (q.2.2.getD j (-1))) else .int (Int32.ofInt (zup M v.2.toNat (zarg a 2) w.2 v.2.toNat j))) := by
                apply zset_map
                · rw [if_neg hkd, ha2, zup_eq]
                · intro j hj
                  rw [zup_ni (by omega)]
              have hty : zTy q.2.1 (zarg a 2).toNat = .int ∨ zTy q.2.1 (zarg a 2).toNat = .boolean ∧ zarg a 3 = 2 := by
                cases hz : zTy q.2.1 (zarg a 2).toNat with
                | int => exact Or.inl rfl
                | boolean => rw [hz] at f2; dsimp only at f2; exact Or.inr ⟨rfl, by omega⟩
                | _ => rw [hz] at f2; exact absurd f2 hkd
              have hnar : narrow (zTy q.2.1 (zarg a 2).toNat) (.int (Int32.ofInt w.2)) = .int (Int32.ofInt w.2) ∧ fits (zTy q.2.1 (zarg a 2).toNat) (.int (Int32.ofInt w.2)) = true := by
                rcases hty with hz | ⟨hz, h2⟩
                · rw [hz]; exact ⟨rfl, rfl⟩
                · rw [hz]
                  rcases hbool h2 with h | h <;> rw [h] <;> exact ⟨rfl, rfl⟩
              rw [List.map_cons, List.map_cons, zcv_r ht, zcv_i hw]
              refine va_put (T := zT q.2.1) (N := zN q.2.1) (ci := q.2.1) (ref := zC q.2.1) (C := zC q.2.1) (ty := zTy q.2.1 (zarg a 2).toNat) hx hb hts (zin_ws hcl13) (zTy q.2.1) (fun k hk => (zty_ok hcl13 hk).1) (znm_ok hcl13) hown hK.1 hP hD hS v.2.toNat ((zws_at hq).trans (by rw [zel_0 h0])) (zcl_at hcl13) (zarg a 2).toNat g3 (zfl_ok hts hany) (fun x hx => by rw [f4] at hx; exact hx) hnf f1 hnar.1 hnar.2 (by rw [List.length_map, List.length_range]; exact g3) hd (fun H1 locs1 hP1 hD1 hS1 => ?_)
              rw [hset] at hP1 hD1
              rw [zws_set hq (zel_0 h0)] at hP1 hD1
              have hM : zup M v.2.toNat (zarg a 2) w.2 = zup M v.2 (zarg a 2) w.2 := by rw [hv2]
              have hV1 := zup_val (i := zarg a 2) (v := w.2) hV hq (fun _ => rw') (fun z => by omega)
              rw [hM] at hP1 hD1 hV1
              have kk := hG ad cA H1 locs1 als hag hS0 hZ0 hl hL hst hlk orr ⟨hP1, hD1, hK, hV1⟩ hS1
              rw [hp] at kk
              exact kk
            · cases ho
        · cases hh
      · cases ho
    · cases ho
  · cases ho
theorem zk_iald : zOK 42 zo_iald (zh_is .iaload) := by
  intro p l e R s m args below meth c Q D adK adV A nL k pcs S0 ad0 cA0 own cc x n i a ls st S M r F hd hp hn hh hm ho hc hs hG
  unfold zo_iald at ho
  split at ho
  · rename_i w v rr
    split at ho
    · rename_i q hq
      split at ho
      · rename_i hi
        obtain ⟨⟨hw, hv, h1⟩, hr0, hr1⟩ := hi
        obtain ⟨hnn, hq⟩ := zsh_of hq
        cases ho
        intro ad cA H locs als hag hS0 hZ0 hl hL hst hlk hok hR hS
        have e := of_decide_eq_true hh
        subst e
        obtain ⟨hx, hb, -⟩ := F
        rw [zlen_of hn rfl] at hd hp
        obtain ⟨hP, hD, hK, hV⟩ := id hR
        obtain ⟨ow, ov, orr⟩ := (List.forall_mem_cons.mp hok).imp_right List.forall_mem_cons.mp
        have rw' := ow.1.1 (Or.inl hw)
        have hval := hV.2.1 _ _ hq (by omega) w.2
        rw [show ((v.2.toNat : Nat) : Int) = v.2 by omega] at hval
        have kk := hG ad cA H locs als hag hS0 hZ0 hl hL hst hlk (List.forall_mem_cons.mpr ⟨zint hval, orr⟩) hR hS
        rw [hp, List.map_cons, zcv_0] at kk
        rw [List.map_cons, List.map_cons, zcv_r hv, zcv_i hw]
        have hK1 := hK.one hq (by omega)
        rw [zaty_1 h1] at hK1
        refine va_iald hx hb hK1 hP v.2.toNat 0 ((zws_at hq).trans (by rw [zel_a (Or.inl h1)])) rfl (zi_in ⟨hr0, hr1⟩ rw'.2) hd ?_
        rw [zi_nat ⟨hr0, rw'.2⟩, show ((w.2.toNat : Nat) : Int) = w.2 by omega, show ((v.2.toNat : Nat) : Int) = v.2 by omega]
        exact kk
      · cases ho
    · cases ho
  · cases ho
theorem zk_bald : zOK 43 zo_bald (zh_is .baload) := by
  intro p l e R s m args below meth c Q D adK adV A nL k pcs S0 ad0 cA0 own cc x n i a ls st S M r F hd hp hn hh hm ho hc hs hG
  unfold zo_bald at ho
  split at ho
  · rename_i w v rr
    split at ho
    · rename_i q hq
      split at ho
      · rename_i hi
        obtain ⟨⟨hw, hv, h1⟩, hr0, hr1⟩ := hi
        obtain ⟨hnn, hq⟩ := zsh_of hq
        cases ho
        intro ad cA H locs als hag hS0 hZ0 hl hL hst hlk hok hR hS
        have e := of_decide_eq_true hh
        subst e
        obtain ⟨hx, hb, -⟩ := F
        rw [zlen_of hn rfl] at hd hp
        obtain ⟨hP, hD, hK, hV⟩ := id hR
        obtain ⟨ow, ov, orr⟩ := (List.forall_mem_cons.mp hok).imp_right List.forall_mem_cons.mp
        have rw' := ow.1.1 (Or.inl hw)
        have hval := hV.2.1 _ _ hq (by omega) w.2
        rw [show ((v.2.toNat : Nat) : Int) = v.2 by omega] at hval
        have kk := hG ad cA H locs als hag hS0 hZ0 hl hL hst hlk (List.forall_mem_cons.mpr ⟨zint hval, orr⟩) hR hS
        rw [hp, List.map_cons, zcv_0] at kk
        rw [List.map_cons, List.map_cons, zcv_r hv, zcv_i hw]
        have hK1 := hK.one hq (by omega)
        rcases h1 with h1 | h1
        · rw [zaty_2 h1] at hK1
          refine va_bald hx hb hK1 hP v.2.toNat 0 ((zws_at hq).trans (by rw [zel_a (Or.inr (Or.inl h1))])) rfl (zi_in ⟨hr0, hr1⟩ rw'.2) hd ?_
          rw [zi_nat ⟨hr0, rw'.2⟩, show ((w.2.toNat : Nat) : Int) = w.2 by omega, show ((v.2.toNat : Nat) : Int) = v.2 by omega]
          exact kk
        · rw [zaty_3 h1] at hK1
          refine va_zald hx hb hK1 hP v.2.toNat 0 ((zws_at hq).trans (by rw [zel_a (Or.inr (Or.inr h1))])) rfl (zi_in ⟨hr0, hr1⟩ rw'.2) hd ?_
          rw [zi_nat ⟨hr0, rw'.2⟩, show ((w.2.toNat : Nat) : Int) = w.2 by omega, show ((v.2.toNat : Nat) : Int) = v.2 by omega]
          exact kk
      · cases ho
    · cases ho
  · cases ho
theorem zk_aald : zOK 44 zo_aald (zh_is .aaload) := by
  intro p l e R s m args below meth c Q D adK adV A nL k pcs S0 ad0 cA0 own cc x n i a ls st S M r F hd hp hn hh hm ho hc hs hG
  unfold zo_aald at ho
  split at ho
  · rename_i w v rr
    split at ho
    · rename_i q hq
      split at ho
      · rename_i hi
        obtain ⟨⟨hw, hv, h1⟩, hr0, hr1⟩ := hi
        obtain ⟨hnn, hq⟩ := zsh_of hq
        cases ho
        intro ad cA H locs als hag hS0 hZ0 hl hL hst hlk hok hR hS
        have e := of_decide_eq_true hh
        subst e
        obtain ⟨hx, hb, -⟩ := F
        rw [zlen_of hn rfl] at hd hp
        obtain ⟨hP, hD, hK, hV⟩ := id hR
        obtain ⟨ow, ov, orr⟩ := (List.forall_mem_cons.mp hok).imp_right List.forall_mem_cons.mp
        have rw' := ow.1.1 (Or.inl hw)
        obtain ⟨z0, z1, z2, z3⟩ := hV.1 _ _ hq
        have hr : zok S.length (if q.1 = 4 then (1, q.2.2.getD 0 0 + w.2) else zrf (M v.2 w.2 - 1)) ∧ (if q.1 = 4 then (1, q.2.2.getD 0 0 + w.2) else zrf (M v.2 w.2 - 1) : zV).1 ≠ 3 := by
          by_cases h4 : q.1 = 4
          · rw [if_pos h4]
            have := z2 h4
            exact ⟨⟨fun z => by rcases z with z | z; exact absurd z (by decide : (1 : Nat) ≠ 0); exact absurd z (by decide : (1 : Nat) ≠ 2), fun _ => ⟨by show 0 ≤ q.2.2.getD 0 0 + w.2; omega, by show q.2.2.getD 0 0 + w.2 < _; omega⟩⟩, (by decide : (1 : Nat) ≠ 3)⟩
          · rw [if_neg h4]
            have := (z3 (by omega)).2 w.2
            rw [show ((v.2.toNat : Nat) : Int) = v.2 by omega] at this
            exact zrf_ok (by omega)
        have kk := hG ad cA H locs als hag hS0 hZ0 hl hL hst hlk (List.forall_mem_cons.mpr ⟨hr, orr⟩) hR hS
        rw [hp, List.map_cons] at kk
        rw [List.map_cons, List.map_cons, zcv_r hv, zcv_i hw]
        have hKo := hK.2 _ q hq (by omega)
        have hin := zi_in ⟨hr0, hr1⟩ rw'.2
        have hlt : (Int32.ofInt w.2).toNatClampNeg < q.2.1 := Nat.not_le.mp fun z => hin (Or.inr z)
        by_cases h4 : q.1 = 4
        · rw [if_pos h4, zcv_1] at kk
          have hc := hP v.2.toNat _ (zws_at hq)
          rw [zel_4 h4] at hc
          have hc2 : H[ad v.2.toNat]? = some (vp_cell (cA v.2.toNat) (q.2.1, .inr (.inr (.inr (.inr (fun j => if j < q.2.1 then some (ad (q.2.2.getD 0 0 + j).toNat) else none)))))) := hc
          rw [vp_cell_q] at hc2
          refine W.aald (v := .ref (ad (q.2.2.getD 0 0 + w.2).toNat)) (ty := zaty q) hx hb hc2 (hKo.1 _ _) (by rw [zaty_4 h4]; rfl) (fun z => by cases z) (by show ¬ (_ ∨ (arrV _ _ _).slots.size ≤ _); rw [arrV_size]; exact hin) (by
            show (arrV _ _ _).slots[_]? = _
            rw [arrV_read _ _ hlt]
            rw [if_pos hlt, zi_nat ⟨hr0, rw'.2⟩, show ((w.2.toNat : Nat) : Int) = w.2 by omega]
            rfl) rfl rfl hd kk
        · have h5 : q.1 = 5 := by omega
          rw [if_neg h4, zcv_rf] at kk
          have hc := hP v.2.toNat _ (zws_at hq)
          rw [zel_5 h5] at hc
          have hc2 : H[ad v.2.toNat]? = some (vp_cell (cA v.2.toNat) (q.2.1, .inr (.inr (.inr (.inr (fun j => if M v.2.toNat j ≤ 0 then none else some (ad (M v.2.toNat j - 1).toNat))))))) := hc
          rw [vp_cell_q] at hc2
          refine W.aald (ty := zaty q) hx hb hc2 (hKo.1 _ _) (by rw [zaty_5 h5]; rfl) (fun z => by cases z) (by show ¬ (_ ∨ (arrV _ _ _).slots.size ≤ _); rw [arrV_size]; exact hin) (by
            show (arrV _ _ _).slots[_]? = _
            rw [arrV_read _ _ hlt]
            rw [zi_nat ⟨hr0, rw'.2⟩, show ((w.2.toNat : Nat) : Int) = w.2 by omega, show ((v.2.toNat : Nat) : Int) = v.2 by omega]
            congr 3
            exact propext (by omega)) rfl rfl hd kk
      · cases ho
    · cases ho
  · cases ho
theorem zk_iast : zOK 45 zo_iast (zh_is .iastore) := by
  intro p l e R s m args below meth c Q D adK adV A nL k pcs S0 ad0 cA0 own cc x n i a ls st S M r F hd hp hn hh hm ho hc hs hG
  unfold zo_iast at ho
  split at ho
  · rename_i u w v rr
    split at ho
    · rename_i q hq
      split at ho
      · rename_i hi
        obtain ⟨⟨hu, hw, hv, h1⟩, hr0, hr1⟩ := hi
        obtain ⟨hnn, hq⟩ := zsh_of hq
        cases ho
        intro ad cA H locs als hag hS0 hZ0 hl hL hst hlk hok hR hS
        have e := of_decide_eq_true hh
        subst e
        obtain ⟨hx, hb, -⟩ := F
        rw [zlen_of hn rfl] at hd hp
        obtain ⟨hP, hD, hK, hV⟩ := id hR
        obtain ⟨ou, ow, ov, orr⟩ := (List.forall_mem_cons.mp hok).imp_right (fun z => (List.forall_mem_cons.mp z).imp_right List.forall_mem_cons.mp)
        have rw' := ow.1.1 (Or.inl hw)
        have ru' := ou.1.1 (Or.inl hu)
        have hK1 := hK.one hq (by omega)
        rw [zaty_1 h1] at hK1
        simp only [List.map_cons]
        rw [zcv_r hv, zcv_i hw, zcv_i hu]
        refine va_iast hx hb hK1 hP hD hS v.2.toNat 0 ((zws_at hq).trans (by rw [zel_a (Or.inl h1)])) rfl (zi_in ⟨hr0, hr1⟩ rw'.2) hd (fun H1 locs1 hP1 hD1 hS1 => ?_)
        have hM : zup M v.2.toNat w.2 u.2 = zup M v.2 w.2 u.2 := by rw [show ((v.2.toNat : Nat) : Int) = v.2 by omega]
        have hx1 : zel adK ad cA (zup M v.2.toNat w.2 u.2) v.2.toNat q = .inl (cA v.2.toNat, q.2.1, .inl (upd (fun j => Int32.ofInt (M v.2.toNat j)) (Int32.ofInt w.2).toNatClampNeg (Int32.ofInt u.2))) := by
          rw [zel_a (Or.inl h1), zi_nat ⟨hr0, rw'.2⟩]
          congr 4
          funext j
          unfold upd
          by_cases hj : j = w.2.toNat
          · rw [if_pos hj, hj, show ((w.2.toNat : Nat) : Int) = w.2 by omega, zup_eq]
          · rw [if_neg hj, zup_ni (by omega)]
        rw [zws_set hq hx1] at hP1 hD1
        have hV1 := zup_val (i := w.2) (v := u.2) hV hq (fun _ => ru') (fun z => by omega)
        rw [hM] at hP1 hD1 hV1
        have kk := hG ad cA H1 locs1 als hag hS0 hZ0 hl hL hst hlk orr ⟨hP1, hD1, hK, hV1⟩ hS1
        rw [hp] at kk
        exact kk
      · cases ho
    · cases ho
  · cases ho
theorem zk_bast : zOK 46 zo_bast (zh_is .bastore) := by
  intro p l e R s m args below meth c Q D adK adV A nL k pcs S0 ad0 cA0 own cc x n i a ls st S M r F hd hp hn hh hm ho hc hs hG
  unfold zo_bast at ho
  split at ho
  · rename_i u w v rr
    split at ho
    · rename_i q hq
      split at ho
      · rename_i hi
        obtain ⟨⟨hu, hw, hv, h1⟩, hr0, hr1⟩ := hi
        obtain ⟨hnn, hq⟩ := zsh_of hq
        cases ho
        intro ad cA H locs als hag hS0 hZ0 hl hL hst hlk hok hR hS
        have e := of_decide_eq_true hh
        subst e
        obtain ⟨hx, hb, -⟩ := F
        rw [zlen_of hn rfl] at hd hp
        obtain ⟨hP, hD, hK, hV⟩ := id hR
        obtain ⟨ou, ow, ov, orr⟩ := (List.forall_mem_cons.mp hok).imp_right (fun z => (List.forall_mem_cons.mp z).imp_right List.forall_mem_cons.mp)
        have rw' := ow.1.1 (Or.inl hw)
        have ru' := ou.1.1 (Or.inl hu)
        have hM : zup M v.2.toNat w.2 u.2 = zup M v.2 w.2 u.2 := by rw [show ((v.2.toNat : Nat) : Int) = v.2 by omega]
        have ht : q.1 = 2 ∨ q.1 = 3 := by omega
        have hx1 : zel adK ad cA (zup M v.2.toNat w.2 u.2) v.2.toNat q = .inl (cA v.2.toNat, q.2.1, .inl (upd (fun j => Int32.ofInt (M v.2.toNat j)) (Int32.ofInt w.2).toNatClampNeg (Int32.ofInt u.2))) := by
          rw [zel_a (Or.inr ht), zi_nat ⟨hr0, rw'.2⟩]
          congr 4
          funext j
          unfold upd
          by_cases hj : j = w.2.toNat
          · rw [if_pos hj, hj, show ((w.2.toNat : Nat) : Int) = w.2 by omega, zup_eq]
          · rw [if_neg hj, zup_ni (by omega)]
        have hV1 := zup_val (i := w.2) (v := u.2) hV hq (fun _ => ru') (fun z => by omega)
        have hK1 := hK.one hq (by omega)
        simp only [List.map_cons]
        rw [zcv_r hv, zcv_i hw, zcv_i hu]
        rcases h1 with ⟨h1, hb1⟩ | ⟨h1, hb1⟩
        · rw [zaty_2 h1] at hK1
          refine va_bast hx hb hK1 hP hD hS v.2.toNat 0 ((zws_at hq).trans (by rw [zel_a (Or.inr ht)])) rfl (zi_in ⟨hr0, hr1⟩ rw'.2) hd (fun H1 locs1 hP1 hD1 hS1 => ?_)
          have en : vp_nar .byte (Int32.ofInt u.2) = Int32.ofInt u.2 := by
            show (Int32.ofInt u.2).toInt8.toInt32 = _
            rw [(zi_by u.2).1]
            congr 1
            unfold zbyte
            omega
          rw [en, zws_set hq hx1] at hP1 hD1
          rw [hM] at hP1 hD1 hV1
          have kk := hG ad cA H1 locs1 als hag hS0 hZ0 hl hL hst hlk orr ⟨hP1, hD1, hK, hV1⟩ hS1
          rw [hp] at kk
          exact kk
        · rw [zaty_3 h1] at hK1
          refine va_zast hx hb hK1 hP hD hS v.2.toNat 0 ((zws_at hq).trans (by rw [zel_a (Or.inr ht)])) rfl (zi_in ⟨hr0, hr1⟩ rw'.2) hd (fun H1 locs1 hP1 hD1 hS1 => ?_)
          have en : vp_nar .boolean (Int32.ofInt u.2) = Int32.ofInt u.2 := by
            rcases hb1 with h | h <;> rw [h] <;> rfl
          rw [en, zws_set hq hx1] at hP1 hD1
          rw [hM] at hP1 hD1 hV1
          have kk := hG ad cA H1 locs1 als hag hS0 hZ0 hl hL hst hlk orr ⟨hP1, hD1, hK, hV1⟩ hS1
          rw [hp] at kk
          exact kk
      · cases ho
    · cases ho
  · cases ho
theorem zk_aast : zOK 47 zo_aast (zh_is .aastore) := by
  intro p l e R s m args below meth c Q D adK adV A nL k pcs S0 ad0 cA0 own cc x n i a ls st S M r F hd hp hn hh hm ho hc hs hG
  unfold zo_aast at ho
  split at ho
  · rename_i u w v rr
    split at ho
    · rename_i q hq
      split at ho
      · rename_i o hoo
        split at ho
        · rename_i hi
          obtain ⟨⟨hu, hw, hv, h1, h0, hcl⟩, hr0, hr1⟩ := hi
          obtain ⟨hnn, hq⟩ := zsh_of hq
          obtain ⟨hnu, hoo⟩ := zsh_of hoo
          cases ho
          intro ad cA H locs als hag hS0 hZ0 hl hL hst hlk hok hR hS
          have e := of_decide_eq_true hh
          subst e
          obtain ⟨hx, hb, -⟩ := F
          rw [zlen_of hn rfl] at hd hp
          obtain ⟨hP, hD, hK, hV⟩ := id hR
          obtain ⟨ou, ow, ov, orr⟩ := (List.forall_mem_cons.mp hok).imp_right (fun z => (List.forall_mem_cons.mp z).imp_right List.forall_mem_cons.mp)
          have rw' := ow.1.1 (Or.inl hw)
          have ru' := ou.1.2 hu
          have hM : zup M v.2.toNat w.2 (u.2 + 1) = zup M v.2 w.2 (u.2 + 1) := by rw [show ((v.2.toNat : Nat) : Int) = v.2 by omega]
          have hx1 : zel adK ad cA (zup M v.2.toNat w.2 (u.2 + 1)) v.2.toNat q = .inl (cA v.2.toNat, q.2.1, .inr (.inr (.inr (.inr (va_up (fun j => if M v.2.toNat j ≤ 0 then none else some (ad (M v.2.toNat j - 1).toNat)) (Int32.ofInt w.2).toNatClampNeg (some (ad u.2.toNat))))))) := by
            rw [zel_5 h1, zi_nat ⟨hr0, rw'.2⟩]
            congr 7
            funext j
            unfold va_up
            by_cases hj : j = w.2.toNat
            · rw [if_pos hj, hj, show ((w.2.toNat : Nat) : Int) = w.2 by omega, zup_eq, if_neg (by omega), show u.2 + 1 - 1 = u.2 by omega]
            · rw [if_neg hj, zup_ni (by omega)]
          have hV1 := zup_val (i := w.2) (v := u.2 + 1) hV hq (fun z => absurd h1 z) (fun _ => by omega)
          have hK1 := hK.one hq (by omega)
          have hc13 : o.2.1 < 13 := ((hV.1 _ o hoo).2.1 h0).1
          rw [zaty_5 h1, hcl, show ((o.2.1 : Int)).toNat = o.2.1 by omega] at hK1
          simp only [List.map_cons]
          rw [zcv_r hv, zcv_i hw, zcv_r hu]
          refine va_astq (r := (zC o.2.1, zT o.2.1, zN o.2.1)) hx hb hK1 hP hD hS v.2.toNat 0 u.2.toNat o.2.1 ((zws_at hq).trans (by rw [zel_5 h1])) rfl ((zws_at hoo).trans (by rw [zel_0 h0])) (zcl_at hc13) (zi_in ⟨hr0, hr1⟩ rw'.2) hd (fun H1 locs1 hP1 hD1 hS1 => ?_)
          rw [zws_set hq hx1] at hP1 hD1
          rw [hM] at hP1 hD1 hV1
          have kk := hG ad cA H1 locs1 als hag hS0 hZ0 hl hL hst hlk orr ⟨hP1, hD1, hK, hV1⟩ hS1
          rw [hp] at kk
          exact kk
        · cases ho
      · cases ho
    · cases ho
  · cases ho
theorem zk_alen : zOK 48 zo_alen (zh_is .arraylength) := by
  intro p l e R s m args below meth c Q D adK adV A nL k pcs S0 ad0 cA0 own cc x n i a ls st S M r F hd hp hn hh hm ho hc hs hG
  unfold zo_alen at ho
  split at ho
  · rename_i v rr
    split at ho
    · rename_i q hq
      split at ho
      · rename_i hi
        obtain ⟨hnn, hq⟩ := zsh_of hq
        cases ho
        intro ad cA H locs als hag hS0 hZ0 hl hL hst hlk hok hR hS
        have e := of_decide_eq_true hh
        subst e
        obtain ⟨hx, hb, -⟩ := F
        rw [zlen_of hn rfl] at hd hp
        obtain ⟨hP, hD, hK, hV⟩ := id hR
        obtain ⟨ov, orr⟩ := List.forall_mem_cons.mp hok
        have hz := (hV.1 _ q hq).1.2
        have kk := hG ad cA H locs als hag hS0 hZ0 hl hL hst hlk (List.forall_mem_cons.mpr ⟨zint (by omega), orr⟩) hR hS
        rw [hp, List.map_cons, zcv_0] at kk
        rw [List.map_cons, zcv_r hi.1]
        have hK1 := hK.one hq (by omega)
        exact va_alen hx hb hK1 hP v.2.toNat 0 ((zws_at hq).trans (by rw [zel_a (Or.inl hi.2)])) rfl (by rw [Int32.ofInt_eq_ofNat]) hd kk
      · cases ho
    · cases ho
  · cases ho
theorem zcat_sum {adK ad : Nat → Nat} : ∀ (r : List zV), r.length ≤ 4 → ((r.map (zcv adK ad)).map fun v => v.category).sum ≤ 8
  | [], _ => by simp
  | [a], _ => by have := zcv_cat2 (adK := adK) (ad := ad) a; simp; omega
  | [a, b], _ => by have := zcv_cat2 (adK := adK) (ad := ad) a; have := zcv_cat2 (adK := adK) (ad := ad) b; simp; omega
  | [a, b, c], _ => by have := zcv_cat2 (adK := adK) (ad := ad) a; have := zcv_cat2 (adK := adK) (ad := ad) b; have := zcv_cat2 (adK := adK) (ad := ad) c; simp; omega
  | [a, b, c, d], _ => by have := zcv_cat2 (adK := adK) (ad := ad) a; have := zcv_cat2 (adK := adK) (ad := ad) b; have := zcv_cat2 (adK := adK) (ad := ad) c; have := zcv_cat2 (adK := adK) (ad := ad) d; simp; omega
  | _ :: _ :: _ :: _ :: _ :: _, h => by simp at h
theorem zol_ok {op own k : Nat} {s : State} {args : Array Value} (hts : ∀ w ∈ zTb, w.before args s = true) (h52 : op ≠ 52) (h : zOl.any (fun e => e.1 == op && (e.2.1 == own && e.2.2.1 == k)) = true) : (Cond.methodLink (zC own) k (if op = 53 then objectInit else if op = 54 then arraycopyName else if op = 55 then Lib.Math.min.name else if op = 56 then Lib.Math.abs.name else if op = 58 then ⟨"java/lang/String", "length", "()I"⟩ else ⟨"java/lang/String", "charAt", "(I)C"⟩)).before args s = true := by
  obtain ⟨q, hq, he⟩ := List.any_eq_true.mp h
  simp only [Bool.and_eq_true, beq_iff_eq] at he
  obtain ⟨e1, e2, e3⟩ := he
  have hw := of_decide_eq_true (List.all_eq_true.mp zw_ol q hq)
  rw [e1, e2, e3, if_neg h52] at hw
  exact zTb_at hts hw rfl
theorem zol_13 : ∀ e ∈ zOl, e.2.1 < 13 := by decide +kernel
theorem zol_lt {op own k : Nat} (h : zOl.any (fun e => e.1 == op && (e.2.1 == own && e.2.2.1 == k)) = true) : own < 13 := by
  obtain ⟨q, hq, he⟩ := List.any_eq_true.mp h
  simp only [Bool.and_eq_true, beq_iff_eq] at he
  have := zol_13 q hq
  omega
theorem zk_obj : zOK 53 zo_obj zh_obj := by
  intro p l e R s m args below meth c Q D adK adV A nL k pcs S0 ad0 cA0 own cc x n i a ls st S M r F hd hp hn hh hm ho hc hs hG
  unfold zo_obj at ho
  split at ho
  · rename_i v rr
    split at ho
    · rename_i hi
      cases ho
      intro ad cA H locs als hag hS0 hZ0 hl hL hst hlk hok hR hS
      unfold zh_obj at hh
      split at hh
      · rename_i kx
        simp only [Bool.and_eq_true, decide_eq_true_eq] at hh
        obtain ⟨e1, hany⟩ := hh
        have h13 := zol_lt hany
        obtain ⟨hx, hb, hml, hown, hts, hroom, -⟩ := F
        rw [if_neg (by omega)] at hown
        rw [zlen_of hn rfl] at hd hp
        have kk := hG ad cA H locs als hag hS0 hZ0 hl hL hst hlk (List.forall_mem_cons.mp hok).2 hR hS
        rw [hp] at kk
        rw [List.map_cons, zcv_r hi.1]
        exact W.objInit (R := R) hx hb hown (zol_ok hts (by decide) hany) (zTb_at hts zwx_objI rfl) (zTb_at hts zwx_objC rfl) rfl (by rw [hml]; exact hl.1) rfl hd hroom.1 (by have := zcat_sum (adK := adK) (ad := ad) rr hi.2; show 2 * 0 + _ + 12 ≤ _; omega) kk
      · cases hh
    · cases ho
  · cases ho
theorem zk_min : zOK 55 zo_min (zh_st 55) := by
  intro p l e R s m args below meth c Q D adK adV A nL k pcs S0 ad0 cA0 own cc x n i a ls st S M r F hd hp hn hh hm ho hc hs hG
  unfold zo_min at ho
  split at ho
  · rename_i w v rr
    split at ho
    · rename_i hi
      obtain ⟨hw, hv, h4⟩ := hi
      cases ho
      intro ad cA H locs als hag hS0 hZ0 hl hL hst hlk hok hR hS
      unfold zh_st at hh
      split at hh
      · rename_i kx
        simp only [Bool.and_eq_true, decide_eq_true_eq] at hh
        obtain ⟨e1, hany⟩ := hh
        have h13 := zol_lt hany
        obtain ⟨hx, hb, hml, hown, hts, hroom, -⟩ := F
        rw [if_neg (by omega)] at hown
        rw [zlen_of hn rfl] at hd hp
        obtain ⟨ow, ov, orr⟩ := (List.forall_mem_cons.mp hok).imp_right List.forall_mem_cons.mp
        have rw' := ow.1.1 (Or.inl hw)
        have rv' := ov.1.1 (Or.inl hv)
        have kk := hG ad cA H locs als hag hS0 hZ0 hl hL hst hlk (List.forall_mem_cons.mpr ⟨zint (by split <;> omega), orr⟩) hR hS
        rw [hp, List.map_cons, zcv_0] at kk
        rw [List.map_cons, List.map_cons, zcv_i hw, zcv_i hv]
        refine va_mmin hx hb (by rw [hml]; exact hl.1.symm) hown (zol_ok hts (by decide) hany) (zTb_at hts zwx_minS rfl) (zTb_at hts zwx_mI rfl) (zTb_at hts zwx_minC rfl) hroom.1 (by have := zcat_sum (adK := adK) (ad := ad) rr h4; omega) hc hs hd ?_
        have e : (if Int32.ofInt w.2 < Int32.ofInt v.2 then Int32.ofInt w.2 else Int32.ofInt v.2) = Int32.ofInt (if v.2 ≤ w.2 then v.2 else w.2) := by
          by_cases h : v.2 ≤ w.2
          · rw [if_neg (by rw [zi_lt rw' rv']; omega), if_pos h]
          · rw [if_pos (by rw [zi_lt rw' rv']; omega), if_neg h]
        rw [e]
        exact kk
      · cases hh
    · cases ho
  · cases ho
theorem zk_abs : zOK 56 zo_abs (zh_st 56) := by
  intro p l e R s m args below meth c Q D adK adV A nL k pcs S0 ad0 cA0 own cc x n i a ls st S M r F hd hp hn hh hm ho hc hs hG
  unfold zo_abs at ho
  split at ho
  · rename_i v rr
    split at ho
    · rename_i hi
      obtain ⟨hv, hmin, h4⟩ := hi
      cases ho
      intro ad cA H locs als hag hS0 hZ0 hl hL hst hlk hok hR hS
      unfold zh_st at hh
      split at hh
      · rename_i kx
        simp only [Bool.and_eq_true, decide_eq_true_eq] at hh
        obtain ⟨e1, hany⟩ := hh
        have h13 := zol_lt hany
        obtain ⟨hx, hb, hml, hown, hts, hroom, -⟩ := F
        rw [if_neg (by omega)] at hown
        rw [zlen_of hn rfl] at hd hp
        obtain ⟨ov, orr⟩ := List.forall_mem_cons.mp hok
        have rv' := ov.1.1 (Or.inl hv)
        have kk := hG ad cA H locs als hag hS0 hZ0 hl hL hst hlk (List.forall_mem_cons.mpr ⟨zint (by split <;> omega), orr⟩) hR hS
        rw [hp, List.map_cons, zcv_0] at kk
        rw [List.map_cons, zcv_i hv]
        refine va_mabs hx hb (by rw [hml]; exact hl.1.symm) hown (zol_ok hts (by decide) hany) (zTb_at hts zwx_absS rfl) (zTb_at hts zwx_mI rfl) (zTb_at hts zwx_absC rfl) hroom.1 (by have := zcat_sum (adK := adK) (ad := ad) rr h4; omega) hc hs hd ?_
        have e : (if 0 ≤ Int32.ofInt v.2 then Int32.ofInt v.2 else 0 - Int32.ofInt v.2) = Int32.ofInt (if v.2 < 0 then -v.2 else v.2) := by
          rw [zi_0]
          by_cases h : v.2 < 0
          · rw [if_neg (by rw [zi_le (by decide) rv']; omega), if_pos h, zi_sub]
            congr 1
            omega
          · rw [if_pos (by rw [zi_le (by decide) rv']; omega), if_neg h]
        rw [e]
        exact kk
      · cases hh
    · cases ho
  · cases ho
end
section
/-! Cells made, rows copied, texts -/
theorem zws_setM {adK ad : Nat → Nat} {cA : Nat → ClassId} {S : List zSh} {M M' : zM} {k : Nat} {q : zSh} {x : va_E} (h : S[k]? = some q) (hx : zel adK ad cA M' k q = x) (ho : ∀ j : Nat, j ≠ k → ∀ z : Int, M' j z = M j z) : (zws adK ad cA S M).set k (ad k, x) = zws adK ad cA S M' := by
  subst hx
  apply List.ext_getElem?
  intro j
  have hk : k < S.length := (List.getElem?_eq_some_iff.mp h).1
  by_cases hj : j = k
  · subst hj
    rw [List.getElem?_set_self (by rw [zws_len]; exact hk), zws_at h]
  · rw [List.getElem?_set_ne (Ne.symm hj)]
    cases hq : S[j]? with
    | none =>
      have hl : S.length ≤ j := by simpa using hq
      rw [List.getElem?_eq_none (by rw [zws_len]; exact hl), List.getElem?_eq_none (by rw [zws_len]; exact hl)]
    | some q' =>
      rw [zws_at hq, zws_at hq]
      unfold zel
      simp only [ho j hj]
theorem zk_copy : zOK 54 zo_copy (zh_st 54) := by
  intro p l e R s m args below meth c Q D adK adV A nL k pcs S0 ad0 cA0 own cc x n i a ls st S M r F hd hp hn hh hm ho hc hs hG
  unfold zo_copy at ho
  split at ho
  · rename_i vn dp vd sp vs rr
    split at ho
    · rename_i q hq
      split at ho
      · rename_i o hoo
        split at ho
        · rename_i hi
          obtain ⟨⟨t1, t2, t3, t4, t5, t6, t7⟩, ⟨r1, r2, r3, r4, r5⟩, hne, h4⟩ := hi
          obtain ⟨hnn, hq⟩ := zsh_of hq
          obtain ⟨hnu, hoo⟩ := zsh_of hoo
          cases ho
          intro ad cA H locs als hag hS0 hZ0 hl hL hst hlk hok hR hS
          unfold zh_st at hh
          split at hh
          · rename_i kx
            simp only [Bool.and_eq_true, decide_eq_true_eq] at hh
            obtain ⟨e1, hany⟩ := hh
            have h13 := zol_lt hany
            obtain ⟨hx, hb, hml, hown, hts, hroom, -⟩ := F
            rw [if_neg (by omega)] at hown
            rw [zlen_of hn rfl] at hd hp
            obtain ⟨hP, hD, hK, hV⟩ := id hR
            obtain ⟨o1, hok2⟩ := List.forall_mem_cons.mp hok
            obtain ⟨o2, hok3⟩ := List.forall_mem_cons.mp hok2
            obtain ⟨o3, hok4⟩ := List.forall_mem_cons.mp hok3
            obtain ⟨o4, hok5⟩ := List.forall_mem_cons.mp hok4
            obtain ⟨o5, orr⟩ := List.forall_mem_cons.mp hok5
            have b1 := o1.1.1 (Or.inl t1)
            have b2 := o2.1.1 (Or.inl t2)
            have b4 := o4.1.1 (Or.inl t4)
            have es : ((vs.2.toNat : Nat) : Int) = vs.2 := by omega
            have ed : ((vd.2.toNat : Nat) : Int) = vd.2 := by omega
            have nlt : ∀ z : Int, 0 ≤ z → z ≤ 2147483647 → ¬ Int32.ofInt z < 0 := fun z h1 h2 => by
              rw [zi_0, zi_lt ⟨by omega, h2⟩ (by decide)]
              omega
            have hK2 : va_K D zcl [(cA vs.2.toNat, .int), (cA vd.2.toNat, .int)] s := ⟨hK.1.1, fun j x hx => by
              match j, hx with
              | 0, hx => cases hx; have := hK.2 _ q hq (by omega); rw [zaty_1 t6] at this; exact this
              | 1, hx => cases hx; have := hK.2 _ o hoo (by omega); rw [zaty_1 t7] at this; exact this
              | j + 2, hx => simp at hx⟩
            have hloc : ((rr.map (zcv adK ad)).map fun v => v.category).sum + (nativeFrameWords "java/lang/System" "arraycopy" 5 + 11) ≤ R.locals := by
              have h8 := zcat_sum (adK := adK) (ad := ad) rr h4
              have e : nativeFrameWords "java/lang/System" "arraycopy" 5 ≤ 21 := by decide +kernel
              omega
            simp only [List.map_cons]
            rw [zcv_i t1, zcv_i t2, zcv_r t3, zcv_i t4, zcv_r t5]
            refine va_copyi (ty := .int) hx hb (by rw [hml]; exact hl.1.symm) hown (zol_ok hts (by decide) hany) (zTb_at hts zwx_cpN rfl) (zTb_at hts zwx_cpS rfl) (zTb_at hts zwx_cpI rfl) hK2 hP hD hS vs.2.toNat vd.2.toNat 0 1 ((zws_at hq).trans (by rw [zel_a (Or.inl t6)])) ((zws_at hoo).trans (by rw [zel_a (Or.inl t7)])) rfl rfl rfl (nlt _ r3 b4.2) (nlt _ r2 b2.2) (nlt _ r1 b1.2) (by rw [zi_nat ⟨r3, b4.2⟩, zi_nat ⟨r1, b1.2⟩]; omega) (by rw [zi_nat ⟨r2, b2.2⟩, zi_nat ⟨r1, b1.2⟩]; omega) (fun _ _ => rfl) hroom.1 hloc hd (fun H1 locs1 hP1 hD1 hS1 => ?_)
            have hoth : ∀ j : Nat, j ≠ vd.2.toNat → ∀ z : Int, zcpy M vs.2 sp.2 vd.2 dp.2 vn.2 j z = M j z := fun j hj z => by
              unfold zcpy
              rw [if_neg (by omega)]
            have hx1 : zel adK ad cA (zcpy M vs.2 sp.2 vd.2 dp.2 vn.2) vd.2.toNat o = .inl (cA vd.2.toNat, o.2.1, .inl (va_cpy (fun j => Int32.ofInt (M vs.2.toNat j)) (fun j => Int32.ofInt (M vd.2.toNat j)) (Int32.ofInt sp.2).toNatClampNeg (Int32.ofInt dp.2).toNatClampNeg (Int32.ofInt vn.2).toNatClampNeg)) := by
              rw [zel_a (Or.inl t7), zi_nat ⟨r3, b4.2⟩, zi_nat ⟨r2, b2.2⟩, zi_nat ⟨r1, b1.2⟩]
              congr 4
              funext j
              unfold va_cpy zcpy
              by_cases hj : dp.2.toNat ≤ j ∧ j < dp.2.toNat + vn.2.toNat
              · rw [if_pos hj, if_pos ⟨ed, by omega, by omega⟩]
                congr 2
                · exact es.symm
                · omega
              · rw [if_neg hj, if_neg (by omega)]
            rw [zws_setM hoo hx1 hoth] at hP1 hD1
            have hV1 : zval S (zcpy M vs.2 sp.2 vd.2 dp.2 vn.2) := by
              have hcase : ∀ j z : Int, zcpy M vs.2 sp.2 vd.2 dp.2 vn.2 j z = M j z ∨ (j = vd.2 ∧ zcpy M vs.2 sp.2 vd.2 dp.2 vn.2 j z = M vs.2 (sp.2 + (z - dp.2))) := fun j z => by
                unfold zcpy
                split
                · rename_i h; exact Or.inr ⟨h.1, rfl⟩
                · exact Or.inl rfl
              have hlt : vd.2.toNat < S.length := (List.getElem?_eq_some_iff.mp hoo).1
              refine ⟨fun j q' hj => ?_, fun j q' hj hn z => ?_, fun j hj z => ?_⟩
              · obtain ⟨a1, a2, a3, a4⟩ := hV.1 j q' hj
                refine ⟨a1, a2, a3, fun e => ⟨(a4 e).1, fun z => ?_⟩⟩
                rcases hcase j z with h | ⟨h, -⟩
                · rw [h]; exact (a4 e).2 z
                · have : j = vd.2.toNat := by omega
                  subst this
                  rw [hoo] at hj
                  cases hj
                  omega
              · rcases hcase j z with h | ⟨-, h⟩
                · rw [h]; exact hV.2.1 j q' hj hn z
                · rw [h]
                  have := hV.2.1 _ q hq (by omega) (sp.2 + (z - dp.2))
                  rw [es] at this
                  exact this
              · rcases hcase j z with h | ⟨h, -⟩
                · rw [h]; exact hV.2.2 j hj z
                · omega
            have kk := hG ad cA H1 locs1 als hag hS0 hZ0 hl hL hst hlk orr ⟨hP1, hD1, hK, hV1⟩ hS1
            rw [hp] at kk
            exact kk
          · cases hh
        · cases ho
      · cases ho
    · cases ho
  · cases ho
theorem zk_text : zOK 57 zo_text zh_text := by
  intro p l e R s m args below meth c Q D adK adV A nL k pcs S0 ad0 cA0 own cc x n i a ls st S M r F hd hp hn hh hm ho hc hs hG
  cases ho
  intro ad cA H locs als hag hS0 hZ0 hl hL hst hlk hok hR hS
  unfold zh_text at hh
  split at hh
  · rename_i kx
    simp only [Bool.and_eq_true, decide_eq_true_eq] at hh
    obtain ⟨⟨e1, e2, e3, e4⟩, hany⟩ := hh
    obtain ⟨hx, hb, hml, hown, hts, hroom, hA, hf1, hf2, hnest, hao, haoa, hstr, htl, -⟩ := F
    rw [if_neg (by omega), e2] at hown
    rw [zlen_of hn rfl] at hd hp
    obtain ⟨q, hq, he⟩ := List.any_eq_true.mp hany
    simp only [Bool.and_eq_true, beq_iff_eq] at he
    have hZ := htl q hq
    rw [he.1, he.2] at hZ
    have kk := hG ad cA H locs als hag hS0 hZ0 hl hL hst hlk (List.forall_mem_cons.mpr ⟨⟨⟨fun z => by rcases z with z | z; exact absurd z (by decide : (4 : Nat) ≠ 0); exact absurd z (by decide : (4 : Nat) ≠ 2), fun z => absurd z (by decide : (4 : Nat) ≠ 1)⟩, (by decide : (4 : Nat) ≠ 3)⟩, hok⟩) hR hS
    rw [hp, List.map_cons, zcv_4] at kk
    intro T hT X
    obtain ⟨t, a1, b1⟩ := kk T hT X
    exact ⟨t, X.ldcStringW hx (own := "StackedScript") hown hZ.1 hZ.2 (g := F0 m (zpc pcs i) als (st.map (zcv adK ad))) rfl (by rw [hb]; exact hd) t a1, b1⟩
  · cases hh
/-- a cell more: what was there is the same -/
theorem zel_ag {adK ad ad' : Nat → Nat} {cA cA' : Nat → ClassId} {S : List zSh} {M : zM} {k : Nat} {q : zSh} (hV : zval S M) (hq : S[k]? = some q) (hag : zag S.length ad cA ad' cA') : zel adK ad' cA' M k q = zel adK ad cA M k q := by
  have hk : k < S.length := (List.getElem?_eq_some_iff.mp hq).1
  obtain ⟨a1, a2, a3, a4⟩ := hV.1 k q hq
  unfold zel
  by_cases h0 : q.1 = 0
  · rw [if_pos h0, if_pos h0]
    congr 2
    apply List.map_congr_left
    intro j _
    by_cases hk1 : zkd q.2.1 j = 1
    · rw [if_pos hk1, if_pos hk1, zcv_ag hag (zrf_ok ((a2 h0).2.2 j)).1]
    · rw [if_neg hk1, if_neg hk1]
  · rw [if_neg h0, if_neg h0, (hag k hk).2]
    by_cases h4 : q.1 = 4
    · rw [if_pos h4, if_pos h4]
      congr 7
      funext j
      by_cases hj : j < q.2.1
      · have := a3 h4
        rw [if_pos hj, if_pos hj, (hag _ (show (q.2.2.getD 0 0 + j).toNat < S.length by omega)).1]
      · rw [if_neg hj, if_neg hj]
    · rw [if_neg h4, if_neg h4]
      by_cases h5 : q.1 = 5
      · rw [if_pos h5, if_pos h5]
        congr 7
        funext j
        by_cases hj : M k j ≤ 0
        · rw [if_pos hj, if_pos hj]
        · have := (a4 h5).2 j
          rw [if_neg hj, if_neg hj, (hag _ (show (M k j - 1).toNat < S.length by omega)).1]
      · rw [if_neg h5, if_neg h5]
theorem zws_ag {adK ad ad' : Nat → Nat} {cA cA' : Nat → ClassId} {S T : List zSh} {M : zM} (hV : zval S M) (hag : zag S.length ad cA ad' cA') : zws adK ad' cA' (S ++ T) M = zws adK ad cA S M ++ (List.range T.length).map (fun j => (ad' (S.length + j), zel adK ad' cA' M (S.length + j) (T.getD j (9, 0, [])))) := by
  apply List.ext_getElem?
  intro j
  by_cases hj : j < S.length
  · rw [List.getElem?_append_left (by rw [zws_len]; exact hj)]
    have hq : S[j]? = some S[j] := List.getElem?_eq_getElem hj
    rw [zws_at (by rw [List.getElem?_append_left hj]; exact hq), zws_at hq, zel_ag hV hq hag, (hag j hj).1]
  · rw [List.getElem?_append_right (by rw [zws_len]; omega), zws_len]
    by_cases hj2 : j < S.length + T.length
    · have hq : T[j - S.length]? = some T[j - S.length] := List.getElem?_eq_getElem (by omega)
      have hq2 : (S ++ T)[j]? = some T[j - S.length] := by rw [List.getElem?_append_right (by omega)]; exact hq
      rw [zws_at hq2, List.getElem?_map, List.getElem?_range (by omega)]
      have e : S.length + (j - S.length) = j := by omega
      simp only [Option.map_some, e, List.getD, hq, Option.getD_some]
    · rw [List.getElem?_eq_none (by rw [zws_len, List.length_append]; omega), List.getElem?_eq_none (by simp; omega)]
theorem zst_ag {adK ad ad' : Nat → Nat} {cA cA' : Nat → ClassId} {n : Nat} {st : List zV} (hag : zag n ad cA ad' cA') (hok : ∀ v ∈ st, zok n v ∧ v.1 ≠ 3) : st.map (zcv adK ad') = st.map (zcv adK ad) := List.map_congr_left (fun v hv => zcv_ag hag (hok v hv).1)
theorem zcl_ok {own k c : Nat} {s : State} {args : Array Value} (hts : ∀ w ∈ zTb, w.before args s = true) (h : zCl.any (fun e => e.1 == own && (e.2.1 == k && e.2.2.1 == c)) = true) : (Cond.classLink (if own = 13 then R_law else zC own) k (zC c)).before args s = true := by
  obtain ⟨q, hq, he⟩ := List.any_eq_true.mp h
  simp only [Bool.and_eq_true, beq_iff_eq] at he
  obtain ⟨e1, e2, e3⟩ := he
  have hw := of_decide_eq_true (List.all_eq_true.mp zw_cl q hq)
  rw [e1, e2, e3] at hw
  exact zTb_at hts hw rfl
theorem zcw_ok {c : Nat} {s : State} {args : Array Value} (hts : ∀ w ∈ zTb, w.before args s = true) (hc : c < 13) : (Cond.instantiable (zC c) (zN c)).before args s = true ∧ (Cond.initialized (zC c)).before args s = true := by
  have h := List.all_eq_true.mp zw_cls c (List.mem_range.mpr hc)
  simp only [Bool.and_eq_true] at h
  exact ⟨zTb_at hts (of_decide_eq_true h.1.1) rfl, zTb_at hts (of_decide_eq_true h.1.2) rfl⟩
def zpush (f : Nat → Nat) (n q : Nat) : Nat → Nat := fun j => if j = n then q else f j
theorem zpush_ag {ad : Nat → Nat} {cA : Nat → ClassId} {n q : Nat} {c : ClassId} : zag n ad cA (zpush ad n q) (zpush cA n c) := fun j hj => ⟨if_neg (by omega), if_neg (by omega)⟩
/-- one cell more -/
theorem zws_push {adK ad : Nat → Nat} {cA : Nat → ClassId} {S : List zSh} {M : zM} {q : Nat} {c : ClassId} {t : zSh} {x : va_E} (hV : zval S M) (hx : zel adK (zpush ad S.length q) (zpush cA S.length c) M S.length t = x) : zws adK ad cA S M ++ [(q, x)] = zws adK (zpush ad S.length q) (zpush cA S.length c) (S ++ [t]) M := by
  rw [zws_ag hV zpush_ag]
  congr 1
  show [(q, x)] = [(zpush ad S.length q (S.length + 0), zel adK (zpush ad S.length q) (zpush cA S.length c) M (S.length + 0) t)]
  rw [Nat.add_zero, hx, show zpush ad S.length q S.length = q from if_pos rfl]
theorem zval_push {S : List zSh} {M : zM} {t : zSh} (hV : zval S M) (h1 : t.1 ≤ 5 ∧ t.2.1 ≤ 2000) (h2 : t.1 = 0 → t.2.1 < 13 ∧ t.2.2.length = zN t.2.1 ∧ ∀ j : Nat, t.2.2.getD j (-1) < S.length + 1) (h4 : t.1 ≠ 4) (h5 : t.1 = 5 → t.2.2.getD 0 0 = 10) : zval (S ++ [t]) M := by
  have hlen : (S ++ [t]).length = S.length + 1 := by simp
  have hcase : ∀ k q, (S ++ [t])[k]? = some q → (k < S.length ∧ S[k]? = some q) ∨ (k = S.length ∧ q = t) := fun k q h => by
    by_cases hk : k < S.length
    · rw [List.getElem?_append_left hk] at h
      exact Or.inl ⟨hk, h⟩
    · have hk2 : k < (S ++ [t]).length := (List.getElem?_eq_some_iff.mp h).1
      have : k = S.length := by omega
      subst this
      rw [List.getElem?_append_right (by omega), Nat.sub_self] at h
      cases h
      exact Or.inr ⟨rfl, rfl⟩
  refine ⟨fun k q hq => ?_, fun k q hq hn z => ?_, fun k hk z => hV.2.2 k (by omega) z⟩
  · rw [hlen]
    rcases hcase k q hq with ⟨-, h⟩ | ⟨rfl, rfl⟩
    · obtain ⟨a1, a2, a3, a4⟩ := hV.1 k q h
      exact ⟨a1, fun z => ⟨(a2 z).1, (a2 z).2.1, fun j => by have := (a2 z).2.2 j; omega⟩, fun z => ⟨(a3 z).1, by have := (a3 z).2; omega⟩, fun z => ⟨(a4 z).1, fun j => by have := (a4 z).2 j; omega⟩⟩
    · exact ⟨h1, fun z => ⟨(h2 z).1, (h2 z).2.1, fun j => by have := (h2 z).2.2 j; omega⟩, fun z => absurd z h4, fun z => ⟨h5 z, fun j => by rw [hV.2.2 _ (Nat.le_refl _)]; omega⟩⟩
  · rcases hcase k q hq with ⟨-, h⟩ | ⟨rfl, rfl⟩
    · exact hV.2.1 k q h hn z
    · rw [hV.2.2 _ (Nat.le_refl _)]
      decide
theorem zKs_push {D : va_G} {cA : Nat → ClassId} {S : List zSh} {s : State} {t : zSh} {c : ClassId} (hK : zKs D cA S s) (h : t.1 ≠ 0 → ArrOfT s c (zaty t) ∧ va_RA s c (zaty t)) : zKs D (zpush cA S.length c) (S ++ [t]) s := by
  refine ⟨hK.1, fun k q hq h0 => ?_⟩
  by_cases hk : k < S.length
  · rw [List.getElem?_append_left hk] at hq
    rw [show zpush cA S.length c k = cA k from if_neg (by omega)]
    exact hK.2 k q hq h0
  · have hk2 : k < (S ++ [t]).length := (List.getElem?_eq_some_iff.mp hq).1
    rw [List.length_append] at hk2
    have : k = S.length := by simp at hk2; omega
    subst this
    rw [List.getElem?_append_right (by omega), Nat.sub_self] at hq
    cases hq
    rw [show zpush cA S.length c S.length = c from if_pos rfl]
    exact h h0
theorem zsl_push (S : List zSh) (t : zSh) : zsl (S ++ [t]) = zsl S + zsz t := by simp [zsl_app, zsl]
theorem zw_fit0 : (List.range 13).all (fun c => (List.range (zN c)).all (fun k => (match zTy c k with | .object _ => true | .array _ => true | .int => true | .boolean => true | _ => false))) = true := by decide +kernel
theorem zfit0_ok {c k : Nat} (hc : c < 13) (hk : k < zN c) : (match zTy c k with | .object _ => true | .array _ => true | .int => true | .boolean => true | _ => false) = true := List.all_eq_true.mp (List.all_eq_true.mp zw_fit0 c (List.mem_range.mpr hc)) k (List.mem_range.mpr hk)
theorem zk_new : zOK 49 zo_new zh_new := by
  intro p l e R s m args below meth c Q D adK adV A nL k pcs S0 ad0 cA0 own cc x n i a ls st S M r F hd hp hn hh hm ho hc hs hG
  cases ho
  intro ad cA H locs als hag hS0 hZ0 hl hL hst hlk hok hR hS
  unfold zh_new at hh
  split at hh
  · rename_i kx
    simp only [Bool.and_eq_true, decide_eq_true_eq] at hh
    obtain ⟨⟨e1, hany⟩, g0, g1⟩ := hh
    have h13 : (zarg a 1).toNat < 13 := by omega
    obtain ⟨hx, hb, hml, hown, hts, hroom, hA, -⟩ := F
    rw [zlen_of hn rfl] at hd hp
    obtain ⟨hP, hD, hK, hV⟩ := id hR
    dsimp only at hc hs hG
    rw [List.length_append] at hc
    simp only [List.length_cons, List.length_nil] at hc
    rw [zsl_push] at hs
    have hz : zsz (0, (zarg a 1).toNat, List.replicate (zNf.getD (zarg a 1).toNat 0) (-1)) = zN (zarg a 1).toNat := rfl
    rw [hz] at hs
    have hty : ∀ j, j < zN (zarg a 1).toNat → parseFieldDescriptor (zT (zarg a 1).toNat j).2.2.1 = some (zTy (zarg a 1).toNat j) := fun j hj => (zty_ok h13 hj).1
    refine va_new (ci := (zarg a 1).toNat) (fs := (List.range (zN (zarg a 1).toNat)).map (fun j => if zkd (zarg a 1).toNat j = 1 then .null else .int 0)) (T := zT (zarg a 1).toNat) (N := zN (zarg a 1).toNat) (C := zC (zarg a 1).toNat) hx hb hts (zin_ws h13) (zTy (zarg a 1).toNat) hty hown (zcl_ok hts hany) (zcw_ok hts h13).1 (zcw_ok hts h13).2 hK.1 hP hD hS hA (zcl_at h13) (fun j hj => ?_) (by omega) (by omega) hd (fun q0 H1 hP1 hD1 hS1 => ?_)
    · unfold vp_V
      rw [List.getD, List.getElem?_map, List.getElem?_range hj]
      obtain ⟨f1, f2, -⟩ := zty_ok h13 hj
      show _ = if zkd (zarg a 1).toNat j = 1 then Value.null else .int 0
      cases hz2 : zTy (zarg a 1).toNat j with
      | int => rw [hz2] at f2; dsimp only at f2; rw [if_neg (by omega)]; rfl
      | boolean => rw [hz2] at f2; dsimp only at f2; rw [if_neg (by omega)]; rfl
      | object nm => rw [hz2] at f2; dsimp only at f2; rw [if_pos f2]; rfl
      | array t => rw [hz2] at f2; dsimp only at f2; rw [if_pos f2]; rfl
      | _ => exact absurd (zfit0_ok h13 hj) (by rw [hz2]; simp)
    · have hx1 : zel adK (zpush ad S.length q0) (zpush cA S.length (D.1 0)) M S.length (0, (zarg a 1).toNat, List.replicate (zNf.getD (zarg a 1).toNat 0) (-1)) = .inr ((zarg a 1).toNat, (List.range (zN (zarg a 1).toNat)).map (fun j => if zkd (zarg a 1).toNat j = 1 then .null else .int 0)) := by
        rw [zel_0 rfl]
        dsimp only
        congr 2
        apply List.map_congr_left
        intro j _
        have e : (List.replicate (zNf.getD (zarg a 1).toNat 0) (-1 : Int)).getD j (-1) = -1 := by
          rw [List.getD, List.getElem?_replicate]
          split <;> rfl
        rw [e, hV.2.2 _ (Nat.le_refl _)]
        rfl
      rw [zws_push hV hx1] at hP1 hD1
      have hV1 : zval (S ++ [(0, (zarg a 1).toNat, List.replicate (zNf.getD (zarg a 1).toNat 0) (-1))]) M := zval_push hV ⟨(by decide : (0 : Nat) ≤ 5), by show (zarg a 1).toNat ≤ 2000; omega⟩ (fun _ => ⟨h13, by rw [List.length_replicate]; rfl, fun j => by
        have e : (List.replicate (zNf.getD (zarg a 1).toNat 0) (-1 : Int)).getD j (-1) = -1 := by
          rw [List.getD, List.getElem?_replicate]
          split <;> rfl
        show (List.replicate (zNf.getD (zarg a 1).toNat 0) (-1 : Int)).getD j (-1) < _
        rw [e]
        omega⟩) (by decide : (0 : Nat) ≠ 4) (fun z => absurd z (by decide : (0 : Nat) ≠ 5))
      have hag2 : zag S.length ad cA (zpush ad S.length q0) (zpush cA S.length (D.1 0)) := zpush_ag
      have hlen : (S ++ [((0, (zarg a 1).toNat, List.replicate (zNf.getD (zarg a 1).toNat 0) (-1)) : zSh)]).length = S.length + 1 := by simp
      have kk := hG _ _ H1 locs als (zag.tr hag hag2 hS0) (by rw [hlen]; omega) (by rw [zsl_push]; omega) (by rw [zls_ag hag2 ls 0 hlk]; exact hl) hL hst (fun v hv => (hlk v hv).mono (by rw [hlen]; omega)) (List.forall_mem_cons.mpr ⟨⟨⟨fun z => by rcases z with z | z; exact absurd z (by decide : (1 : Nat) ≠ 0); exact absurd z (by decide : (1 : Nat) ≠ 2), fun _ => ⟨by show (0 : Int) ≤ (S.length : Int); omega, by show (S.length : Int) < _; rw [hlen]; omega⟩⟩, (by decide : (1 : Nat) ≠ 3)⟩, fun v hv => ⟨(hok v hv).1.mono (by rw [hlen]; omega), (hok v hv).2⟩⟩) ⟨hP1, hD1, zKs_push hK (fun z => absurd rfl z), hV1⟩ hS1
      rw [hp, List.map_cons, zcv_1, zst_ag hag2 hok, zsl_push, hz, show ((S.length : Int)).toNat = S.length by omega, show zpush ad S.length q0 S.length = q0 from if_pos rfl, hlen] at kk
      exact W.cs (by omega) (by omega) kk
  · cases hh
theorem zaref {n S : Nat} (h : n < S) : zok S (1, (n : Int)) ∧ ((1, (n : Int)) : zV).1 ≠ 3 := ⟨⟨fun z => by rcases z with z | z; exact absurd z (by decide : (1 : Nat) ≠ 0); exact absurd z (by decide : (1 : Nat) ≠ 2), fun _ => ⟨by show (0 : Int) ≤ (n : Int); omega, by show (n : Int) < _; omega⟩⟩, (by decide : (1 : Nat) ≠ 3)⟩
theorem zk_newa : zOK 50 zo_newa zh_newa := by
  intro p l e R s m args below meth c Q D adK adV A nL k pcs S0 ad0 cA0 own cc x n i a ls st S M r F hd hp hn hh hm ho hc hs hG
  unfold zo_newa at ho
  split at ho
  · rename_i v rr
    split at ho
    · rename_i hi
      obtain ⟨hv, hr0, hr1⟩ := hi
      cases ho
      intro ad cA H locs als hag hS0 hZ0 hl hL hst hlk hok hR hS
      obtain ⟨hx, hb, hml, hown, hts, hroom, hA, -⟩ := F
      obtain ⟨hP, hD, hK, hV⟩ := id hR
      obtain ⟨ov, orr⟩ := List.forall_mem_cons.mp hok
      have rv := ov.1.1 (Or.inl hv)
      dsimp only at hc hs hG
      rw [List.length_append] at hc
      simp only [List.length_cons, List.length_nil] at hc
      rw [zsl_push] at hs
      have ht : (zarg a 0 = 1 ∧ x = .newarray .int) ∨ (zarg a 0 = 2 ∧ x = .newarray .byte) ∨ (zarg a 0 = 3 ∧ x = .newarray .boolean) := by
        unfold zh_newa at hh
        split at hh
        · exact Or.inl ⟨of_decide_eq_true hh, rfl⟩
        · exact Or.inr (Or.inl ⟨of_decide_eq_true hh, rfl⟩)
        · exact Or.inr (Or.inr ⟨of_decide_eq_true hh, rfl⟩)
        · cases hh
      have ht0 : (zarg a 0).toNat ≠ 0 ∧ (zarg a 0).toNat ≤ 3 := by omega
      have hz : zsz ((zarg a 0).toNat, v.2.toNat, []) = v.2.toNat := if_neg ht0.1
      rw [hz] at hs
      have hn2 : n = 2 := by
        rcases ht with ⟨-, rfl⟩ | ⟨-, rfl⟩ | ⟨-, rfl⟩ <;> exact zlen_of hn rfl
      have hlen : (S ++ [(((zarg a 0).toNat, v.2.toNat, []) : zSh)]).length = S.length + 1 := by simp
      have hneg : ¬ Int32.ofInt v.2 < 0 := by
        rw [zi_0, zi_lt rv (by decide)]
        omega
      have goal : ∀ (q0 : Nat) (cN : ClassId) (H1 : Heap), va_K D zcl ([] ++ [(cN, zaty ((zarg a 0).toNat, v.2.toNat, []))]) s → va_P D zcl (zws adK ad cA S M ++ [(q0, .inl (cN, v.2.toNat, .inl (fun _ => 0)))]) H1 → va_D A (zws adK ad cA S M ++ [(q0, .inl (cN, v.2.toNat, .inl (fun _ => 0)))]) → va_S A s.heap H1 locs → W p l e R s m args below meth c H1 locs (S.length - S0.length + 1) (zsl S - zsl S0 + v.2.toNat) Q (F0 m (zpc pcs i + 2) als (.ref q0 :: rr.map (zcv adK ad))) := fun q0 cN H1 hK1 hP1 hD1 hS1 => by
        have hx1 : zel adK (zpush ad S.length q0) (zpush cA S.length cN) M S.length ((zarg a 0).toNat, v.2.toNat, []) = .inl (cN, v.2.toNat, .inl (fun _ => 0)) := by
          rw [zel_a (show (zarg a 0).toNat = 1 ∨ (zarg a 0).toNat = 2 ∨ (zarg a 0).toNat = 3 by omega)]
          rw [show zpush cA S.length cN S.length = cN from if_pos rfl]
          congr 4
          funext j
          rw [hV.2.2 _ (Nat.le_refl _)]
          rfl
        rw [zws_push hV hx1] at hP1 hD1
        have hV1 : zval (S ++ [((zarg a 0).toNat, v.2.toNat, [])]) M := zval_push hV ⟨by show (zarg a 0).toNat ≤ 5; omega, by show v.2.toNat ≤ 2000; omega⟩ (fun z => absurd z ht0.1) (by show (zarg a 0).toNat ≠ 4; omega) (fun z => absurd z (show ¬ (zarg a 0).toNat = 5 by omega))
        have hag2 : zag S.length ad cA (zpush ad S.length q0) (zpush cA S.length cN) := zpush_ag
        have kk := hG _ _ H1 locs als (zag.tr hag hag2 hS0) (by rw [hlen]; omega) (by rw [zsl_push]; omega) (by rw [zls_ag hag2 ls 0 hlk]; exact hl) hL hst (fun v hv => (hlk v hv).mono (by rw [hlen]; omega)) (List.forall_mem_cons.mpr ⟨zaref (by rw [hlen]; omega), fun v hv => ⟨(orr v hv).1.mono (by rw [hlen]; omega), (orr v hv).2⟩⟩) ⟨hP1, hD1, zKs_push hK (fun _ => hK1.2 0 _ rfl), hV1⟩ hS1
        rw [hp, List.map_cons, zcv_1, zst_ag hag2 orr, zsl_push, hz, show ((S.length : Int)).toNat = S.length by omega, show zpush ad S.length q0 S.length = q0 from if_pos rfl, hlen, hn2] at kk
        exact W.cs (by omega) (by omega) kk
      rw [List.map_cons, zcv_i hv]
      rw [hn2] at hd
      rcases ht with ⟨h1, rfl⟩ | ⟨h1, rfl⟩ | ⟨h1, rfl⟩
      · rw [zaty_1 (show ((zarg a 0).toNat, v.2.toNat, ([] : List Int)).1 = 1 by show (zarg a 0).toNat = 1; omega)] at goal
        exact va_newa (atype := .int) (a0 := (v.2.toNat, .inl (fun _ => 0))) hx hb (zTb_at hts zwx_acI rfl) rfl hK.1 hP hD hS hA (fun _ => rfl) hneg (zi_nat ⟨hr0, rv.2⟩) (by show v.2.toNat * 4 ≤ _; omega) (by omega) (by omega) hd goal
      · rw [zaty_2 (show ((zarg a 0).toNat, v.2.toNat, ([] : List Int)).1 = 2 by show (zarg a 0).toNat = 2; omega)] at goal
        exact va_newa (atype := .byte) (a0 := (v.2.toNat, .inl (fun _ => 0))) hx hb (zTb_at hts zwx_acB rfl) rfl hK.1 hP hD hS hA (fun _ => rfl) hneg (zi_nat ⟨hr0, rv.2⟩) (by show v.2.toNat * 1 ≤ _; omega) (by omega) (by omega) hd goal
      · rw [zaty_3 (show ((zarg a 0).toNat, v.2.toNat, ([] : List Int)).1 = 3 by show (zarg a 0).toNat = 3; omega)] at goal
        exact va_newa (atype := .boolean) (a0 := (v.2.toNat, .inl (fun _ => 0))) hx hb (zTb_at hts zwx_acZ rfl) rfl hK.1 hP hD hS hA (fun _ => rfl) hneg (zi_nat ⟨hr0, rv.2⟩) (by show v.2.toNat * 1 ≤ _; omega) (by omega) (by omega) hd goal
    · cases ho
  · cases ho
theorem zk_newq : zOK 51 zo_newq zh_newq := by
  intro p l e R s m args below meth c Q D adK adV A nL k pcs S0 ad0 cA0 own cc x n i a ls st S M r F hd hp hn hh hm ho hc hs hG
  unfold zo_newq at ho
  split at ho
  · rename_i v rr
    split at ho
    · rename_i hi
      obtain ⟨hv, hr0, hr1⟩ := hi
      cases ho
      intro ad cA H locs als hag hS0 hZ0 hl hL hst hlk hok hR hS
      unfold zh_newq at hh
      split at hh
      · rename_i kx
        simp only [Bool.and_eq_true, decide_eq_true_eq] at hh
        obtain ⟨⟨e1, hany⟩, h10⟩ := hh
        obtain ⟨hx, hb, hml, hown, hts, hroom, hA, hf1, hf2, hnest, hao, -⟩ := F
        rw [zlen_of hn rfl] at hd hp
        obtain ⟨hP, hD, hK, hV⟩ := id hR
        obtain ⟨ov, orr⟩ := List.forall_mem_cons.mp hok
        have rv := ov.1.1 (Or.inl hv)
        dsimp only at hc hs hG
        rw [List.length_append] at hc
        simp only [List.length_cons, List.length_nil] at hc
        rw [zsl_push] at hs
        have hz : zsz (5, v.2.toNat, [zarg a 1]) = v.2.toNat := rfl
        rw [hz] at hs
        have hlen : (S ++ [((5, v.2.toNat, [zarg a 1]) : zSh)]).length = S.length + 1 := by simp
        have hneg : ¬ Int32.ofInt v.2 < 0 := by
          rw [zi_0, zi_lt rv (by decide)]
          omega
        have hcl := zcl_ok (args := args) hts hany
        rw [h10] at hcl
        rw [List.map_cons, zcv_i hv]
        refine va_newq (C := "StackedScript$State") hx hb hown hcl hao hK.1 hP hD hS hA hneg (zi_nat ⟨hr0, rv.2⟩) (by omega) (by omega) (by omega) hd (fun q0 cN H1 hK1 hP1 hD1 hS1 => ?_)
        have hx1 : zel adK (zpush ad S.length q0) (zpush cA S.length cN) M S.length (5, v.2.toNat, [zarg a 1]) = .inl (cN, v.2.toNat, .inr (.inr (.inr (.inr (fun _ => none))))) := by
          rw [zel_5 rfl]
          rw [show zpush cA S.length cN S.length = cN from if_pos rfl]
          congr 7
          funext j
          rw [hV.2.2 _ (Nat.le_refl _), if_pos (by decide)]
        rw [zws_push hV hx1] at hP1 hD1
        have hV1 : zval (S ++ [(5, v.2.toNat, [zarg a 1])]) M := zval_push hV ⟨(by decide : (5 : Nat) ≤ 5), by show v.2.toNat ≤ 2000; omega⟩ (fun z => absurd z (by decide : (5 : Nat) ≠ 0)) (by decide : (5 : Nat) ≠ 4) (fun _ => h10)
        have hag2 : zag S.length ad cA (zpush ad S.length q0) (zpush cA S.length cN) := zpush_ag
        have kk := hG _ _ H1 locs als (zag.tr hag hag2 hS0) (by rw [hlen]; omega) (by rw [zsl_push]; omega) (by rw [zls_ag hag2 ls 0 hlk]; exact hl) hL hst (fun v hv => (hlk v hv).mono (by rw [hlen]; omega)) (List.forall_mem_cons.mpr ⟨zaref (by rw [hlen]; omega), fun v hv => ⟨(orr v hv).1.mono (by rw [hlen]; omega), (orr v hv).2⟩⟩) ⟨hP1, hD1, zKs_push hK (fun _ => by
          have := hK1.2 0 _ rfl
          rw [zaty_5 rfl]
          show ArrOfT s cN (.object (zC (zarg a 1).toNat)) ∧ _
          rw [h10]
          exact this), hV1⟩ hS1
        rw [hp, List.map_cons, zcv_1, zst_ag hag2 orr, zsl_push, hz, show ((S.length : Int)).toNat = S.length by omega, show zpush ad S.length q0 S.length = q0 from if_pos rfl, hlen] at kk
        exact W.cs (by omega) (by omega) kk
      · cases hh
    · cases ho
  · cases ho
theorem zvr_outer (c : ClassId) (N h0 : Nat) : ∀ i : Nat, Jvm.Free.Multi.outerC c N h0 i = arrV c N (fun j => va_rf (if j < i then some (h0 + 1 + j) else none))
  | 0 => by
    show ({ cls := c, slots := Array.replicate N .null, vm := .none } : Cell) = _
    rw [arrV_new]
    congr 1
  | i + 1 => by
    show (Jvm.Free.Multi.outerC c N h0 i).setSlot i (.ref (h0 + 1 + i)) = _
    rw [zvr_outer c N h0 i, arrV_store]
    congr 1
    funext j
    unfold updV
    by_cases e : j = i
    · rw [if_pos e, e, if_pos (by omega)]
      rfl
    · rw [if_neg e]
      show va_rf (if j < i then some (h0 + 1 + j) else none) = _
      by_cases h : j < i
      · rw [if_pos h, if_pos (by omega)]
      · rw [if_neg h, if_neg (by omega)]
theorem zsl_rep (N : Nat) (t : zSh) : zsl (List.replicate N t) = N * zsz t := by
  induction N with
  | zero => simp [zsl]
  | succ n ih =>
    rw [List.replicate_succ]
    show zsz t + zsl (List.replicate n t) = _
    rw [ih, Nat.succ_mul]
    omega
theorem zk_newm : zOK 52 zo_newm zh_newm := by
  intro p l e R s m args below meth c Q D adK adV A nL k pcs S0 ad0 cA0 own cc x n i a ls st S M r F hd hp hn hh hm ho hc hs hG
  unfold zo_newm at ho
  split at ho
  · rename_i w v rr
    split at ho
    · rename_i hi
      obtain ⟨⟨hw, hv⟩, ⟨hv0, hv1⟩, hw0, hw1⟩ := hi
      cases ho
      intro ad cA H locs als hag hS0 hZ0 hl hL hst hlk hok hR hS
      unfold zh_newm at hh
      split at hh
      · rename_i kx dx
        simp only [Bool.and_eq_true, decide_eq_true_eq] at hh
        obtain ⟨⟨e1, rfl⟩, hany⟩ := hh
        have h13 := zol_lt hany
        obtain ⟨hx, hb, hml, hown, hts, hroom, hA, hf1, hf2, hnest, hao, haoa, -⟩ := F
        rw [if_neg (by omega)] at hown
        rw [zlen_of hn rfl] at hd hp
        obtain ⟨hP, hD, hK, hV⟩ := id hR
        obtain ⟨ow, ov, orr⟩ := (List.forall_mem_cons.mp hok).imp_right List.forall_mem_cons.mp
        have rw' := ow.1.1 (Or.inl hw)
        have rv' := ov.1.1 (Or.inl hv)
        generalize hN : v.2.toNat = N at *
        generalize hKk : w.2.toNat = K at *
        have hNN : N ≤ 2000 := by omega
        have hKK : K ≤ 2000 := by omega
        dsimp only at hc hs hG
        have hlen : (S ++ ((4, N, [(S.length : Int) + 1]) : zSh) :: List.replicate N ((1, K, []) : zSh)).length = S.length + (1 + N) := by simp; omega
        have hsz : zsl (S ++ ((4, N, [(S.length : Int) + 1]) : zSh) :: List.replicate N ((1, K, []) : zSh)) = zsl S + (N + N * K) := by
          rw [zsl_app]
          congr 1
          show zsz (4, N, [(S.length : Int) + 1]) + zsl (List.replicate N (1, K, [])) = _
          rw [zsl_rep]
          rfl
        rw [hlen] at hc
        rw [hsz] at hs
        have hcl : (Cond.classLink (zC own) kx "[[I").before args s = true := by
          obtain ⟨q, hq, he⟩ := List.any_eq_true.mp hany
          simp only [Bool.and_eq_true, beq_iff_eq] at he
          obtain ⟨e1, e2, e3⟩ := he
          have hw := of_decide_eq_true (List.all_eq_true.mp zw_ol q hq)
          rw [e1, e2, e3, if_pos rfl] at hw
          exact zTb_at hts hw rfl
        have nlt : ∀ z : Int, 0 ≤ z → z ≤ 2147483647 → ¬ Int32.ofInt z < 0 := fun z h1 h2 => by
          rw [zi_0, zi_lt ⟨by omega, h2⟩ (by decide)]
          omega
        have en : (Int32.ofInt v.2).toNatClampNeg = N := by rw [zi_nat ⟨hv0, rv'.2⟩, hN]
        have ek : (Int32.ofInt w.2).toNatClampNeg = K := by rw [zi_nat ⟨hw0, rw'.2⟩, hKk]
        intro T hT Xs
        have step0 := Xs.multianewarray2F (ty := .int) hx hown hcl haoa (zTb_at hts zwx_acI rfl) (g := F0 m (zpc pcs i) als ((w :: v :: rr).map (zcv adK ad))) rfl (by rw [hb]; exact hd) (n := Int32.ofInt v.2) (k := Int32.ofInt w.2) (rest := rr.map (zcv adK ad)) (by show List.map _ _ = _; rw [List.map_cons, List.map_cons, zcv_i hw, zcv_i hv]) (nlt _ hv0 rv'.2) (nlt _ hw0 rw'.2) (by rw [en]; omega) (by rw [ek]; show K * 4 ≤ _; omega) (by rw [ek]; omega) rfl rfl (by rw [en]; omega) (by rw [en, ek]; omega)
        rw [en, ek] at step0
        obtain ⟨vm₁, c1, comp, hW1, fA, fC, hO, hI, X', step⟩ := step0
        generalize hF : Jvm.Free.Multi.fill (T.setVm vm₁) c1 comp N K (defaultValue .int) N = F1 at X' step
        have hTh : (T.setVm vm₁).heap = H := hT
        obtain ⟨f1, f2, -, -⟩ := Jvm.Free.Multi.fill_facts (T.setVm vm₁) c1 comp N K (defaultValue .int) N
        rw [hF, hTh] at f1 f2
        have hold : ∀ x : Nat, x < H.size → F1.heap[x]? = H[x]? := fun x hx => by
          have := Jvm.Free.Multi.fill_old (T.setVm vm₁) c1 comp N K (defaultValue .int) (a := x) (by rw [hTh]; exact hx) N
          rw [hF, hTh] at this
          exact this
        have hrow : ∀ j : Nat, j < N → F1.heap[H.size + 1 + j]? = some (vp_cell comp (K, .inl (fun _ => 0))) := fun j hj => by
          have := Jvm.Free.Multi.fill_inner (T.setVm vm₁) c1 comp N K (defaultValue .int) N j hj
          rw [hF, hTh] at this
          rw [this, vp_cell_i]
          congr 1
          exact arrV_new ..
        rw [zvr_outer] at f2
        have hag2 : zag S.length ad cA (fun j => if j < S.length then ad j else H.size + (j - S.length)) (fun j => if j < S.length then cA j else if j = S.length then c1 else comp) := fun j hj => ⟨if_pos hj, if_pos hj⟩
        generalize had : (fun j => if j < S.length then ad j else H.size + (j - S.length)) = ad2 at hag2
        generalize hcA : (fun j => if j < S.length then cA j else if j = S.length then c1 else comp) = cA2 at hag2
        have had2 : ∀ j, ad2 (S.length + j) = H.size + j := fun j => by
          rw [← had]
          show (if S.length + j < S.length then _ else _) = _
          rw [if_neg (by omega)]
          omega
        have hcA2 : cA2 S.length = c1 := by
          rw [← hcA]
          show (if S.length < S.length then _ else if S.length = S.length then c1 else comp) = _
          rw [if_neg (by omega), if_pos rfl]
        have hcA3 : ∀ j, cA2 (S.length + (j + 1)) = comp := fun j => by
          rw [← hcA]
          show (if S.length + (j + 1) < S.length then _ else if S.length + (j + 1) = S.length then c1 else comp) = _
          rw [if_neg (by omega), if_neg (by omega)]
        have hT0 : ∀ j, j < N → (((4, N, [(S.length : Int) + 1]) : zSh) :: List.replicate N ((1, K, []) : zSh)).getD (j + 1) (9, 0, []) = (1, K, []) := fun j hj => by
          rw [List.getD, List.getElem?_cons_succ, List.getElem?_replicate, if_pos hj]
          rfl
        have hcase : ∀ k q, (S ++ ((4, N, [(S.length : Int) + 1]) : zSh) :: List.replicate N ((1, K, []) : zSh))[k]? = some q → (k < S.length ∧ S[k]? = some q) ∨ (k = S.length ∧ q = (4, N, [(S.length : Int) + 1])) ∨ (∃ j, j < N ∧ k = S.length + (j + 1) ∧ q = (1, K, [])) := fun k q h => by
          by_cases hk : k < S.length
          · rw [List.getElem?_append_left hk] at h
            exact Or.inl ⟨hk, h⟩
          · rw [List.getElem?_append_right (by omega)] at h
            by_cases hk2 : k = S.length
            · rw [hk2, Nat.sub_self] at h
              cases h
              exact Or.inr (Or.inl ⟨hk2, rfl⟩)
            · obtain ⟨j, hj⟩ : ∃ j, k - S.length = j + 1 := ⟨k - S.length - 1, by omega⟩
              rw [hj, List.getElem?_cons_succ, List.getElem?_replicate] at h
              by_cases hjn : j < N
              · rw [if_pos hjn] at h
                cases h
                exact Or.inr (Or.inr ⟨j, hjn, by omega, rfl⟩)
              · rw [if_neg hjn] at h
                cases h
        have hlt : ∀ (k9 : Nat) (x : Nat × va_E), (zws adK ad cA S M)[k9]? = some x → x.1 < H.size := fun k9 x hx => (hP k9 x hx).lt
        have hTl : (((4, N, [(S.length : Int) + 1]) : zSh) :: List.replicate N ((1, K, []) : zSh)).length = N + 1 := by simp
        have hP1 : va_P D zcl (zws adK ad2 cA2 (S ++ ((4, N, [(S.length : Int) + 1]) : zSh) :: List.replicate N ((1, K, []) : zSh)) M) F1.heap := by
          rw [zws_ag hV hag2]
          refine (hP.kept (fun k9 x hx => hold x.1 (hlt k9 x hx))).app (fun k9 x hx => ?_)
          obtain ⟨j, hj, rfl⟩ := List.mem_map.mp (List.mem_of_getElem? hx)
          rw [hTl] at hj
          have hj := List.mem_range.mp hj
          cases j with
          | zero =>
            rw [had2 0]
            show va_at D zcl (H.size + 0, zel adK ad2 cA2 M S.length (4, N, [(S.length : Int) + 1])) _
            rw [zel_4 rfl]
            show F1.heap[H.size + 0]? = some (vp_cell _ _)
            rw [Nat.add_zero, f2, vp_cell_q, hcA2]
            congr 2
            funext j
            congr 1
            by_cases h : j < N
            · rw [if_pos h, if_pos h]
              congr 1
              have : (((S.length : Int) + 1) + (j : Int)).toNat = S.length + (j + 1) := by omega
              show _ = ad2 (((S.length : Int) + 1) + (j : Int)).toNat
              rw [this, had2]
              omega
            · rw [if_neg h, if_neg h]
          | succ j =>
            rw [had2, hT0 j (by omega), zel_a (Or.inl rfl), hcA3]
            show F1.heap[H.size + (j + 1)]? = some (vp_cell _ _)
            rw [show H.size + (j + 1) = H.size + 1 + j by omega, hrow j (by omega)]
            congr 4
            funext z
            show (0 : Int32) = Int32.ofInt (M _ _)
            rw [hV.2.2 _ (by omega)]
            rfl
        have hD1 : va_D A (zws adK ad2 cA2 (S ++ ((4, N, [(S.length : Int) + 1]) : zSh) :: List.replicate N ((1, K, []) : zSh)) M) := by
          rw [zws_ag hV hag2]
          have hr : ∀ (k9 : Nat) (x : Nat × va_E), ((List.range (((4, N, [(S.length : Int) + 1]) : zSh) :: List.replicate N ((1, K, []) : zSh)).length).map (fun j => (ad2 (S.length + j), zel adK ad2 cA2 M (S.length + j) ((((4, N, [(S.length : Int) + 1]) : zSh) :: List.replicate N ((1, K, []) : zSh)).getD j (9, 0, [])))))[k9]? = some x → x.1 = H.size + k9 := fun k9 x hx => by
            rw [List.getElem?_map] at hx
            by_cases h9 : k9 < (((4, N, [(S.length : Int) + 1]) : zSh) :: List.replicate N ((1, K, []) : zSh)).length
            · rw [List.getElem?_range h9] at hx
              cases hx
              exact had2 k9
            · rw [List.getElem?_eq_none (by rw [List.length_range]; omega)] at hx
              cases hx
          refine va_D.app hD ⟨fun i j x y hi hj hxy => ?_, fun k9 x hx => ?_⟩ (fun i j x y hi hj hxy => ?_)
          · have := hr _ _ hi
            have := hr _ _ hj
            omega
          · rw [hr _ _ hx]
            exact hA _ (by have := hS.1; omega)
          · have := hlt _ _ hi
            have := hr _ _ hj
            omega
        have hK1 : zKs D cA2 (S ++ ((4, N, [(S.length : Int) + 1]) : zSh) :: List.replicate N ((1, K, []) : zSh)) s := by
          refine ⟨hK.1, fun k q hq h0 => ?_⟩
          rcases hcase k q hq with ⟨hk, h⟩ | ⟨rfl, rfl⟩ | ⟨j, hj, rfl, rfl⟩
          · rw [(hag2 k hk).2]
            exact hK.2 k q h h0
          · rw [hcA2, zaty_4 rfl]
            refine ⟨fun N9 z9 => ?_, fA⟩
            obtain ⟨-, k9, hk9, cm9, hkk9⟩ := (hO 0 0 0).1
            exact ⟨(fun q hq => by cases hq), k9, hk9, cm9, hkk9⟩
          · rw [hcA3, zaty_1 rfl]
            refine ⟨fun N9 z9 => ?_, fC⟩
            obtain ⟨-, k9, hk9, cm9, hkk9⟩ := (hI 0 (defaultValue .int)).1
            exact ⟨(fun q hq => by cases hq), k9, hk9, cm9, hkk9⟩
        have hV1 : zval (S ++ ((4, N, [(S.length : Int) + 1]) : zSh) :: List.replicate N ((1, K, []) : zSh)) M := by
          refine ⟨fun k q hq => ?_, fun k q hq hn z => ?_, fun k hk z => hV.2.2 k (by omega) z⟩
          · rw [hlen]
            rcases hcase k q hq with ⟨-, h⟩ | ⟨rfl, rfl⟩ | ⟨j, hj, rfl, rfl⟩
            · obtain ⟨a1, a2, a3, a4⟩ := hV.1 k q h
              exact ⟨a1, fun z => ⟨(a2 z).1, (a2 z).2.1, fun j => by have := (a2 z).2.2 j; omega⟩, fun z => ⟨(a3 z).1, by have := (a3 z).2; omega⟩, fun z => ⟨(a4 z).1, fun j => by have := (a4 z).2 j; omega⟩⟩
            · exact ⟨⟨(by decide : (4 : Nat) ≤ 5), hNN⟩, fun z => absurd z (by decide : (4 : Nat) ≠ 0), fun _ => ⟨by show (0 : Int) ≤ (S.length : Int) + 1; omega, by show (S.length : Int) + 1 + (N : Int) ≤ _; omega⟩, fun z => absurd z (by decide : (4 : Nat) ≠ 5)⟩
            · exact ⟨⟨(by decide : (1 : Nat) ≤ 5), hKK⟩, fun z => absurd z (by decide : (1 : Nat) ≠ 0), fun z => absurd z (by decide : (1 : Nat) ≠ 4), fun z => absurd z (by decide : (1 : Nat) ≠ 5)⟩
          · rcases hcase k q hq with ⟨-, h⟩ | ⟨rfl, rfl⟩ | ⟨j, hj, rfl, rfl⟩
            · exact hV.2.1 k q h hn z
            · rw [hV.2.2 _ (Nat.le_refl _)]
              decide
            · rw [hV.2.2 _ (by omega)]
              decide
        have hS1 : va_S A s.heap F1.heap locs := ⟨by rw [f1]; have := hS.1; omega, fun x h1 h2 => (hold x (Nat.lt_of_lt_of_le h1 hS.1)).trans (hS.2.1 x h1 h2), hS.2.2⟩
        have kk := hG _ _ F1.heap locs als (zag.tr hag hag2 hS0) (by rw [hlen]; omega) (by rw [hsz]; omega) (by rw [zls_ag hag2 ls 0 hlk]; exact hl) hL hst (fun v hv => (hlk v hv).mono (by rw [hlen]; omega)) (List.forall_mem_cons.mpr ⟨zaref (by rw [hlen]; omega), fun v hv => ⟨(orr v hv).1.mono (by rw [hlen]; omega), (orr v hv).2⟩⟩) ⟨hP1, hD1, hK1, hV1⟩ hS1
        rw [hp, List.map_cons, zcv_1, zst_ag hag2 orr, hsz, show ((S.length : Int)).toNat = S.length by omega, show ad2 S.length = H.size from had2 0, hlen] at kk
        have kk2 : W p l e R s m args below meth c F1.heap locs (S.length - S0.length + 1 + N) (zsl S - zsl S0 + N + N * K) Q (F0 m (zpc pcs i + 4) als (.ref H.size :: rr.map (zcv adK ad))) := W.cs (by omega) (by omega) kk
        obtain ⟨t, a1, b1⟩ := kk2 F1 rfl X'
        refine ⟨t, step t ?_, b1⟩
        have e : T.heap.size = H.size := by rw [hT]
        rw [e]
        exact a1
      · cases hh
    · cases ho
  · cases ho
end
section
/-! String.length and String.charAt: JDK's own methods -/
def zyLen : MethodName := ⟨"java/lang/String", "length", "()I"⟩
def zyCod : MethodName := ⟨"java/lang/String", "coder", "()B"⟩
def zyChr : MethodName := ⟨"java/lang/String", "charAt", "(I)C"⟩
def zyLat : MethodName := ⟨"java/lang/String", "isLatin1", "()Z"⟩
def zyChk : MethodName := ⟨"java/lang/String", "checkIndex", "(II)V"⟩
def zyL1c : MethodName := ⟨"java/lang/StringLatin1", "charAt", "([BI)C"⟩
def zyPck : MethodName := ⟨"jdk/internal/util/Preconditions", "checkIndex", "(IILjava/util/function/BiFunction;)I"⟩
def zJw : List (Nat × Cond) := [(127, (Jvm.Cond.initialized "java/lang/String")),
  (128, (Jvm.Cond.initialized "java/lang/StringLatin1")),
  (129, (Jvm.Cond.initialized "jdk/internal/util/Preconditions")),
  (587, (Jvm.Cond.instanceMethod zyLen)),
  (588, (Jvm.Cond.selects "java/lang/String" zyLen zyLen)),
  (589, (Jvm.Cond.code zyLen prog_16_method_54_code (1 : Nat) (Option.some Jvm.ClassFile.FieldType.int))),
  (590, (Jvm.Cond.methodLink "java/lang/String" (335 : Nat) zyCod)),
  (591, (Jvm.Cond.instanceMethod zyCod)),
  (592, (Jvm.Cond.selects "java/lang/String" zyCod zyCod)),
  (593, (Jvm.Cond.code zyCod prog_16_method_152_code (1 : Nat) (Option.some Jvm.ClassFile.FieldType.byte))),
  (594, (Jvm.Cond.fieldLink "java/lang/String" (38 : Nat) "java/lang/String" "COMPACT_STRINGS" "Z")),
  (601, (Jvm.Cond.instanceMethod zyChr)),
  (602, (Jvm.Cond.selects "java/lang/String" zyChr zyChr)),
  (603, (Jvm.Cond.code zyChr prog_16_method_56_code (2 : Nat) (Option.some Jvm.ClassFile.FieldType.char))),
  (604, (Jvm.Cond.methodLink "java/lang/String" (492 : Nat) zyLat)),
  (605, (Jvm.Cond.instanceMethod zyLat)),
  (606, (Jvm.Cond.selects "java/lang/String" zyLat zyLat)),
  (607, (Jvm.Cond.code zyLat prog_16_method_154_code (1 : Nat) (Option.some Jvm.ClassFile.FieldType.boolean))),
  (608, (Jvm.Cond.methodLink "java/lang/String" (495 : Nat) zyL1c)),
  (609, (Jvm.Cond.static zyL1c)),
  (610, (Jvm.Cond.code zyL1c prog_17_method_2_code (2 : Nat) (Option.some Jvm.ClassFile.FieldType.char))),
  (611, (Jvm.Cond.methodLink "java/lang/StringLatin1" (9 : Nat) zyChk)),
  (612, (Jvm.Cond.static zyChk)),
  (613, (Jvm.Cond.code zyChk prog_16_method_155_code (2 : Nat) (Option.none : Option Jvm.ClassFile.FieldType))),
  (614, (Jvm.Cond.fieldLink "java/lang/String" (1053 : Nat) "jdk/internal/util/Preconditions" "SIOOBE_FORMATTER" "Ljava/util/function/BiFunction;")),
  (616, (Jvm.Cond.methodLink "java/lang/String" (1059 : Nat) zyPck)),
  (617, (Jvm.Cond.static zyPck)),
  (618, (Jvm.Cond.code zyPck prog_20_method_11_code (3 : Nat) (Option.some Jvm.ClassFile.FieldType.int))),
  (1860, (Jvm.Cond.fieldLink "java/lang/String" (9 : Nat) "java/lang/String" "value" "[B")),
  (1861, (Jvm.Cond.fieldLink "java/lang/String" (15 : Nat) "java/lang/String" "coder" "B"))]
theorem zJw_ok : ∀ e ∈ zJw, lw_tbl[e.1]? = some e.2 := by decide +kernel
theorem zJw_good : ∀ e ∈ zJw, goodWord e.2 = true := by decide +kernel
def zJl : List Cond := zJw.map (·.2)
theorem zJl_tb : ∀ w ∈ zJl, w ∈ zTb := fun w hw => by
  obtain ⟨e, he, rfl⟩ := List.mem_map.mp hw
  exact zTb_of (zJw_ok e he) (zJw_good e he)
theorem zJl_in {w : Cond} (h : w ∈ zJl) : GoodIn zJl [w] := fun w' hw' => by
  rw [List.mem_singleton.mp hw']
  exact ⟨h, zTb_good (zJl_tb w h)⟩
theorem zJl_good : GoodIn zJl zJl := fun w hw => ⟨hw, zTb_good (zJl_tb w hw)⟩
theorem zJl_goodT : GoodIn zTb zJl := fun w hw => ⟨zJl_tb w hw, zTb_good (zJl_tb w hw)⟩
def zWj (y : MethodName) (b : ByteArray) (mL : Nat) (r : Option FieldType) : List Cond := Cond.code y b mL r :: zJl
def zQp (v : Option Value) : Array Value → State → Outcome → State → Prop := fun _ st o t => o = .returned v ∧ t.heap = st.heap
theorem z_backP {p : Program} {l : Launch} {e : Env} {R : Room} {s : State} {m : MethodId} {args : Array Value} {below : List Frame} {meth : Method} {c : Code} {H : Heap} {locs : List Loc} {cells slots : Nat} {Q : State → Prop} {v : Option Value} {pc : Nat} {als : Array Slot} {st0 rest : List Value} {a : Array Value}
    (hr : va_Run p l e R s m args below meth c H locs cells slots 0 0 (F0 m pc als st0) rest (zQp v a) (fun _ => False))
    (kk : W p l e R s m args below meth c H locs cells slots Q (F0 m (pc + 3) als (v.toList ++ rest))) : W p l e R s m args below meth c H locs cells slots Q (F0 m pc als st0) := by
  intro T hT X
  obtain ⟨w, st₀, t, T', L, h0, X', hL, e1, e2, ⟨hv, hh⟩, st⟩ := hr T hT X
  cases hv
  have hL0 : L = [] := List.eq_nil_iff_forall_not_mem.mpr (fun q hq => hL q hq)
  subst hL0
  rw [List.append_nil] at X'
  obtain ⟨t2, a1, b1⟩ := kk T' (by rw [e1, hh, h0]) X'
  exact ⟨t2, st t2 a1, b1⟩
/-- the texts and the two statics of the JDK -/
def zTxt (adK adV : Nat → Nat) (A : Nat → Prop) (U : State) (H : Heap) : Prop := vk_S 17 (zTx.map List.length) (zTx.map (fun t => t.map Int32.ofInt)) adK adV A U H ∧ zStr A U H
theorem zTxt.carry {adK adV : Nat → Nat} {A : Nat → Prop} {s U : State} {H : Heap} (hvm : s.vm.Alike U.vm) (h : zTxt adK adV A s s.heap) (hq : ∀ a : Nat, a < s.heap.size → ¬ A a → H[a]? = s.heap[a]?) : zTxt adK adV A U H :=
  ⟨vk_S.moved hvm (vk_S.kept h.1 hq), (va_Z.moved hvm (h.2.1.kept hq)), (va_Zq.moved hvm (h.2.2.kept hq))⟩
def zPs (adK adV : Nat → Nat) (A : Nat → Prop) (as : List Value) : Array Value → State → Prop := fun v U => v = as.toArray ∧ zTxt adK adV A U U.heap
theorem zPs_blind {adK adV : Nat → Nat} {A : Nat → Prop} {as : List Value} : FrameBlind (zPs adK adV A as) := fun a U g mk h => ⟨h.1, zTxt.carry (s := U) (Vm.Alike.refl U.vm) h.2 (fun _ _ _ => rfl)⟩
theorem zJopen {l : Launch} {adK adV : Nat → Nat} {A : Nat → Prop} {as : List Value} {y : MethodName} {b : ByteArray} {mL : Nat} {r : Option FieldType} {rm : Room} {v : Option Value} (hy : plainName y.cls = true) (hfit : (lg_sl as).length ≤ mL)
    (body : ∀ (p : Program) (e : Env) (s : State) (m : MethodId) (args : Array Value) (below : List Frame) (meth : Method) (c : Code) (als : Array Slot), p.tables.exec = Jvm.exec → c.code = b → c.maxLocals = mL → meth.sig.returnType = r → meth.locks = false → s.vm.findClass y.cls = some m.cls → (∀ w ∈ zJl, w.before args s = true) → zTxt adK adV A s s.heap →
      lv_has als mL (lv_args 0 as) → W p l e rm s m args below meth c s.heap [] 0 0 (MQ below (zQp v) args s 0 0 (fun _ => False)) (F0 m 0 als [])) : Met l y (zWj y b mL r) rm (zPs adK adV A as) (zQp v) 0 0 (fun _ => False) := by
  refine Met.ofW (cc := b) (maxL := mL) (ret := r) hy rfl ?_
  intro p e s m args below meth c s₁ B hml hv
  obtain ⟨hargs, hT⟩ := hv
  have hl := lv_entry as (n := mL) hfit
  have hgo := body p e s m args below meth c _ B.exec B.bytes hml B.returns B.notSynchronized (findClass_of_methodNamed B.named) (fun w hw => atoms_spec (ws := zWj y b mL r) B.pre w (List.mem_cons_of_mem _ hw)) hT hl
  have e : entryFrame m args mL = F0 m 0 ((lg_sl as ++ List.replicate (mL - (lg_sl as).length) Slot.unset).toArray) [] := by rw [hargs, lg_entry_eq]
  rw [e]
  exact hgo
theorem zJ_ret {p : Program} {l : Launch} {e : Env} {R : Room} {s : State} {m : MethodId} {args : Array Value} {below : List Frame} {meth : Method} {c : Code} {b : ByteArray} {r : FieldType} {v : Int32} {pc : Nat} {als : Array Slot} (hx : p.tables.exec = Jvm.exec) (hb : c.code = b) (hr : meth.sig.returnType = some r) (hlk : meth.locks = false) (hn : narrow r (.int v) = .int v) (hd : decode b pc = .ok (.ireturn, 1)) :
    W p l e R s m args below meth c s.heap [] 0 0 (MQ below (zQp (some (.int v))) args s 0 0 (fun _ => False)) (F0 m pc als [.int v]) :=
  W.zret hx hb hr hn (fun t ht _ => ⟨rfl, ht⟩) (fun _ h => by cases h) hd hlk
theorem zc_cod (l : Launch) (adK adV : Nat → Nat) (A : Nat → Prop) {i : Nat} (hi : i < 17) : Met l zyCod (zWj zyCod prog_16_method_152_code 1 (some .byte)) ({ frames := 1, cells := 0, slots := 0, locals := 20 }) (zPs adK adV A [.ref (adK i)]) (zQp (some (.int 0))) 0 0 (fun _ => False) := by
  refine zJopen (by decide) (Nat.le_of_ble_eq_true rfl) ?_
  intro p e s m args below meth c als hx hb hml hr hlk hown hts hT hl
  refine va_gets hx hb hT.2.1 va_S.rf hown (hts (.fieldLink "java/lang/String" 38 "java/lang/String" "COMPACT_STRINGS" "Z") (by decide +kernel)) (fun _ h => h) (show decode prog_16_method_152_code 0 = .ok (.getstatic 38, 3) by decide +kernel) ?_
  refine lv_if_eq hx hb (show decode prog_16_method_152_code 3 = .ok (.ifCond .eq 10, 3) by decide +kernel) (tgt := 13) rfl (fun z => absurd z (by decide)) (fun _ => ?_)
  refine lv_aload_n hx hb (show decode prog_16_method_152_code 6 = .ok (.aload_n 0, 1) by decide +kernel) rfl (lv_at hl 0 rfl) ?_
  refine vk_getf hx hb (hT.1.1 i hi).2.1 va_S.rf hown (hts (.fieldLink "java/lang/String" 15 "java/lang/String" "coder" "B") (by decide +kernel)) (fun _ h => h) (show decode prog_16_method_152_code 7 = .ok (.getfield 15, 3) by decide +kernel) ?_
  refine lv_goto hx hb (show decode prog_16_method_152_code 10 = .ok (.goto 4, 3) by decide +kernel) (tgt := 14) rfl ?_
  exact zJ_ret hx hb hr hlk rfl (by decide +kernel)
theorem zi_sr0 (x : Int32) : x >>> ((0 : Int32) &&& 31) = x := by
  rw [show ((0 : Int32) &&& 31) = 0 by decide]
  simp
theorem zJ_V {own : String} {idx : Nat} {y : MethodName} {b : ByteArray} {mL : Nat} {r : Option FieldType} (h : ∀ w ∈ ([.methodLink own idx y, .instanceMethod y, .selects y.cls y y, .initialized y.cls, .code y b mL r] : List Cond), w ∈ zJl) : GoodIn zJl (wsV own idx y.cls y (zWj y b mL r)) := by
  intro w hw
  unfold wsV at hw
  rcases List.mem_append.mp hw with h1 | h1
  · exact zJl_good w (h w (List.mem_append_left [Cond.code y b mL r] h1))
  · rcases List.mem_cons.mp h1 with rfl | h2
    · exact zJl_good _ (h _ (by simp))
    · exact zJl_good w h2
theorem zJ_S {own : String} {idx : Nat} {y : MethodName} {b : ByteArray} {mL : Nat} {r : Option FieldType} (h : ∀ w ∈ ([.methodLink own idx y, .static y, .initialized y.cls, .code y b mL r] : List Cond), w ∈ zJl) : GoodIn zJl (va_wsS own idx y (zWj y b mL r)) := by
  intro w hw
  unfold va_wsS at hw
  rcases List.mem_append.mp hw with h1 | h1
  · exact zJl_good w (h w (List.mem_append_left [Cond.code y b mL r] h1))
  · rcases List.mem_cons.mp h1 with rfl | h2
    · exact zJl_good _ (h _ (by simp))
    · exact zJl_good w h2
theorem zPs_pre {adK adV : Nat → Nat} {A : Nat → Prop} {s : State} {as : List Value} (hT : zTxt adK adV A s s.heap) : ∀ U : State, U.heap = s.heap → s.WarmedH U.vm → zPs adK adV A as as.toArray U := fun U hU hW => ⟨rfl, hT.carry (H := U.heap) hW.alike (fun _ _ _ => by rw [hU])⟩
theorem zc_len (l : Launch) (adK adV : Nat → Nat) (A : Nat → Prop) {i : Nat} (hi : i < 17) : Met l zyLen (zWj zyLen prog_16_method_54_code 1 (some .int)) ({ frames := 2, cells := 0, slots := 0, locals := 40 }) (zPs adK adV A [.ref (adK i)]) (zQp (some (.int (Int32.ofNat ((zTx.map List.length).getD i 0))))) 0 0 (fun _ => False) := by
  refine zJopen (by decide) (Nat.le_of_ble_eq_true rfl) ?_
  intro p e s m args below meth c als hx hb hml hr hlk hown hts hT hl
  refine lv_aload_n hx hb (show decode prog_16_method_54_code 0 = .ok (.aload_n 0, 1) by decide +kernel) rfl (lv_at hl 0 rfl) ?_
  refine vk_getf hx hb (hT.1.1 i hi).2.2.1 va_S.rf hown (hts (.fieldLink "java/lang/String" 9 "java/lang/String" "value" "[B") (by decide +kernel)) (fun _ h => h) (show decode prog_16_method_54_code 1 = .ok (.getfield 9, 3) by decide +kernel) ?_
  refine va_tlen hx hb (hT.1.1 i hi).2.2.2 va_S.rf rfl (show decode prog_16_method_54_code 4 = .ok (.arraylength, 1) by decide +kernel) ?_
  refine lv_aload_n hx hb (show decode prog_16_method_54_code 5 = .ok (.aload_n 0, 1) by decide +kernel) rfl (lv_at hl 0 rfl) ?_
  refine z_backP (va_runV (As := []) (rest := [.int (Int32.ofNat ((zTx.map List.length).getD i 0))]) (C := "java/lang/String") ⟨hx, hb, hml, hown, hts⟩ (zc_cod l adK adV A hi) (cwV 0 hts (zJ_V (own := "java/lang/String") (idx := 335) (y := zyCod) (by decide +kernel)) rfl rfl rfl ⟨rfl, by decide, by decide, rfl⟩ ⟨Nat.le_of_ble_eq_true rfl, Nat.le_of_ble_eq_true rfl⟩) ⟨zPs_blind, vk_recv hT.1 hi va_S.rf, zPs_pre hT⟩ rfl rfl hl.1 rfl (by show 0 + (1 + 0) ≤ 8; omega) (show decode prog_16_method_54_code 6 = .ok (.invokevirtual 335, 3) by decide +kernel) ⟨Nat.zero_le _, Nat.zero_le _⟩) ?_
  refine lv_ishr hx hb (show decode prog_16_method_54_code 9 = .ok (.ishr, 1) by decide +kernel) ?_
  rw [zi_sr0]
  exact zJ_ret hx hb hr hlk rfl (by decide +kernel)
theorem zJ_vret {p : Program} {l : Launch} {e : Env} {R : Room} {s : State} {m : MethodId} {args : Array Value} {below : List Frame} {meth : Method} {c : Code} {b : ByteArray} {pc : Nat} {als : Array Slot} (hx : p.tables.exec = Jvm.exec) (hb : c.code = b) (hr : meth.sig.returnType = none) (hlk : meth.locks = false) (hd : decode b pc = .ok (.return_, 1)) :
    W p l e R s m args below meth c s.heap [] 0 0 (MQ below (zQp none) args s 0 0 (fun _ => False)) (F0 m pc als []) :=
  W.vret hx hb hr (fun t ht _ => ⟨rfl, ht⟩) (fun _ h => by cases h) hd hlk
theorem zc_lat (l : Launch) (adK adV : Nat → Nat) (A : Nat → Prop) {i : Nat} (hi : i < 17) : Met l zyLat (zWj zyLat prog_16_method_154_code 1 (some .boolean)) ({ frames := 1, cells := 0, slots := 0, locals := 20 } : Room) (zPs adK adV A [.ref (adK i)]) (zQp (some (.int 1))) 0 0 (fun _ => False) := by
  refine zJopen (by decide) (Nat.le_of_ble_eq_true rfl) ?_
  intro p e s m args below meth c als hx hb hml hr hlk hown hts hT hl
  refine va_gets hx hb hT.2.1 va_S.rf hown (hts (.fieldLink "java/lang/String" 38 "java/lang/String" "COMPACT_STRINGS" "Z") (by decide +kernel)) (fun _ h => h) (show decode prog_16_method_154_code 0 = .ok (.getstatic 38, 3) by decide +kernel) ?_
  refine lv_if_eq hx hb (show decode prog_16_method_154_code 3 = .ok (.ifCond .eq 14, 3) by decide +kernel) (tgt := 17) rfl (fun z => absurd z (by decide)) (fun _ => ?_)
  refine lv_aload_n hx hb (show decode prog_16_method_154_code 6 = .ok (.aload_n 0, 1) by decide +kernel) rfl (lv_at hl 0 rfl) ?_
  refine vk_getf hx hb (hT.1.1 i hi).2.1 va_S.rf hown (hts (.fieldLink "java/lang/String" 15 "java/lang/String" "coder" "B") (by decide +kernel)) (fun _ h => h) (show decode prog_16_method_154_code 7 = .ok (.getfield 15, 3) by decide +kernel) ?_
  refine lv_if_ne hx hb (show decode prog_16_method_154_code 10 = .ok (.ifCond .ne 7, 3) by decide +kernel) (tgt := 17) rfl (fun z => absurd rfl z) (fun _ => ?_)
  refine lv_iconst hx hb (show decode prog_16_method_154_code 13 = .ok (.iconst 1, 1) by decide +kernel) rfl ?_
  refine lv_goto hx hb (show decode prog_16_method_154_code 14 = .ok (.goto 4, 3) by decide +kernel) (tgt := 18) rfl ?_
  exact zJ_ret hx hb hr hlk rfl (by decide +kernel)
theorem zc_pck (l : Launch) (adK adV : Nat → Nat) (A : Nat → Prop) {j n : Int32} {f : Value} (h0 : ¬ j < 0) (hj : j < n) (hf : f.category = 1) : Met l zyPck (zWj zyPck prog_20_method_11_code 3 (some .int)) ({ frames := 1, cells := 0, slots := 0, locals := 20 } : Room) (zPs adK adV A [.int j, .int n, f]) (zQp (some (.int j))) 0 0 (fun _ => False) := by
  have e : lg_sl [.int j, .int n, f] = [.val (.int j), .val (.int n), .val f] := by
    unfold lg_sl
    rw [List.flatMap_cons, List.flatMap_cons, List.flatMap_cons, if_neg (show ¬ (Value.int j).category = 2 from fun z => absurd (show (1 : Nat) = 2 from z) (by decide)), if_neg (show ¬ (Value.int n).category = 2 from fun z => absurd (show (1 : Nat) = 2 from z) (by decide)), if_neg (by rw [hf]; decide)]
    rfl
  refine zJopen (by decide) (by rw [e]; exact Nat.le_refl _) ?_
  intro p e s m args below meth c als hx hb hml hr hlk hown hts hT hl
  have l0 := lv_at hl 0 (i := 0) (v := .int j) rfl
  have l1 := lv_at hl 1 (i := 1) (v := .int n) rfl
  refine lv_iload_n hx hb (show decode prog_20_method_11_code 0 = .ok (.iload_n 0, 1) by decide +kernel) rfl l0 ?_
  refine lv_if_lt hx hb (show decode prog_20_method_11_code 1 = .ok (.ifCond .lt 8, 3) by decide +kernel) (tgt := 9) rfl (fun z => absurd z h0) (fun _ => ?_)
  refine lv_iload_n hx hb (show decode prog_20_method_11_code 4 = .ok (.iload_n 0, 1) by decide +kernel) rfl l0 ?_
  refine lv_iload_n hx hb (show decode prog_20_method_11_code 5 = .ok (.iload_n 1, 1) by decide +kernel) rfl l1 ?_
  refine lv_icmp_lt hx hb (show decode prog_20_method_11_code 6 = .ok (.if_icmp .lt 10, 3) by decide +kernel) (tgt := 16) rfl (fun _ => ?_) (fun z => absurd hj z)
  refine lv_iload_n hx hb (show decode prog_20_method_11_code 16 = .ok (.iload_n 0, 1) by decide +kernel) rfl l0 ?_
  exact zJ_ret hx hb hr hlk rfl (by decide +kernel)
theorem zc_chk (l : Launch) (adK adV : Nat → Nat) (A : Nat → Prop) {j n : Int32} (h0 : ¬ j < 0) (hj : j < n) : Met l zyChk (zWj zyChk prog_16_method_155_code 2 none) ({ frames := 2, cells := 0, slots := 0, locals := 45 } : Room) (zPs adK adV A [.int j, .int n]) (zQp none) 0 0 (fun _ => False) := by
  refine zJopen (by decide) (Nat.le_of_ble_eq_true rfl) ?_
  intro p e s m args below meth c als hx hb hml hr hlk hown hts hT hl
  refine lv_iload_n hx hb (show decode prog_16_method_155_code 0 = .ok (.iload_n 0, 1) by decide +kernel) rfl (lv_at hl 0 rfl) ?_
  refine lv_iload_n hx hb (show decode prog_16_method_155_code 1 = .ok (.iload_n 1, 1) by decide +kernel) rfl (lv_at hl 1 rfl) ?_
  have go : ∀ f : Value, f.category = 1 → W p l e ({ frames := 2, cells := 0, slots := 0, locals := 45 } : Room) s m args below meth c s.heap [] 0 0 (MQ below (zQp none) args s 0 0 (fun _ => False)) (F0 m 5 als [f, .int n, .int j]) := fun f hf => by
    refine z_backP (va_runS (As := [.int j, .int n, f]) (rest := []) ⟨hx, hb, hml, hown, hts⟩ (zc_pck l adK adV A h0 hj hf) (va_cwS 3 hts (zJ_S (own := "java/lang/String") (idx := 1059) (y := zyPck) (by decide +kernel)) rfl rfl rfl ⟨by decide, by decide, rfl⟩ ⟨Nat.le_of_ble_eq_true rfl, Nat.le_of_ble_eq_true rfl⟩) ⟨zPs_blind, zPs_pre hT⟩ rfl rfl hl.1 rfl (by show 0 + 0 ≤ 8; omega) (show decode prog_16_method_155_code 5 = .ok (.invokestatic 1059, 3) by decide +kernel) ⟨Nat.zero_le _, Nat.zero_le _⟩) ?_
    refine lv_pop hx hb (show decode prog_16_method_155_code 8 = .ok (.pop, 1) by decide +kernel) rfl ?_
    exact zJ_vret hx hb hr hlk (by decide +kernel)
  rcases hT.2.2 with hz | ⟨t, hz⟩
  · exact va_gets hx hb hz va_S.rf hown (hts (.fieldLink "java/lang/String" 1053 "jdk/internal/util/Preconditions" "SIOOBE_FORMATTER" "Ljava/util/function/BiFunction;") (by decide +kernel)) (fun _ h => h) (show decode prog_16_method_155_code 2 = .ok (.getstatic 1053, 3) by decide +kernel) (go .null rfl)
  · exact va_gets hx hb hz va_S.rf hown (hts (.fieldLink "java/lang/String" 1053 "jdk/internal/util/Preconditions" "SIOOBE_FORMATTER" "Ljava/util/function/BiFunction;") (by decide +kernel)) (fun _ h => h) (show decode prog_16_method_155_code 2 = .ok (.getstatic 1053, 3) by decide +kernel) (go (.ref t) rfl)
def zlenT (i : Nat) : Nat := (zTx.map List.length).getD i 0
def zchT (i k : Nat) : Int32 := ((zTx.map (fun t => t.map Int32.ofInt)).getD i []).getD k 0
theorem zch_ok : ∀ i, i < 17 → ∀ k, k < zlenT i → (Int32.ofInt (k : Int)).toNatClampNeg = k ∧ ¬ Int32.ofInt (k : Int) < 0 ∧ Int32.ofInt (k : Int) < Int32.ofNat (zlenT i) ∧ ((zchT i k &&& 255).toUInt32 % 65536).toInt32 = zchT i k ∧ 0 ≤ (zchT i k).toInt ∧ (zchT i k).toInt ≤ 127 := by decide +kernel
theorem znar : ∀ i, i < 17 → ∀ k, k < zlenT i → narrow .char (.int (zchT i k)) = .int (zchT i k) := by decide +kernel
theorem zc_l1c (l : Launch) (adK adV : Nat → Nat) (A : Nat → Prop) {i k : Nat} (hi : i < 17) (hk : k < zlenT i) : Met l zyL1c (zWj zyL1c prog_17_method_2_code 2 (some .char)) ({ frames := 3, cells := 0, slots := 0, locals := 70 } : Room) (zPs adK adV A [.ref (adV i), .int (Int32.ofInt (k : Int))]) (zQp (some (.int (zchT i k)))) 0 0 (fun _ => False) := by
  refine zJopen (by decide) (Nat.le_of_ble_eq_true rfl) ?_
  intro p e s m args below meth c als hx hb hml hr hlk hown hts hT hl
  obtain ⟨g1, g2, g3, g4, -⟩ := zch_ok i hi k hk
  refine lv_iload_n hx hb (show decode prog_17_method_2_code 0 = .ok (.iload_n 1, 1) by decide +kernel) rfl (lv_at hl 1 rfl) ?_
  refine lv_aload_n hx hb (show decode prog_17_method_2_code 1 = .ok (.aload_n 0, 1) by decide +kernel) rfl (lv_at hl 0 rfl) ?_
  refine va_tlen hx hb (hT.1.1 i hi).2.2.2 va_S.rf rfl (show decode prog_17_method_2_code 2 = .ok (.arraylength, 1) by decide +kernel) ?_
  refine z_backP (va_runS (As := [.int (Int32.ofInt (k : Int)), .int (Int32.ofNat (zlenT i))]) (rest := []) ⟨hx, hb, hml, hown, hts⟩ (zc_chk l adK adV A g2 g3) (va_cwS 2 hts (zJ_S (own := "java/lang/StringLatin1") (idx := 9) (y := zyChk) (by decide +kernel)) rfl rfl rfl ⟨by decide, by decide, rfl⟩ ⟨Nat.le_of_ble_eq_true rfl, Nat.le_of_ble_eq_true rfl⟩) ⟨zPs_blind, zPs_pre hT⟩ rfl rfl hl.1 rfl (by show 0 + 0 ≤ 8; omega) (show decode prog_17_method_2_code 3 = .ok (.invokestatic 9, 3) by decide +kernel) ⟨Nat.zero_le _, Nat.zero_le _⟩) ?_
  refine lv_aload_n hx hb (show decode prog_17_method_2_code 6 = .ok (.aload_n 0, 1) by decide +kernel) rfl (lv_at hl 0 rfl) ?_
  refine lv_iload_n hx hb (show decode prog_17_method_2_code 7 = .ok (.iload_n 1, 1) by decide +kernel) rfl (lv_at hl 1 rfl) ?_
  refine va_tb hx hb (hT.1.1 i hi).2.2.2 va_S.rf (i := Int32.ofInt (k : Int)) (by
    intro z
    rcases z with z | z
    · exact g2 z
    · rw [g1] at z
      exact absurd hk (Nat.not_lt.mpr z)) (v := .int (zchT i k)) (by rw [g1]; rfl) (show decode prog_17_method_2_code 8 = .ok (.baload, 1) by decide +kernel) ?_
  refine lv_sipush hx hb (show decode prog_17_method_2_code 9 = .ok (.sipush 255, 3) by decide +kernel) (v := 255) (by decide) ?_
  refine lv_iand hx hb (show decode prog_17_method_2_code 12 = .ok (.iand, 1) by decide +kernel) ?_
  refine lv_i2c hx hb (show decode prog_17_method_2_code 13 = .ok (.i2c, 1) by decide +kernel) g4 ?_
  exact zJ_ret hx hb hr hlk (znar i hi k hk) (by decide +kernel)
theorem zc_chr (l : Launch) (adK adV : Nat → Nat) (A : Nat → Prop) {i k : Nat} (hi : i < 17) (hk : k < zlenT i) : Met l zyChr (zWj zyChr prog_16_method_56_code 2 (some .char)) ({ frames := 4, cells := 0, slots := 0, locals := 100 } : Room) (zPs adK adV A [.ref (adK i), .int (Int32.ofInt (k : Int))]) (zQp (some (.int (zchT i k)))) 0 0 (fun _ => False) := by
  refine zJopen (by decide) (Nat.le_of_ble_eq_true rfl) ?_
  intro p e s m args below meth c als hx hb hml hr hlk hown hts hT hl
  refine lv_aload_n hx hb (show decode prog_16_method_56_code 0 = .ok (.aload_n 0, 1) by decide +kernel) rfl (lv_at hl 0 rfl) ?_
  refine z_backP (va_runV (As := []) (rest := []) (C := "java/lang/String") ⟨hx, hb, hml, hown, hts⟩ (zc_lat l adK adV A hi) (cwV 0 hts (zJ_V (own := "java/lang/String") (idx := 492) (y := zyLat) (by decide +kernel)) rfl rfl rfl ⟨rfl, by decide, by decide, rfl⟩ ⟨Nat.le_of_ble_eq_true rfl, Nat.le_of_ble_eq_true rfl⟩) ⟨zPs_blind, vk_recv hT.1 hi va_S.rf, zPs_pre hT⟩ rfl rfl hl.1 rfl (by show 0 + 0 ≤ 8; omega) (show decode prog_16_method_56_code 1 = .ok (.invokevirtual 492, 3) by decide +kernel) ⟨Nat.zero_le _, Nat.zero_le _⟩) ?_
  refine lv_if_eq hx hb (show decode prog_16_method_56_code 4 = .ok (.ifCond .eq 12, 3) by decide +kernel) (tgt := 16) rfl (fun z => absurd z (by decide)) (fun _ => ?_)
  refine lv_aload_n hx hb (show decode prog_16_method_56_code 7 = .ok (.aload_n 0, 1) by decide +kernel) rfl (lv_at hl 0 rfl) ?_
  refine vk_getf hx hb (hT.1.1 i hi).2.2.1 va_S.rf hown (hts (.fieldLink "java/lang/String" 9 "java/lang/String" "value" "[B") (by decide +kernel)) (fun _ h => h) (show decode prog_16_method_56_code 8 = .ok (.getfield 9, 3) by decide +kernel) ?_
  refine lv_iload_n hx hb (show decode prog_16_method_56_code 11 = .ok (.iload_n 1, 1) by decide +kernel) rfl (lv_at hl 1 rfl) ?_
  refine z_backP (va_runS (As := [.ref (adV i), .int (Int32.ofInt (k : Int))]) (rest := []) ⟨hx, hb, hml, hown, hts⟩ (zc_l1c l adK adV A hi hk) (va_cwS 2 hts (zJ_S (own := "java/lang/String") (idx := 495) (y := zyL1c) (by decide +kernel)) rfl rfl rfl ⟨by decide, by decide, rfl⟩ ⟨Nat.le_of_ble_eq_true rfl, Nat.le_of_ble_eq_true rfl⟩) ⟨zPs_blind, zPs_pre hT⟩ rfl rfl hl.1 rfl (by show 0 + 0 ≤ 8; omega) (show decode prog_16_method_56_code 12 = .ok (.invokestatic 495, 3) by decide +kernel) ⟨Nat.zero_le _, Nat.zero_le _⟩) ?_
  exact zJ_ret hx hb hr hlk (znar i hi k hk) (by decide +kernel)
end
section
/-! All rows together -/
theorem zTb_V {own : String} {idx : Nat} {y : MethodName} {b : ByteArray} {mL : Nat} {r : Option FieldType} (hl : Cond.methodLink own idx y ∈ zTb) (h : ∀ w ∈ ([.instanceMethod y, .selects y.cls y y, .initialized y.cls, .code y b mL r] : List Cond), w ∈ zJl) : GoodIn zTb (wsV own idx y.cls y (zWj y b mL r)) := by
  intro w hw
  unfold wsV at hw
  rcases List.mem_append.mp hw with h1 | h1
  · rcases List.mem_cons.mp h1 with rfl | h1
    · exact ⟨hl, zTb_good hl⟩
    · exact zJl_goodT w (h w (List.mem_append_left [Cond.code y b mL r] h1))
  · rcases List.mem_cons.mp h1 with rfl | h2
    · exact zJl_goodT _ (h _ (by simp))
    · exact zJl_goodT w h2
theorem zol_in {op own k : Nat} (h58 : op = 58 ∨ op = 59) (h : zOl.any (fun e => e.1 == op && (e.2.1 == own && e.2.2.1 == k)) = true) : Cond.methodLink (zC own) k (if op = 58 then zyLen else zyChr) ∈ zTb := by
  obtain ⟨q, hq, he⟩ := List.any_eq_true.mp h
  simp only [Bool.and_eq_true, beq_iff_eq] at he
  obtain ⟨e1, e2, e3⟩ := he
  have hw := of_decide_eq_true (List.all_eq_true.mp zw_ol q hq)
  rw [e1, e2, e3, if_neg (by omega), if_neg (by omega), if_neg (by omega), if_neg (by omega), if_neg (by omega)] at hw
  exact zTb_of hw rfl
theorem zlen_e : ∀ i, i < 17 → Int32.ofNat (zlenT i) = Int32.ofInt ((zTx.getD i []).length : Int) ∧ ((zTx.getD i []).length : Int) ≤ 100 := by decide +kernel
theorem zk_tlen : zOK 58 zo_tlen (zh_vi 58) := by
  intro p l e R s m args below meth c Q D adK adV A nL k pcs S0 ad0 cA0 own cc x n i a ls st S M r F hd hp hn hh hm ho hc hs hG
  unfold zo_tlen at ho
  split at ho
  · rename_i v rr
    split at ho
    · rename_i hi
      obtain ⟨hv, hi17, h4⟩ := hi
      cases ho
      intro ad cA H locs als hag hS0 hZ0 hl hL hst hlk hok hR hS
      unfold zh_vi at hh
      split at hh
      · rename_i kx
        simp only [Bool.and_eq_true, decide_eq_true_eq] at hh
        obtain ⟨e1, hany⟩ := hh
        have h13 := zol_lt hany
        obtain ⟨hx, hb, hml, hown, hts, hroom, hA, hf1, hf2, hnest, hao, haoa, hstr, htl, hss⟩ := F
        rw [if_neg (by omega)] at hown
        rw [zlen_of hn rfl] at hd hp
        have hr5 := hf2 ⟨_, hm, Or.inl rfl⟩
        have hi1 : v.2.toNat < 17 := by omega
        obtain ⟨q1, q2⟩ := zlen_e _ hi1
        have kk := hG ad cA H locs als hag hS0 hZ0 hl hL hst hlk (List.forall_mem_cons.mpr ⟨zint (by omega), (List.forall_mem_cons.mp hok).2⟩) hR hS
        rw [hp, List.map_cons, zcv_0, ← q1] at kk
        rw [List.map_cons, zcv_t hv]
        have hT : zTxt adK adV A s s.heap := ⟨hstr, hss⟩
        exact z_backP (va_runV (As := []) (rest := rr.map (zcv adK ad)) (C := "java/lang/String") ⟨hx, hb, hml, hown, hts⟩ (zc_len l adK adV A hi1) (cwV 0 hts (zTb_V (y := zyLen) (zol_in (Or.inl rfl) hany) (by decide +kernel)) rfl rfl rfl ⟨rfl, by decide, by decide, rfl⟩ ⟨by show 2 + 1 ≤ _; omega, by show 8 + (1 + 11) + 40 ≤ _; omega⟩) ⟨zPs_blind, vk_recv hstr hi1 hS, fun U hU hW => ⟨rfl, hT.carry hW.alike (fun q h1 h2 => by rw [hU]; exact hS.2.1 q h1 h2)⟩⟩ rfl rfl hl.1 rfl (lv_room (zcat_sum rr h4)) hd ⟨hc, hs⟩) kk
      · cases hh
    · cases ho
  · cases ho
theorem zch_e : ∀ i, i < 17 → ∀ k, k < zlenT i → zchT i k = Int32.ofInt ((zTx.getD i []).getD k 0) ∧ 0 ≤ (zTx.getD i []).getD k 0 ∧ (zTx.getD i []).getD k 0 ≤ 127 := by decide +kernel
theorem zlen_n : ∀ i, i < 17 → zlenT i = (zTx.getD i []).length := by decide +kernel
theorem zk_char : zOK 59 zo_char (zh_vi 59) := by
  intro p l e R s m args below meth c Q D adK adV A nL k pcs S0 ad0 cA0 own cc x n i a ls st S M r F hd hp hn hh hm ho hc hs hG
  unfold zo_char at ho
  split at ho
  · rename_i w v rr
    split at ho
    · rename_i hi
      obtain ⟨⟨hw, hv, h4⟩, hi17, hw0, hw1⟩ := hi
      cases ho
      intro ad cA H locs als hag hS0 hZ0 hl hL hst hlk hok hR hS
      unfold zh_vi at hh
      split at hh
      · rename_i kx
        simp only [Bool.and_eq_true, decide_eq_true_eq] at hh
        obtain ⟨e1, hany⟩ := hh
        have h13 := zol_lt hany
        obtain ⟨hx, hb, hml, hown, hts, hroom, hA, hf1, hf2, hnest, hao, haoa, hstr, htl, hss⟩ := F
        rw [if_neg (by omega)] at hown
        rw [zlen_of hn rfl] at hd hp
        have hr5 := hf2 ⟨_, hm, Or.inr rfl⟩
        have hi1 : v.2.toNat < 17 := by omega
        have hk1 : w.2.toNat < zlenT v.2.toNat := by rw [zlen_n _ hi1]; omega
        obtain ⟨q1, q2, q3⟩ := zch_e _ hi1 _ hk1
        have kk := hG ad cA H locs als hag hS0 hZ0 hl hL hst hlk (List.forall_mem_cons.mpr ⟨zint (by omega), (List.forall_mem_cons.mp (List.forall_mem_cons.mp hok).2).2⟩) hR hS
        rw [hp, List.map_cons, zcv_0, ← q1] at kk
        rw [List.map_cons, List.map_cons, zcv_i hw, zcv_t hv, show w.2 = ((w.2.toNat : Nat) : Int) by omega]
        have hT : zTxt adK adV A s s.heap := ⟨hstr, hss⟩
        exact z_backP (va_runV (As := [.int (Int32.ofInt ((w.2.toNat : Nat) : Int))]) (rest := rr.map (zcv adK ad)) (C := "java/lang/String") ⟨hx, hb, hml, hown, hts⟩ (zc_chr l adK adV A hi1 hk1) (cwV 1 hts (zTb_V (y := zyChr) (zol_in (Or.inr rfl) hany) (by decide +kernel)) rfl rfl rfl ⟨rfl, by decide, by decide, rfl⟩ ⟨by show 4 + 1 ≤ _; omega, by show 8 + (2 + 11) + 100 ≤ _; omega⟩) ⟨zPs_blind, vk_recv hstr hi1 hS, fun U hU hW => ⟨rfl, hT.carry hW.alike (fun q h1 h2 => by rw [hU]; exact hS.2.1 q h1 h2)⟩⟩ rfl rfl hl.1 rfl (lv_room (zcat_sum rr h4)) hd ⟨hc, hs⟩) kk
      · cases hh
    · cases ho
  · cases ho
theorem zk_iadd : zOK 8 (zo_bin 0 (fun x y => zinR (x + y)) (fun x y => x + y)) (zh_is .iadd) := zk_bin (fun u v => u + v) rfl (fun hx hb _ _ _ hd kk => lv_iadd hx hb hd kk) (fun u v h _ _ => ⟨zi_add u v, of_decide_eq_true h⟩)
theorem zk_isub : zOK 9 (zo_bin 0 (fun x y => zinR (x - y)) (fun x y => x - y)) (zh_is .isub) := zk_bin (fun u v => u - v) rfl (fun hx hb _ _ _ hd kk => lv_isub hx hb hd kk) (fun u v h _ _ => ⟨zi_sub u v, of_decide_eq_true h⟩)
theorem zk_imul : zOK 10 (zo_bin 0 (fun x y => zinR (x * y)) (fun x y => x * y)) (zh_is .imul) := zk_bin (fun u v => u * v) rfl (fun hx hb _ _ _ hd kk => lv_imul hx hb hd kk) (fun u v h _ _ => ⟨zi_mul u v, of_decide_eq_true h⟩)
theorem zk_irem : zOK 11 (zo_bin 0 (fun x y => decide (0 ≤ x ∧ 0 < y)) (fun x y => x % y)) (zh_is .irem) := zk_bin (fun u v => u - u / v * v) rfl (fun {_ _ _ _ _ _ _ _ _ _ _ _ _ _ _ _ _ _ _ u v} hx hb h _ rv hd kk => lv_irem hx hb hd (fun z => by
    rw [zi_0, zi_eq rv (by decide)] at z
    have := (of_decide_eq_true h).2
    omega) kk) (fun u v h ru rv => ⟨zi_ir (of_decide_eq_true h) ru rv, by
    have h := of_decide_eq_true h
    have h1 := Int.emod_nonneg u (show v ≠ 0 by omega)
    have h2 := Int.emod_lt_of_pos u h.2
    omega⟩)
theorem zk_ishl : zOK 12 (zo_bin 0 (fun x y => decide ((0 ≤ y ∧ y < 32) ∧ -2147483648 ≤ x * 2 ^ y.toNat ∧ x * 2 ^ y.toNat ≤ 2147483647)) (fun x y => x * 2 ^ y.toNat)) (zh_is .ishl) := zk_bin (fun u v => u <<< (v &&& 31)) rfl (fun hx hb _ _ _ hd kk => lv_ishl hx hb hd kk) (fun u v h _ _ => ⟨zi_sh (of_decide_eq_true h).1, (of_decide_eq_true h).2⟩)
theorem zk_ishr : zOK 13 (zo_bin 0 (fun _ y => decide (0 ≤ y ∧ y < 32)) (fun x y => x / 2 ^ y.toNat)) (zh_is .ishr) := zk_bin (fun u v => u >>> (v &&& 31)) rfl (fun hx hb _ _ _ hd kk => lv_ishr hx hb hd kk) (fun u v h ru _ => zi_sr (of_decide_eq_true h) ru)
theorem zk_iushr : zOK 14 (zo_bin 0 (fun _ y => decide (0 ≤ y ∧ y < 32)) zushr) (zh_is .iushr) := zk_bin (fun u v => (u.toUInt32 >>> (v.toUInt32 &&& Int32.toUInt32 31)).toInt32) rfl (fun hx hb _ _ _ hd kk => lv_iushr hx hb hd rfl kk) (fun u v h ru _ => zi_us (of_decide_eq_true h) ru)
theorem zk_iand : zOK 15 (zo_bin 0 (fun x y => decide ((y = 1 ∨ y = 63 ∨ y = 255) ∨ 0 ≤ x ∧ 0 ≤ y)) zand) (zh_is .iand) := zk_bin (fun u v => u &&& v) rfl (fun hx hb _ _ _ hd kk => lv_iand hx hb hd kk) (fun u v h ru rv => ⟨zi_and (of_decide_eq_true h) ru rv, by
    have h := of_decide_eq_true h
    unfold zand
    split
    · rename_i h1
      have h1' := Int.emod_nonneg u (show v + 1 ≠ 0 by omega)
      have h2 := Int.emod_lt_of_pos u (show 0 < v + 1 by omega)
      omega
    · rename_i h1
      have h2 := h.resolve_left h1
      have : u.toNat &&& v.toNat ≤ u.toNat := Nat.and_le_left
      omega⟩)
theorem zk_ior : zOK 16 (zo_bin 0 (fun x y => decide (0 ≤ x ∧ 0 ≤ y)) zor) (zh_is .ior) := zk_bin (fun u v => u ||| v) rfl (fun hx hb _ _ _ hd kk => lv_ior hx hb hd kk) (fun u v h ru rv => ⟨(zi_or (of_decide_eq_true h) ru rv).1, by unfold zor; omega, (zi_or (of_decide_eq_true h) ru rv).2⟩)
theorem zk_all : ∀ w ∈ (List.range 60).zip (zOps.zip (zHs.take 60)), zOK w.1 w.2.1 w.2.2 := by
  show ∀ w ∈ [(0, zo_const, zh_const), (1, zo_lconst, zh_lconst), (2, zo_load zisI, zh_iload), (3, zo_load zisA, zh_aload), (4, zo_load zisL, zh_lload), (5, zo_store zisI, zh_istore), (6, zo_store zisA, zh_astore), (7, zo_iinc, zh_iinc),
    (8, _, zh_is .iadd), (9, _, zh_is .isub), (10, _, zh_is .imul), (11, _, zh_is .irem), (12, _, zh_is .ishl), (13, _, zh_is .ishr), (14, _, zh_is .iushr), (15, _, zh_is .iand), (16, _, zh_is .ior), (17, _, zh_is .i2l), (18, _, zh_is .i2b), (19, _, zh_is .lcmp), (20, zo_dup, zh_is .dup), (21, zo_pop, zh_is .pop), (22, zo_dup2, zh_is .dup2),
    (23, _, zh_if .eq), (24, _, zh_if .ne), (25, _, zh_if .lt), (26, _, zh_if .ge), (27, _, zh_if .gt), (28, _, zh_if .le), (29, _, zh_cmp .eq), (30, _, zh_cmp .ne), (31, _, zh_cmp .lt), (32, _, zh_cmp .ge), (33, _, zh_cmp .gt), (34, _, zh_cmp .le),
    (35, zo_goto, zh_goto), (36, zo_ifnull, zh_ifnull), (37, zo_table, zh_table), (38, zo_lookup, zh_lookup), (39, zo_none, _), (40, zo_getf, zh_getf), (41, zo_putf, zh_putf), (42, zo_iald, _), (43, zo_bald, _), (44, zo_aald, _), (45, zo_iast, _), (46, zo_bast, _), (47, zo_aast, _), (48, zo_alen, _),
    (49, zo_new, zh_new), (50, zo_newa, zh_newa), (51, zo_newq, zh_newq), (52, zo_newm, zh_newm), (53, zo_obj, zh_obj), (54, zo_copy, zh_st 54), (55, zo_min, zh_st 55), (56, zo_abs, zh_st 56), (57, zo_text, zh_text), (58, zo_tlen, zh_vi 58), (59, zo_char, zh_vi 59)], zOK w.1 w.2.1 w.2.2
  simp only [List.forall_mem_cons]
  exact ⟨zk_const, zk_lconst, zk_iload, zk_aload, zk_lload, zk_istore, zk_astore, zk_iinc, zk_iadd, zk_isub, zk_imul, zk_irem, zk_ishl, zk_ishr, zk_iushr, zk_iand, zk_ior, zk_i2l, zk_i2b, zk_lcmp, zk_dup, zk_pop, zk_dup2,
    zk_ifeq, zk_ifne, zk_iflt, zk_ifge, zk_ifgt, zk_ifle, zk_iceq, zk_icne, zk_iclt, zk_icge, zk_icgt, zk_icle, zk_goto, zk_ifnull, zk_table, zk_lookup, zk_none _ _, zk_getf, zk_putf, zk_iald, zk_bald, zk_aald, zk_iast, zk_bast, zk_aast, zk_alen,
    zk_new, zk_newa, zk_newq, zk_newm, zk_obj, zk_copy, zk_min, zk_abs, zk_text, zk_tlen, zk_char, fun _ h => absurd h List.not_mem_nil⟩
theorem zk_op {op : Nat} (h : op < 60) : zOK op (zOps.getD op zo_none) (zHs.getD op (fun _ _ _ _ _ => false)) := by
  have hl : zOps.length = 60 := rfl
  have hl2 : (zHs.take 60).length = 60 := rfl
  have h1 : ((List.range 60).zip (zOps.zip (zHs.take 60)))[op]? = some (op, zOps.getD op zo_none, zHs.getD op (fun _ _ _ _ _ => false)) := by
    rw [List.getElem?_zip_eq_some]
    refine ⟨List.getElem?_range h, ?_⟩
    rw [List.getElem?_zip_eq_some]
    have hlt : op < zHs.length := by show op < 82; omega
    refine ⟨by rw [List.getD, List.getElem?_eq_getElem (by omega)]; rfl, ?_⟩
    rw [List.getElem?_take_of_lt h]
    show _ = some (zHs.getD op _)
    rw [List.getD, List.getElem?_eq_getElem hlt]
    rfl
  exact zk_all _ (List.mem_of_getElem? h1)
end
section
/-! The small machine's run over the real one -/
def zmono (o : zF) : Prop := ∀ (a : List Int) (i : Nat) (ls st : List zV) (S : List zSh) (M : zM) (r : zR), o a i ls st S M = some r → S.length ≤ r.2.2.2.1.length ∧ zsl S ≤ zsl r.2.2.2.1
theorem zmono_same {o : zF} (h : ∀ (a : List Int) (i : Nat) (ls st : List zV) (S : List zSh) (M : zM) (r : zR), o a i ls st S M = some r → r.2.2.2.1 = S) : zmono o := fun a i ls st S M r hr => by
  rw [h a i ls st S M r hr]
  exact ⟨Nat.le_refl _, Nat.le_refl _⟩
theorem zsetR_len (S : List zSh) (a : Int) (k : Nat) (v : Int) : (zsetR S a k v).length = S.length ∧ zsl (zsetR S a k v) = zsl S := by
  unfold zsetR
  split
  · rename_i t c rs hq
    refine ⟨List.length_set, ?_⟩
    unfold zsl
    congr 1
    apply List.ext_getElem?
    intro j
    rw [List.getElem?_map, List.getElem?_map]
    by_cases hj : j = a.toNat
    · subst hj
      rw [List.getElem?_set_self (List.getElem?_eq_some_iff.mp hq).1, hq]
      rfl
    · rw [List.getElem?_set_ne (Ne.symm hj)]
  · exact ⟨rfl, rfl⟩
theorem zmono_app {S T : List zSh} : S.length ≤ (S ++ T).length ∧ zsl S ≤ zsl (S ++ T) := ⟨by simp, by rw [zsl_app]; omega⟩
theorem zmono_all : ∀ o ∈ zOps, zmono o := by
  unfold zOps
  simp only [List.forall_mem_cons]
  refine ⟨?_, ?_, ?_, ?_, ?_, ?_, ?_, ?_, ?_, ?_, ?_, ?_, ?_, ?_, ?_, ?_, ?_, ?_, ?_, ?_, ?_, ?_, ?_, ?_, ?_, ?_, ?_, ?_, ?_, ?_, ?_, ?_, ?_, ?_, ?_, ?_, ?_, ?_, ?_, ?_, ?_, ?_, ?_, ?_, ?_, ?_, ?_, ?_, ?_, ?_, ?_, ?_, ?_, ?_, ?_, ?_, ?_, ?_, ?_, ?_, fun _ h => absurd h List.not_mem_nil⟩
  all_goals
    intro a i ls st S M r h
    first
      | (cases h; done)
      | (cases h; exact ⟨Nat.le_refl _, Nat.le_refl _⟩)
      | (cases h; exact zmono_app)
      | (simp only [zo_load, zo_store, zo_iinc, zo_bin, zo_un, zo_dup, zo_pop, zo_dup2, zo_if, zo_cmp, zo_ifnull, zo_table, zo_lookup, zo_getf, zo_putf, zo_iald, zo_bald, zo_aald, zo_iast, zo_bast, zo_aast, zo_alen, zo_newa, zo_newq, zo_newm, zo_obj, zo_copy, zo_min, zo_abs, zo_tlen, zo_char] at h
         repeat' (split at h)
         all_goals first
           | (cases h; done)
           | (cases h; exact ⟨Nat.le_refl _, Nat.le_refl _⟩)
           | (cases h; exact zmono_app)
           | (cases h; exact ⟨Nat.le_of_eq (zsetR_len ..).1.symm, Nat.le_of_eq (zsetR_len ..).2.symm⟩))
theorem zrun_mono_S : ∀ (n : Nat) (c : List zIn) (i : Nat) (ls st : List zV) (S : List zSh) (M : zM) (r : zV × List zSh × zM), zrun zPt n c i ls st S M = some r → S.length ≤ r.2.1.length ∧ zsl S ≤ zsl r.2.1 := by
  intro n
  induction n with
  | zero => intro c i ls st S M r h; simp [zrun] at h
  | succ n ih =>
    intro c i ls st S M r h
    rw [zrun_succ] at h
    cases hc : c[i]? with
    | none => rw [hc] at h; cases h
    | some q =>
      rw [hc] at h
      dsimp only at h
      by_cases h60 : q.1 = 60
      · rw [if_pos h60] at h
        cases hP : zPt[(zarg q.2 2).toNat]? with
        | none => rw [hP] at h; cases h
        | some y =>
          rw [hP] at h
          dsimp only at h
          split at h
          · cases hr : zrun zPt n y.1 0 (zloc (st.take y.2.2.1).reverse y.2.1) [] S M with
            | none => rw [hr] at h; cases h
            | some r1 =>
              rw [hr] at h
              have a1 := ih _ _ _ _ _ _ _ hr
              have a2 := ih _ _ _ _ _ _ _ h
              omega
          · cases h
      · rw [if_neg h60] at h
        by_cases h70 : 70 ≤ q.1
        · rw [if_pos h70] at h
          cases he : zend q.1 st with
          | none => rw [he] at h; cases h
          | some v => rw [he] at h; cases h; exact ⟨Nat.le_refl _, Nat.le_refl _⟩
        · rw [if_neg h70] at h
          cases hs : zstep q [] i ls st S M with
          | none => rw [hs] at h; cases h
          | some r1 =>
            rw [hs] at h
            have a2 := ih _ _ _ _ _ _ _ h
            have a1 : S.length ≤ r1.2.2.2.1.length ∧ zsl S ≤ zsl r1.2.2.2.1 := by
              unfold zstep at hs
              by_cases hq : q.1 < zOps.length
              · rw [List.getD, List.getElem?_eq_getElem hq] at hs
                exact zmono_all _ (List.getElem_mem hq) _ _ _ _ _ _ _ hs
              · rw [List.getD, List.getElem?_eq_none (by omega)] at hs
                cases hs
            omega
end
section
/-! A method of the small machine is one of the real one -/
noncomputable def zWs (i : Nat) : List Cond := Cond.code (zy i) (zb i) (zmL i) (zret i) :: zTb
def zEx (adK adV : Nat → Nat) (A : Nat → Prop) (U : State) (H : Heap) : Prop :=
  (∀ q ∈ zMl, q.2.2.1 = 3 → va_Nw (.methodLinkNest (if q.1 = 13 then R_law else zC q.1) q.2.1 (zy q.2.2.2.1) "StackedScript") U) ∧ va_AO "StackedScript$State" U ∧ zAOA U ∧
  vk_S 17 (zTx.map List.length) (zTx.map (fun t => t.map Int32.ofInt)) adK adV A U H ∧ (∀ q ∈ zTl, vk_R "StackedScript" q.1 (zTs.getD q.2.1 "") (adK q.2.1) U) ∧ zStr A U H
theorem zAOA.moved {u U : State} (hvm : u.vm.Alike U.vm) (h : zAOA u) : zAOA U := by
  have h1 := Cond.arrayOver_setVmC (args := #[]) (s := u) hvm (.array .int)
  have e : (Cond.arrayOver (.array .int)).before #[] U = (Cond.arrayOver (.array .int)).before #[] (u.setVm U.vm) := rfl
  exact (e.trans h1).trans h
theorem zEx.warm {adK adV : Nat → Nat} {A : Nat → Prop} {s U : State} {H : Heap} (hW : s.WarmedH U.vm) (h : zEx adK adV A s s.heap) (hq : ∀ a : Nat, a < s.heap.size → ¬ A a → H[a]? = s.heap[a]?) : zEx adK adV A U H :=
  ⟨fun q hm h3 => va_Nw.warmM hW (h.1 q hm h3), va_AO.moved hW.alike h.2.1, zAOA.moved hW.alike h.2.2.1, vk_S.moved hW.alike (vk_S.kept h.2.2.2.1 hq), fun q hm => vk_R.warm hW (h.2.2.2.2.1 q hm), va_Z.moved hW.alike (h.2.2.2.2.2.1.kept hq), va_Zq.moved hW.alike (h.2.2.2.2.2.2.kept hq)⟩
theorem zEx.same {adK adV : Nat → Nat} {A : Nat → Prop} {u U : State} {H : Heap} (hv : u.vm = U.vm) (h : zEx adK adV A u H) : zEx adK adV A U H := by
  have hal : u.vm.Alike U.vm := by rw [hv]; exact Vm.Alike.refl _
  exact ⟨fun q hm h3 => va_Nw.same rfl hv (h.1 q hm h3), va_AO.moved hal h.2.1, zAOA.moved hal h.2.2.1, vk_S.moved hal h.2.2.2.1, fun q hm => vk_R.same hv.symm (h.2.2.2.2.1 q hm), va_Z.moved hal h.2.2.2.2.2.1, va_Zq.moved hal h.2.2.2.2.2.2⟩
theorem zRep.moved {D : va_G} {adK ad : Nat → Nat} {cA : Nat → ClassId} {S : List zSh} {M : zM} {u U : State} {H : Heap} {A : Nat → Prop} (hvm : u.vm.Alike U.vm) (h : zRep D adK ad cA S M u H A) : zRep D adK ad cA S M U H A := ⟨h.1, h.2.1, h.2.2.1.moved hvm, h.2.2.2⟩
def zPc (D : va_G) (adK adV : Nat → Nat) (A : Nat → Prop) (ad : Nat → Nat) (cA : Nat → ClassId) (S : List zSh) (M : zM) (as : List zV) : Array Value → State → Prop := fun v U => v = (as.map (zcv adK ad)).toArray ∧ (∀ q, U.heap.size ≤ q → A q) ∧ zRep D adK ad cA S M U U.heap A ∧ zEx adK adV A U U.heap
def zout (adK : Nat → Nat) (v : zV) : Option Value := if v.1 = 3 then none else some (zcv adK (fun _ => 0) v)
def zQc (D : va_G) (adK : Nat → Nat) (A : Nat → Prop) (n : Nat) (ad : Nat → Nat) (cA : Nat → ClassId) (an : Nat) (v : zV) (S' : List zSh) (M' : zM) : Array Value → State → Outcome → State → Prop := fun _ st o t =>
  (∃ (ad' : Nat → Nat) (cA' : Nat → ClassId), zag n ad cA ad' cA' ∧ o = .returned (zout adK v) ∧ (zok S'.length v ∧ (v.1 = 0 ∨ v.1 = 3 ∨ v.1 = 4) ∧ (an = 0 ↔ v.1 = 3)) ∧ zRep D adK ad' cA' S' M' t t.heap A) ∧ va_F A st t
theorem zPc_blind {D : va_G} {adK adV : Nat → Nat} {A : Nat → Prop} {ad : Nat → Nat} {cA : Nat → ClassId} {S : List zSh} {M : zM} {as : List zV} : FrameBlind (zPc D adK adV A ad cA S M as) := fun a U g mk h =>
  ⟨h.1, h.2.1, zRep.moved (u := U) (U := U.calling g mk a) (Vm.Alike.refl U.vm) h.2.2.1, zEx.same (u := U) (U := U.calling g mk a) rfl h.2.2.2⟩
theorem z_back {p : Program} {l : Launch} {e : Env} {R : Room} {s : State} {m : MethodId} {args : Array Value} {below : List Frame} {meth : Method} {c : Code} {H : Heap} {locs : List Loc} {cells slots : Nat} {Q : State → Prop} {D : va_G} {adK : Nat → Nat} {A : Nat → Prop} {n : Nat} {ad : Nat → Nat} {cA : Nat → ClassId} {an : Nat} {v : zV} {S' : List zSh} {M' : zM} {mc ms pc : Nat} {als : Array Slot} {st0 rest : List Value} {a : Array Value}
    (hr : va_Run p l e R s m args below meth c H locs cells slots mc ms (F0 m pc als st0) rest (zQc D adK A n ad cA an v S' M' a) A) (hS : va_S A s.heap H locs)
    (kk : ∀ (ad' : Nat → Nat) (cA' : Nat → ClassId) (H1 : Heap) (locs1 : List Loc), zag n ad cA ad' cA' → (zok S'.length v ∧ (v.1 = 0 ∨ v.1 = 3 ∨ v.1 = 4) ∧ (an = 0 ↔ v.1 = 3)) → zRep D adK ad' cA' S' M' s H1 A → va_S A s.heap H1 locs1 → W p l e R s m args below meth c H1 locs1 (cells + mc) (slots + ms) Q (F0 m (pc + 3) als ((zout adK v).toList ++ rest))) :
    W p l e R s m args below meth c H locs cells slots Q (F0 m pc als st0) := by
  intro T hT X
  obtain ⟨w, st₀, t, T', L, h0, X', hL, e1, e2, ⟨⟨ad', cA', hag, hv, hp, hrep⟩, hz, hk⟩, st⟩ := hr T hT X
  cases hv
  rw [h0] at hz hk
  have hS1 : va_S A s.heap T'.heap (locs ++ L) := ⟨Nat.le_trans hS.1 (by rw [e1]; exact hz), fun q h1 h2 => by rw [e1, hk q (Nat.lt_of_lt_of_le h1 hS.1) h2]; exact hS.2.1 q h1 h2, fun q hq => by
    rcases List.mem_append.mp hq with h | h
    · exact hS.2.2 q h
    · exact hL q h⟩
  obtain ⟨t2, a1, b1⟩ := kk ad' cA' T'.heap (locs ++ L) hag hp (by rw [e1]; exact hrep.moved (by rw [← e2]; exact X'.warmed.alike.symm)) hS1 T' rfl X'
  exact ⟨t2, st t2 a1, b1⟩
theorem zall_at {f : Nat → Bool} {n i : Nat} (h : (List.range n).all f = true) (hi : i < n) : f i = true := List.all_eq_true.mp h i (List.mem_range.mpr hi)
theorem zMt_len : zMt.length = 282 := by decide +kernel
theorem zPt_len : zPt.length = 282 := by decide +kernel
/-- what is known of method i -/
theorem zdesc {i : Nat} (hi : i < 282) : (parseMethodDescriptor (zy i).desc).map (fun d => d.parameters.length) = some (if zhow i = 1 then zna i else zna i - 1) ∧ plainName (zy i).cls = true ∧ (zC (zown i) ≠ "java/lang/invoke/MethodHandle" ∧ zC (zown i) ≠ "java/lang/invoke/VarHandle") ∧ ((zhow i = 2) ↔ (zy i).name = "<init>") ∧ (0 < zna i ∨ zhow i = 1) ∧ (zan i = 0 ↔ zret i = none) := by
  have h := zall_at zw_desc (show i < zMt.length by rw [zMt_len]; exact hi)
  simp only [Bool.and_eq_true, decide_eq_true_eq] at h
  obtain ⟨⟨⟨⟨⟨h1, h2⟩, h3⟩, h4⟩, h5⟩, h6⟩ := h
  exact ⟨h1, h2, h3, h4, h5, h6⟩
theorem zform {i : Nat} {s : State} {args : Array Value} (hts : ∀ w ∈ zTb, w.before args s = true) (hi : i < 282) : (if zhow i = 1 then Cond.static (zy i) else Cond.instanceMethod (zy i)) ∈ zTb := by
  have h := of_decide_eq_true (zall_at zw_form (show i < zMt.length by rw [zMt_len]; exact hi))
  refine zTb_of h ?_
  split <;> rfl
theorem zsel {i : Nat} (hi : i < 282) (h0 : zhow i = 0) : Cond.selects (zC (zown i)) (zy i) (zy i) ∈ zTb := by
  have h := zall_at zw_sel (show i < zMt.length by rw [zMt_len]; exact hi)
  simp only [Bool.or_eq_true, decide_eq_true_eq, bne_iff_ne, ne_eq] at h
  exact zTb_of (h.resolve_left (fun z => z h0)) rfl
theorem zini {c : Nat} (hc : c < 13) : Cond.initialized (zC c) ∈ zTb := by
  have h := zall_at zw_cls hc
  simp only [Bool.and_eq_true] at h
  exact zTb_of (of_decide_eq_true h.1.2) rfl
end
section
/-! A call -/
def zCode (own : Nat) (cc : ByteArray) (pcs : List Nat) (k : List zIn) : Prop := ∀ (j : Nat) (q : zIn), k[j]? = some q → ∃ (x : Instr) (n : Nat), decode cc (zpc pcs j) = .ok (x, n) ∧ ((70 ≤ q.1 ∧ q.1 < 80) ∨ zpc pcs (j + 1) = zpc pcs j + n) ∧ zlenok x n = true ∧ (zHs.getD q.1 (fun _ _ _ _ _ => false)) own pcs j q.2 x = true
def zRoomy (k : List zIn) (R : Room) : Prop := ∀ q ∈ k, q.1 = 60 → zfr (zarg q.2 2).toNat + 1 ≤ R.frames ∧ 8 + (zmL (zarg q.2 2).toNat + 11) + zlo (zarg q.2 2).toNat ≤ R.locals ∧ (zarg q.2 2).toNat < 282
def zMetOK (n : Nat) : Prop := ∀ i : Nat, i < 282 → ∀ (as : List zV) (S : List zSh) (M : zM) (r : zV × List zSh × zM), zrun zPt n (zk i) 0 (zloc as (zmL i)) [] S M = some r → as.length = zna i → (zan i = 3 ∨ ∀ v ∈ as, v.1 ≠ 2) → (∀ v ∈ as, zok S.length v ∧ v.1 ≠ 3) →
  ∀ (l : Launch) (D : va_G) (adK adV : Nat → Nat) (A : Nat → Prop) (ad : Nat → Nat) (cA : Nat → ClassId), Met l (zy i) (zWs i) ({ frames := zfr i, cells := r.2.1.length - S.length, slots := zsl r.2.1 - zsl S, locals := zlo i }) (zPc D adK adV A ad cA S M as) (zQc D adK A S.length ad cA (zan i) r.1 r.2.1 r.2.2) (r.2.1.length - S.length) (zsl r.2.1 - zsl S) A
theorem zml_ok {own k how i : Nat} (h : zMl.any (fun e => e.1 == own && (e.2.1 == k && (e.2.2.1 == how && e.2.2.2.1 == i))) = true) : ∃ q ∈ zMl, q.1 = own ∧ q.2.1 = k ∧ q.2.2.1 = how ∧ q.2.2.2.1 = i := by
  obtain ⟨q, hq, he⟩ := List.any_eq_true.mp h
  simp only [Bool.and_eq_true, beq_iff_eq] at he
  exact ⟨q, hq, he.1, he.2.1, he.2.2.1, he.2.2.2⟩
theorem zml_word {q : Nat × Nat × Nat × Nat × Nat} (hq : q ∈ zMl) (h3 : q.2.2.1 ≠ 3) : Cond.methodLink (if q.1 = 13 then R_law else zC q.1) q.2.1 (zy q.2.2.2.1) ∈ zTb := by
  have hw := of_decide_eq_true (List.all_eq_true.mp zw_ml q hq)
  rw [if_neg h3] at hw
  exact zTb_of hw rfl
theorem zml_facts : ∀ q ∈ zMl, q.2.2.2.1 < 282 ∧ (q.2.2.1 = 0 → zhow q.2.2.2.1 = 0) ∧ (q.2.2.1 = 2 → zhow q.2.2.2.1 = 2) ∧ (q.2.2.1 = 1 → zhow q.2.2.2.1 = 1 ∧ q.1 ≠ 13 ∧ zown q.2.2.2.1 = q.1) ∧ (q.2.2.1 = 3 → zhow q.2.2.2.1 = 1) := by decide +kernel
theorem zini_ret : ∀ i, i < 282 → (zhow i = 2 → zret i = none) ∧ zown i < 13 := by decide +kernel
theorem zWs_good {i : Nat} (hi : i < 282) : GoodIn zTb (zWs i) := by
  intro w hw
  rcases List.mem_cons.mp hw with rfl | h
  · have h2 : Cond.code (zy i) (zb i) (zmL i) (zret i) ∈ zTb := List.mem_filter.mpr ⟨(zg_all i hi).2, rfl⟩
    exact ⟨h2, zTb_good h2⟩
  · exact ⟨h, zTb_good h⟩
theorem zout_cv {adK ad : Nat → Nat} {v : zV} (h : v.1 = 0 ∨ v.1 = 4) : zout adK v = some (zcv adK ad v) := by
  unfold zout
  rw [if_neg (by omega)]
  rcases h with h | h
  · rw [zcv_i h, zcv_i h]
  · rw [zcv_t h, zcv_t h]
theorem z_call {n : Nat} (hM : zMetOK n) {p : Program} {l : Launch} {e : Env} {R : Room} {s : State} {m : MethodId} {args : Array Value} {below : List Frame} {meth : Method} {c : Code} {Q : State → Prop} {D : va_G} {adK adV : Nat → Nat} {A : Nat → Prop} {nL : Nat} {k : List zIn} {pcs : List Nat} {S0 : List zSh} {ad0 : Nat → Nat} {cA0 : Nat → ClassId} {own : Nat} {cc : ByteArray} {x : Instr} {nx i : Nat} {a : List Int} {ls st : List zV} {S : List zSh} {M : zM} {r : zV × List zSh × zM} {j : Nat}
    (F : zFx p R s m args meth c adK adV A nL k own cc) (hd : decode cc (zpc pcs i) = .ok (x, nx)) (hp : zpc pcs (i + 1) = zpc pcs i + nx) (hn : zlenok x nx = true) (hh : zh_call own pcs i a x = true) (hj : (zarg a 2).toNat = j) (hj2 : j < 282) (hroom : zfr j + 1 ≤ R.frames ∧ 8 + (zmL j + 11) + zlo j ≤ R.locals)
    (hlen : zna j ≤ st.length) (hgive : zgive (zan j) (st.take (zna j)) (st.drop (zna j)) = true) (hrecv : zrecv S (zarg a 0) (zarg a 3) (st.take (zna j)) = true)
    (hr : zrun zPt n (zk j) 0 (zloc (st.take (zna j)).reverse (zmL j)) [] S M = some r) (hc : r.2.1.length - S0.length ≤ R.cells) (hs : zsl r.2.1 - zsl S0 ≤ R.slots)
    (hG : zG p l e R s m args below meth c Q D adK A nL k pcs S0 ad0 cA0 (i + 1) ls (if zan j = 0 then st.drop (zna j) else r.1 :: st.drop (zna j)) r.2.1 r.2.2) : zG p l e R s m args below meth c Q D adK A nL k pcs S0 ad0 cA0 i ls st S M := by
  intro ad cA H locs als hag hS0 hZ0 hl hL hst hlk hok hR hS
  obtain ⟨hmono, hzmono⟩ := zrun_mono_S _ _ _ _ _ _ _ _ hr
  obtain ⟨hP, hD, hK, hV⟩ := id hR
  have hsplit : st = (st.take (zna j)).reverse.reverse ++ st.drop (zna j) := by simp
  have hasl : (st.take (zna j)).reverse.length = zna j := by simp; omega
  unfold zgive at hgive
  simp only [Bool.and_eq_true, Bool.or_eq_true, beq_iff_eq] at hgive
  have hrest : (st.drop (zna j)).length ≤ 4 := Nat.le_of_ble_eq_true hgive.2
  have htag : zan j = 3 ∨ ∀ v ∈ (st.take (zna j)).reverse, v.1 ≠ 2 := hgive.1.imp_right (fun h v hv => by
    have := List.all_eq_true.mp h v (by simpa using hv)
    simpa using this)
  have hok1 : ∀ v ∈ (st.take (zna j)).reverse, zok S.length v ∧ v.1 ≠ 3 := fun v hv => hok v (List.mem_of_mem_take (by simpa using hv))
  have hok2 : ∀ v ∈ st.drop (zna j), zok S.length v ∧ v.1 ≠ 3 := fun v hv => hok v (List.mem_of_mem_drop hv)
  have hrecv2 : zrecv S (zarg a 0) (zarg a 3) (st.take (zna j)).reverse.reverse = true := by rw [List.reverse_reverse]; exact hrecv
  have hMet := hM j hj2 (st.take (zna j)).reverse S M r hr hasl htag hok1 l D adK adV A ad cA
  have hmap : st.map (zcv adK ad) = ((st.take (zna j)).reverse.map (zcv adK ad)).reverse ++ (st.drop (zna j)).map (zcv adK ad) := by
    rw [← List.map_reverse, ← List.map_append, ← hsplit]
  generalize has : (st.take (zna j)).reverse = as at *
  generalize hrs : st.drop (zna j) = rest at *
  obtain ⟨hx, hb, hml, hown, hts, hro, hA, hf1, hf2, hEx⟩ := F
  obtain ⟨d1, d2, d3, d4, d5, d6⟩ := zdesc hj2
  have hEx2 : zEx adK adV A s s.heap := hEx
  have hPc : ∀ U : State, U.heap = H → s.WarmedH U.vm → zPc D adK adV A ad cA S M as (as.map (zcv adK ad)).toArray U := fun U hU hW =>
    ⟨rfl, fun q hq => hA q (by rw [hU] at hq; exact Nat.le_trans hS.1 hq), by rw [hU]; exact hR.moved hW.alike, by rw [hU]; exact hEx2.warm hW (fun q h1 h2 => hS.2.1 q h1 h2)⟩
  have hfr : nx = 3 → ∀ (v : zV), v = r.1 → ∀ (ad' : Nat → Nat) (cA' : Nat → ClassId) (H1 : Heap) (locs1 : List Loc), zag S.length ad cA ad' cA' → (zok r.2.1.length r.1 ∧ (r.1.1 = 0 ∨ r.1.1 = 3 ∨ r.1.1 = 4) ∧ (zan j = 0 ↔ r.1.1 = 3)) → zRep D adK ad' cA' r.2.1 r.2.2 s H1 A → va_S A s.heap H1 locs1 → W p l e R s m args below meth c H1 locs1 (S.length - S0.length + (r.2.1.length - S.length)) (zsl S - zsl S0 + (zsl r.2.1 - zsl S)) Q (F0 m (zpc pcs i + 3) als ((zout adK r.1).toList ++ rest.map (zcv adK ad))) := fun h3 v hv ad' cA' H1 locs1 hag2 hpure hR1 hS1 => by
    obtain ⟨z1, z2, z3⟩ := hpure
    have kk := hG ad' cA' H1 locs1 als (zag.tr hag hag2 hS0) (by omega) (by omega) (by rw [zls_ag hag2 ls 0 hlk]; exact hl) hL hst (fun v hv => (hlk v hv).mono hmono) (by
      intro v hv
      by_cases h0 : zan j = 0
      · rw [if_pos h0] at hv
        exact ⟨(hok2 v hv).1.mono hmono, (hok2 v hv).2⟩
      · rw [if_neg h0] at hv
        rcases List.mem_cons.mp hv with rfl | hv
        · exact ⟨z1, fun z => h0 (z3.mpr z)⟩
        · exact ⟨(hok2 v hv).1.mono hmono, (hok2 v hv).2⟩) hR1 hS1
    rw [hp, h3] at kk
    have e : (if zan j = 0 then rest else r.1 :: rest).map (zcv adK ad') = (zout adK r.1).toList ++ rest.map (zcv adK ad) := by
      by_cases h0 : zan j = 0
      · rw [if_pos h0, zst_ag hag2 hok2]
        unfold zout
        rw [if_pos (z3.mp h0)]
        rfl
      · have h3' : r.1.1 ≠ 3 := fun z => h0 (z3.mpr z)
        rw [if_neg h0, List.map_cons, zst_ag hag2 hok2, zout_cv (ad := ad') (by omega)]
        rfl
    rw [e] at kk
    exact W.cs (by omega) (by omega) kk
  rw [hmap]
  unfold zh_call at hh
  split at hh
  · rename_i kx
    simp only [Bool.and_eq_true, decide_eq_true_eq] at hh
    obtain ⟨⟨e1, e0, e2, e3⟩, hany⟩ := hh
    rw [hj] at hany e3
    obtain ⟨q, hq, q1, q2, q3, q4⟩ := zml_ok hany
    obtain ⟨f1, f2, -⟩ := zml_facts q hq
    rw [q4] at f2
    have hw := zml_word hq (by omega)
    rw [q1, q2, q4] at hw
    have hn3 := zlen_of hn rfl
    subst hn3
    have hhow := f2 q3
    unfold zrecv at hrecv2
    rw [if_neg (by omega), List.getLast?_reverse] at hrecv2
    cases as with
    | nil => cases hrecv2
    | cons v0 vs =>
      simp only [List.head?_cons, Bool.and_eq_true, beq_iff_eq, Bool.or_eq_true] at hrecv2
      obtain ⟨hv0, hcl⟩ := hrecv2
      have hcl2 : ∃ sh, zsh S v0.2 = some sh ∧ sh.1 = 0 ∧ sh.2.1 = zown j := by
        rcases hcl with h | h
        · omega
        · cases hz : zsh S v0.2 with
          | none => rw [hz] at h; cases h
          | some sh =>
            rw [hz] at h
            simp only [Bool.and_eq_true, beq_iff_eq] at h
            exact ⟨sh, rfl, h.1, by omega⟩
      obtain ⟨sh, hsh, hs0, hscl⟩ := hcl2
      obtain ⟨hnn, hsh⟩ := zsh_of hsh
      have h13 := (zini_ret j hj2).2
      have hform := zform (args := args) hts hj2
      rw [if_neg (by omega)] at hform
      have hgood : GoodIn zTb (wsV (if own = 13 then R_law else zC own) kx (zC (zown j)) (zy j) (zWs j)) := by
        intro w hw2
        unfold wsV at hw2
        rcases List.mem_append.mp hw2 with h | h
        · simp only [List.mem_cons, List.not_mem_nil, or_false] at h
          rcases h with rfl | rfl | rfl | rfl
          · exact ⟨hw, zTb_good hw⟩
          · exact ⟨hform, zTb_good hform⟩
          · exact ⟨zsel hj2 hhow, zTb_good (zsel hj2 hhow)⟩
          · exact ⟨zini h13, zTb_good (zini h13)⟩
        · exact zWs_good hj2 w h
      rw [if_neg (by omega)] at d1
      rw [List.map_cons, zcv_r hv0, List.reverse_cons, List.append_assoc]
      refine z_back (va_runV (As := vs.map (zcv adK ad)) (rest := rest.map (zcv adK ad)) (C := zC (zown j)) ⟨hx, hb, hml, hown, hts⟩ hMet (cwV (zna j - 1) hts hgood rfl rfl rfl ⟨rfl, d3.1, d3.2, d1⟩ hroom) ⟨zPc_blind, ?_, ?_⟩ rfl (by rw [List.length_map]; simp at hasl; omega) hl.1 rfl (lv_room (zcat_sum rest hrest)) hd ⟨by show _ + (_ - _) ≤ _; omega, by show _ + (_ - _) ≤ _; omega⟩) hS (hfr rfl r.1 rfl)
      · have := va_recv hK.1 hP (zcl_at (show sh.2.1 < 13 by omega)) ((zws_at hsh).trans (by rw [zel_0 hs0]))
        rw [hscl] at this
        exact this
      · intro U hU hW
        have := hPc U hU hW
        rw [List.map_cons, zcv_r hv0] at this
        exact this
  · rename_i kx
    simp only [Bool.and_eq_true, decide_eq_true_eq] at hh
    obtain ⟨⟨e1, e0, e2⟩, hany⟩ := hh
    rw [hj] at hany
    obtain ⟨q, hq, q1, q2, q3, q4⟩ := zml_ok hany
    obtain ⟨f1, -, f2, -⟩ := zml_facts q hq
    rw [q4] at f2
    have hw := zml_word hq (by omega)
    rw [q1, q2, q4] at hw
    have hn3 := zlen_of hn rfl
    subst hn3
    have hhow := f2 q3
    obtain ⟨hret, h13⟩ := zini_ret j hj2
    have hret := hret hhow
    unfold zrecv at hrecv2
    rw [if_neg (by omega), List.getLast?_reverse] at hrecv2
    cases as with
    | nil => cases hrecv2
    | cons v0 vs =>
      simp only [List.head?_cons, Bool.and_eq_true, beq_iff_eq, Bool.or_eq_true] at hrecv2
      obtain ⟨hv0, -⟩ := hrecv2
      have hform := zform (args := args) hts hj2
      rw [if_neg (by omega)] at hform
      rw [if_neg (by omega)] at d1
      rw [List.map_cons, zcv_r hv0, List.reverse_cons, List.append_assoc]
      refine z_back (va_runI (As := vs.map (zcv adK ad)) (rest := rest.map (zcv adK ad)) ⟨hx, hb, hml, hown, hts⟩ hMet (cwI (zna j - 1) hts (zWs_good hj2) (show zWs j = Cond.code (zy j) (zb j) (zmL j) none :: zTb by rw [← hret]; rfl) rfl rfl (hts _ (zini h13)) (hts _ hw) (hts _ hform) (d4.mp hhow) ⟨d3.1, d3.2, d1⟩ hroom) ⟨zPc_blind, ?_⟩ rfl (by rw [List.length_map]; simp at hasl; omega) hl.1 rfl (lv_room (zcat_sum rest hrest)) hd ⟨by show _ + (_ - _) ≤ _; omega, by show _ + (_ - _) ≤ _; omega⟩) hS (hfr rfl r.1 rfl)
      intro U hU hW
      have := hPc U hU hW
      rw [List.map_cons, zcv_r hv0] at this
      exact this
  · rename_i kx
    simp only [Bool.and_eq_true, decide_eq_true_eq, Bool.or_eq_true] at hh
    obtain ⟨⟨e1, e0, e2⟩, hany⟩ := hh
    rw [hj] at hany
    have hn3 := zlen_of hn rfl
    subst hn3
    have h13 := (zini_ret j hj2).2
    have hform := zform (args := args) hts hj2
    rcases hany with hany | hany
    · obtain ⟨q, hq, q1, q2, q3, q4⟩ := zml_ok hany
      obtain ⟨f1, -, -, f2, -⟩ := zml_facts q hq
      rw [q4, q1] at f2
      obtain ⟨hhow, hne, howner⟩ := f2 q3
      have hw := zml_word hq (by omega)
      rw [q1, q2, q4, if_neg hne] at hw
      rw [if_neg hne] at hown
      rw [if_pos hhow] at hform d1
      rw [howner] at d3 h13
      have hcls : (zy j).cls = zC own := by rw [← howner]; rfl
      have hgood : GoodIn zTb (wsS (zC own) kx (zy j) (zWs j)) := by
        intro w hw2
        unfold wsS at hw2
        rcases List.mem_append.mp hw2 with h | h
        · simp only [List.mem_cons, List.not_mem_nil, or_false] at h
          rcases h with rfl | rfl | rfl
          · exact ⟨hw, zTb_good hw⟩
          · exact ⟨hform, zTb_good hform⟩
          · exact ⟨zini h13, zTb_good (zini h13)⟩
        · exact zWs_good hj2 w h
      exact z_back (va_runS (As := as.map (zcv adK ad)) (rest := rest.map (zcv adK ad)) ⟨hx, hb, hml, hown, hts⟩ hMet (cwS (zna j) hts hgood rfl rfl rfl ⟨hcls, by rw [hcls]; exact d3.1, by rw [hcls]; exact d3.2, d1⟩ hroom) ⟨zPc_blind, hPc⟩ rfl (by rw [List.length_map]; exact hasl) hl.1 rfl (lv_room (zcat_sum rest hrest)) hd ⟨by show _ + (_ - _) ≤ _; omega, by show _ + (_ - _) ≤ _; omega⟩) hS (hfr rfl r.1 rfl)
    · obtain ⟨q, hq, q1, q2, q3, q4⟩ := zml_ok hany
      obtain ⟨f1, -, -, -, f2⟩ := zml_facts q hq
      rw [q4] at f2
      have hhow := f2 q3
      have hw := hEx.1 q hq q3
      rw [q1, q2, q4] at hw
      rw [if_pos hhow] at hform d1
      exact z_back (va_runSN (As := as.map (zcv adK ad)) (rest := rest.map (zcv adK ad)) (host := "StackedScript") ⟨hx, hb, hml, hown, hts⟩ hMet ⟨va_cnB (zna j) hts (zWs_good hj2) rfl rfl rfl hw (hts _ (zini h13)) ⟨d3.1, d3.2, d1⟩ hroom, hts _ hform, trivial⟩ ⟨zPc_blind, hPc⟩ rfl (by rw [List.length_map]; exact hasl) hl.1 rfl (lv_room (zcat_sum rest hrest)) hd ⟨by show _ + (_ - _) ≤ _; omega, by show _ + (_ - _) ≤ _; omega⟩) hS (hfr rfl r.1 rfl)
  · cases hh
end
section
/-! A whole run of the small machine is one of the real one -/
theorem zpt_at {j : Nat} {y : List zIn × Nat × Nat × Nat} (h : zPt[j]? = some y) : j < 282 ∧ y.1 = zk j ∧ y.2.1 = zmL j ∧ y.2.2.1 = zna j ∧ y.2.2.2 = zan j := by
  have hj := (List.getElem?_eq_some_iff.mp h).1
  have e : zPt.getD j ([], 0, 0, 0) = y := by rw [List.getD, h]; rfl
  refine ⟨by rw [zPt_len] at hj; exact hj, ?_, ?_, ?_, ?_⟩
  · unfold zk; rw [e]
  · unfold zmL; rw [e]
  · unfold zna; rw [e]
  · unfold zan; rw [e]
theorem zSound {p : Program} {l : Launch} {e : Env} {R : Room} {s : State} {m : MethodId} {args : Array Value} {below : List Frame} {meth : Method} {c : Code} {Q : State → Prop} {D : va_G} {adK adV : Nat → Nat} {A : Nat → Prop} {nL : Nat} {k : List zIn} {own : Nat} {cc : ByteArray} {pcs : List Nat} {S0 : List zSh} {ad0 : Nat → Nat} {cA0 : Nat → ClassId} {SF : List zSh} {MF : zM} {v : zV}
    (F : zFx p R s m args meth c adK adV A nL k own cc) (hC : zCode own cc pcs k) (hRm : zRoomy k R) (h1 : SF.length - S0.length ≤ R.cells) (h2 : zsl SF - zsl S0 ≤ R.slots)
    (hEnd : ∀ (j : Nat) (q : zIn) (lsx stx : List zV), k[j]? = some q → 70 ≤ q.1 → zend q.1 stx = some v → zG p l e R s m args below meth c Q D adK A nL k pcs S0 ad0 cA0 j lsx stx SF MF) :
    ∀ (n : Nat), (∀ n', n' < n → zMetOK n') → ∀ (i : Nat) (ls st : List zV) (S : List zSh) (M : zM), zrun zPt n k i ls st S M = some (v, SF, MF) → zG p l e R s m args below meth c Q D adK A nL k pcs S0 ad0 cA0 i ls st S M := by
  intro n
  induction n with
  | zero => intro _ i ls st S M h; simp [zrun] at h
  | succ n ih =>
    intro hM i ls st S M h
    have ih := ih (fun n' hn => hM n' (by omega))
    rw [zrun_succ] at h
    cases hc : k[i]? with
    | none => rw [hc] at h; cases h
    | some q =>
      rw [hc] at h
      dsimp only at h
      obtain ⟨x, nx, hd, hp, hn, hh⟩ := hC i q hc
      by_cases h60 : q.1 = 60
      · rw [if_pos h60] at h
        cases hP : zPt[(zarg q.2 2).toNat]? with
        | none => rw [hP] at h; cases h
        | some y =>
          rw [hP] at h
          dsimp only at h
          obtain ⟨hj, y1, y2, y3, y4⟩ := zpt_at hP
          split at h
          · rename_i hg
            cases hr : zrun zPt n y.1 0 (zloc (st.take y.2.2.1).reverse y.2.1) [] S M with
            | none => rw [hr] at h; cases h
            | some r1 =>
              rw [hr] at h
              obtain ⟨g1, g2⟩ := hg
              simp only [Bool.and_eq_true] at g2
              have a2 := zrun_mono_S _ _ _ _ _ _ _ _ h
              dsimp only at a2
              rw [h60] at hh
              obtain ⟨r1a, r1b, -⟩ := hRm q (List.mem_of_getElem? hc) h60
              rw [y1, y2, y3] at hr
              rw [y3, y4] at g2
              rw [y3] at g1
              have hG := ih _ _ _ _ _ h
              rw [y3, y4] at hG
              exact z_call (hM n (by omega)) F hd (hp.resolve_left (by omega)) hn hh rfl hj ⟨r1a, r1b⟩ g1 g2.1 g2.2 hr (by omega) (by omega) hG
          · cases h
      · rw [if_neg h60] at h
        by_cases h70 : 70 ≤ q.1
        · rw [if_pos h70] at h
          cases he : zend q.1 st with
          | none => rw [he] at h; cases h
          | some w =>
            rw [he] at h
            cases h
            exact hEnd i q ls st hc h70 he
        · rw [if_neg h70] at h
          cases hs : zstep q [] i ls st S M with
          | none => rw [hs] at h; cases h
          | some r1 =>
            rw [hs] at h
            have a2 := zrun_mono_S _ _ _ _ _ _ _ _ h
            dsimp only at a2
            have hlt : q.1 < 60 := by
              by_cases hlt : q.1 < 60
              · exact hlt
              · unfold zstep at hs
                rw [List.getD, List.getElem?_eq_none (show zOps.length ≤ q.1 by show 60 ≤ q.1; omega)] at hs
                cases hs
            exact zk_op hlt p l e R s m args below meth c Q D adK adV A nL k pcs S0 ad0 cA0 own cc x nx i q.2 ls st S M r1 F hd (hp.resolve_left (by omega)) hn hh (List.mem_of_getElem? hc) hs (by omega) (by omega) (ih _ _ _ _ _ h)
/-! the locals at a method's beginning -/
theorem zloc0_len : ∀ as : List zV, (zloc0 as).length ≤ 2 * as.length ∧ ((∀ v ∈ as, v.1 ≠ 2) → (zloc0 as).length = as.length)
  | [] => ⟨Nat.le_refl _, fun _ => rfl⟩
  | v :: r => by
    have ih := zloc0_len r
    unfold zloc0
    by_cases h : v.1 = 2
    · rw [if_pos h]
      refine ⟨by simp only [List.length_cons]; omega, fun z => absurd h (z v List.mem_cons_self)⟩
    · rw [if_neg h]
      refine ⟨by simp only [List.length_cons]; omega, fun z => ?_⟩
      simp only [List.length_cons]
      rw [ih.2 (fun w hw => z w (List.mem_cons_of_mem _ hw))]
theorem zloc0_mem : ∀ (as : List zV) (v : zV), v ∈ zloc0 as → v ∈ as ∨ v = (3, 0)
  | [], v, h => by cases h
  | w :: r, v, h => by
    unfold zloc0 at h
    split at h
    · rcases List.mem_cons.mp h with rfl | h
      · exact Or.inl List.mem_cons_self
      · rcases List.mem_cons.mp h with rfl | h
        · exact Or.inr rfl
        · exact (zloc0_mem r v h).imp_left (List.mem_cons_of_mem _)
    · rcases List.mem_cons.mp h with rfl | h
      · exact Or.inl List.mem_cons_self
      · exact (zloc0_mem r v h).imp_left (List.mem_cons_of_mem _)
theorem zloc_mem {as : List zV} {n : Nat} {v : zV} (h : v ∈ zloc as n) : v ∈ as ∨ v = (3, 0) := by
  unfold zloc at h
  rcases List.mem_append.mp h with h | h
  · exact zloc0_mem as v h
  · exact Or.inr (List.eq_of_mem_replicate h)
theorem zloc0_sl {adK ad : Nat → Nat} : ∀ as : List zV, (lg_sl (as.map (zcv adK ad))).length = (zloc0 as).length
  | [] => rfl
  | v :: r => by
    have ih := zloc0_sl (adK := adK) (ad := ad) r
    unfold zloc0 lg_sl
    rw [List.map_cons, List.flatMap_cons, List.length_append]
    unfold lg_sl at ih
    rw [ih]
    by_cases h : v.1 = 2
    · rw [if_pos h, zcv_l h, if_pos (show (Value.long (Int64.ofInt v.2)).category = 2 from rfl)]
      simp only [List.length_cons, List.length_nil]
      omega
    · rw [if_neg h, if_neg (by rw [zcv_cat h]; decide)]
      simp only [List.length_cons, List.length_nil]
      omega
theorem zls_rep {adK ad : Nat → Nat} : ∀ (n k : Nat), zls adK ad k (List.replicate n (3, 0)) = []
  | 0, _ => rfl
  | n + 1, k => by
    rw [List.replicate_succ, zls, if_pos rfl]
    exact zls_rep n (k + 1)
theorem zls_loc {adK ad : Nat → Nat} : ∀ (as : List zV) (n k : Nat), (∀ v ∈ as, v.1 ≠ 3) → zls adK ad k (zloc0 as ++ List.replicate n (3, 0)) = lv_args k (as.map (zcv adK ad))
  | [], n, k, _ => zls_rep n k
  | v :: r, n, k, h => by
    have h3 := h v List.mem_cons_self
    have hr : ∀ w ∈ r, w.1 ≠ 3 := fun w hw => h w (List.mem_cons_of_mem _ hw)
    unfold zloc0
    rw [List.map_cons, lv_args]
    by_cases h2 : v.1 = 2
    · rw [if_pos h2, List.cons_append, List.cons_append, zls, if_neg h3, zls, if_pos rfl, zls_loc r n (k + 2) hr, if_pos (by rw [zcv_l h2]; rfl)]
    · rw [if_neg h2, List.cons_append, zls, if_neg h3, zls_loc r n (k + 1) hr, if_neg (by rw [zcv_cat h2]; decide)]
theorem zan_fit : ∀ i, i < 282 → zan i = 3 → 2 * zna i ≤ zmL i := by decide +kernel
theorem zgM_of {i : Nat} (hi : i < 282) : zCode (zown i) (zb i) (zps i) (zk i) ∧ (∀ q ∈ zk i, zgQ i q = true) ∧ (zan i ≠ 3 ∨ ∀ q ∈ zk i, q.1 < 5 ∨ 7 < q.1) ∧ zna i ≤ zmL i ∧ zown i < 13 ∧ 1 ≤ zfr i ∧ 40 ≤ zlo i ∧ zpc (zps i) 0 = 0 := by
  have h := (zg_all i hi).1
  unfold zgM at h
  simp only [Bool.and_eq_true, Bool.or_eq_true, decide_eq_true_eq, List.all_eq_true] at h
  obtain ⟨h1, ⟨h2, h3⟩, h4, h5, h6, h7, h8⟩ := h
  refine ⟨fun j q hq => ?_, h2, h3, h4, h5, h6, h7, h8⟩
  have hs := zgo_spec _ _ _ _ _ _ _ h1 (fun pc hpc => by
    have : zpc (zps i) 0 = pc := by
      unfold zpc
      rw [List.getD, ← List.head?_eq_getElem?, hpc]
      rfl
    rw [← this, h8]
    rfl) j q hq
  obtain ⟨x, n, a1, a2, a3, a4⟩ := hs
  rw [Nat.zero_add] at a4
  exact ⟨x, n, a1, a2, a3, a4⟩
theorem zret_is : ∀ i, i < 282 → zret i = none ∨ zret i = some .int ∨ zret i = some .boolean ∨ zret i = some (.object "java/lang/String") := by decide +kernel
theorem zMetOK_all : ∀ (n : Nat), zMetOK n := by
  intro n
  induction n using Nat.strongRecOn with
  | _ n ihn =>
  intro i hi as S M r hr hlen htag hok l D adK adV A ad cA
  obtain ⟨v, SF, MF⟩ := r
  obtain ⟨hC, hQ, hsh, hna, hown, hf1, hl1, hp0⟩ := zgM_of hi
  obtain ⟨d1, d2, d3, d4, d5, d6⟩ := zdesc hi
  refine Met.ofW (cc := zb i) (maxL := zmL i) (ret := zret i) d2 rfl ?_
  intro p e s m args below meth c s₁ B hml hv
  obtain ⟨hargs, hA, hR, hE⟩ := hv
  have hx := B.exec
  have hb := B.bytes
  have hr0 := B.returns
  have hts : ∀ w ∈ zTb, w.before args s = true := fun w hw => atoms_spec (ws := zWs i) B.pre w (List.mem_cons_of_mem _ hw)
  have hownc : s.vm.findClass (zC (zown i)) = some m.cls := findClass_of_methodNamed B.named
  have hlocks := B.notSynchronized
  have hname : meth.name = (zy i).name := (name_of_methodNamed B.named B.method).1
  have hns : ∀ w ∈ as, w.1 ≠ 3 := fun w hw => (hok w hw).2
  have hfit : (zloc0 as).length ≤ zmL i := by
    by_cases h3 : zan i = 3
    · have := zan_fit i hi h3
      have := (zloc0_len as).1
      omega
    · rw [(zloc0_len as).2 (htag.resolve_left h3)]
      omega
  have hl := lv_entry (as.map (zcv adK ad)) (n := zmL i) (by rw [zloc0_sl]; exact hfit)
  rw [hargs, lg_entry_eq]
  generalize (lg_sl (as.map (zcv adK ad)) ++ List.replicate (zmL i - (lg_sl (as.map (zcv adK ad))).length) Slot.unset).toArray = als at hl ⊢
  have hF : zFx p ({ frames := zfr i, cells := SF.length - S.length, slots := zsl SF - zsl S, locals := zlo i } : Room) s m args meth c adK adV A (zmL i) (zk i) (zown i) (zb i) :=
    ⟨hx, hb, hml, by rw [if_neg (by omega)]; exact hownc, hts, ⟨hf1, hl1⟩, hA, fun q hq h41 h1 => by
      have h := hQ q hq
      unfold zgQ at h
      simp only [Bool.and_eq_true, Bool.or_eq_true, decide_eq_true_eq] at h
      have h2 := h.2.1.2.resolve_left (by omega)
      exact ⟨hname.trans (d4.mp h2.1), h2.2⟩, fun hq => by
      obtain ⟨q, hq, h58⟩ := hq
      have h := hQ q hq
      unfold zgQ at h
      simp only [Bool.and_eq_true, Bool.or_eq_true, decide_eq_true_eq] at h
      exact h.2.1.1.resolve_left (by omega), hE⟩
  have hRm : zRoomy (zk i) ({ frames := zfr i, cells := SF.length - S.length, slots := zsl SF - zsl S, locals := zlo i } : Room) := fun q hq h60 => by
    have h := hQ q hq
    unfold zgQ at h
    simp only [Bool.and_eq_true, Bool.or_eq_true, decide_eq_true_eq, bne_iff_ne, ne_eq] at h
    have h2 := h.1.resolve_left (fun z => z h60)
    exact ⟨h2.1, h2.2.1, by have := h2.2.2; rw [zPt_len] at this; exact this⟩
  have hG : zG p l e ({ frames := zfr i, cells := SF.length - S.length, slots := zsl SF - zsl S, locals := zlo i } : Room) s m args below meth c (MQ below (zQc D adK A S.length ad cA (zan i) v SF MF) args s (SF.length - S.length) (zsl SF - zsl S) A) D adK A (zmL i) (zk i) (zps i) S ad cA 0 (zloc as (zmL i)) [] S M := by
    refine zSound hF hC hRm (Nat.le_refl _) (Nat.le_refl _) ?_ n ihn 0 _ _ _ _ hr
    intro j q lsx stx hj h70 hend ad' cA' H locs als' hag _ _ _ _ _ _ hokx hRx hSx
    obtain ⟨x, nx, hd, -, hn, hh⟩ := hC j q hj
    have h := hQ q (List.mem_of_getElem? hj)
    unfold zgQ at h
    simp only [Bool.and_eq_true, Bool.or_eq_true, decide_eq_true_eq] at h
    have hty := h.2.2.resolve_left (by omega)
    have hqq : ∀ (o : Option Value), o = zout adK v → (zok SF.length v ∧ (v.1 = 0 ∨ v.1 = 3 ∨ v.1 = 4) ∧ (zan i = 0 ↔ v.1 = 3)) → ∀ t : State, t.heap = H → s.WarmedH t.vm → zQc D adK A S.length ad cA (zan i) v SF MF args s (.returned o) t := fun o ho hp t ht hW =>
      ⟨⟨ad', cA', hag, by rw [ho], hp, by rw [ht]; exact hRx.moved hW.alike⟩, hSx.F ht⟩
    have one : ∀ y : Instr, zilen y = some 1 → zHs.getD q.1 (fun _ _ _ _ _ => false) = zh_is y → decode (zb i) (zpc (zps i) j) = .ok (y, 1) := fun y hy hz => by
      rw [hz] at hh
      have := of_decide_eq_true hh
      subst this
      rw [hd, zlen_of hn hy]
    rcases zret_is i hi with hz | hz | hz | hz
    · rw [hz] at hty hr0
      have h71 : q.1 = 71 := of_decide_eq_true hty
      cases stx with
      | nil =>
        simp only [zend, h71] at hend
        cases hend
        exact W.vret hx hb hr0 (hqq _ rfl ⟨⟨fun z => absurd z (by decide), fun z => absurd z (by decide)⟩, Or.inr (Or.inl rfl), by rw [d6]; exact ⟨fun _ => rfl, fun _ => hz⟩⟩) hSx.2.2 (one .return_ rfl (by rw [h71]; rfl))
      | cons w stx =>
        cases stx with
        | nil =>
          simp only [zend] at hend
          split at hend
          · rename_i hcnd
            omega
          · cases hend
        | cons w2 stx => cases hend
    all_goals
      rw [hz] at hty hr0
      have h7 := of_decide_eq_true hty
      have hne : ¬ zan i = 0 := fun z => by
        have := d6.mp z
        rw [hz] at this
        cases this
      cases stx with
      | nil =>
        simp only [zend] at hend
        split at hend
        · omega
        · cases hend
      | cons w stx =>
        cases stx with
        | cons w2 stx => cases hend
        | nil =>
          simp only [zend] at hend
          split at hend
          case isFalse => cases hend
          case isTrue hcnd =>
            cases hend
            have hok1 := hokx v List.mem_cons_self
            have hpure : v.1 = 0 ∨ v.1 = 4 → (zok SF.length v ∧ (v.1 = 0 ∨ v.1 = 3 ∨ v.1 = 4) ∧ (zan i = 0 ↔ v.1 = 3)) := fun z => ⟨hok1.1, by omega, ⟨fun z2 => absurd z2 hne, fun z2 => absurd z2 hok1.2⟩⟩
            first
              | (have hw0 : v.1 = 0 := by omega
                 rw [List.map_cons, zcv_i hw0, List.map_nil]
                 exact W.iret hx hb hr0 (hqq _ (by rw [zout_cv (ad := ad) (Or.inl hw0), zcv_i hw0]) (hpure (Or.inl hw0))) hSx.2.2 (one .ireturn rfl (by rw [h7]; rfl)))
              | (have hw0 : v.1 = 0 ∧ (v.2 = 0 ∨ v.2 = 1) := by omega
                 rw [List.map_cons, zcv_i hw0.1, List.map_nil]
                 exact W.zret hx hb hr0 (by rcases hw0.2 with z | z <;> rw [z] <;> rfl) (hqq _ (by rw [zout_cv (ad := ad) (Or.inl hw0.1), zcv_i hw0.1]) (hpure (Or.inl hw0.1))) hSx.2.2 (one .ireturn rfl (by rw [h7]; rfl)))
              | (have hw0 : v.1 = 4 := by omega
                 rw [List.map_cons, zcv_t hw0, List.map_nil]
                 exact W.aret hx hb hr0 (Or.inl ⟨_, rfl⟩) (Or.inr ⟨_, rfl⟩) (hqq _ (by rw [zout_cv (ad := ad) (Or.inr hw0), zcv_t hw0]) (hpure (Or.inr hw0))) hSx.2.2 (one .areturn rfl (by rw [h7]; rfl)))
  have hgo := hG ad cA s.heap [] als zag.rf (Nat.le_refl _) (Nat.le_refl _) (by rw [show zls adK ad 0 (zloc as (zmL i)) = lv_args 0 (as.map (zcv adK ad)) from zls_loc as _ 0 hns]; exact hl) (by
    unfold zloc
    rw [List.length_append, List.length_replicate]
    omega) (by
    rcases hsh with h3 | h3
    · refine Or.inr (fun w hw => ?_)
      rcases zloc_mem hw with hw | rfl
      · exact (htag.resolve_left h3) w hw
      · decide
    · exact Or.inl h3) (fun w hw => by
    rcases zloc_mem hw with hw | rfl
    · exact (hok w hw).1
    · exact ⟨fun z => absurd z (by decide), fun z => absurd z (by decide)⟩) (fun w hw => by cases hw) hR va_S.rf
  rw [hp0, Nat.sub_self, Nat.sub_self] at hgo
  rw [← hargs]
  exact hgo
end
section
/-! More rules of the walk; rows of the memory; frames -/
section ZX
variable {c : List zIn} {i j : Nat} {ls st r : List zV} {M : zM} {Q : zV → zM → Prop} {a : List Int}
theorem zw_getIv {b cp cl s kd v : Int} (h : zFe c i j 40 [cp, cl, s, kd]) (hs : zcls zS0 b = some cl) (hk : kd ≠ 1) (hv : M b s = v) (k : zWp c j ls ((0, v) :: st) M Q) : zWp c i ls ((1, b) :: st) M Q := zw_getI h hs hk (by rw [hv]; exact k)
theorem zw_ialdv {b x v : Int} {n : Nat} (h : zFe c i j 42 a) (hs : zar zS0 b = some (1, n)) (hb : 0 ≤ x ∧ x < (n : Int)) (hv : M b x = v) (k : zWp c j ls ((0, v) :: st) M Q) : zWp c i ls ((0, x) :: (1, b) :: st) M Q := zw_iald h hs hb (by rw [hv]; exact k)
theorem zw_baldv {b x v : Int} {t n : Nat} (h : zFe c i j 43 a) (hs : zar zS0 b = some (t, n)) (ht : t = 2 ∨ t = 3) (hb : 0 ≤ x ∧ x < (n : Int)) (hv : M b x = v) (k : zWp c j ls ((0, v) :: st) M Q) : zWp c i ls ((0, x) :: (1, b) :: st) M Q := zw_bald h hs ht hb (by rw [hv]; exact k)
end ZX
theorem zlc_lt {x y : Int} : zlc x y < 0 ↔ x < y := by unfold zlc; split <;> (try split) <;> omega
theorem zlc_ge {x y : Int} : 0 ≤ zlc x y ↔ y ≤ x := by unfold zlc; split <;> (try split) <;> omega
theorem zlc_gt {x y : Int} : 0 < zlc x y ↔ y < x := by unfold zlc; split <;> (try split) <;> omega
theorem zlc_le {x y : Int} : zlc x y ≤ 0 ↔ x ≤ y := by unfold zlc; split <;> (try split) <;> omega
theorem zlc_eq {x y : Int} : zlc x y = 0 ↔ x = y := by unfold zlc; split <;> (try split) <;> omega
theorem zlc_ne {x y : Int} : zlc x y ≠ 0 ↔ x ≠ y := by unfold zlc; split <;> (try split) <;> omega
theorem ztgt_out {lo d x : Int} {ts : List Int} (h : x < lo ∨ lo + (ts.length : Int) ≤ x) : ztgt (lo :: d :: ts) x = d := by
  unfold ztgt
  split
  · rename_i h1
    have h1' : lo ≤ x := h1
    show ts.getD (x - lo).toNat d = d
    rw [List.getD, List.getElem?_eq_none (by omega)]
    rfl
  · rfl
theorem zup_row {M : zM} {a i v b : Int} (h : b ≠ a) : zup M a i v b = M b := funext fun _ => zup_na h
theorem zcpy_na {M : zM} {s sp d dp n b j : Int} (h : b ≠ d) : zcpy M s sp d dp n b j = M b j := if_neg (fun q => h q.1)
theorem zcpy_row {M : zM} {s sp d dp n b : Int} (h : b ≠ d) : zcpy M s sp d dp n b = M b := funext fun _ => zcpy_na h
/-- the two memories are alike but for the rows from lo to hi -/
def yfr (lo hi : Int) (M M' : zM) : Prop := ∀ b : Int, ¬ (lo ≤ b ∧ b ≤ hi) → M' b = M b
theorem yfr.rf {lo hi : Int} {M : zM} : yfr lo hi M M := fun _ _ => rfl
theorem yfr.tr {lo hi : Int} {M M1 M2 : zM} (h1 : yfr lo hi M M1) (h2 : yfr lo hi M1 M2) : yfr lo hi M M2 := fun b hb => (h2 b hb).trans (h1 b hb)
theorem yfr.up {lo hi a i v : Int} {M M1 : zM} (h : yfr lo hi M M1) (ha : lo ≤ a ∧ a ≤ hi) : yfr lo hi M (zup M1 a i v) := fun b hb => (zup_row (fun z => hb (by omega))).trans (h b hb)
theorem yfr.wd {lo hi lo' hi' : Int} {M M1 : zM} (h : yfr lo hi M M1) (h1 : lo' ≤ lo) (h2 : hi ≤ hi') : yfr lo' hi' M M1 := fun b hb => h b (by omega)
theorem zc_0 : zcls zS0 0 = some 0 := rfl
theorem zr_0_0 : zref zS0 0 0 0 = some 1 := rfl
theorem zr_0_4 : zref zS0 0 0 4 = some 2 := rfl
theorem zr_0_5 : zref zS0 0 0 5 = some 9 := rfl
theorem zr_0_6 : zref zS0 0 0 6 = some 81 := rfl
theorem zr_0_7 : zref zS0 0 0 7 = some 98 := rfl
theorem zr_0_8 : zref zS0 0 0 8 = some 105 := rfl
theorem zr_0_9 : zref zS0 0 0 9 = some 120 := rfl
theorem zr_0_10 : zref zS0 0 0 10 = some 126 := rfl
theorem zr_0_11 : zref zS0 0 0 11 = some 138 := rfl
theorem zr_0_12 : zref zS0 0 0 12 = some 140 := rfl
theorem zr_0_13 : zref zS0 0 0 13 = some 144 := rfl
theorem za_1 : zar zS0 1 = some (1, 400) := rfl
theorem zc_2 : zcls zS0 2 = some 10 := rfl
theorem zr_2_0 : zref zS0 2 10 0 = some 3 := rfl
theorem zr_2_1 : zref zS0 2 10 1 = some 8 := rfl
theorem zc_3 : zcls zS0 3 = some 9 := rfl
theorem zr_3_0 : zref zS0 3 9 0 = some 4 := rfl
theorem zr_3_1 : zref zS0 3 9 1 = some 5 := rfl
theorem zr_3_2 : zref zS0 3 9 2 = some 6 := rfl
theorem zr_3_3 : zref zS0 3 9 3 = some 7 := rfl
theorem za_4 : zar zS0 4 = some (1, 26) := rfl
theorem za_5 : zar zS0 5 = some (1, 26) := rfl
theorem za_6 : zar zS0 6 = some (1, 26) := rfl
theorem za_7 : zar zS0 7 = some (1, 26) := rfl
theorem za_8 : zar zS0 8 = some (1, 60) := rfl
theorem zc_9 : zcls zS0 9 = some 4 := rfl
theorem zr_9_1 : zref zS0 9 4 1 = some 10 := rfl
theorem za_10 : zar zS0 10 = some (5, 10) := rfl
theorem zc_11 : zcls zS0 11 = some 10 := rfl
theorem zr_11_0 : zref zS0 11 10 0 = some 12 := rfl
theorem zr_11_1 : zref zS0 11 10 1 = some 17 := rfl
theorem zc_12 : zcls zS0 12 = some 9 := rfl
theorem zr_12_0 : zref zS0 12 9 0 = some 13 := rfl
theorem zr_12_1 : zref zS0 12 9 1 = some 14 := rfl
theorem zr_12_2 : zref zS0 12 9 2 = some 15 := rfl
theorem zr_12_3 : zref zS0 12 9 3 = some 16 := rfl
theorem za_13 : zar zS0 13 = some (1, 26) := rfl
theorem za_14 : zar zS0 14 = some (1, 26) := rfl
theorem za_15 : zar zS0 15 = some (1, 26) := rfl
theorem za_16 : zar zS0 16 = some (1, 26) := rfl
theorem za_17 : zar zS0 17 = some (1, 60) := rfl
theorem zc_18 : zcls zS0 18 = some 10 := rfl
theorem zr_18_0 : zref zS0 18 10 0 = some 19 := rfl
theorem zr_18_1 : zref zS0 18 10 1 = some 24 := rfl
theorem zc_19 : zcls zS0 19 = some 9 := rfl
theorem zr_19_0 : zref zS0 19 9 0 = some 20 := rfl
theorem zr_19_1 : zref zS0 19 9 1 = some 21 := rfl
theorem zr_19_2 : zref zS0 19 9 2 = some 22 := rfl
theorem zr_19_3 : zref zS0 19 9 3 = some 23 := rfl
theorem za_20 : zar zS0 20 = some (1, 26) := rfl
theorem za_21 : zar zS0 21 = some (1, 26) := rfl
theorem za_22 : zar zS0 22 = some (1, 26) := rfl
theorem za_23 : zar zS0 23 = some (1, 26) := rfl
theorem za_24 : zar zS0 24 = some (1, 60) := rfl
theorem zc_25 : zcls zS0 25 = some 10 := rfl
theorem zr_25_0 : zref zS0 25 10 0 = some 26 := rfl
theorem zr_25_1 : zref zS0 25 10 1 = some 31 := rfl
theorem zc_26 : zcls zS0 26 = some 9 := rfl
theorem zr_26_0 : zref zS0 26 9 0 = some 27 := rfl
theorem zr_26_1 : zref zS0 26 9 1 = some 28 := rfl
theorem zr_26_2 : zref zS0 26 9 2 = some 29 := rfl
theorem zr_26_3 : zref zS0 26 9 3 = some 30 := rfl
theorem za_27 : zar zS0 27 = some (1, 26) := rfl
theorem za_28 : zar zS0 28 = some (1, 26) := rfl
theorem za_29 : zar zS0 29 = some (1, 26) := rfl
theorem za_30 : zar zS0 30 = some (1, 26) := rfl
theorem za_31 : zar zS0 31 = some (1, 60) := rfl
theorem zc_32 : zcls zS0 32 = some 10 := rfl
theorem zr_32_0 : zref zS0 32 10 0 = some 33 := rfl
theorem zr_32_1 : zref zS0 32 10 1 = some 38 := rfl
theorem zc_33 : zcls zS0 33 = some 9 := rfl
theorem zr_33_0 : zref zS0 33 9 0 = some 34 := rfl
theorem zr_33_1 : zref zS0 33 9 1 = some 35 := rfl
theorem zr_33_2 : zref zS0 33 9 2 = some 36 := rfl
theorem zr_33_3 : zref zS0 33 9 3 = some 37 := rfl
theorem za_34 : zar zS0 34 = some (1, 26) := rfl
theorem za_35 : zar zS0 35 = some (1, 26) := rfl
theorem za_36 : zar zS0 36 = some (1, 26) := rfl
theorem za_37 : zar zS0 37 = some (1, 26) := rfl
theorem za_38 : zar zS0 38 = some (1, 60) := rfl
theorem zc_39 : zcls zS0 39 = some 10 := rfl
theorem zr_39_0 : zref zS0 39 10 0 = some 40 := rfl
theorem zr_39_1 : zref zS0 39 10 1 = some 45 := rfl
theorem zc_40 : zcls zS0 40 = some 9 := rfl
theorem zr_40_0 : zref zS0 40 9 0 = some 41 := rfl
theorem zr_40_1 : zref zS0 40 9 1 = some 42 := rfl
theorem zr_40_2 : zref zS0 40 9 2 = some 43 := rfl
theorem zr_40_3 : zref zS0 40 9 3 = some 44 := rfl
theorem za_41 : zar zS0 41 = some (1, 26) := rfl
theorem za_42 : zar zS0 42 = some (1, 26) := rfl
theorem za_43 : zar zS0 43 = some (1, 26) := rfl
theorem za_44 : zar zS0 44 = some (1, 26) := rfl
theorem za_45 : zar zS0 45 = some (1, 60) := rfl
theorem zc_46 : zcls zS0 46 = some 10 := rfl
theorem zr_46_0 : zref zS0 46 10 0 = some 47 := rfl
theorem zr_46_1 : zref zS0 46 10 1 = some 52 := rfl
theorem zc_47 : zcls zS0 47 = some 9 := rfl
theorem zr_47_0 : zref zS0 47 9 0 = some 48 := rfl
theorem zr_47_1 : zref zS0 47 9 1 = some 49 := rfl
theorem zr_47_2 : zref zS0 47 9 2 = some 50 := rfl
theorem zr_47_3 : zref zS0 47 9 3 = some 51 := rfl
theorem za_48 : zar zS0 48 = some (1, 26) := rfl
theorem za_49 : zar zS0 49 = some (1, 26) := rfl
theorem za_50 : zar zS0 50 = some (1, 26) := rfl
theorem za_51 : zar zS0 51 = some (1, 26) := rfl
theorem za_52 : zar zS0 52 = some (1, 60) := rfl
theorem zc_53 : zcls zS0 53 = some 10 := rfl
theorem zr_53_0 : zref zS0 53 10 0 = some 54 := rfl
theorem zr_53_1 : zref zS0 53 10 1 = some 59 := rfl
theorem zc_54 : zcls zS0 54 = some 9 := rfl
theorem zr_54_0 : zref zS0 54 9 0 = some 55 := rfl
theorem zr_54_1 : zref zS0 54 9 1 = some 56 := rfl
theorem zr_54_2 : zref zS0 54 9 2 = some 57 := rfl
theorem zr_54_3 : zref zS0 54 9 3 = some 58 := rfl
theorem za_55 : zar zS0 55 = some (1, 26) := rfl
theorem za_56 : zar zS0 56 = some (1, 26) := rfl
theorem za_57 : zar zS0 57 = some (1, 26) := rfl
theorem za_58 : zar zS0 58 = some (1, 26) := rfl
theorem za_59 : zar zS0 59 = some (1, 60) := rfl
theorem zc_60 : zcls zS0 60 = some 10 := rfl
theorem zr_60_0 : zref zS0 60 10 0 = some 61 := rfl
theorem zr_60_1 : zref zS0 60 10 1 = some 66 := rfl
theorem zc_61 : zcls zS0 61 = some 9 := rfl
theorem zr_61_0 : zref zS0 61 9 0 = some 62 := rfl
theorem zr_61_1 : zref zS0 61 9 1 = some 63 := rfl
theorem zr_61_2 : zref zS0 61 9 2 = some 64 := rfl
theorem zr_61_3 : zref zS0 61 9 3 = some 65 := rfl
theorem za_62 : zar zS0 62 = some (1, 26) := rfl
theorem za_63 : zar zS0 63 = some (1, 26) := rfl
theorem za_64 : zar zS0 64 = some (1, 26) := rfl
theorem za_65 : zar zS0 65 = some (1, 26) := rfl
theorem za_66 : zar zS0 66 = some (1, 60) := rfl
theorem zc_67 : zcls zS0 67 = some 10 := rfl
theorem zr_67_0 : zref zS0 67 10 0 = some 68 := rfl
theorem zr_67_1 : zref zS0 67 10 1 = some 73 := rfl
theorem zc_68 : zcls zS0 68 = some 9 := rfl
theorem zr_68_0 : zref zS0 68 9 0 = some 69 := rfl
theorem zr_68_1 : zref zS0 68 9 1 = some 70 := rfl
theorem zr_68_2 : zref zS0 68 9 2 = some 71 := rfl
theorem zr_68_3 : zref zS0 68 9 3 = some 72 := rfl
theorem za_69 : zar zS0 69 = some (1, 26) := rfl
theorem za_70 : zar zS0 70 = some (1, 26) := rfl
theorem za_71 : zar zS0 71 = some (1, 26) := rfl
theorem za_72 : zar zS0 72 = some (1, 26) := rfl
theorem za_73 : zar zS0 73 = some (1, 60) := rfl
theorem zc_74 : zcls zS0 74 = some 10 := rfl
theorem zr_74_0 : zref zS0 74 10 0 = some 75 := rfl
theorem zr_74_1 : zref zS0 74 10 1 = some 80 := rfl
theorem zc_75 : zcls zS0 75 = some 9 := rfl
theorem zr_75_0 : zref zS0 75 9 0 = some 76 := rfl
theorem zr_75_1 : zref zS0 75 9 1 = some 77 := rfl
theorem zr_75_2 : zref zS0 75 9 2 = some 78 := rfl
theorem zr_75_3 : zref zS0 75 9 3 = some 79 := rfl
theorem za_76 : zar zS0 76 = some (1, 26) := rfl
theorem za_77 : zar zS0 77 = some (1, 26) := rfl
theorem za_78 : zar zS0 78 = some (1, 26) := rfl
theorem za_79 : zar zS0 79 = some (1, 26) := rfl
theorem za_80 : zar zS0 80 = some (1, 60) := rfl
theorem zc_81 : zcls zS0 81 = some 6 := rfl
theorem zr_81_0 : zref zS0 81 6 0 = some 82 := rfl
theorem zr_81_1 : zref zS0 81 6 1 = some 83 := rfl
theorem za_82 : zar zS0 82 = some (5, 2) := rfl
theorem za_83 : zar zS0 83 = some (3, 2) := rfl
theorem zc_84 : zcls zS0 84 = some 10 := rfl
theorem zr_84_0 : zref zS0 84 10 0 = some 85 := rfl
theorem zr_84_1 : zref zS0 84 10 1 = some 90 := rfl
theorem zc_85 : zcls zS0 85 = some 9 := rfl
theorem zr_85_0 : zref zS0 85 9 0 = some 86 := rfl
theorem zr_85_1 : zref zS0 85 9 1 = some 87 := rfl
theorem zr_85_2 : zref zS0 85 9 2 = some 88 := rfl
theorem zr_85_3 : zref zS0 85 9 3 = some 89 := rfl
theorem za_86 : zar zS0 86 = some (1, 26) := rfl
theorem za_87 : zar zS0 87 = some (1, 26) := rfl
theorem za_88 : zar zS0 88 = some (1, 26) := rfl
theorem za_89 : zar zS0 89 = some (1, 26) := rfl
theorem za_90 : zar zS0 90 = some (1, 60) := rfl
theorem zc_91 : zcls zS0 91 = some 10 := rfl
theorem zr_91_0 : zref zS0 91 10 0 = some 92 := rfl
theorem zr_91_1 : zref zS0 91 10 1 = some 97 := rfl
theorem zc_92 : zcls zS0 92 = some 9 := rfl
theorem zr_92_0 : zref zS0 92 9 0 = some 93 := rfl
theorem zr_92_1 : zref zS0 92 9 1 = some 94 := rfl
theorem zr_92_2 : zref zS0 92 9 2 = some 95 := rfl
theorem zr_92_3 : zref zS0 92 9 3 = some 96 := rfl
theorem za_93 : zar zS0 93 = some (1, 26) := rfl
theorem za_94 : zar zS0 94 = some (1, 26) := rfl
theorem za_95 : zar zS0 95 = some (1, 26) := rfl
theorem za_96 : zar zS0 96 = some (1, 26) := rfl
theorem za_97 : zar zS0 97 = some (1, 60) := rfl
theorem zc_98 : zcls zS0 98 = some 8 := rfl
theorem zr_98_0 : zref zS0 98 8 0 = some 99 := rfl
theorem zr_98_3 : zref zS0 98 8 3 = some 104 := rfl
theorem zc_99 : zcls zS0 99 = some 9 := rfl
theorem zr_99_0 : zref zS0 99 9 0 = some 100 := rfl
theorem zr_99_1 : zref zS0 99 9 1 = some 101 := rfl
theorem zr_99_2 : zref zS0 99 9 2 = some 102 := rfl
theorem zr_99_3 : zref zS0 99 9 3 = some 103 := rfl
theorem za_100 : zar zS0 100 = some (1, 26) := rfl
theorem za_101 : zar zS0 101 = some (1, 26) := rfl
theorem za_102 : zar zS0 102 = some (1, 26) := rfl
theorem za_103 : zar zS0 103 = some (1, 26) := rfl
theorem za_104 : zar zS0 104 = some (1, 400) := rfl
theorem zc_105 : zcls zS0 105 = some 2 := rfl
theorem zr_105_2 : zref zS0 105 2 2 = some 106 := rfl
theorem zr_105_3 : zref zS0 105 2 3 = some 107 := rfl
theorem zr_105_4 : zref zS0 105 2 4 = some 108 := rfl
theorem za_106 : zar zS0 106 = some (1, 60) := rfl
theorem za_107 : zar zS0 107 = some (1, 60) := rfl
theorem za_108 : zar zS0 108 = some (4, 11) := rfl
theorem zrw_108 : zrow zS0 108 = some (11, 109) := rfl
theorem za_109 : zar zS0 109 = some (1, 60) := rfl
theorem za_110 : zar zS0 110 = some (1, 60) := rfl
theorem za_111 : zar zS0 111 = some (1, 60) := rfl
theorem za_112 : zar zS0 112 = some (1, 60) := rfl
theorem za_113 : zar zS0 113 = some (1, 60) := rfl
theorem za_114 : zar zS0 114 = some (1, 60) := rfl
theorem za_115 : zar zS0 115 = some (1, 60) := rfl
theorem za_116 : zar zS0 116 = some (1, 60) := rfl
theorem za_117 : zar zS0 117 = some (1, 60) := rfl
theorem za_118 : zar zS0 118 = some (1, 60) := rfl
theorem za_119 : zar zS0 119 = some (1, 60) := rfl
theorem zc_120 : zcls zS0 120 = some 1 := rfl
theorem zr_120_10 : zref zS0 120 1 10 = some 121 := rfl
theorem zr_120_11 : zref zS0 120 1 11 = some 122 := rfl
theorem zr_120_12 : zref zS0 120 1 12 = some 123 := rfl
theorem zr_120_13 : zref zS0 120 1 13 = some 124 := rfl
theorem zr_120_14 : zref zS0 120 1 14 = some 125 := rfl
theorem za_121 : zar zS0 121 = some (1, 60) := rfl
theorem za_122 : zar zS0 122 = some (1, 60) := rfl
theorem za_123 : zar zS0 123 = some (1, 60) := rfl
theorem za_124 : zar zS0 124 = some (1, 60) := rfl
theorem za_125 : zar zS0 125 = some (3, 60) := rfl
theorem zc_126 : zcls zS0 126 = some 3 := rfl
theorem zr_126_1 : zref zS0 126 3 1 = some 127 := rfl
theorem zr_126_2 : zref zS0 126 3 2 = some 135 := rfl
theorem zr_126_3 : zref zS0 126 3 3 = some 136 := rfl
theorem zr_126_4 : zref zS0 126 3 4 = some 137 := rfl
theorem zr_126_5 : zref zS0 126 3 5 = some 2 := rfl
theorem zr_126_6 : zref zS0 126 3 6 = some 105 := rfl
theorem zr_126_7 : zref zS0 126 3 7 = some 120 := rfl
theorem za_127 : zar zS0 127 = some (4, 7) := rfl
theorem zrw_127 : zrow zS0 127 = some (7, 128) := rfl
theorem za_128 : zar zS0 128 = some (1, 180) := rfl
theorem za_129 : zar zS0 129 = some (1, 180) := rfl
theorem za_130 : zar zS0 130 = some (1, 180) := rfl
theorem za_131 : zar zS0 131 = some (1, 180) := rfl
theorem za_132 : zar zS0 132 = some (1, 180) := rfl
theorem za_133 : zar zS0 133 = some (1, 180) := rfl
theorem za_134 : zar zS0 134 = some (1, 180) := rfl
theorem za_135 : zar zS0 135 = some (1, 60) := rfl
theorem za_136 : zar zS0 136 = some (1, 61) := rfl
theorem za_137 : zar zS0 137 = some (1, 61) := rfl
theorem zc_138 : zcls zS0 138 = some 7 := rfl
theorem zr_138_1 : zref zS0 138 7 1 = some 139 := rfl
theorem zr_138_2 : zref zS0 138 7 2 = some 2 := rfl
theorem zr_138_3 : zref zS0 138 7 3 = some 105 := rfl
theorem za_139 : zar zS0 139 = some (1, 120) := rfl
theorem zc_140 : zcls zS0 140 = some 11 := rfl
theorem zr_140_1 : zref zS0 140 11 1 = some 141 := rfl
theorem zr_140_2 : zref zS0 140 11 2 = some 142 := rfl
theorem zr_140_3 : zref zS0 140 11 3 = some 143 := rfl
theorem za_141 : zar zS0 141 = some (1, 61) := rfl
theorem za_142 : zar zS0 142 = some (1, 61) := rfl
theorem za_143 : zar zS0 143 = some (1, 61) := rfl
theorem zc_144 : zcls zS0 144 = some 5 := rfl
theorem zr_144_1 : zref zS0 144 5 1 = some 145 := rfl
theorem zr_144_2 : zref zS0 144 5 2 = some 146 := rfl
theorem za_145 : zar zS0 145 = some (1, 60) := rfl
theorem za_146 : zar zS0 146 = some (4, 61) := rfl
theorem zrw_146 : zrow zS0 146 = some (61, 147) := rfl
theorem za_147 : zar zS0 147 = some (1, 10) := rfl
theorem za_148 : zar zS0 148 = some (1, 10) := rfl
theorem za_149 : zar zS0 149 = some (1, 10) := rfl
theorem za_150 : zar zS0 150 = some (1, 10) := rfl
theorem za_151 : zar zS0 151 = some (1, 10) := rfl
theorem za_152 : zar zS0 152 = some (1, 10) := rfl
theorem za_153 : zar zS0 153 = some (1, 10) := rfl
theorem za_154 : zar zS0 154 = some (1, 10) := rfl
theorem za_155 : zar zS0 155 = some (1, 10) := rfl
theorem za_156 : zar zS0 156 = some (1, 10) := rfl
theorem za_157 : zar zS0 157 = some (1, 10) := rfl
theorem za_158 : zar zS0 158 = some (1, 10) := rfl
theorem za_159 : zar zS0 159 = some (1, 10) := rfl
theorem za_160 : zar zS0 160 = some (1, 10) := rfl
theorem za_161 : zar zS0 161 = some (1, 10) := rfl
theorem za_162 : zar zS0 162 = some (1, 10) := rfl
theorem za_163 : zar zS0 163 = some (1, 10) := rfl
theorem za_164 : zar zS0 164 = some (1, 10) := rfl
theorem za_165 : zar zS0 165 = some (1, 10) := rfl
theorem za_166 : zar zS0 166 = some (1, 10) := rfl
theorem za_167 : zar zS0 167 = some (1, 10) := rfl
theorem za_168 : zar zS0 168 = some (1, 10) := rfl
theorem za_169 : zar zS0 169 = some (1, 10) := rfl
theorem za_170 : zar zS0 170 = some (1, 10) := rfl
theorem za_171 : zar zS0 171 = some (1, 10) := rfl
theorem za_172 : zar zS0 172 = some (1, 10) := rfl
theorem za_173 : zar zS0 173 = some (1, 10) := rfl
theorem za_174 : zar zS0 174 = some (1, 10) := rfl
theorem za_175 : zar zS0 175 = some (1, 10) := rfl
theorem za_176 : zar zS0 176 = some (1, 10) := rfl
theorem za_177 : zar zS0 177 = some (1, 10) := rfl
theorem za_178 : zar zS0 178 = some (1, 10) := rfl
theorem za_179 : zar zS0 179 = some (1, 10) := rfl
theorem za_180 : zar zS0 180 = some (1, 10) := rfl
theorem za_181 : zar zS0 181 = some (1, 10) := rfl
theorem za_182 : zar zS0 182 = some (1, 10) := rfl
theorem za_183 : zar zS0 183 = some (1, 10) := rfl
theorem za_184 : zar zS0 184 = some (1, 10) := rfl
theorem za_185 : zar zS0 185 = some (1, 10) := rfl
theorem za_186 : zar zS0 186 = some (1, 10) := rfl
theorem za_187 : zar zS0 187 = some (1, 10) := rfl
theorem za_188 : zar zS0 188 = some (1, 10) := rfl
theorem za_189 : zar zS0 189 = some (1, 10) := rfl
theorem za_190 : zar zS0 190 = some (1, 10) := rfl
theorem za_191 : zar zS0 191 = some (1, 10) := rfl
theorem za_192 : zar zS0 192 = some (1, 10) := rfl
theorem za_193 : zar zS0 193 = some (1, 10) := rfl
theorem za_194 : zar zS0 194 = some (1, 10) := rfl
theorem za_195 : zar zS0 195 = some (1, 10) := rfl
theorem za_196 : zar zS0 196 = some (1, 10) := rfl
theorem za_197 : zar zS0 197 = some (1, 10) := rfl
theorem za_198 : zar zS0 198 = some (1, 10) := rfl
theorem za_199 : zar zS0 199 = some (1, 10) := rfl
theorem za_200 : zar zS0 200 = some (1, 10) := rfl
theorem za_201 : zar zS0 201 = some (1, 10) := rfl
theorem za_202 : zar zS0 202 = some (1, 10) := rfl
theorem za_203 : zar zS0 203 = some (1, 10) := rfl
theorem za_204 : zar zS0 204 = some (1, 10) := rfl
theorem za_205 : zar zS0 205 = some (1, 10) := rfl
theorem za_206 : zar zS0 206 = some (1, 10) := rfl
theorem za_207 : zar zS0 207 = some (1, 10) := rfl
theorem zc_208 : zcls zS0 208 = some 12 := rfl
theorem zr_208_1 : zref zS0 208 12 1 = some 209 := rfl
theorem zr_208_2 : zref zS0 208 12 2 = some 210 := rfl
theorem zr_208_4 : zref zS0 208 12 4 = some 211 := rfl
theorem zr_208_5 : zref zS0 208 12 5 = some 212 := rfl
theorem zr_208_6 : zref zS0 208 12 6 = some 213 := rfl
theorem zr_208_7 : zref zS0 208 12 7 = some 214 := rfl
theorem zr_208_8 : zref zS0 208 12 8 = some 215 := rfl
theorem zr_208_9 : zref zS0 208 12 9 = some 216 := rfl
theorem zr_208_10 : zref zS0 208 12 10 = some 217 := rfl
theorem zr_208_11 : zref zS0 208 12 11 = some 218 := rfl
theorem zr_208_12 : zref zS0 208 12 12 = some 219 := rfl
theorem zr_208_13 : zref zS0 208 12 13 = some 220 := rfl
theorem zr_208_14 : zref zS0 208 12 14 = some 221 := rfl
theorem zr_208_16 : zref zS0 208 12 16 = some 222 := rfl
theorem zr_208_17 : zref zS0 208 12 17 = some 223 := rfl
theorem zr_208_18 : zref zS0 208 12 18 = some 224 := rfl
theorem zr_208_19 : zref zS0 208 12 19 = some 225 := rfl
theorem zr_208_20 : zref zS0 208 12 20 = some 226 := rfl
theorem zr_208_23 : zref zS0 208 12 23 = some 227 := rfl
theorem zr_208_24 : zref zS0 208 12 24 = some 228 := rfl
theorem zr_208_25 : zref zS0 208 12 25 = some 229 := rfl
theorem zr_208_26 : zref zS0 208 12 26 = some 230 := rfl
theorem zr_208_27 : zref zS0 208 12 27 = some 231 := rfl
theorem zr_208_28 : zref zS0 208 12 28 = some 232 := rfl
theorem zr_208_29 : zref zS0 208 12 29 = some 233 := rfl
theorem zr_208_30 : zref zS0 208 12 30 = some 234 := rfl
theorem zr_208_32 : zref zS0 208 12 32 = some 235 := rfl
theorem zr_208_34 : zref zS0 208 12 34 = some 236 := rfl
theorem zr_208_40 : zref zS0 208 12 40 = some 237 := rfl
theorem zr_208_42 : zref zS0 208 12 42 = some 238 := rfl
theorem zr_208_44 : zref zS0 208 12 44 = some 239 := rfl
theorem zr_208_45 : zref zS0 208 12 45 = some 240 := rfl
theorem zr_208_47 : zref zS0 208 12 47 = some 241 := rfl
theorem zr_208_48 : zref zS0 208 12 48 = some 242 := rfl
theorem zr_208_49 : zref zS0 208 12 49 = some 243 := rfl
theorem za_209 : zar zS0 209 = some (1, 546) := rfl
theorem za_210 : zar zS0 210 = some (1, 1820) := rfl
theorem za_211 : zar zS0 211 = some (3, 2) := rfl
theorem za_212 : zar zS0 212 = some (1, 61) := rfl
theorem za_213 : zar zS0 213 = some (1, 60) := rfl
theorem za_214 : zar zS0 214 = some (1, 60) := rfl
theorem za_215 : zar zS0 215 = some (1, 60) := rfl
theorem za_216 : zar zS0 216 = some (1, 60) := rfl
theorem za_217 : zar zS0 217 = some (1, 60) := rfl
theorem za_218 : zar zS0 218 = some (1, 60) := rfl
theorem za_219 : zar zS0 219 = some (1, 60) := rfl
theorem za_220 : zar zS0 220 = some (1, 60) := rfl
theorem za_221 : zar zS0 221 = some (1, 61) := rfl
theorem za_222 : zar zS0 222 = some (1, 60) := rfl
theorem za_223 : zar zS0 223 = some (1, 60) := rfl
theorem za_224 : zar zS0 224 = some (1, 60) := rfl
theorem za_225 : zar zS0 225 = some (1, 60) := rfl
theorem za_226 : zar zS0 226 = some (3, 60) := rfl
theorem za_227 : zar zS0 227 = some (1, 180) := rfl
theorem za_228 : zar zS0 228 = some (1, 180) := rfl
theorem za_229 : zar zS0 229 = some (1, 180) := rfl
theorem za_230 : zar zS0 230 = some (1, 180) := rfl
theorem za_231 : zar zS0 231 = some (1, 180) := rfl
theorem za_232 : zar zS0 232 = some (1, 180) := rfl
theorem za_233 : zar zS0 233 = some (1, 180) := rfl
theorem za_234 : zar zS0 234 = some (1, 60) := rfl
theorem za_235 : zar zS0 235 = some (1, 120) := rfl
theorem za_236 : zar zS0 236 = some (2, 400) := rfl
theorem za_237 : zar zS0 237 = some (1, 122) := rfl
theorem za_238 : zar zS0 238 = some (2, 111) := rfl
theorem za_239 : zar zS0 239 = some (1, 549) := rfl
theorem za_240 : zar zS0 240 = some (1, 60) := rfl
theorem za_241 : zar zS0 241 = some (1, 60) := rfl
theorem za_242 : zar zS0 242 = some (1, 61) := rfl
theorem za_243 : zar zS0 243 = some (1, 61) := rfl
end
section
/-! The automaton of clusters: what the class' static methods answer -/
def ygo (s k : Int) : Int :=
  if k = 1 then (if s = 3 ∨ s = 4 then 1 else -1)
  else if k = 3 then (if s = 1 ∨ s = 2 then 3 else if s = 8 then 9 else -1)
  else if k = 4 then (if s = 1 then 2 else if s = 7 then 6 else -1)
  else if 5 ≤ k ∧ k ≤ 9 then (if s = 1 ∨ s = 2 ∨ s = 8 ∨ s = 5 then 5 else -1)
  else if k = 10 ∨ k = 11 then (if s = 0 then -1 else 6)
  else if k = 12 ∨ k = 13 then (if s = 3 then 4 else if s = 9 then 6 else -1)
  else -1
def yfs (k : Int) : Int := if k = 1 then 1 else if k = 2 then 7 else if k = 3 then 9 else if k = 4 then 8 else if k = 10 ∨ k = 11 then 6 else if 5 ≤ k ∧ k ≤ 9 then 5 else 0
def yso (k : Int) : Int := if k = 1 then 0 else if k = 2 then 1 else if k = 0 ∨ k = 12 ∨ k = 13 then 3 else 2
def ysb (s k : Int) : Int := if ygo s k = -1 then yfs k else ygo s k
def ybr (s k : Int) : Int := if yso k = 2 ∧ ygo s k = -1 then 1 else 0

theorem m_goOn {s t : Int} {M : zM} {Q : zV → zM → Prop} (k : Q (0, ygo s t) M) : zWp kX_goOn 0 [(0, s), (0, t)] [] M Q := by
  refine zw_iload ⟨rfl, rfl⟩ rfl ?_
  refine zw_const ⟨rfl, rfl⟩ ?_
  refine zw_icne ⟨rfl, rfl⟩ rfl (fun c1 => ?_) (fun c1 => ?_)
  · skip
    refine zw_iload ⟨rfl, rfl⟩ rfl ?_
    refine zw_const ⟨rfl, rfl⟩ ?_
    refine zw_icne ⟨rfl, rfl⟩ rfl (fun c2 => ?_) (fun c2 => ?_)
    · skip
      refine zw_iload ⟨rfl, rfl⟩ rfl ?_
      refine zw_const ⟨rfl, rfl⟩ ?_
      refine zw_icne ⟨rfl, rfl⟩ rfl (fun c3 => ?_) (fun c3 => ?_)
      · skip
        refine zw_iload ⟨rfl, rfl⟩ rfl ?_
        refine zw_calls1 ⟨rfl, rfl⟩ rfl rfl ?_
        refine zw_iload ⟨rfl, rfl⟩ rfl ?_
        refine zw_const ⟨rfl, rfl⟩ ?_
        refine zw_iclt ⟨rfl, rfl⟩ rfl (fun c4 => ?_) (fun c4 => ?_)
        · skip
          refine zw_const ⟨rfl, rfl⟩ ?_
          refine zw_zret rfl (by first | exact Or.inl rfl | exact Or.inr rfl | omega) ?_
          refine zw_ifeq ⟨rfl, rfl⟩ rfl (fun _ => ?_) (fun q => absurd (by decide) q)
          refine zw_iload ⟨rfl, rfl⟩ rfl ?_
          refine zw_calls1 ⟨rfl, rfl⟩ rfl rfl ?_
          refine zw_iload ⟨rfl, rfl⟩ rfl ?_
          refine zw_const ⟨rfl, rfl⟩ ?_
          refine zw_iceq ⟨rfl, rfl⟩ rfl (fun c6 => ?_) (fun c6 => ?_)
          · skip
            refine zw_const ⟨rfl, rfl⟩ ?_
            refine zw_goto ⟨rfl, rfl⟩ rfl ?_
            refine zw_zret rfl (by first | exact Or.inl rfl | exact Or.inr rfl | omega) ?_
            refine zw_ifeq ⟨rfl, rfl⟩ rfl (fun q => absurd q (by decide)) (fun _ => ?_)
            refine zw_iload ⟨rfl, rfl⟩ rfl ?_
            refine zw_ifne ⟨rfl, rfl⟩ rfl (fun c8 => ?_) (fun c8 => ?_)
            · skip
              refine zw_const ⟨rfl, rfl⟩ ?_
              refine zw_ret rfl ?_
              rw [show ygo s t = 6 from by grind [ygo]] at k
              exact k
            · skip
              refine zw_const ⟨rfl, rfl⟩ ?_
              refine zw_goto ⟨rfl, rfl⟩ rfl ?_
              refine zw_ret rfl ?_
              rw [show ygo s t = (-1) from by grind [ygo]] at k
              exact k
          · skip
            refine zw_iload ⟨rfl, rfl⟩ rfl ?_
            refine zw_const ⟨rfl, rfl⟩ ?_
            refine zw_icne ⟨rfl, rfl⟩ rfl (fun c9 => ?_) (fun c9 => ?_)
            · skip
              refine zw_const ⟨rfl, rfl⟩ ?_
              refine zw_zret rfl (by first | exact Or.inl rfl | exact Or.inr rfl | omega) ?_
              refine zw_ifeq ⟨rfl, rfl⟩ rfl (fun _ => ?_) (fun q => absurd (by decide) q)
              refine zw_iload ⟨rfl, rfl⟩ rfl ?_
              refine zw_calls1 ⟨rfl, rfl⟩ rfl rfl ?_
              refine zw_iload ⟨rfl, rfl⟩ rfl ?_
              refine zw_const ⟨rfl, rfl⟩ ?_
              refine zw_iceq ⟨rfl, rfl⟩ rfl (fun c11 => ?_) (fun c11 => ?_)
              · skip
                refine zw_const ⟨rfl, rfl⟩ ?_
                refine zw_goto ⟨rfl, rfl⟩ rfl ?_
                refine zw_zret rfl (by first | exact Or.inl rfl | exact Or.inr rfl | omega) ?_
                refine zw_ifeq ⟨rfl, rfl⟩ rfl (fun q => absurd q (by decide)) (fun _ => ?_)
                refine zw_iload ⟨rfl, rfl⟩ rfl ?_
                refine zw_const ⟨rfl, rfl⟩ ?_
                refine zw_icne ⟨rfl, rfl⟩ rfl (fun c13 => ?_) (fun c13 => ?_)
                · skip
                  refine zw_iload ⟨rfl, rfl⟩ rfl ?_
                  refine zw_const ⟨rfl, rfl⟩ ?_
                  refine zw_icne ⟨rfl, rfl⟩ rfl (fun c14 => ?_) (fun c14 => ?_)
                  · skip
                    refine zw_const ⟨rfl, rfl⟩ ?_
                    refine zw_ret rfl ?_
                    rw [show ygo s t = (-1) from by grind [ygo]] at k
                    exact k
                  · skip
                    refine zw_const ⟨rfl, rfl⟩ ?_
                    refine zw_goto ⟨rfl, rfl⟩ rfl ?_
                    refine zw_ret rfl ?_
                    rw [show ygo s t = 6 from by grind [ygo]] at k
                    exact k
                · skip
                  refine zw_const ⟨rfl, rfl⟩ ?_
                  refine zw_ret rfl ?_
                  rw [show ygo s t = 4 from by grind [ygo]] at k
                  exact k
              · skip
                refine zw_iload ⟨rfl, rfl⟩ rfl ?_
                refine zw_const ⟨rfl, rfl⟩ ?_
                refine zw_icne ⟨rfl, rfl⟩ rfl (fun c15 => ?_) (fun c15 => ?_)
                · skip
                  refine zw_const ⟨rfl, rfl⟩ ?_
                  refine zw_zret rfl (by first | exact Or.inl rfl | exact Or.inr rfl | omega) ?_
                  refine zw_ifeq ⟨rfl, rfl⟩ rfl (fun _ => ?_) (fun q => absurd (by decide) q)
                  refine zw_const ⟨rfl, rfl⟩ ?_
                  refine zw_ret rfl ?_
                  rw [show ygo s t = (-1) from by grind [ygo]] at k
                  exact k
                · skip
                  refine zw_const ⟨rfl, rfl⟩ ?_
                  refine zw_goto ⟨rfl, rfl⟩ rfl ?_
                  refine zw_zret rfl (by first | exact Or.inl rfl | exact Or.inr rfl | omega) ?_
                  refine zw_ifeq ⟨rfl, rfl⟩ rfl (fun q => absurd q (by decide)) (fun _ => ?_)
                  refine zw_iload ⟨rfl, rfl⟩ rfl ?_
                  refine zw_const ⟨rfl, rfl⟩ ?_
                  refine zw_icne ⟨rfl, rfl⟩ rfl (fun c18 => ?_) (fun c18 => ?_)
                  · skip
                    refine zw_iload ⟨rfl, rfl⟩ rfl ?_
                    refine zw_const ⟨rfl, rfl⟩ ?_
                    refine zw_icne ⟨rfl, rfl⟩ rfl (fun c19 => ?_) (fun c19 => ?_)
                    · skip
                      refine zw_const ⟨rfl, rfl⟩ ?_
                      refine zw_ret rfl ?_
                      rw [show ygo s t = (-1) from by grind [ygo]] at k
                      exact k
                    · skip
                      refine zw_const ⟨rfl, rfl⟩ ?_
                      refine zw_goto ⟨rfl, rfl⟩ rfl ?_
                      refine zw_ret rfl ?_
                      rw [show ygo s t = 6 from by grind [ygo]] at k
                      exact k
                  · skip
                    refine zw_const ⟨rfl, rfl⟩ ?_
                    refine zw_ret rfl ?_
                    rw [show ygo s t = 4 from by grind [ygo]] at k
                    exact k
            · skip
              refine zw_const ⟨rfl, rfl⟩ ?_
              refine zw_goto ⟨rfl, rfl⟩ rfl ?_
              refine zw_zret rfl (by first | exact Or.inl rfl | exact Or.inr rfl | omega) ?_
              refine zw_ifeq ⟨rfl, rfl⟩ rfl (fun q => absurd q (by decide)) (fun _ => ?_)
              refine zw_iload ⟨rfl, rfl⟩ rfl ?_
              refine zw_ifne ⟨rfl, rfl⟩ rfl (fun c21 => ?_) (fun c21 => ?_)
              · skip
                refine zw_const ⟨rfl, rfl⟩ ?_
                refine zw_ret rfl ?_
                rw [show ygo s t = 6 from by grind [ygo]] at k
                exact k
              · skip
                refine zw_const ⟨rfl, rfl⟩ ?_
                refine zw_goto ⟨rfl, rfl⟩ rfl ?_
                refine zw_ret rfl ?_
                rw [show ygo s t = (-1) from by grind [ygo]] at k
                exact k
        · skip
          refine zw_iload ⟨rfl, rfl⟩ rfl ?_
          refine zw_const ⟨rfl, rfl⟩ ?_
          refine zw_icgt ⟨rfl, rfl⟩ rfl (fun c22 => ?_) (fun c22 => ?_)
          · skip
            refine zw_const ⟨rfl, rfl⟩ ?_
            refine zw_zret rfl (by first | exact Or.inl rfl | exact Or.inr rfl | omega) ?_
            refine zw_ifeq ⟨rfl, rfl⟩ rfl (fun _ => ?_) (fun q => absurd (by decide) q)
            refine zw_iload ⟨rfl, rfl⟩ rfl ?_
            refine zw_calls1 ⟨rfl, rfl⟩ rfl rfl ?_
            refine zw_iload ⟨rfl, rfl⟩ rfl ?_
            refine zw_const ⟨rfl, rfl⟩ ?_
            refine zw_iceq ⟨rfl, rfl⟩ rfl (fun c24 => ?_) (fun c24 => ?_)
            · skip
              refine zw_const ⟨rfl, rfl⟩ ?_
              refine zw_goto ⟨rfl, rfl⟩ rfl ?_
              refine zw_zret rfl (by first | exact Or.inl rfl | exact Or.inr rfl | omega) ?_
              refine zw_ifeq ⟨rfl, rfl⟩ rfl (fun q => absurd q (by decide)) (fun _ => ?_)
              refine zw_iload ⟨rfl, rfl⟩ rfl ?_
              refine zw_ifne ⟨rfl, rfl⟩ rfl (fun c26 => ?_) (fun c26 => ?_)
              · skip
                refine zw_const ⟨rfl, rfl⟩ ?_
                refine zw_ret rfl ?_
                rw [show ygo s t = 6 from by grind [ygo]] at k
                exact k
              · skip
                refine zw_const ⟨rfl, rfl⟩ ?_
                refine zw_goto ⟨rfl, rfl⟩ rfl ?_
                refine zw_ret rfl ?_
                rw [show ygo s t = (-1) from by grind [ygo]] at k
                exact k
            · skip
              refine zw_iload ⟨rfl, rfl⟩ rfl ?_
              refine zw_const ⟨rfl, rfl⟩ ?_
              refine zw_icne ⟨rfl, rfl⟩ rfl (fun c27 => ?_) (fun c27 => ?_)
              · skip
                refine zw_const ⟨rfl, rfl⟩ ?_
                refine zw_zret rfl (by first | exact Or.inl rfl | exact Or.inr rfl | omega) ?_
                refine zw_ifeq ⟨rfl, rfl⟩ rfl (fun _ => ?_) (fun q => absurd (by decide) q)
                refine zw_iload ⟨rfl, rfl⟩ rfl ?_
                refine zw_calls1 ⟨rfl, rfl⟩ rfl rfl ?_
                refine zw_iload ⟨rfl, rfl⟩ rfl ?_
                refine zw_const ⟨rfl, rfl⟩ ?_
                refine zw_iceq ⟨rfl, rfl⟩ rfl (fun c29 => ?_) (fun c29 => ?_)
                · skip
                  refine zw_const ⟨rfl, rfl⟩ ?_
                  refine zw_goto ⟨rfl, rfl⟩ rfl ?_
                  refine zw_zret rfl (by first | exact Or.inl rfl | exact Or.inr rfl | omega) ?_
                  refine zw_ifeq ⟨rfl, rfl⟩ rfl (fun q => absurd q (by decide)) (fun _ => ?_)
                  refine zw_iload ⟨rfl, rfl⟩ rfl ?_
                  refine zw_const ⟨rfl, rfl⟩ ?_
                  refine zw_icne ⟨rfl, rfl⟩ rfl (fun c31 => ?_) (fun c31 => ?_)
                  · skip
                    refine zw_iload ⟨rfl, rfl⟩ rfl ?_
                    refine zw_const ⟨rfl, rfl⟩ ?_
                    refine zw_icne ⟨rfl, rfl⟩ rfl (fun c32 => ?_) (fun c32 => ?_)
                    · skip
                      refine zw_const ⟨rfl, rfl⟩ ?_
                      refine zw_ret rfl ?_
                      rw [show ygo s t = (-1) from by grind [ygo]] at k
                      exact k
                    · skip
                      refine zw_const ⟨rfl, rfl⟩ ?_
                      refine zw_goto ⟨rfl, rfl⟩ rfl ?_
                      refine zw_ret rfl ?_
                      rw [show ygo s t = 6 from by grind [ygo]] at k
                      exact k
                  · skip
                    refine zw_const ⟨rfl, rfl⟩ ?_
                    refine zw_ret rfl ?_
                    rw [show ygo s t = 4 from by grind [ygo]] at k
                    exact k
                · skip
                  refine zw_iload ⟨rfl, rfl⟩ rfl ?_
                  refine zw_const ⟨rfl, rfl⟩ ?_
                  refine zw_icne ⟨rfl, rfl⟩ rfl (fun c33 => ?_) (fun c33 => ?_)
                  · skip
                    refine zw_const ⟨rfl, rfl⟩ ?_
                    refine zw_zret rfl (by first | exact Or.inl rfl | exact Or.inr rfl | omega) ?_
                    refine zw_ifeq ⟨rfl, rfl⟩ rfl (fun _ => ?_) (fun q => absurd (by decide) q)
                    refine zw_const ⟨rfl, rfl⟩ ?_
                    refine zw_ret rfl ?_
                    rw [show ygo s t = (-1) from by grind [ygo]] at k
                    exact k
                  · skip
                    refine zw_const ⟨rfl, rfl⟩ ?_
                    refine zw_goto ⟨rfl, rfl⟩ rfl ?_
                    refine zw_zret rfl (by first | exact Or.inl rfl | exact Or.inr rfl | omega) ?_
                    refine zw_ifeq ⟨rfl, rfl⟩ rfl (fun q => absurd q (by decide)) (fun _ => ?_)
                    refine zw_iload ⟨rfl, rfl⟩ rfl ?_
                    refine zw_const ⟨rfl, rfl⟩ ?_
                    refine zw_icne ⟨rfl, rfl⟩ rfl (fun c36 => ?_) (fun c36 => ?_)
                    · skip
                      refine zw_iload ⟨rfl, rfl⟩ rfl ?_
                      refine zw_const ⟨rfl, rfl⟩ ?_
                      refine zw_icne ⟨rfl, rfl⟩ rfl (fun c37 => ?_) (fun c37 => ?_)
                      · skip
                        refine zw_const ⟨rfl, rfl⟩ ?_
                        refine zw_ret rfl ?_
                        rw [show ygo s t = (-1) from by grind [ygo]] at k
                        exact k
                      · skip
                        refine zw_const ⟨rfl, rfl⟩ ?_
                        refine zw_goto ⟨rfl, rfl⟩ rfl ?_
                        refine zw_ret rfl ?_
                        rw [show ygo s t = 6 from by grind [ygo]] at k
                        exact k
                    · skip
                      refine zw_const ⟨rfl, rfl⟩ ?_
                      refine zw_ret rfl ?_
                      rw [show ygo s t = 4 from by grind [ygo]] at k
                      exact k
              · skip
                refine zw_const ⟨rfl, rfl⟩ ?_
                refine zw_goto ⟨rfl, rfl⟩ rfl ?_
                refine zw_zret rfl (by first | exact Or.inl rfl | exact Or.inr rfl | omega) ?_
                refine zw_ifeq ⟨rfl, rfl⟩ rfl (fun q => absurd q (by decide)) (fun _ => ?_)
                refine zw_iload ⟨rfl, rfl⟩ rfl ?_
                refine zw_ifne ⟨rfl, rfl⟩ rfl (fun c39 => ?_) (fun c39 => ?_)
                · skip
                  refine zw_const ⟨rfl, rfl⟩ ?_
                  refine zw_ret rfl ?_
                  rw [show ygo s t = 6 from by grind [ygo]] at k
                  exact k
                · skip
                  refine zw_const ⟨rfl, rfl⟩ ?_
                  refine zw_goto ⟨rfl, rfl⟩ rfl ?_
                  refine zw_ret rfl ?_
                  rw [show ygo s t = (-1) from by grind [ygo]] at k
                  exact k
          · skip
            refine zw_const ⟨rfl, rfl⟩ ?_
            refine zw_goto ⟨rfl, rfl⟩ rfl ?_
            refine zw_zret rfl (by first | exact Or.inl rfl | exact Or.inr rfl | omega) ?_
            refine zw_ifeq ⟨rfl, rfl⟩ rfl (fun q => absurd q (by decide)) (fun _ => ?_)
            refine zw_iload ⟨rfl, rfl⟩ rfl ?_
            refine zw_calls1 ⟨rfl, rfl⟩ rfl rfl ?_
            refine zw_iload ⟨rfl, rfl⟩ rfl ?_
            refine zw_const ⟨rfl, rfl⟩ ?_
            refine zw_iceq ⟨rfl, rfl⟩ rfl (fun c41 => ?_) (fun c41 => ?_)
            · skip
              refine zw_const ⟨rfl, rfl⟩ ?_
              refine zw_goto ⟨rfl, rfl⟩ rfl ?_
              refine zw_zret rfl (by first | exact Or.inl rfl | exact Or.inr rfl | omega) ?_
              refine zw_ifeq ⟨rfl, rfl⟩ rfl (fun q => absurd q (by decide)) (fun _ => ?_)
              refine zw_const ⟨rfl, rfl⟩ ?_
              refine zw_goto ⟨rfl, rfl⟩ rfl ?_
              refine zw_ret rfl ?_
              rw [show ygo s t = 5 from by grind [ygo]] at k
              exact k
            · skip
              refine zw_iload ⟨rfl, rfl⟩ rfl ?_
              refine zw_const ⟨rfl, rfl⟩ ?_
              refine zw_iceq ⟨rfl, rfl⟩ rfl (fun c43 => ?_) (fun c43 => ?_)
              · skip
                refine zw_const ⟨rfl, rfl⟩ ?_
                refine zw_goto ⟨rfl, rfl⟩ rfl ?_
                refine zw_zret rfl (by first | exact Or.inl rfl | exact Or.inr rfl | omega) ?_
                refine zw_ifeq ⟨rfl, rfl⟩ rfl (fun q => absurd q (by decide)) (fun _ => ?_)
                refine zw_const ⟨rfl, rfl⟩ ?_
                refine zw_goto ⟨rfl, rfl⟩ rfl ?_
                refine zw_ret rfl ?_
                rw [show ygo s t = 5 from by grind [ygo]] at k
                exact k
              · skip
                refine zw_iload ⟨rfl, rfl⟩ rfl ?_
                refine zw_const ⟨rfl, rfl⟩ ?_
                refine zw_iceq ⟨rfl, rfl⟩ rfl (fun c45 => ?_) (fun c45 => ?_)
                · skip
                  refine zw_const ⟨rfl, rfl⟩ ?_
                  refine zw_goto ⟨rfl, rfl⟩ rfl ?_
                  refine zw_zret rfl (by first | exact Or.inl rfl | exact Or.inr rfl | omega) ?_
                  refine zw_ifeq ⟨rfl, rfl⟩ rfl (fun q => absurd q (by decide)) (fun _ => ?_)
                  refine zw_const ⟨rfl, rfl⟩ ?_
                  refine zw_goto ⟨rfl, rfl⟩ rfl ?_
                  refine zw_ret rfl ?_
                  rw [show ygo s t = 5 from by grind [ygo]] at k
                  exact k
                · skip
                  refine zw_iload ⟨rfl, rfl⟩ rfl ?_
                  refine zw_const ⟨rfl, rfl⟩ ?_
                  refine zw_icne ⟨rfl, rfl⟩ rfl (fun c47 => ?_) (fun c47 => ?_)
                  · skip
                    refine zw_const ⟨rfl, rfl⟩ ?_
                    refine zw_zret rfl (by first | exact Or.inl rfl | exact Or.inr rfl | omega) ?_
                    refine zw_ifeq ⟨rfl, rfl⟩ rfl (fun _ => ?_) (fun q => absurd (by decide) q)
                    refine zw_const ⟨rfl, rfl⟩ ?_
                    refine zw_ret rfl ?_
                    rw [show ygo s t = (-1) from by grind [ygo]] at k
                    exact k
                  · skip
                    refine zw_const ⟨rfl, rfl⟩ ?_
                    refine zw_goto ⟨rfl, rfl⟩ rfl ?_
                    refine zw_zret rfl (by first | exact Or.inl rfl | exact Or.inr rfl | omega) ?_
                    refine zw_ifeq ⟨rfl, rfl⟩ rfl (fun q => absurd q (by decide)) (fun _ => ?_)
                    refine zw_const ⟨rfl, rfl⟩ ?_
                    refine zw_goto ⟨rfl, rfl⟩ rfl ?_
                    refine zw_ret rfl ?_
                    rw [show ygo s t = 5 from by grind [ygo]] at k
                    exact k
      · skip
        refine zw_iload ⟨rfl, rfl⟩ rfl ?_
        refine zw_const ⟨rfl, rfl⟩ ?_
        refine zw_icne ⟨rfl, rfl⟩ rfl (fun c50 => ?_) (fun c50 => ?_)
        · skip
          refine zw_iload ⟨rfl, rfl⟩ rfl ?_
          refine zw_const ⟨rfl, rfl⟩ ?_
          refine zw_icne ⟨rfl, rfl⟩ rfl (fun c51 => ?_) (fun c51 => ?_)
          · skip
            refine zw_const ⟨rfl, rfl⟩ ?_
            refine zw_ret rfl ?_
            rw [show ygo s t = (-1) from by grind [ygo]] at k
            exact k
          · skip
            refine zw_const ⟨rfl, rfl⟩ ?_
            refine zw_goto ⟨rfl, rfl⟩ rfl ?_
            refine zw_ret rfl ?_
            rw [show ygo s t = 6 from by grind [ygo]] at k
            exact k
        · skip
          refine zw_const ⟨rfl, rfl⟩ ?_
          refine zw_ret rfl ?_
          rw [show ygo s t = 2 from by grind [ygo]] at k
          exact k
    · skip
      refine zw_iload ⟨rfl, rfl⟩ rfl ?_
      refine zw_const ⟨rfl, rfl⟩ ?_
      refine zw_iceq ⟨rfl, rfl⟩ rfl (fun c52 => ?_) (fun c52 => ?_)
      · skip
        refine zw_const ⟨rfl, rfl⟩ ?_
        refine zw_ret rfl ?_
        rw [show ygo s t = 3 from by grind [ygo]] at k
        exact k
      · skip
        refine zw_iload ⟨rfl, rfl⟩ rfl ?_
        refine zw_const ⟨rfl, rfl⟩ ?_
        refine zw_icne ⟨rfl, rfl⟩ rfl (fun c53 => ?_) (fun c53 => ?_)
        · skip
          refine zw_iload ⟨rfl, rfl⟩ rfl ?_
          refine zw_const ⟨rfl, rfl⟩ ?_
          refine zw_icne ⟨rfl, rfl⟩ rfl (fun c54 => ?_) (fun c54 => ?_)
          · skip
            refine zw_const ⟨rfl, rfl⟩ ?_
            refine zw_ret rfl ?_
            rw [show ygo s t = (-1) from by grind [ygo]] at k
            exact k
          · skip
            refine zw_const ⟨rfl, rfl⟩ ?_
            refine zw_goto ⟨rfl, rfl⟩ rfl ?_
            refine zw_ret rfl ?_
            rw [show ygo s t = 9 from by grind [ygo]] at k
            exact k
        · skip
          refine zw_const ⟨rfl, rfl⟩ ?_
          refine zw_ret rfl ?_
          rw [show ygo s t = 3 from by grind [ygo]] at k
          exact k
  · skip
    refine zw_iload ⟨rfl, rfl⟩ rfl ?_
    refine zw_const ⟨rfl, rfl⟩ ?_
    refine zw_iceq ⟨rfl, rfl⟩ rfl (fun c55 => ?_) (fun c55 => ?_)
    · skip
      refine zw_const ⟨rfl, rfl⟩ ?_
      refine zw_goto ⟨rfl, rfl⟩ rfl ?_
      refine zw_ret rfl ?_
      rw [show ygo s t = 1 from by grind [ygo]] at k
      exact k
    · skip
      refine zw_iload ⟨rfl, rfl⟩ rfl ?_
      refine zw_const ⟨rfl, rfl⟩ ?_
      refine zw_icne ⟨rfl, rfl⟩ rfl (fun c56 => ?_) (fun c56 => ?_)
      · skip
        refine zw_const ⟨rfl, rfl⟩ ?_
        refine zw_ret rfl ?_
        rw [show ygo s t = (-1) from by grind [ygo]] at k
        exact k
      · skip
        refine zw_const ⟨rfl, rfl⟩ ?_
        refine zw_goto ⟨rfl, rfl⟩ rfl ?_
        refine zw_ret rfl ?_
        rw [show ygo s t = 1 from by grind [ygo]] at k
        exact k

theorem m_firstState {t : Int} {M : zM} {Q : zV → zM → Prop} (k : Q (0, yfs t) M) : zWp kX_firstState 0 [(0, t)] [] M Q := by
  refine zw_iload ⟨rfl, rfl⟩ rfl ?_
  by_cases e1_0 : t = 1
  · refine zw_table ⟨rfl, rfl⟩ (t' := 2) (by rw [e1_0]; rfl) ?_
    refine zw_const ⟨rfl, rfl⟩ ?_
    refine zw_ret rfl ?_
    rw [show yfs t = 1 from by grind [yfs]] at k
    exact k
  by_cases e1_1 : t = 2
  · refine zw_table ⟨rfl, rfl⟩ (t' := 4) (by rw [e1_1]; rfl) ?_
    refine zw_const ⟨rfl, rfl⟩ ?_
    refine zw_ret rfl ?_
    rw [show yfs t = 7 from by grind [yfs]] at k
    exact k
  by_cases e1_2 : t = 3
  · refine zw_table ⟨rfl, rfl⟩ (t' := 6) (by rw [e1_2]; rfl) ?_
    refine zw_const ⟨rfl, rfl⟩ ?_
    refine zw_ret rfl ?_
    rw [show yfs t = 9 from by grind [yfs]] at k
    exact k
  by_cases e1_3 : t = 4
  · refine zw_table ⟨rfl, rfl⟩ (t' := 8) (by rw [e1_3]; rfl) ?_
    refine zw_const ⟨rfl, rfl⟩ ?_
    refine zw_ret rfl ?_
    rw [show yfs t = 8 from by grind [yfs]] at k
    exact k
  by_cases e1_4 : t = 5
  · refine zw_table ⟨rfl, rfl⟩ (t' := 12) (by rw [e1_4]; rfl) ?_
    refine zw_iload ⟨rfl, rfl⟩ rfl ?_
    refine zw_calls1 ⟨rfl, rfl⟩ rfl rfl ?_
    refine zw_iload ⟨rfl, rfl⟩ rfl ?_
    refine zw_const ⟨rfl, rfl⟩ ?_
    refine zw_iclt ⟨rfl, rfl⟩ rfl (fun c2 => ?_) (fun c2 => ?_)
    · skip
      refine zw_const ⟨rfl, rfl⟩ ?_
      refine zw_zret rfl (by first | exact Or.inl rfl | exact Or.inr rfl | omega) ?_
      refine zw_ifeq ⟨rfl, rfl⟩ rfl (fun _ => ?_) (fun q => absurd (by decide) q)
      refine zw_const ⟨rfl, rfl⟩ ?_
      refine zw_ret rfl ?_
      rw [show yfs t = 0 from by grind [yfs]] at k
      exact k
    · skip
      refine zw_iload ⟨rfl, rfl⟩ rfl ?_
      refine zw_const ⟨rfl, rfl⟩ ?_
      refine zw_icgt ⟨rfl, rfl⟩ rfl (fun c4 => ?_) (fun c4 => ?_)
      · skip
        refine zw_const ⟨rfl, rfl⟩ ?_
        refine zw_zret rfl (by first | exact Or.inl rfl | exact Or.inr rfl | omega) ?_
        refine zw_ifeq ⟨rfl, rfl⟩ rfl (fun _ => ?_) (fun q => absurd (by decide) q)
        refine zw_const ⟨rfl, rfl⟩ ?_
        refine zw_ret rfl ?_
        rw [show yfs t = 0 from by grind [yfs]] at k
        exact k
      · skip
        refine zw_const ⟨rfl, rfl⟩ ?_
        refine zw_goto ⟨rfl, rfl⟩ rfl ?_
        refine zw_zret rfl (by first | exact Or.inl rfl | exact Or.inr rfl | omega) ?_
        refine zw_ifeq ⟨rfl, rfl⟩ rfl (fun q => absurd q (by decide)) (fun _ => ?_)
        refine zw_const ⟨rfl, rfl⟩ ?_
        refine zw_goto ⟨rfl, rfl⟩ rfl ?_
        refine zw_ret rfl ?_
        rw [show yfs t = 5 from by grind [yfs]] at k
        exact k
  by_cases e1_5 : t = 6
  · refine zw_table ⟨rfl, rfl⟩ (t' := 12) (by rw [e1_5]; rfl) ?_
    refine zw_iload ⟨rfl, rfl⟩ rfl ?_
    refine zw_calls1 ⟨rfl, rfl⟩ rfl rfl ?_
    refine zw_iload ⟨rfl, rfl⟩ rfl ?_
    refine zw_const ⟨rfl, rfl⟩ ?_
    refine zw_iclt ⟨rfl, rfl⟩ rfl (fun c7 => ?_) (fun c7 => ?_)
    · skip
      refine zw_const ⟨rfl, rfl⟩ ?_
      refine zw_zret rfl (by first | exact Or.inl rfl | exact Or.inr rfl | omega) ?_
      refine zw_ifeq ⟨rfl, rfl⟩ rfl (fun _ => ?_) (fun q => absurd (by decide) q)
      refine zw_const ⟨rfl, rfl⟩ ?_
      refine zw_ret rfl ?_
      rw [show yfs t = 0 from by grind [yfs]] at k
      exact k
    · skip
      refine zw_iload ⟨rfl, rfl⟩ rfl ?_
      refine zw_const ⟨rfl, rfl⟩ ?_
      refine zw_icgt ⟨rfl, rfl⟩ rfl (fun c9 => ?_) (fun c9 => ?_)
      · skip
        refine zw_const ⟨rfl, rfl⟩ ?_
        refine zw_zret rfl (by first | exact Or.inl rfl | exact Or.inr rfl | omega) ?_
        refine zw_ifeq ⟨rfl, rfl⟩ rfl (fun _ => ?_) (fun q => absurd (by decide) q)
        refine zw_const ⟨rfl, rfl⟩ ?_
        refine zw_ret rfl ?_
        rw [show yfs t = 0 from by grind [yfs]] at k
        exact k
      · skip
        refine zw_const ⟨rfl, rfl⟩ ?_
        refine zw_goto ⟨rfl, rfl⟩ rfl ?_
        refine zw_zret rfl (by first | exact Or.inl rfl | exact Or.inr rfl | omega) ?_
        refine zw_ifeq ⟨rfl, rfl⟩ rfl (fun q => absurd q (by decide)) (fun _ => ?_)
        refine zw_const ⟨rfl, rfl⟩ ?_
        refine zw_goto ⟨rfl, rfl⟩ rfl ?_
        refine zw_ret rfl ?_
        rw [show yfs t = 5 from by grind [yfs]] at k
        exact k
  by_cases e1_6 : t = 7
  · refine zw_table ⟨rfl, rfl⟩ (t' := 12) (by rw [e1_6]; rfl) ?_
    refine zw_iload ⟨rfl, rfl⟩ rfl ?_
    refine zw_calls1 ⟨rfl, rfl⟩ rfl rfl ?_
    refine zw_iload ⟨rfl, rfl⟩ rfl ?_
    refine zw_const ⟨rfl, rfl⟩ ?_
    refine zw_iclt ⟨rfl, rfl⟩ rfl (fun c12 => ?_) (fun c12 => ?_)
    · skip
      refine zw_const ⟨rfl, rfl⟩ ?_
      refine zw_zret rfl (by first | exact Or.inl rfl | exact Or.inr rfl | omega) ?_
      refine zw_ifeq ⟨rfl, rfl⟩ rfl (fun _ => ?_) (fun q => absurd (by decide) q)
      refine zw_const ⟨rfl, rfl⟩ ?_
      refine zw_ret rfl ?_
      rw [show yfs t = 0 from by grind [yfs]] at k
      exact k
    · skip
      refine zw_iload ⟨rfl, rfl⟩ rfl ?_
      refine zw_const ⟨rfl, rfl⟩ ?_
      refine zw_icgt ⟨rfl, rfl⟩ rfl (fun c14 => ?_) (fun c14 => ?_)
      · skip
        refine zw_const ⟨rfl, rfl⟩ ?_
        refine zw_zret rfl (by first | exact Or.inl rfl | exact Or.inr rfl | omega) ?_
        refine zw_ifeq ⟨rfl, rfl⟩ rfl (fun _ => ?_) (fun q => absurd (by decide) q)
        refine zw_const ⟨rfl, rfl⟩ ?_
        refine zw_ret rfl ?_
        rw [show yfs t = 0 from by grind [yfs]] at k
        exact k
      · skip
        refine zw_const ⟨rfl, rfl⟩ ?_
        refine zw_goto ⟨rfl, rfl⟩ rfl ?_
        refine zw_zret rfl (by first | exact Or.inl rfl | exact Or.inr rfl | omega) ?_
        refine zw_ifeq ⟨rfl, rfl⟩ rfl (fun q => absurd q (by decide)) (fun _ => ?_)
        refine zw_const ⟨rfl, rfl⟩ ?_
        refine zw_goto ⟨rfl, rfl⟩ rfl ?_
        refine zw_ret rfl ?_
        rw [show yfs t = 5 from by grind [yfs]] at k
        exact k
  by_cases e1_7 : t = 8
  · refine zw_table ⟨rfl, rfl⟩ (t' := 12) (by rw [e1_7]; rfl) ?_
    refine zw_iload ⟨rfl, rfl⟩ rfl ?_
    refine zw_calls1 ⟨rfl, rfl⟩ rfl rfl ?_
    refine zw_iload ⟨rfl, rfl⟩ rfl ?_
    refine zw_const ⟨rfl, rfl⟩ ?_
    refine zw_iclt ⟨rfl, rfl⟩ rfl (fun c17 => ?_) (fun c17 => ?_)
    · skip
      refine zw_const ⟨rfl, rfl⟩ ?_
      refine zw_zret rfl (by first | exact Or.inl rfl | exact Or.inr rfl | omega) ?_
      refine zw_ifeq ⟨rfl, rfl⟩ rfl (fun _ => ?_) (fun q => absurd (by decide) q)
      refine zw_const ⟨rfl, rfl⟩ ?_
      refine zw_ret rfl ?_
      rw [show yfs t = 0 from by grind [yfs]] at k
      exact k
    · skip
      refine zw_iload ⟨rfl, rfl⟩ rfl ?_
      refine zw_const ⟨rfl, rfl⟩ ?_
      refine zw_icgt ⟨rfl, rfl⟩ rfl (fun c19 => ?_) (fun c19 => ?_)
      · skip
        refine zw_const ⟨rfl, rfl⟩ ?_
        refine zw_zret rfl (by first | exact Or.inl rfl | exact Or.inr rfl | omega) ?_
        refine zw_ifeq ⟨rfl, rfl⟩ rfl (fun _ => ?_) (fun q => absurd (by decide) q)
        refine zw_const ⟨rfl, rfl⟩ ?_
        refine zw_ret rfl ?_
        rw [show yfs t = 0 from by grind [yfs]] at k
        exact k
      · skip
        refine zw_const ⟨rfl, rfl⟩ ?_
        refine zw_goto ⟨rfl, rfl⟩ rfl ?_
        refine zw_zret rfl (by first | exact Or.inl rfl | exact Or.inr rfl | omega) ?_
        refine zw_ifeq ⟨rfl, rfl⟩ rfl (fun q => absurd q (by decide)) (fun _ => ?_)
        refine zw_const ⟨rfl, rfl⟩ ?_
        refine zw_goto ⟨rfl, rfl⟩ rfl ?_
        refine zw_ret rfl ?_
        rw [show yfs t = 5 from by grind [yfs]] at k
        exact k
  by_cases e1_8 : t = 9
  · refine zw_table ⟨rfl, rfl⟩ (t' := 12) (by rw [e1_8]; rfl) ?_
    refine zw_iload ⟨rfl, rfl⟩ rfl ?_
    refine zw_calls1 ⟨rfl, rfl⟩ rfl rfl ?_
    refine zw_iload ⟨rfl, rfl⟩ rfl ?_
    refine zw_const ⟨rfl, rfl⟩ ?_
    refine zw_iclt ⟨rfl, rfl⟩ rfl (fun c22 => ?_) (fun c22 => ?_)
    · skip
      refine zw_const ⟨rfl, rfl⟩ ?_
      refine zw_zret rfl (by first | exact Or.inl rfl | exact Or.inr rfl | omega) ?_
      refine zw_ifeq ⟨rfl, rfl⟩ rfl (fun _ => ?_) (fun q => absurd (by decide) q)
      refine zw_const ⟨rfl, rfl⟩ ?_
      refine zw_ret rfl ?_
      rw [show yfs t = 0 from by grind [yfs]] at k
      exact k
    · skip
      refine zw_iload ⟨rfl, rfl⟩ rfl ?_
      refine zw_const ⟨rfl, rfl⟩ ?_
      refine zw_icgt ⟨rfl, rfl⟩ rfl (fun c24 => ?_) (fun c24 => ?_)
      · skip
        refine zw_const ⟨rfl, rfl⟩ ?_
        refine zw_zret rfl (by first | exact Or.inl rfl | exact Or.inr rfl | omega) ?_
        refine zw_ifeq ⟨rfl, rfl⟩ rfl (fun _ => ?_) (fun q => absurd (by decide) q)
        refine zw_const ⟨rfl, rfl⟩ ?_
        refine zw_ret rfl ?_
        rw [show yfs t = 0 from by grind [yfs]] at k
        exact k
      · skip
        refine zw_const ⟨rfl, rfl⟩ ?_
        refine zw_goto ⟨rfl, rfl⟩ rfl ?_
        refine zw_zret rfl (by first | exact Or.inl rfl | exact Or.inr rfl | omega) ?_
        refine zw_ifeq ⟨rfl, rfl⟩ rfl (fun q => absurd q (by decide)) (fun _ => ?_)
        refine zw_const ⟨rfl, rfl⟩ ?_
        refine zw_goto ⟨rfl, rfl⟩ rfl ?_
        refine zw_ret rfl ?_
        rw [show yfs t = 5 from by grind [yfs]] at k
        exact k
  by_cases e1_9 : t = 10
  · refine zw_table ⟨rfl, rfl⟩ (t' := 10) (by rw [e1_9]; rfl) ?_
    refine zw_const ⟨rfl, rfl⟩ ?_
    refine zw_ret rfl ?_
    rw [show yfs t = 6 from by grind [yfs]] at k
    exact k
  by_cases e1_10 : t = 11
  · refine zw_table ⟨rfl, rfl⟩ (t' := 10) (by rw [e1_10]; rfl) ?_
    refine zw_const ⟨rfl, rfl⟩ ?_
    refine zw_ret rfl ?_
    rw [show yfs t = 6 from by grind [yfs]] at k
    exact k
  refine zw_table ⟨rfl, rfl⟩ (t' := 12) (by rw [ztgt_out (by show _ < (1 : Int) ∨ 1 + 11 ≤ _; omega)]; rfl) ?_
  refine zw_iload ⟨rfl, rfl⟩ rfl ?_
  refine zw_calls1 ⟨rfl, rfl⟩ rfl rfl ?_
  refine zw_iload ⟨rfl, rfl⟩ rfl ?_
  refine zw_const ⟨rfl, rfl⟩ ?_
  refine zw_iclt ⟨rfl, rfl⟩ rfl (fun c27 => ?_) (fun c27 => ?_)
  · skip
    refine zw_const ⟨rfl, rfl⟩ ?_
    refine zw_zret rfl (by first | exact Or.inl rfl | exact Or.inr rfl | omega) ?_
    refine zw_ifeq ⟨rfl, rfl⟩ rfl (fun _ => ?_) (fun q => absurd (by decide) q)
    refine zw_const ⟨rfl, rfl⟩ ?_
    refine zw_ret rfl ?_
    rw [show yfs t = 0 from by grind [yfs]] at k
    exact k
  · skip
    refine zw_iload ⟨rfl, rfl⟩ rfl ?_
    refine zw_const ⟨rfl, rfl⟩ ?_
    refine zw_icgt ⟨rfl, rfl⟩ rfl (fun c29 => ?_) (fun c29 => ?_)
    · skip
      refine zw_const ⟨rfl, rfl⟩ ?_
      refine zw_zret rfl (by first | exact Or.inl rfl | exact Or.inr rfl | omega) ?_
      refine zw_ifeq ⟨rfl, rfl⟩ rfl (fun _ => ?_) (fun q => absurd (by decide) q)
      refine zw_const ⟨rfl, rfl⟩ ?_
      refine zw_ret rfl ?_
      rw [show yfs t = 0 from by grind [yfs]] at k
      exact k
    · skip
      refine zw_const ⟨rfl, rfl⟩ ?_
      refine zw_goto ⟨rfl, rfl⟩ rfl ?_
      refine zw_zret rfl (by first | exact Or.inl rfl | exact Or.inr rfl | omega) ?_
      refine zw_ifeq ⟨rfl, rfl⟩ rfl (fun q => absurd q (by decide)) (fun _ => ?_)
      refine zw_const ⟨rfl, rfl⟩ ?_
      refine zw_goto ⟨rfl, rfl⟩ rfl ?_
      refine zw_ret rfl ?_
      rw [show yfs t = 5 from by grind [yfs]] at k
      exact k

theorem m_sortOf {t : Int} {M : zM} {Q : zV → zM → Prop} (k : Q (0, yso t) M) : zWp kX_sortOf 0 [(0, t)] [] M Q := by
  refine zw_iload ⟨rfl, rfl⟩ rfl ?_
  by_cases e1_0 : t = 0
  · refine zw_table ⟨rfl, rfl⟩ (t' := 6) (by rw [e1_0]; rfl) ?_
    refine zw_const ⟨rfl, rfl⟩ ?_
    refine zw_ret rfl ?_
    rw [show yso t = 3 from by grind [yso]] at k
    exact k
  by_cases e1_1 : t = 1
  · refine zw_table ⟨rfl, rfl⟩ (t' := 2) (by rw [e1_1]; rfl) ?_
    refine zw_const ⟨rfl, rfl⟩ ?_
    refine zw_ret rfl ?_
    rw [show yso t = 0 from by grind [yso]] at k
    exact k
  by_cases e1_2 : t = 2
  · refine zw_table ⟨rfl, rfl⟩ (t' := 4) (by rw [e1_2]; rfl) ?_
    refine zw_const ⟨rfl, rfl⟩ ?_
    refine zw_ret rfl ?_
    rw [show yso t = 1 from by grind [yso]] at k
    exact k
  by_cases e1_3 : t = 3
  · refine zw_table ⟨rfl, rfl⟩ (t' := 8) (by rw [e1_3]; rfl) ?_
    refine zw_const ⟨rfl, rfl⟩ ?_
    refine zw_ret rfl ?_
    rw [show yso t = 2 from by grind [yso]] at k
    exact k
  by_cases e1_4 : t = 4
  · refine zw_table ⟨rfl, rfl⟩ (t' := 8) (by rw [e1_4]; rfl) ?_
    refine zw_const ⟨rfl, rfl⟩ ?_
    refine zw_ret rfl ?_
    rw [show yso t = 2 from by grind [yso]] at k
    exact k
  by_cases e1_5 : t = 5
  · refine zw_table ⟨rfl, rfl⟩ (t' := 8) (by rw [e1_5]; rfl) ?_
    refine zw_const ⟨rfl, rfl⟩ ?_
    refine zw_ret rfl ?_
    rw [show yso t = 2 from by grind [yso]] at k
    exact k
  by_cases e1_6 : t = 6
  · refine zw_table ⟨rfl, rfl⟩ (t' := 8) (by rw [e1_6]; rfl) ?_
    refine zw_const ⟨rfl, rfl⟩ ?_
    refine zw_ret rfl ?_
    rw [show yso t = 2 from by grind [yso]] at k
    exact k
  by_cases e1_7 : t = 7
  · refine zw_table ⟨rfl, rfl⟩ (t' := 8) (by rw [e1_7]; rfl) ?_
    refine zw_const ⟨rfl, rfl⟩ ?_
    refine zw_ret rfl ?_
    rw [show yso t = 2 from by grind [yso]] at k
    exact k
  by_cases e1_8 : t = 8
  · refine zw_table ⟨rfl, rfl⟩ (t' := 8) (by rw [e1_8]; rfl) ?_
    refine zw_const ⟨rfl, rfl⟩ ?_
    refine zw_ret rfl ?_
    rw [show yso t = 2 from by grind [yso]] at k
    exact k
  by_cases e1_9 : t = 9
  · refine zw_table ⟨rfl, rfl⟩ (t' := 8) (by rw [e1_9]; rfl) ?_
    refine zw_const ⟨rfl, rfl⟩ ?_
    refine zw_ret rfl ?_
    rw [show yso t = 2 from by grind [yso]] at k
    exact k
  by_cases e1_10 : t = 10
  · refine zw_table ⟨rfl, rfl⟩ (t' := 8) (by rw [e1_10]; rfl) ?_
    refine zw_const ⟨rfl, rfl⟩ ?_
    refine zw_ret rfl ?_
    rw [show yso t = 2 from by grind [yso]] at k
    exact k
  by_cases e1_11 : t = 11
  · refine zw_table ⟨rfl, rfl⟩ (t' := 8) (by rw [e1_11]; rfl) ?_
    refine zw_const ⟨rfl, rfl⟩ ?_
    refine zw_ret rfl ?_
    rw [show yso t = 2 from by grind [yso]] at k
    exact k
  by_cases e1_12 : t = 12
  · refine zw_table ⟨rfl, rfl⟩ (t' := 6) (by rw [e1_12]; rfl) ?_
    refine zw_const ⟨rfl, rfl⟩ ?_
    refine zw_ret rfl ?_
    rw [show yso t = 3 from by grind [yso]] at k
    exact k
  by_cases e1_13 : t = 13
  · refine zw_table ⟨rfl, rfl⟩ (t' := 6) (by rw [e1_13]; rfl) ?_
    refine zw_const ⟨rfl, rfl⟩ ?_
    refine zw_ret rfl ?_
    rw [show yso t = 3 from by grind [yso]] at k
    exact k
  refine zw_table ⟨rfl, rfl⟩ (t' := 8) (by rw [ztgt_out (by show _ < (0 : Int) ∨ 0 + 14 ≤ _; omega)]; rfl) ?_
  refine zw_const ⟨rfl, rfl⟩ ?_
  refine zw_ret rfl ?_
  rw [show yso t = 2 from by grind [yso]] at k
  exact k

theorem m_stateBehind {s t : Int} {M : zM} {Q : zV → zM → Prop} (k : Q (0, ysb s t) M) : zWp kX_stateBehind 0 [(0, s), (0, t), (3, 0)] [] M Q := by
  refine zw_iload ⟨rfl, rfl⟩ rfl ?_
  refine zw_iload ⟨rfl, rfl⟩ rfl ?_
  refine zw_calls2 ⟨rfl, rfl⟩ rfl rfl ?_
  refine m_goOn ?_
  refine zw_istore_2 ⟨rfl, rfl⟩ ?_
  refine zw_iload ⟨rfl, rfl⟩ rfl ?_
  refine zw_const ⟨rfl, rfl⟩ ?_
  refine zw_icne ⟨rfl, rfl⟩ rfl (fun c1 => ?_) (fun c1 => ?_)
  · skip
    refine zw_iload ⟨rfl, rfl⟩ rfl ?_
    refine zw_ret rfl ?_
    rw [show ysb s t = ygo s t from by grind [ysb]] at k
    exact k
  · skip
    refine zw_iload ⟨rfl, rfl⟩ rfl ?_
    refine zw_calls1 ⟨rfl, rfl⟩ rfl rfl ?_
    refine m_firstState ?_
    refine zw_goto ⟨rfl, rfl⟩ rfl ?_
    refine zw_ret rfl ?_
    rw [show ysb s t = yfs t from by grind [ysb]] at k
    exact k

theorem m_breaks {s t : Int} {M : zM} {Q : zV → zM → Prop} (k : Q (0, ybr s t) M) : zWp kX_breaks 0 [(0, s), (0, t)] [] M Q := by
  refine zw_iload ⟨rfl, rfl⟩ rfl ?_
  refine zw_calls1 ⟨rfl, rfl⟩ rfl rfl ?_
  refine m_sortOf ?_
  refine zw_const ⟨rfl, rfl⟩ ?_
  refine zw_icne ⟨rfl, rfl⟩ rfl (fun c1 => ?_) (fun c1 => ?_)
  · skip
    refine zw_const ⟨rfl, rfl⟩ ?_
    refine zw_zret rfl (by first | exact Or.inl rfl | exact Or.inr rfl | omega) ?_
    rw [show ybr s t = 0 from by grind [ybr]] at k
    exact k
  · skip
    refine zw_iload ⟨rfl, rfl⟩ rfl ?_
    refine zw_iload ⟨rfl, rfl⟩ rfl ?_
    refine zw_calls2 ⟨rfl, rfl⟩ rfl rfl ?_
    refine m_goOn ?_
    refine zw_const ⟨rfl, rfl⟩ ?_
    refine zw_icne ⟨rfl, rfl⟩ rfl (fun c2 => ?_) (fun c2 => ?_)
    · skip
      refine zw_const ⟨rfl, rfl⟩ ?_
      refine zw_zret rfl (by first | exact Or.inl rfl | exact Or.inr rfl | omega) ?_
      rw [show ybr s t = 0 from by grind [ybr]] at k
      exact k
    · skip
      refine zw_const ⟨rfl, rfl⟩ ?_
      refine zw_goto ⟨rfl, rfl⟩ rfl ?_
      refine zw_zret rfl (by first | exact Or.inl rfl | exact Or.inr rfl | omega) ?_
      rw [show ybr s t = 1 from by grind [ybr]] at k
      exact k

def yat (M : zM) (a p : Int) : Int := if 0 ≤ p ∧ p < M a 2 then M (a + 6) p else -1

theorem m_letterAt {p : Int} {M : zM} {Q : zV → zM → Prop} (hn : M 2 2 ≤ 60) (k : Q (0, yat M 2 p) M) : zWp kSt_letterAt 0 [(1, 2), (0, p)] [] M Q := by
  refine zw_iload ⟨rfl, rfl⟩ rfl ?_
  refine zw_iflt ⟨rfl, rfl⟩ rfl (fun c1 => ?_) (fun c1 => ?_)
  · skip
    refine zw_const ⟨rfl, rfl⟩ ?_
    refine zw_ret rfl ?_
    rw [show yat M 2 p = (-1) from by grind [yat]] at k
    exact k
  · skip
    refine zw_iload ⟨rfl, rfl⟩ rfl ?_
    refine zw_aload ⟨rfl, rfl⟩ rfl ?_
    refine zw_getIv (v := M 2 2) ⟨rfl, rfl⟩ zc_2 (by decide) rfl ?_
    refine zw_icge ⟨rfl, rfl⟩ rfl (fun c2 => ?_) (fun c2 => ?_)
    · skip
      refine zw_const ⟨rfl, rfl⟩ ?_
      refine zw_ret rfl ?_
      rw [show yat M 2 p = (-1) from by grind [yat]] at k
      exact k
    · skip
      refine zw_aload ⟨rfl, rfl⟩ rfl ?_
      refine zw_getR 8 ⟨rfl, rfl⟩ zr_2_1 ?_
      refine zw_iload ⟨rfl, rfl⟩ rfl ?_
      refine zw_ialdv (v := M 8 p) ⟨rfl, rfl⟩ za_8 (by omega) rfl ?_
      refine zw_goto ⟨rfl, rfl⟩ rfl ?_
      refine zw_ret rfl ?_
      rw [show yat M 2 p = M 8 p from by grind [yat]] at k
      exact k

theorem m_takeOut_l {M : zM} {p m : Int} {Q : zV → zM → Prop} (hp : 0 ≤ p) (hm : 0 ≤ m) (hn : p + m ≤ M 2 2 ∧ M 2 2 ≤ 60) (k : ∀ N : zM, (N = fun b j => if b = 8 ∧ p ≤ j ∧ j < M 2 2 - m then M 8 (j + m) else if b = 2 ∧ j = 2 then M 2 2 - m else M b j) → Q (3, 0) N) : ∀ (f : Nat) (q : Int) (N : zM), (p ≤ q ∧ q ≤ M 2 2 - m) → (N 2 = M 2 ∧ (∀ b, b ≠ 8 → N b = M b) ∧ (∀ j, p ≤ j ∧ j < q → N 8 j = M 8 (j + m)) ∧ ∀ j, j < p ∨ q ≤ j → N 8 j = M 8 j) → (M 2 2 - m - q).toNat < f → zWp kSt_takeOut 13 [(1, 2), (0, p), (0, m), (0, q)] [] N Q := by
  intro f
  induction f with
  | zero => intro q N h1 h2 hf; exact absurd hf (Nat.not_lt_zero _)
  | succ f ih =>
    intro q N h1 h2 hf
    refine zw_iload ⟨rfl, rfl⟩ rfl ?_
    refine zw_iload ⟨rfl, rfl⟩ rfl ?_
    refine zw_iadd ⟨rfl, rfl⟩ (by omega) ?_
    refine zw_aload ⟨rfl, rfl⟩ rfl ?_
    refine zw_getIv (v := M 2 2) ⟨rfl, rfl⟩ zc_2 (by decide) (congrFun h2.1 2) ?_
    refine zw_icge ⟨rfl, rfl⟩ rfl (fun c1 => ?_) (fun c1 => ?_)
    · skip
      refine zw_aload ⟨rfl, rfl⟩ rfl ?_
      refine zw_dup ⟨rfl, rfl⟩ (by decide) ?_
      refine zw_getIv (v := M 2 2) ⟨rfl, rfl⟩ zc_2 (by decide) (congrFun h2.1 2) ?_
      refine zw_iload ⟨rfl, rfl⟩ rfl ?_
      refine zw_isub ⟨rfl, rfl⟩ (by omega) ?_
      refine zw_putI ⟨rfl, rfl⟩ zc_2 (by decide) (fun h => absurd h (by decide)) ?_
      refine zw_void rfl ?_
      refine k _ ?_
      funext b j
      grind [zup]
    · skip
      refine zw_aload ⟨rfl, rfl⟩ rfl ?_
      refine zw_getR 8 ⟨rfl, rfl⟩ zr_2_1 ?_
      refine zw_iload ⟨rfl, rfl⟩ rfl ?_
      refine zw_aload ⟨rfl, rfl⟩ rfl ?_
      refine zw_getR 8 ⟨rfl, rfl⟩ zr_2_1 ?_
      refine zw_iload ⟨rfl, rfl⟩ rfl ?_
      refine zw_iload ⟨rfl, rfl⟩ rfl ?_
      refine zw_iadd ⟨rfl, rfl⟩ (by omega) ?_
      refine zw_ialdv (v := N 8 (q + m)) ⟨rfl, rfl⟩ za_8 (by omega) rfl ?_
      refine zw_iast ⟨rfl, rfl⟩ za_8 (by omega) ?_
      refine zw_iinc_3 ⟨rfl, rfl⟩ (by omega) ?_
      refine zw_goto ⟨rfl, rfl⟩ rfl ?_
      refine ih _ _ ?_ ?_ ?_
      · omega
      · grind [zup]
      · omega

theorem m_takeOut {p m : Int} {M : zM} {Q : zV → zM → Prop} (hp : 0 ≤ p) (hm : 0 ≤ m) (hn : p + m ≤ M 2 2 ∧ M 2 2 ≤ 60) (k : ∀ N : zM, (N = fun b j => if b = 8 ∧ p ≤ j ∧ j < M 2 2 - m then M 8 (j + m) else if b = 2 ∧ j = 2 then M 2 2 - m else M b j) → Q (3, 0) N) : zWp kSt_takeOut 0 [(1, 2), (0, p), (0, m), (3, 0)] [] M Q := by
  refine zw_iload ⟨rfl, rfl⟩ rfl ?_
  refine zw_iflt ⟨rfl, rfl⟩ rfl (fun q => absurd q (by omega)) (fun _ => ?_)
  refine zw_iload ⟨rfl, rfl⟩ rfl ?_
  refine zw_iflt ⟨rfl, rfl⟩ rfl (fun q => absurd q (by omega)) (fun _ => ?_)
  refine zw_iload ⟨rfl, rfl⟩ rfl ?_
  refine zw_iload ⟨rfl, rfl⟩ rfl ?_
  refine zw_iadd ⟨rfl, rfl⟩ (by omega) ?_
  refine zw_aload ⟨rfl, rfl⟩ rfl ?_
  refine zw_getIv (v := M 2 2) ⟨rfl, rfl⟩ zc_2 (by decide) rfl ?_
  refine zw_icle ⟨rfl, rfl⟩ rfl (fun _ => ?_) (fun q => absurd (by omega) q)
  refine zw_iload ⟨rfl, rfl⟩ rfl ?_
  refine zw_istore_3 ⟨rfl, rfl⟩ ?_
  refine m_takeOut_l hp hm hn k _ _ _ ?_ ?_ (Nat.lt_succ_self _)
  · exact ⟨by omega, by omega⟩
  · exact ⟨rfl, fun b hb => rfl, fun j hj => by grind, fun j hj => by grind⟩
end
section
/-! The script and the text as one row of 182 numbers: 0 how many letters, 1 how many pairs, 2.. kinds, 28.. what they do, 54.., 80.. parts, 106.. pairs, 122.. the text -/
abbrev yS : Type := Int → Int
def yK (σ : yS) (p : Int) : Int := if 0 ≤ p ∧ p < σ 0 then σ (2 + σ (122 + p)) else -1
def yL (σ : yS) (p : Int) : Int := if 0 ≤ p ∧ p < σ 0 then σ (122 + p) else -1
def ykd (σ : yS) (l : Int) : Int := if 0 ≤ l ∧ l < 26 then σ (2 + l) else 0
def ypt (σ : yS) (l w : Int) : Int := if ykd σ l = 9 then (if w = 0 then σ (54 + l) else σ (80 + l)) else -1
def yhb (x b : Int) : Int := zand (zushr x b) 1
def yJ (σ : yS) (a b : Int) : Nat → Int
  | 0 => 0
  | k + 1 => if σ (106 + 2 * (k : Int)) = a ∧ σ (107 + 2 * (k : Int)) = b then 1 else yJ σ a b k
def yjn (σ : yS) (a b : Int) : Int := yJ σ a b (σ 1).toNat
def yju (σ : yS) (a b : Int) : Int := if 0 ≤ a ∧ a < 26 ∧ 0 ≤ b ∧ b < 26 then yjn σ a b else 0
/-- what is so of every script and text -/
def yVal (σ : yS) : Prop := (0 ≤ σ 0 ∧ σ 0 ≤ 60) ∧ (0 ≤ σ 1 ∧ σ 1 ≤ 8) ∧ (∀ l, 0 ≤ l → l < 26 → (0 ≤ σ (2 + l) ∧ σ (2 + l) ≤ 13) ∧ 0 ≤ σ (28 + l) ∧ σ (28 + l) ≤ 7) ∧
  (∀ l, 0 ≤ l → l < 26 → σ (2 + l) = 9 → (0 ≤ σ (54 + l) ∧ σ (54 + l) < 26 ∧ 5 ≤ σ (2 + σ (54 + l)) ∧ σ (2 + σ (54 + l)) ≤ 8) ∧ 0 ≤ σ (80 + l) ∧ σ (80 + l) < 26 ∧ 5 ≤ σ (2 + σ (80 + l)) ∧ σ (2 + σ (80 + l)) ≤ 8) ∧
  (∀ l, 0 ≤ l → l < 26 → σ (2 + l) ≠ 9 → σ (54 + l) = -1 ∧ σ (80 + l) = -1) ∧ (∀ p, 0 ≤ p → p < σ 0 → 0 ≤ σ (122 + p) ∧ σ (122 + p) < 26)
/-- a Script object's rows tell what σ tells -/
def ySc (r0 r1 r2 r3 r4 : Int → Int) (σ : yS) : Prop := (∀ l, 0 ≤ l → l < 26 → r1 l = σ (2 + l)) ∧ (∀ l, 0 ≤ l → l < 26 → σ (2 + l) = 9 → r2 l = σ (54 + l) ∧ r3 l = σ (80 + l)) ∧
  (∀ l, 0 ≤ l → l < 26 → (r0 4 = l ↔ σ (28 + l) % 2 = 1)) ∧ (∀ l, 0 ≤ l → l < 26 → yhb (r0 5) l = σ (28 + l) / 2 % 2 ∧ yhb (r0 6) l = σ (28 + l) / 4 % 2) ∧
  (∀ a b, 0 ≤ a → a < 26 → 0 ≤ b → b < 26 → yhb (r4 a) b = yjn σ a b) ∧ r0 7 = σ 1
/-- a State object's rows -/
def ySt (ra r0 r1 r2 r3 r4 rt : Int → Int) (σ : yS) : Prop := ySc r0 r1 r2 r3 r4 σ ∧ ra 2 = σ 0 ∧ ∀ p, 0 ≤ p → p < σ 0 → rt p = σ (122 + p)
abbrev yTold (M : zM) (σ : yS) : Prop := ySt (M 2) (M 3) (M 4) (M 5) (M 6) (M 7) (M 8) σ
abbrev yStA (M : zM) (a : Int) (σ : yS) : Prop := ySt (M a) (M (a + 1)) (M (a + 2)) (M (a + 3)) (M (a + 4)) (M (a + 5)) (M (a + 6)) σ
theorem yStA_2 {M : zM} {σ : yS} : yStA M 2 σ ↔ yTold M σ := Iff.rfl
theorem ySc.cp {r0 r1 r2 r3 r4 s0 s1 s2 s3 s4 : Int → Int} {σ : yS} (h : ySc r0 r1 r2 r3 r4 σ) (h0 : ∀ k, 4 ≤ k → k ≤ 7 → s0 k = r0 k) (h1 : ∀ l, 0 ≤ l → l < 26 → s1 l = r1 l) (h2 : ∀ l, 0 ≤ l → l < 26 → s2 l = r2 l) (h3 : ∀ l, 0 ≤ l → l < 26 → s3 l = r3 l) (h4 : ∀ l, 0 ≤ l → l < 26 → s4 l = r4 l) : ySc s0 s1 s2 s3 s4 σ := by
  obtain ⟨a1, a2, a3, a4, a5, a6⟩ := h
  refine ⟨fun l q1 q2 => by rw [h1 l q1 q2, a1 l q1 q2], fun l q1 q2 q3 => by rw [h2 l q1 q2, h3 l q1 q2]; exact a2 l q1 q2 q3, fun l q1 q2 => by rw [h0 4 (by decide) (by decide)]; exact a3 l q1 q2, fun l q1 q2 => by rw [h0 5 (by decide) (by decide), h0 6 (by decide) (by decide)]; exact a4 l q1 q2, fun a b q1 q2 q3 q4 => by rw [h4 a q1 q2]; exact a5 a b q1 q2 q3 q4, by rw [h0 7 (by decide) (by decide)]; exact a6⟩
theorem yStA.cg {M N : zM} {a : Int} {σ : yS} (h : yStA M a σ) (e : ∀ b, a ≤ b → b ≤ a + 6 → N b = M b) : yStA N a σ := by
  unfold yStA at h ⊢
  rw [e a (by omega) (by omega), e (a + 1) (by omega) (by omega), e (a + 2) (by omega) (by omega), e (a + 3) (by omega) (by omega), e (a + 4) (by omega) (by omega), e (a + 5) (by omega) (by omega), e (a + 6) (by omega) (by omega)]
  exact h
/-- the shape of a Script, of a State at an address -/
def yscb (b : Int) : Prop := zcls zS0 b = some 9 ∧ zref zS0 b 9 0 = some (b + 1) ∧ zref zS0 b 9 1 = some (b + 2) ∧ zref zS0 b 9 2 = some (b + 3) ∧ zref zS0 b 9 3 = some (b + 4) ∧ zar zS0 (b + 1) = some (1, 26) ∧ zar zS0 (b + 2) = some (1, 26) ∧ zar zS0 (b + 3) = some (1, 26) ∧ zar zS0 (b + 4) = some (1, 26)
def yblk (a : Int) : Prop := zcls zS0 a = some 10 ∧ zref zS0 a 10 0 = some (a + 1) ∧ zref zS0 a 10 1 = some (a + 6) ∧ zar zS0 (a + 6) = some (1, 60) ∧ yscb (a + 1)
theorem yblk_all : ∀ a ∈ [2, 11, 18, 25, 32, 39, 46, 53, 60, 67, 74, 84, 91], yblk a := by
  simp only [List.forall_mem_cons]
  refine ⟨?_, ?_, ?_, ?_, ?_, ?_, ?_, ?_, ?_, ?_, ?_, ?_, ?_, fun _ h => absurd h List.not_mem_nil⟩ <;> exact ⟨rfl, rfl, rfl, rfl, rfl, rfl, rfl, rfl, rfl, rfl, rfl, rfl, rfl⟩
theorem ysb_99 : yscb 99 := ⟨rfl, rfl, rfl, rfl, rfl, rfl, rfl, rfl, rfl⟩
theorem ysb_3 : yscb 3 := ⟨rfl, rfl, rfl, rfl, rfl, rfl, rfl, rfl, rfl⟩
theorem yblk_2 : yblk 2 := yblk_all 2 (by simp)
theorem yblk_h {j : Int} (h : 0 ≤ j ∧ j < 10) : yblk (11 + 7 * j) := yblk_all _ (by simp; omega)
theorem yblk_i {j : Int} (h : j = 0 ∨ j = 1) : yblk (84 + 7 * j) := yblk_all _ (by simp; omega)

section
set_option maxHeartbeats 4000000
theorem ysc_post {M : zM} {b d : Int} (hn : d + 5 ≤ b ∨ b + 5 ≤ d) {E : zM} (he : E = (zup (zup (zup (zup (zcpy (zcpy (zcpy (zcpy M (d + 1) 0 (b + 1) 0 26) (d + 2) 0 (b + 2) 0 26) (d + 3) 0 (b + 3) 0 26) (d + 4) 0 (b + 4) 0 26) b 4 (M d 4)) b 5 (M d 5)) b 6 (M d 6)) b 7 (M d 7))) : yfr b (b + 4) M E ∧ (∀ k, 4 ≤ k → k ≤ 7 → E b k = M d k) ∧ ∀ j, 1 ≤ j → j ≤ 4 → ∀ l, 0 ≤ l → l < 26 → E (b + j) l = M (d + j) l := by
  subst he
  refine ⟨fun x hx => ?_, fun k h1 h2 => ?_, fun j h1 h2 l h3 h4 => ?_⟩
  · rw [zup_row (by omega), zup_row (by omega), zup_row (by omega), zup_row (by omega), zcpy_row (by omega), zcpy_row (by omega), zcpy_row (by omega), zcpy_row (by omega)]
  · unfold zup
    have : k = 4 ∨ k = 5 ∨ k = 6 ∨ k = 7 := by omega
    rcases this with rfl | rfl | rfl | rfl <;> simp
  · have : j = 1 ∨ j = 2 ∨ j = 3 ∨ j = 4 := by omega
    rw [zup_na (by omega), zup_na (by omega), zup_na (by omega), zup_na (by omega)]
    unfold zcpy
    rcases this with rfl | rfl | rfl | rfl <;> grind
end

theorem m_ScCopy {b d : Int} {M : zM} {Q : zV → zM → Prop} (hb : yscb b) (hd : yscb d) (hn : d + 5 ≤ b ∨ b + 5 ≤ d) (k : ∀ N : zM, (yfr b (b + 4) M N ∧ (∀ k, 4 ≤ k → k ≤ 7 → N b k = M d k) ∧ ∀ j, 1 ≤ j → j ≤ 4 → ∀ l, 0 ≤ l → l < 26 → N (b + j) l = M (d + j) l) → Q (3, 0) N) : zWp kSc_copyFrom 0 [(1, b), (1, d)] [] M Q := by
  refine zw_aload ⟨rfl, rfl⟩ rfl ?_
  refine zw_getR (d + 1) ⟨rfl, rfl⟩ (hd.2.1) ?_
  refine zw_const ⟨rfl, rfl⟩ ?_
  refine zw_aload ⟨rfl, rfl⟩ rfl ?_
  refine zw_getR (b + 1) ⟨rfl, rfl⟩ (hb.2.1) ?_
  refine zw_const ⟨rfl, rfl⟩ ?_
  refine zw_const ⟨rfl, rfl⟩ ?_
  refine zw_copy ⟨rfl, rfl⟩ hd.2.2.2.2.2.1 hb.2.2.2.2.2.1 (by omega) (by exact ⟨by omega, by decide⟩) ?_
  refine zw_aload ⟨rfl, rfl⟩ rfl ?_
  refine zw_getR (d + 2) ⟨rfl, rfl⟩ (hd.2.2.1) ?_
  refine zw_const ⟨rfl, rfl⟩ ?_
  refine zw_aload ⟨rfl, rfl⟩ rfl ?_
  refine zw_getR (b + 2) ⟨rfl, rfl⟩ (hb.2.2.1) ?_
  refine zw_const ⟨rfl, rfl⟩ ?_
  refine zw_const ⟨rfl, rfl⟩ ?_
  refine zw_copy ⟨rfl, rfl⟩ hd.2.2.2.2.2.2.1 hb.2.2.2.2.2.2.1 (by omega) (by exact ⟨by omega, by decide⟩) ?_
  refine zw_aload ⟨rfl, rfl⟩ rfl ?_
  refine zw_getR (d + 3) ⟨rfl, rfl⟩ (hd.2.2.2.1) ?_
  refine zw_const ⟨rfl, rfl⟩ ?_
  refine zw_aload ⟨rfl, rfl⟩ rfl ?_
  refine zw_getR (b + 3) ⟨rfl, rfl⟩ (hb.2.2.2.1) ?_
  refine zw_const ⟨rfl, rfl⟩ ?_
  refine zw_const ⟨rfl, rfl⟩ ?_
  refine zw_copy ⟨rfl, rfl⟩ hd.2.2.2.2.2.2.2.1 hb.2.2.2.2.2.2.2.1 (by omega) (by exact ⟨by omega, by decide⟩) ?_
  refine zw_aload ⟨rfl, rfl⟩ rfl ?_
  refine zw_getR (d + 4) ⟨rfl, rfl⟩ (hd.2.2.2.2.1) ?_
  refine zw_const ⟨rfl, rfl⟩ ?_
  refine zw_aload ⟨rfl, rfl⟩ rfl ?_
  refine zw_getR (b + 4) ⟨rfl, rfl⟩ (hb.2.2.2.2.1) ?_
  refine zw_const ⟨rfl, rfl⟩ ?_
  refine zw_const ⟨rfl, rfl⟩ ?_
  refine zw_copy ⟨rfl, rfl⟩ hd.2.2.2.2.2.2.2.2 hb.2.2.2.2.2.2.2.2 (by omega) (by exact ⟨by omega, by decide⟩) ?_
  refine zw_aload ⟨rfl, rfl⟩ rfl ?_
  refine zw_aload ⟨rfl, rfl⟩ rfl ?_
  refine zw_getI ⟨rfl, rfl⟩ hd.1 (by decide) ?_
  refine zw_putI ⟨rfl, rfl⟩ hb.1 (by decide) (fun h => absurd h (by decide)) ?_
  refine zw_aload ⟨rfl, rfl⟩ rfl ?_
  refine zw_aload ⟨rfl, rfl⟩ rfl ?_
  refine zw_getI ⟨rfl, rfl⟩ hd.1 (by decide) ?_
  refine zw_putI ⟨rfl, rfl⟩ hb.1 (by decide) (fun h => absurd h (by decide)) ?_
  refine zw_aload ⟨rfl, rfl⟩ rfl ?_
  refine zw_aload ⟨rfl, rfl⟩ rfl ?_
  refine zw_getI ⟨rfl, rfl⟩ hd.1 (by decide) ?_
  refine zw_putI ⟨rfl, rfl⟩ hb.1 (by decide) (fun h => absurd h (by decide)) ?_
  refine zw_aload ⟨rfl, rfl⟩ rfl ?_
  refine zw_aload ⟨rfl, rfl⟩ rfl ?_
  refine zw_getI ⟨rfl, rfl⟩ hd.1 (by decide) ?_
  refine zw_putI ⟨rfl, rfl⟩ hb.1 (by decide) (fun h => absurd h (by decide)) ?_
  refine zw_void rfl ?_
  refine k _ (ysc_post hn ?_)
  rw [zcpy_na (by omega), zcpy_na (by omega), zcpy_na (by omega), zcpy_na (by omega), zup_na (by omega), zcpy_na (by omega), zcpy_na (by omega), zcpy_na (by omega), zcpy_na (by omega), zup_na (by omega), zup_na (by omega), zcpy_na (by omega), zcpy_na (by omega), zcpy_na (by omega), zcpy_na (by omega), zup_na (by omega), zup_na (by omega), zup_na (by omega), zcpy_na (by omega), zcpy_na (by omega), zcpy_na (by omega), zcpy_na (by omega)]
end
section
/-! The class' State, History, Pictures -/
section
set_option maxHeartbeats 4000000
theorem m_StCopy {a s : Int} {M : zM} {Q : zV → zM → Prop} (ha : yblk a) (hs : yblk s) (hn : s + 7 ≤ a ∨ a + 7 ≤ s) (k : ∀ N : zM, (yfr a (a + 6) M N ∧ ∀ σ : yS, σ 0 ≤ 60 → yStA M s σ → yStA N a σ) → Q (3, 0) N) : zWp kSt_copyFrom 0 [(1, a), (1, s)] [] M Q := by
  refine zw_aload ⟨rfl, rfl⟩ rfl ?_
  refine zw_getR (a + 1) ⟨rfl, rfl⟩ (ha.2.1) ?_
  refine zw_aload ⟨rfl, rfl⟩ rfl ?_
  refine zw_getR (s + 1) ⟨rfl, rfl⟩ (hs.2.1) ?_
  refine zw_cavv2 ⟨rfl, rfl⟩ rfl (ha.2.2.2.2.1) rfl ?_
  refine m_ScCopy ha.2.2.2.2 hs.2.2.2.2 (by omega) (fun N1 p1 => ?_)
  refine zw_aload ⟨rfl, rfl⟩ rfl ?_
  refine zw_getR (s + 6) ⟨rfl, rfl⟩ (hs.2.2.1) ?_
  refine zw_const ⟨rfl, rfl⟩ ?_
  refine zw_aload ⟨rfl, rfl⟩ rfl ?_
  refine zw_getR (a + 6) ⟨rfl, rfl⟩ (ha.2.2.1) ?_
  refine zw_const ⟨rfl, rfl⟩ ?_
  refine zw_const ⟨rfl, rfl⟩ ?_
  refine zw_copy ⟨rfl, rfl⟩ hs.2.2.2.1 ha.2.2.2.1 (by omega) (by exact ⟨by omega, by decide⟩) ?_
  refine zw_aload ⟨rfl, rfl⟩ rfl ?_
  refine zw_aload ⟨rfl, rfl⟩ rfl ?_
  refine zw_getI ⟨rfl, rfl⟩ hs.1 (by decide) ?_
  refine zw_putI ⟨rfl, rfl⟩ ha.1 (by decide) (fun h => absurd h (by decide)) ?_
  refine zw_void rfl ?_
  obtain ⟨p1, p2, p3⟩ := p1
  refine k _ ⟨fun x hx => ?_, fun σ hσ h => ?_⟩
  · rw [zup_row (by omega), zcpy_row (by omega), p1 x (by omega)]
  · obtain ⟨h1, h2, h3⟩ := h
    have q1 := p3 1 (by decide) (by decide)
    have q2 := p3 2 (by decide) (by decide)
    have q3 := p3 3 (by decide) (by decide)
    have q4 := p3 4 (by decide) (by decide)
    rw [show a + 1 + 1 = a + 2 by omega, show s + 1 + 1 = s + 2 by omega] at q1
    rw [show a + 1 + 2 = a + 3 by omega, show s + 1 + 2 = s + 3 by omega] at q2
    rw [show a + 1 + 3 = a + 4 by omega, show s + 1 + 3 = s + 4 by omega] at q3
    rw [show a + 1 + 4 = a + 5 by omega, show s + 1 + 4 = s + 5 by omega] at q4
    refine ⟨ySc.cp h1 ?_ ?_ ?_ ?_ ?_, ?_, fun p r1 r2 => ?_⟩
    · intro j r1 r2
      rw [zup_na (by omega), zcpy_na (by omega)]
      exact p2 j r1 r2
    · intro l r1 r2
      rw [zup_na (by omega), zcpy_na (by omega)]
      exact q1 l r1 r2
    · intro l r1 r2
      rw [zup_na (by omega), zcpy_na (by omega)]
      exact q2 l r1 r2
    · intro l r1 r2
      rw [zup_na (by omega), zcpy_na (by omega)]
      exact q3 l r1 r2
    · intro l r1 r2
      rw [zup_na (by omega), zcpy_na (by omega)]
      exact q4 l r1 r2
    · rw [zup_eq, zcpy_na (by omega), p1 s (by omega)]
      exact h2
    · rw [zup_na (by omega)]
      unfold zcpy
      rw [if_pos ⟨rfl, by omega, by omega⟩, p1 (s + 6) (by omega), show (0 : Int) + (p - 0) = p by omega]
      exact h3 p r1 r2
end

def yHi (M : zM) : Prop := ∀ i, 0 ≤ i → i < 10 → (∃ j : Int, 0 ≤ j ∧ j < 10 ∧ M 10 i = 12 + 7 * j) ∧ ∀ i', 0 ≤ i' → i' < 10 → M 10 i = M 10 i' → i = i'
def yHs (M : zM) (hn : Int) (h : Int → yS) : Prop := M 9 0 = hn ∧ (0 ≤ hn ∧ hn ≤ 10) ∧ yHi M ∧ ∀ i, 0 ≤ i → i < hn → yVal (h i) ∧ yStA M (M 10 i - 1) (h i)
theorem ysh_blk {a : Int} (h : yblk a) : ∃ rs : List Int, zsh zS0 a = some (0, 10, rs) := by
  obtain ⟨c, rs, h1, h2⟩ := zcls_of h.1
  have : c = 10 := by omega
  subst this
  exact ⟨rs, h1⟩
theorem yHi.blk {M : zM} (h : yHi M) {i : Int} (h0 : 0 ≤ i) (h1 : i < 10) : yblk (M 10 i - 1) := by
  obtain ⟨⟨j, a, b, c⟩, -⟩ := h i h0 h1
  rw [show M 10 i - 1 = 11 + 7 * j by omega]
  exact yblk_h ⟨a, b⟩
theorem yHi.rng {M : zM} (h : yHi M) {i : Int} (h0 : 0 ≤ i) (h1 : i < 10) : 12 ≤ M 10 i ∧ M 10 i ≤ 75 := by
  obtain ⟨⟨j, a, b, c⟩, -⟩ := h i h0 h1
  omega
theorem yHi.apart {M : zM} (h : yHi M) {i i' : Int} (h0 : 0 ≤ i) (h1 : i < 10) (h2 : 0 ≤ i') (h3 : i' < 10) (hne : i ≠ i') : M 10 i + 7 ≤ M 10 i' ∨ M 10 i' + 7 ≤ M 10 i := by
  obtain ⟨⟨j, a, b, c⟩, d⟩ := h i h0 h1
  obtain ⟨⟨j', a', b', c'⟩, -⟩ := h i' h2 h3
  have : M 10 i ≠ M 10 i' := fun z => hne (d i' h2 h3 z)
  omega

section
set_option maxHeartbeats 4000000
theorem m_drop_l {M : zM} {Q : zV → zM → Prop} (hM : yHi M) (k : ∀ N : zM, (N 9 0 = 9 ∧ (∀ i, 0 ≤ i → i < 9 → N 10 i = M 10 (i + 1)) ∧ N 10 9 = M 10 0 ∧ ∀ b, ¬ (9 ≤ b ∧ b ≤ 10) → N b = M b) → Q (3, 0) N) : ∀ (f : Nat) (i : Int) (N : zM), (1 ≤ i ∧ i ≤ 10) → (∀ j, 0 ≤ j → j < i - 1 → N 10 j = M 10 (j + 1)) → (∀ j, i - 1 ≤ j → N 10 j = M 10 j) → (∀ b, b ≠ 10 → N b = M b) → (10 - i).toNat < f → zWp kHi_dropEldest 7 [(1, 9), (1, M 10 0 - 1), (0, i)] [] N Q := by
  intro f
  induction f with
  | zero => intro i N h1 h2 h3 h4 hf; exact absurd hf (Nat.not_lt_zero _)
  | succ f ih =>
    intro i N h1 h2 h3 h4 hf
    refine zw_iload ⟨rfl, rfl⟩ rfl ?_
    refine zw_const ⟨rfl, rfl⟩ ?_
    refine zw_icge ⟨rfl, rfl⟩ rfl (fun c1 => ?_) (fun c1 => ?_)
    · skip
      refine zw_aload ⟨rfl, rfl⟩ rfl ?_
      refine zw_getR 10 ⟨rfl, rfl⟩ zr_9_1 ?_
      refine zw_const ⟨rfl, rfl⟩ ?_
      refine zw_aload ⟨rfl, rfl⟩ rfl ?_
      obtain ⟨rs, hrs⟩ := ysh_blk (hM.blk (i := 0) (by decide) (by decide))
      refine zw_aast (cl := 0) ⟨rfl, rfl⟩ rfl (by omega) hrs rfl ?_
      refine zw_aload ⟨rfl, rfl⟩ rfl ?_
      refine zw_const ⟨rfl, rfl⟩ ?_
      refine zw_putI ⟨rfl, rfl⟩ zc_9 (by decide) (fun h => absurd h (by decide)) ?_
      refine zw_void rfl ?_
      refine k _ ⟨zup_eq _ _ _ _, ?_, ?_, ?_⟩
      · intro j q1 q2; rw [zup_na (by decide), zup_ni (by omega)]; exact h2 j q1 (by omega)
      · rw [zup_na (by decide), zup_eq]; omega
      · intro b hb; rw [zup_row (by omega), zup_row (by omega)]; exact h4 b (by omega)
    · skip
      refine zw_aload ⟨rfl, rfl⟩ rfl ?_
      refine zw_getR 10 ⟨rfl, rfl⟩ zr_9_1 ?_
      refine zw_iload ⟨rfl, rfl⟩ rfl ?_
      refine zw_const ⟨rfl, rfl⟩ ?_
      refine zw_isub ⟨rfl, rfl⟩ (by omega) ?_
      refine zw_aload ⟨rfl, rfl⟩ rfl ?_
      refine zw_getR 10 ⟨rfl, rfl⟩ zr_9_1 ?_
      refine zw_iload ⟨rfl, rfl⟩ rfl ?_
      refine zw_aald (v := (N 10 i - 1)) ⟨rfl, rfl⟩ za_10 (by omega) (by omega) (by have := hM.rng (i := i) (by omega) (by omega); have := h3 i (by omega); omega) ?_
      obtain ⟨rs, hrs⟩ := ysh_blk (hM.blk (i := i) (by omega) (by omega))
      rw [← h3 i (by omega)] at hrs
      refine zw_aast (cl := 0) ⟨rfl, rfl⟩ rfl (by omega) hrs rfl ?_
      refine zw_iinc_2 ⟨rfl, rfl⟩ (by omega) ?_
      refine zw_goto ⟨rfl, rfl⟩ rfl ?_
      refine ih _ _ ?_ ?_ ?_ ?_ ?_
      · omega
      · grind [zup]
      · grind [zup]
      · intro b hb; rw [zup_row hb]; exact h4 b hb
      · omega

theorem m_drop {M : zM} {Q : zV → zM → Prop} (hM : yHi M) (k : ∀ N : zM, (N 9 0 = 9 ∧ (∀ i, 0 ≤ i → i < 9 → N 10 i = M 10 (i + 1)) ∧ N 10 9 = M 10 0 ∧ ∀ b, ¬ (9 ≤ b ∧ b ≤ 10) → N b = M b) → Q (3, 0) N) : zWp kHi_dropEldest 0 [(1, 9), (3, 0), (3, 0)] [] M Q := by
  refine zw_aload ⟨rfl, rfl⟩ rfl ?_
  refine zw_getR 10 ⟨rfl, rfl⟩ zr_9_1 ?_
  refine zw_const ⟨rfl, rfl⟩ ?_
  refine zw_aald (v := (M 10 0 - 1)) ⟨rfl, rfl⟩ za_10 (by omega) (by omega) (by have := hM.rng (i := 0) (by omega) (by omega); omega) ?_
  refine zw_astore_1 ⟨rfl, rfl⟩ ?_
  refine zw_const ⟨rfl, rfl⟩ ?_
  refine zw_istore_2 ⟨rfl, rfl⟩ ?_
  exact m_drop_l hM k _ _ _ (by omega) (fun j q1 q2 => by omega) (fun _ _ => rfl) (fun _ _ => rfl) (Nat.lt_succ_self _)
end

def ypn (hn : Int) : Int := if 10 ≤ hn then 10 else hn + 1
def yph (hn : Int) (h : Int → yS) (σ : yS) : Int → yS := fun i => if 10 ≤ hn then (if i = 9 then σ else h (i + 1)) else if i = hn then σ else h i

section
set_option maxHeartbeats 4000000
theorem m_keep_6 {M : zM} {Q : zV → zM → Prop} {s : Int} {h : Int → yS} {σ : yS} {r : zV} (hs : M 9 0 = s) (h0 : 0 ≤ s ∧ s ≤ 9) (hM : yHi M) (hh : ∀ i, 0 ≤ i → i < s → yVal (h i) ∧ yStA M (M 10 i - 1) (h i)) (hσ : yVal σ) (ht : yTold M σ)
  (k : ∀ N : zM, (yHs N (s + 1) (fun i => if i = s then σ else h i) ∧ ∀ b, ¬ (9 ≤ b ∧ b ≤ 80) → N b = M b) → Q (3, 0) N) : zWp kHi_keep 6 [(1, 9), (1, 2), r] [] M Q := by
  have hr := hM.rng h0.1 (show s < 10 by omega)
  refine zw_aload ⟨rfl, rfl⟩ rfl ?_
  refine zw_getR 10 ⟨rfl, rfl⟩ zr_9_1 ?_
  refine zw_aload ⟨rfl, rfl⟩ rfl ?_
  refine zw_getIv (v := s) ⟨rfl, rfl⟩ zc_9 (by decide) (hs) ?_
  refine zw_aald (v := (M 10 s - 1)) ⟨rfl, rfl⟩ za_10 (by omega) (by omega) (by omega) ?_
  refine zw_astore_2 ⟨rfl, rfl⟩ ?_
  refine zw_aload ⟨rfl, rfl⟩ rfl ?_
  refine zw_ifnullR ⟨rfl, rfl⟩ ?_
  refine zw_aload ⟨rfl, rfl⟩ rfl ?_
  refine zw_aload ⟨rfl, rfl⟩ rfl ?_
  refine zw_cavv2 ⟨rfl, rfl⟩ rfl ((hM.blk h0.1 (by omega)).1) rfl ?_
  refine m_StCopy (hM.blk h0.1 (by omega)) yblk_2 (by omega) (fun N1 p1 => ?_)
  refine zw_aload ⟨rfl, rfl⟩ rfl ?_
  refine zw_dup ⟨rfl, rfl⟩ (by decide) ?_
  refine zw_getIv (v := N1 9 0) ⟨rfl, rfl⟩ zc_9 (by decide) rfl ?_
  refine zw_const ⟨rfl, rfl⟩ ?_
  refine zw_iadd ⟨rfl, rfl⟩ (by rw [p1.1 9 (by omega)]; omega) ?_
  refine zw_putI ⟨rfl, rfl⟩ zc_9 (by decide) (fun h => absurd h (by decide)) ?_
  refine zw_void rfl ?_
  obtain ⟨f1, f2⟩ := p1
  have e9 : N1 9 = M 9 := f1 9 (by omega)
  have e10 : N1 10 = M 10 := f1 10 (by omega)
  refine k _ ⟨⟨?_, ?_, ?_, ?_⟩, ?_⟩
  · rw [zup_eq, e9, hs]
  · omega
  · intro i q1 q2
    have := hM i q1 q2
    simp only [zup_na (show (10 : Int) ≠ 9 by decide), e10]
    exact this
  · intro i q1 q2
    rw [zup_na (by decide), e10]
    by_cases hi : i = s
    · subst hi
      dsimp only
      rw [if_pos rfl]
      refine ⟨hσ, (f2 σ hσ.1.2 (yStA_2.mpr ht)).cg (fun b z1 z2 => zup_row (by omega))⟩
    · dsimp only
      rw [if_neg hi]
      have hi2 := hM.rng q1 (show i < 10 by omega)
      have hap := hM.apart q1 (show i < 10 by omega) h0.1 (show s < 10 by omega) hi
      refine ⟨(hh i q1 (by omega)).1, (hh i q1 (by omega)).2.cg (fun b z1 z2 => ?_)⟩
      rw [zup_row (by omega)]
      exact f1 b (by omega)
  · intro b hb
    rw [zup_row (by omega)]
    exact f1 b (by omega)
end

theorem m_keep {M : zM} {Q : zV → zM → Prop} {hn : Int} {h : Int → yS} {σ : yS} (hH : yHs M hn h) (hσ : yVal σ) (ht : yTold M σ) (k : ∀ N : zM, (yHs N (ypn hn) (yph hn h σ) ∧ ∀ b, ¬ (9 ≤ b ∧ b ≤ 80) → N b = M b) → Q (3, 0) N) : zWp kHi_keep 0 [(1, 9), (1, 2), (3, 0)] [] M Q := by
  obtain ⟨q1, q2, q3, q4⟩ := id hH
  refine zw_aload ⟨rfl, rfl⟩ rfl ?_
  refine zw_getIv (v := hn) ⟨rfl, rfl⟩ zc_9 (by decide) (hH.1) ?_
  refine zw_const ⟨rfl, rfl⟩ ?_
  refine zw_iclt ⟨rfl, rfl⟩ rfl (fun c1 => ?_) (fun c1 => ?_)
  · skip
    refine m_keep_6 (s := hn) (h := h) q1 (by omega) q3 q4 hσ ht (fun N p => k N ⟨?_, p.2⟩)
    have e1 : ypn hn = hn + 1 := if_neg (by omega)
    have e2 : yph hn h σ = fun i => if i = hn then σ else h i := by unfold yph; funext i; rw [if_neg (by omega)]
    rw [e1, e2]
    exact p.1
  · skip
    refine zw_aload ⟨rfl, rfl⟩ rfl ?_
    refine zw_cavv1 ⟨rfl, rfl⟩ rfl zc_9 rfl ?_
    refine m_drop hH.2.2.1 (fun N1 p1 => ?_)
    obtain ⟨f1, f2, f3, f4⟩ := p1
    refine m_keep_6 (s := 9) (h := fun i => h (i + 1)) f1 (by omega) ?_ ?_ hσ ?_ (fun N p => k N ⟨?_, ?_⟩)
    · have g : ∀ i, 0 ≤ i → i < 10 → N1 10 i = M 10 (if i = 9 then 0 else i + 1) := by
        intro i z1 z2
        by_cases hi : i = 9
        · rw [if_pos hi, hi]; exact f3
        · rw [if_neg hi]; exact f2 i z1 (by omega)
      intro i z1 z2
      rw [g i z1 z2]
      have := q3 (if i = 9 then 0 else i + 1) (by split <;> omega) (by split <;> omega)
      refine ⟨this.1, fun i' z3 z4 hz => ?_⟩
      rw [g i' z3 z4] at hz
      have := this.2 _ (by split <;> omega) (by split <;> omega) hz
      split at this <;> split at this <;> omega
    · intro i z1 z2
      rw [f2 i z1 z2]
      have := q4 (i + 1) (by omega) (by omega)
      refine ⟨this.1, this.2.cg (fun b y1 y2 => f4 b ?_)⟩
      have := q3.rng (i := i + 1) (by omega) (by omega)
      omega
    · show ySt (N1 2) (N1 3) (N1 4) (N1 5) (N1 6) (N1 7) (N1 8) σ
      rw [f4 2 (by omega), f4 3 (by omega), f4 4 (by omega), f4 5 (by omega), f4 6 (by omega), f4 7 (by omega), f4 8 (by omega)]
      exact ht
    · have e1 : ypn hn = 10 := if_pos (by omega)
      have e2 : yph hn h σ = fun i => if i = 9 then σ else h (i + 1) := by unfold yph; funext i; rw [if_pos (by omega)]
      rw [e1, e2]
      exact p.1
    · intro b hb
      rw [p.2 b hb]
      exact f4 b (by omega)

theorem m_goBack {n : Int} {M : zM} {Q : zV → zM → Prop} {hn : Int} {h : Int → yS} (hH : yHs M hn h) (hb : 1 ≤ n ∧ n ≤ hn) (k : ∀ N : zM, (yHs N (hn - n) h ∧ yTold N (h (hn - n)) ∧ ∀ b, ¬ (2 ≤ b ∧ b ≤ 9) → N b = M b) → Q (3, 0) N) : zWp kHi_goBack 0 [(1, 9), (0, n), (1, 2), (3, 0)] [] M Q := by
  obtain ⟨q1, q2, q3, q4⟩ := id hH
  have hr := q3.rng (show 0 ≤ hn - n by omega) (show hn - n < 10 by omega)
  refine zw_iload ⟨rfl, rfl⟩ rfl ?_
  refine zw_const ⟨rfl, rfl⟩ ?_
  refine zw_iclt ⟨rfl, rfl⟩ rfl (fun q => absurd q (by omega)) (fun _ => ?_)
  refine zw_iload ⟨rfl, rfl⟩ rfl ?_
  refine zw_aload ⟨rfl, rfl⟩ rfl ?_
  refine zw_getIv (v := hn) ⟨rfl, rfl⟩ zc_9 (by decide) (hH.1) ?_
  refine zw_icle ⟨rfl, rfl⟩ rfl (fun _ => ?_) (fun q => absurd (by omega) q)
  refine zw_aload ⟨rfl, rfl⟩ rfl ?_
  refine zw_getR 10 ⟨rfl, rfl⟩ zr_9_1 ?_
  refine zw_aload ⟨rfl, rfl⟩ rfl ?_
  refine zw_getIv (v := hn) ⟨rfl, rfl⟩ zc_9 (by decide) (hH.1) ?_
  refine zw_iload ⟨rfl, rfl⟩ rfl ?_
  refine zw_isub ⟨rfl, rfl⟩ (by omega) ?_
  refine zw_aald (v := (M 10 (hn - n) - 1)) ⟨rfl, rfl⟩ za_10 (by omega) (by omega) (by omega) ?_
  refine zw_astore_3 ⟨rfl, rfl⟩ ?_
  refine zw_aload ⟨rfl, rfl⟩ rfl ?_
  refine zw_ifnullR ⟨rfl, rfl⟩ ?_
  refine zw_aload ⟨rfl, rfl⟩ rfl ?_
  refine zw_aload ⟨rfl, rfl⟩ rfl ?_
  refine zw_cavv2 ⟨rfl, rfl⟩ rfl zc_2 rfl ?_
  refine m_StCopy yblk_2 (q3.blk (i := hn - n) (by omega) (by omega)) (by omega) (fun N1 p1 => ?_)
  refine zw_aload ⟨rfl, rfl⟩ rfl ?_
  refine zw_dup ⟨rfl, rfl⟩ (by decide) ?_
  refine zw_getIv (v := N1 9 0) ⟨rfl, rfl⟩ zc_9 (by decide) rfl ?_
  refine zw_iload ⟨rfl, rfl⟩ rfl ?_
  refine zw_isub ⟨rfl, rfl⟩ (by rw [p1.1 9 (by omega)]; omega) ?_
  refine zw_putI ⟨rfl, rfl⟩ zc_9 (by decide) (fun h => absurd h (by decide)) ?_
  refine zw_void rfl ?_
  obtain ⟨f1, f2⟩ := p1
  have e9 : N1 9 = M 9 := f1 9 (by omega)
  have e10 : N1 10 = M 10 := f1 10 (by omega)
  have q5 := q4 (hn - n) (by omega) (by omega)
  refine k _ ⟨⟨?_, ?_, ?_, ?_⟩, ?_, ?_⟩
  · rw [zup_eq, e9, q1]
  · omega
  · intro i z1 z2
    have := q3 i z1 z2
    simp only [zup_na (show (10 : Int) ≠ 9 by decide), e10]
    exact this
  · intro i z1 z2
    rw [zup_na (by decide), e10]
    have := q4 i z1 (by omega)
    have hr2 := q3.rng z1 (show i < 10 by omega)
    refine ⟨this.1, this.2.cg (fun b y1 y2 => ?_)⟩
    rw [zup_row (by omega)]
    exact f1 b (by omega)
  · exact (f2 _ q5.1.1.2 q5.2).cg (fun b y1 y2 => zup_row (by omega))
  · intro b hb
    rw [zup_row (by omega)]
    exact f1 b (by omega)

def yPi (M : zM) : Prop := M 82 0 = 85 ∧ M 82 1 = 92
theorem yPi.at {M : zM} (h : yPi M) {i : Int} (hi : i = 0 ∨ i = 1) : M 82 i = 85 + 7 * i := by
  rcases hi with rfl | rfl
  · exact h.1
  · exact h.2

theorem m_take {i : Int} {M : zM} {Q : zV → zM → Prop} {σ : yS} (hP : yPi M) (hi : i = 0 ∨ i = 1) (hσ : yVal σ) (ht : yTold M σ) (k : ∀ N : zM, (yStA N (84 + 7 * i) σ ∧ N 83 i = 1 ∧ (∀ j, j ≠ i → N 83 j = M 83 j) ∧ ∀ b, b ≠ 83 → ¬ (84 + 7 * i ≤ b ∧ b ≤ 90 + 7 * i) → N b = M b) → Q (3, 0) N) : zWp kPi_take 0 [(1, 81), (0, i), (1, 2)] [] M Q := by
  have hp := hP.at hi
  refine zw_iload ⟨rfl, rfl⟩ rfl ?_
  refine zw_iflt ⟨rfl, rfl⟩ rfl (fun q => absurd q (by omega)) (fun _ => ?_)
  refine zw_iload ⟨rfl, rfl⟩ rfl ?_
  refine zw_const ⟨rfl, rfl⟩ ?_
  refine zw_icge ⟨rfl, rfl⟩ rfl (fun q => absurd q (by omega)) (fun _ => ?_)
  refine zw_aload ⟨rfl, rfl⟩ rfl ?_
  refine zw_getR 82 ⟨rfl, rfl⟩ zr_81_0 ?_
  refine zw_iload ⟨rfl, rfl⟩ rfl ?_
  refine zw_aald (v := (84 + 7 * i)) ⟨rfl, rfl⟩ za_82 (by omega) (by omega) (by omega) ?_
  refine zw_ifnullR ⟨rfl, rfl⟩ ?_
  refine zw_aload ⟨rfl, rfl⟩ rfl ?_
  refine zw_getR 82 ⟨rfl, rfl⟩ zr_81_0 ?_
  refine zw_iload ⟨rfl, rfl⟩ rfl ?_
  refine zw_aald (v := (84 + 7 * i)) ⟨rfl, rfl⟩ za_82 (by omega) (by omega) (by omega) ?_
  refine zw_aload ⟨rfl, rfl⟩ rfl ?_
  refine zw_cavv2 ⟨rfl, rfl⟩ rfl ((yblk_i hi).1) rfl ?_
  refine m_StCopy (yblk_i hi) yblk_2 (by omega) (fun N1 p1 => ?_)
  refine zw_aload ⟨rfl, rfl⟩ rfl ?_
  refine zw_getR 83 ⟨rfl, rfl⟩ zr_81_1 ?_
  refine zw_iload ⟨rfl, rfl⟩ rfl ?_
  refine zw_const ⟨rfl, rfl⟩ ?_
  refine zw_bast3 ⟨rfl, rfl⟩ za_83 (by omega) (by first | exact Or.inl rfl | exact Or.inr rfl | omega) ?_
  refine zw_void rfl ?_
  obtain ⟨f1, f2⟩ := p1
  refine k _ ⟨(f2 σ hσ.1.2 (yStA_2.mpr ht)).cg (fun b y1 y2 => zup_row (by omega)), zup_eq _ _ _ _, fun j hj => ?_, fun b h1 h2 => ?_⟩
  · rw [zup_ni hj, f1 83 (by omega)]
  · rw [zup_row h1]
    exact f1 b (by omega)

theorem m_show {i : Int} {M : zM} {Q : zV → zM → Prop} {σ : yS} (hP : yPi M) (hi : i = 0 ∨ i = 1) (hm : M 83 i = 1) (hσ : yVal σ) (ht : yStA M (84 + 7 * i) σ) (k : ∀ N : zM, (yTold N σ ∧ ∀ b, ¬ (2 ≤ b ∧ b ≤ 8) → N b = M b) → Q (3, 0) N) : zWp kPi_show 0 [(1, 81), (0, i), (1, 2)] [] M Q := by
  have hp := hP.at hi
  refine zw_aload ⟨rfl, rfl⟩ rfl ?_
  refine zw_iload ⟨rfl, rfl⟩ rfl ?_
  refine zw_callv2 ⟨rfl, rfl⟩ rfl zc_81 rfl ?_
  refine zw_iload ⟨rfl, rfl⟩ rfl ?_
  refine zw_iflt ⟨rfl, rfl⟩ rfl (fun q => absurd q (by omega)) (fun _ => ?_)
  refine zw_iload ⟨rfl, rfl⟩ rfl ?_
  refine zw_const ⟨rfl, rfl⟩ ?_
  refine zw_icge ⟨rfl, rfl⟩ rfl (fun q => absurd q (by omega)) (fun _ => ?_)
  refine zw_aload ⟨rfl, rfl⟩ rfl ?_
  refine zw_getR 83 ⟨rfl, rfl⟩ zr_81_1 ?_
  refine zw_iload ⟨rfl, rfl⟩ rfl ?_
  refine zw_baldv (v := 1) ⟨rfl, rfl⟩ za_83 (by decide) (by omega) (hm) ?_
  refine zw_ifeq ⟨rfl, rfl⟩ rfl (fun q => absurd q (by decide)) (fun _ => ?_)
  refine zw_const ⟨rfl, rfl⟩ ?_
  refine zw_goto ⟨rfl, rfl⟩ rfl ?_
  refine zw_zret rfl (by first | exact Or.inl rfl | exact Or.inr rfl | omega) ?_
  refine zw_ifeq ⟨rfl, rfl⟩ rfl (fun q => absurd q (by decide)) (fun _ => ?_)
  refine zw_aload ⟨rfl, rfl⟩ rfl ?_
  refine zw_getR 82 ⟨rfl, rfl⟩ zr_81_0 ?_
  refine zw_iload ⟨rfl, rfl⟩ rfl ?_
  refine zw_aald (v := (84 + 7 * i)) ⟨rfl, rfl⟩ za_82 (by omega) (by omega) (by omega) ?_
  refine zw_ifnullR ⟨rfl, rfl⟩ ?_
  refine zw_aload ⟨rfl, rfl⟩ rfl ?_
  refine zw_aload ⟨rfl, rfl⟩ rfl ?_
  refine zw_getR 82 ⟨rfl, rfl⟩ zr_81_0 ?_
  refine zw_iload ⟨rfl, rfl⟩ rfl ?_
  refine zw_aald (v := (84 + 7 * i)) ⟨rfl, rfl⟩ za_82 (by omega) (by omega) (by omega) ?_
  refine zw_cavv2 ⟨rfl, rfl⟩ rfl zc_2 rfl ?_
  refine m_StCopy yblk_2 (yblk_i hi) (by omega) (fun N1 p1 => ?_)
  refine zw_void rfl ?_
  exact k _ ⟨p1.2 σ hσ.1.2 ht, fun b hb => p1.1 b hb⟩
end
section
/-! What is told: a Script's and a State's answers -/
theorem zzz_rng {x b : Int} (h : 0 ≤ b ∧ b < 32) : 0 ≤ yhb x b ∧ yhb x b ≤ 1 := by
  unfold yhb zand
  rw [if_pos (Or.inl rfl)]
  omega
def ykr (r : Int → Int) (l : Int) : Int := if 0 ≤ l ∧ l < 26 then r l else 0
theorem ykr_told {M : zM} {σ : yS} {r0 r1 r2 r3 r4 : Int → Int} (h : ySc r0 r1 r2 r3 r4 σ) (l : Int) : ykr r1 l = ykd σ l := by
  unfold ykr ykd
  split
  · rename_i q; exact h.1 l q.1 q.2
  · rfl
def yct (r : Int → Int) : Nat → Int
  | 0 => 0
  | k + 1 => yct r k + (if r (k : Int) = 0 then 0 else 1)
def ylt (σ : yS) : Int := yct (fun l => σ (2 + l)) 26
theorem yct_rng (r : Int → Int) (k : Nat) : 0 ≤ yct r k ∧ yct r k ≤ k := by
  induction k with
  | zero => exact ⟨Int.le_refl _, Int.le_refl _⟩
  | succ k ih => unfold yct; split <;> omega
theorem yct_cg {r s : Int → Int} {k : Nat} (h : ∀ l, 0 ≤ l → l < (k : Int) → r l = s l) : yct r k = yct s k := by
  induction k with
  | zero => rfl
  | succ k ih =>
    unfold yct
    rw [ih (fun l a b => h l a (by omega)), h k (by omega) (by omega)]
theorem yct_s (r : Int → Int) {l : Int} (h : 0 ≤ l) : yct r (l + 1).toNat = yct r l.toNat + (if r l = 0 then 0 else 1) := by
  rw [show (l + 1).toNat = l.toNat + 1 by omega]
  show yct r l.toNat + (if r (l.toNat : Int) = 0 then 0 else 1) = _
  rw [show (l.toNat : Int) = l by omega]

theorem m_hasBit {x b : Int} {M : zM} {Q : zV → zM → Prop} (hb : 0 ≤ b ∧ b < 32) (k : Q (0, yhb x b) M) : zWp kX_hasBit 0 [(0, x), (0, b)] [] M Q := by
  refine zw_iload ⟨rfl, rfl⟩ rfl ?_
  refine zw_iload ⟨rfl, rfl⟩ rfl ?_
  refine zw_iushr ⟨rfl, rfl⟩ (by omega) ?_
  refine zw_const ⟨rfl, rfl⟩ ?_
  refine zw_iand ⟨rfl, rfl⟩ (by exact Or.inl (Or.inl rfl)) ?_
  refine zw_ret rfl ?_
  exact k

theorem m_kindOf_3 {l : Int} {M : zM} {Q : zV → zM → Prop} {σ : yS} (hS : ySc (M 3) (M 4) (M 5) (M 6) (M 7) σ) (k : Q (0, ykd σ l) M) : zWp kSc_kindOf 0 [(1, 3), (0, l)] [] M Q := by
  refine zw_iload ⟨rfl, rfl⟩ rfl ?_
  refine zw_iflt ⟨rfl, rfl⟩ rfl (fun c1 => ?_) (fun c1 => ?_)
  · skip
    refine zw_const ⟨rfl, rfl⟩ ?_
    refine zw_ret rfl ?_
    rw [show ykd σ l = 0 from by rw [← ykr_told (M := M) hS l]; grind [ykr]] at k
    exact k
  · skip
    refine zw_iload ⟨rfl, rfl⟩ rfl ?_
    refine zw_const ⟨rfl, rfl⟩ ?_
    refine zw_icge ⟨rfl, rfl⟩ rfl (fun c2 => ?_) (fun c2 => ?_)
    · skip
      refine zw_const ⟨rfl, rfl⟩ ?_
      refine zw_ret rfl ?_
      rw [show ykd σ l = 0 from by rw [← ykr_told (M := M) hS l]; grind [ykr]] at k
      exact k
    · skip
      refine zw_aload ⟨rfl, rfl⟩ rfl ?_
      refine zw_getR 4 ⟨rfl, rfl⟩ zr_3_0 ?_
      refine zw_iload ⟨rfl, rfl⟩ rfl ?_
      refine zw_ialdv (v := M 4 l) ⟨rfl, rfl⟩ za_4 (by omega) rfl ?_
      refine zw_goto ⟨rfl, rfl⟩ rfl ?_
      refine zw_ret rfl ?_
      rw [show ykd σ l = M 4 l from by rw [← ykr_told (M := M) hS l]; grind [ykr]] at k
      exact k

theorem m_joined_3 {a b : Int} {M : zM} {Q : zV → zM → Prop} {σ : yS} (hS : ySc (M 3) (M 4) (M 5) (M 6) (M 7) σ) (k : Q (0, yju σ a b) M) : zWp kSc_joined 0 [(1, 3), (0, a), (0, b)] [] M Q := by
  refine zw_iload ⟨rfl, rfl⟩ rfl ?_
  refine zw_calls1 ⟨rfl, rfl⟩ rfl rfl ?_
  refine zw_iload ⟨rfl, rfl⟩ rfl ?_
  refine zw_iflt ⟨rfl, rfl⟩ rfl (fun c1 => ?_) (fun c1 => ?_)
  · skip
    refine zw_const ⟨rfl, rfl⟩ ?_
    refine zw_zret rfl (by first | exact Or.inl rfl | exact Or.inr rfl | omega) ?_
    refine zw_ifeq ⟨rfl, rfl⟩ rfl (fun _ => ?_) (fun q => absurd (by decide) q)
    refine zw_const ⟨rfl, rfl⟩ ?_
    refine zw_zret rfl (by first | exact Or.inl rfl | exact Or.inr rfl | omega) ?_
    rw [show yju σ a b = 0 from by have h5 := hS.2.2.2.2.1 a b; have hr := zzz_rng (x := M 7 a) (b := b); unfold yju; grind] at k
    exact k
  · skip
    refine zw_iload ⟨rfl, rfl⟩ rfl ?_
    refine zw_const ⟨rfl, rfl⟩ ?_
    refine zw_icge ⟨rfl, rfl⟩ rfl (fun c3 => ?_) (fun c3 => ?_)
    · skip
      refine zw_const ⟨rfl, rfl⟩ ?_
      refine zw_zret rfl (by first | exact Or.inl rfl | exact Or.inr rfl | omega) ?_
      refine zw_ifeq ⟨rfl, rfl⟩ rfl (fun _ => ?_) (fun q => absurd (by decide) q)
      refine zw_const ⟨rfl, rfl⟩ ?_
      refine zw_zret rfl (by first | exact Or.inl rfl | exact Or.inr rfl | omega) ?_
      rw [show yju σ a b = 0 from by have h5 := hS.2.2.2.2.1 a b; have hr := zzz_rng (x := M 7 a) (b := b); unfold yju; grind] at k
      exact k
    · skip
      refine zw_const ⟨rfl, rfl⟩ ?_
      refine zw_goto ⟨rfl, rfl⟩ rfl ?_
      refine zw_zret rfl (by first | exact Or.inl rfl | exact Or.inr rfl | omega) ?_
      refine zw_ifeq ⟨rfl, rfl⟩ rfl (fun q => absurd q (by decide)) (fun _ => ?_)
      refine zw_iload ⟨rfl, rfl⟩ rfl ?_
      refine zw_calls1 ⟨rfl, rfl⟩ rfl rfl ?_
      refine zw_iload ⟨rfl, rfl⟩ rfl ?_
      refine zw_iflt ⟨rfl, rfl⟩ rfl (fun c6 => ?_) (fun c6 => ?_)
      · skip
        refine zw_const ⟨rfl, rfl⟩ ?_
        refine zw_zret rfl (by first | exact Or.inl rfl | exact Or.inr rfl | omega) ?_
        refine zw_ifeq ⟨rfl, rfl⟩ rfl (fun _ => ?_) (fun q => absurd (by decide) q)
        refine zw_const ⟨rfl, rfl⟩ ?_
        refine zw_zret rfl (by first | exact Or.inl rfl | exact Or.inr rfl | omega) ?_
        rw [show yju σ a b = 0 from by have h5 := hS.2.2.2.2.1 a b; have hr := zzz_rng (x := M 7 a) (b := b); unfold yju; grind] at k
        exact k
      · skip
        refine zw_iload ⟨rfl, rfl⟩ rfl ?_
        refine zw_const ⟨rfl, rfl⟩ ?_
        refine zw_icge ⟨rfl, rfl⟩ rfl (fun c8 => ?_) (fun c8 => ?_)
        · skip
          refine zw_const ⟨rfl, rfl⟩ ?_
          refine zw_zret rfl (by first | exact Or.inl rfl | exact Or.inr rfl | omega) ?_
          refine zw_ifeq ⟨rfl, rfl⟩ rfl (fun _ => ?_) (fun q => absurd (by decide) q)
          refine zw_const ⟨rfl, rfl⟩ ?_
          refine zw_zret rfl (by first | exact Or.inl rfl | exact Or.inr rfl | omega) ?_
          rw [show yju σ a b = 0 from by have h5 := hS.2.2.2.2.1 a b; have hr := zzz_rng (x := M 7 a) (b := b); unfold yju; grind] at k
          exact k
        · skip
          refine zw_const ⟨rfl, rfl⟩ ?_
          refine zw_goto ⟨rfl, rfl⟩ rfl ?_
          refine zw_zret rfl (by first | exact Or.inl rfl | exact Or.inr rfl | omega) ?_
          refine zw_ifeq ⟨rfl, rfl⟩ rfl (fun q => absurd q (by decide)) (fun _ => ?_)
          refine zw_aload ⟨rfl, rfl⟩ rfl ?_
          refine zw_getR 7 ⟨rfl, rfl⟩ zr_3_3 ?_
          refine zw_iload ⟨rfl, rfl⟩ rfl ?_
          refine zw_ialdv (v := M 7 a) ⟨rfl, rfl⟩ za_7 (by omega) rfl ?_
          refine zw_iload ⟨rfl, rfl⟩ rfl ?_
          refine zw_calls2 ⟨rfl, rfl⟩ rfl rfl ?_
          refine m_hasBit (by omega) ?_
          refine zw_const ⟨rfl, rfl⟩ ?_
          refine zw_icne ⟨rfl, rfl⟩ rfl (fun c11 => ?_) (fun c11 => ?_)
          · skip
            refine zw_const ⟨rfl, rfl⟩ ?_
            refine zw_zret rfl (by first | exact Or.inl rfl | exact Or.inr rfl | omega) ?_
            rw [show yju σ a b = 0 from by have h5 := hS.2.2.2.2.1 a b; have hr := zzz_rng (x := M 7 a) (b := b); unfold yju; grind] at k
            exact k
          · skip
            refine zw_const ⟨rfl, rfl⟩ ?_
            refine zw_goto ⟨rfl, rfl⟩ rfl ?_
            refine zw_zret rfl (by first | exact Or.inl rfl | exact Or.inr rfl | omega) ?_
            rw [show yju σ a b = 1 from by have h5 := hS.2.2.2.2.1 a b; have hr := zzz_rng (x := M 7 a) (b := b); unfold yju; grind] at k
            exact k

theorem m_kindOf_99 {l : Int} {M : zM} {Q : zV → zM → Prop} {σ : yS} (hS : ySc (M 99) (M 100) (M 101) (M 102) (M 103) σ) (k : Q (0, ykd σ l) M) : zWp kSc_kindOf 0 [(1, 99), (0, l)] [] M Q := by
  refine zw_iload ⟨rfl, rfl⟩ rfl ?_
  refine zw_iflt ⟨rfl, rfl⟩ rfl (fun c1 => ?_) (fun c1 => ?_)
  · skip
    refine zw_const ⟨rfl, rfl⟩ ?_
    refine zw_ret rfl ?_
    rw [show ykd σ l = 0 from by rw [← ykr_told (M := M) hS l]; grind [ykr]] at k
    exact k
  · skip
    refine zw_iload ⟨rfl, rfl⟩ rfl ?_
    refine zw_const ⟨rfl, rfl⟩ ?_
    refine zw_icge ⟨rfl, rfl⟩ rfl (fun c2 => ?_) (fun c2 => ?_)
    · skip
      refine zw_const ⟨rfl, rfl⟩ ?_
      refine zw_ret rfl ?_
      rw [show ykd σ l = 0 from by rw [← ykr_told (M := M) hS l]; grind [ykr]] at k
      exact k
    · skip
      refine zw_aload ⟨rfl, rfl⟩ rfl ?_
      refine zw_getR 100 ⟨rfl, rfl⟩ zr_99_0 ?_
      refine zw_iload ⟨rfl, rfl⟩ rfl ?_
      refine zw_ialdv (v := M 100 l) ⟨rfl, rfl⟩ za_100 (by omega) rfl ?_
      refine zw_goto ⟨rfl, rfl⟩ rfl ?_
      refine zw_ret rfl ?_
      rw [show ykd σ l = M 100 l from by rw [← ykr_told (M := M) hS l]; grind [ykr]] at k
      exact k

theorem m_joined_99 {a b : Int} {M : zM} {Q : zV → zM → Prop} {σ : yS} (hS : ySc (M 99) (M 100) (M 101) (M 102) (M 103) σ) (k : Q (0, yju σ a b) M) : zWp kSc_joined 0 [(1, 99), (0, a), (0, b)] [] M Q := by
  refine zw_iload ⟨rfl, rfl⟩ rfl ?_
  refine zw_calls1 ⟨rfl, rfl⟩ rfl rfl ?_
  refine zw_iload ⟨rfl, rfl⟩ rfl ?_
  refine zw_iflt ⟨rfl, rfl⟩ rfl (fun c1 => ?_) (fun c1 => ?_)
  · skip
    refine zw_const ⟨rfl, rfl⟩ ?_
    refine zw_zret rfl (by first | exact Or.inl rfl | exact Or.inr rfl | omega) ?_
    refine zw_ifeq ⟨rfl, rfl⟩ rfl (fun _ => ?_) (fun q => absurd (by decide) q)
    refine zw_const ⟨rfl, rfl⟩ ?_
    refine zw_zret rfl (by first | exact Or.inl rfl | exact Or.inr rfl | omega) ?_
    rw [show yju σ a b = 0 from by have h5 := hS.2.2.2.2.1 a b; have hr := zzz_rng (x := M 103 a) (b := b); unfold yju; grind] at k
    exact k
  · skip
    refine zw_iload ⟨rfl, rfl⟩ rfl ?_
    refine zw_const ⟨rfl, rfl⟩ ?_
    refine zw_icge ⟨rfl, rfl⟩ rfl (fun c3 => ?_) (fun c3 => ?_)
    · skip
      refine zw_const ⟨rfl, rfl⟩ ?_
      refine zw_zret rfl (by first | exact Or.inl rfl | exact Or.inr rfl | omega) ?_
      refine zw_ifeq ⟨rfl, rfl⟩ rfl (fun _ => ?_) (fun q => absurd (by decide) q)
      refine zw_const ⟨rfl, rfl⟩ ?_
      refine zw_zret rfl (by first | exact Or.inl rfl | exact Or.inr rfl | omega) ?_
      rw [show yju σ a b = 0 from by have h5 := hS.2.2.2.2.1 a b; have hr := zzz_rng (x := M 103 a) (b := b); unfold yju; grind] at k
      exact k
    · skip
      refine zw_const ⟨rfl, rfl⟩ ?_
      refine zw_goto ⟨rfl, rfl⟩ rfl ?_
      refine zw_zret rfl (by first | exact Or.inl rfl | exact Or.inr rfl | omega) ?_
      refine zw_ifeq ⟨rfl, rfl⟩ rfl (fun q => absurd q (by decide)) (fun _ => ?_)
      refine zw_iload ⟨rfl, rfl⟩ rfl ?_
      refine zw_calls1 ⟨rfl, rfl⟩ rfl rfl ?_
      refine zw_iload ⟨rfl, rfl⟩ rfl ?_
      refine zw_iflt ⟨rfl, rfl⟩ rfl (fun c6 => ?_) (fun c6 => ?_)
      · skip
        refine zw_const ⟨rfl, rfl⟩ ?_
        refine zw_zret rfl (by first | exact Or.inl rfl | exact Or.inr rfl | omega) ?_
        refine zw_ifeq ⟨rfl, rfl⟩ rfl (fun _ => ?_) (fun q => absurd (by decide) q)
        refine zw_const ⟨rfl, rfl⟩ ?_
        refine zw_zret rfl (by first | exact Or.inl rfl | exact Or.inr rfl | omega) ?_
        rw [show yju σ a b = 0 from by have h5 := hS.2.2.2.2.1 a b; have hr := zzz_rng (x := M 103 a) (b := b); unfold yju; grind] at k
        exact k
      · skip
        refine zw_iload ⟨rfl, rfl⟩ rfl ?_
        refine zw_const ⟨rfl, rfl⟩ ?_
        refine zw_icge ⟨rfl, rfl⟩ rfl (fun c8 => ?_) (fun c8 => ?_)
        · skip
          refine zw_const ⟨rfl, rfl⟩ ?_
          refine zw_zret rfl (by first | exact Or.inl rfl | exact Or.inr rfl | omega) ?_
          refine zw_ifeq ⟨rfl, rfl⟩ rfl (fun _ => ?_) (fun q => absurd (by decide) q)
          refine zw_const ⟨rfl, rfl⟩ ?_
          refine zw_zret rfl (by first | exact Or.inl rfl | exact Or.inr rfl | omega) ?_
          rw [show yju σ a b = 0 from by have h5 := hS.2.2.2.2.1 a b; have hr := zzz_rng (x := M 103 a) (b := b); unfold yju; grind] at k
          exact k
        · skip
          refine zw_const ⟨rfl, rfl⟩ ?_
          refine zw_goto ⟨rfl, rfl⟩ rfl ?_
          refine zw_zret rfl (by first | exact Or.inl rfl | exact Or.inr rfl | omega) ?_
          refine zw_ifeq ⟨rfl, rfl⟩ rfl (fun q => absurd q (by decide)) (fun _ => ?_)
          refine zw_aload ⟨rfl, rfl⟩ rfl ?_
          refine zw_getR 103 ⟨rfl, rfl⟩ zr_99_3 ?_
          refine zw_iload ⟨rfl, rfl⟩ rfl ?_
          refine zw_ialdv (v := M 103 a) ⟨rfl, rfl⟩ za_103 (by omega) rfl ?_
          refine zw_iload ⟨rfl, rfl⟩ rfl ?_
          refine zw_calls2 ⟨rfl, rfl⟩ rfl rfl ?_
          refine m_hasBit (by omega) ?_
          refine zw_const ⟨rfl, rfl⟩ ?_
          refine zw_icne ⟨rfl, rfl⟩ rfl (fun c11 => ?_) (fun c11 => ?_)
          · skip
            refine zw_const ⟨rfl, rfl⟩ ?_
            refine zw_zret rfl (by first | exact Or.inl rfl | exact Or.inr rfl | omega) ?_
            rw [show yju σ a b = 0 from by have h5 := hS.2.2.2.2.1 a b; have hr := zzz_rng (x := M 103 a) (b := b); unfold yju; grind] at k
            exact k
          · skip
            refine zw_const ⟨rfl, rfl⟩ ?_
            refine zw_goto ⟨rfl, rfl⟩ rfl ?_
            refine zw_zret rfl (by first | exact Or.inl rfl | exact Or.inr rfl | omega) ?_
            rw [show yju σ a b = 1 from by have h5 := hS.2.2.2.2.1 a b; have hr := zzz_rng (x := M 103 a) (b := b); unfold yju; grind] at k
            exact k

theorem m_partOf {l w : Int} {M : zM} {Q : zV → zM → Prop} {σ : yS} (hS : ySc (M 3) (M 4) (M 5) (M 6) (M 7) σ) (k : Q (0, ypt σ l w) M) : zWp kSc_partOf 0 [(1, 3), (0, l), (0, w)] [] M Q := by
  refine zw_aload ⟨rfl, rfl⟩ rfl ?_
  refine zw_iload ⟨rfl, rfl⟩ rfl ?_
  refine zw_callv2 ⟨rfl, rfl⟩ rfl zc_3 rfl ?_
  refine m_kindOf_3 hS ?_
  refine zw_const ⟨rfl, rfl⟩ ?_
  refine zw_iceq ⟨rfl, rfl⟩ rfl (fun c1 => ?_) (fun c1 => ?_)
  · skip
    refine zw_iload ⟨rfl, rfl⟩ rfl ?_
    refine zw_ifne ⟨rfl, rfl⟩ rfl (fun c2 => ?_) (fun c2 => ?_)
    · skip
      refine zw_aload ⟨rfl, rfl⟩ rfl ?_
      refine zw_getR 6 ⟨rfl, rfl⟩ zr_3_2 ?_
      refine zw_iload ⟨rfl, rfl⟩ rfl ?_
      refine zw_ialdv (v := M 6 l) ⟨rfl, rfl⟩ za_6 (by unfold ykd at c1; split at c1 <;> omega) rfl ?_
      refine zw_ret rfl ?_
      rw [show ypt σ l w = M 6 l from by have h2 := hS.2.1 l; have h1 := hS.1 l; grind [ypt, ykd]] at k
      exact k
    · skip
      refine zw_aload ⟨rfl, rfl⟩ rfl ?_
      refine zw_getR 5 ⟨rfl, rfl⟩ zr_3_1 ?_
      refine zw_iload ⟨rfl, rfl⟩ rfl ?_
      refine zw_ialdv (v := M 5 l) ⟨rfl, rfl⟩ za_5 (by unfold ykd at c1; split at c1 <;> omega) rfl ?_
      refine zw_goto ⟨rfl, rfl⟩ rfl ?_
      refine zw_ret rfl ?_
      rw [show ypt σ l w = M 5 l from by have h2 := hS.2.1 l; have h1 := hS.1 l; grind [ypt, ykd]] at k
      exact k
  · skip
    refine zw_const ⟨rfl, rfl⟩ ?_
    refine zw_ret rfl ?_
    rw [show ypt σ l w = (-1) from by have h2 := hS.2.1 l; have h1 := hS.1 l; grind [ypt, ykd]] at k
    exact k

theorem m_letterAt_s {p : Int} {M : zM} {Q : zV → zM → Prop} {σ : yS} (hV : σ 0 ≤ 60) (hS : yTold M σ) (k : Q (0, yL σ p) M) : zWp kSt_letterAt 0 [(1, 2), (0, p)] [] M Q := by
  refine zw_iload ⟨rfl, rfl⟩ rfl ?_
  refine zw_iflt ⟨rfl, rfl⟩ rfl (fun c1 => ?_) (fun c1 => ?_)
  · skip
    refine zw_const ⟨rfl, rfl⟩ ?_
    refine zw_ret rfl ?_
    rw [show yL σ p = (-1) from by have h2 := hS.2.2 p; grind [yL]] at k
    exact k
  · skip
    refine zw_iload ⟨rfl, rfl⟩ rfl ?_
    refine zw_aload ⟨rfl, rfl⟩ rfl ?_
    refine zw_getIv (v := σ 0) ⟨rfl, rfl⟩ zc_2 (by decide) (hS.2.1) ?_
    refine zw_icge ⟨rfl, rfl⟩ rfl (fun c2 => ?_) (fun c2 => ?_)
    · skip
      refine zw_const ⟨rfl, rfl⟩ ?_
      refine zw_ret rfl ?_
      rw [show yL σ p = (-1) from by have h2 := hS.2.2 p; grind [yL]] at k
      exact k
    · skip
      refine zw_aload ⟨rfl, rfl⟩ rfl ?_
      refine zw_getR 8 ⟨rfl, rfl⟩ zr_2_1 ?_
      refine zw_iload ⟨rfl, rfl⟩ rfl ?_
      refine zw_ialdv (v := M 8 p) ⟨rfl, rfl⟩ za_8 (by omega) rfl ?_
      refine zw_goto ⟨rfl, rfl⟩ rfl ?_
      refine zw_ret rfl ?_
      rw [show yL σ p = M 8 p from by have h2 := hS.2.2 p; grind [yL]] at k
      exact k

theorem m_lettersTold_l {σ : yS} {M : zM} {Q : zV → zM → Prop} (hS : ySc (M 3) (M 4) (M 5) (M 6) (M 7) σ) (k : Q (0, ylt σ) M) : ∀ (f : Nat) (a l : Int), (0 ≤ l ∧ l ≤ 26) → (a = yct (M 4) l.toNat) → (26 - l).toNat < f → zWp kSc_lettersTold 4 [(1, 3), (0, a), (0, l)] [] M Q := by
  intro f
  induction f with
  | zero => intro a l h1 h2 hf; exact absurd hf (Nat.not_lt_zero _)
  | succ f ih =>
    intro a l h1 h2 hf
    refine zw_iload ⟨rfl, rfl⟩ rfl ?_
    refine zw_const ⟨rfl, rfl⟩ ?_
    refine zw_icge ⟨rfl, rfl⟩ rfl (fun c1 => ?_) (fun c1 => ?_)
    · skip
      refine zw_iload ⟨rfl, rfl⟩ rfl ?_
      refine zw_ret rfl ?_
      rw [show ylt σ = a from by rw [h2, show l.toNat = 26 by omega]; exact (yct_cg (fun l q1 q2 => hS.1 l q1 (by omega))).symm] at k
      exact k
    · skip
      refine zw_iload ⟨rfl, rfl⟩ rfl ?_
      refine zw_aload ⟨rfl, rfl⟩ rfl ?_
      refine zw_getR 4 ⟨rfl, rfl⟩ zr_3_0 ?_
      refine zw_iload ⟨rfl, rfl⟩ rfl ?_
      refine zw_ialdv (v := M 4 l) ⟨rfl, rfl⟩ za_4 (by omega) rfl ?_
      refine zw_ifeq ⟨rfl, rfl⟩ rfl (fun c2 => ?_) (fun c2 => ?_)
      · skip
        refine zw_const ⟨rfl, rfl⟩ ?_
        refine zw_iadd ⟨rfl, rfl⟩ (by have := yct_rng (M 4) l.toNat; omega) ?_
        refine zw_istore_1 ⟨rfl, rfl⟩ ?_
        refine zw_iinc_2 ⟨rfl, rfl⟩ (by omega) ?_
        refine zw_goto ⟨rfl, rfl⟩ rfl ?_
        refine ih _ _ ?_ ?_ ?_
        · omega
        · rw [yct_s (M 4) h1.1, h2]; grind
        · omega
      · skip
        refine zw_const ⟨rfl, rfl⟩ ?_
        refine zw_goto ⟨rfl, rfl⟩ rfl ?_
        refine zw_iadd ⟨rfl, rfl⟩ (by have := yct_rng (M 4) l.toNat; omega) ?_
        refine zw_istore_1 ⟨rfl, rfl⟩ ?_
        refine zw_iinc_2 ⟨rfl, rfl⟩ (by omega) ?_
        refine zw_goto ⟨rfl, rfl⟩ rfl ?_
        refine ih _ _ ?_ ?_ ?_
        · omega
        · rw [yct_s (M 4) h1.1, h2]; grind
        · omega

theorem m_lettersTold {M : zM} {Q : zV → zM → Prop} {σ : yS} (hS : ySc (M 3) (M 4) (M 5) (M 6) (M 7) σ) (k : Q (0, ylt σ) M) : zWp kSc_lettersTold 0 [(1, 3), (3, 0), (3, 0)] [] M Q := by
  refine zw_const ⟨rfl, rfl⟩ ?_
  refine zw_istore_1 ⟨rfl, rfl⟩ ?_
  refine zw_const ⟨rfl, rfl⟩ ?_
  refine zw_istore_2 ⟨rfl, rfl⟩ ?_
  exact m_lettersTold_l hS k _ _ _ (by omega) rfl (Nat.lt_succ_self _)

theorem m_become_1_l  {Q : zV → zM → Prop} {n z : Int} {M : zM} (hn : 0 ≤ n ∧ n ≤ 60) (hr : ∀ p, 0 ≤ p → p < n → -2147483648 ≤ M 1 p - z ∧ M 1 p - z ≤ 2147483647) (k : ∀ N : zM, (N = fun b j => if b = 8 ∧ 0 ≤ j ∧ j < n then M 1 j - z else if b = 2 ∧ j = 2 then n else M b j) → Q (3, 0) N) : ∀ (f : Nat) (p : Int) (N : zM), (0 ≤ p ∧ p ≤ n) → (N 2 2 = p) → (∀ b j, ¬ (b = 8 ∧ 0 ≤ j ∧ j < p) → ¬ (b = 2 ∧ j = 2) → N b j = M b j) → (∀ j, 0 ≤ j → j < p → N 8 j = M 1 j - z) → (n - p).toNat < f → zWp kSt_become 5 [(1, 2), (1, 1), (0, n), (0, z), (0, p)] [] N Q := by
  intro f
  induction f with
  | zero => intro p N h1 h2 h3 h4 hf; exact absurd hf (Nat.not_lt_zero _)
  | succ f ih =>
    intro p N h1 h2 h3 h4 hf
    refine zw_iload ⟨rfl, rfl⟩ rfl ?_
    refine zw_iload ⟨rfl, rfl⟩ rfl ?_
    refine zw_icge ⟨rfl, rfl⟩ rfl (fun c1 => ?_) (fun c1 => ?_)
    · skip
      refine zw_void rfl ?_
      refine k _ ?_
      have hpn : p = n := by omega
      subst hpn
      funext b j
      by_cases q1 : b = 8 ∧ 0 ≤ j ∧ j < p
      · rw [if_pos q1, q1.1]; exact h4 j q1.2.1 q1.2.2
      · rw [if_neg q1]
        by_cases q2 : b = 2 ∧ j = 2
        · rw [if_pos q2, q2.1, q2.2]; exact h2
        · rw [if_neg q2]; exact h3 b j q1 q2
    · skip
      refine zw_iload ⟨rfl, rfl⟩ rfl ?_
      refine zw_const ⟨rfl, rfl⟩ ?_
      refine zw_icge ⟨rfl, rfl⟩ rfl (fun c2 => ?_) (fun c2 => ?_)
      · skip
        refine zw_void rfl ?_
        refine k _ ?_
        have hpn : p = n := by omega
        subst hpn
        funext b j
        by_cases q1 : b = 8 ∧ 0 ≤ j ∧ j < p
        · rw [if_pos q1, q1.1]; exact h4 j q1.2.1 q1.2.2
        · rw [if_neg q1]
          by_cases q2 : b = 2 ∧ j = 2
          · rw [if_pos q2, q2.1, q2.2]; exact h2
          · rw [if_neg q2]; exact h3 b j q1 q2
      · skip
        refine zw_iload ⟨rfl, rfl⟩ rfl ?_
        refine zw_aload ⟨rfl, rfl⟩ rfl ?_
        refine zw_alen ⟨rfl, rfl⟩ za_1 ?_
        skip
        refine zw_icge ⟨rfl, rfl⟩ rfl (fun c3 => ?_) (fun c3 => ?_)
        · skip
          refine zw_void rfl ?_
          refine k _ ?_
          have hpn : p = n := by omega
          subst hpn
          funext b j
          by_cases q1 : b = 8 ∧ 0 ≤ j ∧ j < p
          · rw [if_pos q1, q1.1]; exact h4 j q1.2.1 q1.2.2
          · rw [if_neg q1]
            by_cases q2 : b = 2 ∧ j = 2
            · rw [if_pos q2, q2.1, q2.2]; exact h2
            · rw [if_neg q2]; exact h3 b j q1 q2
        · skip
          refine zw_aload ⟨rfl, rfl⟩ rfl ?_
          refine zw_getR 8 ⟨rfl, rfl⟩ zr_2_1 ?_
          refine zw_iload ⟨rfl, rfl⟩ rfl ?_
          refine zw_aload ⟨rfl, rfl⟩ rfl ?_
          refine zw_iload ⟨rfl, rfl⟩ rfl ?_
          refine zw_ialdv (v := M 1 p) ⟨rfl, rfl⟩ za_1 (by omega) (h3 1 p (by omega) (by omega)) ?_
          refine zw_iload ⟨rfl, rfl⟩ rfl ?_
          refine zw_isub ⟨rfl, rfl⟩ (by have := hr p h1.1 (by omega); omega) ?_
          refine zw_iast ⟨rfl, rfl⟩ za_8 (by omega) ?_
          refine zw_aload ⟨rfl, rfl⟩ rfl ?_
          refine zw_dup ⟨rfl, rfl⟩ (by decide) ?_
          refine zw_getIv (v := p) ⟨rfl, rfl⟩ zc_2 (by decide) ((zup_na (by decide)).trans (h2)) ?_
          refine zw_const ⟨rfl, rfl⟩ ?_
          refine zw_iadd ⟨rfl, rfl⟩ (by omega) ?_
          refine zw_putI ⟨rfl, rfl⟩ zc_2 (by decide) (fun h => absurd h (by decide)) ?_
          refine zw_iinc_4 ⟨rfl, rfl⟩ (by omega) ?_
          refine zw_goto ⟨rfl, rfl⟩ rfl ?_
          refine ih _ _ ?_ ?_ ?_ ?_ ?_
          · omega
          · exact zup_eq _ _ _ _
          · intro b j q1 q2; rw [zup_ne (by omega), zup_ne (by omega)]; exact h3 b j (by omega) q2
          · intro j q1 q2; by_cases hj : j = p
            · subst hj; rw [zup_na (by decide), zup_eq]
            · rw [zup_na (by decide), zup_ni hj]; exact h4 j q1 (by omega)
          · omega

theorem m_become_1 {n z : Int} {M : zM} {Q : zV → zM → Prop} (hn : 0 ≤ n ∧ n ≤ 60) (hr : ∀ p, 0 ≤ p → p < n → -2147483648 ≤ M 1 p - z ∧ M 1 p - z ≤ 2147483647) (k : ∀ N : zM, (N = fun b j => if b = 8 ∧ 0 ≤ j ∧ j < n then M 1 j - z else if b = 2 ∧ j = 2 then n else M b j) → Q (3, 0) N) : zWp kSt_become 0 [(1, 2), (1, 1), (0, n), (0, z), (3, 0)] [] M Q := by
  refine zw_aload ⟨rfl, rfl⟩ rfl ?_
  refine zw_const ⟨rfl, rfl⟩ ?_
  refine zw_putI ⟨rfl, rfl⟩ zc_2 (by decide) (fun h => absurd h (by decide)) ?_
  refine zw_const ⟨rfl, rfl⟩ ?_
  refine zw_istore_4 ⟨rfl, rfl⟩ ?_
  refine m_become_1_l hn hr k _ _ _ (by omega) (zup_eq _ _ _ _) ?_ (fun j q1 q2 => by omega) (Nat.lt_succ_self _)
  intro b j q1 q2
  exact zup_ne (by omega)

theorem m_become_139_l  {Q : zV → zM → Prop} {n z : Int} {M : zM} (hn : 0 ≤ n ∧ n ≤ 60) (hr : ∀ p, 0 ≤ p → p < n → -2147483648 ≤ M 139 p - z ∧ M 139 p - z ≤ 2147483647) (k : ∀ N : zM, (N = fun b j => if b = 8 ∧ 0 ≤ j ∧ j < n then M 139 j - z else if b = 2 ∧ j = 2 then n else M b j) → Q (3, 0) N) : ∀ (f : Nat) (p : Int) (N : zM), (0 ≤ p ∧ p ≤ n) → (N 2 2 = p) → (∀ b j, ¬ (b = 8 ∧ 0 ≤ j ∧ j < p) → ¬ (b = 2 ∧ j = 2) → N b j = M b j) → (∀ j, 0 ≤ j → j < p → N 8 j = M 139 j - z) → (n - p).toNat < f → zWp kSt_become 5 [(1, 2), (1, 139), (0, n), (0, z), (0, p)] [] N Q := by
  intro f
  induction f with
  | zero => intro p N h1 h2 h3 h4 hf; exact absurd hf (Nat.not_lt_zero _)
  | succ f ih =>
    intro p N h1 h2 h3 h4 hf
    refine zw_iload ⟨rfl, rfl⟩ rfl ?_
    refine zw_iload ⟨rfl, rfl⟩ rfl ?_
    refine zw_icge ⟨rfl, rfl⟩ rfl (fun c1 => ?_) (fun c1 => ?_)
    · skip
      refine zw_void rfl ?_
      refine k _ ?_
      have hpn : p = n := by omega
      subst hpn
      funext b j
      by_cases q1 : b = 8 ∧ 0 ≤ j ∧ j < p
      · rw [if_pos q1, q1.1]; exact h4 j q1.2.1 q1.2.2
      · rw [if_neg q1]
        by_cases q2 : b = 2 ∧ j = 2
        · rw [if_pos q2, q2.1, q2.2]; exact h2
        · rw [if_neg q2]; exact h3 b j q1 q2
    · skip
      refine zw_iload ⟨rfl, rfl⟩ rfl ?_
      refine zw_const ⟨rfl, rfl⟩ ?_
      refine zw_icge ⟨rfl, rfl⟩ rfl (fun c2 => ?_) (fun c2 => ?_)
      · skip
        refine zw_void rfl ?_
        refine k _ ?_
        have hpn : p = n := by omega
        subst hpn
        funext b j
        by_cases q1 : b = 8 ∧ 0 ≤ j ∧ j < p
        · rw [if_pos q1, q1.1]; exact h4 j q1.2.1 q1.2.2
        · rw [if_neg q1]
          by_cases q2 : b = 2 ∧ j = 2
          · rw [if_pos q2, q2.1, q2.2]; exact h2
          · rw [if_neg q2]; exact h3 b j q1 q2
      · skip
        refine zw_iload ⟨rfl, rfl⟩ rfl ?_
        refine zw_aload ⟨rfl, rfl⟩ rfl ?_
        refine zw_alen ⟨rfl, rfl⟩ za_139 ?_
        skip
        refine zw_icge ⟨rfl, rfl⟩ rfl (fun c3 => ?_) (fun c3 => ?_)
        · skip
          refine zw_void rfl ?_
          refine k _ ?_
          have hpn : p = n := by omega
          subst hpn
          funext b j
          by_cases q1 : b = 8 ∧ 0 ≤ j ∧ j < p
          · rw [if_pos q1, q1.1]; exact h4 j q1.2.1 q1.2.2
          · rw [if_neg q1]
            by_cases q2 : b = 2 ∧ j = 2
            · rw [if_pos q2, q2.1, q2.2]; exact h2
            · rw [if_neg q2]; exact h3 b j q1 q2
        · skip
          refine zw_aload ⟨rfl, rfl⟩ rfl ?_
          refine zw_getR 8 ⟨rfl, rfl⟩ zr_2_1 ?_
          refine zw_iload ⟨rfl, rfl⟩ rfl ?_
          refine zw_aload ⟨rfl, rfl⟩ rfl ?_
          refine zw_iload ⟨rfl, rfl⟩ rfl ?_
          refine zw_ialdv (v := M 139 p) ⟨rfl, rfl⟩ za_139 (by omega) (h3 139 p (by omega) (by omega)) ?_
          refine zw_iload ⟨rfl, rfl⟩ rfl ?_
          refine zw_isub ⟨rfl, rfl⟩ (by have := hr p h1.1 (by omega); omega) ?_
          refine zw_iast ⟨rfl, rfl⟩ za_8 (by omega) ?_
          refine zw_aload ⟨rfl, rfl⟩ rfl ?_
          refine zw_dup ⟨rfl, rfl⟩ (by decide) ?_
          refine zw_getIv (v := p) ⟨rfl, rfl⟩ zc_2 (by decide) ((zup_na (by decide)).trans (h2)) ?_
          refine zw_const ⟨rfl, rfl⟩ ?_
          refine zw_iadd ⟨rfl, rfl⟩ (by omega) ?_
          refine zw_putI ⟨rfl, rfl⟩ zc_2 (by decide) (fun h => absurd h (by decide)) ?_
          refine zw_iinc_4 ⟨rfl, rfl⟩ (by omega) ?_
          refine zw_goto ⟨rfl, rfl⟩ rfl ?_
          refine ih _ _ ?_ ?_ ?_ ?_ ?_
          · omega
          · exact zup_eq _ _ _ _
          · intro b j q1 q2; rw [zup_ne (by omega), zup_ne (by omega)]; exact h3 b j (by omega) q2
          · intro j q1 q2; by_cases hj : j = p
            · subst hj; rw [zup_na (by decide), zup_eq]
            · rw [zup_na (by decide), zup_ni hj]; exact h4 j q1 (by omega)
          · omega

theorem m_become_139 {n z : Int} {M : zM} {Q : zV → zM → Prop} (hn : 0 ≤ n ∧ n ≤ 60) (hr : ∀ p, 0 ≤ p → p < n → -2147483648 ≤ M 139 p - z ∧ M 139 p - z ≤ 2147483647) (k : ∀ N : zM, (N = fun b j => if b = 8 ∧ 0 ≤ j ∧ j < n then M 139 j - z else if b = 2 ∧ j = 2 then n else M b j) → Q (3, 0) N) : zWp kSt_become 0 [(1, 2), (1, 139), (0, n), (0, z), (3, 0)] [] M Q := by
  refine zw_aload ⟨rfl, rfl⟩ rfl ?_
  refine zw_const ⟨rfl, rfl⟩ ?_
  refine zw_putI ⟨rfl, rfl⟩ zc_2 (by decide) (fun h => absurd h (by decide)) ?_
  refine zw_const ⟨rfl, rfl⟩ ?_
  refine zw_istore_4 ⟨rfl, rfl⟩ ?_
  refine m_become_139_l hn hr k _ _ _ (by omega) (zup_eq _ _ _ _) ?_ (fun j q1 q2 => by omega) (Nat.lt_succ_self _)
  intro b j q1 q2
  exact zup_ne (by omega)

theorem m_putIn_l {p x : Int} {M : zM} {Q : zV → zM → Prop} (hn : 0 ≤ p ∧ p ≤ M 2 2 ∧ M 2 2 < 60) (k : ∀ N : zM, (N = fun b j => if b = 8 ∧ p < j ∧ j ≤ M 2 2 then M 8 (j - 1) else if b = 8 ∧ j = p then x else if b = 2 ∧ j = 2 then M 2 2 + 1 else M b j) → Q (3, 0) N) : ∀ (f : Nat) (q : Int) (N : zM), (p ≤ q ∧ q ≤ M 2 2) → (∀ j, q < j → j ≤ M 2 2 → N 8 j = M 8 (j - 1)) → (∀ b j, ¬ (b = 8 ∧ q < j ∧ j ≤ M 2 2) → N b j = M b j) → (q - p).toNat < f → zWp kSt_putIn 14 [(1, 2), (0, p), (0, x), (0, q)] [] N Q := by
  intro f
  induction f with
  | zero => intro q N h1 h2 h3 hf; exact absurd hf (Nat.not_lt_zero _)
  | succ f ih =>
    intro q N h1 h2 h3 hf
    refine zw_iload ⟨rfl, rfl⟩ rfl ?_
    refine zw_iload ⟨rfl, rfl⟩ rfl ?_
    refine zw_icle ⟨rfl, rfl⟩ rfl (fun c1 => ?_) (fun c1 => ?_)
    · skip
      refine zw_aload ⟨rfl, rfl⟩ rfl ?_
      refine zw_getR 8 ⟨rfl, rfl⟩ zr_2_1 ?_
      refine zw_iload ⟨rfl, rfl⟩ rfl ?_
      refine zw_iload ⟨rfl, rfl⟩ rfl ?_
      refine zw_iast ⟨rfl, rfl⟩ za_8 (by omega) ?_
      refine zw_aload ⟨rfl, rfl⟩ rfl ?_
      refine zw_dup ⟨rfl, rfl⟩ (by decide) ?_
      refine zw_getIv (v := M 2 2) ⟨rfl, rfl⟩ zc_2 (by decide) ((zup_na (by decide)).trans (h3 2 2 (by omega))) ?_
      refine zw_const ⟨rfl, rfl⟩ ?_
      refine zw_iadd ⟨rfl, rfl⟩ (by omega) ?_
      refine zw_putI ⟨rfl, rfl⟩ zc_2 (by decide) (fun h => absurd h (by decide)) ?_
      refine zw_void rfl ?_
      refine k _ ?_
      have hq : q = p := by omega
      subst hq
      funext b j
      grind [zup]
    · skip
      refine zw_aload ⟨rfl, rfl⟩ rfl ?_
      refine zw_getR 8 ⟨rfl, rfl⟩ zr_2_1 ?_
      refine zw_iload ⟨rfl, rfl⟩ rfl ?_
      refine zw_aload ⟨rfl, rfl⟩ rfl ?_
      refine zw_getR 8 ⟨rfl, rfl⟩ zr_2_1 ?_
      refine zw_iload ⟨rfl, rfl⟩ rfl ?_
      refine zw_const ⟨rfl, rfl⟩ ?_
      refine zw_isub ⟨rfl, rfl⟩ (by omega) ?_
      refine zw_ialdv (v := N 8 (q - 1)) ⟨rfl, rfl⟩ za_8 (by omega) rfl ?_
      refine zw_iast ⟨rfl, rfl⟩ za_8 (by omega) ?_
      refine zw_iinc_3 ⟨rfl, rfl⟩ (by omega) ?_
      refine zw_goto ⟨rfl, rfl⟩ rfl ?_
      refine ih _ _ ?_ ?_ ?_ ?_
      · omega
      · intro j q1 q2; by_cases hj : j = q
        · subst hj; rw [zup_eq]; exact h3 8 _ (by omega)
        · rw [zup_ni hj]; exact h2 j (by omega) q2
      · intro b j q1; rw [zup_ne (by omega)]; exact h3 b j (by omega)
      · omega

theorem m_putIn {p x : Int} {M : zM} {Q : zV → zM → Prop} (hn : 0 ≤ p ∧ p ≤ M 2 2 ∧ M 2 2 < 60) (k : ∀ N : zM, (N = fun b j => if b = 8 ∧ p < j ∧ j ≤ M 2 2 then M 8 (j - 1) else if b = 8 ∧ j = p then x else if b = 2 ∧ j = 2 then M 2 2 + 1 else M b j) → Q (3, 0) N) : zWp kSt_putIn 0 [(1, 2), (0, p), (0, x), (3, 0)] [] M Q := by
  refine zw_aload ⟨rfl, rfl⟩ rfl ?_
  refine zw_getIv (v := M 2 2) ⟨rfl, rfl⟩ zc_2 (by decide) rfl ?_
  refine zw_const ⟨rfl, rfl⟩ ?_
  refine zw_icge ⟨rfl, rfl⟩ rfl (fun q => absurd q (by omega)) (fun _ => ?_)
  refine zw_iload ⟨rfl, rfl⟩ rfl ?_
  refine zw_iflt ⟨rfl, rfl⟩ rfl (fun q => absurd q (by omega)) (fun _ => ?_)
  refine zw_iload ⟨rfl, rfl⟩ rfl ?_
  refine zw_aload ⟨rfl, rfl⟩ rfl ?_
  refine zw_getIv (v := M 2 2) ⟨rfl, rfl⟩ zc_2 (by decide) rfl ?_
  refine zw_icle ⟨rfl, rfl⟩ rfl (fun _ => ?_) (fun q => absurd (by omega) q)
  refine zw_aload ⟨rfl, rfl⟩ rfl ?_
  refine zw_getIv (v := M 2 2) ⟨rfl, rfl⟩ zc_2 (by decide) rfl ?_
  refine zw_istore_3 ⟨rfl, rfl⟩ ?_
  exact m_putIn_l hn k _ _ _ (by omega) (fun j q1 q2 => by omega) (fun _ _ _ => rfl) (Nat.lt_succ_self _)
end
section
/-! Where clusters begin: the automaton over a row of kinds K, -1 from n on -/
def yst (K : Int → Int) : Nat → Int
  | 0 => 0
  | p + 1 => ysb (yst K p) (K (p : Int))
def ynx (K : Int → Int) : Nat → Int → Int
  | 0, q => q
  | f + 1, q => if ygo (yst K q.toNat) (K q) = -1 then q else ynx K f (q + 1)
def yB0 (K : Int → Int) : Nat → Int
  | 0 => 0
  | c + 1 => ynx K 61 (yB0 K c + 1)
def ycn0 (K : Int → Int) : Nat → Int
  | 0 => 0
  | p + 1 => ycn0 K p + (if ygo (yst K p) (K (p : Int)) = -1 then 1 else 0)
/-- the automaton's state at a place, whether a cluster begins there, the c-th beginning, how many begin ahead of a place -/
def ysi (K : Int → Int) (p : Int) : Int := yst K p.toNat
def ybg (K : Int → Int) (p : Int) : Prop := ygo (ysi K p) (K p) = -1
def yB (K : Int → Int) (c : Int) : Int := yB0 K c.toNat
def yci (K : Int → Int) (p : Int) : Int := ycn0 K p.toNat
/-- a row of kinds -/
def yKr (K : Int → Int) (n : Int) : Prop := (0 ≤ n ∧ n ≤ 60) ∧ (∀ p, 0 ≤ p → p < n → 0 ≤ K p ∧ K p ≤ 13) ∧ ∀ p, ¬ (0 ≤ p ∧ p < n) → K p = -1
theorem ysi_0 (K : Int → Int) : ysi K 0 = 0 := rfl
theorem yci_0 (K : Int → Int) : yci K 0 = 0 := rfl
theorem yB_0 (K : Int → Int) : yB K 0 = 0 := rfl
theorem ysi_s (K : Int → Int) {p : Int} (h : 0 ≤ p) : ysi K (p + 1) = ysb (ysi K p) (K p) := by
  unfold ysi
  rw [show (p + 1).toNat = p.toNat + 1 by omega]
  show ysb (yst K p.toNat) (K (p.toNat : Int)) = _
  rw [show (p.toNat : Int) = p by omega]
theorem yci_s (K : Int → Int) {p : Int} (h : 0 ≤ p) : yci K (p + 1) = yci K p + (if ygo (ysi K p) (K p) = -1 then 1 else 0) := by
  unfold yci ysi
  rw [show (p + 1).toNat = p.toNat + 1 by omega]
  show ycn0 K p.toNat + (if ygo (yst K p.toNat) (K (p.toNat : Int)) = -1 then 1 else 0) = _
  rw [show (p.toNat : Int) = p by omega]
theorem yB_s (K : Int → Int) {c : Int} (h : 0 ≤ c) : yB K (c + 1) = ynx K 61 (yB K c + 1) := by
  unfold yB
  rw [show (c + 1).toNat = c.toNat + 1 by omega]
  rfl
theorem yci_b (K : Int → Int) {p : Int} (h : 0 ≤ p) (hb : ybg K p) : yci K (p + 1) = yci K p + 1 := by rw [yci_s K h, if_pos (show ygo (ysi K p) (K p) = -1 from hb)]
theorem yci_n (K : Int → Int) {p : Int} (h : 0 ≤ p) (hb : ¬ ybg K p) : yci K (p + 1) = yci K p := by rw [yci_s K h, if_neg (show ¬ (ygo (ysi K p) (K p) = -1) from hb)]; omega
theorem ygo_out {s k : Int} (h : k < 0) : ygo s k = -1 := by grind [ygo]
theorem ygo_0 (k : Int) : ygo 0 k = -1 := by grind [ygo]
theorem ybg_0 (K : Int → Int) : ybg K 0 := by unfold ybg; rw [ysi_0]; exact ygo_0 _
theorem ybg_n {K : Int → Int} {n p : Int} (hK : yKr K n) (h : n ≤ p) : ybg K p := by
  unfold ybg
  rw [hK.2.2 p (by omega)]
  exact ygo_out (by decide)
theorem ynx_sp {K : Int → Int} {n : Int} (hK : yKr K n) : ∀ (f : Nat) (q : Int), 0 ≤ q → q ≤ n + 1 → (n - q).toNat < f → (q ≤ ynx K f q ∧ (q ≤ n → ynx K f q ≤ n)) ∧ ybg K (ynx K f q) ∧ ∀ s, q ≤ s → s < ynx K f q → ¬ ybg K s := by
  intro f
  induction f with
  | zero => intro q h0 h1 hf; exact absurd hf (Nat.not_lt_zero _)
  | succ f ih =>
    intro q h0 h1 hf
    unfold ynx
    by_cases hb : ygo (yst K q.toNat) (K q) = -1
    · rw [if_pos hb]
      exact ⟨⟨Int.le_refl _, fun h => h⟩, hb, fun s a b => by omega⟩
    · rw [if_neg hb]
      have hq : q < n := by
        refine Int.not_le.mp (fun h => hb (ybg_n hK h))
      obtain ⟨⟨a1, a2⟩, a3, a4⟩ := ih (q + 1) (by omega) (by omega) (by omega)
      refine ⟨⟨by omega, fun _ => a2 (by omega)⟩, a3, fun s b1 b2 => ?_⟩
      by_cases hs : s = q
      · subst hs; exact hb
      · exact a4 s (by omega) b2
theorem yci_nn (K : Int → Int) (p : Int) : 0 ≤ yci K p := by
  by_cases h : 0 ≤ p
  · have : ∀ k : Nat, 0 ≤ ycn0 K k := by
      intro k
      induction k with
      | zero => exact Int.le_refl _
      | succ k ih => unfold ycn0; split <;> omega
    exact this _
  · unfold yci; rw [show p.toNat = 0 by omega]; exact Int.le_refl _
/-- the first beginning at or behind p is the (how many are ahead of p)-th -/
theorem yB_at {K : Int → Int} {n : Int} (hK : yKr K n) : ∀ (k : Nat), (k : Int) ≤ n → ((k : Int) ≤ yB K (yci K k) ∧ yB K (yci K k) ≤ n) ∧ ybg K (yB K (yci K k)) ∧ ∀ s, (k : Int) ≤ s → s < yB K (yci K k) → ¬ ybg K s := by
  intro k
  induction k with
  | zero =>
    intro _
    rw [show ((0 : Nat) : Int) = 0 from rfl, yci_0, yB_0]
    exact ⟨⟨Int.le_refl _, hK.1.1⟩, ybg_0 K, fun s a b => by omega⟩
  | succ k ih =>
    intro hk
    obtain ⟨⟨a1, a2⟩, a3, a4⟩ := ih (by omega)
    rw [show ((k + 1 : Nat) : Int) = (k : Int) + 1 by omega]
    by_cases hb : ybg K k
    · have e : yB K (yci K k) = k := by
        by_cases h : (k : Int) = yB K (yci K k)
        · exact h.symm
        · exact absurd hb (a4 k (Int.le_refl _) (by omega))
      rw [yci_b K (by omega) hb, yB_s K (yci_nn K _), e]
      obtain ⟨⟨b1, b2⟩, b3, b4⟩ := ynx_sp hK 61 ((k : Int) + 1) (by omega) (by omega) (by have := hK.1; omega)
      exact ⟨⟨b1, b2 (by omega)⟩, b3, b4⟩
    · rw [yci_n K (by omega) hb]
      have hne : (k : Int) ≠ yB K (yci K k) := fun z => hb (by rw [z]; exact a3)
      exact ⟨⟨by omega, a2⟩, a3, fun s b1 b2 => a4 s (by omega) b2⟩
theorem yB_i {K : Int → Int} {n p : Int} (hK : yKr K n) (h0 : 0 ≤ p) (h1 : p ≤ n) : (p ≤ yB K (yci K p) ∧ yB K (yci K p) ≤ n) ∧ ybg K (yB K (yci K p)) ∧ ∀ s, p ≤ s → s < yB K (yci K p) → ¬ ybg K s := by
  have := yB_at hK p.toNat (by omega)
  rw [show (p.toNat : Int) = p by omega] at this
  exact this
theorem yB_eq {K : Int → Int} {n p : Int} (hK : yKr K n) (h0 : 0 ≤ p) (h1 : p ≤ n) (hb : ybg K p) : yB K (yci K p) = p := by
  obtain ⟨⟨a1, -⟩, -, a3⟩ := yB_i hK h0 h1
  by_cases h : p = yB K (yci K p)
  · exact h.symm
  · exact absurd hb (a3 p (Int.le_refl _) (by omega))
theorem yB_n {K : Int → Int} {n : Int} (hK : yKr K n) : yB K (yci K n) = n := yB_eq hK hK.1.1 (Int.le_refl _) (ybg_n hK (Int.le_refl _))
theorem yB_lt {K : Int → Int} {n : Int} (hK : yKr K n) : ∀ (k : Nat), (k : Int) ≤ n → ∀ c, 0 ≤ c → c < yci K k → yB K c < k := by
  intro k
  induction k with
  | zero => intro _ c h0 h1; rw [show ((0 : Nat) : Int) = 0 from rfl, yci_0] at h1; omega
  | succ k ih =>
    intro hk c h0 h1
    rw [show ((k + 1 : Nat) : Int) = (k : Int) + 1 by omega] at h1 ⊢
    by_cases hb : ybg K k
    · rw [yci_b K (by omega) hb] at h1
      by_cases hc : c = yci K k
      · rw [hc, yB_eq hK (by omega) (by omega) hb]; omega
      · have := ih (by omega) c h0 (by omega); omega
    · rw [yci_n K (by omega) hb] at h1
      have := ih (by omega) c h0 h1; omega
theorem yB_l {K : Int → Int} {n p c : Int} (hK : yKr K n) (hp : 0 ≤ p) (h1 : p ≤ n) (hc : 0 ≤ c) (h : c < yci K p) : yB K c < p := by
  have := yB_lt hK p.toNat (by omega) c hc
  rw [show (p.toNat : Int) = p by omega] at this
  exact this h
/-- the c-th cluster: from b to e -/
theorem yB_cl {K : Int → Int} {n c : Int} (hK : yKr K n) (hc : 0 ≤ c) (h : c < yci K n) : (0 ≤ yB K c ∧ yB K c < yB K (c + 1) ∧ yB K (c + 1) ≤ n) ∧ ybg K (yB K c) ∧ ybg K (yB K (c + 1)) ∧ ∀ s, yB K c < s → s < yB K (c + 1) → ¬ ybg K s := by
  have h1 : ∀ k : Nat, (k : Int) < yci K n → (0 ≤ yB K k ∧ ybg K (yB K k)) ∧ yB K k < n := by
    intro k
    induction k with
    | zero =>
      intro h
      exact ⟨⟨Int.le_refl _, ybg_0 K⟩, yB_l hK hK.1.1 (Int.le_refl _) (Int.le_refl _) h⟩
    | succ k ih =>
      intro h
      obtain ⟨⟨a1, a2⟩, a3⟩ := ih (by omega)
      obtain ⟨⟨b1, b2⟩, b3, b4⟩ := ynx_sp hK 61 (yB K k + 1) (by omega) (by omega) (by have := hK.1; omega)
      have e : yB K ((k + 1 : Nat) : Int) = ynx K 61 (yB K k + 1) := by rw [show ((k + 1 : Nat) : Int) = (k : Int) + 1 by omega]; exact yB_s K (by omega)
      rw [e]
      exact ⟨⟨by omega, b3⟩, by rw [← e]; exact yB_l hK hK.1.1 (Int.le_refl _) (by omega) h⟩
  obtain ⟨⟨a1, a2⟩, a3⟩ := h1 c.toNat (by omega)
  rw [show (c.toNat : Int) = c by omega] at a1 a2 a3
  obtain ⟨⟨b1, b2⟩, b3, b4⟩ := ynx_sp hK 61 (yB K c + 1) (by omega) (by omega) (by have := hK.1; omega)
  rw [yB_s K hc]
  exact ⟨⟨a1, by omega, b2 (by omega)⟩, a2, b3, fun s c1 c2 => b4 s (by omega) c2⟩
/-- the state behind a cluster's first letter, and on -/
theorem ysi_b (K : Int → Int) {p : Int} (h : 0 ≤ p) (hb : ybg K p) : ysi K (p + 1) = yfs (K p) := by
  rw [ysi_s K h]; unfold ysb; exact if_pos hb
theorem ysi_n (K : Int → Int) {p : Int} (h : 0 ≤ p) (hb : ¬ ybg K p) : ysi K (p + 1) = ygo (ysi K p) (K p) := by
  rw [ysi_s K h]; unfold ysb; exact if_neg hb
theorem yci_mo (K : Int → Int) {p q : Int} (h0 : 0 ≤ p) (h : p ≤ q) : yci K p ≤ yci K q ∧ yci K q ≤ yci K p + (q - p) := by
  have : ∀ k : Nat, yci K p ≤ yci K (p + k) ∧ yci K (p + k) ≤ yci K p + k := by
    intro k
    induction k with
    | zero => simp
    | succ k ih =>
      rw [show p + ((k + 1 : Nat) : Int) = (p + k) + 1 by omega, yci_s K (by omega)]
      split <;> omega
  have := this (q - p).toNat
  rw [show p + ((q - p).toNat : Int) = q by omega] at this
  omega
theorem yci_in (K : Int → Int) {b q : Int} (h0 : 0 ≤ b) (hb : ybg K b) (hs : ∀ s, b < s → s < q → ¬ ybg K s) (h : b < q) : yci K q = yci K b + 1 := by
  have : ∀ k : Nat, b + 1 + k ≤ q → yci K (b + 1 + k) = yci K b + 1 := by
    intro k
    induction k with
    | zero => intro _; rw [show b + 1 + ((0 : Nat) : Int) = b + 1 by omega]; exact yci_b K h0 hb
    | succ k ih =>
      intro hk
      rw [show b + 1 + ((k + 1 : Nat) : Int) = (b + 1 + k) + 1 by omega, yci_n K (by omega) (hs _ (by omega) (by omega))]
      exact ih (by omega)
  have := this (q - b - 1).toNat (by omega)
  rw [show b + 1 + ((q - b - 1).toNat : Int) = q by omega] at this
  exact this
theorem yKr_K {σ : yS} (h : yVal σ) : yKr (yK σ) (σ 0) := by
  obtain ⟨h0, h1, h2, h3, h4, h5⟩ := h
  refine ⟨h0, fun p a b => ?_, fun p a => ?_⟩
  · unfold yK
    rw [if_pos ⟨a, b⟩]
    have := h5 p a b
    exact (h2 _ this.1 this.2).1
  · unfold yK
    rw [if_neg a]
theorem ykd_L {σ : yS} (h : yVal σ) {p : Int} (h0 : 0 ≤ p) (h1 : p < σ 0) : ykd σ (yL σ p) = yK σ p := by
  have := h.2.2.2.2.2 p h0 h1
  have e : yL σ p = σ (122 + p) := if_pos ⟨h0, h1⟩
  unfold ykd
  rw [e, if_pos this]
  exact (if_pos ⟨h0, h1⟩).symm

theorem yci_B {K : Int → Int} {n : Int} (hK : yKr K n) : ∀ (k : Nat), (k : Int) ≤ yci K n → yci K (yB K k) = k := by
  intro k
  induction k with
  | zero => intro _; rfl
  | succ k ih =>
    intro h
    obtain ⟨⟨a1, a2, a3⟩, a4, a5, a6⟩ := yB_cl hK (c := (k : Int)) (by omega) (by omega)
    rw [show ((k + 1 : Nat) : Int) = (k : Int) + 1 by omega, yci_in K a1 a4 a6 a2, ih (by omega)]
theorem yci_Bi {K : Int → Int} {n i : Int} (hK : yKr K n) (h0 : 0 ≤ i) (h1 : i ≤ yci K n) : yci K (yB K i) = i := by
  have := yci_B hK i.toNat (by omega)
  rw [show (i.toNat : Int) = i by omega] at this
  exact this
theorem yB_r {K : Int → Int} {n i : Int} (hK : yKr K n) (h0 : 0 ≤ i) (h1 : i ≤ yci K n) : (0 ≤ yB K i ∧ yB K i ≤ n) ∧ ybg K (yB K i) := by
  by_cases h : i = yci K n
  · rw [h, yB_n hK]
    exact ⟨⟨hK.1.1, Int.le_refl _⟩, ybg_n hK (Int.le_refl _)⟩
  · obtain ⟨⟨a1, a2, a3⟩, a4, -⟩ := yB_cl hK h0 (show i < yci K n by omega)
    exact ⟨⟨a1, by omega⟩, a4⟩
/-- a stop's number; none -/
def ysa (K : Int → Int) (n p : Int) : Int := if (0 ≤ p ∧ p ≤ n) ∧ ygo (ysi K p) (K p) = -1 then yci K p else -1
theorem yB_iff {K : Int → Int} {n i p : Int} (hK : yKr K n) (h0 : 0 ≤ i) (h1 : i ≤ yci K n) (h : yB K i = p) : ysa K n p = i := by
  obtain ⟨a1, a2⟩ := yB_r hK h0 h1
  subst h
  unfold ysa
  rw [if_pos ⟨a1, a2⟩]
  exact yci_Bi hK h0 h1
theorem ysa_B {K : Int → Int} {n p : Int} (hK : yKr K n) (h : ysa K n p ≠ -1) : (0 ≤ ysa K n p ∧ ysa K n p ≤ yci K n) ∧ yB K (ysa K n p) = p := by
  unfold ysa at h ⊢
  split
  · rename_i q
    obtain ⟨⟨q1, q2⟩, q3⟩ := q
    exact ⟨⟨yci_nn K p, (yci_mo K q1 q2).1⟩, yB_eq hK q1 q2 q3⟩
  · rename_i q
    rw [if_neg q] at h
    exact absurd rfl h
theorem yB_mo {K : Int → Int} {n i j : Int} (hK : yKr K n) (h0 : 0 ≤ i) (h : i < j) (h1 : j ≤ yci K n) : yB K i < yB K j := by
  have a := yci_Bi hK h0 (show i ≤ yci K n by omega)
  have b := yci_Bi hK (show 0 ≤ j by omega) h1
  by_cases q : yB K j ≤ yB K i
  · have := (yci_mo K (yB_r hK (show 0 ≤ j by omega) h1).1.1 q).1
    omega
  · omega
/-- the next stop above a place, the next one below it -/
def ysu (K : Int → Int) (n p : Int) : Int := if p < n then yB K (yci K (p + 1)) else -1
def ysd (K : Int → Int) (p : Int) : Int := if 0 < p then yB K (yci K p - 1) else -1
theorem yB_gt {K : Int → Int} {n p i : Int} (hK : yKr K n) (hp : 0 ≤ p ∧ p ≤ n) (h0 : 0 ≤ i) (h1 : i ≤ yci K n) : p < yB K i ↔ yci K (p + 1) ≤ i ∧ p < n := by
  have a := yci_Bi hK h0 h1
  have r := yB_r hK h0 h1
  constructor
  · intro h
    have := (yci_mo K (show 0 ≤ p + 1 by omega) (show p + 1 ≤ yB K i by omega)).1
    exact ⟨by omega, by omega⟩
  · intro h
    by_cases q : yB K i ≤ p
    · have h2 := yci_b K r.1.1 r.2
      skip
      have := (yci_mo K (show 0 ≤ yB K i + 1 by omega) (show yB K i + 1 ≤ p + 1 by omega)).1
      omega
    · omega
/-- broken ones counted, with a kind put in at a place -/
def ybs (K : Int → Int) (a k : Int) : Nat → Int × Int
  | 0 => (0, 0)
  | p + 1 => if (p : Int) = a then (ysb (ysb (ybs K a k p).1 k) (K (p : Int)), (ybs K a k p).2 + ybr (ybs K a k p).1 k + ybr (ysb (ybs K a k p).1 k) (K (p : Int))) else (ysb (ybs K a k p).1 (K (p : Int)), (ybs K a k p).2 + ybr (ybs K a k p).1 (K (p : Int)))
def ybw (K : Int → Int) (n a k : Int) : Int := if n = a then (ybs K a k n.toNat).2 + ybr (ybs K a k n.toNat).1 k else (ybs K a k n.toNat).2
theorem ybs_s (K : Int → Int) (a k : Int) {p : Int} (h : 0 ≤ p) : ybs K a k (p + 1).toNat = if p = a then (ysb (ysb (ybs K a k p.toNat).1 k) (K p), (ybs K a k p.toNat).2 + ybr (ybs K a k p.toNat).1 k + ybr (ysb (ybs K a k p.toNat).1 k) (K p)) else (ysb (ybs K a k p.toNat).1 (K p), (ybs K a k p.toNat).2 + ybr (ybs K a k p.toNat).1 (K p)) := by
  rw [show (p + 1).toNat = p.toNat + 1 by omega]
  show (if (p.toNat : Int) = a then _ else _) = _
  rw [show (p.toNat : Int) = p by omega]
theorem ybr_rng (s k : Int) : 0 ≤ ybr s k ∧ ybr s k ≤ 1 := by unfold ybr; split <;> omega
theorem ybs_rng (K : Int → Int) (a k : Int) : ∀ p : Nat, 0 ≤ (ybs K a k p).2 ∧ (ybs K a k p).2 ≤ 2 * p := by
  intro p
  induction p with
  | zero => exact ⟨Int.le_refl _, Int.le_refl _⟩
  | succ p ih =>
    have h1 := ybr_rng (ybs K a k p).1 k
    have h2 := ybr_rng (ysb (ybs K a k p).1 k) (K p)
    have h3 := ybr_rng (ybs K a k p).1 (K p)
    unfold ybs
    split <;> dsimp only <;> omega
/-- the i-th of those that have a value -/
def ynth (f : Int → Int) (v i : Int) : Nat → Int → Int → Int
  | 0, _, _ => -1
  | k + 1, c, m => if f c = v then (if m = i then c else ynth f v i k (c + 1) (m + 1)) else ynth f v i k (c + 1) m
end
section
/-! The class' Cut -/
def yCut (M : zM) (K : Int → Int) (n : Int) : Prop := (M 105 0 = yci K n ∧ M 105 1 = n) ∧ (∀ p, 0 ≤ p → p < n → M 106 p = K p ∧ M 107 p = yci K (p + 1) - 1) ∧
  ∀ c, 0 ≤ c → c < yci K n → M 109 c = yB K c ∧ M 110 c = yB K (c + 1) - yB K c ∧ M 111 c = yso (K (yB K c))
theorem yCut.cg {M N : zM} {K : Int → Int} {n : Int} (h : yCut M K n) (e : ∀ b, 105 ≤ b → b ≤ 111 → N b = M b) : yCut N K n := by
  unfold yCut
  rw [e 105 (by decide) (by decide), e 106 (by decide) (by decide), e 107 (by decide) (by decide), e 109 (by decide) (by decide), e 110 (by decide) (by decide), e 111 (by decide) (by decide)]
  exact h
theorem za_fact {w : Int} (h : 0 ≤ w ∧ w < 11) : zar zS0 (109 + w) = some (1, 60) := by
  have : ∀ k : Nat, k < 11 → zar zS0 (109 + (k : Int)) = some (1, 60) := by decide
  have := this w.toNat (by omega)
  rw [show (w.toNat : Int) = w by omega] at this
  exact this
theorem yso_rng (k : Int) : 0 ≤ yso k ∧ yso k ≤ 3 := by grind [yso]
theorem yci_60 {K : Int → Int} {n : Int} (hK : yKr K n) : 0 ≤ yci K n ∧ yci K n ≤ n := by
  have := yci_mo K (Int.le_refl 0) hK.1.1
  rw [yci_0] at this
  omega
theorem m_kindOf_p {p : Int} {M : zM} {Q : zV → zM → Prop} {σ : yS} (hV : yVal σ) (h0 : 0 ≤ p) (h1 : p < σ 0) (hS : yTold M σ) (k : Q (0, yK σ p) M) : zWp kSc_kindOf 0 [(1, 3), (0, yL σ p)] [] M Q := by
  refine m_kindOf_3 hS.1 ?_
  rw [ykd_L hV h0 h1]
  exact k
theorem yTold.cg {M N : zM} {σ : yS} (h : yTold M σ) (e : ∀ b, 2 ≤ b → b ≤ 8 → N b = M b) : yTold N σ := yStA.cg (a := 2) h (fun b h1 h2 => e b h1 (by omega))

section
set_option maxHeartbeats 4000000
theorem m_split_l {σ : yS} {M : zM} {Q : zV → zM → Prop} (hV : yVal σ) (hS : yTold M σ) (k : ∀ N : zM, (yCut N (yK σ) (σ 0) ∧ ∀ b, ¬ (105 ≤ b ∧ b ≤ 111) → N b = M b) → Q (3, 0) N) : ∀ (f : Nat) (t p : Int) (N : zM), (0 ≤ p ∧ p ≤ σ 0) → (t = ysi (yK σ) p) → (N 105 0 = yci (yK σ) p ∧ N 105 1 = σ 0) → (∀ q, 0 ≤ q → q < p → N 106 q = yK σ q ∧ N 107 q = yci (yK σ) (q + 1) - 1) → (∀ c, 0 ≤ c → c < yci (yK σ) p → N 109 c = yB (yK σ) c ∧ N 111 c = yso (yK σ (yB (yK σ) c)) ∧ N 110 c = (if c + 1 = yci (yK σ) p then p else yB (yK σ) (c + 1)) - yB (yK σ) c) → (∀ b, ¬ (105 ≤ b ∧ b ≤ 111) → N b = M b) → (σ 0 - p).toNat < f → zWp kCu_split 11 [(1, 105), (1, 2), (0, t), (0, p)] [] N Q := by
  intro f
  induction f with
  | zero => intro t p N h1 h2 h3 h4 h5 h6 hf; exact absurd hf (Nat.not_lt_zero _)
  | succ f ih =>
    intro t p N h1 h2 h3 h4 h5 h6 hf
    have hK := yKr_K hV
    have hci := (yci_mo (yK σ) (Int.le_refl 0) h1.1)
    rw [yci_0] at hci
    have hV1 := hV.1
    refine zw_iload ⟨rfl, rfl⟩ rfl ?_
    refine zw_aload ⟨rfl, rfl⟩ rfl ?_
    refine zw_getIv (v := σ 0) ⟨rfl, rfl⟩ zc_105 (by decide) (h3.2) ?_
    refine zw_icge ⟨rfl, rfl⟩ rfl (fun c1 => ?_) (fun c1 => ?_)
    · skip
      refine zw_void rfl ?_
      have hp : p = σ 0 := by omega
      subst hp
      refine k _ ⟨⟨h3, h4, fun c q1 q2 => ?_⟩, h6⟩
      obtain ⟨a1, a2, a3⟩ := h5 c q1 q2
      refine ⟨a1, ?_, a2⟩
      rw [a3]
      split
      · rename_i hc
        rw [hc, yB_n hK]
      · rfl
    · skip
      refine zw_iload ⟨rfl, rfl⟩ rfl ?_
      refine zw_const ⟨rfl, rfl⟩ ?_
      refine zw_icge ⟨rfl, rfl⟩ rfl (fun c2 => ?_) (fun c2 => ?_)
      · skip
        refine zw_void rfl ?_
        have hp : p = σ 0 := by omega
        subst hp
        refine k _ ⟨⟨h3, h4, fun c q1 q2 => ?_⟩, h6⟩
        obtain ⟨a1, a2, a3⟩ := h5 c q1 q2
        refine ⟨a1, ?_, a2⟩
        rw [a3]
        split
        · rename_i hc
          rw [hc, yB_n hK]
        · rfl
      · skip
        refine zw_aload ⟨rfl, rfl⟩ rfl ?_
        refine zw_getR 106 ⟨rfl, rfl⟩ zr_105_2 ?_
        refine zw_iload ⟨rfl, rfl⟩ rfl ?_
        refine zw_aload ⟨rfl, rfl⟩ rfl ?_
        refine zw_getR 3 ⟨rfl, rfl⟩ zr_2_0 ?_
        refine zw_aload ⟨rfl, rfl⟩ rfl ?_
        refine zw_iload ⟨rfl, rfl⟩ rfl ?_
        refine zw_callv2 ⟨rfl, rfl⟩ rfl zc_2 rfl ?_
        refine m_letterAt_s hV.1.2 (hS.cg (fun b y1 y2 => h6 b (by omega))) ?_
        refine zw_callv2 ⟨rfl, rfl⟩ rfl zc_3 rfl ?_
        refine m_kindOf_p hV h1.1 (by omega) (hS.cg (fun b y1 y2 => h6 b (by omega))) ?_
        refine zw_iast ⟨rfl, rfl⟩ za_106 (by omega) ?_
        refine zw_aload ⟨rfl, rfl⟩ rfl ?_
        refine zw_getIv (v := yci (yK σ) p) ⟨rfl, rfl⟩ zc_105 (by decide) ((zup_na (by decide)).trans (h3.1)) ?_
        refine zw_ifeq ⟨rfl, rfl⟩ rfl (fun c3 => ?_) (fun c3 => ?_)
        · skip
          refine zw_aload ⟨rfl, rfl⟩ rfl ?_
          refine zw_getR 108 ⟨rfl, rfl⟩ zr_105_4 ?_
          refine zw_const ⟨rfl, rfl⟩ ?_
          refine zw_row ⟨rfl, rfl⟩ zrw_108 (by omega) ?_
          rw [show ((109 : Int) + 0) = 109 from rfl]
          refine zw_aload ⟨rfl, rfl⟩ rfl ?_
          refine zw_getIv (v := yci (yK σ) p) ⟨rfl, rfl⟩ zc_105 (by decide) ((zup_na (by decide)).trans (h3.1)) ?_
          refine zw_iload ⟨rfl, rfl⟩ rfl ?_
          refine zw_iast ⟨rfl, rfl⟩ za_109 (by omega) ?_
          refine zw_aload ⟨rfl, rfl⟩ rfl ?_
          refine zw_getR 108 ⟨rfl, rfl⟩ zr_105_4 ?_
          refine zw_const ⟨rfl, rfl⟩ ?_
          refine zw_row ⟨rfl, rfl⟩ zrw_108 (by omega) ?_
          rw [show ((109 : Int) + 1) = 110 from rfl]
          refine zw_aload ⟨rfl, rfl⟩ rfl ?_
          refine zw_getIv (v := yci (yK σ) p) ⟨rfl, rfl⟩ zc_105 (by decide) ((zup_na (by decide)).trans ((zup_na (by decide)).trans (h3.1))) ?_
          refine zw_const ⟨rfl, rfl⟩ ?_
          refine zw_iast ⟨rfl, rfl⟩ za_110 (by omega) ?_
          refine zw_aload ⟨rfl, rfl⟩ rfl ?_
          refine zw_getR 108 ⟨rfl, rfl⟩ zr_105_4 ?_
          refine zw_const ⟨rfl, rfl⟩ ?_
          refine zw_row ⟨rfl, rfl⟩ zrw_108 (by omega) ?_
          rw [show ((109 : Int) + 2) = 111 from rfl]
          refine zw_aload ⟨rfl, rfl⟩ rfl ?_
          refine zw_getIv (v := yci (yK σ) p) ⟨rfl, rfl⟩ zc_105 (by decide) ((zup_na (by decide)).trans ((zup_na (by decide)).trans ((zup_na (by decide)).trans (h3.1)))) ?_
          refine zw_aload ⟨rfl, rfl⟩ rfl ?_
          refine zw_getR 106 ⟨rfl, rfl⟩ zr_105_2 ?_
          refine zw_iload ⟨rfl, rfl⟩ rfl ?_
          refine zw_ialdv (v := yK σ p) ⟨rfl, rfl⟩ za_106 (by omega) ((zup_na (by decide)).trans ((zup_na (by decide)).trans (zup_eq _ _ _ _))) ?_
          refine zw_calls1 ⟨rfl, rfl⟩ rfl rfl ?_
          refine m_sortOf  ?_
          refine zw_iast ⟨rfl, rfl⟩ za_111 (by omega) ?_
          refine zw_aload ⟨rfl, rfl⟩ rfl ?_
          refine zw_dup ⟨rfl, rfl⟩ (by decide) ?_
          refine zw_getIv (v := yci (yK σ) p) ⟨rfl, rfl⟩ zc_105 (by decide) ((zup_na (by decide)).trans ((zup_na (by decide)).trans ((zup_na (by decide)).trans ((zup_na (by decide)).trans (h3.1))))) ?_
          refine zw_const ⟨rfl, rfl⟩ ?_
          refine zw_iadd ⟨rfl, rfl⟩ (by omega) ?_
          refine zw_putI ⟨rfl, rfl⟩ zc_105 (by decide) (fun h => absurd h (by decide)) ?_
          refine zw_aload ⟨rfl, rfl⟩ rfl ?_
          refine zw_getR 108 ⟨rfl, rfl⟩ zr_105_4 ?_
          refine zw_const ⟨rfl, rfl⟩ ?_
          refine zw_row ⟨rfl, rfl⟩ zrw_108 (by omega) ?_
          rw [show ((109 : Int) + 1) = 110 from rfl]
          refine zw_aload ⟨rfl, rfl⟩ rfl ?_
          refine zw_getIv (v := (yci (yK σ) p) + 1) ⟨rfl, rfl⟩ zc_105 (by decide) (zup_eq _ _ _ _) ?_
          refine zw_const ⟨rfl, rfl⟩ ?_
          refine zw_isub ⟨rfl, rfl⟩ (by omega) ?_
          rw [show ((yci (yK σ) p) + 1) - 1 = (yci (yK σ) p) by omega]
          refine zw_dup2 ⟨rfl, rfl⟩ ⟨by decide, by decide⟩ ?_
          refine zw_ialdv (v := 0) ⟨rfl, rfl⟩ za_110 (by omega) ((zup_na (by decide)).trans ((zup_na (by decide)).trans (zup_eq _ _ _ _))) ?_
          refine zw_const ⟨rfl, rfl⟩ ?_
          refine zw_iadd ⟨rfl, rfl⟩ (by first | omega | (have h55 := (h5 (yci (yK σ) p - 1) (by omega) (by omega)).2.2; rw [if_pos (by omega)] at h55; have := yB_l hK h1.1 h1.2 (show 0 ≤ yci (yK σ) p - 1 by omega) (by omega); have := (yB_r hK (show 0 ≤ yci (yK σ) p - 1 by omega) (by have := (yci_mo (yK σ) h1.1 h1.2).1; omega)).1; omega)) ?_
          refine zw_iast ⟨rfl, rfl⟩ za_110 (by omega) ?_
          refine zw_aload ⟨rfl, rfl⟩ rfl ?_
          refine zw_getR 107 ⟨rfl, rfl⟩ zr_105_3 ?_
          refine zw_iload ⟨rfl, rfl⟩ rfl ?_
          refine zw_aload ⟨rfl, rfl⟩ rfl ?_
          refine zw_getIv (v := (yci (yK σ) p) + 1) ⟨rfl, rfl⟩ zc_105 (by decide) ((zup_na (by decide)).trans (zup_eq _ _ _ _)) ?_
          refine zw_const ⟨rfl, rfl⟩ ?_
          refine zw_isub ⟨rfl, rfl⟩ (by omega) ?_
          rw [show ((yci (yK σ) p) + 1) - 1 = (yci (yK σ) p) by omega]
          refine zw_iast ⟨rfl, rfl⟩ za_107 (by omega) ?_
          refine zw_iload ⟨rfl, rfl⟩ rfl ?_
          refine zw_aload ⟨rfl, rfl⟩ rfl ?_
          refine zw_getR 106 ⟨rfl, rfl⟩ zr_105_2 ?_
          refine zw_iload ⟨rfl, rfl⟩ rfl ?_
          refine zw_ialdv (v := yK σ p) ⟨rfl, rfl⟩ za_106 (by omega) ((zup_na (by decide)).trans ((zup_na (by decide)).trans ((zup_na (by decide)).trans ((zup_na (by decide)).trans ((zup_na (by decide)).trans ((zup_na (by decide)).trans (zup_eq _ _ _ _))))))) ?_
          refine zw_calls2 ⟨rfl, rfl⟩ rfl rfl ?_
          refine m_stateBehind  ?_
          refine zw_istore_2 ⟨rfl, rfl⟩ ?_
          refine zw_iinc_3 ⟨rfl, rfl⟩ (by omega) ?_
          refine zw_goto ⟨rfl, rfl⟩ rfl ?_
          have hb : ybg (yK σ) p := by
            first
              | (unfold ybg; rw [← h2]; omega)
              | (have hp : p = 0 := by
                   by_cases hp : p = 0
                   · exact hp
                   · have := (yci_mo (yK σ) (show (0 : Int) ≤ 1 by decide) (show 1 ≤ p by omega)).1
                     have h0 := yci_b (yK σ) (Int.le_refl 0) (ybg_0 _)
                     rw [show (0 : Int) + 1 = 1 from rfl, yci_0] at h0
                     omega
                 rw [hp]; exact ybg_0 _)
          have e1 : yci (yK σ) (p + 1) = yci (yK σ) p + 1 := yci_b _ h1.1 hb
          have e2 : yB (yK σ) (yci (yK σ) p) = p := yB_eq hK h1.1 h1.2 hb
          have hnn := yci_nn (yK σ) p
          have h7 := hK.1
          refine ih _ _ _ ?_ ?_ ?_ ?_ ?_ ?_ ?_
          · omega
          · rw [h2, ysi_s _ h1.1]
          · clear ih h4 h5 h6
            refine ⟨?_, ?_⟩
            · rw [e1]; simp [zup, h3.1]
            · simp [zup, h3.2]
          · intro q q1 q2
            have h44 := h4 q q1
            clear ih h5 h6 h4
            by_cases hq : q = p
            · subst hq; rw [e1]; simp [zup, h3.1]
            · have := h44 (by omega); simp [zup, hq]; exact this
          · intro c q1 q2
            rw [e1] at q2 ⊢
            have h55 := h5 c q1
            have h551 := h5 (yci (yK σ) p - 1)
            have h33 := h3.1
            clear ih h4 h6 h5
            grind [zup]
          · intro b q1
            have := h6 b q1
            funext j
            rw [← this]
            clear ih h4 h5 h6
            simp only [zup]
            grind
          · omega
        · skip
          refine zw_iload ⟨rfl, rfl⟩ rfl ?_
          refine zw_aload ⟨rfl, rfl⟩ rfl ?_
          refine zw_getR 106 ⟨rfl, rfl⟩ zr_105_2 ?_
          refine zw_iload ⟨rfl, rfl⟩ rfl ?_
          refine zw_ialdv (v := yK σ p) ⟨rfl, rfl⟩ za_106 (by omega) (zup_eq _ _ _ _) ?_
          refine zw_calls2 ⟨rfl, rfl⟩ rfl rfl ?_
          refine m_goOn  ?_
          refine zw_const ⟨rfl, rfl⟩ ?_
          refine zw_icne ⟨rfl, rfl⟩ rfl (fun c4 => ?_) (fun c4 => ?_)
          · skip
            refine zw_aload ⟨rfl, rfl⟩ rfl ?_
            refine zw_getR 108 ⟨rfl, rfl⟩ zr_105_4 ?_
            refine zw_const ⟨rfl, rfl⟩ ?_
            refine zw_row ⟨rfl, rfl⟩ zrw_108 (by omega) ?_
            rw [show ((109 : Int) + 1) = 110 from rfl]
            refine zw_aload ⟨rfl, rfl⟩ rfl ?_
            refine zw_getIv (v := yci (yK σ) p) ⟨rfl, rfl⟩ zc_105 (by decide) ((zup_na (by decide)).trans (h3.1)) ?_
            refine zw_const ⟨rfl, rfl⟩ ?_
            refine zw_isub ⟨rfl, rfl⟩ (by omega) ?_
            refine zw_dup2 ⟨rfl, rfl⟩ ⟨by decide, by decide⟩ ?_
            refine zw_ialdv (v := N 110 ((yci (yK σ) p) - 1)) ⟨rfl, rfl⟩ za_110 (by omega) (zup_na (by decide)) ?_
            refine zw_const ⟨rfl, rfl⟩ ?_
            refine zw_iadd ⟨rfl, rfl⟩ (by first | omega | (have h55 := (h5 (yci (yK σ) p - 1) (by omega) (by omega)).2.2; rw [if_pos (by omega)] at h55; have := yB_l hK h1.1 h1.2 (show 0 ≤ yci (yK σ) p - 1 by omega) (by omega); have := (yB_r hK (show 0 ≤ yci (yK σ) p - 1 by omega) (by have := (yci_mo (yK σ) h1.1 h1.2).1; omega)).1; omega)) ?_
            refine zw_iast ⟨rfl, rfl⟩ za_110 (by omega) ?_
            refine zw_aload ⟨rfl, rfl⟩ rfl ?_
            refine zw_getR 107 ⟨rfl, rfl⟩ zr_105_3 ?_
            refine zw_iload ⟨rfl, rfl⟩ rfl ?_
            refine zw_aload ⟨rfl, rfl⟩ rfl ?_
            refine zw_getIv (v := yci (yK σ) p) ⟨rfl, rfl⟩ zc_105 (by decide) ((zup_na (by decide)).trans ((zup_na (by decide)).trans (h3.1))) ?_
            refine zw_const ⟨rfl, rfl⟩ ?_
            refine zw_isub ⟨rfl, rfl⟩ (by omega) ?_
            refine zw_iast ⟨rfl, rfl⟩ za_107 (by omega) ?_
            refine zw_iload ⟨rfl, rfl⟩ rfl ?_
            refine zw_aload ⟨rfl, rfl⟩ rfl ?_
            refine zw_getR 106 ⟨rfl, rfl⟩ zr_105_2 ?_
            refine zw_iload ⟨rfl, rfl⟩ rfl ?_
            refine zw_ialdv (v := yK σ p) ⟨rfl, rfl⟩ za_106 (by omega) ((zup_na (by decide)).trans ((zup_na (by decide)).trans (zup_eq _ _ _ _))) ?_
            refine zw_calls2 ⟨rfl, rfl⟩ rfl rfl ?_
            refine m_stateBehind  ?_
            refine zw_istore_2 ⟨rfl, rfl⟩ ?_
            refine zw_iinc_3 ⟨rfl, rfl⟩ (by omega) ?_
            refine zw_goto ⟨rfl, rfl⟩ rfl ?_
            have hb : ¬ ybg (yK σ) p := by unfold ybg; rw [← h2]; assumption
            have e1 : yci (yK σ) (p + 1) = yci (yK σ) p := yci_n _ h1.1 hb
            have e2 : 1 ≤ yci (yK σ) p := by have := yci_nn (yK σ) p; omega
            have hnn := yci_nn (yK σ) p
            have h7 := hK.1
            refine ih _ _ _ ?_ ?_ ?_ ?_ ?_ ?_ ?_
            · omega
            · rw [h2, ysi_s _ h1.1]
            · clear ih h4 h5 h6
              refine ⟨?_, ?_⟩
              · rw [e1]; simp [zup, h3.1]
              · simp [zup, h3.2]
            · intro q q1 q2
              have h44 := h4 q q1
              clear ih h5 h6 h4
              by_cases hq : q = p
              · subst hq; rw [e1]; simp [zup, h3.1]
              · have := h44 (by omega); simp [zup, hq]; exact this
            · intro c q1 q2
              rw [e1] at q2 ⊢
              have h55 := h5 c q1
              have h551 := h5 (yci (yK σ) p - 1)
              have h33 := h3.1
              clear ih h4 h6 h5
              grind [zup]
            · intro b q1
              have := h6 b q1
              funext j
              rw [← this]
              clear ih h4 h5 h6
              simp only [zup]
              grind
            · omega
          · skip
            refine zw_aload ⟨rfl, rfl⟩ rfl ?_
            refine zw_getR 108 ⟨rfl, rfl⟩ zr_105_4 ?_
            refine zw_const ⟨rfl, rfl⟩ ?_
            refine zw_row ⟨rfl, rfl⟩ zrw_108 (by omega) ?_
            rw [show ((109 : Int) + 0) = 109 from rfl]
            refine zw_aload ⟨rfl, rfl⟩ rfl ?_
            refine zw_getIv (v := yci (yK σ) p) ⟨rfl, rfl⟩ zc_105 (by decide) ((zup_na (by decide)).trans (h3.1)) ?_
            refine zw_iload ⟨rfl, rfl⟩ rfl ?_
            refine zw_iast ⟨rfl, rfl⟩ za_109 (by omega) ?_
            refine zw_aload ⟨rfl, rfl⟩ rfl ?_
            refine zw_getR 108 ⟨rfl, rfl⟩ zr_105_4 ?_
            refine zw_const ⟨rfl, rfl⟩ ?_
            refine zw_row ⟨rfl, rfl⟩ zrw_108 (by omega) ?_
            rw [show ((109 : Int) + 1) = 110 from rfl]
            refine zw_aload ⟨rfl, rfl⟩ rfl ?_
            refine zw_getIv (v := yci (yK σ) p) ⟨rfl, rfl⟩ zc_105 (by decide) ((zup_na (by decide)).trans ((zup_na (by decide)).trans (h3.1))) ?_
            refine zw_const ⟨rfl, rfl⟩ ?_
            refine zw_iast ⟨rfl, rfl⟩ za_110 (by omega) ?_
            refine zw_aload ⟨rfl, rfl⟩ rfl ?_
            refine zw_getR 108 ⟨rfl, rfl⟩ zr_105_4 ?_
            refine zw_const ⟨rfl, rfl⟩ ?_
            refine zw_row ⟨rfl, rfl⟩ zrw_108 (by omega) ?_
            rw [show ((109 : Int) + 2) = 111 from rfl]
            refine zw_aload ⟨rfl, rfl⟩ rfl ?_
            refine zw_getIv (v := yci (yK σ) p) ⟨rfl, rfl⟩ zc_105 (by decide) ((zup_na (by decide)).trans ((zup_na (by decide)).trans ((zup_na (by decide)).trans (h3.1)))) ?_
            refine zw_aload ⟨rfl, rfl⟩ rfl ?_
            refine zw_getR 106 ⟨rfl, rfl⟩ zr_105_2 ?_
            refine zw_iload ⟨rfl, rfl⟩ rfl ?_
            refine zw_ialdv (v := yK σ p) ⟨rfl, rfl⟩ za_106 (by omega) ((zup_na (by decide)).trans ((zup_na (by decide)).trans (zup_eq _ _ _ _))) ?_
            refine zw_calls1 ⟨rfl, rfl⟩ rfl rfl ?_
            refine m_sortOf  ?_
            refine zw_iast ⟨rfl, rfl⟩ za_111 (by omega) ?_
            refine zw_aload ⟨rfl, rfl⟩ rfl ?_
            refine zw_dup ⟨rfl, rfl⟩ (by decide) ?_
            refine zw_getIv (v := yci (yK σ) p) ⟨rfl, rfl⟩ zc_105 (by decide) ((zup_na (by decide)).trans ((zup_na (by decide)).trans ((zup_na (by decide)).trans ((zup_na (by decide)).trans (h3.1))))) ?_
            refine zw_const ⟨rfl, rfl⟩ ?_
            refine zw_iadd ⟨rfl, rfl⟩ (by omega) ?_
            refine zw_putI ⟨rfl, rfl⟩ zc_105 (by decide) (fun h => absurd h (by decide)) ?_
            refine zw_aload ⟨rfl, rfl⟩ rfl ?_
            refine zw_getR 108 ⟨rfl, rfl⟩ zr_105_4 ?_
            refine zw_const ⟨rfl, rfl⟩ ?_
            refine zw_row ⟨rfl, rfl⟩ zrw_108 (by omega) ?_
            rw [show ((109 : Int) + 1) = 110 from rfl]
            refine zw_aload ⟨rfl, rfl⟩ rfl ?_
            refine zw_getIv (v := (yci (yK σ) p) + 1) ⟨rfl, rfl⟩ zc_105 (by decide) (zup_eq _ _ _ _) ?_
            refine zw_const ⟨rfl, rfl⟩ ?_
            refine zw_isub ⟨rfl, rfl⟩ (by omega) ?_
            rw [show ((yci (yK σ) p) + 1) - 1 = (yci (yK σ) p) by omega]
            refine zw_dup2 ⟨rfl, rfl⟩ ⟨by decide, by decide⟩ ?_
            refine zw_ialdv (v := 0) ⟨rfl, rfl⟩ za_110 (by omega) ((zup_na (by decide)).trans ((zup_na (by decide)).trans (zup_eq _ _ _ _))) ?_
            refine zw_const ⟨rfl, rfl⟩ ?_
            refine zw_iadd ⟨rfl, rfl⟩ (by first | omega | (have h55 := (h5 (yci (yK σ) p - 1) (by omega) (by omega)).2.2; rw [if_pos (by omega)] at h55; have := yB_l hK h1.1 h1.2 (show 0 ≤ yci (yK σ) p - 1 by omega) (by omega); have := (yB_r hK (show 0 ≤ yci (yK σ) p - 1 by omega) (by have := (yci_mo (yK σ) h1.1 h1.2).1; omega)).1; omega)) ?_
            refine zw_iast ⟨rfl, rfl⟩ za_110 (by omega) ?_
            refine zw_aload ⟨rfl, rfl⟩ rfl ?_
            refine zw_getR 107 ⟨rfl, rfl⟩ zr_105_3 ?_
            refine zw_iload ⟨rfl, rfl⟩ rfl ?_
            refine zw_aload ⟨rfl, rfl⟩ rfl ?_
            refine zw_getIv (v := (yci (yK σ) p) + 1) ⟨rfl, rfl⟩ zc_105 (by decide) ((zup_na (by decide)).trans (zup_eq _ _ _ _)) ?_
            refine zw_const ⟨rfl, rfl⟩ ?_
            refine zw_isub ⟨rfl, rfl⟩ (by omega) ?_
            rw [show ((yci (yK σ) p) + 1) - 1 = (yci (yK σ) p) by omega]
            refine zw_iast ⟨rfl, rfl⟩ za_107 (by omega) ?_
            refine zw_iload ⟨rfl, rfl⟩ rfl ?_
            refine zw_aload ⟨rfl, rfl⟩ rfl ?_
            refine zw_getR 106 ⟨rfl, rfl⟩ zr_105_2 ?_
            refine zw_iload ⟨rfl, rfl⟩ rfl ?_
            refine zw_ialdv (v := yK σ p) ⟨rfl, rfl⟩ za_106 (by omega) ((zup_na (by decide)).trans ((zup_na (by decide)).trans ((zup_na (by decide)).trans ((zup_na (by decide)).trans ((zup_na (by decide)).trans ((zup_na (by decide)).trans (zup_eq _ _ _ _))))))) ?_
            refine zw_calls2 ⟨rfl, rfl⟩ rfl rfl ?_
            refine m_stateBehind  ?_
            refine zw_istore_2 ⟨rfl, rfl⟩ ?_
            refine zw_iinc_3 ⟨rfl, rfl⟩ (by omega) ?_
            refine zw_goto ⟨rfl, rfl⟩ rfl ?_
            have hb : ybg (yK σ) p := by
              first
                | (unfold ybg; rw [← h2]; omega)
                | (have hp : p = 0 := by
                     by_cases hp : p = 0
                     · exact hp
                     · have := (yci_mo (yK σ) (show (0 : Int) ≤ 1 by decide) (show 1 ≤ p by omega)).1
                       have h0 := yci_b (yK σ) (Int.le_refl 0) (ybg_0 _)
                       rw [show (0 : Int) + 1 = 1 from rfl, yci_0] at h0
                       omega
                   rw [hp]; exact ybg_0 _)
            have e1 : yci (yK σ) (p + 1) = yci (yK σ) p + 1 := yci_b _ h1.1 hb
            have e2 : yB (yK σ) (yci (yK σ) p) = p := yB_eq hK h1.1 h1.2 hb
            have hnn := yci_nn (yK σ) p
            have h7 := hK.1
            refine ih _ _ _ ?_ ?_ ?_ ?_ ?_ ?_ ?_
            · omega
            · rw [h2, ysi_s _ h1.1]
            · clear ih h4 h5 h6
              refine ⟨?_, ?_⟩
              · rw [e1]; simp [zup, h3.1]
              · simp [zup, h3.2]
            · intro q q1 q2
              have h44 := h4 q q1
              clear ih h5 h6 h4
              by_cases hq : q = p
              · subst hq; rw [e1]; simp [zup, h3.1]
              · have := h44 (by omega); simp [zup, hq]; exact this
            · intro c q1 q2
              rw [e1] at q2 ⊢
              have h55 := h5 c q1
              have h551 := h5 (yci (yK σ) p - 1)
              have h33 := h3.1
              clear ih h4 h6 h5
              grind [zup]
            · intro b q1
              have := h6 b q1
              funext j
              rw [← this]
              clear ih h4 h5 h6
              simp only [zup]
              grind
            · omega
end

theorem m_split {M : zM} {Q : zV → zM → Prop} {σ : yS} (hV : yVal σ) (hS : yTold M σ) (k : ∀ N : zM, (yCut N (yK σ) (σ 0) ∧ ∀ b, ¬ (105 ≤ b ∧ b ≤ 111) → N b = M b) → Q (3, 0) N) : zWp kCu_split 0 [(1, 105), (1, 2), (3, 0), (3, 0)] [] M Q := by
  refine zw_aload ⟨rfl, rfl⟩ rfl ?_
  refine zw_const ⟨rfl, rfl⟩ ?_
  refine zw_putI ⟨rfl, rfl⟩ zc_105 (by decide) (fun h => absurd h (by decide)) ?_
  refine zw_aload ⟨rfl, rfl⟩ rfl ?_
  refine zw_aload ⟨rfl, rfl⟩ rfl ?_
  refine zw_getIv (v := σ 0) ⟨rfl, rfl⟩ zc_2 (by decide) ((zup_na (by decide)).trans (hS.2.1)) ?_
  refine zw_putI ⟨rfl, rfl⟩ zc_105 (by decide) (fun h => absurd h (by decide)) ?_
  refine zw_const ⟨rfl, rfl⟩ ?_
  refine zw_istore_2 ⟨rfl, rfl⟩ ?_
  refine zw_const ⟨rfl, rfl⟩ ?_
  refine zw_istore_3 ⟨rfl, rfl⟩ ?_
  refine m_split_l hV hS k _ _ _ _ ⟨Int.le_refl _, hV.1.1⟩ rfl ⟨rfl, rfl⟩ (fun q a b => by omega) (fun c a b => by rw [yci_0] at b; omega) (fun b hb => ?_) (Nat.lt_succ_self _)
  rw [zup_row (by omega), zup_row (by omega)]
end
section
/-! The class' Cut: what it answers -/
theorem m_kindAt {p : Int} {M : zM} {Q : zV → zM → Prop} {K : Int → Int} {n : Int} (hK : yKr K n) (hC : yCut M K n) (k : Q (0, K p) M) : zWp kCu_kindAt 0 [(1, 105), (0, p)] [] M Q := by
  have hN := yci_60 hK
  have hn := hK.1
  refine zw_iload ⟨rfl, rfl⟩ rfl ?_
  refine zw_iflt ⟨rfl, rfl⟩ rfl (fun c1 => ?_) (fun c1 => ?_)
  · skip
    refine zw_const ⟨rfl, rfl⟩ ?_
    refine zw_ret rfl ?_
    rw [hK.2.2 p (by omega)] at k
    exact k
  · skip
    refine zw_iload ⟨rfl, rfl⟩ rfl ?_
    refine zw_aload ⟨rfl, rfl⟩ rfl ?_
    refine zw_getIv (v := n) ⟨rfl, rfl⟩ zc_105 (by decide) (hC.1.2) ?_
    refine zw_icge ⟨rfl, rfl⟩ rfl (fun c2 => ?_) (fun c2 => ?_)
    · skip
      refine zw_const ⟨rfl, rfl⟩ ?_
      refine zw_ret rfl ?_
      rw [hK.2.2 p (by omega)] at k
      exact k
    · skip
      refine zw_aload ⟨rfl, rfl⟩ rfl ?_
      refine zw_getR 106 ⟨rfl, rfl⟩ zr_105_2 ?_
      refine zw_iload ⟨rfl, rfl⟩ rfl ?_
      refine zw_ialdv (v := M 106 p) ⟨rfl, rfl⟩ za_106 (by omega) rfl ?_
      refine zw_goto ⟨rfl, rfl⟩ rfl ?_
      refine zw_ret rfl ?_
      rw [(hC.2.1 p (by omega) (by omega)).1]
      exact k

def yen (K : Int → Int) (n i : Int) : Int := if 0 ≤ i ∧ i < yci K n then yB K (i + 1) else 0
def ysp (K : Int → Int) (n i : Int) : Int := if 0 ≤ i ∧ i ≤ yci K n then yB K i else -1
theorem m_endOf {i : Int} {M : zM} {Q : zV → zM → Prop} {K : Int → Int} {n : Int} (hK : yKr K n) (hC : yCut M K n) (k : Q (0, yen K n i) M) : zWp kCu_endOf 0 [(1, 105), (0, i)] [] M Q := by
  have hN := yci_60 hK
  have hn := hK.1
  refine zw_aload ⟨rfl, rfl⟩ rfl ?_
  refine zw_iload ⟨rfl, rfl⟩ rfl ?_
  refine zw_callv2 ⟨rfl, rfl⟩ rfl zc_105 rfl ?_
  refine zw_iload ⟨rfl, rfl⟩ rfl ?_
  refine zw_iflt ⟨rfl, rfl⟩ rfl (fun c1 => ?_) (fun c1 => ?_)
  · skip
    refine zw_const ⟨rfl, rfl⟩ ?_
    refine zw_zret rfl (by first | exact Or.inl rfl | exact Or.inr rfl | omega) ?_
    refine zw_ifeq ⟨rfl, rfl⟩ rfl (fun _ => ?_) (fun q => absurd (by decide) q)
    refine zw_const ⟨rfl, rfl⟩ ?_
    refine zw_ret rfl ?_
    rw [show yen K n i = 0 from if_neg (by omega)] at k
    exact k
  · skip
    refine zw_iload ⟨rfl, rfl⟩ rfl ?_
    refine zw_aload ⟨rfl, rfl⟩ rfl ?_
    refine zw_getIv (v := yci K n) ⟨rfl, rfl⟩ zc_105 (by decide) (hC.1.1) ?_
    refine zw_icge ⟨rfl, rfl⟩ rfl (fun c3 => ?_) (fun c3 => ?_)
    · skip
      refine zw_const ⟨rfl, rfl⟩ ?_
      refine zw_zret rfl (by first | exact Or.inl rfl | exact Or.inr rfl | omega) ?_
      refine zw_ifeq ⟨rfl, rfl⟩ rfl (fun _ => ?_) (fun q => absurd (by decide) q)
      refine zw_const ⟨rfl, rfl⟩ ?_
      refine zw_ret rfl ?_
      rw [show yen K n i = 0 from if_neg (by omega)] at k
      exact k
    · skip
      refine zw_const ⟨rfl, rfl⟩ ?_
      refine zw_goto ⟨rfl, rfl⟩ rfl ?_
      refine zw_zret rfl (by first | exact Or.inl rfl | exact Or.inr rfl | omega) ?_
      refine zw_ifeq ⟨rfl, rfl⟩ rfl (fun q => absurd q (by decide)) (fun _ => ?_)
      refine zw_aload ⟨rfl, rfl⟩ rfl ?_
      refine zw_getR 108 ⟨rfl, rfl⟩ zr_105_4 ?_
      refine zw_const ⟨rfl, rfl⟩ ?_
      refine zw_row ⟨rfl, rfl⟩ zrw_108 (by omega) ?_
      rw [show ((109 : Int) + 0) = 109 from rfl]
      refine zw_iload ⟨rfl, rfl⟩ rfl ?_
      refine zw_ialdv (v := M 109 i) ⟨rfl, rfl⟩ za_109 (by omega) rfl ?_
      refine zw_aload ⟨rfl, rfl⟩ rfl ?_
      refine zw_getR 108 ⟨rfl, rfl⟩ zr_105_4 ?_
      refine zw_const ⟨rfl, rfl⟩ ?_
      refine zw_row ⟨rfl, rfl⟩ zrw_108 (by omega) ?_
      rw [show ((109 : Int) + 1) = 110 from rfl]
      refine zw_iload ⟨rfl, rfl⟩ rfl ?_
      refine zw_ialdv (v := M 110 i) ⟨rfl, rfl⟩ za_110 (by omega) rfl ?_
      refine zw_iadd ⟨rfl, rfl⟩ (by have := hC.2.2 i (by omega) (by omega); have := yB_cl hK (c := i) (by omega) (by omega); omega) ?_
      refine zw_goto ⟨rfl, rfl⟩ rfl ?_
      refine zw_ret rfl ?_
      rw [show yen K n i = yB K (i + 1) from if_pos (by omega)] at k
      have := hC.2.2 i (by omega) (by omega)
      rw [this.1, this.2.1, show yB K i + (yB K (i + 1) - yB K i) = yB K (i + 1) by omega]
      exact k

theorem m_factOf {i w : Int} {M : zM} {Q : zV → zM → Prop} {K : Int → Int} {n : Int} (hK : yKr K n) (hC : yCut M K n) (k : Q (0, if (0 ≤ i ∧ i < yci K n) ∧ 0 ≤ w ∧ w < 11 then M (109 + w) i else -1) M) : zWp kCu_factOf 0 [(1, 105), (0, i), (0, w)] [] M Q := by
  have hN := yci_60 hK
  have hn := hK.1
  refine zw_aload ⟨rfl, rfl⟩ rfl ?_
  refine zw_iload ⟨rfl, rfl⟩ rfl ?_
  refine zw_callv2 ⟨rfl, rfl⟩ rfl zc_105 rfl ?_
  refine zw_iload ⟨rfl, rfl⟩ rfl ?_
  refine zw_iflt ⟨rfl, rfl⟩ rfl (fun c1 => ?_) (fun c1 => ?_)
  · skip
    refine zw_const ⟨rfl, rfl⟩ ?_
    refine zw_zret rfl (by first | exact Or.inl rfl | exact Or.inr rfl | omega) ?_
    refine zw_ifeq ⟨rfl, rfl⟩ rfl (fun _ => ?_) (fun q => absurd (by decide) q)
    refine zw_const ⟨rfl, rfl⟩ ?_
    refine zw_ret rfl ?_
    rw [if_neg (by omega)] at k
    exact k
  · skip
    refine zw_iload ⟨rfl, rfl⟩ rfl ?_
    refine zw_aload ⟨rfl, rfl⟩ rfl ?_
    refine zw_getIv (v := yci K n) ⟨rfl, rfl⟩ zc_105 (by decide) (hC.1.1) ?_
    refine zw_icge ⟨rfl, rfl⟩ rfl (fun c3 => ?_) (fun c3 => ?_)
    · skip
      refine zw_const ⟨rfl, rfl⟩ ?_
      refine zw_zret rfl (by first | exact Or.inl rfl | exact Or.inr rfl | omega) ?_
      refine zw_ifeq ⟨rfl, rfl⟩ rfl (fun _ => ?_) (fun q => absurd (by decide) q)
      refine zw_const ⟨rfl, rfl⟩ ?_
      refine zw_ret rfl ?_
      rw [if_neg (by omega)] at k
      exact k
    · skip
      refine zw_const ⟨rfl, rfl⟩ ?_
      refine zw_goto ⟨rfl, rfl⟩ rfl ?_
      refine zw_zret rfl (by first | exact Or.inl rfl | exact Or.inr rfl | omega) ?_
      refine zw_ifeq ⟨rfl, rfl⟩ rfl (fun q => absurd q (by decide)) (fun _ => ?_)
      refine zw_iload ⟨rfl, rfl⟩ rfl ?_
      refine zw_iflt ⟨rfl, rfl⟩ rfl (fun c6 => ?_) (fun c6 => ?_)
      · skip
        refine zw_const ⟨rfl, rfl⟩ ?_
        refine zw_ret rfl ?_
        rw [if_neg (by omega)] at k
        exact k
      · skip
        refine zw_iload ⟨rfl, rfl⟩ rfl ?_
        refine zw_const ⟨rfl, rfl⟩ ?_
        refine zw_icge ⟨rfl, rfl⟩ rfl (fun c7 => ?_) (fun c7 => ?_)
        · skip
          refine zw_const ⟨rfl, rfl⟩ ?_
          refine zw_ret rfl ?_
          rw [if_neg (by omega)] at k
          exact k
        · skip
          refine zw_aload ⟨rfl, rfl⟩ rfl ?_
          refine zw_getR 108 ⟨rfl, rfl⟩ zr_105_4 ?_
          refine zw_iload ⟨rfl, rfl⟩ rfl ?_
          refine zw_row ⟨rfl, rfl⟩ zrw_108 (by omega) ?_
          refine zw_iload ⟨rfl, rfl⟩ rfl ?_
          refine zw_ialdv (v := M (109 + w) i) ⟨rfl, rfl⟩ (za_fact (by omega)) (by omega) rfl ?_
          refine zw_goto ⟨rfl, rfl⟩ rfl ?_
          refine zw_ret rfl ?_
          rw [if_pos (by omega)] at k
          exact k

theorem m_factOf_0 {i : Int} {M : zM} {Q : zV → zM → Prop} {K : Int → Int} {n : Int} (hK : yKr K n) (hC : yCut M K n) (k : Q (0, if 0 ≤ i ∧ i < yci K n then yB K i else -1) M) : zWp kCu_factOf 0 [(1, 105), (0, i), (0, 0)] [] M Q := by
  refine m_factOf hK hC ?_
  by_cases h : 0 ≤ i ∧ i < yci K n
  · rw [if_pos h] at k
    rw [if_pos ⟨h, by decide, by decide⟩]
    have := hC.2.2 i h.1 h.2
    rw [show M (109 + 0) i = yB K i from this.1]
    exact k
  · rw [if_neg h] at k
    rw [if_neg (fun q => h q.1)]
    exact k
theorem m_factOf_1 {i : Int} {M : zM} {Q : zV → zM → Prop} {K : Int → Int} {n : Int} (hK : yKr K n) (hC : yCut M K n) (k : Q (0, if 0 ≤ i ∧ i < yci K n then yB K (i + 1) - yB K i else -1) M) : zWp kCu_factOf 0 [(1, 105), (0, i), (0, 1)] [] M Q := by
  refine m_factOf hK hC ?_
  by_cases h : 0 ≤ i ∧ i < yci K n
  · rw [if_pos h] at k
    rw [if_pos ⟨h, by decide, by decide⟩]
    have := hC.2.2 i h.1 h.2
    rw [show M (109 + 1) i = yB K (i + 1) - yB K i from this.2.1]
    exact k
  · rw [if_neg h] at k
    rw [if_neg (fun q => h q.1)]
    exact k
theorem m_factOf_2 {i : Int} {M : zM} {Q : zV → zM → Prop} {K : Int → Int} {n : Int} (hK : yKr K n) (hC : yCut M K n) (k : Q (0, if 0 ≤ i ∧ i < yci K n then yso (K (yB K i)) else -1) M) : zWp kCu_factOf 0 [(1, 105), (0, i), (0, 2)] [] M Q := by
  refine m_factOf hK hC ?_
  by_cases h : 0 ≤ i ∧ i < yci K n
  · rw [if_pos h] at k
    rw [if_pos ⟨h, by decide, by decide⟩]
    have := hC.2.2 i h.1 h.2
    rw [show M (109 + 2) i = yso (K (yB K i)) from this.2.2]
    exact k
  · rw [if_neg h] at k
    rw [if_neg (fun q => h q.1)]
    exact k
theorem m_ownerOf {p : Int} {M : zM} {Q : zV → zM → Prop} {K : Int → Int} {n : Int} (hK : yKr K n) (hC : yCut M K n) (k : Q (0, if 0 ≤ p ∧ p < n then yci K (p + 1) - 1 else -1) M) : zWp kCu_ownerOf 0 [(1, 105), (0, p)] [] M Q := by
  have hN := yci_60 hK
  have hn := hK.1
  refine zw_iload ⟨rfl, rfl⟩ rfl ?_
  refine zw_iflt ⟨rfl, rfl⟩ rfl (fun c1 => ?_) (fun c1 => ?_)
  · skip
    refine zw_const ⟨rfl, rfl⟩ ?_
    refine zw_ret rfl ?_
    rw [if_neg (by omega)] at k
    exact k
  · skip
    refine zw_iload ⟨rfl, rfl⟩ rfl ?_
    refine zw_aload ⟨rfl, rfl⟩ rfl ?_
    refine zw_getIv (v := n) ⟨rfl, rfl⟩ zc_105 (by decide) (hC.1.2) ?_
    refine zw_icge ⟨rfl, rfl⟩ rfl (fun c2 => ?_) (fun c2 => ?_)
    · skip
      refine zw_const ⟨rfl, rfl⟩ ?_
      refine zw_ret rfl ?_
      rw [if_neg (by omega)] at k
      exact k
    · skip
      refine zw_aload ⟨rfl, rfl⟩ rfl ?_
      refine zw_getR 107 ⟨rfl, rfl⟩ zr_105_3 ?_
      refine zw_iload ⟨rfl, rfl⟩ rfl ?_
      refine zw_ialdv (v := M 107 p) ⟨rfl, rfl⟩ za_107 (by omega) rfl ?_
      refine zw_goto ⟨rfl, rfl⟩ rfl ?_
      refine zw_ret rfl ?_
      rw [if_pos (by omega)] at k
      rw [(hC.2.1 p (by omega) (by omega)).2]
      exact k

theorem m_stopPlace {i : Int} {M : zM} {Q : zV → zM → Prop} {K : Int → Int} {n : Int} (hK : yKr K n) (hC : yCut M K n) (k : Q (0, ysp K n i) M) : zWp kCu_stopPlace 0 [(1, 105), (0, i)] [] M Q := by
  have hN := yci_60 hK
  have hn := hK.1
  refine zw_iload ⟨rfl, rfl⟩ rfl ?_
  refine zw_iflt ⟨rfl, rfl⟩ rfl (fun c1 => ?_) (fun c1 => ?_)
  · skip
    refine zw_const ⟨rfl, rfl⟩ ?_
    refine zw_ret rfl ?_
    rw [show ysp K n i = -1 from if_neg (by omega)] at k
    exact k
  · skip
    refine zw_iload ⟨rfl, rfl⟩ rfl ?_
    refine zw_aload ⟨rfl, rfl⟩ rfl ?_
    refine zw_getIv (v := yci K n) ⟨rfl, rfl⟩ zc_105 (by decide) (hC.1.1) ?_
    refine zw_icle ⟨rfl, rfl⟩ rfl (fun c2 => ?_) (fun c2 => ?_)
    · skip
      refine zw_iload ⟨rfl, rfl⟩ rfl ?_
      refine zw_aload ⟨rfl, rfl⟩ rfl ?_
      refine zw_getIv (v := yci K n) ⟨rfl, rfl⟩ zc_105 (by decide) (hC.1.1) ?_
      refine zw_icne ⟨rfl, rfl⟩ rfl (fun c3 => ?_) (fun c3 => ?_)
      · skip
        refine zw_aload ⟨rfl, rfl⟩ rfl ?_
        refine zw_getR 108 ⟨rfl, rfl⟩ zr_105_4 ?_
        refine zw_const ⟨rfl, rfl⟩ ?_
        refine zw_row ⟨rfl, rfl⟩ zrw_108 (by omega) ?_
        rw [show ((109 : Int) + 0) = 109 from rfl]
        refine zw_iload ⟨rfl, rfl⟩ rfl ?_
        refine zw_ialdv (v := M 109 i) ⟨rfl, rfl⟩ za_109 (by omega) rfl ?_
        refine zw_ret rfl ?_
        rw [show ysp K n i = yB K i from if_pos (by omega)] at k
        rw [(hC.2.2 i (by omega) (by omega)).1]
        exact k
      · skip
        refine zw_aload ⟨rfl, rfl⟩ rfl ?_
        refine zw_getIv (v := n) ⟨rfl, rfl⟩ zc_105 (by decide) (hC.1.2) ?_
        refine zw_goto ⟨rfl, rfl⟩ rfl ?_
        refine zw_ret rfl ?_
        rw [show ysp K n i = yB K i from if_pos (by omega)] at k
        rw [show i = yci K n by omega, yB_n hK] at k
        exact k
    · skip
      refine zw_const ⟨rfl, rfl⟩ ?_
      refine zw_ret rfl ?_
      rw [show ysp K n i = -1 from if_neg (by omega)] at k
      exact k

theorem m_stopAt_l  {p : Int} {M : zM} {Q : zV → zM → Prop} {K : Int → Int} {n : Int} (hK : yKr K n) (hC : yCut M K n) (k : Q (0, ysa K n p) M) : ∀ (f : Nat) (i : Int), (0 ≤ i ∧ i ≤ yci K n + 1) → (∀ j, 0 ≤ j → j < i → yB K j ≠ p) → (yci K n + 1 - i).toNat < f → zWp kCu_stopAt 2 [(1, 105), (0, p), (0, i)] [] M Q := by
  intro f
  induction f with
  | zero => intro i h1 h2 hf; exact absurd hf (Nat.not_lt_zero _)
  | succ f ih =>
    intro i h1 h2 hf
    have hN := yci_60 hK
    have hn := hK.1
    refine zw_iload ⟨rfl, rfl⟩ rfl ?_
    refine zw_aload ⟨rfl, rfl⟩ rfl ?_
    refine zw_getIv (v := yci K n) ⟨rfl, rfl⟩ zc_105 (by decide) (hC.1.1) ?_
    refine zw_icgt ⟨rfl, rfl⟩ rfl (fun c1 => ?_) (fun c1 => ?_)
    · skip
      refine zw_const ⟨rfl, rfl⟩ ?_
      refine zw_ret rfl ?_
      by_cases hh : ysa K n p = -1
      · rw [hh] at k; exact k
      · obtain ⟨a1, a2⟩ := ysa_B hK hh
        exact absurd a2 (h2 _ a1.1 (by omega))
    · skip
      refine zw_aload ⟨rfl, rfl⟩ rfl ?_
      refine zw_iload ⟨rfl, rfl⟩ rfl ?_
      refine zw_callv2 ⟨rfl, rfl⟩ rfl zc_105 rfl ?_
      refine m_stopPlace hK hC ?_
      rw [show ysp K n i = yB K i from if_pos (by omega)]
      refine zw_iload ⟨rfl, rfl⟩ rfl ?_
      refine zw_icne ⟨rfl, rfl⟩ rfl (fun c2 => ?_) (fun c2 => ?_)
      · skip
        refine zw_iinc_2 ⟨rfl, rfl⟩ (by omega) ?_
        refine zw_goto ⟨rfl, rfl⟩ rfl ?_
        refine ih _ ?_ ?_ ?_
        · omega
        · intro j q1 q2; by_cases hj : j = i
          · subst hj; assumption
          · exact h2 j q1 (by omega)
        · omega
      · skip
        refine zw_iload ⟨rfl, rfl⟩ rfl ?_
        refine zw_ret rfl ?_
        rw [yB_iff hK h1.1 (by omega) (by omega)] at k
        exact k

theorem m_stopAt {p : Int} {M : zM} {Q : zV → zM → Prop} {K : Int → Int} {n : Int} (hK : yKr K n) (hC : yCut M K n) (k : Q (0, ysa K n p) M) : zWp kCu_stopAt 0 [(1, 105), (0, p), (3, 0)] [] M Q := by
  refine zw_const ⟨rfl, rfl⟩ ?_
  refine zw_istore_2 ⟨rfl, rfl⟩ ?_
  exact m_stopAt_l hK hC k _ _ ⟨by decide, by have := yci_60 hK; omega⟩ (fun j a b => by omega) (Nat.lt_succ_self _)

theorem m_stopAbove_l  {p : Int} {M : zM} {Q : zV → zM → Prop} {K : Int → Int} {n : Int} (hK : yKr K n) (hC : yCut M K n) (hp : 0 ≤ p ∧ p ≤ n) (k : Q (0, ysu K n p) M) : ∀ (f : Nat) (i : Int), (0 ≤ i ∧ i ≤ yci K n + 1) → (∀ j, 0 ≤ j → j < i → yB K j ≤ p) → (yci K n + 1 - i).toNat < f → zWp kCu_stopAbove 2 [(1, 105), (0, p), (0, i)] [] M Q := by
  intro f
  induction f with
  | zero => intro i h1 h2 hf; exact absurd hf (Nat.not_lt_zero _)
  | succ f ih =>
    intro i h1 h2 hf
    have hN := yci_60 hK
    have hn := hK.1
    refine zw_iload ⟨rfl, rfl⟩ rfl ?_
    refine zw_aload ⟨rfl, rfl⟩ rfl ?_
    refine zw_getIv (v := yci K n) ⟨rfl, rfl⟩ zc_105 (by decide) (hC.1.1) ?_
    refine zw_icgt ⟨rfl, rfl⟩ rfl (fun c1 => ?_) (fun c1 => ?_)
    · skip
      refine zw_const ⟨rfl, rfl⟩ ?_
      refine zw_ret rfl ?_
      have := h2 (yci K n) hN.1 (by omega)
      rw [yB_n hK] at this
      rw [show ysu K n p = -1 from if_neg (by omega)] at k
      exact k
    · skip
      refine zw_aload ⟨rfl, rfl⟩ rfl ?_
      refine zw_iload ⟨rfl, rfl⟩ rfl ?_
      refine zw_callv2 ⟨rfl, rfl⟩ rfl zc_105 rfl ?_
      refine m_stopPlace hK hC ?_
      rw [show ysp K n i = yB K i from if_pos (by omega)]
      refine zw_iload ⟨rfl, rfl⟩ rfl ?_
      refine zw_icle ⟨rfl, rfl⟩ rfl (fun c2 => ?_) (fun c2 => ?_)
      · skip
        refine zw_iinc_2 ⟨rfl, rfl⟩ (by omega) ?_
        refine zw_goto ⟨rfl, rfl⟩ rfl ?_
        refine ih _ ?_ ?_ ?_
        · omega
        · intro j q1 q2; by_cases hj : j = i
          · subst hj; assumption
          · exact h2 j q1 (by omega)
        · omega
      · skip
        refine zw_aload ⟨rfl, rfl⟩ rfl ?_
        refine zw_iload ⟨rfl, rfl⟩ rfl ?_
        refine zw_callv2 ⟨rfl, rfl⟩ rfl zc_105 rfl ?_
        refine m_stopPlace hK hC ?_
        rw [show ysp K n i = yB K i from if_pos (by omega)]
        refine zw_ret rfl ?_
        have a := (yB_gt hK hp h1.1 (by omega)).mp (by omega)
        have b := yci_nn K (p + 1)
        have e : i = yci K (p + 1) := by
          by_cases hh : yci K (p + 1) < i
          · have := h2 _ b hh
            have := (yB_gt hK hp b (by omega)).mpr ⟨Int.le_refl _, a.2⟩
            omega
          · omega
        rw [show ysu K n p = yB K i from by unfold ysu; rw [if_pos a.2, e]] at k
        exact k

theorem m_stopAbove {p : Int} {M : zM} {Q : zV → zM → Prop} {K : Int → Int} {n : Int} (hK : yKr K n) (hC : yCut M K n) (hp : 0 ≤ p ∧ p ≤ n) (k : Q (0, ysu K n p) M) : zWp kCu_stopAbove 0 [(1, 105), (0, p), (3, 0)] [] M Q := by
  refine zw_const ⟨rfl, rfl⟩ ?_
  refine zw_istore_2 ⟨rfl, rfl⟩ ?_
  exact m_stopAbove_l hK hC hp k _ _ ⟨by decide, by have := yci_60 hK; omega⟩ (fun j a b => by omega) (Nat.lt_succ_self _)

theorem m_stopBelow_l  {p : Int} {M : zM} {Q : zV → zM → Prop} {K : Int → Int} {n : Int} (hK : yKr K n) (hC : yCut M K n) (hp : 0 ≤ p ∧ p ≤ n) (k : Q (0, ysd K p) M) : ∀ (f : Nat) (i : Int), (-1 ≤ i ∧ i ≤ yci K n) → (∀ j, i < j → j ≤ yci K n → p ≤ yB K j) → (i + 1).toNat < f → zWp kCu_stopBelow 3 [(1, 105), (0, p), (0, i)] [] M Q := by
  intro f
  induction f with
  | zero => intro i h1 h2 hf; exact absurd hf (Nat.not_lt_zero _)
  | succ f ih =>
    intro i h1 h2 hf
    have hN := yci_60 hK
    have hn := hK.1
    refine zw_iload ⟨rfl, rfl⟩ rfl ?_
    refine zw_iflt ⟨rfl, rfl⟩ rfl (fun c1 => ?_) (fun c1 => ?_)
    · skip
      refine zw_const ⟨rfl, rfl⟩ ?_
      refine zw_ret rfl ?_
      have := h2 0 (by omega) hN.1
      rw [yB_0] at this
      rw [show ysd K p = -1 from if_neg (by omega)] at k
      exact k
    · skip
      refine zw_aload ⟨rfl, rfl⟩ rfl ?_
      refine zw_iload ⟨rfl, rfl⟩ rfl ?_
      refine zw_callv2 ⟨rfl, rfl⟩ rfl zc_105 rfl ?_
      refine m_stopPlace hK hC ?_
      rw [show ysp K n i = yB K i from if_pos (by omega)]
      refine zw_iload ⟨rfl, rfl⟩ rfl ?_
      refine zw_icge ⟨rfl, rfl⟩ rfl (fun c2 => ?_) (fun c2 => ?_)
      · skip
        refine zw_iinc_2 ⟨rfl, rfl⟩ (by omega) ?_
        refine zw_goto ⟨rfl, rfl⟩ rfl ?_
        refine ih _ ?_ ?_ ?_
        · omega
        · intro j q1 q2; by_cases hj : j = i
          · subst hj; omega
          · exact h2 j (by omega) q2
        · omega
      · skip
        refine zw_aload ⟨rfl, rfl⟩ rfl ?_
        refine zw_iload ⟨rfl, rfl⟩ rfl ?_
        refine zw_callv2 ⟨rfl, rfl⟩ rfl zc_105 rfl ?_
        refine m_stopPlace hK hC ?_
        rw [show ysp K n i = yB K i from if_pos (by omega)]
        refine zw_ret rfl ?_
        have r := yB_r hK (show 0 ≤ i by omega) h1.2
        have a := yci_Bi hK (show 0 ≤ i by omega) h1.2
        have b := yci_b K r.1.1 r.2
        have c := (yci_mo K (show 0 ≤ yB K i + 1 by omega) (show yB K i + 1 ≤ p by omega)).1
        have d := (yci_mo K hp.1 hp.2).1
        have e := h2 (i + 1) (by omega) (by omega)
        have g := (yci_mo K hp.1 e).1
        rw [yci_Bi hK (by omega) (by omega)] at g
        rw [show ysd K p = yB K i from by unfold ysd; rw [if_pos (by omega), show yci K p - 1 = i by omega]] at k
        exact k

theorem m_stopBelow {p : Int} {M : zM} {Q : zV → zM → Prop} {K : Int → Int} {n : Int} (hK : yKr K n) (hC : yCut M K n) (hp : 0 ≤ p ∧ p ≤ n) (k : Q (0, ysd K p) M) : zWp kCu_stopBelow 0 [(1, 105), (0, p), (3, 0)] [] M Q := by
  refine zw_aload ⟨rfl, rfl⟩ rfl ?_
  refine zw_getIv (v := yci K n) ⟨rfl, rfl⟩ zc_105 (by decide) (hC.1.1) ?_
  refine zw_istore_2 ⟨rfl, rfl⟩ ?_
  exact m_stopBelow_l hK hC hp k _ _ ⟨by have := yci_60 hK; omega, Int.le_refl _⟩ (fun j a b => by omega) (Nat.lt_succ_self _)

theorem m_brokenAt_l  {i v : Int} {M : zM} {Q : zV → zM → Prop} {K : Int → Int} {n : Int} (hK : yKr K n) (hC : yCut M K n) (k : Q (0, v) M) : ∀ (f : Nat) (m c : Int), ((0 ≤ c ∧ c ≤ yci K n) ∧ 0 ≤ m ∧ m ≤ c) → (ynth (fun c => yso (K (yB K c))) 2 i (yci K n - c).toNat c m = v) → (yci K n - c).toNat < f → zWp kCu_brokenAt 4 [(1, 105), (0, i), (0, m), (0, c)] [] M Q := by
  intro f
  induction f with
  | zero => intro m c h1 h2 hf; exact absurd hf (Nat.not_lt_zero _)
  | succ f ih =>
    intro m c h1 h2 hf
    have hN := yci_60 hK
    have hn := hK.1
    refine zw_iload ⟨rfl, rfl⟩ rfl ?_
    refine zw_aload ⟨rfl, rfl⟩ rfl ?_
    refine zw_getIv (v := yci K n) ⟨rfl, rfl⟩ zc_105 (by decide) (hC.1.1) ?_
    refine zw_icge ⟨rfl, rfl⟩ rfl (fun c1 => ?_) (fun c1 => ?_)
    · skip
      refine zw_const ⟨rfl, rfl⟩ ?_
      refine zw_ret rfl ?_
      rw [show (yci K n - c).toNat = 0 by omega] at h2
      rw [← h2] at k
      exact k
    · skip
      rw [show (yci K n - c).toNat = (yci K n - (c + 1)).toNat + 1 by omega] at h2
      unfold ynth at h2
      try dsimp only at h2
      refine zw_aload ⟨rfl, rfl⟩ rfl ?_
      refine zw_getR 108 ⟨rfl, rfl⟩ zr_105_4 ?_
      refine zw_const ⟨rfl, rfl⟩ ?_
      refine zw_row ⟨rfl, rfl⟩ zrw_108 (by omega) ?_
      rw [show ((109 : Int) + 2) = 111 from rfl]
      refine zw_iload ⟨rfl, rfl⟩ rfl ?_
      refine zw_ialdv (v := yso (K (yB K c))) ⟨rfl, rfl⟩ za_111 (by omega) ((hC.2.2 c (by omega) (by omega)).2.2) ?_
      refine zw_const ⟨rfl, rfl⟩ ?_
      refine zw_icne ⟨rfl, rfl⟩ rfl (fun c2 => ?_) (fun c2 => ?_)
      · skip
        rw [if_neg (by assumption)] at h2
        refine zw_iinc_3 ⟨rfl, rfl⟩ (by omega) ?_
        refine zw_goto ⟨rfl, rfl⟩ rfl ?_
        refine ih _ _ ?_ ?_ ?_
        · omega
        · exact h2
        · omega
      · skip
        rw [if_pos (by omega)] at h2
        refine zw_iload ⟨rfl, rfl⟩ rfl ?_
        refine zw_iload ⟨rfl, rfl⟩ rfl ?_
        refine zw_icne ⟨rfl, rfl⟩ rfl (fun c3 => ?_) (fun c3 => ?_)
        · skip
          rw [if_neg (by assumption)] at h2
          refine zw_iinc_2 ⟨rfl, rfl⟩ (by omega) ?_
          refine zw_iinc_3 ⟨rfl, rfl⟩ (by omega) ?_
          refine zw_goto ⟨rfl, rfl⟩ rfl ?_
          refine ih _ _ ?_ ?_ ?_
          · omega
          · exact h2
          · omega
        · skip
          rw [if_pos (by omega)] at h2
          refine zw_iload ⟨rfl, rfl⟩ rfl ?_
          refine zw_ret rfl ?_
          rw [← h2] at k
          exact k

theorem m_brokenAt {i : Int} {M : zM} {Q : zV → zM → Prop} {K : Int → Int} {n : Int} (hK : yKr K n) (hC : yCut M K n) (k : Q (0, ynth (fun c => yso (K (yB K c))) 2 i (yci K n).toNat 0 0) M) : zWp kCu_brokenAt 0 [(1, 105), (0, i), (3, 0), (3, 0)] [] M Q := by
  refine zw_const ⟨rfl, rfl⟩ ?_
  refine zw_istore_2 ⟨rfl, rfl⟩ ?_
  refine zw_const ⟨rfl, rfl⟩ ?_
  refine zw_istore_3 ⟨rfl, rfl⟩ ?_
  exact m_brokenAt_l hK hC k _ _ _ ⟨⟨by decide, (yci_60 hK).1⟩, by decide, by decide⟩ (by rw [Int.sub_zero]) (Nat.lt_succ_self _)

section
set_option maxHeartbeats 4000000
theorem m_brokenWith_l  {a t : Int} {M : zM} {Q : zV → zM → Prop} {K : Int → Int} {n : Int} (hK : yKr K n) (hC : yCut M K n) (k : Q (0, ybw K n a t) M) : ∀ (f : Nat) (m s p : Int), (0 ≤ p ∧ p ≤ n + 1) → (if p ≤ n then s = (ybs K a t p.toNat).1 ∧ m = (ybs K a t p.toNat).2 else m = ybw K n a t) → (n + 1 - p).toNat < f → zWp kCu_brokenWith 6 [(1, 105), (0, a), (0, t), (0, m), (0, s), (0, p)] [] M Q := by
  intro f
  induction f with
  | zero => intro m s p h1 h2 hf; exact absurd hf (Nat.not_lt_zero _)
  | succ f ih =>
    intro m s p h1 h2 hf
    have hN := yci_60 hK
    have hn := hK.1
    refine zw_iload ⟨rfl, rfl⟩ rfl ?_
    refine zw_aload ⟨rfl, rfl⟩ rfl ?_
    refine zw_getIv (v := n) ⟨rfl, rfl⟩ zc_105 (by decide) (hC.1.2) ?_
    refine zw_icgt ⟨rfl, rfl⟩ rfl (fun c1 => ?_) (fun c1 => ?_)
    · skip
      refine zw_iload ⟨rfl, rfl⟩ rfl ?_
      refine zw_ret rfl ?_
      rw [if_neg (by omega)] at h2
      rw [← h2] at k
      exact k
    · skip
      rw [if_pos (by omega)] at h2
      have hr := ybs_rng K a t p.toNat
      have hr2 := ybr_rng s t
      have hr3 := ybr_rng s (K p)
      have hr4 := ybr_rng (ysb s t) (K p)
      refine zw_iload ⟨rfl, rfl⟩ rfl ?_
      refine zw_iload ⟨rfl, rfl⟩ rfl ?_
      refine zw_icne ⟨rfl, rfl⟩ rfl (fun c2 => ?_) (fun c2 => ?_)
      · skip
        refine zw_iload ⟨rfl, rfl⟩ rfl ?_
        refine zw_aload ⟨rfl, rfl⟩ rfl ?_
        refine zw_getIv (v := n) ⟨rfl, rfl⟩ zc_105 (by decide) (hC.1.2) ?_
        refine zw_icge ⟨rfl, rfl⟩ rfl (fun c3 => ?_) (fun c3 => ?_)
        · skip
          refine zw_iinc_5 ⟨rfl, rfl⟩ (by omega) ?_
          refine zw_goto ⟨rfl, rfl⟩ rfl ?_
          refine ih _ _ _ ?_ ?_ ?_
          · omega
          · by_cases hpn : p + 1 ≤ n
            · rw [if_pos hpn, ybs_s K a t (by omega)]
              first | rw [if_pos (by omega)] | rw [if_neg (by omega)]
              first | (refine ⟨?_, ?_⟩ <;> dsimp only <;> grind) | grind
            · rw [if_neg hpn]
              unfold ybw
              have hpp : p = n := by omega
              subst hpp
              first | rw [if_pos (by omega)] | rw [if_neg (by omega)]
              grind
          · omega
        · skip
          refine zw_iload ⟨rfl, rfl⟩ rfl ?_
          refine zw_iload ⟨rfl, rfl⟩ rfl ?_
          refine zw_aload ⟨rfl, rfl⟩ rfl ?_
          refine zw_iload ⟨rfl, rfl⟩ rfl ?_
          refine zw_callv2 ⟨rfl, rfl⟩ rfl zc_105 rfl ?_
          refine m_kindAt hK hC ?_
          refine zw_calls2 ⟨rfl, rfl⟩ rfl rfl ?_
          refine m_breaks  ?_
          refine zw_ifeq ⟨rfl, rfl⟩ rfl (fun c4 => ?_) (fun c4 => ?_)
          · skip
            refine zw_const ⟨rfl, rfl⟩ ?_
            refine zw_iadd ⟨rfl, rfl⟩ (by omega) ?_
            refine zw_istore_3 ⟨rfl, rfl⟩ ?_
            refine zw_iload ⟨rfl, rfl⟩ rfl ?_
            refine zw_aload ⟨rfl, rfl⟩ rfl ?_
            refine zw_iload ⟨rfl, rfl⟩ rfl ?_
            refine zw_callv2 ⟨rfl, rfl⟩ rfl zc_105 rfl ?_
            refine m_kindAt hK hC ?_
            refine zw_calls2 ⟨rfl, rfl⟩ rfl rfl ?_
            refine m_stateBehind  ?_
            refine zw_istore_4 ⟨rfl, rfl⟩ ?_
            refine zw_iinc_5 ⟨rfl, rfl⟩ (by omega) ?_
            refine zw_goto ⟨rfl, rfl⟩ rfl ?_
            refine ih _ _ _ ?_ ?_ ?_
            · omega
            · by_cases hpn : p + 1 ≤ n
              · rw [if_pos hpn, ybs_s K a t (by omega)]
                first | rw [if_pos (by omega)] | rw [if_neg (by omega)]
                first | (refine ⟨?_, ?_⟩ <;> dsimp only <;> grind) | grind
              · rw [if_neg hpn]
                unfold ybw
                have hpp : p = n := by omega
                subst hpp
                first | rw [if_pos (by omega)] | rw [if_neg (by omega)]
                grind
            · omega
          · skip
            refine zw_const ⟨rfl, rfl⟩ ?_
            refine zw_goto ⟨rfl, rfl⟩ rfl ?_
            refine zw_iadd ⟨rfl, rfl⟩ (by omega) ?_
            refine zw_istore_3 ⟨rfl, rfl⟩ ?_
            refine zw_iload ⟨rfl, rfl⟩ rfl ?_
            refine zw_aload ⟨rfl, rfl⟩ rfl ?_
            refine zw_iload ⟨rfl, rfl⟩ rfl ?_
            refine zw_callv2 ⟨rfl, rfl⟩ rfl zc_105 rfl ?_
            refine m_kindAt hK hC ?_
            refine zw_calls2 ⟨rfl, rfl⟩ rfl rfl ?_
            refine m_stateBehind  ?_
            refine zw_istore_4 ⟨rfl, rfl⟩ ?_
            refine zw_iinc_5 ⟨rfl, rfl⟩ (by omega) ?_
            refine zw_goto ⟨rfl, rfl⟩ rfl ?_
            refine ih _ _ _ ?_ ?_ ?_
            · omega
            · by_cases hpn : p + 1 ≤ n
              · rw [if_pos hpn, ybs_s K a t (by omega)]
                first | rw [if_pos (by omega)] | rw [if_neg (by omega)]
                first | (refine ⟨?_, ?_⟩ <;> dsimp only <;> grind) | grind
              · rw [if_neg hpn]
                unfold ybw
                have hpp : p = n := by omega
                subst hpp
                first | rw [if_pos (by omega)] | rw [if_neg (by omega)]
                grind
            · omega
      · skip
        refine zw_iload ⟨rfl, rfl⟩ rfl ?_
        refine zw_iload ⟨rfl, rfl⟩ rfl ?_
        refine zw_iload ⟨rfl, rfl⟩ rfl ?_
        refine zw_calls2 ⟨rfl, rfl⟩ rfl rfl ?_
        refine m_breaks  ?_
        refine zw_ifeq ⟨rfl, rfl⟩ rfl (fun c5 => ?_) (fun c5 => ?_)
        · skip
          refine zw_const ⟨rfl, rfl⟩ ?_
          refine zw_iadd ⟨rfl, rfl⟩ (by omega) ?_
          refine zw_istore_3 ⟨rfl, rfl⟩ ?_
          refine zw_iload ⟨rfl, rfl⟩ rfl ?_
          refine zw_iload ⟨rfl, rfl⟩ rfl ?_
          refine zw_calls2 ⟨rfl, rfl⟩ rfl rfl ?_
          refine m_stateBehind  ?_
          refine zw_istore_4 ⟨rfl, rfl⟩ ?_
          refine zw_iload ⟨rfl, rfl⟩ rfl ?_
          refine zw_aload ⟨rfl, rfl⟩ rfl ?_
          refine zw_getIv (v := n) ⟨rfl, rfl⟩ zc_105 (by decide) (hC.1.2) ?_
          refine zw_icge ⟨rfl, rfl⟩ rfl (fun c6 => ?_) (fun c6 => ?_)
          · skip
            refine zw_iinc_5 ⟨rfl, rfl⟩ (by omega) ?_
            refine zw_goto ⟨rfl, rfl⟩ rfl ?_
            refine ih _ _ _ ?_ ?_ ?_
            · omega
            · by_cases hpn : p + 1 ≤ n
              · rw [if_pos hpn, ybs_s K a t (by omega)]
                first | rw [if_pos (by omega)] | rw [if_neg (by omega)]
                first | (refine ⟨?_, ?_⟩ <;> dsimp only <;> grind) | grind
              · rw [if_neg hpn]
                unfold ybw
                have hpp : p = n := by omega
                subst hpp
                first | rw [if_pos (by omega)] | rw [if_neg (by omega)]
                grind
            · omega
          · skip
            refine zw_iload ⟨rfl, rfl⟩ rfl ?_
            refine zw_iload ⟨rfl, rfl⟩ rfl ?_
            refine zw_aload ⟨rfl, rfl⟩ rfl ?_
            refine zw_iload ⟨rfl, rfl⟩ rfl ?_
            refine zw_callv2 ⟨rfl, rfl⟩ rfl zc_105 rfl ?_
            refine m_kindAt hK hC ?_
            refine zw_calls2 ⟨rfl, rfl⟩ rfl rfl ?_
            refine m_breaks  ?_
            refine zw_ifeq ⟨rfl, rfl⟩ rfl (fun c7 => ?_) (fun c7 => ?_)
            · skip
              refine zw_const ⟨rfl, rfl⟩ ?_
              refine zw_iadd ⟨rfl, rfl⟩ (by omega) ?_
              refine zw_istore_3 ⟨rfl, rfl⟩ ?_
              refine zw_iload ⟨rfl, rfl⟩ rfl ?_
              refine zw_aload ⟨rfl, rfl⟩ rfl ?_
              refine zw_iload ⟨rfl, rfl⟩ rfl ?_
              refine zw_callv2 ⟨rfl, rfl⟩ rfl zc_105 rfl ?_
              refine m_kindAt hK hC ?_
              refine zw_calls2 ⟨rfl, rfl⟩ rfl rfl ?_
              refine m_stateBehind  ?_
              refine zw_istore_4 ⟨rfl, rfl⟩ ?_
              refine zw_iinc_5 ⟨rfl, rfl⟩ (by omega) ?_
              refine zw_goto ⟨rfl, rfl⟩ rfl ?_
              refine ih _ _ _ ?_ ?_ ?_
              · omega
              · by_cases hpn : p + 1 ≤ n
                · rw [if_pos hpn, ybs_s K a t (by omega)]
                  first | rw [if_pos (by omega)] | rw [if_neg (by omega)]
                  first | (refine ⟨?_, ?_⟩ <;> dsimp only <;> grind) | grind
                · rw [if_neg hpn]
                  unfold ybw
                  have hpp : p = n := by omega
                  subst hpp
                  first | rw [if_pos (by omega)] | rw [if_neg (by omega)]
                  grind
              · omega
            · skip
              refine zw_const ⟨rfl, rfl⟩ ?_
              refine zw_goto ⟨rfl, rfl⟩ rfl ?_
              refine zw_iadd ⟨rfl, rfl⟩ (by omega) ?_
              refine zw_istore_3 ⟨rfl, rfl⟩ ?_
              refine zw_iload ⟨rfl, rfl⟩ rfl ?_
              refine zw_aload ⟨rfl, rfl⟩ rfl ?_
              refine zw_iload ⟨rfl, rfl⟩ rfl ?_
              refine zw_callv2 ⟨rfl, rfl⟩ rfl zc_105 rfl ?_
              refine m_kindAt hK hC ?_
              refine zw_calls2 ⟨rfl, rfl⟩ rfl rfl ?_
              refine m_stateBehind  ?_
              refine zw_istore_4 ⟨rfl, rfl⟩ ?_
              refine zw_iinc_5 ⟨rfl, rfl⟩ (by omega) ?_
              refine zw_goto ⟨rfl, rfl⟩ rfl ?_
              refine ih _ _ _ ?_ ?_ ?_
              · omega
              · by_cases hpn : p + 1 ≤ n
                · rw [if_pos hpn, ybs_s K a t (by omega)]
                  first | rw [if_pos (by omega)] | rw [if_neg (by omega)]
                  first | (refine ⟨?_, ?_⟩ <;> dsimp only <;> grind) | grind
                · rw [if_neg hpn]
                  unfold ybw
                  have hpp : p = n := by omega
                  subst hpp
                  first | rw [if_pos (by omega)] | rw [if_neg (by omega)]
                  grind
              · omega
        · skip
          refine zw_const ⟨rfl, rfl⟩ ?_
          refine zw_goto ⟨rfl, rfl⟩ rfl ?_
          refine zw_iadd ⟨rfl, rfl⟩ (by omega) ?_
          refine zw_istore_3 ⟨rfl, rfl⟩ ?_
          refine zw_iload ⟨rfl, rfl⟩ rfl ?_
          refine zw_iload ⟨rfl, rfl⟩ rfl ?_
          refine zw_calls2 ⟨rfl, rfl⟩ rfl rfl ?_
          refine m_stateBehind  ?_
          refine zw_istore_4 ⟨rfl, rfl⟩ ?_
          refine zw_iload ⟨rfl, rfl⟩ rfl ?_
          refine zw_aload ⟨rfl, rfl⟩ rfl ?_
          refine zw_getIv (v := n) ⟨rfl, rfl⟩ zc_105 (by decide) (hC.1.2) ?_
          refine zw_icge ⟨rfl, rfl⟩ rfl (fun c8 => ?_) (fun c8 => ?_)
          · skip
            refine zw_iinc_5 ⟨rfl, rfl⟩ (by omega) ?_
            refine zw_goto ⟨rfl, rfl⟩ rfl ?_
            refine ih _ _ _ ?_ ?_ ?_
            · omega
            · by_cases hpn : p + 1 ≤ n
              · rw [if_pos hpn, ybs_s K a t (by omega)]
                first | rw [if_pos (by omega)] | rw [if_neg (by omega)]
                first | (refine ⟨?_, ?_⟩ <;> dsimp only <;> grind) | grind
              · rw [if_neg hpn]
                unfold ybw
                have hpp : p = n := by omega
                subst hpp
                first | rw [if_pos (by omega)] | rw [if_neg (by omega)]
                grind
            · omega
          · skip
            refine zw_iload ⟨rfl, rfl⟩ rfl ?_
            refine zw_iload ⟨rfl, rfl⟩ rfl ?_
            refine zw_aload ⟨rfl, rfl⟩ rfl ?_
            refine zw_iload ⟨rfl, rfl⟩ rfl ?_
            refine zw_callv2 ⟨rfl, rfl⟩ rfl zc_105 rfl ?_
            refine m_kindAt hK hC ?_
            refine zw_calls2 ⟨rfl, rfl⟩ rfl rfl ?_
            refine m_breaks  ?_
            refine zw_ifeq ⟨rfl, rfl⟩ rfl (fun c9 => ?_) (fun c9 => ?_)
            · skip
              refine zw_const ⟨rfl, rfl⟩ ?_
              refine zw_iadd ⟨rfl, rfl⟩ (by omega) ?_
              refine zw_istore_3 ⟨rfl, rfl⟩ ?_
              refine zw_iload ⟨rfl, rfl⟩ rfl ?_
              refine zw_aload ⟨rfl, rfl⟩ rfl ?_
              refine zw_iload ⟨rfl, rfl⟩ rfl ?_
              refine zw_callv2 ⟨rfl, rfl⟩ rfl zc_105 rfl ?_
              refine m_kindAt hK hC ?_
              refine zw_calls2 ⟨rfl, rfl⟩ rfl rfl ?_
              refine m_stateBehind  ?_
              refine zw_istore_4 ⟨rfl, rfl⟩ ?_
              refine zw_iinc_5 ⟨rfl, rfl⟩ (by omega) ?_
              refine zw_goto ⟨rfl, rfl⟩ rfl ?_
              refine ih _ _ _ ?_ ?_ ?_
              · omega
              · by_cases hpn : p + 1 ≤ n
                · rw [if_pos hpn, ybs_s K a t (by omega)]
                  first | rw [if_pos (by omega)] | rw [if_neg (by omega)]
                  first | (refine ⟨?_, ?_⟩ <;> dsimp only <;> grind) | grind
                · rw [if_neg hpn]
                  unfold ybw
                  have hpp : p = n := by omega
                  subst hpp
                  first | rw [if_pos (by omega)] | rw [if_neg (by omega)]
                  grind
              · omega
            · skip
              refine zw_const ⟨rfl, rfl⟩ ?_
              refine zw_goto ⟨rfl, rfl⟩ rfl ?_
              refine zw_iadd ⟨rfl, rfl⟩ (by omega) ?_
              refine zw_istore_3 ⟨rfl, rfl⟩ ?_
              refine zw_iload ⟨rfl, rfl⟩ rfl ?_
              refine zw_aload ⟨rfl, rfl⟩ rfl ?_
              refine zw_iload ⟨rfl, rfl⟩ rfl ?_
              refine zw_callv2 ⟨rfl, rfl⟩ rfl zc_105 rfl ?_
              refine m_kindAt hK hC ?_
              refine zw_calls2 ⟨rfl, rfl⟩ rfl rfl ?_
              refine m_stateBehind  ?_
              refine zw_istore_4 ⟨rfl, rfl⟩ ?_
              refine zw_iinc_5 ⟨rfl, rfl⟩ (by omega) ?_
              refine zw_goto ⟨rfl, rfl⟩ rfl ?_
              refine ih _ _ _ ?_ ?_ ?_
              · omega
              · by_cases hpn : p + 1 ≤ n
                · rw [if_pos hpn, ybs_s K a t (by omega)]
                  first | rw [if_pos (by omega)] | rw [if_neg (by omega)]
                  first | (refine ⟨?_, ?_⟩ <;> dsimp only <;> grind) | grind
                · rw [if_neg hpn]
                  unfold ybw
                  have hpp : p = n := by omega
                  subst hpp
                  first | rw [if_pos (by omega)] | rw [if_neg (by omega)]
                  grind
              · omega
end

theorem m_brokenWith {a t : Int} {M : zM} {Q : zV → zM → Prop} {K : Int → Int} {n : Int} (hK : yKr K n) (hC : yCut M K n) (k : Q (0, ybw K n a t) M) : zWp kCu_brokenWith 0 [(1, 105), (0, a), (0, t), (3, 0), (3, 0), (3, 0)] [] M Q := by
  refine zw_const ⟨rfl, rfl⟩ ?_
  refine zw_istore_3 ⟨rfl, rfl⟩ ?_
  refine zw_const ⟨rfl, rfl⟩ ?_
  refine zw_istore_4 ⟨rfl, rfl⟩ ?_
  refine zw_const ⟨rfl, rfl⟩ ?_
  refine zw_istore_5 ⟨rfl, rfl⟩ ?_
  exact m_brokenWith_l hK hC k _ _ _ _ ⟨by decide, by have := hK.1; omega⟩ (by rw [if_pos hK.1.1]; exact ⟨rfl, rfl⟩) (Nat.lt_succ_self _)
end
section
/-! A cluster's chain, where its end begins, where it is over -/
theorem ygo_6 {k : Int} (h : ¬ (k = 10 ∨ k = 11)) : ygo 6 k = -1 := by grind (splits := 20) [ygo]
theorem ygo_4 {k : Int} (h : ¬ (k = 10 ∨ k = 11)) (h1 : k ≠ 1) : ygo 4 k = -1 := by grind (splits := 20) [ygo]
theorem ygo_9 {k : Int} (h : ¬ (k = 10 ∨ k = 11)) (h1 : ¬ (k = 12 ∨ k = 13)) : ygo 9 k = -1 := by grind (splits := 20) [ygo]
theorem ygo_3 {k : Int} (h : ¬ (k = 10 ∨ k = 11)) (h1 : ¬ (k = 12 ∨ k = 13)) (h2 : k ≠ 1) : ygo 3 k = -1 := by grind (splits := 20) [ygo]
theorem ygo_5 {k : Int} (h : ¬ (k = 10 ∨ k = 11)) (h1 : ¬ (5 ≤ k ∧ k ≤ 9)) : ygo 5 k = -1 := by grind (splits := 20) [ygo]
theorem ygo_7 {k : Int} (h : ¬ (k = 10 ∨ k = 11)) (h4 : k ≠ 4) : ygo 7 k = -1 := by grind (splits := 20) [ygo]
theorem yfs_0 {k : Int} (h : k = 0 ∨ k = 12 ∨ k = 13) : yfs k = 0 := by grind (splits := 20) [yfs]
theorem ygo_128 {s k : Int} (hs : s = 1 ∨ s = 2 ∨ s = 8) (h : ¬ (k = 10 ∨ k = 11)) (h1 : ¬ (5 ≤ k ∧ k ≤ 9)) (h3 : k ≠ 3) (h4 : s = 1 → k ≠ 4) : ygo s k = -1 := by grind (splits := 20) [ygo]
theorem ygo_m {s k : Int} (hs : s ≠ 0) (h : k = 10 ∨ k = 11) : ygo s k = 6 := by grind (splits := 20) [ygo]
theorem ygo_g {s k : Int} (hs : s = 1 ∨ s = 2 ∨ s = 8 ∨ s = 5) (h : 5 ≤ k ∧ k ≤ 9) : ygo s k = 5 := by grind (splits := 20) [ygo]
def yq (K : Int → Int) (p : Int) : Int := if K (p + 1) = 4 then p + 2 else p + 1
def ync (K : Int → Int) (p : Int) : Int :=
  if K (yq K p) = 3 then (if K (yq K p + 1) = 12 ∨ K (yq K p + 1) = 13 then (if K (yq K p + 2) = 1 then yq K p + 2 else -1) else if K (yq K p + 1) = 1 then yq K p + 1 else -1) else -1
def ypl0 (K : Int → Int) (b : Int) : Nat → Int
  | 0 => b
  | k + 1 => ync K (ypl0 K b k)
def ypl (K : Int → Int) (b k : Int) : Int := ypl0 K b k.toNat
def ym0 (K : Int → Int) : Nat → Int → Int
  | 0, _ => 1
  | f + 1, p => if ync K p = -1 then 1 else ym0 K f (ync K p) + 1
def ym (K : Int → Int) (b : Int) : Int := ym0 K 60 b
def ynk (K : Int → Int) (p : Int) : Int := if K (p + 1) = 4 then p + 1 else -1
def yvi (K : Int → Int) (p : Int) : Int := if ync K p = -1 then -1 else yq K p
def yjo (K : Int → Int) (p : Int) : Int := if ync K p = -1 then -1 else if K (yq K p + 1) = 12 ∨ K (yq K p + 1) = 13 then yq K p + 1 else -1
/-- where the end begins -/
def ytl (K : Int → Int) (b : Int) : Int :=
  if K b = 1 then yq K (ypl K b (ym K b - 1)) else if K b = 2 then (if K (b + 1) = 4 then b + 2 else b + 1) else if yso (K b) = 2 then (if K b = 4 then b + 1 else b) else b + 1
def ydd (K : Int → Int) (b : Int) : Int := if (yso (K b) = 0 ∨ yso (K b) = 2) ∧ K (ytl K b) = 3 then 1 else 0
def ysg (K : Int → Int) : Nat → Int → Int
  | 0, p => p
  | f + 1, p => if 5 ≤ K p ∧ K p ≤ 9 then ysg K f (p + 1) else p
def ymk (K : Int → Int) : Nat → Int → Int
  | 0, p => p
  | f + 1, p => if K p = 10 ∨ K p = 11 then ymk K f (p + 1) else p
def yed (K : Int → Int) (t : Int) : Int := if K t = 3 then ymk K 61 (if K (t + 1) = 12 ∨ K (t + 1) = 13 then t + 2 else t + 1) else ymk K 61 (ysg K 61 t)
/-- where a cluster that begins at b is over -/
def yov (K : Int → Int) (b : Int) : Int := if yso (K b) = 0 ∨ yso (K b) = 2 then yed K (ytl K b) else if K b = 2 then ymk K 61 (ytl K b) else b + 1
theorem ypl_0 (K : Int → Int) (b : Int) : ypl K b 0 = b := rfl
theorem ypl_s (K : Int → Int) (b : Int) {k : Int} (h : 0 ≤ k) : ypl K b (k + 1) = ync K (ypl K b k) := by
  unfold ypl
  rw [show (k + 1).toNat = k.toNat + 1 by omega]
  rfl
theorem yq_r (K : Int → Int) (p : Int) : p + 1 ≤ yq K p ∧ yq K p ≤ p + 2 := by unfold yq; split <;> omega
theorem ync_r {K : Int → Int} {p : Int} (h : ync K p ≠ -1) : (yq K p + 1 ≤ ync K p ∧ ync K p ≤ yq K p + 2) ∧ K (ync K p) = 1 ∧ K (yq K p) = 3 ∧ (ync K p = yq K p + 2 ↔ (K (yq K p + 1) = 12 ∨ K (yq K p + 1) = 13)) := by
  unfold ync at h ⊢
  split at h
  · rename_i h3
    rw [if_pos h3]
    split at h
    · rename_i h4
      rw [if_pos h4]
      split at h
      · rename_i h5; rw [if_pos h5]; exact ⟨by omega, h5, h3, fun _ => h4, fun _ => rfl⟩
      · exact absurd rfl h
    · rename_i h4
      rw [if_neg h4]
      split at h
      · rename_i h5; rw [if_pos h5]; exact ⟨by omega, h5, h3, fun z => by omega, fun z => absurd z h4⟩
      · exact absurd rfl h
  · exact absurd rfl h
theorem ync_lt {K : Int → Int} {n p : Int} (hK : yKr K n) (hp : 0 ≤ p) (h : ync K p ≠ -1) : p + 2 ≤ ync K p ∧ ync K p < n := by
  obtain ⟨a, b, -⟩ := ync_r h
  have := yq_r K p
  refine ⟨by omega, ?_⟩
  by_cases q : ync K p < n
  · exact q
  · rw [hK.2.2 _ (by omega)] at b
    omega
/-- the chain: m consonants, each the next of the one ahead, behind the last one none -/
theorem ym_sp {K : Int → Int} {n : Int} (hK : yKr K n) : ∀ (f : Nat) (b : Int), 0 ≤ b → b < n → n - b ≤ f → K b = 1 → (1 ≤ ym0 K f b ∧ 2 * ym0 K f b ≤ n - b + 1) ∧ ∀ k : Nat, (k : Int) < ym0 K f b → (K (ypl0 K b k) = 1 ∧ b + 2 * k ≤ ypl0 K b k ∧ ypl0 K b k < n) ∧ (ync K (ypl0 K b k) = -1 ↔ (k : Int) = ym0 K f b - 1) := by
  intro f
  induction f with
  | zero => intro b h0 h1 h2 h3; omega
  | succ f ih =>
    intro b h0 h1 h2 h3
    unfold ym0
    by_cases hc : ync K b = -1
    · rw [if_pos hc]
      refine ⟨by omega, fun k hk => ?_⟩
      have : k = 0 := by omega
      subst this
      refine ⟨⟨h3, by show b + 2 * 0 ≤ b; omega, h1⟩, by show ync K b = -1 ↔ _; rw [hc]; simp⟩
    · rw [if_neg hc]
      have hl := ync_lt hK h0 hc
      have hr := (ync_r hc).2.1
      obtain ⟨a1, a2⟩ := ih (ync K b) (by omega) hl.2 (by omega) hr
      refine ⟨by omega, fun k hk => ?_⟩
      cases k with
      | zero => exact ⟨⟨h3, by show b + 2 * 0 ≤ b; omega, h1⟩, by show ync K b = -1 ↔ _; exact ⟨fun z => absurd z hc, fun z => by have : ((0 : Nat) : Int) = 0 := rfl; omega⟩⟩
      | succ k =>
        have e : ∀ j : Nat, ypl0 K b (j + 1) = ypl0 K (ync K b) j := by
          intro j
          induction j with
          | zero => rfl
          | succ j ihj => show ync K (ypl0 K b (j + 1)) = ync K (ypl0 K (ync K b) j); rw [ihj]
        rw [e k]
        obtain ⟨b1, b2⟩ := a2 k (by omega)
        refine ⟨⟨b1.1, by omega, b1.2.2⟩, ?_⟩
        rw [b2]
        omega
theorem ym_r {K : Int → Int} {n b : Int} (hK : yKr K n) (h0 : 0 ≤ b) (h1 : b < n) (hb : K b = 1) : 1 ≤ ym K b ∧ 2 * ym K b ≤ n - b + 1 := (ym_sp hK 60 b h0 h1 (by have := hK.1; omega) hb).1
theorem ypl_r {K : Int → Int} {n b k : Int} (hK : yKr K n) (h0 : 0 ≤ b) (h1 : b < n) (hb : K b = 1) (hk : 0 ≤ k) (h2 : k < ym K b) : (K (ypl K b k) = 1 ∧ b + 2 * k ≤ ypl K b k ∧ ypl K b k < n) ∧ (ync K (ypl K b k) = -1 ↔ k = ym K b - 1) := by
  have := (ym_sp hK 60 b h0 h1 (by have := hK.1; omega) hb).2 k.toNat (by show (k.toNat : Int) < ym K b; omega)
  rw [show (k.toNat : Int) = k by omega] at this
  exact this
theorem ypl_u {K : Int → Int} {n b k : Int} (hK : yKr K n) (h0 : 0 ≤ b) (h1 : b < n) (hb : K b = 1) (hk : 0 ≤ k) (hn : ∀ j, 0 ≤ j → j < k → ync K (ypl K b j) ≠ -1) (hl : ync K (ypl K b k) = -1) : k = ym K b - 1 := by
  have r := ym_r hK h0 h1 hb
  by_cases hlt : k < ym K b
  · exact (ypl_r hK h0 h1 hb hk hlt).2.mp hl
  · exact absurd ((ypl_r hK h0 h1 hb (show 0 ≤ ym K b - 1 by omega) (by omega)).2.mpr rfl) (hn _ (by omega) (by omega))
theorem ypl_n {K : Int → Int} {n b k : Int} (hK : yKr K n) (h0 : 0 ≤ b) (h1 : b < n) (hb : K b = 1) (hk : 0 ≤ k) (h2 : k + 1 < ym K b) : ync K (ypl K b k) = ypl K b (k + 1) ∧ ync K (ypl K b k) ≠ -1 ∧ ypl K b k + 2 ≤ ypl K b (k + 1) := by
  have a := (ypl_r hK h0 h1 hb hk (by omega))
  have c : ync K (ypl K b k) ≠ -1 := fun z => by have := a.2.mp z; omega
  have d := ync_lt hK (by omega) c
  rw [ypl_s K b hk]
  exact ⟨rfl, c, d.1⟩
theorem ysg_sp {K : Int → Int} {n : Int} (hK : yKr K n) : ∀ (f : Nat) (p : Int), 0 ≤ p → p ≤ n → n - p < f → (p ≤ ysg K f p ∧ ysg K f p ≤ n) ∧ ¬ (5 ≤ K (ysg K f p) ∧ K (ysg K f p) ≤ 9) ∧ ∀ s, p ≤ s → s < ysg K f p → 5 ≤ K s ∧ K s ≤ 9 := by
  intro f
  induction f with
  | zero => intro p h0 h1 h2; omega
  | succ f ih =>
    intro p h0 h1 h2
    unfold ysg
    by_cases h : 5 ≤ K p ∧ K p ≤ 9
    · rw [if_pos h]
      have hp : p < n := by
        by_cases q : p < n
        · exact q
        · rw [hK.2.2 p (by omega)] at h; omega
      obtain ⟨a1, a2, a3⟩ := ih (p + 1) (by omega) (by omega) (by omega)
      refine ⟨by omega, a2, fun s b1 b2 => ?_⟩
      by_cases hs : s = p
      · subst hs; exact h
      · exact a3 s (by omega) b2
    · rw [if_neg h]
      exact ⟨by omega, h, fun s b1 b2 => by omega⟩
theorem ymk_sp {K : Int → Int} {n : Int} (hK : yKr K n) : ∀ (f : Nat) (p : Int), 0 ≤ p → p ≤ n → n - p < f → (p ≤ ymk K f p ∧ ymk K f p ≤ n) ∧ ¬ (K (ymk K f p) = 10 ∨ K (ymk K f p) = 11) ∧ ∀ s, p ≤ s → s < ymk K f p → K s = 10 ∨ K s = 11 := by
  intro f
  induction f with
  | zero => intro p h0 h1 h2; omega
  | succ f ih =>
    intro p h0 h1 h2
    unfold ymk
    by_cases h : K p = 10 ∨ K p = 11
    · rw [if_pos h]
      have hp : p < n := by
        by_cases q : p < n
        · exact q
        · rw [hK.2.2 p (by omega)] at h; omega
      obtain ⟨a1, a2, a3⟩ := ih (p + 1) (by omega) (by omega) (by omega)
      refine ⟨by omega, a2, fun s b1 b2 => ?_⟩
      by_cases hs : s = p
      · subst hs; exact h
      · exact a3 s (by omega) b2
    · rw [if_neg h]
      exact ⟨by omega, h, fun s b1 b2 => by omega⟩
theorem ysg_u {K : Int → Int} {n p r : Int} (hK : yKr K n) (h0 : 0 ≤ p) (h1 : p ≤ n) (hr : p ≤ r) (ha : ∀ s, p ≤ s → s < r → 5 ≤ K s ∧ K s ≤ 9) (hn : ¬ (5 ≤ K r ∧ K r ≤ 9)) : ysg K 61 p = r := by
  obtain ⟨a1, a2, a3⟩ := ysg_sp hK 61 p h0 h1 (by have := hK.1; omega)
  by_cases h : ysg K 61 p < r
  · exact absurd (ha _ a1.1 h) a2
  · by_cases h2 : r < ysg K 61 p
    · exact absurd (a3 r hr h2) hn
    · omega
theorem ymk_u {K : Int → Int} {n p r : Int} (hK : yKr K n) (h0 : 0 ≤ p) (h1 : p ≤ n) (hr : p ≤ r) (ha : ∀ s, p ≤ s → s < r → K s = 10 ∨ K s = 11) (hn : ¬ (K r = 10 ∨ K r = 11)) : ymk K 61 p = r := by
  obtain ⟨a1, a2, a3⟩ := ymk_sp hK 61 p h0 h1 (by have := hK.1; omega)
  by_cases h : ymk K 61 p < r
  · exact absurd (ha _ a1.1 h) a2
  · by_cases h2 : r < ymk K 61 p
    · exact absurd (a3 r hr h2) hn
    · omega
/-- a run of letters none of which begins a cluster, the automaton's state behind it -/
def yrun (K : Int → Int) (b p : Int) : Prop := b < p ∧ ∀ s, b < s → s < p → ¬ ybg K s
theorem yrun.s {K : Int → Int} {b p : Int} (hb : 0 ≤ b) (h : yrun K b p) (hg : ygo (ysi K p) (K p) ≠ -1) : yrun K b (p + 1) ∧ ysi K (p + 1) = ygo (ysi K p) (K p) := by
  refine ⟨⟨by have := h.1; omega, fun s h1 h2 => ?_⟩, ysi_n K (by have := h.1; omega) hg⟩
  by_cases hs : s = p
  · subst hs; exact hg
  · exact h.2 s h1 (by omega)
theorem ykp {K : Int → Int} {n p : Int} (hK : yKr K n) (h : K p ≠ -1) : 0 ≤ p ∧ p < n := by
  by_cases q : 0 ≤ p ∧ p < n
  · exact q
  · exact absurd (hK.2.2 p q) h
/-- behind a consonant: its nukta -/
theorem yrun_q {K : Int → Int} {n b p : Int} (hK : yKr K n) (hb : 0 ≤ b) (h : yrun K b (p + 1)) (hs : ysi K (p + 1) = 1) : yrun K b (yq K p) ∧ ((ysi K (yq K p) = 1 ∧ K (yq K p) ≠ 4) ∨ ysi K (yq K p) = 2) := by
  unfold yq
  split
  · rename_i h4
    have hg : ygo (ysi K (p + 1)) (K (p + 1)) = 2 := by rw [hs, h4]; decide
    obtain ⟨a, b⟩ := h.s hb (by rw [hg]; decide)
    rw [show p + 1 + 1 = p + 2 by omega] at a b
    exact ⟨a, Or.inr (by rw [b, hg])⟩
  · rename_i h4
    exact ⟨h, Or.inl ⟨hs, h4⟩⟩
theorem yrun_c {K : Int → Int} {n b p : Int} (hK : yKr K n) (hb : 0 ≤ b) (h : yrun K b (p + 1)) (hs : ysi K (p + 1) = 1) (hc : ync K p ≠ -1) : yrun K b (ync K p + 1) ∧ ysi K (ync K p + 1) = 1 := by
  obtain ⟨a1, a2⟩ := yrun_q hK hb h hs
  obtain ⟨r1, r2, r3, r4⟩ := ync_r hc
  have g1 : ygo (ysi K (yq K p)) (K (yq K p)) = 3 := by rw [r3]; rcases a2 with ⟨z, -⟩ | z <;> rw [z] <;> decide
  obtain ⟨b1, b2⟩ := a1.s hb (by rw [g1]; decide)
  rw [g1] at b2
  by_cases hj : K (yq K p + 1) = 12 ∨ K (yq K p + 1) = 13
  · have e := r4.mpr hj
    have g2 : ygo (ysi K (yq K p + 1)) (K (yq K p + 1)) = 4 := by rw [b2]; rcases hj with z | z <;> rw [z] <;> decide
    obtain ⟨c1, c2⟩ := b1.s hb (by rw [g2]; decide)
    rw [g2] at c2
    rw [show yq K p + 1 + 1 = ync K p by omega] at c1 c2
    have g3 : ygo (ysi K (ync K p)) (K (ync K p)) = 1 := by rw [c2, r2]; decide
    obtain ⟨d1, d2⟩ := c1.s hb (by rw [g3]; decide)
    exact ⟨d1, by rw [d2, g3]⟩
  · have e : ync K p = yq K p + 1 := by
      have : ync K p ≠ yq K p + 2 := fun z => hj (r4.mp z)
      omega
    rw [e]
    rw [e] at r2
    have g3 : ygo (ysi K (yq K p + 1)) (K (yq K p + 1)) = 1 := by rw [b2, r2]; decide
    obtain ⟨d1, d2⟩ := b1.s hb (by rw [g3]; decide)
    exact ⟨d1, by rw [d2, g3]⟩
theorem yrun_b {K : Int → Int} {b : Int} : yrun K b (b + 1) := ⟨by omega, fun s h1 h2 => by omega⟩
theorem yrun_m {K : Int → Int} {b : Int} (hb : 0 ≤ b) : ∀ (k : Nat) (p : Int), yrun K b p → (ysi K p ≠ 0) → (∀ s, p ≤ s → s < p + k → K s = 10 ∨ K s = 11) → yrun K b (p + k) ∧ (ysi K (p + k) = 6 ∨ (k = 0)) := by
  intro k
  induction k with
  | zero => intro p h _ _; rw [show p + ((0 : Nat) : Int) = p by omega]; exact ⟨h, Or.inr rfl⟩
  | succ k ih =>
    intro p h h0 hm
    have h1 := hm p (Int.le_refl _) (by omega)
    have g : ygo (ysi K p) (K p) = 6 := by
      exact ygo_m h0 h1
    obtain ⟨a, b⟩ := h.s hb (by rw [g]; decide)
    rw [g] at b
    obtain ⟨c, d⟩ := ih (p + 1) a (by rw [b]; decide) (fun s q1 q2 => hm s (by omega) (by omega))
    rw [show p + ((k + 1 : Nat) : Int) = p + 1 + k by omega]
    refine ⟨c, Or.inl ?_⟩
    rcases d with d | d
    · exact d
    · subst d; rw [show p + 1 + ((0 : Nat) : Int) = p + 1 by omega]; exact b
theorem yrun_g {K : Int → Int} {b : Int} (hb : 0 ≤ b) : ∀ (k : Nat) (p : Int), yrun K b p → (ysi K p = 1 ∨ ysi K p = 2 ∨ ysi K p = 8 ∨ ysi K p = 5) → (∀ s, p ≤ s → s < p + k → 5 ≤ K s ∧ K s ≤ 9) → yrun K b (p + k) ∧ (ysi K (p + k) = 5 ∨ k = 0) := by
  intro k
  induction k with
  | zero => intro p h h1 _; rw [show p + ((0 : Nat) : Int) = p by omega]; exact ⟨h, Or.inr rfl⟩
  | succ k ih =>
    intro p h h0 hm
    have h1 := hm p (Int.le_refl _) (by omega)
    have g : ygo (ysi K p) (K p) = 5 := ygo_g h0 h1
    obtain ⟨a, b⟩ := h.s hb (by rw [g]; decide)
    rw [g] at b
    obtain ⟨c, d⟩ := ih (p + 1) a (by rw [b]; decide) (fun s q1 q2 => hm s (by omega) (by omega))
    rw [show p + ((k + 1 : Nat) : Int) = p + 1 + k by omega]
    refine ⟨c, Or.inl ?_⟩
    rcases d with d | d
    · exact d
    · subst d; rw [show p + 1 + ((0 : Nat) : Int) = p + 1 by omega]; exact b
/-- marks to their end: the cluster is over there -/
theorem yrun_me {K : Int → Int} {n b p : Int} (hK : yKr K n) (hb : 0 ≤ b) (h : yrun K b p) (hp : p ≤ n) (h0 : ysi K p ≠ 0) (hx : ∀ k, ¬ (k = 10 ∨ k = 11) → k = K p → ygo (ysi K p) k = -1) : yrun K b (ymk K 61 p) ∧ ybg K (ymk K 61 p) := by
  obtain ⟨a1, a2, a3⟩ := ymk_sp hK 61 p (by have := h.1; omega) hp (by have := hK.1; have := h.1; omega)
  obtain ⟨b1, b2⟩ := yrun_m hb (ymk K 61 p - p).toNat p h h0 (fun s q1 q2 => a3 s q1 (by omega))
  rw [show p + (((ymk K 61 p - p).toNat : Nat) : Int) = ymk K 61 p by omega] at b1 b2
  refine ⟨b1, ?_⟩
  unfold ybg
  rcases b2 with z | z
  · rw [z]
    exact ygo_6 a2
  · have e : ymk K 61 p = p := by omega
    rw [e] at a2 ⊢
    exact hx _ a2 rfl
theorem yrun_ed {K : Int → Int} {n b t : Int} (hK : yKr K n) (hb : 0 ≤ b) (ht : t ≤ n) (h : (b = t ∧ ybg K b ∧ (K b = 3 ∨ (5 ≤ K b ∧ K b ≤ 11))) ∨ yrun K b t ∧ (ysi K t = 1 ∨ ysi K t = 2 ∨ ysi K t = 8)) (hx : K t = 3 → b < t → ysi K t ≠ 8 → K (t + 1) ≠ 1 ∧ ((K (t + 1) = 12 ∨ K (t + 1) = 13) → K (t + 2) ≠ 1)) (hx2 : ysi K t = 1 → b < t → K t ≠ 4) : yrun K b (yed K t) ∧ ybg K (yed K t) := by
  unfold yed
  split
  · rename_i h3
    have htn := (ykp hK (p := t) (by rw [h3]; decide)).2
    have hr : yrun K b (t + 1) ∧ (ysi K (t + 1) = 9 ∨ (ysi K (t + 1) = 3 ∧ K (t + 1) ≠ 1 ∧ ((K (t + 1) = 12 ∨ K (t + 1) = 13) → K (t + 2) ≠ 1))) := by
      rcases h with ⟨rfl, h2, -⟩ | ⟨h1, h2⟩
      · exact ⟨yrun_b, Or.inl (by rw [ysi_b K hb h2, h3]; decide)⟩
      · by_cases h8 : ysi K t = 8
        · have g : ygo (ysi K t) (K t) = 9 := by rw [h3, h8]; decide
          obtain ⟨a, c⟩ := h1.s hb (by rw [g]; decide)
          exact ⟨a, Or.inl (by rw [c, g])⟩
        · have g : ygo (ysi K t) (K t) = 3 := by rw [h3]; rcases h2 with z | z | z <;> first | (rw [z]; decide) | exact absurd z h8
          obtain ⟨a, c⟩ := h1.s hb (by rw [g]; decide)
          exact ⟨a, Or.inr ⟨by rw [c, g], hx h3 h1.1 h8⟩⟩
    obtain ⟨r1, r2⟩ := hr
    split
    · rename_i hj
      have g : ygo (ysi K (t + 1)) (K (t + 1)) = 6 ∨ (ygo (ysi K (t + 1)) (K (t + 1)) = 4 ∧ K (t + 2) ≠ 1) := by
        rcases r2 with z | ⟨z, z1, z2⟩
        · left; rw [z]; rcases hj with y | y <;> rw [y] <;> decide
        · right; rw [z]; exact ⟨by rcases hj with y | y <;> rw [y] <;> decide, z2 hj⟩
      obtain ⟨a, c⟩ := r1.s hb (by rcases g with z | ⟨z, -⟩ <;> rw [z] <;> decide)
      rw [show t + 1 + 1 = t + 2 by omega] at a c
      have ht2 : t + 1 < n := (ykp hK (p := t + 1) (by rcases hj with z | z <;> rw [z] <;> decide)).2
      refine yrun_me hK hb a (by omega) (by rw [c]; rcases g with z | ⟨z, -⟩ <;> rw [z] <;> decide) (fun k q1 q2 => ?_)
      rw [c]
      rcases g with z | ⟨z, z1⟩
      · rw [z]; exact ygo_6 q1
      · rw [z]
        exact ygo_4 q1 (by rw [q2]; exact z1)
    · rename_i hj
      refine yrun_me hK hb r1 (by omega) (by rcases r2 with z | ⟨z, -⟩ <;> rw [z] <;> decide) (fun k q1 q2 => ?_)
      rcases r2 with z | ⟨z, z1, -⟩
      · rw [z]
        exact ygo_9 q1 (by rw [q2]; exact hj)
      · rw [z]
        exact ygo_3 q1 (by rw [q2]; exact hj) (by rw [q2]; exact z1)
  · rename_i h3
    have ht0 : 0 ≤ t := by rcases h with ⟨z, -⟩ | ⟨z, -⟩ <;> first | omega | (have := z.1; omega)
    obtain ⟨a1, a2, a3⟩ := ysg_sp hK 61 t ht0 ht (by have := hK.1; omega)
    have hsig : ∀ q, yrun K b q → t ≤ q → q ≤ ysg K 61 t → (ysi K q = 1 ∨ ysi K q = 2 ∨ ysi K q = 8 ∨ ysi K q = 5) → (q = ysg K 61 t → ysi K q ≠ 5 → ysg K 61 t = t ∧ b < t) → yrun K b (ymk K 61 (ysg K 61 t)) ∧ ybg K (ymk K 61 (ysg K 61 t)) := by
      intro q h1 h2 h4 h5 h6
      obtain ⟨c1, c2⟩ := yrun_g hb (ysg K 61 t - q).toNat q h1 h5 (fun s q1 q2 => a3 s (by omega) (by omega))
      rw [show q + (((ysg K 61 t - q).toNat : Nat) : Int) = ysg K 61 t by omega] at c1 c2
      by_cases h7 : ysi K (ysg K 61 t) = 5
      · exact yrun_me hK hb c1 a1.2 (by rw [h7]; decide) (fun k q1 q2 => by rw [h7]; exact ygo_5 q1 (by rw [q2]; exact a2))
      · have e : q = ysg K 61 t := by have := c2.resolve_left h7; omega
        rw [← e] at h7
        obtain ⟨e2, e3⟩ := h6 e h7
        rw [e2] at a2 ⊢
        rw [e2] at e
        subst e
        refine yrun_me hK hb h1 ht (by omega) (fun k q1 q2 => ygo_128 (by omega) q1 (by rw [q2]; exact a2) (by rw [q2]; exact h3) (fun z => by rw [q2]; exact hx2 z e3))
    rcases h with ⟨rfl, h2, h4⟩ | ⟨h1, h2⟩
    · rcases h4 with h4 | h4
      · exact absurd h4 h3
      · by_cases h5 : K b ≤ 9
        · have e : ysi K (b + 1) = 5 := by
            rw [ysi_b K hb h2]
            have : ∀ k : Int, 5 ≤ k → k ≤ 9 → yfs k = 5 := by grind [yfs]
            exact this _ h4.1 h5
          have hlt : b < ysg K 61 b := by
            by_cases q : b < ysg K 61 b
            · exact q
            · rw [show ysg K 61 b = b by omega] at a2; exact absurd ⟨h4.1, h5⟩ a2
          exact hsig (b + 1) yrun_b (by omega) (by omega) (by omega) (fun _ z => absurd e z)
        · have e : ysg K 61 b = b := by
            by_cases q : b < ysg K 61 b
            · have := a3 b (Int.le_refl _) q; omega
            · omega
          rw [e]
          have e6 : ysi K (b + 1) = 6 := by
            rw [ysi_b K hb h2]
            have : ∀ k : Int, (k = 10 ∨ k = 11) → yfs k = 6 := by grind [yfs]
            exact this _ (by omega)
          have hbn := (ykp hK (p := b) (by omega)).2
          obtain ⟨d1, d2, d3⟩ := ymk_sp hK 61 b hb ht (by have := hK.1; omega)
          have hlt : b < ymk K 61 b := by
            by_cases q : b < ymk K 61 b
            · exact q
            · rw [show ymk K 61 b = b by omega] at d2; exact absurd (show K b = 10 ∨ K b = 11 by omega) d2
          rw [← ymk_u hK (p := b + 1) (by omega) (by omega) (by omega) (fun s q1 q2 => d3 s (by omega) q2) d2]
          exact yrun_me hK hb yrun_b (by omega) (by rw [e6]; decide) (fun k q1 q2 => by rw [e6]; exact ygo_6 q1)
    · exact hsig t h1 (Int.le_refl _) a1.1 (by omega) (fun z _ => ⟨z.symm, h1.1⟩)
theorem yq_n {K : Int → Int} {n p : Int} (hK : yKr K n) (h : p < n) : yq K p ≤ n := by
  unfold yq
  split
  · rename_i h4
    have := (ykp hK (p := p + 1) (by rw [h4]; decide)).2
    omega
  · omega
/-- the chain's letters, one behind the other, in one cluster -/
theorem yrun_pl {K : Int → Int} {n b : Int} (hK : yKr K n) (h0 : 0 ≤ b) (h1 : b < n) (hb : ybg K b) (h : K b = 1) : ∀ k : Nat, (k : Int) < ym K b → yrun K b (ypl K b k + 1) ∧ ysi K (ypl K b k + 1) = 1 := by
  intro k
  induction k with
  | zero =>
    intro _
    show yrun K b (b + 1) ∧ ysi K (b + 1) = 1
    exact ⟨yrun_b, by rw [ysi_b K h0 hb, h]; decide⟩
  | succ k ih =>
    intro hk
    obtain ⟨a1, a2⟩ := ih (by omega)
    obtain ⟨c1, c2, c3⟩ := ypl_n hK h0 h1 h (k := (k : Int)) (by omega) (by omega)
    rw [show ((k + 1 : Nat) : Int) = (k : Int) + 1 by omega, ← c1]
    exact yrun_c hK h0 a1 a2 c2
theorem ync_x {K : Int → Int} {p : Int} (h : ync K p = -1) (hp : 0 ≤ p) (h3 : K (yq K p) = 3) : K (yq K p + 1) ≠ 1 ∧ ((K (yq K p + 1) = 12 ∨ K (yq K p + 1) = 13) → K (yq K p + 2) ≠ 1) := by
  have := yq_r K p
  unfold ync at h
  rw [if_pos h3] at h
  split at h
  · rename_i hj
    refine ⟨by rcases hj with z | z <;> rw [z] <;> decide, fun _ z => ?_⟩
    rw [if_pos z] at h
    omega
  · rename_i hj
    refine ⟨fun z => ?_, fun z => absurd z hj⟩
    rw [if_pos z] at h
    omega
theorem yed_le {K : Int → Int} {n t : Int} (hK : yKr K n) (h0 : 0 ≤ t) (h1 : t ≤ n) : (t ≤ yed K t ∧ yed K t ≤ n) ∧ ∀ s, t ≤ s → s < yed K t → (s = t ∧ K t = 3) ∨ (s = t + 1 ∧ K t = 3 ∧ (K s = 12 ∨ K s = 13)) ∨ (5 ≤ K s ∧ K s ≤ 11) := by
  unfold yed
  have hn := hK.1
  split
  · rename_i h3
    have ht := (ykp hK (p := t) (by rw [h3]; decide)).2
    split
    · rename_i hj
      have ht := (ykp hK (p := t + 1) (by rcases hj with z | z <;> rw [z] <;> decide)).2
      obtain ⟨a1, a2, a3⟩ := ymk_sp hK 61 (t + 2) (by omega) (by omega) (by omega)
      refine ⟨⟨by omega, a1.2⟩, fun s q1 q2 => ?_⟩
      by_cases e1 : s = t
      · exact Or.inl ⟨e1, h3⟩
      · by_cases e2 : s = t + 1
        · subst e2; exact Or.inr (Or.inl ⟨rfl, h3, hj⟩)
        · have := a3 s (by omega) q2
          exact Or.inr (Or.inr (by omega))
    · obtain ⟨a1, a2, a3⟩ := ymk_sp hK 61 (t + 1) (by omega) (by omega) (by omega)
      refine ⟨⟨by omega, a1.2⟩, fun s q1 q2 => ?_⟩
      by_cases e1 : s = t
      · exact Or.inl ⟨e1, h3⟩
      · have := a3 s (by omega) q2
        exact Or.inr (Or.inr (by omega))
  · obtain ⟨b1, b2, b3⟩ := ysg_sp hK 61 t h0 h1 (by omega)
    obtain ⟨a1, a2, a3⟩ := ymk_sp hK 61 (ysg K 61 t) (by omega) b1.2 (by omega)
    refine ⟨⟨by omega, a1.2⟩, fun s q1 q2 => Or.inr (Or.inr ?_)⟩
    by_cases e : s < ysg K 61 t
    · have := b3 s q1 e; omega
    · have := a3 s (by omega) q2; omega
/-- the tail's letters -/
def yTail (K : Int → Int) (b : Int) : Prop := ∀ s, ytl K b ≤ s → s < yov K b → (s = ytl K b ∧ ydd K b = 1 ∧ K s = 3) ∨ (s = ytl K b + 1 ∧ ydd K b = 1 ∧ (K s = 12 ∨ K s = 13)) ∨ (5 ≤ K s ∧ K s ≤ 11)
theorem yso_k {k : Int} (h0 : 0 ≤ k) (h1 : k ≤ 13) : (yso k = 0 ↔ k = 1) ∧ (yso k = 1 ↔ k = 2) ∧ (yso k = 2 ↔ 3 ≤ k ∧ k ≤ 11) ∧ (yso k = 3 ↔ k = 0 ∨ k = 12 ∨ k = 13) := by
  unfold yso
  by_cases h : k = 1
  · subst h; decide
  · by_cases h2 : k = 2
    · subst h2; decide
    · rw [if_neg h, if_neg h2]
      split <;> omega
/-- where a cluster that begins at b is over -/
theorem yov_sp {K : Int → Int} {n b : Int} (hK : yKr K n) (h0 : 0 ≤ b) (h1 : b < n) (hb : ybg K b) : (yrun K b (yov K b) ∧ ybg K (yov K b)) ∧ (b ≤ ytl K b ∧ ytl K b ≤ yov K b ∧ yov K b ≤ n) ∧ yTail K b := by
  have hkr := hK.2.1 b h0 h1
  have hs := yso_k hkr.1 hkr.2
  have hn := hK.1
  by_cases c1 : K b = 1
  · have e0 : yso (K b) = 0 := hs.1.mpr c1
    have e1 : yov K b = yed K (ytl K b) := if_pos (Or.inl e0)
    have e2 : ytl K b = yq K (ypl K b (ym K b - 1)) := if_pos c1
    have rm := ym_r hK h0 h1 c1
    obtain ⟨p1, p2⟩ := ypl_r hK h0 h1 c1 (show 0 ≤ ym K b - 1 by omega) (by omega)
    obtain ⟨q1, q2⟩ := yrun_pl hK h0 h1 hb c1 (ym K b - 1).toNat (by omega)
    rw [show (((ym K b - 1).toNat : Nat) : Int) = ym K b - 1 by omega] at q1 q2
    obtain ⟨r1, r2⟩ := yrun_q hK h0 q1 q2
    have r3 := yq_n hK p1.2.2
    have r4 := yq_r K (ypl K b (ym K b - 1))
    obtain ⟨d1, d2⟩ := yed_le hK (t := ytl K b) (by omega) (by omega)
    rw [e1]
    refine ⟨?_, ⟨by omega, d1⟩, ?_⟩
    · rw [e2]
      refine yrun_ed hK h0 r3 (Or.inr ⟨r1, by rcases r2 with ⟨z, -⟩ | z <;> omega⟩) (fun z1 z2 z3 => ync_x (p2.mpr rfl) (by omega) z1) (fun z1 z2 => ?_)
      rcases r2 with ⟨-, z⟩ | z
      · exact z
      · omega
    · intro s s1 s2
      rw [e1] at s2
      have hd : K (ytl K b) = 3 → ydd K b = 1 := fun z => if_pos ⟨Or.inl e0, z⟩
      rcases d2 s s1 s2 with ⟨z1, z2⟩ | ⟨z1, z2, z3⟩ | z
      · exact Or.inl ⟨z1, hd z2, by rw [z1]; exact z2⟩
      · exact Or.inr (Or.inl ⟨z1, hd z2, z3⟩)
      · exact Or.inr (Or.inr z)
  · by_cases c2 : K b = 2
    · have e0 : yso (K b) = 1 := hs.2.1.mpr c2
      have e1 : yov K b = ymk K 61 (ytl K b) := by unfold yov; rw [if_neg (by omega), if_pos c2]
      have e2 : ytl K b = if K (b + 1) = 4 then b + 2 else b + 1 := by unfold ytl; rw [if_neg c1, if_pos c2]
      have key : yrun K b (ytl K b) ∧ ytl K b ≤ n ∧ (ysi K (ytl K b) = 6 ∨ (ysi K (ytl K b) = 7 ∧ K (ytl K b) ≠ 4)) := by
        have a1 : ysi K (b + 1) = 7 := by rw [ysi_b K h0 hb, c2]; decide
        rw [e2]
        split
        · rename_i h4
          have g : ygo (ysi K (b + 1)) (K (b + 1)) = 6 := by rw [a1, h4]; decide
          obtain ⟨b1, b2⟩ := (yrun_b (K := K) (b := b)).s h0 (by rw [g]; decide)
          rw [show b + 1 + 1 = b + 2 by omega] at b1 b2
          have := (ykp hK (p := b + 1) (by rw [h4]; decide)).2
          exact ⟨b1, by omega, Or.inl (by rw [b2, g])⟩
        · rename_i h4
          exact ⟨yrun_b, by omega, Or.inr ⟨a1, h4⟩⟩
      obtain ⟨k1, k2, k3⟩ := key
      have kb := k1.1
      obtain ⟨d1, d2, d3⟩ := ymk_sp hK 61 (ytl K b) (by omega) k2 (by omega)
      rw [e1]
      refine ⟨yrun_me hK h0 k1 k2 (by omega) (fun k y1 y2 => ?_), ⟨by omega, d1⟩, fun s s1 s2 => ?_⟩
      · rcases k3 with z | ⟨z, z2⟩
        · rw [z]; exact ygo_6 y1
        · rw [z]
          exact ygo_7 y1 (by rw [y2]; exact z2)
      · rw [e1] at s2
        have := d3 s s1 s2
        exact Or.inr (Or.inr (by omega))
    · by_cases c3 : 3 ≤ K b ∧ K b ≤ 11
      · have e0 : yso (K b) = 2 := hs.2.2.1.mpr c3
        have e1 : yov K b = yed K (ytl K b) := if_pos (Or.inr e0)
        have e2 : ytl K b = if K b = 4 then b + 1 else b := by unfold ytl; rw [if_neg c1, if_neg c2, if_pos e0]
        have tb : b ≤ ytl K b ∧ ytl K b ≤ b + 1 := by rw [e2]; split <;> omega
        obtain ⟨d1, d2⟩ := yed_le hK (t := ytl K b) (by omega) (by omega)
        rw [e1]
        refine ⟨?_, ⟨by omega, d1⟩, ?_⟩
        · by_cases c4 : K b = 4
          · rw [if_pos c4] at e2
            have a1 : ysi K (b + 1) = 8 := by rw [ysi_b K h0 hb, c4]; decide
            rw [e2]
            exact yrun_ed hK h0 (by omega) (Or.inr ⟨yrun_b, by omega⟩) (fun _ _ z => absurd a1 z) (fun z => by omega)
          · rw [if_neg c4] at e2
            rw [e2]
            exact yrun_ed hK h0 (by omega) (Or.inl ⟨rfl, hb, by omega⟩) (fun _ z => by omega) (fun _ z => by omega)
        · intro s s1 s2
          rw [e1] at s2
          have hd : K (ytl K b) = 3 → ydd K b = 1 := fun z => if_pos ⟨Or.inr e0, z⟩
          rcases d2 s s1 s2 with ⟨z1, z2⟩ | ⟨z1, z2, z3⟩ | z
          · exact Or.inl ⟨z1, hd z2, by rw [z1]; exact z2⟩
          · exact Or.inr (Or.inl ⟨z1, hd z2, z3⟩)
          · exact Or.inr (Or.inr z)
      · have e0 : yso (K b) = 3 := hs.2.2.2.mpr (by omega)
        have e1 : yov K b = b + 1 := by unfold yov; rw [if_neg (by omega), if_neg c2]
        have e2 : ytl K b = b + 1 := by unfold ytl; rw [if_neg c1, if_neg c2, if_neg (by omega)]
        rw [e1, e2]
        refine ⟨⟨yrun_b, ?_⟩, ⟨by omega, by omega, by omega⟩, fun s s1 s2 => ?_⟩
        · unfold ybg
          have : yfs (K b) = 0 := by
            exact yfs_0 (by omega)
          rw [ysi_b K h0 hb, this]
          exact ygo_0 _
        · rw [e1] at s2; rw [e2] at s1; omega
theorem yB_ov {K : Int → Int} {n c : Int} (hK : yKr K n) (h0 : 0 ≤ c) (h1 : c < yci K n) : yB K (c + 1) = yov K (yB K c) := by
  obtain ⟨⟨a1, a2, a3⟩, a4, a5, a6⟩ := yB_cl hK h0 h1
  obtain ⟨⟨b1, b2⟩, -⟩ := yov_sp hK a1 (by omega) a4
  by_cases q : yB K (c + 1) < yov K (yB K c)
  · exact absurd a5 (b1.2 _ a2 q)
  · by_cases q2 : yov K (yB K c) < yB K (c + 1)
    · exact absurd b2 (a6 _ b1.1 q2)
    · omega
/-- ahead of the tail of a consonant's cluster -/
theorem yhead {K : Int → Int} {n b : Int} (hK : yKr K n) (h0 : 0 ≤ b) (h1 : b < n) (h : K b = 1) : ∀ (k : Nat), (k : Int) < ym K b → ∀ s, b ≤ s → s < yq K (ypl K b k) → ∃ j : Int, (0 ≤ j ∧ j ≤ k) ∧ (s = ypl K b j ∨ (s = ypl K b j + 1 ∧ K s = 4) ∨ (j < k ∧ s = yq K (ypl K b j) ∧ K s = 3) ∨ (j < k ∧ s = yq K (ypl K b j) + 1 ∧ s = yjo K (ypl K b j) ∧ (K s = 12 ∨ K s = 13))) := by
  intro k
  induction k with
  | zero =>
    intro hk s s1 s2
    have s2' : s < yq K b := s2
    unfold yq at s2'
    refine ⟨0, ⟨by omega, by omega⟩, ?_⟩
    rw [ypl_0]
    split at s2'
    · rename_i h4
      by_cases e : s = b
      · exact Or.inl e
      · have e : s = b + 1 := by omega
        subst e
        exact Or.inr (Or.inl ⟨rfl, h4⟩)
    · exact Or.inl (by omega)
  | succ k ih =>
    intro hk s s1 s2
    rw [show ((k + 1 : Nat) : Int) = (k : Int) + 1 by omega] at s2
    obtain ⟨c1, c2, c3⟩ := ypl_n hK h0 h1 h (k := (k : Int)) (by omega) (by omega)
    obtain ⟨r1, r2, r3, r4⟩ := ync_r c2
    rw [c1] at r1 r2 r4
    by_cases e : s < yq K (ypl K b k)
    · obtain ⟨j, j1, j2⟩ := ih (by omega) s s1 e
      refine ⟨j, ⟨by omega, by omega⟩, ?_⟩
      rcases j2 with z | z | ⟨z1, z2⟩ | ⟨z1, z2⟩
      · exact Or.inl z
      · exact Or.inr (Or.inl z)
      · exact Or.inr (Or.inr (Or.inl ⟨by omega, z2⟩))
      · exact Or.inr (Or.inr (Or.inr ⟨by omega, z2⟩))
    · by_cases e2 : s < ypl K b (k + 1)
      · refine ⟨k, ⟨by omega, by omega⟩, Or.inr (Or.inr ?_)⟩
        by_cases e3 : s = yq K (ypl K b k)
        · exact Or.inl ⟨by omega, e3, by rw [e3]; exact r3⟩
        · have e4 : s = yq K (ypl K b k) + 1 := by omega
          have hj := r4.mp (by omega)
          refine Or.inr ⟨by omega, e4, ?_, by rw [e4]; exact hj⟩
          unfold yjo
          rw [if_neg c2, if_pos hj]
          exact e4
      · refine ⟨(k : Int) + 1, ⟨by omega, by omega⟩, ?_⟩
        unfold yq at s2
        split at s2
        · rename_i h4
          by_cases e5 : s = ypl K b (k + 1)
          · exact Or.inl e5
          · have e6 : s = ypl K b (k + 1) + 1 := by omega
            exact Or.inr (Or.inl ⟨e6, by rw [e6]; exact h4⟩)
        · exact Or.inl (by omega)
end
section
/-! The class' Anatomy -/
def yms (K : Int → Int) (b : Int) : Int := if K b = 1 then ym K b else 0
def yrp (σ : yS) (K : Int → Int) (b : Int) : Int := if K b = 1 ∧ 1 < ym K b ∧ σ (28 + yL σ b) % 2 = 1 ∧ K (b + 1) ≠ 4 ∧ yjo K b = -1 then 1 else 0
def ybs0 (σ : yS) (K : Int → Int) (b a : Int) : Nat → Int
  | 0 => a
  | k + 1 => if (k : Int) + 1 ≤ a then a else if σ (28 + yL σ (ypl K b ((k : Int) + 1))) / 2 % 2 = 0 ∨ yjo K (ypl K b k) ≠ -1 then (k : Int) + 1 else ybs0 σ K b a k
def yba (σ : yS) (K : Int → Int) (b : Int) : Int := if K b = 1 then ybs0 σ K b (yrp σ K b) (ym K b - 1).toNat else 0
abbrev yfre (σ : yS) (K : Int → Int) (b k : Int) : Prop := yjo K (ypl K b k) = -1 ∧ K (ypl K b k + 1) ≠ 4 ∧ yjn σ (yL σ (ypl K b k)) (yL σ (ypl K b (k + 1))) = 1
def yjf0 (σ : yS) (K : Int → Int) (b a z : Int) : Nat → Int
  | 0 => if a ≤ 0 ∧ 0 < z ∧ yjo K (ypl K b 0) = -1 ∧ K (ypl K b 0 + 1) ≠ 4 ∧ yjn σ (yL σ (ypl K b 0)) (yL σ (ypl K b 1)) = 1 then 1 else 0
  | k + 1 => if a ≤ (k : Int) + 1 ∧ (k : Int) + 1 < z ∧ yjf0 σ K b a z k ≠ 1 ∧ yjo K (ypl K b ((k : Int) + 1)) = -1 ∧ K (ypl K b ((k : Int) + 1) + 1) ≠ 4 ∧ yjn σ (yL σ (ypl K b ((k : Int) + 1))) (yL σ (ypl K b ((k : Int) + 2))) = 1 then 1 else 0
def yjf (σ : yS) (K : Int → Int) (b k : Int) : Int := yjf0 σ K b (yrp σ K b) (yba σ K b) k.toNat
def ysum (f : Int → Int) : Nat → Int
  | 0 => 0
  | k + 1 => ysum f k + f (k : Int)
def ypr (σ : yS) (K : Int → Int) (b : Int) : Int := ysum (yjf σ K b) (yba σ K b).toNat
def yow (K : Int → Int) (b : Int) : Int := if K b = 2 ∧ K (b + 1) = 4 then b + 1 else if K b = 4 then b else -1
theorem ysum_s (f : Int → Int) {k : Int} (h : 0 ≤ k) : ysum f (k + 1).toNat = ysum f k.toNat + f k := by
  rw [show (k + 1).toNat = k.toNat + 1 by omega]
  show ysum f k.toNat + f (k.toNat : Int) = _
  rw [show (k.toNat : Int) = k by omega]
theorem yjf0_s (σ : yS) (K : Int → Int) (b a z : Int) {k : Int} (h : 0 < k) : yjf0 σ K b a z k.toNat = if a ≤ k ∧ k < z ∧ yjf0 σ K b a z (k - 1).toNat ≠ 1 ∧ yfre σ K b k then 1 else 0 := by
  rw [show k.toNat = (k - 1).toNat + 1 by omega]
  show (if _ then _ else _) = _
  rw [show ((k - 1).toNat : Int) + 1 = k by omega, show ((k - 1).toNat : Int) + 2 = k + 1 by omega]
theorem yjf0_0 (σ : yS) (K : Int → Int) (b a z : Int) : yjf0 σ K b a z 0 = if a ≤ 0 ∧ 0 < z ∧ yfre σ K b 0 then 1 else 0 := rfl
theorem yjf0_r (σ : yS) (K : Int → Int) (b a z : Int) (k : Nat) : (yjf0 σ K b a z k = 0 ∨ yjf0 σ K b a z k = 1) ∧ (yjf0 σ K b a z k = 1 → a ≤ k ∧ k < z) := by
  cases k with
  | zero => rw [yjf0_0]; split <;> simp <;> omega
  | succ k =>
    have := yjf0_s σ K b a z (k := (k : Int) + 1) (by omega)
    rw [show ((k : Int) + 1).toNat = k + 1 by omega] at this
    rw [this]
    split <;> simp <;> omega
theorem yjf_r (σ : yS) (K : Int → Int) (b : Int) {k : Int} (h : 0 ≤ k) : (yjf σ K b k = 0 ∨ yjf σ K b k = 1) ∧ (yjf σ K b k = 1 → yrp σ K b ≤ k ∧ k < yba σ K b) := by
  have := yjf0_r σ K b (yrp σ K b) (yba σ K b) k.toNat
  rw [show (k.toNat : Int) = k by omega] at this
  exact this
theorem yrp_r (σ : yS) (K : Int → Int) (b : Int) : (yrp σ K b = 0 ∨ yrp σ K b = 1) ∧ (yrp σ K b = 1 → K b = 1 ∧ 1 < ym K b) := by
  unfold yrp; split <;> simp_all
theorem ybs0_r (σ : yS) (K : Int → Int) (b a : Int) : ∀ k : Nat, a ≤ ybs0 σ K b a k ∧ (a ≤ (k : Int) → ybs0 σ K b a k ≤ k) := by
  intro k
  induction k with
  | zero => exact ⟨Int.le_refl _, fun h => h⟩
  | succ k ih =>
    unfold ybs0
    split
    · omega
    · split
      · omega
      · omega
theorem yba_r {σ : yS} {K : Int → Int} {n b : Int} (hK : yKr K n) (h0 : 0 ≤ b) (h1 : b < n) (h : K b = 1) : yrp σ K b ≤ yba σ K b ∧ yba σ K b < ym K b := by
  have r := ym_r hK h0 h1 h
  have a := yrp_r σ K b
  have c := ybs0_r σ K b (yrp σ K b) (ym K b - 1).toNat
  unfold yba
  rw [if_pos h]
  omega
/-- what Anatomy knows of a cluster from b to e -/
def yAna (M : zM) (σ : yS) (K : Int → Int) (b e : Int) : Prop := (M 120 4 = yso (K b) ∧ M 120 5 = b ∧ M 120 6 = e ∧ M 120 7 = ytl K b ∧ M 120 9 = ydd K b ∧ M 120 8 = yow K b) ∧ (M 120 0 = yms K b ∧ M 120 1 = yba σ K b ∧ M 120 2 = yrp σ K b ∧ M 120 3 = ypr σ K b) ∧
  ∀ k, 0 ≤ k → k < yms K b → M 121 k = ypl K b k ∧ M 122 k = ynk K (ypl K b k) ∧ M 123 k = yvi K (ypl K b k) ∧ M 124 k = yjo K (ypl K b k) ∧ M 125 k = yjf σ K b k
theorem yAna.cg {M N : zM} {σ : yS} {K : Int → Int} {b e : Int} (h : yAna M σ K b e) (g : ∀ x, 120 ≤ x → x ≤ 125 → N x = M x) : yAna N σ K b e := by
  unfold yAna
  rw [g 120 (by decide) (by decide), g 121 (by decide) (by decide), g 122 (by decide) (by decide), g 123 (by decide) (by decide), g 124 (by decide) (by decide), g 125 (by decide) (by decide)]
  exact h
theorem ypl_mo {K : Int → Int} {n b : Int} (hK : yKr K n) (h0 : 0 ≤ b) (h1 : b < n) (h : K b = 1) : ∀ (d : Nat) (i : Int), 0 ≤ i → i + d < ym K b → ypl K b i + 2 * d ≤ ypl K b (i + d) := by
  intro d
  induction d with
  | zero => intro i _ _; rw [show i + ((0 : Nat) : Int) = i by omega]; omega
  | succ d ih =>
    intro i hi hd
    have := ih i hi (by omega)
    have := (ypl_n hK h0 h1 h (k := i + d) (by omega) (by omega)).2.2
    rw [show i + ((d + 1 : Nat) : Int) = i + d + 1 by omega]
    omega
theorem ypl_lt {K : Int → Int} {n b i j : Int} (hK : yKr K n) (h0 : 0 ≤ b) (h1 : b < n) (h : K b = 1) (hi : 0 ≤ i) (hij : i < j) (hj : j < ym K b) : ypl K b i + 2 ≤ ypl K b j := by
  have := ypl_mo hK h0 h1 h (j - i).toNat i hi (by omega)
  rw [show i + ((j - i).toNat : Int) = j by omega] at this
  omega
theorem yq_le {K : Int → Int} {n b k : Int} (hK : yKr K n) (h0 : 0 ≤ b) (h1 : b < n) (h : K b = 1) (hk : 0 ≤ k) (h2 : k < ym K b) : yq K (ypl K b k) ≤ ytl K b ∧ (k + 1 < ym K b → yq K (ypl K b k) < ypl K b (k + 1)) := by
  have e : ytl K b = yq K (ypl K b (ym K b - 1)) := if_pos h
  have s : k + 1 < ym K b → yq K (ypl K b k) < ypl K b (k + 1) := fun z => by
    obtain ⟨a1, a2, -⟩ := ypl_n hK h0 h1 h hk z
    have := (ync_r a2).1
    omega
  refine ⟨?_, s⟩
  by_cases q : k = ym K b - 1
  · rw [e, q]; exact Int.le_refl _
  · have a := s (by omega)
    have b2 := yq_r K (ypl K b (ym K b - 1))
    by_cases q2 : k + 1 = ym K b - 1
    · rw [e, ← q2] ; rw [← q2] at b2; omega
    · have := ypl_lt hK h0 h1 h (show 0 ≤ k + 1 by omega) (show k + 1 < ym K b - 1 by omega) (by omega)
      omega
/-- the consonants of a consonant's cluster are its chain -/
theorem ycons {K : Int → Int} {n b p : Int} (hK : yKr K n) (h0 : 0 ≤ b) (h1 : b < n) (hb : ybg K b) (h : K b = 1) (hp : b ≤ p) (he : p < yov K b) (h3 : K p = 1) : ∃ j, (0 ≤ j ∧ j < ym K b) ∧ p = ypl K b j := by
  have r := ym_r hK h0 h1 h
  have e : ytl K b = yq K (ypl K b (ym K b - 1)) := if_pos h
  by_cases q : p < ytl K b
  · obtain ⟨j, j1, j2⟩ := yhead hK h0 h1 h (ym K b - 1).toNat (by omega) p hp (by rw [show (((ym K b - 1).toNat : Nat) : Int) = ym K b - 1 by omega, ← e]; exact q)
    refine ⟨j, by omega, ?_⟩
    rcases j2 with z | z | ⟨z1, z2⟩ | ⟨z1, z2⟩
    · exact z
    · omega
    · omega
    · omega
  · have := (yov_sp hK h0 h1 hb).2.2 p (by omega) he
    omega

theorem m_sort_c {c : Int} {M : zM} {Q : zV → zM → Prop} {K : Int → Int} {n : Int} (hK : yKr K n) (hC : yCut M K n) (hc : 0 ≤ c ∧ c < yci K n) (k : Q (0, yso (K (yB K c))) M) : zWp kCu_factOf 0 [(1, 105), (0, c), (0, 2)] [] M Q := m_factOf_2 hK hC (by rw [if_pos hc]; exact k)
theorem m_beg_c {c : Int} {M : zM} {Q : zV → zM → Prop} {K : Int → Int} {n : Int} (hK : yKr K n) (hC : yCut M K n) (hc : 0 ≤ c ∧ c < yci K n) (k : Q (0, yB K c) M) : zWp kCu_factOf 0 [(1, 105), (0, c), (0, 0)] [] M Q := m_factOf_0 hK hC (by rw [if_pos hc]; exact k)
theorem m_end_c {c : Int} {M : zM} {Q : zV → zM → Prop} {K : Int → Int} {n : Int} (hK : yKr K n) (hC : yCut M K n) (hc : 0 ≤ c ∧ c < yci K n) (k : Q (0, yB K (c + 1)) M) : zWp kCu_endOf 0 [(1, 105), (0, c)] [] M Q := m_endOf hK hC (by rw [show yen K n c = yB K (c + 1) from if_pos hc]; exact k)
theorem m_readBetween {p : Int} {M : zM} {Q : zV → zM → Prop} {K : Int → Int} {n : Int} (hK : yKr K n) (hC : yCut M K n) (hs : 0 ≤ M 120 0 ∧ M 120 0 ≤ 60) (hp : 0 ≤ p ∧ p ≤ 60) (k : ∀ N : zM, ((M 120 0 = 0 → N = M) ∧ (M 120 0 ≠ 0 → N = zup (zup M 123 (M 120 0 - 1) (M 120 7)) 124 (M 120 0 - 1) (if K (p - 1) = 12 ∨ K (p - 1) = 13 then p - 1 else M 124 (M 120 0 - 1)))) → Q (3, 0) N) : zWp kAn_readBetween 0 [(1, 120), (1, 105), (0, p)] [] M Q := by
  refine zw_aload ⟨rfl, rfl⟩ rfl ?_
  refine zw_getIv (v := M 120 0) ⟨rfl, rfl⟩ zc_120 (by decide) rfl ?_
  refine zw_ifne ⟨rfl, rfl⟩ rfl (fun c1 => ?_) (fun c1 => ?_)
  · skip
    refine zw_aload ⟨rfl, rfl⟩ rfl ?_
    refine zw_getR 123 ⟨rfl, rfl⟩ zr_120_12 ?_
    refine zw_aload ⟨rfl, rfl⟩ rfl ?_
    refine zw_getIv (v := M 120 0) ⟨rfl, rfl⟩ zc_120 (by decide) rfl ?_
    refine zw_const ⟨rfl, rfl⟩ ?_
    refine zw_isub ⟨rfl, rfl⟩ (by omega) ?_
    refine zw_aload ⟨rfl, rfl⟩ rfl ?_
    refine zw_getIv (v := M 120 7) ⟨rfl, rfl⟩ zc_120 (by decide) rfl ?_
    refine zw_iast ⟨rfl, rfl⟩ za_123 (by omega) ?_
    refine zw_aload ⟨rfl, rfl⟩ rfl ?_
    refine zw_iload ⟨rfl, rfl⟩ rfl ?_
    refine zw_const ⟨rfl, rfl⟩ ?_
    refine zw_isub ⟨rfl, rfl⟩ (by omega) ?_
    refine zw_callv2 ⟨rfl, rfl⟩ rfl zc_105 rfl ?_
    refine m_kindAt hK (hC.cg (fun b y1 y2 => zup_row (by omega))) ?_
    refine zw_calls1 ⟨rfl, rfl⟩ rfl rfl ?_
    refine zw_iload ⟨rfl, rfl⟩ rfl ?_
    refine zw_const ⟨rfl, rfl⟩ ?_
    refine zw_iceq ⟨rfl, rfl⟩ rfl (fun c2 => ?_) (fun c2 => ?_)
    · skip
      refine zw_const ⟨rfl, rfl⟩ ?_
      refine zw_goto ⟨rfl, rfl⟩ rfl ?_
      refine zw_zret rfl (by first | exact Or.inl rfl | exact Or.inr rfl | omega) ?_
      refine zw_ifeq ⟨rfl, rfl⟩ rfl (fun q => absurd q (by decide)) (fun _ => ?_)
      refine zw_aload ⟨rfl, rfl⟩ rfl ?_
      refine zw_getR 124 ⟨rfl, rfl⟩ zr_120_13 ?_
      refine zw_aload ⟨rfl, rfl⟩ rfl ?_
      refine zw_getIv (v := M 120 0) ⟨rfl, rfl⟩ zc_120 (by decide) (zup_na (by decide)) ?_
      refine zw_const ⟨rfl, rfl⟩ ?_
      refine zw_isub ⟨rfl, rfl⟩ (by omega) ?_
      refine zw_iload ⟨rfl, rfl⟩ rfl ?_
      refine zw_const ⟨rfl, rfl⟩ ?_
      refine zw_isub ⟨rfl, rfl⟩ (by omega) ?_
      refine zw_iast ⟨rfl, rfl⟩ za_124 (by omega) ?_
      refine zw_void rfl ?_
      refine k _ ⟨fun h => absurd h (by assumption), fun _ => ?_⟩
      rw [if_pos (by omega)]
    · skip
      refine zw_iload ⟨rfl, rfl⟩ rfl ?_
      refine zw_const ⟨rfl, rfl⟩ ?_
      refine zw_icne ⟨rfl, rfl⟩ rfl (fun c4 => ?_) (fun c4 => ?_)
      · skip
        refine zw_const ⟨rfl, rfl⟩ ?_
        refine zw_zret rfl (by first | exact Or.inl rfl | exact Or.inr rfl | omega) ?_
        refine zw_ifeq ⟨rfl, rfl⟩ rfl (fun _ => ?_) (fun q => absurd (by decide) q)
        refine zw_void rfl ?_
        refine k _ ⟨fun h => absurd h (by assumption), fun _ => ?_⟩
        rw [if_neg (by omega)]
        funext x j
        unfold zup
        grind
      · skip
        refine zw_const ⟨rfl, rfl⟩ ?_
        refine zw_goto ⟨rfl, rfl⟩ rfl ?_
        refine zw_zret rfl (by first | exact Or.inl rfl | exact Or.inr rfl | omega) ?_
        refine zw_ifeq ⟨rfl, rfl⟩ rfl (fun q => absurd q (by decide)) (fun _ => ?_)
        refine zw_aload ⟨rfl, rfl⟩ rfl ?_
        refine zw_getR 124 ⟨rfl, rfl⟩ zr_120_13 ?_
        refine zw_aload ⟨rfl, rfl⟩ rfl ?_
        refine zw_getIv (v := M 120 0) ⟨rfl, rfl⟩ zc_120 (by decide) (zup_na (by decide)) ?_
        refine zw_const ⟨rfl, rfl⟩ ?_
        refine zw_isub ⟨rfl, rfl⟩ (by omega) ?_
        refine zw_iload ⟨rfl, rfl⟩ rfl ?_
        refine zw_const ⟨rfl, rfl⟩ ?_
        refine zw_isub ⟨rfl, rfl⟩ (by omega) ?_
        refine zw_iast ⟨rfl, rfl⟩ za_124 (by omega) ?_
        refine zw_void rfl ?_
        refine k _ ⟨fun h => absurd h (by assumption), fun _ => ?_⟩
        rw [if_pos (by omega)]
  · skip
    refine zw_void rfl ?_
    exact k _ ⟨fun _ => rfl, fun h => absurd (by omega) h⟩

section
set_option maxHeartbeats 8000000
theorem m_readChain_l  {b : Int} {M : zM} {Q : zV → zM → Prop} {K : Int → Int} {n : Int} (hK : yKr K n) (hC : yCut M K n) (h0 : 0 ≤ b) (h1 : b < n) (hb : ybg K b) (h : K b = 1) (hM : M 120 5 = b ∧ M 120 6 = yov K b) (k : ∀ N : zM, (N 120 0 = ym K b ∧ N 120 7 = ytl K b ∧ (∀ j, j ≠ 0 → j ≠ 7 → N 120 j = M 120 j) ∧ (∀ k, 0 ≤ k → k < ym K b → N 121 k = ypl K b k ∧ N 122 k = ynk K (ypl K b k) ∧ N 123 k = yvi K (ypl K b k) ∧ N 124 k = yjo K (ypl K b k) ∧ N 125 k = 0) ∧ ∀ x, ¬ (120 ≤ x ∧ x ≤ 125) → N x = M x) → Q (3, 0) N) : ∀ (f : Nat) (p : Int) (N : zM), (b ≤ p ∧ p ≤ yov K b) → ((0 ≤ N 120 0 ∧ N 120 0 ≤ ym K b) ∧ (N 120 0 = 0 → p = b) ∧ (N 120 0 < ym K b → p ≤ ypl K b (N 120 0)) ∧ (0 < N 120 0 → ypl K b (N 120 0 - 1) < p ∧ N 120 7 = yq K (ypl K b (N 120 0 - 1)))) → ((∀ j, j ≠ 0 → j ≠ 7 → N 120 j = M 120 j) ∧ ∀ x, ¬ (120 ≤ x ∧ x ≤ 125) → N x = M x) → (∀ k, 0 ≤ k → k < N 120 0 → N 121 k = ypl K b k ∧ N 122 k = ynk K (ypl K b k) ∧ N 125 k = 0 ∧ N 123 k = (if k + 1 = N 120 0 then -1 else yvi K (ypl K b k)) ∧ N 124 k = (if k + 1 = N 120 0 then -1 else yjo K (ypl K b k))) → (yov K b - p).toNat < f → zWp kAn_readChain 3 [(1, 120), (1, 105), (0, p)] [] N Q := by
  intro f
  induction f with
  | zero => intro p N i1 i2 i3 i4 hf; exact absurd hf (Nat.not_lt_zero _)
  | succ f ih =>
    intro p N i1 i2 i3 i4 hf
    have hov := yov_sp hK h0 h1 hb
    have hm := ym_r hK h0 h1 h
    have hn := hK.1
    refine zw_iload ⟨rfl, rfl⟩ rfl ?_
    refine zw_aload ⟨rfl, rfl⟩ rfl ?_
    refine zw_getIv (v := yov K b) ⟨rfl, rfl⟩ zc_120 (by decide) ((i3.1 6 (by decide) (by decide)).trans hM.2) ?_
    refine zw_icge ⟨rfl, rfl⟩ rfl (fun c1 => ?_) (fun c1 => ?_)
    · skip
      refine zw_void rfl ?_
      have hs : N 120 0 = ym K b := by
        by_cases z : N 120 0 < ym K b
        · have := i2.2.2.1 z
          have := (yq_le hK h0 h1 h i2.1.1 z).1
          have := yq_r K (ypl K b (N 120 0))
          omega
        · omega
      have hl := (ypl_r hK h0 h1 h (show 0 ≤ ym K b - 1 by omega) (by omega)).2.mpr rfl
      refine k _ ⟨hs, ?_, i3.1, fun j q1 q2 => ?_, i3.2⟩
      · rw [(i2.2.2.2 (by omega)).2, hs]
        exact (if_pos h).symm
      · obtain ⟨a1, a2, a3, a4, a5⟩ := i4 j q1 (by omega)
        rw [hs] at a4 a5
        refine ⟨a1, a2, ?_, ?_, a3⟩
        · rw [a4]; split
          · rename_i z; rw [show j = ym K b - 1 by omega]; exact (if_pos hl).symm
          · rfl
        · rw [a5]; split
          · rename_i z; rw [show j = ym K b - 1 by omega]; exact (if_pos hl).symm
          · rfl
    · skip
      refine zw_aload ⟨rfl, rfl⟩ rfl ?_
      refine zw_getIv (v := N 120 0) ⟨rfl, rfl⟩ zc_120 (by decide) rfl ?_
      refine zw_const ⟨rfl, rfl⟩ ?_
      refine zw_icge ⟨rfl, rfl⟩ rfl (fun c2 => ?_) (fun c2 => ?_)
      · skip
        refine zw_void rfl ?_
        have hs : N 120 0 = ym K b := by
          by_cases z : N 120 0 < ym K b
          · have := i2.2.2.1 z
            have := (yq_le hK h0 h1 h i2.1.1 z).1
            have := yq_r K (ypl K b (N 120 0))
            omega
          · omega
        have hl := (ypl_r hK h0 h1 h (show 0 ≤ ym K b - 1 by omega) (by omega)).2.mpr rfl
        refine k _ ⟨hs, ?_, i3.1, fun j q1 q2 => ?_, i3.2⟩
        · rw [(i2.2.2.2 (by omega)).2, hs]
          exact (if_pos h).symm
        · obtain ⟨a1, a2, a3, a4, a5⟩ := i4 j q1 (by omega)
          rw [hs] at a4 a5
          refine ⟨a1, a2, ?_, ?_, a3⟩
          · rw [a4]; split
            · rename_i z; rw [show j = ym K b - 1 by omega]; exact (if_pos hl).symm
            · rfl
          · rw [a5]; split
            · rename_i z; rw [show j = ym K b - 1 by omega]; exact (if_pos hl).symm
            · rfl
      · skip
        refine zw_aload ⟨rfl, rfl⟩ rfl ?_
        refine zw_iload ⟨rfl, rfl⟩ rfl ?_
        refine zw_callv2 ⟨rfl, rfl⟩ rfl zc_105 rfl ?_
        refine m_kindAt hK (hC.cg (fun x y1 y2 => i3.2 x (by omega))) ?_
        refine zw_const ⟨rfl, rfl⟩ ?_
        refine zw_icne ⟨rfl, rfl⟩ rfl (fun c3 => ?_) (fun c3 => ?_)
        · skip
          have cc : K p ≠ 1 := by assumption
          refine zw_iinc_2 ⟨rfl, rfl⟩ (by omega) ?_
          refine zw_goto ⟨rfl, rfl⟩ rfl ?_
          refine ih _ _ ?_ ?_ i3 i4 ?_
          · omega
          · refine ⟨i2.1, fun z => ?_, fun z => ?_, fun z => ?_⟩
            · exact absurd (by rw [i2.2.1 z]; exact h) cc
            · have := i2.2.2.1 z
              by_cases e : p = ypl K b (N 120 0)
              · have := (ypl_r hK h0 h1 h i2.1.1 z).1.1
                rw [← e] at this
                exact absurd this cc
              · omega
            · have := i2.2.2.2 z; omega
          · omega
        · skip
          have cc : K p = 1 := by omega
          obtain ⟨j, j1, j2⟩ := ycons hK h0 h1 hb h i1.1 (by omega) cc
          have hs : N 120 0 < ym K b := by
            by_cases z : N 120 0 < ym K b
            · exact z
            · have := (i2.2.2.2 (by omega)).1
              by_cases z2 : j = N 120 0 - 1
              · rw [z2] at j2; omega
              · have := ypl_lt hK h0 h1 h j1.1 (show j < N 120 0 - 1 by omega) (by omega)
                omega
          have hps : p = ypl K b (N 120 0) := by
            have a := i2.2.2.1 hs
            by_cases z : j = N 120 0
            · rw [j2, z]
            · by_cases z2 : j < N 120 0
              · have a2 := (i2.2.2.2 (by omega)).1
                by_cases z3 : j = N 120 0 - 1
                · rw [z3] at j2; omega
                · have := ypl_lt hK h0 h1 h j1.1 (show j < N 120 0 - 1 by omega) (by omega)
                  omega
              · have := ypl_lt hK h0 h1 h i2.1.1 (show N 120 0 < j by omega) j1.2
                omega
          have hqe := (yq_le hK h0 h1 h i2.1.1 hs).1
          rw [← hps] at hqe
          refine zw_aload ⟨rfl, rfl⟩ rfl ?_
          refine zw_aload ⟨rfl, rfl⟩ rfl ?_
          refine zw_iload ⟨rfl, rfl⟩ rfl ?_
          refine zw_cavv3 ⟨rfl, rfl⟩ rfl zc_120 rfl ?_
          refine m_readBetween hK (hC.cg (fun x y1 y2 => i3.2 x (by omega))) (by omega) (by omega) (fun N1 p1 => ?_)
          have g1 : ∀ x, ¬ (120 ≤ x ∧ x ≤ 125) → N1 x = N x := by
            intro x hx
            by_cases z : N 120 0 = 0
            · rw [p1.1 z]
            · rw [p1.2 z, zup_row (by omega), zup_row (by omega)]
          have eN0 : N1 120 0 = N 120 0 := by
            by_cases z : N 120 0 = 0
            · rw [p1.1 z]
            · rw [p1.2 z, zup_na (by decide), zup_na (by decide)]
          have eN6 : N1 120 6 = yov K b := by
            by_cases z : N 120 0 = 0
            · rw [p1.1 z, i3.1 6 (by decide) (by decide)]; exact hM.2
            · rw [p1.2 z, zup_na (by decide), zup_na (by decide), i3.1 6 (by decide) (by decide)]; exact hM.2
          refine zw_aload ⟨rfl, rfl⟩ rfl ?_
          refine zw_getR 121 ⟨rfl, rfl⟩ zr_120_10 ?_
          refine zw_aload ⟨rfl, rfl⟩ rfl ?_
          refine zw_getIv (v := N 120 0) ⟨rfl, rfl⟩ zc_120 (by decide) (eN0) ?_
          refine zw_iload ⟨rfl, rfl⟩ rfl ?_
          refine zw_iast ⟨rfl, rfl⟩ za_121 (by omega) ?_
          refine zw_aload ⟨rfl, rfl⟩ rfl ?_
          refine zw_getR 122 ⟨rfl, rfl⟩ zr_120_11 ?_
          refine zw_aload ⟨rfl, rfl⟩ rfl ?_
          refine zw_getIv (v := N 120 0) ⟨rfl, rfl⟩ zc_120 (by decide) ((zup_na (by decide)).trans (eN0)) ?_
          refine zw_iload ⟨rfl, rfl⟩ rfl ?_
          refine zw_const ⟨rfl, rfl⟩ ?_
          refine zw_iadd ⟨rfl, rfl⟩ (by omega) ?_
          refine zw_aload ⟨rfl, rfl⟩ rfl ?_
          refine zw_getIv (v := yov K b) ⟨rfl, rfl⟩ zc_120 (by decide) ((zup_na (by decide)).trans (eN6)) ?_
          refine zw_icge ⟨rfl, rfl⟩ rfl (fun c4 => ?_) (fun c4 => ?_)
          · skip
            have hn4 : ¬ K (p + 1) = 4 := fun z => by unfold yq at hqe; rw [if_pos z] at hqe; omega
            refine zw_const ⟨rfl, rfl⟩ ?_
            refine zw_iast ⟨rfl, rfl⟩ za_122 (by omega) ?_
            refine zw_aload ⟨rfl, rfl⟩ rfl ?_
            refine zw_getR 123 ⟨rfl, rfl⟩ zr_120_12 ?_
            refine zw_aload ⟨rfl, rfl⟩ rfl ?_
            refine zw_getIv (v := N 120 0) ⟨rfl, rfl⟩ zc_120 (by decide) ((zup_na (by decide)).trans ((zup_na (by decide)).trans (eN0))) ?_
            refine zw_const ⟨rfl, rfl⟩ ?_
            refine zw_iast ⟨rfl, rfl⟩ za_123 (by omega) ?_
            refine zw_aload ⟨rfl, rfl⟩ rfl ?_
            refine zw_getR 124 ⟨rfl, rfl⟩ zr_120_13 ?_
            refine zw_aload ⟨rfl, rfl⟩ rfl ?_
            refine zw_getIv (v := N 120 0) ⟨rfl, rfl⟩ zc_120 (by decide) ((zup_na (by decide)).trans ((zup_na (by decide)).trans ((zup_na (by decide)).trans (eN0)))) ?_
            refine zw_const ⟨rfl, rfl⟩ ?_
            refine zw_iast ⟨rfl, rfl⟩ za_124 (by omega) ?_
            refine zw_aload ⟨rfl, rfl⟩ rfl ?_
            refine zw_getR 125 ⟨rfl, rfl⟩ zr_120_14 ?_
            refine zw_aload ⟨rfl, rfl⟩ rfl ?_
            refine zw_getIv (v := N 120 0) ⟨rfl, rfl⟩ zc_120 (by decide) ((zup_na (by decide)).trans ((zup_na (by decide)).trans ((zup_na (by decide)).trans ((zup_na (by decide)).trans (eN0))))) ?_
            refine zw_const ⟨rfl, rfl⟩ ?_
            refine zw_bast3 ⟨rfl, rfl⟩ za_125 (by omega) (by first | exact Or.inl rfl | exact Or.inr rfl | omega) ?_
            refine zw_aload ⟨rfl, rfl⟩ rfl ?_
            refine zw_aload ⟨rfl, rfl⟩ rfl ?_
            refine zw_getR 122 ⟨rfl, rfl⟩ zr_120_11 ?_
            refine zw_aload ⟨rfl, rfl⟩ rfl ?_
            refine zw_getIv (v := N 120 0) ⟨rfl, rfl⟩ zc_120 (by decide) ((zup_na (by decide)).trans ((zup_na (by decide)).trans ((zup_na (by decide)).trans ((zup_na (by decide)).trans ((zup_na (by decide)).trans (eN0)))))) ?_
            refine zw_ialdv (v := -1) ⟨rfl, rfl⟩ za_122 (by omega) ((zup_na (by decide)).trans ((zup_na (by decide)).trans ((zup_na (by decide)).trans (zup_eq _ _ _ _)))) ?_
            refine zw_const ⟨rfl, rfl⟩ ?_
            refine zw_icne ⟨rfl, rfl⟩ rfl (fun q => absurd q (by decide)) (fun _ => ?_)
            refine zw_iload ⟨rfl, rfl⟩ rfl ?_
            refine zw_const ⟨rfl, rfl⟩ ?_
            refine zw_iadd ⟨rfl, rfl⟩ (by omega) ?_
            refine zw_goto ⟨rfl, rfl⟩ rfl ?_
            refine zw_putI ⟨rfl, rfl⟩ zc_120 (by decide) (fun h => absurd h (by decide)) ?_
            refine zw_aload ⟨rfl, rfl⟩ rfl ?_
            refine zw_dup ⟨rfl, rfl⟩ (by decide) ?_
            refine zw_getIv (v := N 120 0) ⟨rfl, rfl⟩ zc_120 (by decide) ((zup_ni (by decide)).trans ((zup_na (by decide)).trans ((zup_na (by decide)).trans ((zup_na (by decide)).trans ((zup_na (by decide)).trans ((zup_na (by decide)).trans (eN0))))))) ?_
            refine zw_const ⟨rfl, rfl⟩ ?_
            refine zw_iadd ⟨rfl, rfl⟩ (by omega) ?_
            refine zw_putI ⟨rfl, rfl⟩ zc_120 (by decide) (fun h => absurd h (by decide)) ?_
            refine zw_iinc_2 ⟨rfl, rfl⟩ (by omega) ?_
            refine zw_goto ⟨rfl, rfl⟩ rfl ?_
            have eN : N1 120 = N 120 := by
              by_cases z : N 120 0 = 0
              · rw [p1.1 z]
              · rw [p1.2 z, zup_row (by decide), zup_row (by decide)]
            have e0 : N1 120 0 = N 120 0 := by rw [eN]
            refine ih _ _ ?_ ?_ ?_ ?_ ?_
            · omega
            · have s0 : (zup (zup (zup (zup (zup (zup (zup N1 121 (N 120 0) p) 122 (N 120 0) (-1)) 123 (N 120 0) (-1)) 124 (N 120 0) (-1)) 125 (N 120 0) 0) 120 7 (p + 1)) 120 0 ((N 120 0) + 1)) 120 0 = N 120 0 + 1 := by simp [zup, e0]
              rw [s0]
              refine ⟨by omega, fun z => by omega, fun z => ?_, fun z => ?_⟩
              · have := (ypl_lt hK h0 h1 h i2.1.1 (show N 120 0 < N 120 0 + 1 by omega) z)
                omega
              · rw [show N 120 0 + 1 - 1 = N 120 0 by omega, ← hps]
                refine ⟨by omega, ?_⟩
                simp [zup, yq, hn4]
            · refine ⟨fun j q1 q2 => ?_, fun x hx => ?_⟩
              · rw [← i3.1 j q1 q2, ← congrFun eN j]
                simp [zup, q1, q2]
              · rw [zup_row (by omega), zup_row (by omega), zup_row (by omega), zup_row (by omega), zup_row (by omega), zup_row (by omega), zup_row (by omega), g1 x (by omega)]
                exact i3.2 x hx
            · have s0 : (zup (zup (zup (zup (zup (zup (zup N1 121 (N 120 0) p) 122 (N 120 0) (-1)) 123 (N 120 0) (-1)) 124 (N 120 0) (-1)) 125 (N 120 0) 0) 120 7 (p + 1)) 120 0 ((N 120 0) + 1)) 120 0 = N 120 0 + 1 := by simp [zup, e0]
              rw [s0]
              intro k q1 q2
              by_cases hk : k = N 120 0
              · subst hk
                rw [← hps]
                unfold ynk
                first | rw [if_pos hn4] | rw [if_neg hn4]
                simp [zup, e0]
              · have i44 := i4 k q1 (by omega)
                have hz : N 120 0 ≠ 0 := by omega
                have pp := p1.2 hz
                have hd := ypl_n hK h0 h1 h (k := N 120 0 - 1) (by omega) (by omega)
                rw [show N 120 0 - 1 + 1 = N 120 0 by omega] at hd
                have hr := ync_r hd.2.1
                have hq := (i2.2.2.2 (by omega)).2
                rw [if_neg (by omega), if_neg (by omega)]
                refine ⟨?_, ?_, ?_, ?_, ?_⟩
                · simp [zup, e0, hk, pp]; exact i44.1
                · simp [zup, e0, hk, pp]; exact i44.2.1
                · simp [zup, e0, hk, pp]; exact i44.2.2.1
                · simp [zup, e0, hk, pp]
                  by_cases hk2 : k = N 120 0 - 1
                  · subst hk2
                    simp
                    rw [hq]
                    unfold yvi
                    rw [if_neg hd.2.1]
                  · rw [if_neg hk2]
                    have := i44.2.2.2.1
                    rw [if_neg (by omega)] at this
                    exact this
                · simp [zup, e0, hk, pp]
                  by_cases hk2 : k = N 120 0 - 1
                  · subst hk2
                    simp
                    unfold yjo
                    rw [if_neg hd.2.1]
                    have i45 := i44.2.2.2.2
                    rw [if_pos (by omega)] at i45
                    rw [hd.1, ← hps] at hr
                    by_cases hj : K (yq K (ypl K b (N 120 0 - 1)) + 1) = 12 ∨ K (yq K (ypl K b (N 120 0 - 1)) + 1) = 13
                    · have e2 := hr.2.2.2.mpr hj
                      rw [if_pos hj, if_pos (by rw [show p - 1 = yq K (ypl K b (N 120 0 - 1)) + 1 by omega]; exact hj)]
                      omega
                    · have e2 : p = yq K (ypl K b (N 120 0 - 1)) + 1 := by
                        have : p ≠ yq K (ypl K b (N 120 0 - 1)) + 2 := fun z => hj (hr.2.2.2.mp z)
                        omega
                      rw [if_neg hj, if_neg (by rw [show p - 1 = yq K (ypl K b (N 120 0 - 1)) by omega, hr.2.2.1]; decide)]
                      exact i45
                  · rw [if_neg hk2]
                    have := i44.2.2.2.2
                    rw [if_neg (by omega)] at this
                    exact this
            · omega
          · skip
            refine zw_aload ⟨rfl, rfl⟩ rfl ?_
            refine zw_iload ⟨rfl, rfl⟩ rfl ?_
            refine zw_const ⟨rfl, rfl⟩ ?_
            refine zw_iadd ⟨rfl, rfl⟩ (by omega) ?_
            refine zw_callv2 ⟨rfl, rfl⟩ rfl zc_105 rfl ?_
            refine m_kindAt hK (hC.cg (fun x y1 y2 => by rw [zup_row (by omega)]; exact (g1 x (by omega)).trans (i3.2 x (by omega)))) ?_
            refine zw_const ⟨rfl, rfl⟩ ?_
            refine zw_icne ⟨rfl, rfl⟩ rfl (fun c6 => ?_) (fun c6 => ?_)
            · skip
              have hn4 : ¬ K (p + 1) = 4 := by assumption
              refine zw_const ⟨rfl, rfl⟩ ?_
              refine zw_iast ⟨rfl, rfl⟩ za_122 (by omega) ?_
              refine zw_aload ⟨rfl, rfl⟩ rfl ?_
              refine zw_getR 123 ⟨rfl, rfl⟩ zr_120_12 ?_
              refine zw_aload ⟨rfl, rfl⟩ rfl ?_
              refine zw_getIv (v := N 120 0) ⟨rfl, rfl⟩ zc_120 (by decide) ((zup_na (by decide)).trans ((zup_na (by decide)).trans (eN0))) ?_
              refine zw_const ⟨rfl, rfl⟩ ?_
              refine zw_iast ⟨rfl, rfl⟩ za_123 (by omega) ?_
              refine zw_aload ⟨rfl, rfl⟩ rfl ?_
              refine zw_getR 124 ⟨rfl, rfl⟩ zr_120_13 ?_
              refine zw_aload ⟨rfl, rfl⟩ rfl ?_
              refine zw_getIv (v := N 120 0) ⟨rfl, rfl⟩ zc_120 (by decide) ((zup_na (by decide)).trans ((zup_na (by decide)).trans ((zup_na (by decide)).trans (eN0)))) ?_
              refine zw_const ⟨rfl, rfl⟩ ?_
              refine zw_iast ⟨rfl, rfl⟩ za_124 (by omega) ?_
              refine zw_aload ⟨rfl, rfl⟩ rfl ?_
              refine zw_getR 125 ⟨rfl, rfl⟩ zr_120_14 ?_
              refine zw_aload ⟨rfl, rfl⟩ rfl ?_
              refine zw_getIv (v := N 120 0) ⟨rfl, rfl⟩ zc_120 (by decide) ((zup_na (by decide)).trans ((zup_na (by decide)).trans ((zup_na (by decide)).trans ((zup_na (by decide)).trans (eN0))))) ?_
              refine zw_const ⟨rfl, rfl⟩ ?_
              refine zw_bast3 ⟨rfl, rfl⟩ za_125 (by omega) (by first | exact Or.inl rfl | exact Or.inr rfl | omega) ?_
              refine zw_aload ⟨rfl, rfl⟩ rfl ?_
              refine zw_aload ⟨rfl, rfl⟩ rfl ?_
              refine zw_getR 122 ⟨rfl, rfl⟩ zr_120_11 ?_
              refine zw_aload ⟨rfl, rfl⟩ rfl ?_
              refine zw_getIv (v := N 120 0) ⟨rfl, rfl⟩ zc_120 (by decide) ((zup_na (by decide)).trans ((zup_na (by decide)).trans ((zup_na (by decide)).trans ((zup_na (by decide)).trans ((zup_na (by decide)).trans (eN0)))))) ?_
              refine zw_ialdv (v := -1) ⟨rfl, rfl⟩ za_122 (by omega) ((zup_na (by decide)).trans ((zup_na (by decide)).trans ((zup_na (by decide)).trans (zup_eq _ _ _ _)))) ?_
              refine zw_const ⟨rfl, rfl⟩ ?_
              refine zw_icne ⟨rfl, rfl⟩ rfl (fun q => absurd q (by decide)) (fun _ => ?_)
              refine zw_iload ⟨rfl, rfl⟩ rfl ?_
              refine zw_const ⟨rfl, rfl⟩ ?_
              refine zw_iadd ⟨rfl, rfl⟩ (by omega) ?_
              refine zw_goto ⟨rfl, rfl⟩ rfl ?_
              refine zw_putI ⟨rfl, rfl⟩ zc_120 (by decide) (fun h => absurd h (by decide)) ?_
              refine zw_aload ⟨rfl, rfl⟩ rfl ?_
              refine zw_dup ⟨rfl, rfl⟩ (by decide) ?_
              refine zw_getIv (v := N 120 0) ⟨rfl, rfl⟩ zc_120 (by decide) ((zup_ni (by decide)).trans ((zup_na (by decide)).trans ((zup_na (by decide)).trans ((zup_na (by decide)).trans ((zup_na (by decide)).trans ((zup_na (by decide)).trans (eN0))))))) ?_
              refine zw_const ⟨rfl, rfl⟩ ?_
              refine zw_iadd ⟨rfl, rfl⟩ (by omega) ?_
              refine zw_putI ⟨rfl, rfl⟩ zc_120 (by decide) (fun h => absurd h (by decide)) ?_
              refine zw_iinc_2 ⟨rfl, rfl⟩ (by omega) ?_
              refine zw_goto ⟨rfl, rfl⟩ rfl ?_
              have eN : N1 120 = N 120 := by
                by_cases z : N 120 0 = 0
                · rw [p1.1 z]
                · rw [p1.2 z, zup_row (by decide), zup_row (by decide)]
              have e0 : N1 120 0 = N 120 0 := by rw [eN]
              refine ih _ _ ?_ ?_ ?_ ?_ ?_
              · omega
              · have s0 : (zup (zup (zup (zup (zup (zup (zup N1 121 (N 120 0) p) 122 (N 120 0) (-1)) 123 (N 120 0) (-1)) 124 (N 120 0) (-1)) 125 (N 120 0) 0) 120 7 (p + 1)) 120 0 ((N 120 0) + 1)) 120 0 = N 120 0 + 1 := by simp [zup, e0]
                rw [s0]
                refine ⟨by omega, fun z => by omega, fun z => ?_, fun z => ?_⟩
                · have := (ypl_lt hK h0 h1 h i2.1.1 (show N 120 0 < N 120 0 + 1 by omega) z)
                  omega
                · rw [show N 120 0 + 1 - 1 = N 120 0 by omega, ← hps]
                  refine ⟨by omega, ?_⟩
                  simp [zup, yq, hn4]
              · refine ⟨fun j q1 q2 => ?_, fun x hx => ?_⟩
                · rw [← i3.1 j q1 q2, ← congrFun eN j]
                  simp [zup, q1, q2]
                · rw [zup_row (by omega), zup_row (by omega), zup_row (by omega), zup_row (by omega), zup_row (by omega), zup_row (by omega), zup_row (by omega), g1 x (by omega)]
                  exact i3.2 x hx
              · have s0 : (zup (zup (zup (zup (zup (zup (zup N1 121 (N 120 0) p) 122 (N 120 0) (-1)) 123 (N 120 0) (-1)) 124 (N 120 0) (-1)) 125 (N 120 0) 0) 120 7 (p + 1)) 120 0 ((N 120 0) + 1)) 120 0 = N 120 0 + 1 := by simp [zup, e0]
                rw [s0]
                intro k q1 q2
                by_cases hk : k = N 120 0
                · subst hk
                  rw [← hps]
                  unfold ynk
                  first | rw [if_pos hn4] | rw [if_neg hn4]
                  simp [zup, e0]
                · have i44 := i4 k q1 (by omega)
                  have hz : N 120 0 ≠ 0 := by omega
                  have pp := p1.2 hz
                  have hd := ypl_n hK h0 h1 h (k := N 120 0 - 1) (by omega) (by omega)
                  rw [show N 120 0 - 1 + 1 = N 120 0 by omega] at hd
                  have hr := ync_r hd.2.1
                  have hq := (i2.2.2.2 (by omega)).2
                  rw [if_neg (by omega), if_neg (by omega)]
                  refine ⟨?_, ?_, ?_, ?_, ?_⟩
                  · simp [zup, e0, hk, pp]; exact i44.1
                  · simp [zup, e0, hk, pp]; exact i44.2.1
                  · simp [zup, e0, hk, pp]; exact i44.2.2.1
                  · simp [zup, e0, hk, pp]
                    by_cases hk2 : k = N 120 0 - 1
                    · subst hk2
                      simp
                      rw [hq]
                      unfold yvi
                      rw [if_neg hd.2.1]
                    · rw [if_neg hk2]
                      have := i44.2.2.2.1
                      rw [if_neg (by omega)] at this
                      exact this
                  · simp [zup, e0, hk, pp]
                    by_cases hk2 : k = N 120 0 - 1
                    · subst hk2
                      simp
                      unfold yjo
                      rw [if_neg hd.2.1]
                      have i45 := i44.2.2.2.2
                      rw [if_pos (by omega)] at i45
                      rw [hd.1, ← hps] at hr
                      by_cases hj : K (yq K (ypl K b (N 120 0 - 1)) + 1) = 12 ∨ K (yq K (ypl K b (N 120 0 - 1)) + 1) = 13
                      · have e2 := hr.2.2.2.mpr hj
                        rw [if_pos hj, if_pos (by rw [show p - 1 = yq K (ypl K b (N 120 0 - 1)) + 1 by omega]; exact hj)]
                        omega
                      · have e2 : p = yq K (ypl K b (N 120 0 - 1)) + 1 := by
                          have : p ≠ yq K (ypl K b (N 120 0 - 1)) + 2 := fun z => hj (hr.2.2.2.mp z)
                          omega
                        rw [if_neg hj, if_neg (by rw [show p - 1 = yq K (ypl K b (N 120 0 - 1)) by omega, hr.2.2.1]; decide)]
                        exact i45
                    · rw [if_neg hk2]
                      have := i44.2.2.2.2
                      rw [if_neg (by omega)] at this
                      exact this
              · omega
            · skip
              have hn4 : K (p + 1) = 4 := by omega
              refine zw_iload ⟨rfl, rfl⟩ rfl ?_
              refine zw_const ⟨rfl, rfl⟩ ?_
              refine zw_iadd ⟨rfl, rfl⟩ (by omega) ?_
              refine zw_goto ⟨rfl, rfl⟩ rfl ?_
              refine zw_iast ⟨rfl, rfl⟩ za_122 (by omega) ?_
              refine zw_aload ⟨rfl, rfl⟩ rfl ?_
              refine zw_getR 123 ⟨rfl, rfl⟩ zr_120_12 ?_
              refine zw_aload ⟨rfl, rfl⟩ rfl ?_
              refine zw_getIv (v := N 120 0) ⟨rfl, rfl⟩ zc_120 (by decide) ((zup_na (by decide)).trans ((zup_na (by decide)).trans (eN0))) ?_
              refine zw_const ⟨rfl, rfl⟩ ?_
              refine zw_iast ⟨rfl, rfl⟩ za_123 (by omega) ?_
              refine zw_aload ⟨rfl, rfl⟩ rfl ?_
              refine zw_getR 124 ⟨rfl, rfl⟩ zr_120_13 ?_
              refine zw_aload ⟨rfl, rfl⟩ rfl ?_
              refine zw_getIv (v := N 120 0) ⟨rfl, rfl⟩ zc_120 (by decide) ((zup_na (by decide)).trans ((zup_na (by decide)).trans ((zup_na (by decide)).trans (eN0)))) ?_
              refine zw_const ⟨rfl, rfl⟩ ?_
              refine zw_iast ⟨rfl, rfl⟩ za_124 (by omega) ?_
              refine zw_aload ⟨rfl, rfl⟩ rfl ?_
              refine zw_getR 125 ⟨rfl, rfl⟩ zr_120_14 ?_
              refine zw_aload ⟨rfl, rfl⟩ rfl ?_
              refine zw_getIv (v := N 120 0) ⟨rfl, rfl⟩ zc_120 (by decide) ((zup_na (by decide)).trans ((zup_na (by decide)).trans ((zup_na (by decide)).trans ((zup_na (by decide)).trans (eN0))))) ?_
              refine zw_const ⟨rfl, rfl⟩ ?_
              refine zw_bast3 ⟨rfl, rfl⟩ za_125 (by omega) (by first | exact Or.inl rfl | exact Or.inr rfl | omega) ?_
              refine zw_aload ⟨rfl, rfl⟩ rfl ?_
              refine zw_aload ⟨rfl, rfl⟩ rfl ?_
              refine zw_getR 122 ⟨rfl, rfl⟩ zr_120_11 ?_
              refine zw_aload ⟨rfl, rfl⟩ rfl ?_
              refine zw_getIv (v := N 120 0) ⟨rfl, rfl⟩ zc_120 (by decide) ((zup_na (by decide)).trans ((zup_na (by decide)).trans ((zup_na (by decide)).trans ((zup_na (by decide)).trans ((zup_na (by decide)).trans (eN0)))))) ?_
              refine zw_ialdv (v := p + 1) ⟨rfl, rfl⟩ za_122 (by omega) ((zup_na (by decide)).trans ((zup_na (by decide)).trans ((zup_na (by decide)).trans (zup_eq _ _ _ _)))) ?_
              refine zw_const ⟨rfl, rfl⟩ ?_
              refine zw_icne ⟨rfl, rfl⟩ rfl (fun _ => ?_) (fun q => absurd (by omega) q)
              refine zw_iload ⟨rfl, rfl⟩ rfl ?_
              refine zw_const ⟨rfl, rfl⟩ ?_
              refine zw_iadd ⟨rfl, rfl⟩ (by omega) ?_
              refine zw_putI ⟨rfl, rfl⟩ zc_120 (by decide) (fun h => absurd h (by decide)) ?_
              refine zw_aload ⟨rfl, rfl⟩ rfl ?_
              refine zw_dup ⟨rfl, rfl⟩ (by decide) ?_
              refine zw_getIv (v := N 120 0) ⟨rfl, rfl⟩ zc_120 (by decide) ((zup_ni (by decide)).trans ((zup_na (by decide)).trans ((zup_na (by decide)).trans ((zup_na (by decide)).trans ((zup_na (by decide)).trans ((zup_na (by decide)).trans (eN0))))))) ?_
              refine zw_const ⟨rfl, rfl⟩ ?_
              refine zw_iadd ⟨rfl, rfl⟩ (by omega) ?_
              refine zw_putI ⟨rfl, rfl⟩ zc_120 (by decide) (fun h => absurd h (by decide)) ?_
              refine zw_iinc_2 ⟨rfl, rfl⟩ (by omega) ?_
              refine zw_goto ⟨rfl, rfl⟩ rfl ?_
              have eN : N1 120 = N 120 := by
                by_cases z : N 120 0 = 0
                · rw [p1.1 z]
                · rw [p1.2 z, zup_row (by decide), zup_row (by decide)]
              have e0 : N1 120 0 = N 120 0 := by rw [eN]
              refine ih _ _ ?_ ?_ ?_ ?_ ?_
              · omega
              · have s0 : (zup (zup (zup (zup (zup (zup (zup N1 121 (N 120 0) p) 122 (N 120 0) (p + 1)) 123 (N 120 0) (-1)) 124 (N 120 0) (-1)) 125 (N 120 0) 0) 120 7 (p + 2)) 120 0 ((N 120 0) + 1)) 120 0 = N 120 0 + 1 := by simp [zup, e0]
                rw [s0]
                refine ⟨by omega, fun z => by omega, fun z => ?_, fun z => ?_⟩
                · have := (ypl_lt hK h0 h1 h i2.1.1 (show N 120 0 < N 120 0 + 1 by omega) z)
                  omega
                · rw [show N 120 0 + 1 - 1 = N 120 0 by omega, ← hps]
                  refine ⟨by omega, ?_⟩
                  simp [zup, yq, hn4]
              · refine ⟨fun j q1 q2 => ?_, fun x hx => ?_⟩
                · rw [← i3.1 j q1 q2, ← congrFun eN j]
                  simp [zup, q1, q2]
                · rw [zup_row (by omega), zup_row (by omega), zup_row (by omega), zup_row (by omega), zup_row (by omega), zup_row (by omega), zup_row (by omega), g1 x (by omega)]
                  exact i3.2 x hx
              · have s0 : (zup (zup (zup (zup (zup (zup (zup N1 121 (N 120 0) p) 122 (N 120 0) (p + 1)) 123 (N 120 0) (-1)) 124 (N 120 0) (-1)) 125 (N 120 0) 0) 120 7 (p + 2)) 120 0 ((N 120 0) + 1)) 120 0 = N 120 0 + 1 := by simp [zup, e0]
                rw [s0]
                intro k q1 q2
                by_cases hk : k = N 120 0
                · subst hk
                  rw [← hps]
                  unfold ynk
                  first | rw [if_pos hn4] | rw [if_neg hn4]
                  simp [zup, e0]
                · have i44 := i4 k q1 (by omega)
                  have hz : N 120 0 ≠ 0 := by omega
                  have pp := p1.2 hz
                  have hd := ypl_n hK h0 h1 h (k := N 120 0 - 1) (by omega) (by omega)
                  rw [show N 120 0 - 1 + 1 = N 120 0 by omega] at hd
                  have hr := ync_r hd.2.1
                  have hq := (i2.2.2.2 (by omega)).2
                  rw [if_neg (by omega), if_neg (by omega)]
                  refine ⟨?_, ?_, ?_, ?_, ?_⟩
                  · simp [zup, e0, hk, pp]; exact i44.1
                  · simp [zup, e0, hk, pp]; exact i44.2.1
                  · simp [zup, e0, hk, pp]; exact i44.2.2.1
                  · simp [zup, e0, hk, pp]
                    by_cases hk2 : k = N 120 0 - 1
                    · subst hk2
                      simp
                      rw [hq]
                      unfold yvi
                      rw [if_neg hd.2.1]
                    · rw [if_neg hk2]
                      have := i44.2.2.2.1
                      rw [if_neg (by omega)] at this
                      exact this
                  · simp [zup, e0, hk, pp]
                    by_cases hk2 : k = N 120 0 - 1
                    · subst hk2
                      simp
                      unfold yjo
                      rw [if_neg hd.2.1]
                      have i45 := i44.2.2.2.2
                      rw [if_pos (by omega)] at i45
                      rw [hd.1, ← hps] at hr
                      by_cases hj : K (yq K (ypl K b (N 120 0 - 1)) + 1) = 12 ∨ K (yq K (ypl K b (N 120 0 - 1)) + 1) = 13
                      · have e2 := hr.2.2.2.mpr hj
                        rw [if_pos hj, if_pos (by rw [show p - 1 = yq K (ypl K b (N 120 0 - 1)) + 1 by omega]; exact hj)]
                        omega
                      · have e2 : p = yq K (ypl K b (N 120 0 - 1)) + 1 := by
                          have : p ≠ yq K (ypl K b (N 120 0 - 1)) + 2 := fun z => hj (hr.2.2.2.mp z)
                          omega
                        rw [if_neg hj, if_neg (by rw [show p - 1 = yq K (ypl K b (N 120 0 - 1)) by omega, hr.2.2.1]; decide)]
                        exact i45
                    · rw [if_neg hk2]
                      have := i44.2.2.2.2
                      rw [if_neg (by omega)] at this
                      exact this
              · omega
end

theorem m_readChain {b : Int} {M : zM} {Q : zV → zM → Prop} {K : Int → Int} {n : Int} (hK : yKr K n) (hC : yCut M K n) (h0 : 0 ≤ b) (h1 : b < n) (hb : ybg K b) (h : K b = 1) (hM : M 120 5 = b ∧ M 120 6 = yov K b) (k : ∀ N : zM, (N 120 0 = ym K b ∧ N 120 7 = ytl K b ∧ (∀ j, j ≠ 0 → j ≠ 7 → N 120 j = M 120 j) ∧ (∀ k, 0 ≤ k → k < ym K b → N 121 k = ypl K b k ∧ N 122 k = ynk K (ypl K b k) ∧ N 123 k = yvi K (ypl K b k) ∧ N 124 k = yjo K (ypl K b k) ∧ N 125 k = 0) ∧ ∀ x, ¬ (120 ≤ x ∧ x ≤ 125) → N x = M x) → Q (3, 0) N) (hz : M 120 0 = 0) : zWp kAn_readChain 0 [(1, 120), (1, 105), (3, 0)] [] M Q := by
  refine zw_aload ⟨rfl, rfl⟩ rfl ?_
  refine zw_getIv (v := M 120 5) ⟨rfl, rfl⟩ zc_120 (by decide) rfl ?_
  refine zw_istore_2 ⟨rfl, rfl⟩ ?_
  have hov := yov_sp hK h0 h1 hb
  have hm := ym_r hK h0 h1 h
  rw [hM.1]
  refine m_readChain_l hK hC h0 h1 hb h hM k _ _ _ (by omega) ?_ ⟨fun _ _ _ => rfl, fun _ _ => rfl⟩ ?_ (Nat.lt_succ_self _)
  · rw [hz]; exact ⟨by omega, fun _ => rfl, fun _ => by rw [ypl_0]; exact Int.le_refl _, fun z => by omega⟩
  · intro j q1 q2; omega
end

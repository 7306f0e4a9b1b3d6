-- ===== PART A: goes FIRST, ahead of the names: the tables' words, and 'selects' of the private methods out of them =====
/-- a private method of a class that the tables say can be made, by its rows of tables_1 -/
def lw_okq (q : MethodName × Nat) : Prop := (q.1.cls ≠ "java/lang/invoke/MethodHandle" ∧ q.1.cls ≠ "java/lang/invoke/VarHandle") ∧ Cond.instantiable q.1.cls q.2 ∈ tables_1 ∧ Cond.privateMethod q.1 ∈ tables_1 ∧ Cond.instanceMethod q.1 ∈ tables_1
theorem lw_p0 : lw_okq (⟨"CourtProgress", "refuse", "(I)I"⟩, 15) := ⟨⟨by decide +kernel, by decide +kernel⟩, List.mem_of_getElem? (i := 23) (by decide +kernel), List.mem_of_getElem? (i := 392) (by decide +kernel), List.mem_of_getElem? (i := 393) (by decide +kernel)⟩
theorem lw_p1 : lw_okq (⟨"CourtProgress", "grant", "(I)I"⟩, 15) := ⟨⟨by decide +kernel, by decide +kernel⟩, List.mem_of_getElem? (i := 23) (by decide +kernel), List.mem_of_getElem? (i := 400) (by decide +kernel), List.mem_of_getElem? (i := 401) (by decide +kernel)⟩
theorem lw_p2 : lw_okq (⟨"CourtProgress", "deny", "(I)Z"⟩, 15) := ⟨⟨by decide +kernel, by decide +kernel⟩, List.mem_of_getElem? (i := 23) (by decide +kernel), List.mem_of_getElem? (i := 412) (by decide +kernel), List.mem_of_getElem? (i := 413) (by decide +kernel)⟩
theorem lw_p3 : lw_okq (⟨"CourtProgress", "allow", "()Z"⟩, 15) := ⟨⟨by decide +kernel, by decide +kernel⟩, List.mem_of_getElem? (i := 23) (by decide +kernel), List.mem_of_getElem? (i := 421) (by decide +kernel), List.mem_of_getElem? (i := 422) (by decide +kernel)⟩
theorem lw_p4 : lw_okq (⟨"CourtProgress$Tape", "skipBlanks", "(I)I"⟩, 6) := ⟨⟨by decide +kernel, by decide +kernel⟩, List.mem_of_getElem? (i := 162) (by decide +kernel), List.mem_of_getElem? (i := 515) (by decide +kernel), List.mem_of_getElem? (i := 516) (by decide +kernel)⟩
theorem lw_p5 : lw_okq (⟨"CourtProgress$Tape", "byteAt", "(I)I"⟩, 6) := ⟨⟨by decide +kernel, by decide +kernel⟩, List.mem_of_getElem? (i := 162) (by decide +kernel), List.mem_of_getElem? (i := 519) (by decide +kernel), List.mem_of_getElem? (i := 520) (by decide +kernel)⟩
theorem lw_p6 : lw_okq (⟨"CourtProgress$Tape", "tokenEnd", "(I)I"⟩, 6) := ⟨⟨by decide +kernel, by decide +kernel⟩, List.mem_of_getElem? (i := 162) (by decide +kernel), List.mem_of_getElem? (i := 523) (by decide +kernel), List.mem_of_getElem? (i := 524) (by decide +kernel)⟩
theorem lw_p7 : lw_okq (⟨"CourtProgress$Tape", "isLetter", "(I)Z"⟩, 6) := ⟨⟨by decide +kernel, by decide +kernel⟩, List.mem_of_getElem? (i := 162) (by decide +kernel), List.mem_of_getElem? (i := 527) (by decide +kernel), List.mem_of_getElem? (i := 528) (by decide +kernel)⟩
theorem lw_p8 : lw_okq (⟨"CourtProgress$Tape", "isDigit", "(I)Z"⟩, 6) := ⟨⟨by decide +kernel, by decide +kernel⟩, List.mem_of_getElem? (i := 162) (by decide +kernel), List.mem_of_getElem? (i := 531) (by decide +kernel), List.mem_of_getElem? (i := 532) (by decide +kernel)⟩
theorem lw_p9 : lw_okq (⟨"CourtProgress$Tape", "tokenOf", "(II)I"⟩, 6) := ⟨⟨by decide +kernel, by decide +kernel⟩, List.mem_of_getElem? (i := 162) (by decide +kernel), List.mem_of_getElem? (i := 535) (by decide +kernel), List.mem_of_getElem? (i := 536) (by decide +kernel)⟩
theorem lw_p10 : lw_okq (⟨"CourtProgress$Tape", "wordOf", "(II)I"⟩, 6) := ⟨⟨by decide +kernel, by decide +kernel⟩, List.mem_of_getElem? (i := 162) (by decide +kernel), List.mem_of_getElem? (i := 539) (by decide +kernel), List.mem_of_getElem? (i := 540) (by decide +kernel)⟩
theorem lw_p11 : lw_okq (⟨"CourtProgress$Tape", "spells", "(Ljava/lang/String;II)Z"⟩, 6) := ⟨⟨by decide +kernel, by decide +kernel⟩, List.mem_of_getElem? (i := 162) (by decide +kernel), List.mem_of_getElem? (i := 544) (by decide +kernel), List.mem_of_getElem? (i := 545) (by decide +kernel)⟩
theorem lw_p12 : lw_okq (⟨"CourtProgress$Tape", "numberOf", "(II)I"⟩, 6) := ⟨⟨by decide +kernel, by decide +kernel⟩, List.mem_of_getElem? (i := 162) (by decide +kernel), List.mem_of_getElem? (i := 605) (by decide +kernel), List.mem_of_getElem? (i := 606) (by decide +kernel)⟩
theorem lw_p13 : lw_okq (⟨"CourtProgress$Scribe", "readRule", "(I)Z"⟩, 5) := ⟨⟨by decide +kernel, by decide +kernel⟩, List.mem_of_getElem? (i := 188) (by decide +kernel), List.mem_of_getElem? (i := 624) (by decide +kernel), List.mem_of_getElem? (i := 625) (by decide +kernel)⟩
theorem lw_p14 : lw_okq (⟨"CourtProgress$Scribe", "fail", "(I)Z"⟩, 5) := ⟨⟨by decide +kernel, by decide +kernel⟩, List.mem_of_getElem? (i := 188) (by decide +kernel), List.mem_of_getElem? (i := 628) (by decide +kernel), List.mem_of_getElem? (i := 629) (by decide +kernel)⟩
theorem lw_p15 : lw_okq (⟨"CourtProgress$Scribe", "readTests", "()Z"⟩, 5) := ⟨⟨by decide +kernel, by decide +kernel⟩, List.mem_of_getElem? (i := 188) (by decide +kernel), List.mem_of_getElem? (i := 639) (by decide +kernel), List.mem_of_getElem? (i := 640) (by decide +kernel)⟩
def lw_privs_1 : List (MethodName × Nat) := [(⟨"CourtProgress", "refuse", "(I)I"⟩, 15), (⟨"CourtProgress", "grant", "(I)I"⟩, 15), (⟨"CourtProgress", "deny", "(I)Z"⟩, 15), (⟨"CourtProgress", "allow", "()Z"⟩, 15), (⟨"CourtProgress$Tape", "skipBlanks", "(I)I"⟩, 6), (⟨"CourtProgress$Tape", "byteAt", "(I)I"⟩, 6), (⟨"CourtProgress$Tape", "tokenEnd", "(I)I"⟩, 6), (⟨"CourtProgress$Tape", "isLetter", "(I)Z"⟩, 6), (⟨"CourtProgress$Tape", "isDigit", "(I)Z"⟩, 6), (⟨"CourtProgress$Tape", "tokenOf", "(II)I"⟩, 6), (⟨"CourtProgress$Tape", "wordOf", "(II)I"⟩, 6), (⟨"CourtProgress$Tape", "spells", "(Ljava/lang/String;II)Z"⟩, 6), (⟨"CourtProgress$Tape", "numberOf", "(II)I"⟩, 6), (⟨"CourtProgress$Scribe", "readRule", "(I)Z"⟩, 5), (⟨"CourtProgress$Scribe", "fail", "(I)Z"⟩, 5), (⟨"CourtProgress$Scribe", "readTests", "()Z"⟩, 5)]
theorem lw_r1 : ∀ q ∈ lw_privs_1, lw_okq q := List.forall_mem_cons.mpr ⟨lw_p0, List.forall_mem_cons.mpr ⟨lw_p1, List.forall_mem_cons.mpr ⟨lw_p2, List.forall_mem_cons.mpr ⟨lw_p3, List.forall_mem_cons.mpr ⟨lw_p4, List.forall_mem_cons.mpr ⟨lw_p5, List.forall_mem_cons.mpr ⟨lw_p6, List.forall_mem_cons.mpr ⟨lw_p7, List.forall_mem_cons.mpr ⟨lw_p8, List.forall_mem_cons.mpr ⟨lw_p9, List.forall_mem_cons.mpr ⟨lw_p10, List.forall_mem_cons.mpr ⟨lw_p11, List.forall_mem_cons.mpr ⟨lw_p12, List.forall_mem_cons.mpr ⟨lw_p13, List.forall_mem_cons.mpr ⟨lw_p14, List.forall_mem_cons.mpr ⟨lw_p15, fun _ h => absurd h List.not_mem_nil⟩⟩⟩⟩⟩⟩⟩⟩⟩⟩⟩⟩⟩⟩⟩⟩
theorem lw_p16 : lw_okq (⟨"CourtProgress$Scribe", "advance", "()V"⟩, 5) := ⟨⟨by decide +kernel, by decide +kernel⟩, List.mem_of_getElem? (i := 188) (by decide +kernel), List.mem_of_getElem? (i := 643) (by decide +kernel), List.mem_of_getElem? (i := 644) (by decide +kernel)⟩
theorem lw_p17 : lw_okq (⟨"CourtProgress$Scribe", "isName", "()Z"⟩, 5) := ⟨⟨by decide +kernel, by decide +kernel⟩, List.mem_of_getElem? (i := 188) (by decide +kernel), List.mem_of_getElem? (i := 647) (by decide +kernel), List.mem_of_getElem? (i := 648) (by decide +kernel)⟩
theorem lw_p18 : lw_okq (⟨"CourtProgress$Scribe", "failWithoutName", "()Z"⟩, 5) := ⟨⟨by decide +kernel, by decide +kernel⟩, List.mem_of_getElem? (i := 188) (by decide +kernel), List.mem_of_getElem? (i := 651) (by decide +kernel), List.mem_of_getElem? (i := 652) (by decide +kernel)⟩
theorem lw_p19 : lw_okq (⟨"CourtProgress$Scribe", "readTest", "()Z"⟩, 5) := ⟨⟨by decide +kernel, by decide +kernel⟩, List.mem_of_getElem? (i := 188) (by decide +kernel), List.mem_of_getElem? (i := 655) (by decide +kernel), List.mem_of_getElem? (i := 656) (by decide +kernel)⟩
theorem lw_p20 : lw_okq (⟨"CourtProgress$Scribe", "isNumber", "()Z"⟩, 5) := ⟨⟨by decide +kernel, by decide +kernel⟩, List.mem_of_getElem? (i := 188) (by decide +kernel), List.mem_of_getElem? (i := 659) (by decide +kernel), List.mem_of_getElem? (i := 660) (by decide +kernel)⟩
theorem lw_p21 : lw_okq (⟨"CourtProgress$Scribe", "readSum", "()Z"⟩, 5) := ⟨⟨by decide +kernel, by decide +kernel⟩, List.mem_of_getElem? (i := 188) (by decide +kernel), List.mem_of_getElem? (i := 671) (by decide +kernel), List.mem_of_getElem? (i := 672) (by decide +kernel)⟩
theorem lw_p22 : lw_okq (⟨"CourtProgress$Scribe", "readTerm", "()Z"⟩, 5) := ⟨⟨by decide +kernel, by decide +kernel⟩, List.mem_of_getElem? (i := 188) (by decide +kernel), List.mem_of_getElem? (i := 675) (by decide +kernel), List.mem_of_getElem? (i := 676) (by decide +kernel)⟩
theorem lw_p23 : lw_okq (⟨"CourtProgress$Statutes", "setDay", "(I)V"⟩, 8) := ⟨⟨by decide +kernel, by decide +kernel⟩, List.mem_of_getElem? (i := 130) (by decide +kernel), List.mem_of_getElem? (i := 722) (by decide +kernel), List.mem_of_getElem? (i := 723) (by decide +kernel)⟩
theorem lw_p24 : lw_okq (⟨"CourtProgress$Statutes", "setHousehold", "(I)V"⟩, 8) := ⟨⟨by decide +kernel, by decide +kernel⟩, List.mem_of_getElem? (i := 130) (by decide +kernel), List.mem_of_getElem? (i := 731) (by decide +kernel), List.mem_of_getElem? (i := 732) (by decide +kernel)⟩
theorem lw_p25 : lw_okq (⟨"CourtProgress$Statutes", "firstSum", "(II)I"⟩, 8) := ⟨⟨by decide +kernel, by decide +kernel⟩, List.mem_of_getElem? (i := 130) (by decide +kernel), List.mem_of_getElem? (i := 735) (by decide +kernel), List.mem_of_getElem? (i := 736) (by decide +kernel)⟩
theorem lw_p26 : lw_okq (⟨"CourtProgress$Statutes", "testsHold", "(I)Z"⟩, 8) := ⟨⟨by decide +kernel, by decide +kernel⟩, List.mem_of_getElem? (i := 130) (by decide +kernel), List.mem_of_getElem? (i := 739) (by decide +kernel), List.mem_of_getElem? (i := 740) (by decide +kernel)⟩
theorem lw_p27 : lw_okq (⟨"CourtProgress$Statutes", "valueOf", "(I)I"⟩, 8) := ⟨⟨by decide +kernel, by decide +kernel⟩, List.mem_of_getElem? (i := 130) (by decide +kernel), List.mem_of_getElem? (i := 743) (by decide +kernel), List.mem_of_getElem? (i := 744) (by decide +kernel)⟩
theorem lw_p28 : lw_okq (⟨"CourtProgress$Statutes", "sumOf", "(I)I"⟩, 8) := ⟨⟨by decide +kernel, by decide +kernel⟩, List.mem_of_getElem? (i := 130) (by decide +kernel), List.mem_of_getElem? (i := 747) (by decide +kernel), List.mem_of_getElem? (i := 748) (by decide +kernel)⟩
theorem lw_p29 : lw_okq (⟨"CourtProgress$Lodger", "isPossible", "(IZ)Z"⟩, 16) := ⟨⟨by decide +kernel, by decide +kernel⟩, List.mem_of_getElem? (i := 211) (by decide +kernel), List.mem_of_getElem? (i := 776) (by decide +kernel), List.mem_of_getElem? (i := 777) (by decide +kernel)⟩
theorem lw_p30 : lw_okq (⟨"CourtProgress$Lodger", "prepare", "(IZZ)V"⟩, 16) := ⟨⟨by decide +kernel, by decide +kernel⟩, List.mem_of_getElem? (i := 211) (by decide +kernel), List.mem_of_getElem? (i := 780) (by decide +kernel), List.mem_of_getElem? (i := 781) (by decide +kernel)⟩
theorem lw_p31 : lw_okq (⟨"CourtProgress$Lodger", "sortRooms", "(I)V"⟩, 16) := ⟨⟨by decide +kernel, by decide +kernel⟩, List.mem_of_getElem? (i := 211) (by decide +kernel), List.mem_of_getElem? (i := 784) (by decide +kernel), List.mem_of_getElem? (i := 785) (by decide +kernel)⟩
def lw_privs_2 : List (MethodName × Nat) := [(⟨"CourtProgress$Scribe", "advance", "()V"⟩, 5), (⟨"CourtProgress$Scribe", "isName", "()Z"⟩, 5), (⟨"CourtProgress$Scribe", "failWithoutName", "()Z"⟩, 5), (⟨"CourtProgress$Scribe", "readTest", "()Z"⟩, 5), (⟨"CourtProgress$Scribe", "isNumber", "()Z"⟩, 5), (⟨"CourtProgress$Scribe", "readSum", "()Z"⟩, 5), (⟨"CourtProgress$Scribe", "readTerm", "()Z"⟩, 5), (⟨"CourtProgress$Statutes", "setDay", "(I)V"⟩, 8), (⟨"CourtProgress$Statutes", "setHousehold", "(I)V"⟩, 8), (⟨"CourtProgress$Statutes", "firstSum", "(II)I"⟩, 8), (⟨"CourtProgress$Statutes", "testsHold", "(I)Z"⟩, 8), (⟨"CourtProgress$Statutes", "valueOf", "(I)I"⟩, 8), (⟨"CourtProgress$Statutes", "sumOf", "(I)I"⟩, 8), (⟨"CourtProgress$Lodger", "isPossible", "(IZ)Z"⟩, 16), (⟨"CourtProgress$Lodger", "prepare", "(IZZ)V"⟩, 16), (⟨"CourtProgress$Lodger", "sortRooms", "(I)V"⟩, 16)]
theorem lw_r2 : ∀ q ∈ lw_privs_2, lw_okq q := List.forall_mem_cons.mpr ⟨lw_p16, List.forall_mem_cons.mpr ⟨lw_p17, List.forall_mem_cons.mpr ⟨lw_p18, List.forall_mem_cons.mpr ⟨lw_p19, List.forall_mem_cons.mpr ⟨lw_p20, List.forall_mem_cons.mpr ⟨lw_p21, List.forall_mem_cons.mpr ⟨lw_p22, List.forall_mem_cons.mpr ⟨lw_p23, List.forall_mem_cons.mpr ⟨lw_p24, List.forall_mem_cons.mpr ⟨lw_p25, List.forall_mem_cons.mpr ⟨lw_p26, List.forall_mem_cons.mpr ⟨lw_p27, List.forall_mem_cons.mpr ⟨lw_p28, List.forall_mem_cons.mpr ⟨lw_p29, List.forall_mem_cons.mpr ⟨lw_p30, List.forall_mem_cons.mpr ⟨lw_p31, fun _ h => absurd h List.not_mem_nil⟩⟩⟩⟩⟩⟩⟩⟩⟩⟩⟩⟩⟩⟩⟩⟩
theorem lw_p32 : lw_okq (⟨"CourtProgress$Lodger", "sortHouseholds", "()V"⟩, 16) := ⟨⟨by decide +kernel, by decide +kernel⟩, List.mem_of_getElem? (i := 211) (by decide +kernel), List.mem_of_getElem? (i := 788) (by decide +kernel), List.mem_of_getElem? (i := 789) (by decide +kernel)⟩
theorem lw_p33 : lw_okq (⟨"CourtProgress$Lodger", "relate", "(IIZZ)V"⟩, 16) := ⟨⟨by decide +kernel, by decide +kernel⟩, List.mem_of_getElem? (i := 211) (by decide +kernel), List.mem_of_getElem? (i := 796) (by decide +kernel), List.mem_of_getElem? (i := 797) (by decide +kernel)⟩
theorem lw_p34 : lw_okq (⟨"CourtProgress$Lodger", "everyone", "()I"⟩, 16) := ⟨⟨by decide +kernel, by decide +kernel⟩, List.mem_of_getElem? (i := 211) (by decide +kernel), List.mem_of_getElem? (i := 803) (by decide +kernel), List.mem_of_getElem? (i := 804) (by decide +kernel)⟩
theorem lw_p35 : lw_okq (⟨"CourtProgress$Lodger", "search", "(III)V"⟩, 16) := ⟨⟨by decide +kernel, by decide +kernel⟩, List.mem_of_getElem? (i := 211) (by decide +kernel), List.mem_of_getElem? (i := 807) (by decide +kernel), List.mem_of_getElem? (i := 808) (by decide +kernel)⟩
theorem lw_p36 : lw_okq (⟨"CourtProgress$Lodger", "keep", "(I)V"⟩, 16) := ⟨⟨by decide +kernel, by decide +kernel⟩, List.mem_of_getElem? (i := 211) (by decide +kernel), List.mem_of_getElem? (i := 811) (by decide +kernel), List.mem_of_getElem? (i := 812) (by decide +kernel)⟩
theorem lw_p37 : lw_okq (⟨"CourtProgress$Lodger", "choose", "(III)I"⟩, 16) := ⟨⟨by decide +kernel, by decide +kernel⟩, List.mem_of_getElem? (i := 211) (by decide +kernel), List.mem_of_getElem? (i := 815) (by decide +kernel), List.mem_of_getElem? (i := 816) (by decide +kernel)⟩
theorem lw_p38 : lw_okq (⟨"CourtProgress$Lodger", "hardship", "(III)I"⟩, 16) := ⟨⟨by decide +kernel, by decide +kernel⟩, List.mem_of_getElem? (i := 211) (by decide +kernel), List.mem_of_getElem? (i := 828) (by decide +kernel), List.mem_of_getElem? (i := 829) (by decide +kernel)⟩
theorem lw_p39 : lw_okq (⟨"CourtProgress$Lodger", "leastTogether", "(II)I"⟩, 16) := ⟨⟨by decide +kernel, by decide +kernel⟩, List.mem_of_getElem? (i := 211) (by decide +kernel), List.mem_of_getElem? (i := 833) (by decide +kernel), List.mem_of_getElem? (i := 834) (by decide +kernel)⟩
theorem lw_p40 : lw_okq (⟨"CourtProgress$Lodger", "give", "(IIII)V"⟩, 16) := ⟨⟨by decide +kernel, by decide +kernel⟩, List.mem_of_getElem? (i := 211) (by decide +kernel), List.mem_of_getElem? (i := 838) (by decide +kernel), List.mem_of_getElem? (i := 839) (by decide +kernel)⟩
theorem lw_p41 : lw_okq (⟨"CourtProgress$Lodger", "findLesserRoom", "(IIII)V"⟩, 16) := ⟨⟨by decide +kernel, by decide +kernel⟩, List.mem_of_getElem? (i := 211) (by decide +kernel), List.mem_of_getElem? (i := 846) (by decide +kernel), List.mem_of_getElem? (i := 847) (by decide +kernel)⟩
theorem lw_p42 : lw_okq (⟨"CourtProgress$Lodger", "spotOfRoom", "(I)I"⟩, 16) := ⟨⟨by decide +kernel, by decide +kernel⟩, List.mem_of_getElem? (i := 211) (by decide +kernel), List.mem_of_getElem? (i := 850) (by decide +kernel), List.mem_of_getElem? (i := 851) (by decide +kernel)⟩
theorem lw_p43 : lw_okq (⟨"CourtProgress$Router", "measureRows", "()V"⟩, 14) := ⟨⟨by decide +kernel, by decide +kernel⟩, List.mem_of_getElem? (i := 266) (by decide +kernel), List.mem_of_getElem? (i := 880) (by decide +kernel), List.mem_of_getElem? (i := 881) (by decide +kernel)⟩
theorem lw_p44 : lw_okq (⟨"CourtProgress$Router", "measuredEnd", "(II)I"⟩, 14) := ⟨⟨by decide +kernel, by decide +kernel⟩, List.mem_of_getElem? (i := 266) (by decide +kernel), List.mem_of_getElem? (i := 886) (by decide +kernel), List.mem_of_getElem? (i := 887) (by decide +kernel)⟩
theorem lw_p45 : lw_okq (⟨"CourtProgress$Router", "mayBeAt", "(II)Z"⟩, 14) := ⟨⟨by decide +kernel, by decide +kernel⟩, List.mem_of_getElem? (i := 266) (by decide +kernel), List.mem_of_getElem? (i := 895) (by decide +kernel), List.mem_of_getElem? (i := 896) (by decide +kernel)⟩
theorem lw_p46 : lw_okq (⟨"CourtProgress$Router", "makeRoom", "()V"⟩, 14) := ⟨⟨by decide +kernel, by decide +kernel⟩, List.mem_of_getElem? (i := 266) (by decide +kernel), List.mem_of_getElem? (i := 900) (by decide +kernel), List.mem_of_getElem? (i := 901) (by decide +kernel)⟩
theorem lw_p47 : lw_okq (⟨"CourtProgress$Router", "leastOnward", "(IIII)I"⟩, 14) := ⟨⟨by decide +kernel, by decide +kernel⟩, List.mem_of_getElem? (i := 266) (by decide +kernel), List.mem_of_getElem? (i := 905) (by decide +kernel), List.mem_of_getElem? (i := 906) (by decide +kernel)⟩
def lw_privs_3 : List (MethodName × Nat) := [(⟨"CourtProgress$Lodger", "sortHouseholds", "()V"⟩, 16), (⟨"CourtProgress$Lodger", "relate", "(IIZZ)V"⟩, 16), (⟨"CourtProgress$Lodger", "everyone", "()I"⟩, 16), (⟨"CourtProgress$Lodger", "search", "(III)V"⟩, 16), (⟨"CourtProgress$Lodger", "keep", "(I)V"⟩, 16), (⟨"CourtProgress$Lodger", "choose", "(III)I"⟩, 16), (⟨"CourtProgress$Lodger", "hardship", "(III)I"⟩, 16), (⟨"CourtProgress$Lodger", "leastTogether", "(II)I"⟩, 16), (⟨"CourtProgress$Lodger", "give", "(IIII)V"⟩, 16), (⟨"CourtProgress$Lodger", "findLesserRoom", "(IIII)V"⟩, 16), (⟨"CourtProgress$Lodger", "spotOfRoom", "(I)I"⟩, 16), (⟨"CourtProgress$Router", "measureRows", "()V"⟩, 14), (⟨"CourtProgress$Router", "measuredEnd", "(II)I"⟩, 14), (⟨"CourtProgress$Router", "mayBeAt", "(II)Z"⟩, 14), (⟨"CourtProgress$Router", "makeRoom", "()V"⟩, 14), (⟨"CourtProgress$Router", "leastOnward", "(IIII)I"⟩, 14)]
theorem lw_r3 : ∀ q ∈ lw_privs_3, lw_okq q := List.forall_mem_cons.mpr ⟨lw_p32, List.forall_mem_cons.mpr ⟨lw_p33, List.forall_mem_cons.mpr ⟨lw_p34, List.forall_mem_cons.mpr ⟨lw_p35, List.forall_mem_cons.mpr ⟨lw_p36, List.forall_mem_cons.mpr ⟨lw_p37, List.forall_mem_cons.mpr ⟨lw_p38, List.forall_mem_cons.mpr ⟨lw_p39, List.forall_mem_cons.mpr ⟨lw_p40, List.forall_mem_cons.mpr ⟨lw_p41, List.forall_mem_cons.mpr ⟨lw_p42, List.forall_mem_cons.mpr ⟨lw_p43, List.forall_mem_cons.mpr ⟨lw_p44, List.forall_mem_cons.mpr ⟨lw_p45, List.forall_mem_cons.mpr ⟨lw_p46, List.forall_mem_cons.mpr ⟨lw_p47, fun _ h => absurd h List.not_mem_nil⟩⟩⟩⟩⟩⟩⟩⟩⟩⟩⟩⟩⟩⟩⟩⟩
theorem lw_p48 : lw_okq (⟨"CourtProgress$Router", "rowEnd", "(II)I"⟩, 14) := ⟨⟨by decide +kernel, by decide +kernel⟩, List.mem_of_getElem? (i := 266) (by decide +kernel), List.mem_of_getElem? (i := 909) (by decide +kernel), List.mem_of_getElem? (i := 910) (by decide +kernel)⟩
theorem lw_p49 : lw_okq (⟨"CourtProgress$Router", "leastLeaving", "(III)I"⟩, 14) := ⟨⟨by decide +kernel, by decide +kernel⟩, List.mem_of_getElem? (i := 266) (by decide +kernel), List.mem_of_getElem? (i := 913) (by decide +kernel), List.mem_of_getElem? (i := 914) (by decide +kernel)⟩
theorem lw_p50 : lw_okq (⟨"CourtProgress$Router", "slotOf", "(III)I"⟩, 14) := ⟨⟨by decide +kernel, by decide +kernel⟩, List.mem_of_getElem? (i := 266) (by decide +kernel), List.mem_of_getElem? (i := 917) (by decide +kernel), List.mem_of_getElem? (i := 918) (by decide +kernel)⟩
theorem lw_p51 : lw_okq (⟨"CourtProgress$Router", "leastBy", "(IIIII)I"⟩, 14) := ⟨⟨by decide +kernel, by decide +kernel⟩, List.mem_of_getElem? (i := 266) (by decide +kernel), List.mem_of_getElem? (i := 922) (by decide +kernel), List.mem_of_getElem? (i := 923) (by decide +kernel)⟩
theorem lw_p52 : lw_okq (⟨"CourtProgress$Router", "leastFrom", "(III)I"⟩, 14) := ⟨⟨by decide +kernel, by decide +kernel⟩, List.mem_of_getElem? (i := 266) (by decide +kernel), List.mem_of_getElem? (i := 930) (by decide +kernel), List.mem_of_getElem? (i := 931) (by decide +kernel)⟩
theorem lw_p53 : lw_okq (⟨"CourtProgress$Router", "leastNext", "(IIIII)I"⟩, 14) := ⟨⟨by decide +kernel, by decide +kernel⟩, List.mem_of_getElem? (i := 266) (by decide +kernel), List.mem_of_getElem? (i := 940) (by decide +kernel), List.mem_of_getElem? (i := 941) (by decide +kernel)⟩
theorem lw_p54 : lw_okq (⟨"CourtProgress", "isPast", "(I)Z"⟩, 15) := ⟨⟨by decide +kernel, by decide +kernel⟩, List.mem_of_getElem? (i := 23) (by decide +kernel), List.mem_of_getElem? (i := 980) (by decide +kernel), List.mem_of_getElem? (i := 981) (by decide +kernel)⟩
theorem lw_p55 : lw_okq (⟨"java/lang/Throwable", "fillInStackTrace", "(I)Ljava/lang/Throwable;"⟩, 6) := ⟨⟨by decide +kernel, by decide +kernel⟩, List.mem_of_getElem? (i := 1071) (by decide +kernel), List.mem_of_getElem? (i := 1069) (by decide +kernel), List.mem_of_getElem? (i := 1070) (by decide +kernel)⟩
theorem lw_p56 : lw_okq (⟨"CourtProgressModel", "refused", "(I)I"⟩, 64) := ⟨⟨by decide +kernel, by decide +kernel⟩, List.mem_of_getElem? (i := 1029) (by decide +kernel), List.mem_of_getElem? (i := 1307) (by decide +kernel), List.mem_of_getElem? (i := 1308) (by decide +kernel)⟩
theorem lw_p57 : lw_okq (⟨"CourtProgressModel", "done", "(I)I"⟩, 64) := ⟨⟨by decide +kernel, by decide +kernel⟩, List.mem_of_getElem? (i := 1029) (by decide +kernel), List.mem_of_getElem? (i := 1311) (by decide +kernel), List.mem_of_getElem? (i := 1312) (by decide +kernel)⟩
theorem lw_p58 : lw_okq (⟨"CourtProgressModel", "isHousehold", "(I)Z"⟩, 64) := ⟨⟨by decide +kernel, by decide +kernel⟩, List.mem_of_getElem? (i := 1029) (by decide +kernel), List.mem_of_getElem? (i := 1319) (by decide +kernel), List.mem_of_getElem? (i := 1320) (by decide +kernel)⟩
theorem lw_p59 : lw_okq (⟨"CourtProgressModel", "denied", "(I)Z"⟩, 64) := ⟨⟨by decide +kernel, by decide +kernel⟩, List.mem_of_getElem? (i := 1029) (by decide +kernel), List.mem_of_getElem? (i := 1323) (by decide +kernel), List.mem_of_getElem? (i := 1324) (by decide +kernel)⟩
theorem lw_p60 : lw_okq (⟨"CourtProgressModel", "granted", "()Z"⟩, 64) := ⟨⟨by decide +kernel, by decide +kernel⟩, List.mem_of_getElem? (i := 1029) (by decide +kernel), List.mem_of_getElem? (i := 1327) (by decide +kernel), List.mem_of_getElem? (i := 1328) (by decide +kernel)⟩
theorem lw_p61 : lw_okq (⟨"CourtProgressModel", "isPlace", "(I)Z"⟩, 64) := ⟨⟨by decide +kernel, by decide +kernel⟩, List.mem_of_getElem? (i := 1029) (by decide +kernel), List.mem_of_getElem? (i := 1340) (by decide +kernel), List.mem_of_getElem? (i := 1341) (by decide +kernel)⟩
theorem lw_p62 : lw_okq (⟨"CourtProgressModel", "reads", "()V"⟩, 64) := ⟨⟨by decide +kernel, by decide +kernel⟩, List.mem_of_getElem? (i := 1029) (by decide +kernel), List.mem_of_getElem? (i := 1372) (by decide +kernel), List.mem_of_getElem? (i := 1373) (by decide +kernel)⟩
theorem lw_p63 : lw_okq (⟨"CourtProgressModel", "next", "()V"⟩, 64) := ⟨⟨by decide +kernel, by decide +kernel⟩, List.mem_of_getElem? (i := 1029) (by decide +kernel), List.mem_of_getElem? (i := 1376) (by decide +kernel), List.mem_of_getElem? (i := 1377) (by decide +kernel)⟩
def lw_privs_4 : List (MethodName × Nat) := [(⟨"CourtProgress$Router", "rowEnd", "(II)I"⟩, 14), (⟨"CourtProgress$Router", "leastLeaving", "(III)I"⟩, 14), (⟨"CourtProgress$Router", "slotOf", "(III)I"⟩, 14), (⟨"CourtProgress$Router", "leastBy", "(IIIII)I"⟩, 14), (⟨"CourtProgress$Router", "leastFrom", "(III)I"⟩, 14), (⟨"CourtProgress$Router", "leastNext", "(IIIII)I"⟩, 14), (⟨"CourtProgress", "isPast", "(I)Z"⟩, 15), (⟨"java/lang/Throwable", "fillInStackTrace", "(I)Ljava/lang/Throwable;"⟩, 6), (⟨"CourtProgressModel", "refused", "(I)I"⟩, 64), (⟨"CourtProgressModel", "done", "(I)I"⟩, 64), (⟨"CourtProgressModel", "isHousehold", "(I)Z"⟩, 64), (⟨"CourtProgressModel", "denied", "(I)Z"⟩, 64), (⟨"CourtProgressModel", "granted", "()Z"⟩, 64), (⟨"CourtProgressModel", "isPlace", "(I)Z"⟩, 64), (⟨"CourtProgressModel", "reads", "()V"⟩, 64), (⟨"CourtProgressModel", "next", "()V"⟩, 64)]
theorem lw_r4 : ∀ q ∈ lw_privs_4, lw_okq q := List.forall_mem_cons.mpr ⟨lw_p48, List.forall_mem_cons.mpr ⟨lw_p49, List.forall_mem_cons.mpr ⟨lw_p50, List.forall_mem_cons.mpr ⟨lw_p51, List.forall_mem_cons.mpr ⟨lw_p52, List.forall_mem_cons.mpr ⟨lw_p53, List.forall_mem_cons.mpr ⟨lw_p54, List.forall_mem_cons.mpr ⟨lw_p55, List.forall_mem_cons.mpr ⟨lw_p56, List.forall_mem_cons.mpr ⟨lw_p57, List.forall_mem_cons.mpr ⟨lw_p58, List.forall_mem_cons.mpr ⟨lw_p59, List.forall_mem_cons.mpr ⟨lw_p60, List.forall_mem_cons.mpr ⟨lw_p61, List.forall_mem_cons.mpr ⟨lw_p62, List.forall_mem_cons.mpr ⟨lw_p63, fun _ h => absurd h List.not_mem_nil⟩⟩⟩⟩⟩⟩⟩⟩⟩⟩⟩⟩⟩⟩⟩⟩
theorem lw_p64 : lw_okq (⟨"CourtProgressModel", "byteAt", "(I)I"⟩, 64) := ⟨⟨by decide +kernel, by decide +kernel⟩, List.mem_of_getElem? (i := 1029) (by decide +kernel), List.mem_of_getElem? (i := 1380) (by decide +kernel), List.mem_of_getElem? (i := 1381) (by decide +kernel)⟩
theorem lw_p65 : lw_okq (⟨"CourtProgressModel", "isWord", "(Ljava/lang/String;)Z"⟩, 64) := ⟨⟨by decide +kernel, by decide +kernel⟩, List.mem_of_getElem? (i := 1029) (by decide +kernel), List.mem_of_getElem? (i := 1392) (by decide +kernel), List.mem_of_getElem? (i := 1393) (by decide +kernel)⟩
theorem lw_p66 : lw_okq (⟨"CourtProgressModel", "stop", "(I)LCourtProgressModel$Stop;"⟩, 64) := ⟨⟨by decide +kernel, by decide +kernel⟩, List.mem_of_getElem? (i := 1029) (by decide +kernel), List.mem_of_getElem? (i := 1403) (by decide +kernel), List.mem_of_getElem? (i := 1404) (by decide +kernel)⟩
theorem lw_p67 : lw_okq (⟨"CourtProgressModel", "readTest", "(I)V"⟩, 64) := ⟨⟨by decide +kernel, by decide +kernel⟩, List.mem_of_getElem? (i := 1029) (by decide +kernel), List.mem_of_getElem? (i := 1407) (by decide +kernel), List.mem_of_getElem? (i := 1408) (by decide +kernel)⟩
theorem lw_p68 : lw_okq (⟨"CourtProgressModel", "nameHere", "()I"⟩, 64) := ⟨⟨by decide +kernel, by decide +kernel⟩, List.mem_of_getElem? (i := 1029) (by decide +kernel), List.mem_of_getElem? (i := 1411) (by decide +kernel), List.mem_of_getElem? (i := 1412) (by decide +kernel)⟩
theorem lw_p69 : lw_okq (⟨"CourtProgressModel", "is", "(I)Z"⟩, 64) := ⟨⟨by decide +kernel, by decide +kernel⟩, List.mem_of_getElem? (i := 1029) (by decide +kernel), List.mem_of_getElem? (i := 1422) (by decide +kernel), List.mem_of_getElem? (i := 1423) (by decide +kernel)⟩
theorem lw_p70 : lw_okq (⟨"CourtProgressModel", "readTerm", "(I)V"⟩, 64) := ⟨⟨by decide +kernel, by decide +kernel⟩, List.mem_of_getElem? (i := 1029) (by decide +kernel), List.mem_of_getElem? (i := 1426) (by decide +kernel), List.mem_of_getElem? (i := 1427) (by decide +kernel)⟩
theorem lw_p71 : lw_okq (⟨"CourtProgressModel", "forceOf", "(I)I"⟩, 64) := ⟨⟨by decide +kernel, by decide +kernel⟩, List.mem_of_getElem? (i := 1029) (by decide +kernel), List.mem_of_getElem? (i := 1442) (by decide +kernel), List.mem_of_getElem? (i := 1443) (by decide +kernel)⟩
theorem lw_p72 : lw_okq (⟨"CourtProgressModel", "eatsOf", "(IIZ)I"⟩, 64) := ⟨⟨by decide +kernel, by decide +kernel⟩, List.mem_of_getElem? (i := 1029) (by decide +kernel), List.mem_of_getElem? (i := 1450) (by decide +kernel), List.mem_of_getElem? (i := 1451) (by decide +kernel)⟩
theorem lw_p73 : lw_okq (⟨"CourtProgressModel", "valueOf", "(III)I"⟩, 64) := ⟨⟨by decide +kernel, by decide +kernel⟩, List.mem_of_getElem? (i := 1029) (by decide +kernel), List.mem_of_getElem? (i := 1455) (by decide +kernel), List.mem_of_getElem? (i := 1456) (by decide +kernel)⟩
theorem lw_p74 : lw_okq (⟨"CourtProgressModel", "needOf", "(I)I"⟩, 64) := ⟨⟨by decide +kernel, by decide +kernel⟩, List.mem_of_getElem? (i := 1029) (by decide +kernel), List.mem_of_getElem? (i := 1463) (by decide +kernel), List.mem_of_getElem? (i := 1464) (by decide +kernel)⟩
theorem lw_p75 : lw_okq (⟨"CourtProgressModel", "whyOf", "(I)I"⟩, 64) := ⟨⟨by decide +kernel, by decide +kernel⟩, List.mem_of_getElem? (i := 1029) (by decide +kernel), List.mem_of_getElem? (i := 1472) (by decide +kernel), List.mem_of_getElem? (i := 1473) (by decide +kernel)⟩
theorem lw_p76 : lw_okq (⟨"CourtProgressModel", "lodges", "(IIIZZ)Z"⟩, 64) := ⟨⟨by decide +kernel, by decide +kernel⟩, List.mem_of_getElem? (i := 1029) (by decide +kernel), List.mem_of_getElem? (i := 1476) (by decide +kernel), List.mem_of_getElem? (i := 1477) (by decide +kernel)⟩
theorem lw_p77 : lw_okq (⟨"CourtProgressModel", "mayHave", "(IIIZ)Z"⟩, 64) := ⟨⟨by decide +kernel, by decide +kernel⟩, List.mem_of_getElem? (i := 1029) (by decide +kernel), List.mem_of_getElem? (i := 1480) (by decide +kernel), List.mem_of_getElem? (i := 1481) (by decide +kernel)⟩
theorem lw_p78 : lw_okq (⟨"CourtProgressModel", "spares", "(I)V"⟩, 64) := ⟨⟨by decide +kernel, by decide +kernel⟩, List.mem_of_getElem? (i := 1029) (by decide +kernel), List.mem_of_getElem? (i := 1484) (by decide +kernel), List.mem_of_getElem? (i := 1485) (by decide +kernel)⟩
theorem lw_p79 : lw_okq (⟨"CourtProgressModel", "rows", "(III)V"⟩, 64) := ⟨⟨by decide +kernel, by decide +kernel⟩, List.mem_of_getElem? (i := 1029) (by decide +kernel), List.mem_of_getElem? (i := 1502) (by decide +kernel), List.mem_of_getElem? (i := 1503) (by decide +kernel)⟩
def lw_privs_5 : List (MethodName × Nat) := [(⟨"CourtProgressModel", "byteAt", "(I)I"⟩, 64), (⟨"CourtProgressModel", "isWord", "(Ljava/lang/String;)Z"⟩, 64), (⟨"CourtProgressModel", "stop", "(I)LCourtProgressModel$Stop;"⟩, 64), (⟨"CourtProgressModel", "readTest", "(I)V"⟩, 64), (⟨"CourtProgressModel", "nameHere", "()I"⟩, 64), (⟨"CourtProgressModel", "is", "(I)Z"⟩, 64), (⟨"CourtProgressModel", "readTerm", "(I)V"⟩, 64), (⟨"CourtProgressModel", "forceOf", "(I)I"⟩, 64), (⟨"CourtProgressModel", "eatsOf", "(IIZ)I"⟩, 64), (⟨"CourtProgressModel", "valueOf", "(III)I"⟩, 64), (⟨"CourtProgressModel", "needOf", "(I)I"⟩, 64), (⟨"CourtProgressModel", "whyOf", "(I)I"⟩, 64), (⟨"CourtProgressModel", "lodges", "(IIIZZ)Z"⟩, 64), (⟨"CourtProgressModel", "mayHave", "(IIIZ)Z"⟩, 64), (⟨"CourtProgressModel", "spares", "(I)V"⟩, 64), (⟨"CourtProgressModel", "rows", "(III)V"⟩, 64)]
theorem lw_r5 : ∀ q ∈ lw_privs_5, lw_okq q := List.forall_mem_cons.mpr ⟨lw_p64, List.forall_mem_cons.mpr ⟨lw_p65, List.forall_mem_cons.mpr ⟨lw_p66, List.forall_mem_cons.mpr ⟨lw_p67, List.forall_mem_cons.mpr ⟨lw_p68, List.forall_mem_cons.mpr ⟨lw_p69, List.forall_mem_cons.mpr ⟨lw_p70, List.forall_mem_cons.mpr ⟨lw_p71, List.forall_mem_cons.mpr ⟨lw_p72, List.forall_mem_cons.mpr ⟨lw_p73, List.forall_mem_cons.mpr ⟨lw_p74, List.forall_mem_cons.mpr ⟨lw_p75, List.forall_mem_cons.mpr ⟨lw_p76, List.forall_mem_cons.mpr ⟨lw_p77, List.forall_mem_cons.mpr ⟨lw_p78, List.forall_mem_cons.mpr ⟨lw_p79, fun _ h => absurd h List.not_mem_nil⟩⟩⟩⟩⟩⟩⟩⟩⟩⟩⟩⟩⟩⟩⟩⟩
theorem lw_p80 : lw_okq (⟨"CourtProgressModel", "leaves", "(IIII)I"⟩, 64) := ⟨⟨by decide +kernel, by decide +kernel⟩, List.mem_of_getElem? (i := 1029) (by decide +kernel), List.mem_of_getElem? (i := 1506) (by decide +kernel), List.mem_of_getElem? (i := 1507) (by decide +kernel)⟩
theorem lw_p81 : lw_okq (⟨"CourtProgressModel", "hoursOf", "(III)I"⟩, 64) := ⟨⟨by decide +kernel, by decide +kernel⟩, List.mem_of_getElem? (i := 1029) (by decide +kernel), List.mem_of_getElem? (i := 1510) (by decide +kernel), List.mem_of_getElem? (i := 1511) (by decide +kernel)⟩
theorem lw_p82 : lw_okq (⟨"CourtProgressModel", "mayBe", "(II)Z"⟩, 64) := ⟨⟨by decide +kernel, by decide +kernel⟩, List.mem_of_getElem? (i := 1029) (by decide +kernel), List.mem_of_getElem? (i := 1514) (by decide +kernel), List.mem_of_getElem? (i := 1515) (by decide +kernel)⟩
theorem lw_p83 : lw_okq (⟨"CourtProgressModel", "goesOn", "(IIIII)I"⟩, 64) := ⟨⟨by decide +kernel, by decide +kernel⟩, List.mem_of_getElem? (i := 1029) (by decide +kernel), List.mem_of_getElem? (i := 1518) (by decide +kernel), List.mem_of_getElem? (i := 1519) (by decide +kernel)⟩
theorem lw_p84 : lw_okq (⟨"CourtProgressModel", "nextOf", "(I)I"⟩, 64) := ⟨⟨by decide +kernel, by decide +kernel⟩, List.mem_of_getElem? (i := 1029) (by decide +kernel), List.mem_of_getElem? (i := 1554) (by decide +kernel), List.mem_of_getElem? (i := 1555) (by decide +kernel)⟩
def lw_privs_6 : List (MethodName × Nat) := [(⟨"CourtProgressModel", "leaves", "(IIII)I"⟩, 64), (⟨"CourtProgressModel", "hoursOf", "(III)I"⟩, 64), (⟨"CourtProgressModel", "mayBe", "(II)Z"⟩, 64), (⟨"CourtProgressModel", "goesOn", "(IIIII)I"⟩, 64), (⟨"CourtProgressModel", "nextOf", "(I)I"⟩, 64)]
theorem lw_r6 : ∀ q ∈ lw_privs_6, lw_okq q := List.forall_mem_cons.mpr ⟨lw_p80, List.forall_mem_cons.mpr ⟨lw_p81, List.forall_mem_cons.mpr ⟨lw_p82, List.forall_mem_cons.mpr ⟨lw_p83, List.forall_mem_cons.mpr ⟨lw_p84, fun _ h => absurd h List.not_mem_nil⟩⟩⟩⟩⟩
def lw_privs : List (MethodName × Nat) := lw_privs_1 ++ (lw_privs_2 ++ (lw_privs_3 ++ (lw_privs_4 ++ (lw_privs_5 ++ (lw_privs_6)))))
def lw_tbl : List Cond := k2_sels lw_privs ++ tables_1
theorem lw_privs_ok : ∀ q ∈ lw_privs, lw_okq q := by
  show ∀ q ∈ lw_privs_1 ++ (lw_privs_2 ++ (lw_privs_3 ++ (lw_privs_4 ++ (lw_privs_5 ++ (lw_privs_6))))), lw_okq q
  exact List.forall_mem_append.mpr ⟨lw_r1, List.forall_mem_append.mpr ⟨lw_r2, List.forall_mem_append.mpr ⟨lw_r3, List.forall_mem_append.mpr ⟨lw_r4, List.forall_mem_append.mpr ⟨lw_r5, lw_r6⟩⟩⟩⟩⟩

/-! ===== BEGIN words of one list among another's, by their places ===== -/
theorem goodIn_r {big : List Cond} (ws : List Cond) (ps : List Nat) (hp : ws = ps.filterMap (fun i => big[i]?)) (h : ws.all goodWord = true) : GoodIn big ws := by
  intro w hw
  have h1 := List.all_eq_true.mp h w hw
  rw [hp] at hw
  obtain ⟨i, -, hi⟩ := List.mem_filterMap.mp hw
  have hm : w ∈ big := by first | exact List.mem_of_getElem? hi | exact List.getElem?_mem hi
  exact ⟨hm, good_of_word h1⟩
theorem goodIn_app {big a b : List Cond} (ha : GoodIn big a) (hb : GoodIn big b) : GoodIn big (a ++ b) := fun w h => (List.mem_append.mp h).elim (ha w) (hb w)
theorem goodIn_ca {big a b : List Cond} {c : Cond} (ha : GoodIn big (c :: a)) (hb : GoodIn big b) : GoodIn big (c :: (a ++ b)) := fun w h => (List.mem_cons.mp h).elim (fun e => ha w (List.mem_cons.mpr (Or.inl e))) (fun h => (List.mem_append.mp h).elim (fun h => ha w (List.mem_cons.mpr (Or.inr h))) (hb w))
theorem goodIn_sub {big ws : List Cond} (hm : ∀ w ∈ ws, w ∈ big) (h : ws.all goodWord = true) : GoodIn big ws := fun w hw => ⟨hm w hw, good_of_word (List.all_eq_true.mp h w hw)⟩
/-! ===== END ===== -/

/-! ===== BEGIN printed: names, fields, word lists, decode rows ===== -/
def RX0 : String := "CourtProgress$Calendar"
def TX0 : u_T := fun k => match k with
  | 0 => ("CourtProgress$Calendar", "depth", "[I", true)
  | 1 => ("CourtProgress$Calendar", "feastPlace", "[I", true)
  | _ => ("CourtProgress$Calendar", "feasts", "I", false)
def tyX0 : Nat → FieldType := fun k => match k with
  | 0 => .array .int
  | 1 => .array .int
  | _ => .int
abbrev wsX00 : List Cond := u_ws RX0 TX0 3
theorem nmX0 : ∀ a, a < 3 → ∀ b, b < 3 → a ≠ b → (TX0 a).2.1 ≠ (TX0 b).2.1 := by decide +kernel
theorem tyX0_ok : ∀ k, k < 3 → parseFieldDescriptor (TX0 k).2.2.1 = some (tyX0 k) := by decide +kernel
abbrev cX0_init : ByteArray := prog_2_method_1_code
def yX0_init : MethodName := ⟨RX0, "<init>", "()V"⟩
abbrev cX0_setMud : ByteArray := prog_2_method_2_code
def yX0_setMud : MethodName := ⟨RX0, "setMud", "(III)V"⟩
abbrev cX0_mudOf : ByteArray := prog_2_method_3_code
def yX0_mudOf : MethodName := ⟨RX0, "mudOf", "(I)I"⟩
abbrev cX0_feastOf : ByteArray := prog_2_method_4_code
def yX0_feastOf : MethodName := ⟨RX0, "feastOf", "(I)I"⟩
abbrev cX0_hasRoomForFeast : ByteArray := prog_2_method_5_code
def yX0_hasRoomForFeast : MethodName := ⟨RX0, "hasRoomForFeast", "(I)Z"⟩
abbrev cX0_setFeast : ByteArray := prog_2_method_6_code
def yX0_setFeast : MethodName := ⟨RX0, "setFeast", "(II)V"⟩
def RX1 : String := "CourtProgress$Households"
def TX1 : u_T := fun k => match k with
  | 0 => ("CourtProgress$Households", "size", "I", false)
  | 1 => ("CourtProgress$Households", "ranks", "[I", true)
  | 2 => ("CourtProgress$Households", "mouths", "[I", true)
  | 3 => ("CourtProgress$Households", "horses", "[I", true)
  | _ => ("CourtProgress$Households", "barredFrom", "[I", true)
def tyX1 : Nat → FieldType := fun k => match k with
  | 0 => .int
  | 1 => .array .int
  | 2 => .array .int
  | 3 => .array .int
  | _ => .array .int
abbrev wsX10 : List Cond := u_ws RX1 TX1 5
theorem nmX1 : ∀ a, a < 5 → ∀ b, b < 5 → a ≠ b → (TX1 a).2.1 ≠ (TX1 b).2.1 := by decide +kernel
theorem tyX1_ok : ∀ k, k < 5 → parseFieldDescriptor (TX1 k).2.2.1 = some (tyX1 k) := by decide +kernel
abbrev cX1_init : ByteArray := prog_3_method_1_code
def yX1_init : MethodName := ⟨RX1, "<init>", "()V"⟩
abbrev cX1_has : ByteArray := prog_3_method_2_code
def yX1_has : MethodName := ⟨RX1, "has", "(I)Z"⟩
abbrev cX1_add : ByteArray := prog_3_method_3_code
def yX1_add : MethodName := ⟨RX1, "add", "(III)I"⟩
abbrev cX1_setBar : ByteArray := prog_3_method_4_code
def yX1_setBar : MethodName := ⟨RX1, "setBar", "(IIZ)V"⟩
abbrev cX1_ranksDiffer : ByteArray := prog_3_method_5_code
def yX1_ranksDiffer : MethodName := ⟨RX1, "ranksDiffer", "()Z"⟩
abbrev cX1_allHorses : ByteArray := prog_3_method_6_code
def yX1_allHorses : MethodName := ⟨RX1, "allHorses", "()I"⟩
def RX2 : String := "CourtProgress$Lodger"
def TX2 : u_T := fun k => match k with
  | 0 => ("CourtProgress$Lodger", "court", "LCourtProgress$Households;", true)
  | 1 => ("CourtProgress$Lodger", "land", "LCourtProgress$Places;", true)
  | 2 => ("CourtProgress$Lodger", "rooms", "I", false)
  | 3 => ("CourtProgress$Lodger", "roomAt", "[I", true)
  | 4 => ("CourtProgress$Lodger", "walkTo", "[I", true)
  | 5 => ("CourtProgress$Lodger", "sameHouse", "[I", true)
  | 6 => ("CourtProgress$Lodger", "noLess", "[I", true)
  | 7 => ("CourtProgress$Lodger", "noMore", "[I", true)
  | 8 => ("CourtProgress$Lodger", "twins", "[I", true)
  | 9 => ("CourtProgress$Lodger", "open", "[I", true)
  | 10 => ("CourtProgress$Lodger", "weight", "[I", true)
  | 11 => ("CourtProgress$Lodger", "heaviestFirst", "[I", true)
  | 12 => ("CourtProgress$Lodger", "spotOf", "[I", true)
  | 13 => ("CourtProgress$Lodger", "bestSpotOf", "[I", true)
  | 14 => ("CourtProgress$Lodger", "limit", "I", false)
  | _ => ("CourtProgress$Lodger", "enough", "I", false)
def tyX2 : Nat → FieldType := fun k => match k with
  | 0 => .object "CourtProgress$Households"
  | 1 => .object "CourtProgress$Places"
  | 2 => .int
  | 3 => .array .int
  | 4 => .array .int
  | 5 => .array .int
  | 6 => .array .int
  | 7 => .array .int
  | 8 => .array .int
  | 9 => .array .int
  | 10 => .array .int
  | 11 => .array .int
  | 12 => .array .int
  | 13 => .array .int
  | 14 => .int
  | _ => .int
abbrev wsX20 : List Cond := u_ws RX2 TX2 16
theorem nmX2 : ∀ a, a < 16 → ∀ b, b < 16 → a ≠ b → (TX2 a).2.1 ≠ (TX2 b).2.1 := by decide +kernel
theorem tyX2_ok : ∀ k, k < 16 → parseFieldDescriptor (TX2 k).2.2.1 = some (tyX2 k) := by decide +kernel
abbrev cX2_init : ByteArray := prog_4_method_1_code
def yX2_init : MethodName := ⟨RX2, "<init>", "(LCourtProgress$Households;LCourtProgress$Places;)V"⟩
abbrev cX2_roomOf : ByteArray := prog_4_method_2_code
def yX2_roomOf : MethodName := ⟨RX2, "roomOf", "(I)I"⟩
abbrev cX2_reasonAgainst : ByteArray := prog_4_method_3_code
def yX2_reasonAgainst : MethodName := ⟨RX2, "reasonAgainst", "(I)I"⟩
abbrev cX2_leastSum : ByteArray := prog_4_method_4_code
def yX2_leastSum : MethodName := ⟨RX2, "leastSum", "(I)I"⟩
abbrev cX2_isPossible : ByteArray := prog_4_method_5_code
def yX2_isPossible : MethodName := ⟨RX2, "isPossible", "(IZ)Z"⟩
abbrev cX2_everyone : ByteArray := prog_4_method_6_code
def yX2_everyone : MethodName := ⟨RX2, "everyone", "()I"⟩
abbrev cX2_prepare : ByteArray := prog_4_method_7_code
def yX2_prepare : MethodName := ⟨RX2, "prepare", "(IZZ)V"⟩
abbrev cX2_sortRooms : ByteArray := prog_4_method_8_code
def yX2_sortRooms : MethodName := ⟨RX2, "sortRooms", "(I)V"⟩
abbrev cX2_sortHouseholds : ByteArray := prog_4_method_9_code
def yX2_sortHouseholds : MethodName := ⟨RX2, "sortHouseholds", "()V"⟩
abbrev cX2_relate : ByteArray := prog_4_method_10_code
def yX2_relate : MethodName := ⟨RX2, "relate", "(IIZZ)V"⟩
abbrev cX2_bitIf : ByteArray := prog_4_method_11_code
def yX2_bitIf : MethodName := ⟨RX2, "bitIf", "(ZI)I"⟩
abbrev cX2_search : ByteArray := prog_4_method_12_code
def yX2_search : MethodName := ⟨RX2, "search", "(III)V"⟩
abbrev cX2_keep : ByteArray := prog_4_method_13_code
def yX2_keep : MethodName := ⟨RX2, "keep", "(I)V"⟩
abbrev cX2_choose : ByteArray := prog_4_method_14_code
def yX2_choose : MethodName := ⟨RX2, "choose", "(III)I"⟩
abbrev cX2_hardship : ByteArray := prog_4_method_15_code
def yX2_hardship : MethodName := ⟨RX2, "hardship", "(III)I"⟩
abbrev cX2_leastTogether : ByteArray := prog_4_method_16_code
def yX2_leastTogether : MethodName := ⟨RX2, "leastTogether", "(II)I"⟩
abbrev cX2_give : ByteArray := prog_4_method_17_code
def yX2_give : MethodName := ⟨RX2, "give", "(IIII)V"⟩
abbrev cX2_preferLesserRooms : ByteArray := prog_4_method_18_code
def yX2_preferLesserRooms : MethodName := ⟨RX2, "preferLesserRooms", "(I)V"⟩
abbrev cX2_findLesserRoom : ByteArray := prog_4_method_19_code
def yX2_findLesserRoom : MethodName := ⟨RX2, "findLesserRoom", "(IIII)V"⟩
abbrev cX2_spotOfRoom : ByteArray := prog_4_method_20_code
def yX2_spotOfRoom : MethodName := ⟨RX2, "spotOfRoom", "(I)I"⟩
def RX3 : String := "CourtProgress$Places"
def TX3 : u_T := fun k => match k with
  | 0 => ("CourtProgress$Places", "size", "I", false)
  | 1 => ("CourtProgress$Places", "store", "[I", true)
  | 2 => ("CourtProgress$Places", "owes", "[I", true)
  | 3 => ("CourtProgress$Places", "stalls", "[I", true)
  | 4 => ("CourtProgress$Places", "taken", "[I", true)
  | 5 => ("CourtProgress$Places", "daysEaten", "[I", true)
  | 6 => ("CourtProgress$Places", "rooms", "[I", true)
  | 7 => ("CourtProgress$Places", "worths", "[I", true)
  | 8 => ("CourtProgress$Places", "houses", "[I", true)
  | 9 => ("CourtProgress$Places", "walks", "[I", true)
  | _ => ("CourtProgress$Places", "ways", "[I", true)
def tyX3 : Nat → FieldType := fun k => match k with
  | 0 => .int
  | 1 => .array .int
  | 2 => .array .int
  | 3 => .array .int
  | 4 => .array .int
  | 5 => .array .int
  | 6 => .array .int
  | 7 => .array .int
  | 8 => .array .int
  | 9 => .array .int
  | _ => .array .int
abbrev wsX30 : List Cond := u_ws RX3 TX3 11
theorem nmX3 : ∀ a, a < 11 → ∀ b, b < 11 → a ≠ b → (TX3 a).2.1 ≠ (TX3 b).2.1 := by decide +kernel
theorem tyX3_ok : ∀ k, k < 11 → parseFieldDescriptor (TX3 k).2.2.1 = some (tyX3 k) := by decide +kernel
abbrev cX3_init : ByteArray := prog_5_method_1_code
def yX3_init : MethodName := ⟨RX3, "<init>", "()V"⟩
abbrev cX3_has : ByteArray := prog_5_method_2_code
def yX3_has : MethodName := ⟨RX3, "has", "(I)Z"⟩
abbrev cX3_add : ByteArray := prog_5_method_3_code
def yX3_add : MethodName := ⟨RX3, "add", "(III)I"⟩
abbrev cX3_addRoom : ByteArray := prog_5_method_4_code
def yX3_addRoom : MethodName := ⟨RX3, "addRoom", "(IIII)I"⟩
abbrev cX3_setWay : ByteArray := prog_5_method_5_code
def yX3_setWay : MethodName := ⟨RX3, "setWay", "(III)V"⟩
abbrev cX3_hoursOn : ByteArray := prog_5_method_6_code
def yX3_hoursOn : MethodName := ⟨RX3, "hoursOn", "(III)I"⟩
abbrev cX3_supply : ByteArray := prog_5_method_7_code
def yX3_supply : MethodName := ⟨RX3, "supply", "(I)I"⟩
abbrev cX3_take : ByteArray := prog_5_method_8_code
def yX3_take : MethodName := ⟨RX3, "take", "(II)I"⟩
abbrev cX3_fact : ByteArray := prog_5_method_9_code
def yX3_fact : MethodName := ⟨RX3, "fact", "(II)I"⟩
def RX4 : String := "CourtProgress$Pleas"
def TX4 : u_T := fun k => match k with
  | 0 => ("CourtProgress$Pleas", "size", "I", false)
  | 1 => ("CourtProgress$Pleas", "waitingSize", "I", false)
  | 2 => ("CourtProgress$Pleas", "urgency", "[I", true)
  | 3 => ("CourtProgress$Pleas", "heardOn", "[I", true)
  | _ => ("CourtProgress$Pleas", "waiting", "[I", true)
def tyX4 : Nat → FieldType := fun k => match k with
  | 0 => .int
  | 1 => .int
  | 2 => .array .int
  | 3 => .array .int
  | _ => .array .int
abbrev wsX40 : List Cond := u_ws RX4 TX4 5
theorem nmX4 : ∀ a, a < 5 → ∀ b, b < 5 → a ≠ b → (TX4 a).2.1 ≠ (TX4 b).2.1 := by decide +kernel
theorem tyX4_ok : ∀ k, k < 5 → parseFieldDescriptor (TX4 k).2.2.1 = some (tyX4 k) := by decide +kernel
abbrev cX4_init : ByteArray := prog_6_method_1_code
def yX4_init : MethodName := ⟨RX4, "<init>", "()V"⟩
abbrev cX4_add : ByteArray := prog_6_method_2_code
def yX4_add : MethodName := ⟨RX4, "add", "(II)I"⟩
abbrev cX4_hearFirst : ByteArray := prog_6_method_3_code
def yX4_hearFirst : MethodName := ⟨RX4, "hearFirst", "(II)I"⟩
abbrev cX4_dayHeard : ByteArray := prog_6_method_4_code
def yX4_dayHeard : MethodName := ⟨RX4, "dayHeard", "(I)I"⟩
abbrev cX4_inTurn : ByteArray := prog_6_method_5_code
def yX4_inTurn : MethodName := ⟨RX4, "inTurn", "(I)I"⟩
def RX5 : String := "CourtProgress$Router"
def TX5 : u_T := fun k => match k with
  | 0 => ("CourtProgress$Router", "land", "LCourtProgress$Places;", true)
  | 1 => ("CourtProgress$Router", "calendar", "LCourtProgress$Calendar;", true)
  | 2 => ("CourtProgress$Router", "statutes", "LCourtProgress$Statutes;", true)
  | 3 => ("CourtProgress$Router", "first", "I", false)
  | 4 => ("CourtProgress$Router", "end", "I", false)
  | 5 => ("CourtProgress$Router", "start", "I", false)
  | 6 => ("CourtProgress$Router", "needs", "[I", true)
  | 7 => ("CourtProgress$Router", "muds", "[I", true)
  | 8 => ("CourtProgress$Router", "rowEnds", "[I", true)
  | 9 => ("CourtProgress$Router", "known", "[I", false)
  | 10 => ("CourtProgress$Router", "mark", "I", false)
  | 11 => ("CourtProgress$Router", "stops", "[I", true)
  | 12 => ("CourtProgress$Router", "firstTold", "I", false)
  | _ => ("CourtProgress$Router", "lastTold", "I", false)
def tyX5 : Nat → FieldType := fun k => match k with
  | 0 => .object "CourtProgress$Places"
  | 1 => .object "CourtProgress$Calendar"
  | 2 => .object "CourtProgress$Statutes"
  | 3 => .int
  | 4 => .int
  | 5 => .int
  | 6 => .array .int
  | 7 => .array .int
  | 8 => .array .int
  | 9 => .array .int
  | 10 => .int
  | 11 => .array .int
  | 12 => .int
  | _ => .int
abbrev wsX50 : List Cond := u_ws RX5 TX5 14
theorem nmX5 : ∀ a, a < 14 → ∀ b, b < 14 → a ≠ b → (TX5 a).2.1 ≠ (TX5 b).2.1 := by decide +kernel
theorem tyX5_ok : ∀ k, k < 14 → parseFieldDescriptor (TX5 k).2.2.1 = some (tyX5 k) := by decide +kernel
abbrev cX5_init : ByteArray := prog_7_method_1_code
def yX5_init : MethodName := ⟨RX5, "<init>", "(LCourtProgress$Places;LCourtProgress$Calendar;LCourtProgress$Statutes;)V"⟩
abbrev cX5_stopOn : ByteArray := prog_7_method_2_code
def yX5_stopOn : MethodName := ⟨RX5, "stopOn", "(I)I"⟩
abbrev cX5_leastHours : ByteArray := prog_7_method_3_code
def yX5_leastHours : MethodName := ⟨RX5, "leastHours", "(III)I"⟩
abbrev cX5_measureRows : ByteArray := prog_7_method_4_code
def yX5_measureRows : MethodName := ⟨RX5, "measureRows", "()V"⟩
abbrev cX5_measuredEnd : ByteArray := prog_7_method_5_code
def yX5_measuredEnd : MethodName := ⟨RX5, "measuredEnd", "(II)I"⟩
abbrev cX5_rowEnd : ByteArray := prog_7_method_6_code
def yX5_rowEnd : MethodName := ⟨RX5, "rowEnd", "(II)I"⟩
abbrev cX5_mayBeAt : ByteArray := prog_7_method_7_code
def yX5_mayBeAt : MethodName := ⟨RX5, "mayBeAt", "(II)Z"⟩
abbrev cX5_makeRoom : ByteArray := prog_7_method_8_code
def yX5_makeRoom : MethodName := ⟨RX5, "makeRoom", "()V"⟩
abbrev cX5_leastOnward : ByteArray := prog_7_method_9_code
def yX5_leastOnward : MethodName := ⟨RX5, "leastOnward", "(IIII)I"⟩
abbrev cX5_leastLeaving : ByteArray := prog_7_method_10_code
def yX5_leastLeaving : MethodName := ⟨RX5, "leastLeaving", "(III)I"⟩
abbrev cX5_leastBy : ByteArray := prog_7_method_11_code
def yX5_leastBy : MethodName := ⟨RX5, "leastBy", "(IIIII)I"⟩
abbrev cX5_leastFrom : ByteArray := prog_7_method_12_code
def yX5_leastFrom : MethodName := ⟨RX5, "leastFrom", "(III)I"⟩
abbrev cX5_slotOf : ByteArray := prog_7_method_13_code
def yX5_slotOf : MethodName := ⟨RX5, "slotOf", "(III)I"⟩
abbrev cX5_trace : ByteArray := prog_7_method_14_code
def yX5_trace : MethodName := ⟨RX5, "trace", "(I)V"⟩
abbrev cX5_leastNext : ByteArray := prog_7_method_15_code
def yX5_leastNext : MethodName := ⟨RX5, "leastNext", "(IIIII)I"⟩
def RX6 : String := "CourtProgress$Scribe"
def TX6 : u_T := fun k => match k with
  | 0 => ("CourtProgress$Scribe", "tape", "LCourtProgress$Tape;", true)
  | 1 => ("CourtProgress$Scribe", "draft", "LCourtProgress$Statutes;", true)
  | 2 => ("CourtProgress$Scribe", "faultKind", "I", false)
  | 3 => ("CourtProgress$Scribe", "cursor", "I", false)
  | _ => ("CourtProgress$Scribe", "token", "I", false)
def tyX6 : Nat → FieldType := fun k => match k with
  | 0 => .object "CourtProgress$Tape"
  | 1 => .object "CourtProgress$Statutes"
  | 2 => .int
  | 3 => .int
  | _ => .int
abbrev wsX60 : List Cond := u_ws RX6 TX6 5
theorem nmX6 : ∀ a, a < 5 → ∀ b, b < 5 → a ≠ b → (TX6 a).2.1 ≠ (TX6 b).2.1 := by decide +kernel
theorem tyX6_ok : ∀ k, k < 5 → parseFieldDescriptor (TX6 k).2.2.1 = some (tyX6 k) := by decide +kernel
abbrev cX6_init : ByteArray := prog_8_method_1_code
def yX6_init : MethodName := ⟨RX6, "<init>", "(LCourtProgress$Tape;LCourtProgress$Statutes;)V"⟩
abbrev cX6_reads : ByteArray := prog_8_method_2_code
def yX6_reads : MethodName := ⟨RX6, "reads", "()Z"⟩
abbrev cX6_faultPlace : ByteArray := prog_8_method_3_code
def yX6_faultPlace : MethodName := ⟨RX6, "faultPlace", "()I"⟩
abbrev cX6_readRule : ByteArray := prog_8_method_4_code
def yX6_readRule : MethodName := ⟨RX6, "readRule", "(I)Z"⟩
abbrev cX6_readTests : ByteArray := prog_8_method_5_code
def yX6_readTests : MethodName := ⟨RX6, "readTests", "()Z"⟩
abbrev cX6_readTest : ByteArray := prog_8_method_6_code
def yX6_readTest : MethodName := ⟨RX6, "readTest", "()Z"⟩
abbrev cX6_readSum : ByteArray := prog_8_method_7_code
def yX6_readSum : MethodName := ⟨RX6, "readSum", "()Z"⟩
abbrev cX6_readTerm : ByteArray := prog_8_method_8_code
def yX6_readTerm : MethodName := ⟨RX6, "readTerm", "()Z"⟩
abbrev cX6_advance : ByteArray := prog_8_method_9_code
def yX6_advance : MethodName := ⟨RX6, "advance", "()V"⟩
abbrev cX6_isNumber : ByteArray := prog_8_method_10_code
def yX6_isNumber : MethodName := ⟨RX6, "isNumber", "()Z"⟩
abbrev cX6_isName : ByteArray := prog_8_method_11_code
def yX6_isName : MethodName := ⟨RX6, "isName", "()Z"⟩
abbrev cX6_failWithoutName : ByteArray := prog_8_method_12_code
def yX6_failWithoutName : MethodName := ⟨RX6, "failWithoutName", "()Z"⟩
abbrev cX6_fail : ByteArray := prog_8_method_13_code
def yX6_fail : MethodName := ⟨RX6, "fail", "(I)Z"⟩
def RX7 : String := "CourtProgress$Statutes"
def TX7 : u_T := fun k => match k with
  | 0 => ("CourtProgress$Statutes", "court", "LCourtProgress$Households;", true)
  | 1 => ("CourtProgress$Statutes", "calendar", "LCourtProgress$Calendar;", true)
  | 2 => ("CourtProgress$Statutes", "size", "I", false)
  | 3 => ("CourtProgress$Statutes", "firstDay", "[I", true)
  | 4 => ("CourtProgress$Statutes", "ruleCount", "[I", true)
  | 5 => ("CourtProgress$Statutes", "rules", "[I", true)
  | 6 => ("CourtProgress$Statutes", "draftRow", "I", false)
  | _ => ("CourtProgress$Statutes", "values", "[I", true)
def tyX7 : Nat → FieldType := fun k => match k with
  | 0 => .object "CourtProgress$Households"
  | 1 => .object "CourtProgress$Calendar"
  | 2 => .int
  | 3 => .array .int
  | 4 => .array .int
  | 5 => .array .int
  | 6 => .int
  | _ => .array .int
abbrev wsX70 : List Cond := u_ws RX7 TX7 8
theorem nmX7 : ∀ a, a < 8 → ∀ b, b < 8 → a ≠ b → (TX7 a).2.1 ≠ (TX7 b).2.1 := by decide +kernel
theorem tyX7_ok : ∀ k, k < 8 → parseFieldDescriptor (TX7 k).2.2.1 = some (tyX7 k) := by decide +kernel
abbrev cX7_init : ByteArray := prog_9_method_1_code
def yX7_init : MethodName := ⟨RX7, "<init>", "(LCourtProgress$Households;LCourtProgress$Calendar;)V"⟩
abbrev cX7_beginDraft : ByteArray := prog_9_method_2_code
def yX7_beginDraft : MethodName := ⟨RX7, "beginDraft", "()V"⟩
abbrev cX7_draftRule : ByteArray := prog_9_method_3_code
def yX7_draftRule : MethodName := ⟨RX7, "draftRule", "()V"⟩
abbrev cX7_draftKind : ByteArray := prog_9_method_4_code
def yX7_draftKind : MethodName := ⟨RX7, "draftKind", "(Z)V"⟩
abbrev cX7_draftTest : ByteArray := prog_9_method_5_code
def yX7_draftTest : MethodName := ⟨RX7, "draftTest", "(III)V"⟩
abbrev cX7_draftTerm : ByteArray := prog_9_method_6_code
def yX7_draftTerm : MethodName := ⟨RX7, "draftTerm", "(II)V"⟩
abbrev cX7_enact : ByteArray := prog_9_method_7_code
def yX7_enact : MethodName := ⟨RX7, "enact", "(I)I"⟩
abbrev cX7_inForce : ByteArray := prog_9_method_8_code
def yX7_inForce : MethodName := ⟨RX7, "inForce", "(I)I"⟩
abbrev cX7_portion : ByteArray := prog_9_method_9_code
def yX7_portion : MethodName := ⟨RX7, "portion", "(IIZ)I"⟩
abbrev cX7_needOf : ByteArray := prog_9_method_10_code
def yX7_needOf : MethodName := ⟨RX7, "needOf", "(I)I"⟩
abbrev cX7_setDay : ByteArray := prog_9_method_11_code
def yX7_setDay : MethodName := ⟨RX7, "setDay", "(I)V"⟩
abbrev cX7_setHousehold : ByteArray := prog_9_method_12_code
def yX7_setHousehold : MethodName := ⟨RX7, "setHousehold", "(I)V"⟩
abbrev cX7_firstSum : ByteArray := prog_9_method_13_code
def yX7_firstSum : MethodName := ⟨RX7, "firstSum", "(II)I"⟩
abbrev cX7_testsHold : ByteArray := prog_9_method_14_code
def yX7_testsHold : MethodName := ⟨RX7, "testsHold", "(I)Z"⟩
abbrev cX7_sumOf : ByteArray := prog_9_method_15_code
def yX7_sumOf : MethodName := ⟨RX7, "sumOf", "(I)I"⟩
abbrev cX7_valueOf : ByteArray := prog_9_method_16_code
def yX7_valueOf : MethodName := ⟨RX7, "valueOf", "(I)I"⟩
abbrev cX7_rowOf : ByteArray := prog_9_method_17_code
def yX7_rowOf : MethodName := ⟨RX7, "rowOf", "(II)I"⟩
def RX8 : String := "CourtProgress$Tape"
def TX8 : u_T := fun k => match k with
  | 0 => ("CourtProgress$Tape", "size", "I", false)
  | 1 => ("CourtProgress$Tape", "bytes", "[I", true)
  | 2 => ("CourtProgress$Tape", "length", "I", false)
  | 3 => ("CourtProgress$Tape", "tokenCount", "I", false)
  | 4 => ("CourtProgress$Tape", "tokens", "[I", true)
  | _ => ("CourtProgress$Tape", "tokenPlaces", "[I", true)
def tyX8 : Nat → FieldType := fun k => match k with
  | 0 => .int
  | 1 => .array .int
  | 2 => .int
  | 3 => .int
  | 4 => .array .int
  | _ => .array .int
abbrev wsX80 : List Cond := u_ws RX8 TX8 6
theorem nmX8 : ∀ a, a < 6 → ∀ b, b < 6 → a ≠ b → (TX8 a).2.1 ≠ (TX8 b).2.1 := by decide +kernel
theorem tyX8_ok : ∀ k, k < 6 → parseFieldDescriptor (TX8 k).2.2.1 = some (tyX8 k) := by decide +kernel
abbrev cX8_init : ByteArray := prog_10_method_1_code
def yX8_init : MethodName := ⟨RX8, "<init>", "()V"⟩
abbrev cX8_hasRoom : ByteArray := prog_10_method_2_code
def yX8_hasRoom : MethodName := ⟨RX8, "hasRoom", "()Z"⟩
abbrev cX8_append : ByteArray := prog_10_method_3_code
def yX8_append : MethodName := ⟨RX8, "append", "(I)V"⟩
abbrev cX8_tokenAt : ByteArray := prog_10_method_4_code
def yX8_tokenAt : MethodName := ⟨RX8, "tokenAt", "(I)I"⟩
abbrev cX8_placeAt : ByteArray := prog_10_method_5_code
def yX8_placeAt : MethodName := ⟨RX8, "placeAt", "(I)I"⟩
abbrev cX8_scan : ByteArray := prog_10_method_6_code
def yX8_scan : MethodName := ⟨RX8, "scan", "(I)V"⟩
abbrev cX8_byteAt : ByteArray := prog_10_method_7_code
def yX8_byteAt : MethodName := ⟨RX8, "byteAt", "(I)I"⟩
abbrev cX8_skipBlanks : ByteArray := prog_10_method_8_code
def yX8_skipBlanks : MethodName := ⟨RX8, "skipBlanks", "(I)I"⟩
abbrev cX8_tokenEnd : ByteArray := prog_10_method_9_code
def yX8_tokenEnd : MethodName := ⟨RX8, "tokenEnd", "(I)I"⟩
abbrev cX8_tokenOf : ByteArray := prog_10_method_10_code
def yX8_tokenOf : MethodName := ⟨RX8, "tokenOf", "(II)I"⟩
abbrev cX8_numberOf : ByteArray := prog_10_method_11_code
def yX8_numberOf : MethodName := ⟨RX8, "numberOf", "(II)I"⟩
abbrev cX8_wordOf : ByteArray := prog_10_method_12_code
def yX8_wordOf : MethodName := ⟨RX8, "wordOf", "(II)I"⟩
abbrev cX8_spells : ByteArray := prog_10_method_13_code
def yX8_spells : MethodName := ⟨RX8, "spells", "(Ljava/lang/String;II)Z"⟩
abbrev cX8_isLetter : ByteArray := prog_10_method_14_code
def yX8_isLetter : MethodName := ⟨RX8, "isLetter", "(I)Z"⟩
abbrev cX8_isDigit : ByteArray := prog_10_method_15_code
def yX8_isDigit : MethodName := ⟨RX8, "isDigit", "(I)Z"⟩
abbrev cX8_isSign : ByteArray := prog_10_method_16_code
def yX8_isSign : MethodName := ⟨RX8, "isSign", "(I)Z"⟩
def RX9 : String := "CourtProgress"
def TX9 : u_T := fun k => match k with
  | 0 => ("CourtProgress", "court", "LCourtProgress$Households;", true)
  | 1 => ("CourtProgress", "land", "LCourtProgress$Places;", true)
  | 2 => ("CourtProgress", "calendar", "LCourtProgress$Calendar;", true)
  | 3 => ("CourtProgress", "statutes", "LCourtProgress$Statutes;", true)
  | 4 => ("CourtProgress", "tape", "LCourtProgress$Tape;", true)
  | 5 => ("CourtProgress", "scribe", "LCourtProgress$Scribe;", true)
  | 6 => ("CourtProgress", "lodger", "LCourtProgress$Lodger;", true)
  | 7 => ("CourtProgress", "router", "LCourtProgress$Router;", true)
  | 8 => ("CourtProgress", "pleas", "LCourtProgress$Pleas;", true)
  | 9 => ("CourtProgress", "lodgedIn", "[I", true)
  | 10 => ("CourtProgress", "placeOn", "[I", true)
  | 11 => ("CourtProgress", "lackedOn", "[I", true)
  | 12 => ("CourtProgress", "today", "I", false)
  | 13 => ("CourtProgress", "here", "I", false)
  | _ => ("CourtProgress", "refusal", "I", false)
def tyX9 : Nat → FieldType := fun k => match k with
  | 0 => .object "CourtProgress$Households"
  | 1 => .object "CourtProgress$Places"
  | 2 => .object "CourtProgress$Calendar"
  | 3 => .object "CourtProgress$Statutes"
  | 4 => .object "CourtProgress$Tape"
  | 5 => .object "CourtProgress$Scribe"
  | 6 => .object "CourtProgress$Lodger"
  | 7 => .object "CourtProgress$Router"
  | 8 => .object "CourtProgress$Pleas"
  | 9 => .array .int
  | 10 => .array .int
  | 11 => .array .int
  | 12 => .int
  | 13 => .int
  | _ => .int
abbrev wsX90 : List Cond := u_ws RX9 TX9 15
theorem nmX9 : ∀ a, a < 15 → ∀ b, b < 15 → a ≠ b → (TX9 a).2.1 ≠ (TX9 b).2.1 := by decide +kernel
theorem tyX9_ok : ∀ k, k < 15 → parseFieldDescriptor (TX9 k).2.2.1 = some (tyX9 k) := by decide +kernel
abbrev cX9_init : ByteArray := prog_1_method_1_code
def yX9_init : MethodName := ⟨RX9, "<init>", "()V"⟩
abbrev cX9_household : ByteArray := prog_1_method_2_code
def yX9_household : MethodName := ⟨RX9, "household", "(III)I"⟩
abbrev cX9_bar : ByteArray := prog_1_method_3_code
def yX9_bar : MethodName := ⟨RX9, "bar", "(IIZ)Z"⟩
abbrev cX9_place : ByteArray := prog_1_method_4_code
def yX9_place : MethodName := ⟨RX9, "place", "(III)I"⟩
abbrev cX9_room : ByteArray := prog_1_method_5_code
def yX9_room : MethodName := ⟨RX9, "room", "(IIII)I"⟩
abbrev cX9_way : ByteArray := prog_1_method_6_code
def yX9_way : MethodName := ⟨RX9, "way", "(III)Z"⟩
abbrev cX9_mud : ByteArray := prog_1_method_7_code
def yX9_mud : MethodName := ⟨RX9, "mud", "(III)Z"⟩
abbrev cX9_feast : ByteArray := prog_1_method_8_code
def yX9_feast : MethodName := ⟨RX9, "feast", "(II)Z"⟩
abbrev cX9_bring : ByteArray := prog_1_method_9_code
def yX9_bring : MethodName := ⟨RX9, "bring", "(III)Z"⟩
abbrev cX9_feed : ByteArray := prog_1_method_10_code
def yX9_feed : MethodName := ⟨RX9, "feed", "(IIIII)I"⟩
abbrev cX9_ordinance : ByteArray := prog_1_method_11_code
def yX9_ordinance : MethodName := ⟨RX9, "ordinance", "(II)I"⟩
abbrev cX9_fault : ByteArray := prog_1_method_12_code
def yX9_fault : MethodName := ⟨RX9, "fault", "()I"⟩
abbrev cX9_where : ByteArray := prog_1_method_13_code
def yX9_where : MethodName := ⟨RX9, "where", "()I"⟩
abbrev cX9_force : ByteArray := prog_1_method_14_code
def yX9_force : MethodName := ⟨RX9, "force", "(I)I"⟩
abbrev cX9_eats : ByteArray := prog_1_method_15_code
def yX9_eats : MethodName := ⟨RX9, "eats", "(IIZ)I"⟩
abbrev cX9_need : ByteArray := prog_1_method_16_code
def yX9_need : MethodName := ⟨RX9, "need", "(I)I"⟩
abbrev cX9_lodge : ByteArray := prog_1_method_17_code
def yX9_lodge : MethodName := ⟨RX9, "lodge", "(I)I"⟩
abbrev cX9_lodged : ByteArray := prog_1_method_18_code
def yX9_lodged : MethodName := ⟨RX9, "lodged", "(I)I"⟩
abbrev cX9_why : ByteArray := prog_1_method_19_code
def yX9_why : MethodName := ⟨RX9, "why", "(I)I"⟩
abbrev cX9_route : ByteArray := prog_1_method_20_code
def yX9_route : MethodName := ⟨RX9, "route", "(I)I"⟩
abbrev cX9_at : ByteArray := prog_1_method_21_code
def yX9_at : MethodName := ⟨RX9, "at", "(I)I"⟩
abbrev cX9_lasts : ByteArray := prog_1_method_22_code
def yX9_lasts : MethodName := ⟨RX9, "lasts", "()I"⟩
abbrev cX9_step : ByteArray := prog_1_method_23_code
def yX9_step : MethodName := ⟨RX9, "step", "(I)I"⟩
abbrev cX9_about : ByteArray := prog_1_method_24_code
def yX9_about : MethodName := ⟨RX9, "about", "(II)I"⟩
abbrev cX9_was : ByteArray := prog_1_method_25_code
def yX9_was : MethodName := ⟨RX9, "was", "(I)I"⟩
abbrev cX9_lacked : ByteArray := prog_1_method_26_code
def yX9_lacked : MethodName := ⟨RX9, "lacked", "(I)I"⟩
abbrev cX9_plea : ByteArray := prog_1_method_27_code
def yX9_plea : MethodName := ⟨RX9, "plea", "(I)I"⟩
abbrev cX9_hear : ByteArray := prog_1_method_28_code
def yX9_hear : MethodName := ⟨RX9, "hear", "(I)I"⟩
abbrev cX9_heard : ByteArray := prog_1_method_29_code
def yX9_heard : MethodName := ⟨RX9, "heard", "(I)I"⟩
abbrev cX9_next : ByteArray := prog_1_method_30_code
def yX9_next : MethodName := ⟨RX9, "next", "(I)I"⟩
abbrev cX9_count : ByteArray := prog_1_method_31_code
def yX9_count : MethodName := ⟨RX9, "count", "(I)I"⟩
abbrev cX9_trouble : ByteArray := prog_1_method_32_code
def yX9_trouble : MethodName := ⟨RX9, "trouble", "()I"⟩
abbrev cX9_refuse : ByteArray := prog_1_method_33_code
def yX9_refuse : MethodName := ⟨RX9, "refuse", "(I)I"⟩
abbrev cX9_grant : ByteArray := prog_1_method_34_code
def yX9_grant : MethodName := ⟨RX9, "grant", "(I)I"⟩
abbrev cX9_deny : ByteArray := prog_1_method_35_code
def yX9_deny : MethodName := ⟨RX9, "deny", "(I)Z"⟩
abbrev cX9_allow : ByteArray := prog_1_method_36_code
def yX9_allow : MethodName := ⟨RX9, "allow", "()Z"⟩
abbrev cX9_isPast : ByteArray := prog_1_method_37_code
def yX9_isPast : MethodName := ⟨RX9, "isPast", "(I)Z"⟩
abbrev cX9_isDay : ByteArray := prog_1_method_38_code
def yX9_isDay : MethodName := ⟨RX9, "isDay", "(I)Z"⟩
abbrev cX9_isWithin : ByteArray := prog_1_method_39_code
def yX9_isWithin : MethodName := ⟨RX9, "isWithin", "(III)Z"⟩
abbrev cX9_lowestIn : ByteArray := prog_1_method_40_code
def yX9_lowestIn : MethodName := ⟨RX9, "lowestIn", "(I)I"⟩
def RX10 : String := "CourtProgressModel$Stop"
def TX10 : u_T := fun k => match k with
  | 0 => ("java/lang/Throwable", "cause", "Ljava/lang/Throwable;", false)
  | 1 => ("java/lang/Throwable", "stackTrace", "[Ljava/lang/StackTraceElement;", false)
  | 2 => ("java/lang/Throwable", "suppressedExceptions", "Ljava/util/List;", false)
  | 3 => ("java/lang/Throwable", "detailMessage", "Ljava/lang/String;", false)
  | 4 => ("java/lang/Throwable", "backtrace", "Ljava/lang/Object;", false)
  | 5 => ("java/lang/Throwable", "depth", "I", false)
  | 6 => ("CourtProgressModel$Stop", "kind", "I", false)
  | _ => ("CourtProgressModel$Stop", "place", "I", false)
def tyX10 : Nat → FieldType := fun k => match k with
  | 0 => .object "java/lang/Throwable"
  | 1 => .array (.object "java/lang/StackTraceElement")
  | 2 => .object "java/util/List"
  | 3 => .object "java/lang/String"
  | 4 => .object "java/lang/Object"
  | 5 => .int
  | 6 => .int
  | _ => .int
abbrev wsX100 : List Cond := u_ws RX10 TX10 8
theorem nmX10 : ∀ a, a < 8 → ∀ b, b < 8 → a ≠ b → (TX10 a).2.1 ≠ (TX10 b).2.1 := by decide +kernel
theorem tyX10_ok : ∀ k, k < 8 → parseFieldDescriptor (TX10 k).2.2.1 = some (tyX10 k) := by decide +kernel
abbrev cX10_init : ByteArray := prog_13_method_1_code
def yX10_init : MethodName := ⟨RX10, "<init>", "()V"⟩
def RX11 : String := "CourtProgressModel"
def TX11 : u_T := fun k => match k with
  | 0 => ("CourtProgressModel", "thrown", "I", false)
  | 1 => ("CourtProgressModel", "trouble", "I", false)
  | 2 => ("CourtProgressModel", "where", "I", false)
  | 3 => ("CourtProgressModel", "fault", "I", false)
  | 4 => ("CourtProgressModel", "households", "I", false)
  | 5 => ("CourtProgressModel", "places", "I", false)
  | 6 => ("CourtProgressModel", "feasts", "I", false)
  | 7 => ("CourtProgressModel", "pleas", "I", false)
  | 8 => ("CourtProgressModel", "today", "I", false)
  | 9 => ("CourtProgressModel", "here", "I", false)
  | 10 => ("CourtProgressModel", "rank", "[I", true)
  | 11 => ("CourtProgressModel", "mouths", "[I", true)
  | 12 => ("CourtProgressModel", "horses", "[I", true)
  | 13 => ("CourtProgressModel", "bars", "[I", true)
  | 14 => ("CourtProgressModel", "store", "[I", true)
  | 15 => ("CourtProgressModel", "owes", "[I", true)
  | 16 => ("CourtProgressModel", "stalls", "[I", true)
  | 17 => ("CourtProgressModel", "tally", "[I", true)
  | 18 => ("CourtProgressModel", "eaten", "[I", true)
  | 19 => ("CourtProgressModel", "rooms", "[I", true)
  | 20 => ("CourtProgressModel", "worth", "[I", true)
  | 21 => ("CourtProgressModel", "house", "[I", true)
  | 22 => ("CourtProgressModel", "walk", "[I", true)
  | 23 => ("CourtProgressModel", "way", "[I", true)
  | 24 => ("CourtProgressModel", "mud", "[I", true)
  | 25 => ("CourtProgressModel", "feastAt", "[I", true)
  | 26 => ("CourtProgressModel", "wasAt", "[I", true)
  | 27 => ("CourtProgressModel", "lackedOn", "[I", true)
  | 28 => ("CourtProgressModel", "pleaWorth", "[I", true)
  | 29 => ("CourtProgressModel", "pleaCame", "[I", true)
  | 30 => ("CourtProgressModel", "pleaHeard", "[I", true)
  | 31 => ("CourtProgressModel", "stop", "LCourtProgressModel$Stop;", true)
  | 32 => ("CourtProgressModel", "tape", "[B", true)
  | 33 => ("CourtProgressModel", "taped", "I", false)
  | 34 => ("CourtProgressModel", "size", "I", false)
  | 35 => ("CourtProgressModel", "at", "I", false)
  | 36 => ("CourtProgressModel", "sort", "I", false)
  | 37 => ("CourtProgressModel", "place", "I", false)
  | 38 => ("CourtProgressModel", "sign", "I", false)
  | 39 => ("CourtProgressModel", "number", "I", false)
  | 40 => ("CourtProgressModel", "word", "J", false)
  | 41 => ("CourtProgressModel", "ordinances", "I", false)
  | 42 => ("CourtProgressModel", "since", "[I", true)
  | 43 => ("CourtProgressModel", "rules", "[I", true)
  | 44 => ("CourtProgressModel", "tests", "[I", true)
  | 45 => ("CourtProgressModel", "terms", "[I", true)
  | 46 => ("CourtProgressModel", "feeds", "[Z", true)
  | 47 => ("CourtProgressModel", "testName", "[I", true)
  | 48 => ("CourtProgressModel", "testSign", "[I", true)
  | 49 => ("CourtProgressModel", "testNumber", "[I", true)
  | 50 => ("CourtProgressModel", "termName", "[I", true)
  | 51 => ("CourtProgressModel", "termTimes", "[I", true)
  | 52 => ("CourtProgressModel", "bestSum", "I", false)
  | 53 => ("CourtProgressModel", "chosen", "[I", true)
  | 54 => ("CourtProgressModel", "bestRooms", "[I", true)
  | 55 => ("CourtProgressModel", "lodged", "[I", true)
  | 56 => ("CourtProgressModel", "spared", "[I", true)
  | 57 => ("CourtProgressModel", "lodgedMany", "I", false)
  | 58 => ("CourtProgressModel", "least", "[I", true)
  | 59 => ("CourtProgressModel", "needs", "[I", true)
  | 60 => ("CourtProgressModel", "routeAt", "[I", true)
  | 61 => ("CourtProgressModel", "routeFrom", "I", false)
  | 62 => ("CourtProgressModel", "routeDays", "I", false)
  | _ => ("CourtProgressModel", "ends", "[I", true)
def tyX11 : Nat → FieldType := fun k => match k with
  | 0 => .int
  | 1 => .int
  | 2 => .int
  | 3 => .int
  | 4 => .int
  | 5 => .int
  | 6 => .int
  | 7 => .int
  | 8 => .int
  | 9 => .int
  | 10 => .array .int
  | 11 => .array .int
  | 12 => .array .int
  | 13 => .array .int
  | 14 => .array .int
  | 15 => .array .int
  | 16 => .array .int
  | 17 => .array .int
  | 18 => .array .int
  | 19 => .array .int
  | 20 => .array .int
  | 21 => .array .int
  | 22 => .array .int
  | 23 => .array .int
  | 24 => .array .int
  | 25 => .array .int
  | 26 => .array .int
  | 27 => .array .int
  | 28 => .array .int
  | 29 => .array .int
  | 30 => .array .int
  | 31 => .object "CourtProgressModel$Stop"
  | 32 => .array .byte
  | 33 => .int
  | 34 => .int
  | 35 => .int
  | 36 => .int
  | 37 => .int
  | 38 => .int
  | 39 => .int
  | 40 => .long
  | 41 => .int
  | 42 => .array .int
  | 43 => .array .int
  | 44 => .array .int
  | 45 => .array .int
  | 46 => .array .boolean
  | 47 => .array .int
  | 48 => .array .int
  | 49 => .array .int
  | 50 => .array .int
  | 51 => .array .int
  | 52 => .int
  | 53 => .array .int
  | 54 => .array .int
  | 55 => .array .int
  | 56 => .array .int
  | 57 => .int
  | 58 => .array .int
  | 59 => .array .int
  | 60 => .array .int
  | 61 => .int
  | 62 => .int
  | _ => .array .int
abbrev wsX110 : List Cond := u_ws RX11 TX11 64
theorem nmX11 : ∀ a, a < 64 → ∀ b, b < 64 → a ≠ b → (TX11 a).2.1 ≠ (TX11 b).2.1 := by decide +kernel
theorem tyX11_ok : ∀ k, k < 64 → parseFieldDescriptor (TX11 k).2.2.1 = some (tyX11 k) := by decide +kernel
abbrev cX11_refused : ByteArray := prog_12_method_2_code
def yX11_refused : MethodName := ⟨RX11, "refused", "(I)I"⟩
abbrev cX11_denied : ByteArray := prog_12_method_3_code
def yX11_denied : MethodName := ⟨RX11, "denied", "(I)Z"⟩
abbrev cX11_done : ByteArray := prog_12_method_4_code
def yX11_done : MethodName := ⟨RX11, "done", "(I)I"⟩
abbrev cX11_granted : ByteArray := prog_12_method_5_code
def yX11_granted : MethodName := ⟨RX11, "granted", "()Z"⟩
abbrev cX11_in : ByteArray := prog_12_method_6_code
def yX11_in : MethodName := ⟨RX11, "in", "(III)Z"⟩
abbrev cX11_init : ByteArray := prog_12_method_7_code
def yX11_init : MethodName := ⟨RX11, "<init>", "()V"⟩
abbrev cX11_isHousehold : ByteArray := prog_12_method_8_code
def yX11_isHousehold : MethodName := ⟨RX11, "isHousehold", "(I)Z"⟩
abbrev cX11_isPlace : ByteArray := prog_12_method_9_code
def yX11_isPlace : MethodName := ⟨RX11, "isPlace", "(I)Z"⟩
abbrev cX11_isDay : ByteArray := prog_12_method_10_code
def yX11_isDay : MethodName := ⟨RX11, "isDay", "(I)Z"⟩
abbrev cX11_household : ByteArray := prog_12_method_11_code
def yX11_household : MethodName := ⟨RX11, "household", "(III)I"⟩
abbrev cX11_bar : ByteArray := prog_12_method_12_code
def yX11_bar : MethodName := ⟨RX11, "bar", "(IIZ)Z"⟩
abbrev cX11_place : ByteArray := prog_12_method_13_code
def yX11_place : MethodName := ⟨RX11, "place", "(III)I"⟩
abbrev cX11_room : ByteArray := prog_12_method_14_code
def yX11_room : MethodName := ⟨RX11, "room", "(IIII)I"⟩
abbrev cX11_way : ByteArray := prog_12_method_15_code
def yX11_way : MethodName := ⟨RX11, "way", "(III)Z"⟩
abbrev cX11_mud : ByteArray := prog_12_method_16_code
def yX11_mud : MethodName := ⟨RX11, "mud", "(III)Z"⟩
abbrev cX11_feast : ByteArray := prog_12_method_17_code
def yX11_feast : MethodName := ⟨RX11, "feast", "(II)Z"⟩
abbrev cX11_bring : ByteArray := prog_12_method_18_code
def yX11_bring : MethodName := ⟨RX11, "bring", "(III)Z"⟩
abbrev cX11_stop : ByteArray := prog_12_method_19_code
def yX11_stop : MethodName := ⟨RX11, "stop", "(I)LCourtProgressModel$Stop;"⟩
abbrev cX11_byteAt : ByteArray := prog_12_method_20_code
def yX11_byteAt : MethodName := ⟨RX11, "byteAt", "(I)I"⟩
abbrev cX11_isLetter : ByteArray := prog_12_method_21_code
def yX11_isLetter : MethodName := ⟨RX11, "isLetter", "(I)Z"⟩
abbrev cX11_isDigit : ByteArray := prog_12_method_22_code
def yX11_isDigit : MethodName := ⟨RX11, "isDigit", "(I)Z"⟩
abbrev cX11_wordOf : ByteArray := prog_12_method_23_code
def yX11_wordOf : MethodName := ⟨RX11, "wordOf", "(Ljava/lang/String;)J"⟩
abbrev cX11_next : ByteArray := prog_12_method_24_code
def yX11_next : MethodName := ⟨RX11, "next", "()V"⟩
abbrev cX11_isWord : ByteArray := prog_12_method_25_code
def yX11_isWord : MethodName := ⟨RX11, "isWord", "(Ljava/lang/String;)Z"⟩
abbrev cX11_is : ByteArray := prog_12_method_26_code
def yX11_is : MethodName := ⟨RX11, "is", "(I)Z"⟩
abbrev cX11_nameHere : ByteArray := prog_12_method_27_code
def yX11_nameHere : MethodName := ⟨RX11, "nameHere", "()I"⟩
abbrev cX11_reads : ByteArray := prog_12_method_28_code
def yX11_reads : MethodName := ⟨RX11, "reads", "()V"⟩
abbrev cX11_readTest : ByteArray := prog_12_method_29_code
def yX11_readTest : MethodName := ⟨RX11, "readTest", "(I)V"⟩
abbrev cX11_readTerm : ByteArray := prog_12_method_30_code
def yX11_readTerm : MethodName := ⟨RX11, "readTerm", "(I)V"⟩
abbrev cX11_feed : ByteArray := prog_12_method_31_code
def yX11_feed : MethodName := ⟨RX11, "feed", "(IIIII)I"⟩
abbrev cX11_ordinance : ByteArray := prog_12_method_32_code
def yX11_ordinance : MethodName := ⟨RX11, "ordinance", "(II)I"⟩
abbrev cX11_fault : ByteArray := prog_12_method_33_code
def yX11_fault : MethodName := ⟨RX11, "fault", "()I"⟩
abbrev cX11_where : ByteArray := prog_12_method_34_code
def yX11_where : MethodName := ⟨RX11, "where", "()I"⟩
abbrev cX11_forceOf : ByteArray := prog_12_method_35_code
def yX11_forceOf : MethodName := ⟨RX11, "forceOf", "(I)I"⟩
abbrev cX11_force : ByteArray := prog_12_method_36_code
def yX11_force : MethodName := ⟨RX11, "force", "(I)I"⟩
abbrev cX11_valueOf : ByteArray := prog_12_method_37_code
def yX11_valueOf : MethodName := ⟨RX11, "valueOf", "(III)I"⟩
abbrev cX11_eatsOf : ByteArray := prog_12_method_38_code
def yX11_eatsOf : MethodName := ⟨RX11, "eatsOf", "(IIZ)I"⟩
abbrev cX11_eats : ByteArray := prog_12_method_39_code
def yX11_eats : MethodName := ⟨RX11, "eats", "(IIZ)I"⟩
abbrev cX11_needOf : ByteArray := prog_12_method_40_code
def yX11_needOf : MethodName := ⟨RX11, "needOf", "(I)I"⟩
abbrev cX11_need : ByteArray := prog_12_method_41_code
def yX11_need : MethodName := ⟨RX11, "need", "(I)I"⟩
abbrev cX11_mayHave : ByteArray := prog_12_method_42_code
def yX11_mayHave : MethodName := ⟨RX11, "mayHave", "(IIIZ)Z"⟩
abbrev cX11_lodges : ByteArray := prog_12_method_43_code
def yX11_lodges : MethodName := ⟨RX11, "lodges", "(IIIZZ)Z"⟩
abbrev cX11_spares : ByteArray := prog_12_method_44_code
def yX11_spares : MethodName := ⟨RX11, "spares", "(I)V"⟩
abbrev cX11_whyOf : ByteArray := prog_12_method_45_code
def yX11_whyOf : MethodName := ⟨RX11, "whyOf", "(I)I"⟩
abbrev cX11_lodge : ByteArray := prog_12_method_46_code
def yX11_lodge : MethodName := ⟨RX11, "lodge", "(I)I"⟩
abbrev cX11_lodged : ByteArray := prog_12_method_47_code
def yX11_lodged : MethodName := ⟨RX11, "lodged", "(I)I"⟩
abbrev cX11_why : ByteArray := prog_12_method_48_code
def yX11_why : MethodName := ⟨RX11, "why", "(I)I"⟩
abbrev cX11_hoursOf : ByteArray := prog_12_method_49_code
def yX11_hoursOf : MethodName := ⟨RX11, "hoursOf", "(III)I"⟩
abbrev cX11_mayBe : ByteArray := prog_12_method_50_code
def yX11_mayBe : MethodName := ⟨RX11, "mayBe", "(II)Z"⟩
abbrev cX11_goesOn : ByteArray := prog_12_method_51_code
def yX11_goesOn : MethodName := ⟨RX11, "goesOn", "(IIIII)I"⟩
abbrev cX11_leaves : ByteArray := prog_12_method_52_code
def yX11_leaves : MethodName := ⟨RX11, "leaves", "(IIII)I"⟩
abbrev cX11_rows : ByteArray := prog_12_method_53_code
def yX11_rows : MethodName := ⟨RX11, "rows", "(III)V"⟩
abbrev cX11_route : ByteArray := prog_12_method_54_code
def yX11_route : MethodName := ⟨RX11, "route", "(I)I"⟩
abbrev cX11_at : ByteArray := prog_12_method_55_code
def yX11_at : MethodName := ⟨RX11, "at", "(I)I"⟩
abbrev cX11_lasts : ByteArray := prog_12_method_56_code
def yX11_lasts : MethodName := ⟨RX11, "lasts", "()I"⟩
abbrev cX11_step : ByteArray := prog_12_method_57_code
def yX11_step : MethodName := ⟨RX11, "step", "(I)I"⟩
abbrev cX11_about : ByteArray := prog_12_method_58_code
def yX11_about : MethodName := ⟨RX11, "about", "(II)I"⟩
abbrev cX11_was : ByteArray := prog_12_method_59_code
def yX11_was : MethodName := ⟨RX11, "was", "(I)I"⟩
abbrev cX11_lacked : ByteArray := prog_12_method_60_code
def yX11_lacked : MethodName := ⟨RX11, "lacked", "(I)I"⟩
abbrev cX11_plea : ByteArray := prog_12_method_61_code
def yX11_plea : MethodName := ⟨RX11, "plea", "(I)I"⟩
abbrev cX11_nextOf : ByteArray := prog_12_method_62_code
def yX11_nextOf : MethodName := ⟨RX11, "nextOf", "(I)I"⟩
abbrev cX11_hear : ByteArray := prog_12_method_63_code
def yX11_hear : MethodName := ⟨RX11, "hear", "(I)I"⟩
abbrev cX11_heard : ByteArray := prog_12_method_64_code
def yX11_heard : MethodName := ⟨RX11, "heard", "(I)I"⟩
abbrev cX11_next_ : ByteArray := prog_12_method_65_code
def yX11_next_ : MethodName := ⟨RX11, "next", "(I)I"⟩
abbrev cX11_count : ByteArray := prog_12_method_66_code
def yX11_count : MethodName := ⟨RX11, "count", "(I)I"⟩
abbrev cX11_trouble : ByteArray := prog_12_method_67_code
def yX11_trouble : MethodName := ⟨RX11, "trouble", "()I"⟩
def RJ6 : String := "java/lang/Integer"
def TJ6 : u_T := fun k => match k with
  | _ => ("", "", "", false)
def tyJ6 : Nat → FieldType := fun k => match k with
  | _ => .int
abbrev wsJ60 : List Cond := u_ws RJ6 TJ6 0
theorem nmJ6 : ∀ a, a < 0 → ∀ b, b < 0 → a ≠ b → (TJ6 a).2.1 ≠ (TJ6 b).2.1 := by decide +kernel
theorem tyJ6_ok : ∀ k, k < 0 → parseFieldDescriptor (TJ6 k).2.2.1 = some (tyJ6 k) := by decide +kernel
abbrev cJ6_bitCount_0f7a4 : ByteArray := prog_15_method_49_code
def yJ6_bitCount_0f7a4 : MethodName := ⟨RJ6, "bitCount", "(I)I"⟩
def RJ9 : String := "java/lang/Math"
def TJ9 : u_T := fun k => match k with
  | _ => ("", "", "", false)
def tyJ9 : Nat → FieldType := fun k => match k with
  | _ => .int
abbrev wsJ90 : List Cond := u_ws RJ9 TJ9 0
theorem nmJ9 : ∀ a, a < 0 → ∀ b, b < 0 → a ≠ b → (TJ9 a).2.1 ≠ (TJ9 b).2.1 := by decide +kernel
theorem tyJ9_ok : ∀ k, k < 0 → parseFieldDescriptor (TJ9 k).2.2.1 = some (tyJ9 k) := by decide +kernel
abbrev cJ9_max_7cf53 : ByteArray := prog_16_method_65_code
def yJ9_max_7cf53 : MethodName := ⟨RJ9, "max", "(II)I"⟩
abbrev cJ9_min_7cf53 : ByteArray := prog_16_method_69_code
def yJ9_min_7cf53 : MethodName := ⟨RJ9, "min", "(II)I"⟩
abbrev cJ9_min_f86c9 : ByteArray := prog_16_method_70_code
def yJ9_min_f86c9 : MethodName := ⟨RJ9, "min", "(JJ)J"⟩
def RJ0 : String := "java/lang/String"
def TJ0 : u_T := fun k => match k with
  | _ => ("", "", "", false)
def tyJ0 : Nat → FieldType := fun k => match k with
  | _ => .int
abbrev wsJ00 : List Cond := u_ws RJ0 TJ0 0
theorem nmJ0 : ∀ a, a < 0 → ∀ b, b < 0 → a ≠ b → (TJ0 a).2.1 ≠ (TJ0 b).2.1 := by decide +kernel
theorem tyJ0_ok : ∀ k, k < 0 → parseFieldDescriptor (TJ0 k).2.2.1 = some (tyJ0 k) := by decide +kernel
abbrev cJ0_length_8abf5 : ByteArray := prog_18_method_54_code
def yJ0_length_8abf5 : MethodName := ⟨RJ0, "length", "()I"⟩
abbrev cJ0_charAt_5068e : ByteArray := prog_18_method_56_code
def yJ0_charAt_5068e : MethodName := ⟨RJ0, "charAt", "(I)C"⟩
abbrev cJ0_coder_7d493 : ByteArray := prog_18_method_152_code
def yJ0_coder_7d493 : MethodName := ⟨RJ0, "coder", "()B"⟩
abbrev cJ0_isLatin1_aae02 : ByteArray := prog_18_method_154_code
def yJ0_isLatin1_aae02 : MethodName := ⟨RJ0, "isLatin1", "()Z"⟩
abbrev cJ0_checkIndex_df160 : ByteArray := prog_18_method_155_code
def yJ0_checkIndex_df160 : MethodName := ⟨RJ0, "checkIndex", "(II)V"⟩
def RJ1 : String := "java/lang/StringLatin1"
def TJ1 : u_T := fun k => match k with
  | _ => ("", "", "", false)
def tyJ1 : Nat → FieldType := fun k => match k with
  | _ => .int
abbrev wsJ10 : List Cond := u_ws RJ1 TJ1 0
theorem nmJ1 : ∀ a, a < 0 → ∀ b, b < 0 → a ≠ b → (TJ1 a).2.1 ≠ (TJ1 b).2.1 := by decide +kernel
theorem tyJ1_ok : ∀ k, k < 0 → parseFieldDescriptor (TJ1 k).2.2.1 = some (tyJ1 k) := by decide +kernel
abbrev cJ1_charAt_3b067 : ByteArray := prog_19_method_2_code
def yJ1_charAt_3b067 : MethodName := ⟨RJ1, "charAt", "([BI)C"⟩
def RJ2 : String := "java/lang/StringUTF16"
def TJ2 : u_T := fun k => match k with
  | _ => ("", "", "", false)
def tyJ2 : Nat → FieldType := fun k => match k with
  | _ => .int
abbrev wsJ20 : List Cond := u_ws RJ2 TJ2 0
theorem nmJ2 : ∀ a, a < 0 → ∀ b, b < 0 → a ≠ b → (TJ2 a).2.1 ≠ (TJ2 b).2.1 := by decide +kernel
theorem tyJ2_ok : ∀ k, k < 0 → parseFieldDescriptor (TJ2 k).2.2.1 = some (tyJ2 k) := by decide +kernel
abbrev cJ2_getChar_3b067 : ByteArray := prog_20_method_5_code
def yJ2_getChar_3b067 : MethodName := ⟨RJ2, "getChar", "([BI)C"⟩
abbrev cJ2_length_9d52b : ByteArray := prog_20_method_6_code
def yJ2_length_9d52b : MethodName := ⟨RJ2, "length", "([B)I"⟩
abbrev cJ2_charAt_3b067 : ByteArray := prog_20_method_83_code
def yJ2_charAt_3b067 : MethodName := ⟨RJ2, "charAt", "([BI)C"⟩
abbrev cJ2_checkIndex_2214a : ByteArray := prog_20_method_91_code
def yJ2_checkIndex_2214a : MethodName := ⟨RJ2, "checkIndex", "(I[B)V"⟩
def RJ3 : String := "jdk/internal/util/Preconditions"
def TJ3 : u_T := fun k => match k with
  | _ => ("", "", "", false)
def tyJ3 : Nat → FieldType := fun k => match k with
  | _ => .int
abbrev wsJ30 : List Cond := u_ws RJ3 TJ3 0
theorem nmJ3 : ∀ a, a < 0 → ∀ b, b < 0 → a ≠ b → (TJ3 a).2.1 ≠ (TJ3 b).2.1 := by decide +kernel
theorem tyJ3_ok : ∀ k, k < 0 → parseFieldDescriptor (TJ3 k).2.2.1 = some (tyJ3 k) := by decide +kernel
abbrev cJ3_checkIndex_8e157 : ByteArray := prog_22_method_11_code
def yJ3_checkIndex_8e157 : MethodName := ⟨RJ3, "checkIndex", "(IILjava/util/function/BiFunction;)I"⟩
def RL : String := "CourtProgressLaw"
abbrev cL_law : ByteArray := code
def yL_law : MethodName := ⟨RL, "law", "([I)Z"⟩
theorem inJ6 : ∀ w ∈ wsJ60, w ∈ lw_tbl := by decide +kernel
theorem inJ9 : ∀ w ∈ wsJ90, w ∈ lw_tbl := by decide +kernel
theorem inJ0 : ∀ w ∈ wsJ00, w ∈ lw_tbl := by decide +kernel
theorem inJ1 : ∀ w ∈ wsJ10, w ∈ lw_tbl := by decide +kernel
theorem inJ2 : ∀ w ∈ wsJ20, w ∈ lw_tbl := by decide +kernel
theorem inJ3 : ∀ w ∈ wsJ30, w ∈ lw_tbl := by decide +kernel


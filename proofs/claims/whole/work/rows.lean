section
-- ===== PART A: goes FIRST, ahead of the names: the tables' words, and 'selects' of the private methods out of them =====
/-- a private method of a class that the tables say can be made, by its rows of tables_1 -/
def lw_okq (q : MethodName × Nat) : Prop := (q.1.cls ≠ "java/lang/invoke/MethodHandle" ∧ q.1.cls ≠ "java/lang/invoke/VarHandle") ∧ Cond.instantiable q.1.cls q.2 ∈ tables_1 ∧ Cond.privateMethod q.1 ∈ tables_1 ∧ Cond.instanceMethod q.1 ∈ tables_1
theorem lw_p0 : lw_okq (⟨"CourtProgress", "refuse", "(I)I"⟩, 15) := ⟨⟨by decide +kernel, by decide +kernel⟩, List.mem_of_getElem? (i := 23) (by decide +kernel), List.mem_of_getElem? (i := 392) (by decide +kernel), List.mem_of_getElem? (i := 393) (by decide +kernel)⟩
theorem lw_p1 : lw_okq (⟨"CourtProgress", "grant", "(I)I"⟩, 15) := ⟨⟨by decide +kernel, by decide +kernel⟩, List.mem_of_getElem? (i := 23) (by decide +kernel), List.mem_of_getElem? (i := 400) (by decide +kernel), List.mem_of_getElem? (i := 401) (by decide +kernel)⟩
theorem lw_p2 : lw_okq (⟨"CourtProgress", "deny", "(I)Z"⟩, 15) := ⟨⟨by decide +kernel, by decide +kernel⟩, List.mem_of_getElem? (i := 23) (by decide +kernel), List.mem_of_getElem? (i := 412) (by decide +kernel), List.mem_of_getElem? (i := 413) (by decide +kernel)⟩
theorem lw_p3 : lw_okq (⟨"CourtProgress", "allow", "()Z"⟩, 15) := ⟨⟨by decide +kernel, by decide +kernel⟩, List.mem_of_getElem? (i := 23) (by decide +kernel), List.mem_of_getElem? (i := 421) (by decide +kernel), List.mem_of_getElem? (i := 422) (by decide +kernel)⟩
theorem lw_p4 : lw_okq (⟨"CourtProgress$Tape", "skipBlanks", "(I)I"⟩, 6) := ⟨⟨by decide +kernel, by decide +kernel⟩, List.mem_of_getElem? (i := 162) (by decide +kernel), List.mem_of_getElem? (i := 515) (by decide +kernel), List.mem_of_getElem? (i := 516) (by decide +kernel)⟩
theorem lw_p5 : lw_okq (⟨"CourtProgress$Tape", "tokenEnd", "(I)I"⟩, 6) := ⟨⟨by decide +kernel, by decide +kernel⟩, List.mem_of_getElem? (i := 162) (by decide +kernel), List.mem_of_getElem? (i := 519) (by decide +kernel), List.mem_of_getElem? (i := 520) (by decide +kernel)⟩
theorem lw_p6 : lw_okq (⟨"CourtProgress$Tape", "isLetter", "(I)Z"⟩, 6) := ⟨⟨by decide +kernel, by decide +kernel⟩, List.mem_of_getElem? (i := 162) (by decide +kernel), List.mem_of_getElem? (i := 523) (by decide +kernel), List.mem_of_getElem? (i := 524) (by decide +kernel)⟩
theorem lw_p7 : lw_okq (⟨"CourtProgress$Tape", "isDigit", "(I)Z"⟩, 6) := ⟨⟨by decide +kernel, by decide +kernel⟩, List.mem_of_getElem? (i := 162) (by decide +kernel), List.mem_of_getElem? (i := 527) (by decide +kernel), List.mem_of_getElem? (i := 528) (by decide +kernel)⟩
theorem lw_p8 : lw_okq (⟨"CourtProgress$Tape", "tokenOf", "(II)I"⟩, 6) := ⟨⟨by decide +kernel, by decide +kernel⟩, List.mem_of_getElem? (i := 162) (by decide +kernel), List.mem_of_getElem? (i := 531) (by decide +kernel), List.mem_of_getElem? (i := 532) (by decide +kernel)⟩
theorem lw_p9 : lw_okq (⟨"CourtProgress$Tape", "wordOf", "(II)I"⟩, 6) := ⟨⟨by decide +kernel, by decide +kernel⟩, List.mem_of_getElem? (i := 162) (by decide +kernel), List.mem_of_getElem? (i := 535) (by decide +kernel), List.mem_of_getElem? (i := 536) (by decide +kernel)⟩
theorem lw_p10 : lw_okq (⟨"CourtProgress$Tape", "spells", "(Ljava/lang/String;II)Z"⟩, 6) := ⟨⟨by decide +kernel, by decide +kernel⟩, List.mem_of_getElem? (i := 162) (by decide +kernel), List.mem_of_getElem? (i := 540) (by decide +kernel), List.mem_of_getElem? (i := 541) (by decide +kernel)⟩
theorem lw_p11 : lw_okq (⟨"CourtProgress$Tape", "numberOf", "(II)I"⟩, 6) := ⟨⟨by decide +kernel, by decide +kernel⟩, List.mem_of_getElem? (i := 162) (by decide +kernel), List.mem_of_getElem? (i := 601) (by decide +kernel), List.mem_of_getElem? (i := 602) (by decide +kernel)⟩
theorem lw_p12 : lw_okq (⟨"CourtProgress$Scribe", "readRule", "(I)Z"⟩, 5) := ⟨⟨by decide +kernel, by decide +kernel⟩, List.mem_of_getElem? (i := 188) (by decide +kernel), List.mem_of_getElem? (i := 620) (by decide +kernel), List.mem_of_getElem? (i := 621) (by decide +kernel)⟩
theorem lw_p13 : lw_okq (⟨"CourtProgress$Scribe", "fail", "(I)Z"⟩, 5) := ⟨⟨by decide +kernel, by decide +kernel⟩, List.mem_of_getElem? (i := 188) (by decide +kernel), List.mem_of_getElem? (i := 624) (by decide +kernel), List.mem_of_getElem? (i := 625) (by decide +kernel)⟩
theorem lw_p14 : lw_okq (⟨"CourtProgress$Scribe", "readTests", "()Z"⟩, 5) := ⟨⟨by decide +kernel, by decide +kernel⟩, List.mem_of_getElem? (i := 188) (by decide +kernel), List.mem_of_getElem? (i := 635) (by decide +kernel), List.mem_of_getElem? (i := 636) (by decide +kernel)⟩
theorem lw_p15 : lw_okq (⟨"CourtProgress$Scribe", "advance", "()V"⟩, 5) := ⟨⟨by decide +kernel, by decide +kernel⟩, List.mem_of_getElem? (i := 188) (by decide +kernel), List.mem_of_getElem? (i := 639) (by decide +kernel), List.mem_of_getElem? (i := 640) (by decide +kernel)⟩
def lw_privs_1 : List (MethodName × Nat) := [(⟨"CourtProgress", "refuse", "(I)I"⟩, 15), (⟨"CourtProgress", "grant", "(I)I"⟩, 15), (⟨"CourtProgress", "deny", "(I)Z"⟩, 15), (⟨"CourtProgress", "allow", "()Z"⟩, 15), (⟨"CourtProgress$Tape", "skipBlanks", "(I)I"⟩, 6), (⟨"CourtProgress$Tape", "tokenEnd", "(I)I"⟩, 6), (⟨"CourtProgress$Tape", "isLetter", "(I)Z"⟩, 6), (⟨"CourtProgress$Tape", "isDigit", "(I)Z"⟩, 6), (⟨"CourtProgress$Tape", "tokenOf", "(II)I"⟩, 6), (⟨"CourtProgress$Tape", "wordOf", "(II)I"⟩, 6), (⟨"CourtProgress$Tape", "spells", "(Ljava/lang/String;II)Z"⟩, 6), (⟨"CourtProgress$Tape", "numberOf", "(II)I"⟩, 6), (⟨"CourtProgress$Scribe", "readRule", "(I)Z"⟩, 5), (⟨"CourtProgress$Scribe", "fail", "(I)Z"⟩, 5), (⟨"CourtProgress$Scribe", "readTests", "()Z"⟩, 5), (⟨"CourtProgress$Scribe", "advance", "()V"⟩, 5)]
theorem lw_r1 : ∀ q ∈ lw_privs_1, lw_okq q := List.forall_mem_cons.mpr ⟨lw_p0, List.forall_mem_cons.mpr ⟨lw_p1, List.forall_mem_cons.mpr ⟨lw_p2, List.forall_mem_cons.mpr ⟨lw_p3, List.forall_mem_cons.mpr ⟨lw_p4, List.forall_mem_cons.mpr ⟨lw_p5, List.forall_mem_cons.mpr ⟨lw_p6, List.forall_mem_cons.mpr ⟨lw_p7, List.forall_mem_cons.mpr ⟨lw_p8, List.forall_mem_cons.mpr ⟨lw_p9, List.forall_mem_cons.mpr ⟨lw_p10, List.forall_mem_cons.mpr ⟨lw_p11, List.forall_mem_cons.mpr ⟨lw_p12, List.forall_mem_cons.mpr ⟨lw_p13, List.forall_mem_cons.mpr ⟨lw_p14, List.forall_mem_cons.mpr ⟨lw_p15, fun _ h => absurd h List.not_mem_nil⟩⟩⟩⟩⟩⟩⟩⟩⟩⟩⟩⟩⟩⟩⟩⟩
theorem lw_p16 : lw_okq (⟨"CourtProgress$Scribe", "isName", "()Z"⟩, 5) := ⟨⟨by decide +kernel, by decide +kernel⟩, List.mem_of_getElem? (i := 188) (by decide +kernel), List.mem_of_getElem? (i := 643) (by decide +kernel), List.mem_of_getElem? (i := 644) (by decide +kernel)⟩
theorem lw_p17 : lw_okq (⟨"CourtProgress$Scribe", "failWithoutName", "()Z"⟩, 5) := ⟨⟨by decide +kernel, by decide +kernel⟩, List.mem_of_getElem? (i := 188) (by decide +kernel), List.mem_of_getElem? (i := 647) (by decide +kernel), List.mem_of_getElem? (i := 648) (by decide +kernel)⟩
theorem lw_p18 : lw_okq (⟨"CourtProgress$Scribe", "readTest", "()Z"⟩, 5) := ⟨⟨by decide +kernel, by decide +kernel⟩, List.mem_of_getElem? (i := 188) (by decide +kernel), List.mem_of_getElem? (i := 651) (by decide +kernel), List.mem_of_getElem? (i := 652) (by decide +kernel)⟩
theorem lw_p19 : lw_okq (⟨"CourtProgress$Scribe", "isNumber", "()Z"⟩, 5) := ⟨⟨by decide +kernel, by decide +kernel⟩, List.mem_of_getElem? (i := 188) (by decide +kernel), List.mem_of_getElem? (i := 655) (by decide +kernel), List.mem_of_getElem? (i := 656) (by decide +kernel)⟩
theorem lw_p20 : lw_okq (⟨"CourtProgress$Scribe", "readSum", "()Z"⟩, 5) := ⟨⟨by decide +kernel, by decide +kernel⟩, List.mem_of_getElem? (i := 188) (by decide +kernel), List.mem_of_getElem? (i := 667) (by decide +kernel), List.mem_of_getElem? (i := 668) (by decide +kernel)⟩
theorem lw_p21 : lw_okq (⟨"CourtProgress$Scribe", "readTerm", "()Z"⟩, 5) := ⟨⟨by decide +kernel, by decide +kernel⟩, List.mem_of_getElem? (i := 188) (by decide +kernel), List.mem_of_getElem? (i := 671) (by decide +kernel), List.mem_of_getElem? (i := 672) (by decide +kernel)⟩
theorem lw_p22 : lw_okq (⟨"CourtProgress$Statutes", "setDay", "(I)V"⟩, 8) := ⟨⟨by decide +kernel, by decide +kernel⟩, List.mem_of_getElem? (i := 130) (by decide +kernel), List.mem_of_getElem? (i := 718) (by decide +kernel), List.mem_of_getElem? (i := 719) (by decide +kernel)⟩
theorem lw_p23 : lw_okq (⟨"CourtProgress$Statutes", "setHousehold", "(I)V"⟩, 8) := ⟨⟨by decide +kernel, by decide +kernel⟩, List.mem_of_getElem? (i := 130) (by decide +kernel), List.mem_of_getElem? (i := 727) (by decide +kernel), List.mem_of_getElem? (i := 728) (by decide +kernel)⟩
theorem lw_p24 : lw_okq (⟨"CourtProgress$Statutes", "firstSum", "(II)I"⟩, 8) := ⟨⟨by decide +kernel, by decide +kernel⟩, List.mem_of_getElem? (i := 130) (by decide +kernel), List.mem_of_getElem? (i := 731) (by decide +kernel), List.mem_of_getElem? (i := 732) (by decide +kernel)⟩
theorem lw_p25 : lw_okq (⟨"CourtProgress$Statutes", "testsHold", "(I)Z"⟩, 8) := ⟨⟨by decide +kernel, by decide +kernel⟩, List.mem_of_getElem? (i := 130) (by decide +kernel), List.mem_of_getElem? (i := 735) (by decide +kernel), List.mem_of_getElem? (i := 736) (by decide +kernel)⟩
theorem lw_p26 : lw_okq (⟨"CourtProgress$Statutes", "valueOf", "(I)I"⟩, 8) := ⟨⟨by decide +kernel, by decide +kernel⟩, List.mem_of_getElem? (i := 130) (by decide +kernel), List.mem_of_getElem? (i := 739) (by decide +kernel), List.mem_of_getElem? (i := 740) (by decide +kernel)⟩
theorem lw_p27 : lw_okq (⟨"CourtProgress$Statutes", "sumOf", "(I)I"⟩, 8) := ⟨⟨by decide +kernel, by decide +kernel⟩, List.mem_of_getElem? (i := 130) (by decide +kernel), List.mem_of_getElem? (i := 743) (by decide +kernel), List.mem_of_getElem? (i := 744) (by decide +kernel)⟩
theorem lw_p28 : lw_okq (⟨"CourtProgress$Lodger", "isPossible", "(IZ)Z"⟩, 16) := ⟨⟨by decide +kernel, by decide +kernel⟩, List.mem_of_getElem? (i := 211) (by decide +kernel), List.mem_of_getElem? (i := 771) (by decide +kernel), List.mem_of_getElem? (i := 772) (by decide +kernel)⟩
theorem lw_p29 : lw_okq (⟨"CourtProgress$Lodger", "prepare", "(IZZ)V"⟩, 16) := ⟨⟨by decide +kernel, by decide +kernel⟩, List.mem_of_getElem? (i := 211) (by decide +kernel), List.mem_of_getElem? (i := 775) (by decide +kernel), List.mem_of_getElem? (i := 776) (by decide +kernel)⟩
theorem lw_p30 : lw_okq (⟨"CourtProgress$Lodger", "sortRooms", "(I)V"⟩, 16) := ⟨⟨by decide +kernel, by decide +kernel⟩, List.mem_of_getElem? (i := 211) (by decide +kernel), List.mem_of_getElem? (i := 779) (by decide +kernel), List.mem_of_getElem? (i := 780) (by decide +kernel)⟩
theorem lw_p31 : lw_okq (⟨"CourtProgress$Lodger", "sortHouseholds", "()V"⟩, 16) := ⟨⟨by decide +kernel, by decide +kernel⟩, List.mem_of_getElem? (i := 211) (by decide +kernel), List.mem_of_getElem? (i := 783) (by decide +kernel), List.mem_of_getElem? (i := 784) (by decide +kernel)⟩
def lw_privs_2 : List (MethodName × Nat) := [(⟨"CourtProgress$Scribe", "isName", "()Z"⟩, 5), (⟨"CourtProgress$Scribe", "failWithoutName", "()Z"⟩, 5), (⟨"CourtProgress$Scribe", "readTest", "()Z"⟩, 5), (⟨"CourtProgress$Scribe", "isNumber", "()Z"⟩, 5), (⟨"CourtProgress$Scribe", "readSum", "()Z"⟩, 5), (⟨"CourtProgress$Scribe", "readTerm", "()Z"⟩, 5), (⟨"CourtProgress$Statutes", "setDay", "(I)V"⟩, 8), (⟨"CourtProgress$Statutes", "setHousehold", "(I)V"⟩, 8), (⟨"CourtProgress$Statutes", "firstSum", "(II)I"⟩, 8), (⟨"CourtProgress$Statutes", "testsHold", "(I)Z"⟩, 8), (⟨"CourtProgress$Statutes", "valueOf", "(I)I"⟩, 8), (⟨"CourtProgress$Statutes", "sumOf", "(I)I"⟩, 8), (⟨"CourtProgress$Lodger", "isPossible", "(IZ)Z"⟩, 16), (⟨"CourtProgress$Lodger", "prepare", "(IZZ)V"⟩, 16), (⟨"CourtProgress$Lodger", "sortRooms", "(I)V"⟩, 16), (⟨"CourtProgress$Lodger", "sortHouseholds", "()V"⟩, 16)]
theorem lw_r2 : ∀ q ∈ lw_privs_2, lw_okq q := List.forall_mem_cons.mpr ⟨lw_p16, List.forall_mem_cons.mpr ⟨lw_p17, List.forall_mem_cons.mpr ⟨lw_p18, List.forall_mem_cons.mpr ⟨lw_p19, List.forall_mem_cons.mpr ⟨lw_p20, List.forall_mem_cons.mpr ⟨lw_p21, List.forall_mem_cons.mpr ⟨lw_p22, List.forall_mem_cons.mpr ⟨lw_p23, List.forall_mem_cons.mpr ⟨lw_p24, List.forall_mem_cons.mpr ⟨lw_p25, List.forall_mem_cons.mpr ⟨lw_p26, List.forall_mem_cons.mpr ⟨lw_p27, List.forall_mem_cons.mpr ⟨lw_p28, List.forall_mem_cons.mpr ⟨lw_p29, List.forall_mem_cons.mpr ⟨lw_p30, List.forall_mem_cons.mpr ⟨lw_p31, fun _ h => absurd h List.not_mem_nil⟩⟩⟩⟩⟩⟩⟩⟩⟩⟩⟩⟩⟩⟩⟩⟩
theorem lw_p32 : lw_okq (⟨"CourtProgress$Lodger", "relate", "(IIZZ)V"⟩, 16) := ⟨⟨by decide +kernel, by decide +kernel⟩, List.mem_of_getElem? (i := 211) (by decide +kernel), List.mem_of_getElem? (i := 791) (by decide +kernel), List.mem_of_getElem? (i := 792) (by decide +kernel)⟩
theorem lw_p33 : lw_okq (⟨"CourtProgress$Lodger", "everyone", "()I"⟩, 16) := ⟨⟨by decide +kernel, by decide +kernel⟩, List.mem_of_getElem? (i := 211) (by decide +kernel), List.mem_of_getElem? (i := 798) (by decide +kernel), List.mem_of_getElem? (i := 799) (by decide +kernel)⟩
theorem lw_p34 : lw_okq (⟨"CourtProgress$Lodger", "search", "(III)V"⟩, 16) := ⟨⟨by decide +kernel, by decide +kernel⟩, List.mem_of_getElem? (i := 211) (by decide +kernel), List.mem_of_getElem? (i := 802) (by decide +kernel), List.mem_of_getElem? (i := 803) (by decide +kernel)⟩
theorem lw_p35 : lw_okq (⟨"CourtProgress$Lodger", "keep", "(I)V"⟩, 16) := ⟨⟨by decide +kernel, by decide +kernel⟩, List.mem_of_getElem? (i := 211) (by decide +kernel), List.mem_of_getElem? (i := 806) (by decide +kernel), List.mem_of_getElem? (i := 807) (by decide +kernel)⟩
theorem lw_p36 : lw_okq (⟨"CourtProgress$Lodger", "choose", "(III)I"⟩, 16) := ⟨⟨by decide +kernel, by decide +kernel⟩, List.mem_of_getElem? (i := 211) (by decide +kernel), List.mem_of_getElem? (i := 810) (by decide +kernel), List.mem_of_getElem? (i := 811) (by decide +kernel)⟩
theorem lw_p37 : lw_okq (⟨"CourtProgress$Lodger", "hardship", "(III)I"⟩, 16) := ⟨⟨by decide +kernel, by decide +kernel⟩, List.mem_of_getElem? (i := 211) (by decide +kernel), List.mem_of_getElem? (i := 823) (by decide +kernel), List.mem_of_getElem? (i := 824) (by decide +kernel)⟩
theorem lw_p38 : lw_okq (⟨"CourtProgress$Lodger", "leastTogether", "(II)I"⟩, 16) := ⟨⟨by decide +kernel, by decide +kernel⟩, List.mem_of_getElem? (i := 211) (by decide +kernel), List.mem_of_getElem? (i := 828) (by decide +kernel), List.mem_of_getElem? (i := 829) (by decide +kernel)⟩
theorem lw_p39 : lw_okq (⟨"CourtProgress$Lodger", "give", "(IIII)V"⟩, 16) := ⟨⟨by decide +kernel, by decide +kernel⟩, List.mem_of_getElem? (i := 211) (by decide +kernel), List.mem_of_getElem? (i := 833) (by decide +kernel), List.mem_of_getElem? (i := 834) (by decide +kernel)⟩
theorem lw_p40 : lw_okq (⟨"CourtProgress$Lodger", "findLesserRoom", "(IIII)V"⟩, 16) := ⟨⟨by decide +kernel, by decide +kernel⟩, List.mem_of_getElem? (i := 211) (by decide +kernel), List.mem_of_getElem? (i := 841) (by decide +kernel), List.mem_of_getElem? (i := 842) (by decide +kernel)⟩
theorem lw_p41 : lw_okq (⟨"CourtProgress$Lodger", "spotOfRoom", "(I)I"⟩, 16) := ⟨⟨by decide +kernel, by decide +kernel⟩, List.mem_of_getElem? (i := 211) (by decide +kernel), List.mem_of_getElem? (i := 845) (by decide +kernel), List.mem_of_getElem? (i := 846) (by decide +kernel)⟩
theorem lw_p42 : lw_okq (⟨"CourtProgress$Router", "measureRows", "()V"⟩, 14) := ⟨⟨by decide +kernel, by decide +kernel⟩, List.mem_of_getElem? (i := 266) (by decide +kernel), List.mem_of_getElem? (i := 875) (by decide +kernel), List.mem_of_getElem? (i := 876) (by decide +kernel)⟩
theorem lw_p43 : lw_okq (⟨"CourtProgress$Router", "rowEnd", "(II)I"⟩, 14) := ⟨⟨by decide +kernel, by decide +kernel⟩, List.mem_of_getElem? (i := 266) (by decide +kernel), List.mem_of_getElem? (i := 881) (by decide +kernel), List.mem_of_getElem? (i := 882) (by decide +kernel)⟩
theorem lw_p44 : lw_okq (⟨"CourtProgress$Router", "mayBeAt", "(II)Z"⟩, 14) := ⟨⟨by decide +kernel, by decide +kernel⟩, List.mem_of_getElem? (i := 266) (by decide +kernel), List.mem_of_getElem? (i := 890) (by decide +kernel), List.mem_of_getElem? (i := 891) (by decide +kernel)⟩
theorem lw_p45 : lw_okq (⟨"CourtProgress$Router", "makeRoom", "()V"⟩, 14) := ⟨⟨by decide +kernel, by decide +kernel⟩, List.mem_of_getElem? (i := 266) (by decide +kernel), List.mem_of_getElem? (i := 895) (by decide +kernel), List.mem_of_getElem? (i := 896) (by decide +kernel)⟩
theorem lw_p46 : lw_okq (⟨"CourtProgress$Router", "leastOnward", "(IIII)I"⟩, 14) := ⟨⟨by decide +kernel, by decide +kernel⟩, List.mem_of_getElem? (i := 266) (by decide +kernel), List.mem_of_getElem? (i := 900) (by decide +kernel), List.mem_of_getElem? (i := 901) (by decide +kernel)⟩
theorem lw_p47 : lw_okq (⟨"CourtProgress$Router", "leastLeaving", "(III)I"⟩, 14) := ⟨⟨by decide +kernel, by decide +kernel⟩, List.mem_of_getElem? (i := 266) (by decide +kernel), List.mem_of_getElem? (i := 904) (by decide +kernel), List.mem_of_getElem? (i := 905) (by decide +kernel)⟩
def lw_privs_3 : List (MethodName × Nat) := [(⟨"CourtProgress$Lodger", "relate", "(IIZZ)V"⟩, 16), (⟨"CourtProgress$Lodger", "everyone", "()I"⟩, 16), (⟨"CourtProgress$Lodger", "search", "(III)V"⟩, 16), (⟨"CourtProgress$Lodger", "keep", "(I)V"⟩, 16), (⟨"CourtProgress$Lodger", "choose", "(III)I"⟩, 16), (⟨"CourtProgress$Lodger", "hardship", "(III)I"⟩, 16), (⟨"CourtProgress$Lodger", "leastTogether", "(II)I"⟩, 16), (⟨"CourtProgress$Lodger", "give", "(IIII)V"⟩, 16), (⟨"CourtProgress$Lodger", "findLesserRoom", "(IIII)V"⟩, 16), (⟨"CourtProgress$Lodger", "spotOfRoom", "(I)I"⟩, 16), (⟨"CourtProgress$Router", "measureRows", "()V"⟩, 14), (⟨"CourtProgress$Router", "rowEnd", "(II)I"⟩, 14), (⟨"CourtProgress$Router", "mayBeAt", "(II)Z"⟩, 14), (⟨"CourtProgress$Router", "makeRoom", "()V"⟩, 14), (⟨"CourtProgress$Router", "leastOnward", "(IIII)I"⟩, 14), (⟨"CourtProgress$Router", "leastLeaving", "(III)I"⟩, 14)]
theorem lw_r3 : ∀ q ∈ lw_privs_3, lw_okq q := List.forall_mem_cons.mpr ⟨lw_p32, List.forall_mem_cons.mpr ⟨lw_p33, List.forall_mem_cons.mpr ⟨lw_p34, List.forall_mem_cons.mpr ⟨lw_p35, List.forall_mem_cons.mpr ⟨lw_p36, List.forall_mem_cons.mpr ⟨lw_p37, List.forall_mem_cons.mpr ⟨lw_p38, List.forall_mem_cons.mpr ⟨lw_p39, List.forall_mem_cons.mpr ⟨lw_p40, List.forall_mem_cons.mpr ⟨lw_p41, List.forall_mem_cons.mpr ⟨lw_p42, List.forall_mem_cons.mpr ⟨lw_p43, List.forall_mem_cons.mpr ⟨lw_p44, List.forall_mem_cons.mpr ⟨lw_p45, List.forall_mem_cons.mpr ⟨lw_p46, List.forall_mem_cons.mpr ⟨lw_p47, fun _ h => absurd h List.not_mem_nil⟩⟩⟩⟩⟩⟩⟩⟩⟩⟩⟩⟩⟩⟩⟩⟩
theorem lw_p48 : lw_okq (⟨"CourtProgress$Router", "slotOf", "(III)I"⟩, 14) := ⟨⟨by decide +kernel, by decide +kernel⟩, List.mem_of_getElem? (i := 266) (by decide +kernel), List.mem_of_getElem? (i := 908) (by decide +kernel), List.mem_of_getElem? (i := 909) (by decide +kernel)⟩
theorem lw_p49 : lw_okq (⟨"CourtProgress$Router", "leastBy", "(IIIII)I"⟩, 14) := ⟨⟨by decide +kernel, by decide +kernel⟩, List.mem_of_getElem? (i := 266) (by decide +kernel), List.mem_of_getElem? (i := 913) (by decide +kernel), List.mem_of_getElem? (i := 914) (by decide +kernel)⟩
theorem lw_p50 : lw_okq (⟨"CourtProgress$Router", "leastFrom", "(III)I"⟩, 14) := ⟨⟨by decide +kernel, by decide +kernel⟩, List.mem_of_getElem? (i := 266) (by decide +kernel), List.mem_of_getElem? (i := 921) (by decide +kernel), List.mem_of_getElem? (i := 922) (by decide +kernel)⟩
theorem lw_p51 : lw_okq (⟨"CourtProgress$Router", "leastNext", "(IIIII)I"⟩, 14) := ⟨⟨by decide +kernel, by decide +kernel⟩, List.mem_of_getElem? (i := 266) (by decide +kernel), List.mem_of_getElem? (i := 931) (by decide +kernel), List.mem_of_getElem? (i := 932) (by decide +kernel)⟩
theorem lw_p52 : lw_okq (⟨"CourtProgress", "isPast", "(I)Z"⟩, 15) := ⟨⟨by decide +kernel, by decide +kernel⟩, List.mem_of_getElem? (i := 23) (by decide +kernel), List.mem_of_getElem? (i := 971) (by decide +kernel), List.mem_of_getElem? (i := 972) (by decide +kernel)⟩
theorem lw_p53 : lw_okq (⟨"java/lang/Throwable", "fillInStackTrace", "(I)Ljava/lang/Throwable;"⟩, 6) := ⟨⟨by decide +kernel, by decide +kernel⟩, List.mem_of_getElem? (i := 1062) (by decide +kernel), List.mem_of_getElem? (i := 1060) (by decide +kernel), List.mem_of_getElem? (i := 1061) (by decide +kernel)⟩
theorem lw_p54 : lw_okq (⟨"CourtProgressModel", "refused", "(I)I"⟩, 64) := ⟨⟨by decide +kernel, by decide +kernel⟩, List.mem_of_getElem? (i := 1020) (by decide +kernel), List.mem_of_getElem? (i := 1298) (by decide +kernel), List.mem_of_getElem? (i := 1299) (by decide +kernel)⟩
theorem lw_p55 : lw_okq (⟨"CourtProgressModel", "done", "(I)I"⟩, 64) := ⟨⟨by decide +kernel, by decide +kernel⟩, List.mem_of_getElem? (i := 1020) (by decide +kernel), List.mem_of_getElem? (i := 1302) (by decide +kernel), List.mem_of_getElem? (i := 1303) (by decide +kernel)⟩
theorem lw_p56 : lw_okq (⟨"CourtProgressModel", "isHousehold", "(I)Z"⟩, 64) := ⟨⟨by decide +kernel, by decide +kernel⟩, List.mem_of_getElem? (i := 1020) (by decide +kernel), List.mem_of_getElem? (i := 1310) (by decide +kernel), List.mem_of_getElem? (i := 1311) (by decide +kernel)⟩
theorem lw_p57 : lw_okq (⟨"CourtProgressModel", "denied", "(I)Z"⟩, 64) := ⟨⟨by decide +kernel, by decide +kernel⟩, List.mem_of_getElem? (i := 1020) (by decide +kernel), List.mem_of_getElem? (i := 1314) (by decide +kernel), List.mem_of_getElem? (i := 1315) (by decide +kernel)⟩
theorem lw_p58 : lw_okq (⟨"CourtProgressModel", "granted", "()Z"⟩, 64) := ⟨⟨by decide +kernel, by decide +kernel⟩, List.mem_of_getElem? (i := 1020) (by decide +kernel), List.mem_of_getElem? (i := 1318) (by decide +kernel), List.mem_of_getElem? (i := 1319) (by decide +kernel)⟩
theorem lw_p59 : lw_okq (⟨"CourtProgressModel", "isPlace", "(I)Z"⟩, 64) := ⟨⟨by decide +kernel, by decide +kernel⟩, List.mem_of_getElem? (i := 1020) (by decide +kernel), List.mem_of_getElem? (i := 1331) (by decide +kernel), List.mem_of_getElem? (i := 1332) (by decide +kernel)⟩
theorem lw_p60 : lw_okq (⟨"CourtProgressModel", "reads", "()V"⟩, 64) := ⟨⟨by decide +kernel, by decide +kernel⟩, List.mem_of_getElem? (i := 1020) (by decide +kernel), List.mem_of_getElem? (i := 1363) (by decide +kernel), List.mem_of_getElem? (i := 1364) (by decide +kernel)⟩
theorem lw_p61 : lw_okq (⟨"CourtProgressModel", "next", "()V"⟩, 64) := ⟨⟨by decide +kernel, by decide +kernel⟩, List.mem_of_getElem? (i := 1020) (by decide +kernel), List.mem_of_getElem? (i := 1367) (by decide +kernel), List.mem_of_getElem? (i := 1368) (by decide +kernel)⟩
theorem lw_p62 : lw_okq (⟨"CourtProgressModel", "byteAt", "(I)I"⟩, 64) := ⟨⟨by decide +kernel, by decide +kernel⟩, List.mem_of_getElem? (i := 1020) (by decide +kernel), List.mem_of_getElem? (i := 1371) (by decide +kernel), List.mem_of_getElem? (i := 1372) (by decide +kernel)⟩
theorem lw_p63 : lw_okq (⟨"CourtProgressModel", "isWord", "(Ljava/lang/String;)Z"⟩, 64) := ⟨⟨by decide +kernel, by decide +kernel⟩, List.mem_of_getElem? (i := 1020) (by decide +kernel), List.mem_of_getElem? (i := 1383) (by decide +kernel), List.mem_of_getElem? (i := 1384) (by decide +kernel)⟩
def lw_privs_4 : List (MethodName × Nat) := [(⟨"CourtProgress$Router", "slotOf", "(III)I"⟩, 14), (⟨"CourtProgress$Router", "leastBy", "(IIIII)I"⟩, 14), (⟨"CourtProgress$Router", "leastFrom", "(III)I"⟩, 14), (⟨"CourtProgress$Router", "leastNext", "(IIIII)I"⟩, 14), (⟨"CourtProgress", "isPast", "(I)Z"⟩, 15), (⟨"java/lang/Throwable", "fillInStackTrace", "(I)Ljava/lang/Throwable;"⟩, 6), (⟨"CourtProgressModel", "refused", "(I)I"⟩, 64), (⟨"CourtProgressModel", "done", "(I)I"⟩, 64), (⟨"CourtProgressModel", "isHousehold", "(I)Z"⟩, 64), (⟨"CourtProgressModel", "denied", "(I)Z"⟩, 64), (⟨"CourtProgressModel", "granted", "()Z"⟩, 64), (⟨"CourtProgressModel", "isPlace", "(I)Z"⟩, 64), (⟨"CourtProgressModel", "reads", "()V"⟩, 64), (⟨"CourtProgressModel", "next", "()V"⟩, 64), (⟨"CourtProgressModel", "byteAt", "(I)I"⟩, 64), (⟨"CourtProgressModel", "isWord", "(Ljava/lang/String;)Z"⟩, 64)]
theorem lw_r4 : ∀ q ∈ lw_privs_4, lw_okq q := List.forall_mem_cons.mpr ⟨lw_p48, List.forall_mem_cons.mpr ⟨lw_p49, List.forall_mem_cons.mpr ⟨lw_p50, List.forall_mem_cons.mpr ⟨lw_p51, List.forall_mem_cons.mpr ⟨lw_p52, List.forall_mem_cons.mpr ⟨lw_p53, List.forall_mem_cons.mpr ⟨lw_p54, List.forall_mem_cons.mpr ⟨lw_p55, List.forall_mem_cons.mpr ⟨lw_p56, List.forall_mem_cons.mpr ⟨lw_p57, List.forall_mem_cons.mpr ⟨lw_p58, List.forall_mem_cons.mpr ⟨lw_p59, List.forall_mem_cons.mpr ⟨lw_p60, List.forall_mem_cons.mpr ⟨lw_p61, List.forall_mem_cons.mpr ⟨lw_p62, List.forall_mem_cons.mpr ⟨lw_p63, fun _ h => absurd h List.not_mem_nil⟩⟩⟩⟩⟩⟩⟩⟩⟩⟩⟩⟩⟩⟩⟩⟩
theorem lw_p64 : lw_okq (⟨"CourtProgressModel", "stop", "(I)LCourtProgressModel$Stop;"⟩, 64) := ⟨⟨by decide +kernel, by decide +kernel⟩, List.mem_of_getElem? (i := 1020) (by decide +kernel), List.mem_of_getElem? (i := 1394) (by decide +kernel), List.mem_of_getElem? (i := 1395) (by decide +kernel)⟩
theorem lw_p65 : lw_okq (⟨"CourtProgressModel", "readTest", "(I)V"⟩, 64) := ⟨⟨by decide +kernel, by decide +kernel⟩, List.mem_of_getElem? (i := 1020) (by decide +kernel), List.mem_of_getElem? (i := 1398) (by decide +kernel), List.mem_of_getElem? (i := 1399) (by decide +kernel)⟩
theorem lw_p66 : lw_okq (⟨"CourtProgressModel", "nameHere", "()I"⟩, 64) := ⟨⟨by decide +kernel, by decide +kernel⟩, List.mem_of_getElem? (i := 1020) (by decide +kernel), List.mem_of_getElem? (i := 1402) (by decide +kernel), List.mem_of_getElem? (i := 1403) (by decide +kernel)⟩
theorem lw_p67 : lw_okq (⟨"CourtProgressModel", "is", "(I)Z"⟩, 64) := ⟨⟨by decide +kernel, by decide +kernel⟩, List.mem_of_getElem? (i := 1020) (by decide +kernel), List.mem_of_getElem? (i := 1413) (by decide +kernel), List.mem_of_getElem? (i := 1414) (by decide +kernel)⟩
theorem lw_p68 : lw_okq (⟨"CourtProgressModel", "readTerm", "(I)V"⟩, 64) := ⟨⟨by decide +kernel, by decide +kernel⟩, List.mem_of_getElem? (i := 1020) (by decide +kernel), List.mem_of_getElem? (i := 1417) (by decide +kernel), List.mem_of_getElem? (i := 1418) (by decide +kernel)⟩
theorem lw_p69 : lw_okq (⟨"CourtProgressModel", "forceOf", "(I)I"⟩, 64) := ⟨⟨by decide +kernel, by decide +kernel⟩, List.mem_of_getElem? (i := 1020) (by decide +kernel), List.mem_of_getElem? (i := 1433) (by decide +kernel), List.mem_of_getElem? (i := 1434) (by decide +kernel)⟩
theorem lw_p70 : lw_okq (⟨"CourtProgressModel", "eatsOf", "(IIZ)I"⟩, 64) := ⟨⟨by decide +kernel, by decide +kernel⟩, List.mem_of_getElem? (i := 1020) (by decide +kernel), List.mem_of_getElem? (i := 1441) (by decide +kernel), List.mem_of_getElem? (i := 1442) (by decide +kernel)⟩
theorem lw_p71 : lw_okq (⟨"CourtProgressModel", "valueOf", "(III)I"⟩, 64) := ⟨⟨by decide +kernel, by decide +kernel⟩, List.mem_of_getElem? (i := 1020) (by decide +kernel), List.mem_of_getElem? (i := 1446) (by decide +kernel), List.mem_of_getElem? (i := 1447) (by decide +kernel)⟩
theorem lw_p72 : lw_okq (⟨"CourtProgressModel", "needOf", "(I)I"⟩, 64) := ⟨⟨by decide +kernel, by decide +kernel⟩, List.mem_of_getElem? (i := 1020) (by decide +kernel), List.mem_of_getElem? (i := 1454) (by decide +kernel), List.mem_of_getElem? (i := 1455) (by decide +kernel)⟩
theorem lw_p73 : lw_okq (⟨"CourtProgressModel", "whyOf", "(I)I"⟩, 64) := ⟨⟨by decide +kernel, by decide +kernel⟩, List.mem_of_getElem? (i := 1020) (by decide +kernel), List.mem_of_getElem? (i := 1463) (by decide +kernel), List.mem_of_getElem? (i := 1464) (by decide +kernel)⟩
theorem lw_p74 : lw_okq (⟨"CourtProgressModel", "lodges", "(IIIZZ)Z"⟩, 64) := ⟨⟨by decide +kernel, by decide +kernel⟩, List.mem_of_getElem? (i := 1020) (by decide +kernel), List.mem_of_getElem? (i := 1467) (by decide +kernel), List.mem_of_getElem? (i := 1468) (by decide +kernel)⟩
theorem lw_p75 : lw_okq (⟨"CourtProgressModel", "mayHave", "(IIIZ)Z"⟩, 64) := ⟨⟨by decide +kernel, by decide +kernel⟩, List.mem_of_getElem? (i := 1020) (by decide +kernel), List.mem_of_getElem? (i := 1471) (by decide +kernel), List.mem_of_getElem? (i := 1472) (by decide +kernel)⟩
theorem lw_p76 : lw_okq (⟨"CourtProgressModel", "spares", "(I)V"⟩, 64) := ⟨⟨by decide +kernel, by decide +kernel⟩, List.mem_of_getElem? (i := 1020) (by decide +kernel), List.mem_of_getElem? (i := 1475) (by decide +kernel), List.mem_of_getElem? (i := 1476) (by decide +kernel)⟩
theorem lw_p77 : lw_okq (⟨"CourtProgressModel", "rows", "(III)V"⟩, 64) := ⟨⟨by decide +kernel, by decide +kernel⟩, List.mem_of_getElem? (i := 1020) (by decide +kernel), List.mem_of_getElem? (i := 1493) (by decide +kernel), List.mem_of_getElem? (i := 1494) (by decide +kernel)⟩
theorem lw_p78 : lw_okq (⟨"CourtProgressModel", "leaves", "(IIII)I"⟩, 64) := ⟨⟨by decide +kernel, by decide +kernel⟩, List.mem_of_getElem? (i := 1020) (by decide +kernel), List.mem_of_getElem? (i := 1497) (by decide +kernel), List.mem_of_getElem? (i := 1498) (by decide +kernel)⟩
theorem lw_p79 : lw_okq (⟨"CourtProgressModel", "hoursOf", "(III)I"⟩, 64) := ⟨⟨by decide +kernel, by decide +kernel⟩, List.mem_of_getElem? (i := 1020) (by decide +kernel), List.mem_of_getElem? (i := 1501) (by decide +kernel), List.mem_of_getElem? (i := 1502) (by decide +kernel)⟩
def lw_privs_5 : List (MethodName × Nat) := [(⟨"CourtProgressModel", "stop", "(I)LCourtProgressModel$Stop;"⟩, 64), (⟨"CourtProgressModel", "readTest", "(I)V"⟩, 64), (⟨"CourtProgressModel", "nameHere", "()I"⟩, 64), (⟨"CourtProgressModel", "is", "(I)Z"⟩, 64), (⟨"CourtProgressModel", "readTerm", "(I)V"⟩, 64), (⟨"CourtProgressModel", "forceOf", "(I)I"⟩, 64), (⟨"CourtProgressModel", "eatsOf", "(IIZ)I"⟩, 64), (⟨"CourtProgressModel", "valueOf", "(III)I"⟩, 64), (⟨"CourtProgressModel", "needOf", "(I)I"⟩, 64), (⟨"CourtProgressModel", "whyOf", "(I)I"⟩, 64), (⟨"CourtProgressModel", "lodges", "(IIIZZ)Z"⟩, 64), (⟨"CourtProgressModel", "mayHave", "(IIIZ)Z"⟩, 64), (⟨"CourtProgressModel", "spares", "(I)V"⟩, 64), (⟨"CourtProgressModel", "rows", "(III)V"⟩, 64), (⟨"CourtProgressModel", "leaves", "(IIII)I"⟩, 64), (⟨"CourtProgressModel", "hoursOf", "(III)I"⟩, 64)]
theorem lw_r5 : ∀ q ∈ lw_privs_5, lw_okq q := List.forall_mem_cons.mpr ⟨lw_p64, List.forall_mem_cons.mpr ⟨lw_p65, List.forall_mem_cons.mpr ⟨lw_p66, List.forall_mem_cons.mpr ⟨lw_p67, List.forall_mem_cons.mpr ⟨lw_p68, List.forall_mem_cons.mpr ⟨lw_p69, List.forall_mem_cons.mpr ⟨lw_p70, List.forall_mem_cons.mpr ⟨lw_p71, List.forall_mem_cons.mpr ⟨lw_p72, List.forall_mem_cons.mpr ⟨lw_p73, List.forall_mem_cons.mpr ⟨lw_p74, List.forall_mem_cons.mpr ⟨lw_p75, List.forall_mem_cons.mpr ⟨lw_p76, List.forall_mem_cons.mpr ⟨lw_p77, List.forall_mem_cons.mpr ⟨lw_p78, List.forall_mem_cons.mpr ⟨lw_p79, fun _ h => absurd h List.not_mem_nil⟩⟩⟩⟩⟩⟩⟩⟩⟩⟩⟩⟩⟩⟩⟩⟩
theorem lw_p80 : lw_okq (⟨"CourtProgressModel", "mayBe", "(II)Z"⟩, 64) := ⟨⟨by decide +kernel, by decide +kernel⟩, List.mem_of_getElem? (i := 1020) (by decide +kernel), List.mem_of_getElem? (i := 1505) (by decide +kernel), List.mem_of_getElem? (i := 1506) (by decide +kernel)⟩
theorem lw_p81 : lw_okq (⟨"CourtProgressModel", "goesOn", "(IIIII)I"⟩, 64) := ⟨⟨by decide +kernel, by decide +kernel⟩, List.mem_of_getElem? (i := 1020) (by decide +kernel), List.mem_of_getElem? (i := 1509) (by decide +kernel), List.mem_of_getElem? (i := 1510) (by decide +kernel)⟩
theorem lw_p82 : lw_okq (⟨"CourtProgressModel", "nextOf", "(I)I"⟩, 64) := ⟨⟨by decide +kernel, by decide +kernel⟩, List.mem_of_getElem? (i := 1020) (by decide +kernel), List.mem_of_getElem? (i := 1545) (by decide +kernel), List.mem_of_getElem? (i := 1546) (by decide +kernel)⟩
def lw_privs_6 : List (MethodName × Nat) := [(⟨"CourtProgressModel", "mayBe", "(II)Z"⟩, 64), (⟨"CourtProgressModel", "goesOn", "(IIIII)I"⟩, 64), (⟨"CourtProgressModel", "nextOf", "(I)I"⟩, 64)]
theorem lw_r6 : ∀ q ∈ lw_privs_6, lw_okq q := List.forall_mem_cons.mpr ⟨lw_p80, List.forall_mem_cons.mpr ⟨lw_p81, List.forall_mem_cons.mpr ⟨lw_p82, fun _ h => absurd h List.not_mem_nil⟩⟩⟩
def lw_privs : List (MethodName × Nat) := lw_privs_1 ++ (lw_privs_2 ++ (lw_privs_3 ++ (lw_privs_4 ++ (lw_privs_5 ++ (lw_privs_6)))))
def lw_tbl : List Cond := k2_sels lw_privs ++ tables_1
theorem lw_privs_ok : ∀ q ∈ lw_privs, lw_okq q := by
  show ∀ q ∈ lw_privs_1 ++ (lw_privs_2 ++ (lw_privs_3 ++ (lw_privs_4 ++ (lw_privs_5 ++ (lw_privs_6))))), lw_okq q
  exact List.forall_mem_append.mpr ⟨lw_r1, List.forall_mem_append.mpr ⟨lw_r2, List.forall_mem_append.mpr ⟨lw_r3, List.forall_mem_append.mpr ⟨lw_r4, List.forall_mem_append.mpr ⟨lw_r5, lw_r6⟩⟩⟩⟩⟩

/-! ===== BEGIN words of one list among another's, by their places ===== -/
theorem goodIn_r {big : List Cond} (ws : List Cond) (ps : List Nat) (hp : ws = ps.filterMap (fun i => big[i]?)) (h : ws.all goodWord = true) : GoodIn big ws := by
  intro w hw
  have h1 := List.all_eq_true.mp h w hw
  rw [hp] at hw
  obtain ⟨i, -, hi⟩ := List.mem_filterMap.mp hw
  have hm : w ∈ big := by first | exact List.mem_of_getElem? hi | exact List.getElem?_mem hi
  exact ⟨hm, good_of_word h1⟩
theorem goodIn_app {big a b : List Cond} (ha : GoodIn big a) (hb : GoodIn big b) : GoodIn big (a ++ b) := fun w h => (List.mem_append.mp h).elim (ha w) (hb w)
theorem goodIn_ca {big a b : List Cond} {c : Cond} (ha : GoodIn big (c :: a)) (hb : GoodIn big b) : GoodIn big (c :: (a ++ b)) := fun w h => (List.mem_cons.mp h).elim (fun e => ha w (List.mem_cons.mpr (Or.inl e))) (fun h => (List.mem_append.mp h).elim (fun h => ha w (List.mem_cons.mpr (Or.inr h))) (hb w))
theorem goodIn_sub {big ws : List Cond} (hm : ∀ w ∈ ws, w ∈ big) (h : ws.all goodWord = true) : GoodIn big ws := fun w hw => ⟨hm w hw, good_of_word (List.all_eq_true.mp h w hw)⟩
/-! ===== END ===== -/

/-! ===== BEGIN printed: names, fields, word lists, decode rows ===== -/
def RX0 : String := "CourtProgress$Calendar"
def TX0 : u_T := fun k => match k with
  | 0 => ("CourtProgress$Calendar", "depth", "[I", true)
  | 1 => ("CourtProgress$Calendar", "feastPlace", "[I", true)
  | _ => ("CourtProgress$Calendar", "feasts", "I", false)
def tyX0 : Nat → FieldType := fun k => match k with
  | 0 => .array .int
  | 1 => .array .int
  | _ => .int
abbrev wsX00 : List Cond := u_ws RX0 TX0 3
theorem nmX0 : ∀ a, a < 3 → ∀ b, b < 3 → a ≠ b → (TX0 a).2.1 ≠ (TX0 b).2.1 := by decide +kernel
theorem tyX0_ok : ∀ k, k < 3 → parseFieldDescriptor (TX0 k).2.2.1 = some (tyX0 k) := by decide +kernel
abbrev cX0_init : ByteArray := prog_2_method_1_code
def yX0_init : MethodName := ⟨RX0, "<init>", "()V"⟩
abbrev cX0_setMud : ByteArray := prog_2_method_2_code
def yX0_setMud : MethodName := ⟨RX0, "setMud", "(III)V"⟩
abbrev cX0_mudOf : ByteArray := prog_2_method_3_code
def yX0_mudOf : MethodName := ⟨RX0, "mudOf", "(I)I"⟩
abbrev cX0_feastOf : ByteArray := prog_2_method_4_code
def yX0_feastOf : MethodName := ⟨RX0, "feastOf", "(I)I"⟩
abbrev cX0_hasRoomForFeast : ByteArray := prog_2_method_5_code
def yX0_hasRoomForFeast : MethodName := ⟨RX0, "hasRoomForFeast", "(I)Z"⟩
abbrev cX0_setFeast : ByteArray := prog_2_method_6_code
def yX0_setFeast : MethodName := ⟨RX0, "setFeast", "(II)V"⟩
def RX1 : String := "CourtProgress$Households"
def TX1 : u_T := fun k => match k with
  | 0 => ("CourtProgress$Households", "size", "I", false)
  | 1 => ("CourtProgress$Households", "ranks", "[I", true)
  | 2 => ("CourtProgress$Households", "mouths", "[I", true)
  | 3 => ("CourtProgress$Households", "horses", "[I", true)
  | _ => ("CourtProgress$Households", "barredFrom", "[I", true)
def tyX1 : Nat → FieldType := fun k => match k with
  | 0 => .int
  | 1 => .array .int
  | 2 => .array .int
  | 3 => .array .int
  | _ => .array .int
abbrev wsX10 : List Cond := u_ws RX1 TX1 5
theorem nmX1 : ∀ a, a < 5 → ∀ b, b < 5 → a ≠ b → (TX1 a).2.1 ≠ (TX1 b).2.1 := by decide +kernel
theorem tyX1_ok : ∀ k, k < 5 → parseFieldDescriptor (TX1 k).2.2.1 = some (tyX1 k) := by decide +kernel
abbrev cX1_init : ByteArray := prog_3_method_1_code
def yX1_init : MethodName := ⟨RX1, "<init>", "()V"⟩
abbrev cX1_has : ByteArray := prog_3_method_2_code
def yX1_has : MethodName := ⟨RX1, "has", "(I)Z"⟩
abbrev cX1_add : ByteArray := prog_3_method_3_code
def yX1_add : MethodName := ⟨RX1, "add", "(III)I"⟩
abbrev cX1_setBar : ByteArray := prog_3_method_4_code
def yX1_setBar : MethodName := ⟨RX1, "setBar", "(IIZ)V"⟩
abbrev cX1_ranksDiffer : ByteArray := prog_3_method_5_code
def yX1_ranksDiffer : MethodName := ⟨RX1, "ranksDiffer", "()Z"⟩
abbrev cX1_allHorses : ByteArray := prog_3_method_6_code
def yX1_allHorses : MethodName := ⟨RX1, "allHorses", "()I"⟩
def RX2 : String := "CourtProgress$Lodger"
def TX2 : u_T := fun k => match k with
  | 0 => ("CourtProgress$Lodger", "court", "LCourtProgress$Households;", true)
  | 1 => ("CourtProgress$Lodger", "land", "LCourtProgress$Places;", true)
  | 2 => ("CourtProgress$Lodger", "rooms", "I", false)
  | 3 => ("CourtProgress$Lodger", "roomAt", "[I", true)
  | 4 => ("CourtProgress$Lodger", "walkTo", "[I", true)
  | 5 => ("CourtProgress$Lodger", "sameHouse", "[I", true)
  | 6 => ("CourtProgress$Lodger", "noLess", "[I", true)
  | 7 => ("CourtProgress$Lodger", "noMore", "[I", true)
  | 8 => ("CourtProgress$Lodger", "twins", "[I", true)
  | 9 => ("CourtProgress$Lodger", "open", "[I", true)
  | 10 => ("CourtProgress$Lodger", "weight", "[I", true)
  | 11 => ("CourtProgress$Lodger", "heaviestFirst", "[I", true)
  | 12 => ("CourtProgress$Lodger", "spotOf", "[I", true)
  | 13 => ("CourtProgress$Lodger", "bestSpotOf", "[I", true)
  | 14 => ("CourtProgress$Lodger", "limit", "I", false)
  | _ => ("CourtProgress$Lodger", "enough", "I", false)
def tyX2 : Nat → FieldType := fun k => match k with
  | 0 => .object "CourtProgress$Households"
  | 1 => .object "CourtProgress$Places"
  | 2 => .int
  | 3 => .array .int
  | 4 => .array .int
  | 5 => .array .int
  | 6 => .array .int
  | 7 => .array .int
  | 8 => .array .int
  | 9 => .array .int
  | 10 => .array .int
  | 11 => .array .int
  | 12 => .array .int
  | 13 => .array .int
  | 14 => .int
  | _ => .int
abbrev wsX20 : List Cond := u_ws RX2 TX2 16
theorem nmX2 : ∀ a, a < 16 → ∀ b, b < 16 → a ≠ b → (TX2 a).2.1 ≠ (TX2 b).2.1 := by decide +kernel
theorem tyX2_ok : ∀ k, k < 16 → parseFieldDescriptor (TX2 k).2.2.1 = some (tyX2 k) := by decide +kernel
abbrev cX2_init : ByteArray := prog_4_method_1_code
def yX2_init : MethodName := ⟨RX2, "<init>", "(LCourtProgress$Households;LCourtProgress$Places;)V"⟩
abbrev cX2_roomOf : ByteArray := prog_4_method_2_code
def yX2_roomOf : MethodName := ⟨RX2, "roomOf", "(I)I"⟩
abbrev cX2_reasonAgainst : ByteArray := prog_4_method_3_code
def yX2_reasonAgainst : MethodName := ⟨RX2, "reasonAgainst", "(I)I"⟩
abbrev cX2_leastSum : ByteArray := prog_4_method_4_code
def yX2_leastSum : MethodName := ⟨RX2, "leastSum", "(I)I"⟩
abbrev cX2_isPossible : ByteArray := prog_4_method_5_code
def yX2_isPossible : MethodName := ⟨RX2, "isPossible", "(IZ)Z"⟩
abbrev cX2_everyone : ByteArray := prog_4_method_6_code
def yX2_everyone : MethodName := ⟨RX2, "everyone", "()I"⟩
abbrev cX2_prepare : ByteArray := prog_4_method_7_code
def yX2_prepare : MethodName := ⟨RX2, "prepare", "(IZZ)V"⟩
abbrev cX2_sortRooms : ByteArray := prog_4_method_8_code
def yX2_sortRooms : MethodName := ⟨RX2, "sortRooms", "(I)V"⟩
abbrev cX2_sortHouseholds : ByteArray := prog_4_method_9_code
def yX2_sortHouseholds : MethodName := ⟨RX2, "sortHouseholds", "()V"⟩
abbrev cX2_relate : ByteArray := prog_4_method_10_code
def yX2_relate : MethodName := ⟨RX2, "relate", "(IIZZ)V"⟩
abbrev cX2_bitIf : ByteArray := prog_4_method_11_code
def yX2_bitIf : MethodName := ⟨RX2, "bitIf", "(ZI)I"⟩
abbrev cX2_search : ByteArray := prog_4_method_12_code
def yX2_search : MethodName := ⟨RX2, "search", "(III)V"⟩
abbrev cX2_keep : ByteArray := prog_4_method_13_code
def yX2_keep : MethodName := ⟨RX2, "keep", "(I)V"⟩
abbrev cX2_choose : ByteArray := prog_4_method_14_code
def yX2_choose : MethodName := ⟨RX2, "choose", "(III)I"⟩
abbrev cX2_hardship : ByteArray := prog_4_method_15_code
def yX2_hardship : MethodName := ⟨RX2, "hardship", "(III)I"⟩
abbrev cX2_leastTogether : ByteArray := prog_4_method_16_code
def yX2_leastTogether : MethodName := ⟨RX2, "leastTogether", "(II)I"⟩
abbrev cX2_give : ByteArray := prog_4_method_17_code
def yX2_give : MethodName := ⟨RX2, "give", "(IIII)V"⟩
abbrev cX2_preferLesserRooms : ByteArray := prog_4_method_18_code
def yX2_preferLesserRooms : MethodName := ⟨RX2, "preferLesserRooms", "(I)V"⟩
abbrev cX2_findLesserRoom : ByteArray := prog_4_method_19_code
def yX2_findLesserRoom : MethodName := ⟨RX2, "findLesserRoom", "(IIII)V"⟩
abbrev cX2_spotOfRoom : ByteArray := prog_4_method_20_code
def yX2_spotOfRoom : MethodName := ⟨RX2, "spotOfRoom", "(I)I"⟩
def RX3 : String := "CourtProgress$Places"
def TX3 : u_T := fun k => match k with
  | 0 => ("CourtProgress$Places", "size", "I", false)
  | 1 => ("CourtProgress$Places", "store", "[I", true)
  | 2 => ("CourtProgress$Places", "owes", "[I", true)
  | 3 => ("CourtProgress$Places", "stalls", "[I", true)
  | 4 => ("CourtProgress$Places", "taken", "[I", true)
  | 5 => ("CourtProgress$Places", "daysEaten", "[I", true)
  | 6 => ("CourtProgress$Places", "rooms", "[I", true)
  | 7 => ("CourtProgress$Places", "worths", "[I", true)
  | 8 => ("CourtProgress$Places", "houses", "[I", true)
  | 9 => ("CourtProgress$Places", "walks", "[I", true)
  | _ => ("CourtProgress$Places", "ways", "[I", true)
def tyX3 : Nat → FieldType := fun k => match k with
  | 0 => .int
  | 1 => .array .int
  | 2 => .array .int
  | 3 => .array .int
  | 4 => .array .int
  | 5 => .array .int
  | 6 => .array .int
  | 7 => .array .int
  | 8 => .array .int
  | 9 => .array .int
  | _ => .array .int
abbrev wsX30 : List Cond := u_ws RX3 TX3 11
theorem nmX3 : ∀ a, a < 11 → ∀ b, b < 11 → a ≠ b → (TX3 a).2.1 ≠ (TX3 b).2.1 := by decide +kernel
theorem tyX3_ok : ∀ k, k < 11 → parseFieldDescriptor (TX3 k).2.2.1 = some (tyX3 k) := by decide +kernel
abbrev cX3_init : ByteArray := prog_5_method_1_code
def yX3_init : MethodName := ⟨RX3, "<init>", "()V"⟩
abbrev cX3_has : ByteArray := prog_5_method_2_code
def yX3_has : MethodName := ⟨RX3, "has", "(I)Z"⟩
abbrev cX3_add : ByteArray := prog_5_method_3_code
def yX3_add : MethodName := ⟨RX3, "add", "(III)I"⟩
abbrev cX3_addRoom : ByteArray := prog_5_method_4_code
def yX3_addRoom : MethodName := ⟨RX3, "addRoom", "(IIII)I"⟩
abbrev cX3_setWay : ByteArray := prog_5_method_5_code
def yX3_setWay : MethodName := ⟨RX3, "setWay", "(III)V"⟩
abbrev cX3_hoursOn : ByteArray := prog_5_method_6_code
def yX3_hoursOn : MethodName := ⟨RX3, "hoursOn", "(III)I"⟩
abbrev cX3_supply : ByteArray := prog_5_method_7_code
def yX3_supply : MethodName := ⟨RX3, "supply", "(I)I"⟩
abbrev cX3_take : ByteArray := prog_5_method_8_code
def yX3_take : MethodName := ⟨RX3, "take", "(II)I"⟩
abbrev cX3_fact : ByteArray := prog_5_method_9_code
def yX3_fact : MethodName := ⟨RX3, "fact", "(II)I"⟩
def RX4 : String := "CourtProgress$Pleas"
def TX4 : u_T := fun k => match k with
  | 0 => ("CourtProgress$Pleas", "size", "I", false)
  | 1 => ("CourtProgress$Pleas", "waitingSize", "I", false)
  | 2 => ("CourtProgress$Pleas", "urgency", "[I", true)
  | 3 => ("CourtProgress$Pleas", "heardOn", "[I", true)
  | _ => ("CourtProgress$Pleas", "waiting", "[I", true)
def tyX4 : Nat → FieldType := fun k => match k with
  | 0 => .int
  | 1 => .int
  | 2 => .array .int
  | 3 => .array .int
  | _ => .array .int
abbrev wsX40 : List Cond := u_ws RX4 TX4 5
theorem nmX4 : ∀ a, a < 5 → ∀ b, b < 5 → a ≠ b → (TX4 a).2.1 ≠ (TX4 b).2.1 := by decide +kernel
theorem tyX4_ok : ∀ k, k < 5 → parseFieldDescriptor (TX4 k).2.2.1 = some (tyX4 k) := by decide +kernel
abbrev cX4_init : ByteArray := prog_6_method_1_code
def yX4_init : MethodName := ⟨RX4, "<init>", "()V"⟩
abbrev cX4_add : ByteArray := prog_6_method_2_code
def yX4_add : MethodName := ⟨RX4, "add", "(II)I"⟩
abbrev cX4_hearFirst : ByteArray := prog_6_method_3_code
def yX4_hearFirst : MethodName := ⟨RX4, "hearFirst", "(II)I"⟩
abbrev cX4_dayHeard : ByteArray := prog_6_method_4_code
def yX4_dayHeard : MethodName := ⟨RX4, "dayHeard", "(I)I"⟩
abbrev cX4_inTurn : ByteArray := prog_6_method_5_code
def yX4_inTurn : MethodName := ⟨RX4, "inTurn", "(I)I"⟩
def RX5 : String := "CourtProgress$Router"
def TX5 : u_T := fun k => match k with
  | 0 => ("CourtProgress$Router", "land", "LCourtProgress$Places;", true)
  | 1 => ("CourtProgress$Router", "calendar", "LCourtProgress$Calendar;", true)
  | 2 => ("CourtProgress$Router", "statutes", "LCourtProgress$Statutes;", true)
  | 3 => ("CourtProgress$Router", "first", "I", false)
  | 4 => ("CourtProgress$Router", "end", "I", false)
  | 5 => ("CourtProgress$Router", "start", "I", false)
  | 6 => ("CourtProgress$Router", "needs", "[I", true)
  | 7 => ("CourtProgress$Router", "muds", "[I", true)
  | 8 => ("CourtProgress$Router", "rowEnds", "[I", true)
  | 9 => ("CourtProgress$Router", "known", "[I", false)
  | 10 => ("CourtProgress$Router", "mark", "I", false)
  | 11 => ("CourtProgress$Router", "stops", "[I", true)
  | 12 => ("CourtProgress$Router", "firstTold", "I", false)
  | _ => ("CourtProgress$Router", "lastTold", "I", false)
def tyX5 : Nat → FieldType := fun k => match k with
  | 0 => .object "CourtProgress$Places"
  | 1 => .object "CourtProgress$Calendar"
  | 2 => .object "CourtProgress$Statutes"
  | 3 => .int
  | 4 => .int
  | 5 => .int
  | 6 => .array .int
  | 7 => .array .int
  | 8 => .array .int
  | 9 => .array .int
  | 10 => .int
  | 11 => .array .int
  | 12 => .int
  | _ => .int
abbrev wsX50 : List Cond := u_ws RX5 TX5 14
theorem nmX5 : ∀ a, a < 14 → ∀ b, b < 14 → a ≠ b → (TX5 a).2.1 ≠ (TX5 b).2.1 := by decide +kernel
theorem tyX5_ok : ∀ k, k < 14 → parseFieldDescriptor (TX5 k).2.2.1 = some (tyX5 k) := by decide +kernel
abbrev cX5_init : ByteArray := prog_7_method_1_code
def yX5_init : MethodName := ⟨RX5, "<init>", "(LCourtProgress$Places;LCourtProgress$Calendar;LCourtProgress$Statutes;)V"⟩
abbrev cX5_stopOn : ByteArray := prog_7_method_2_code
def yX5_stopOn : MethodName := ⟨RX5, "stopOn", "(I)I"⟩
abbrev cX5_leastHours : ByteArray := prog_7_method_3_code
def yX5_leastHours : MethodName := ⟨RX5, "leastHours", "(III)I"⟩
abbrev cX5_measureRows : ByteArray := prog_7_method_4_code
def yX5_measureRows : MethodName := ⟨RX5, "measureRows", "()V"⟩
abbrev cX5_rowEnd : ByteArray := prog_7_method_5_code
def yX5_rowEnd : MethodName := ⟨RX5, "rowEnd", "(II)I"⟩
abbrev cX5_mayBeAt : ByteArray := prog_7_method_6_code
def yX5_mayBeAt : MethodName := ⟨RX5, "mayBeAt", "(II)Z"⟩
abbrev cX5_makeRoom : ByteArray := prog_7_method_7_code
def yX5_makeRoom : MethodName := ⟨RX5, "makeRoom", "()V"⟩
abbrev cX5_leastOnward : ByteArray := prog_7_method_8_code
def yX5_leastOnward : MethodName := ⟨RX5, "leastOnward", "(IIII)I"⟩
abbrev cX5_leastLeaving : ByteArray := prog_7_method_9_code
def yX5_leastLeaving : MethodName := ⟨RX5, "leastLeaving", "(III)I"⟩
abbrev cX5_leastBy : ByteArray := prog_7_method_10_code
def yX5_leastBy : MethodName := ⟨RX5, "leastBy", "(IIIII)I"⟩
abbrev cX5_leastFrom : ByteArray := prog_7_method_11_code
def yX5_leastFrom : MethodName := ⟨RX5, "leastFrom", "(III)I"⟩
abbrev cX5_slotOf : ByteArray := prog_7_method_12_code
def yX5_slotOf : MethodName := ⟨RX5, "slotOf", "(III)I"⟩
abbrev cX5_trace : ByteArray := prog_7_method_13_code
def yX5_trace : MethodName := ⟨RX5, "trace", "(I)V"⟩
abbrev cX5_leastNext : ByteArray := prog_7_method_14_code
def yX5_leastNext : MethodName := ⟨RX5, "leastNext", "(IIIII)I"⟩
def RX6 : String := "CourtProgress$Scribe"
def TX6 : u_T := fun k => match k with
  | 0 => ("CourtProgress$Scribe", "tape", "LCourtProgress$Tape;", true)
  | 1 => ("CourtProgress$Scribe", "draft", "LCourtProgress$Statutes;", true)
  | 2 => ("CourtProgress$Scribe", "faultKind", "I", false)
  | 3 => ("CourtProgress$Scribe", "cursor", "I", false)
  | _ => ("CourtProgress$Scribe", "token", "I", false)
def tyX6 : Nat → FieldType := fun k => match k with
  | 0 => .object "CourtProgress$Tape"
  | 1 => .object "CourtProgress$Statutes"
  | 2 => .int
  | 3 => .int
  | _ => .int
abbrev wsX60 : List Cond := u_ws RX6 TX6 5
theorem nmX6 : ∀ a, a < 5 → ∀ b, b < 5 → a ≠ b → (TX6 a).2.1 ≠ (TX6 b).2.1 := by decide +kernel
theorem tyX6_ok : ∀ k, k < 5 → parseFieldDescriptor (TX6 k).2.2.1 = some (tyX6 k) := by decide +kernel
abbrev cX6_init : ByteArray := prog_8_method_1_code
def yX6_init : MethodName := ⟨RX6, "<init>", "(LCourtProgress$Tape;LCourtProgress$Statutes;)V"⟩
abbrev cX6_reads : ByteArray := prog_8_method_2_code
def yX6_reads : MethodName := ⟨RX6, "reads", "()Z"⟩
abbrev cX6_faultPlace : ByteArray := prog_8_method_3_code
def yX6_faultPlace : MethodName := ⟨RX6, "faultPlace", "()I"⟩
abbrev cX6_readRule : ByteArray := prog_8_method_4_code
def yX6_readRule : MethodName := ⟨RX6, "readRule", "(I)Z"⟩
abbrev cX6_readTests : ByteArray := prog_8_method_5_code
def yX6_readTests : MethodName := ⟨RX6, "readTests", "()Z"⟩
abbrev cX6_readTest : ByteArray := prog_8_method_6_code
def yX6_readTest : MethodName := ⟨RX6, "readTest", "()Z"⟩
abbrev cX6_readSum : ByteArray := prog_8_method_7_code
def yX6_readSum : MethodName := ⟨RX6, "readSum", "()Z"⟩
abbrev cX6_readTerm : ByteArray := prog_8_method_8_code
def yX6_readTerm : MethodName := ⟨RX6, "readTerm", "()Z"⟩
abbrev cX6_advance : ByteArray := prog_8_method_9_code
def yX6_advance : MethodName := ⟨RX6, "advance", "()V"⟩
abbrev cX6_isNumber : ByteArray := prog_8_method_10_code
def yX6_isNumber : MethodName := ⟨RX6, "isNumber", "()Z"⟩
abbrev cX6_isName : ByteArray := prog_8_method_11_code
def yX6_isName : MethodName := ⟨RX6, "isName", "()Z"⟩
abbrev cX6_failWithoutName : ByteArray := prog_8_method_12_code
def yX6_failWithoutName : MethodName := ⟨RX6, "failWithoutName", "()Z"⟩
abbrev cX6_fail : ByteArray := prog_8_method_13_code
def yX6_fail : MethodName := ⟨RX6, "fail", "(I)Z"⟩
def RX7 : String := "CourtProgress$Statutes"
def TX7 : u_T := fun k => match k with
  | 0 => ("CourtProgress$Statutes", "court", "LCourtProgress$Households;", true)
  | 1 => ("CourtProgress$Statutes", "calendar", "LCourtProgress$Calendar;", true)
  | 2 => ("CourtProgress$Statutes", "size", "I", false)
  | 3 => ("CourtProgress$Statutes", "firstDay", "[I", true)
  | 4 => ("CourtProgress$Statutes", "ruleCount", "[I", true)
  | 5 => ("CourtProgress$Statutes", "rules", "[I", true)
  | 6 => ("CourtProgress$Statutes", "draftRow", "I", false)
  | _ => ("CourtProgress$Statutes", "values", "[I", true)
def tyX7 : Nat → FieldType := fun k => match k with
  | 0 => .object "CourtProgress$Households"
  | 1 => .object "CourtProgress$Calendar"
  | 2 => .int
  | 3 => .array .int
  | 4 => .array .int
  | 5 => .array .int
  | 6 => .int
  | _ => .array .int
abbrev wsX70 : List Cond := u_ws RX7 TX7 8
theorem nmX7 : ∀ a, a < 8 → ∀ b, b < 8 → a ≠ b → (TX7 a).2.1 ≠ (TX7 b).2.1 := by decide +kernel
theorem tyX7_ok : ∀ k, k < 8 → parseFieldDescriptor (TX7 k).2.2.1 = some (tyX7 k) := by decide +kernel
abbrev cX7_init : ByteArray := prog_9_method_1_code
def yX7_init : MethodName := ⟨RX7, "<init>", "(LCourtProgress$Households;LCourtProgress$Calendar;)V"⟩
abbrev cX7_beginDraft : ByteArray := prog_9_method_2_code
def yX7_beginDraft : MethodName := ⟨RX7, "beginDraft", "()V"⟩
abbrev cX7_draftRule : ByteArray := prog_9_method_3_code
def yX7_draftRule : MethodName := ⟨RX7, "draftRule", "()V"⟩
abbrev cX7_draftKind : ByteArray := prog_9_method_4_code
def yX7_draftKind : MethodName := ⟨RX7, "draftKind", "(Z)V"⟩
abbrev cX7_draftTest : ByteArray := prog_9_method_5_code
def yX7_draftTest : MethodName := ⟨RX7, "draftTest", "(III)V"⟩
abbrev cX7_draftTerm : ByteArray := prog_9_method_6_code
def yX7_draftTerm : MethodName := ⟨RX7, "draftTerm", "(II)V"⟩
abbrev cX7_enact : ByteArray := prog_9_method_7_code
def yX7_enact : MethodName := ⟨RX7, "enact", "(I)I"⟩
abbrev cX7_inForce : ByteArray := prog_9_method_8_code
def yX7_inForce : MethodName := ⟨RX7, "inForce", "(I)I"⟩
abbrev cX7_portion : ByteArray := prog_9_method_9_code
def yX7_portion : MethodName := ⟨RX7, "portion", "(IIZ)I"⟩
abbrev cX7_needOf : ByteArray := prog_9_method_10_code
def yX7_needOf : MethodName := ⟨RX7, "needOf", "(I)I"⟩
abbrev cX7_setDay : ByteArray := prog_9_method_11_code
def yX7_setDay : MethodName := ⟨RX7, "setDay", "(I)V"⟩
abbrev cX7_setHousehold : ByteArray := prog_9_method_12_code
def yX7_setHousehold : MethodName := ⟨RX7, "setHousehold", "(I)V"⟩
abbrev cX7_firstSum : ByteArray := prog_9_method_13_code
def yX7_firstSum : MethodName := ⟨RX7, "firstSum", "(II)I"⟩
abbrev cX7_testsHold : ByteArray := prog_9_method_14_code
def yX7_testsHold : MethodName := ⟨RX7, "testsHold", "(I)Z"⟩
abbrev cX7_sumOf : ByteArray := prog_9_method_15_code
def yX7_sumOf : MethodName := ⟨RX7, "sumOf", "(I)I"⟩
abbrev cX7_valueOf : ByteArray := prog_9_method_16_code
def yX7_valueOf : MethodName := ⟨RX7, "valueOf", "(I)I"⟩
abbrev cX7_rowOf : ByteArray := prog_9_method_17_code
def yX7_rowOf : MethodName := ⟨RX7, "rowOf", "(II)I"⟩
def RX8 : String := "CourtProgress$Tape"
def TX8 : u_T := fun k => match k with
  | 0 => ("CourtProgress$Tape", "size", "I", false)
  | 1 => ("CourtProgress$Tape", "bytes", "[I", true)
  | 2 => ("CourtProgress$Tape", "length", "I", false)
  | 3 => ("CourtProgress$Tape", "tokenCount", "I", false)
  | 4 => ("CourtProgress$Tape", "tokens", "[I", true)
  | _ => ("CourtProgress$Tape", "tokenPlaces", "[I", true)
def tyX8 : Nat → FieldType := fun k => match k with
  | 0 => .int
  | 1 => .array .int
  | 2 => .int
  | 3 => .int
  | 4 => .array .int
  | _ => .array .int
abbrev wsX80 : List Cond := u_ws RX8 TX8 6
theorem nmX8 : ∀ a, a < 6 → ∀ b, b < 6 → a ≠ b → (TX8 a).2.1 ≠ (TX8 b).2.1 := by decide +kernel
theorem tyX8_ok : ∀ k, k < 6 → parseFieldDescriptor (TX8 k).2.2.1 = some (tyX8 k) := by decide +kernel
abbrev cX8_init : ByteArray := prog_10_method_1_code
def yX8_init : MethodName := ⟨RX8, "<init>", "()V"⟩
abbrev cX8_hasRoom : ByteArray := prog_10_method_2_code
def yX8_hasRoom : MethodName := ⟨RX8, "hasRoom", "()Z"⟩
abbrev cX8_append : ByteArray := prog_10_method_3_code
def yX8_append : MethodName := ⟨RX8, "append", "(I)V"⟩
abbrev cX8_tokenAt : ByteArray := prog_10_method_4_code
def yX8_tokenAt : MethodName := ⟨RX8, "tokenAt", "(I)I"⟩
abbrev cX8_placeAt : ByteArray := prog_10_method_5_code
def yX8_placeAt : MethodName := ⟨RX8, "placeAt", "(I)I"⟩
abbrev cX8_scan : ByteArray := prog_10_method_6_code
def yX8_scan : MethodName := ⟨RX8, "scan", "(I)V"⟩
abbrev cX8_skipBlanks : ByteArray := prog_10_method_7_code
def yX8_skipBlanks : MethodName := ⟨RX8, "skipBlanks", "(I)I"⟩
abbrev cX8_tokenEnd : ByteArray := prog_10_method_8_code
def yX8_tokenEnd : MethodName := ⟨RX8, "tokenEnd", "(I)I"⟩
abbrev cX8_tokenOf : ByteArray := prog_10_method_9_code
def yX8_tokenOf : MethodName := ⟨RX8, "tokenOf", "(II)I"⟩
abbrev cX8_numberOf : ByteArray := prog_10_method_10_code
def yX8_numberOf : MethodName := ⟨RX8, "numberOf", "(II)I"⟩
abbrev cX8_wordOf : ByteArray := prog_10_method_11_code
def yX8_wordOf : MethodName := ⟨RX8, "wordOf", "(II)I"⟩
abbrev cX8_spells : ByteArray := prog_10_method_12_code
def yX8_spells : MethodName := ⟨RX8, "spells", "(Ljava/lang/String;II)Z"⟩
abbrev cX8_isLetter : ByteArray := prog_10_method_13_code
def yX8_isLetter : MethodName := ⟨RX8, "isLetter", "(I)Z"⟩
abbrev cX8_isDigit : ByteArray := prog_10_method_14_code
def yX8_isDigit : MethodName := ⟨RX8, "isDigit", "(I)Z"⟩
abbrev cX8_isSign : ByteArray := prog_10_method_15_code
def yX8_isSign : MethodName := ⟨RX8, "isSign", "(I)Z"⟩
def RX9 : String := "CourtProgress"
def TX9 : u_T := fun k => match k with
  | 0 => ("CourtProgress", "court", "LCourtProgress$Households;", true)
  | 1 => ("CourtProgress", "land", "LCourtProgress$Places;", true)
  | 2 => ("CourtProgress", "calendar", "LCourtProgress$Calendar;", true)
  | 3 => ("CourtProgress", "statutes", "LCourtProgress$Statutes;", true)
  | 4 => ("CourtProgress", "tape", "LCourtProgress$Tape;", true)
  | 5 => ("CourtProgress", "scribe", "LCourtProgress$Scribe;", true)
  | 6 => ("CourtProgress", "lodger", "LCourtProgress$Lodger;", true)
  | 7 => ("CourtProgress", "router", "LCourtProgress$Router;", true)
  | 8 => ("CourtProgress", "pleas", "LCourtProgress$Pleas;", true)
  | 9 => ("CourtProgress", "lodgedIn", "[I", true)
  | 10 => ("CourtProgress", "placeOn", "[I", true)
  | 11 => ("CourtProgress", "lackedOn", "[I", true)
  | 12 => ("CourtProgress", "today", "I", false)
  | 13 => ("CourtProgress", "here", "I", false)
  | _ => ("CourtProgress", "refusal", "I", false)
def tyX9 : Nat → FieldType := fun k => match k with
  | 0 => .object "CourtProgress$Households"
  | 1 => .object "CourtProgress$Places"
  | 2 => .object "CourtProgress$Calendar"
  | 3 => .object "CourtProgress$Statutes"
  | 4 => .object "CourtProgress$Tape"
  | 5 => .object "CourtProgress$Scribe"
  | 6 => .object "CourtProgress$Lodger"
  | 7 => .object "CourtProgress$Router"
  | 8 => .object "CourtProgress$Pleas"
  | 9 => .array .int
  | 10 => .array .int
  | 11 => .array .int
  | 12 => .int
  | 13 => .int
  | _ => .int
abbrev wsX90 : List Cond := u_ws RX9 TX9 15
theorem nmX9 : ∀ a, a < 15 → ∀ b, b < 15 → a ≠ b → (TX9 a).2.1 ≠ (TX9 b).2.1 := by decide +kernel
theorem tyX9_ok : ∀ k, k < 15 → parseFieldDescriptor (TX9 k).2.2.1 = some (tyX9 k) := by decide +kernel
abbrev cX9_init : ByteArray := prog_1_method_1_code
def yX9_init : MethodName := ⟨RX9, "<init>", "()V"⟩
abbrev cX9_household : ByteArray := prog_1_method_2_code
def yX9_household : MethodName := ⟨RX9, "household", "(III)I"⟩
abbrev cX9_bar : ByteArray := prog_1_method_3_code
def yX9_bar : MethodName := ⟨RX9, "bar", "(IIZ)Z"⟩
abbrev cX9_place : ByteArray := prog_1_method_4_code
def yX9_place : MethodName := ⟨RX9, "place", "(III)I"⟩
abbrev cX9_room : ByteArray := prog_1_method_5_code
def yX9_room : MethodName := ⟨RX9, "room", "(IIII)I"⟩
abbrev cX9_way : ByteArray := prog_1_method_6_code
def yX9_way : MethodName := ⟨RX9, "way", "(III)Z"⟩
abbrev cX9_mud : ByteArray := prog_1_method_7_code
def yX9_mud : MethodName := ⟨RX9, "mud", "(III)Z"⟩
abbrev cX9_feast : ByteArray := prog_1_method_8_code
def yX9_feast : MethodName := ⟨RX9, "feast", "(II)Z"⟩
abbrev cX9_bring : ByteArray := prog_1_method_9_code
def yX9_bring : MethodName := ⟨RX9, "bring", "(III)Z"⟩
abbrev cX9_feed : ByteArray := prog_1_method_10_code
def yX9_feed : MethodName := ⟨RX9, "feed", "(IIIII)I"⟩
abbrev cX9_ordinance : ByteArray := prog_1_method_11_code
def yX9_ordinance : MethodName := ⟨RX9, "ordinance", "(II)I"⟩
abbrev cX9_fault : ByteArray := prog_1_method_12_code
def yX9_fault : MethodName := ⟨RX9, "fault", "()I"⟩
abbrev cX9_where : ByteArray := prog_1_method_13_code
def yX9_where : MethodName := ⟨RX9, "where", "()I"⟩
abbrev cX9_force : ByteArray := prog_1_method_14_code
def yX9_force : MethodName := ⟨RX9, "force", "(I)I"⟩
abbrev cX9_eats : ByteArray := prog_1_method_15_code
def yX9_eats : MethodName := ⟨RX9, "eats", "(IIZ)I"⟩
abbrev cX9_need : ByteArray := prog_1_method_16_code
def yX9_need : MethodName := ⟨RX9, "need", "(I)I"⟩
abbrev cX9_lodge : ByteArray := prog_1_method_17_code
def yX9_lodge : MethodName := ⟨RX9, "lodge", "(I)I"⟩
abbrev cX9_lodged : ByteArray := prog_1_method_18_code
def yX9_lodged : MethodName := ⟨RX9, "lodged", "(I)I"⟩
abbrev cX9_why : ByteArray := prog_1_method_19_code
def yX9_why : MethodName := ⟨RX9, "why", "(I)I"⟩
abbrev cX9_route : ByteArray := prog_1_method_20_code
def yX9_route : MethodName := ⟨RX9, "route", "(I)I"⟩
abbrev cX9_at : ByteArray := prog_1_method_21_code
def yX9_at : MethodName := ⟨RX9, "at", "(I)I"⟩
abbrev cX9_lasts : ByteArray := prog_1_method_22_code
def yX9_lasts : MethodName := ⟨RX9, "lasts", "()I"⟩
abbrev cX9_step : ByteArray := prog_1_method_23_code
def yX9_step : MethodName := ⟨RX9, "step", "(I)I"⟩
abbrev cX9_about : ByteArray := prog_1_method_24_code
def yX9_about : MethodName := ⟨RX9, "about", "(II)I"⟩
abbrev cX9_was : ByteArray := prog_1_method_25_code
def yX9_was : MethodName := ⟨RX9, "was", "(I)I"⟩
abbrev cX9_lacked : ByteArray := prog_1_method_26_code
def yX9_lacked : MethodName := ⟨RX9, "lacked", "(I)I"⟩
abbrev cX9_plea : ByteArray := prog_1_method_27_code
def yX9_plea : MethodName := ⟨RX9, "plea", "(I)I"⟩
abbrev cX9_hear : ByteArray := prog_1_method_28_code
def yX9_hear : MethodName := ⟨RX9, "hear", "(I)I"⟩
abbrev cX9_heard : ByteArray := prog_1_method_29_code
def yX9_heard : MethodName := ⟨RX9, "heard", "(I)I"⟩
abbrev cX9_next : ByteArray := prog_1_method_30_code
def yX9_next : MethodName := ⟨RX9, "next", "(I)I"⟩
abbrev cX9_count : ByteArray := prog_1_method_31_code
def yX9_count : MethodName := ⟨RX9, "count", "(I)I"⟩
abbrev cX9_trouble : ByteArray := prog_1_method_32_code
def yX9_trouble : MethodName := ⟨RX9, "trouble", "()I"⟩
abbrev cX9_refuse : ByteArray := prog_1_method_33_code
def yX9_refuse : MethodName := ⟨RX9, "refuse", "(I)I"⟩
abbrev cX9_grant : ByteArray := prog_1_method_34_code
def yX9_grant : MethodName := ⟨RX9, "grant", "(I)I"⟩
abbrev cX9_deny : ByteArray := prog_1_method_35_code
def yX9_deny : MethodName := ⟨RX9, "deny", "(I)Z"⟩
abbrev cX9_allow : ByteArray := prog_1_method_36_code
def yX9_allow : MethodName := ⟨RX9, "allow", "()Z"⟩
abbrev cX9_isPast : ByteArray := prog_1_method_37_code
def yX9_isPast : MethodName := ⟨RX9, "isPast", "(I)Z"⟩
abbrev cX9_isDay : ByteArray := prog_1_method_38_code
def yX9_isDay : MethodName := ⟨RX9, "isDay", "(I)Z"⟩
abbrev cX9_isWithin : ByteArray := prog_1_method_39_code
def yX9_isWithin : MethodName := ⟨RX9, "isWithin", "(III)Z"⟩
abbrev cX9_lowestIn : ByteArray := prog_1_method_40_code
def yX9_lowestIn : MethodName := ⟨RX9, "lowestIn", "(I)I"⟩
def RX10 : String := "CourtProgressModel$Stop"
def TX10 : u_T := fun k => match k with
  | 0 => ("java/lang/Throwable", "cause", "Ljava/lang/Throwable;", false)
  | 1 => ("java/lang/Throwable", "stackTrace", "[Ljava/lang/StackTraceElement;", false)
  | 2 => ("java/lang/Throwable", "suppressedExceptions", "Ljava/util/List;", false)
  | 3 => ("java/lang/Throwable", "detailMessage", "Ljava/lang/String;", false)
  | 4 => ("java/lang/Throwable", "backtrace", "Ljava/lang/Object;", false)
  | 5 => ("java/lang/Throwable", "depth", "I", false)
  | 6 => ("CourtProgressModel$Stop", "kind", "I", false)
  | _ => ("CourtProgressModel$Stop", "place", "I", false)
def tyX10 : Nat → FieldType := fun k => match k with
  | 0 => .object "java/lang/Throwable"
  | 1 => .array (.object "java/lang/StackTraceElement")
  | 2 => .object "java/util/List"
  | 3 => .object "java/lang/String"
  | 4 => .object "java/lang/Object"
  | 5 => .int
  | 6 => .int
  | _ => .int
abbrev wsX100 : List Cond := u_ws RX10 TX10 8
theorem nmX10 : ∀ a, a < 8 → ∀ b, b < 8 → a ≠ b → (TX10 a).2.1 ≠ (TX10 b).2.1 := by decide +kernel
theorem tyX10_ok : ∀ k, k < 8 → parseFieldDescriptor (TX10 k).2.2.1 = some (tyX10 k) := by decide +kernel
abbrev cX10_init : ByteArray := prog_13_method_1_code
def yX10_init : MethodName := ⟨RX10, "<init>", "()V"⟩
def RX11 : String := "CourtProgressModel"
def TX11 : u_T := fun k => match k with
  | 0 => ("CourtProgressModel", "thrown", "I", false)
  | 1 => ("CourtProgressModel", "trouble", "I", false)
  | 2 => ("CourtProgressModel", "where", "I", false)
  | 3 => ("CourtProgressModel", "fault", "I", false)
  | 4 => ("CourtProgressModel", "households", "I", false)
  | 5 => ("CourtProgressModel", "places", "I", false)
  | 6 => ("CourtProgressModel", "feasts", "I", false)
  | 7 => ("CourtProgressModel", "pleas", "I", false)
  | 8 => ("CourtProgressModel", "today", "I", false)
  | 9 => ("CourtProgressModel", "here", "I", false)
  | 10 => ("CourtProgressModel", "rank", "[I", true)
  | 11 => ("CourtProgressModel", "mouths", "[I", true)
  | 12 => ("CourtProgressModel", "horses", "[I", true)
  | 13 => ("CourtProgressModel", "bars", "[I", true)
  | 14 => ("CourtProgressModel", "store", "[I", true)
  | 15 => ("CourtProgressModel", "owes", "[I", true)
  | 16 => ("CourtProgressModel", "stalls", "[I", true)
  | 17 => ("CourtProgressModel", "tally", "[I", true)
  | 18 => ("CourtProgressModel", "eaten", "[I", true)
  | 19 => ("CourtProgressModel", "rooms", "[I", true)
  | 20 => ("CourtProgressModel", "worth", "[I", true)
  | 21 => ("CourtProgressModel", "house", "[I", true)
  | 22 => ("CourtProgressModel", "walk", "[I", true)
  | 23 => ("CourtProgressModel", "way", "[I", true)
  | 24 => ("CourtProgressModel", "mud", "[I", true)
  | 25 => ("CourtProgressModel", "feastAt", "[I", true)
  | 26 => ("CourtProgressModel", "wasAt", "[I", true)
  | 27 => ("CourtProgressModel", "lackedOn", "[I", true)
  | 28 => ("CourtProgressModel", "pleaWorth", "[I", true)
  | 29 => ("CourtProgressModel", "pleaCame", "[I", true)
  | 30 => ("CourtProgressModel", "pleaHeard", "[I", true)
  | 31 => ("CourtProgressModel", "stop", "LCourtProgressModel$Stop;", true)
  | 32 => ("CourtProgressModel", "tape", "[B", true)
  | 33 => ("CourtProgressModel", "taped", "I", false)
  | 34 => ("CourtProgressModel", "size", "I", false)
  | 35 => ("CourtProgressModel", "at", "I", false)
  | 36 => ("CourtProgressModel", "sort", "I", false)
  | 37 => ("CourtProgressModel", "place", "I", false)
  | 38 => ("CourtProgressModel", "sign", "I", false)
  | 39 => ("CourtProgressModel", "number", "I", false)
  | 40 => ("CourtProgressModel", "word", "J", false)
  | 41 => ("CourtProgressModel", "ordinances", "I", false)
  | 42 => ("CourtProgressModel", "since", "[I", true)
  | 43 => ("CourtProgressModel", "rules", "[I", true)
  | 44 => ("CourtProgressModel", "tests", "[I", true)
  | 45 => ("CourtProgressModel", "terms", "[I", true)
  | 46 => ("CourtProgressModel", "feeds", "[Z", true)
  | 47 => ("CourtProgressModel", "testName", "[I", true)
  | 48 => ("CourtProgressModel", "testSign", "[I", true)
  | 49 => ("CourtProgressModel", "testNumber", "[I", true)
  | 50 => ("CourtProgressModel", "termName", "[I", true)
  | 51 => ("CourtProgressModel", "termTimes", "[I", true)
  | 52 => ("CourtProgressModel", "bestSum", "I", false)
  | 53 => ("CourtProgressModel", "chosen", "[I", true)
  | 54 => ("CourtProgressModel", "bestRooms", "[I", true)
  | 55 => ("CourtProgressModel", "lodged", "[I", true)
  | 56 => ("CourtProgressModel", "spared", "[I", true)
  | 57 => ("CourtProgressModel", "lodgedMany", "I", false)
  | 58 => ("CourtProgressModel", "least", "[I", true)
  | 59 => ("CourtProgressModel", "needs", "[I", true)
  | 60 => ("CourtProgressModel", "routeAt", "[I", true)
  | 61 => ("CourtProgressModel", "routeFrom", "I", false)
  | 62 => ("CourtProgressModel", "routeDays", "I", false)
  | _ => ("CourtProgressModel", "ends", "[I", true)
def tyX11 : Nat → FieldType := fun k => match k with
  | 0 => .int
  | 1 => .int
  | 2 => .int
  | 3 => .int
  | 4 => .int
  | 5 => .int
  | 6 => .int
  | 7 => .int
  | 8 => .int
  | 9 => .int
  | 10 => .array .int
  | 11 => .array .int
  | 12 => .array .int
  | 13 => .array .int
  | 14 => .array .int
  | 15 => .array .int
  | 16 => .array .int
  | 17 => .array .int
  | 18 => .array .int
  | 19 => .array .int
  | 20 => .array .int
  | 21 => .array .int
  | 22 => .array .int
  | 23 => .array .int
  | 24 => .array .int
  | 25 => .array .int
  | 26 => .array .int
  | 27 => .array .int
  | 28 => .array .int
  | 29 => .array .int
  | 30 => .array .int
  | 31 => .object "CourtProgressModel$Stop"
  | 32 => .array .byte
  | 33 => .int
  | 34 => .int
  | 35 => .int
  | 36 => .int
  | 37 => .int
  | 38 => .int
  | 39 => .int
  | 40 => .long
  | 41 => .int
  | 42 => .array .int
  | 43 => .array .int
  | 44 => .array .int
  | 45 => .array .int
  | 46 => .array .boolean
  | 47 => .array .int
  | 48 => .array .int
  | 49 => .array .int
  | 50 => .array .int
  | 51 => .array .int
  | 52 => .int
  | 53 => .array .int
  | 54 => .array .int
  | 55 => .array .int
  | 56 => .array .int
  | 57 => .int
  | 58 => .array .int
  | 59 => .array .int
  | 60 => .array .int
  | 61 => .int
  | 62 => .int
  | _ => .array .int
abbrev wsX110 : List Cond := u_ws RX11 TX11 64
theorem nmX11 : ∀ a, a < 64 → ∀ b, b < 64 → a ≠ b → (TX11 a).2.1 ≠ (TX11 b).2.1 := by decide +kernel
theorem tyX11_ok : ∀ k, k < 64 → parseFieldDescriptor (TX11 k).2.2.1 = some (tyX11 k) := by decide +kernel
abbrev cX11_refused : ByteArray := prog_12_method_2_code
def yX11_refused : MethodName := ⟨RX11, "refused", "(I)I"⟩
abbrev cX11_denied : ByteArray := prog_12_method_3_code
def yX11_denied : MethodName := ⟨RX11, "denied", "(I)Z"⟩
abbrev cX11_done : ByteArray := prog_12_method_4_code
def yX11_done : MethodName := ⟨RX11, "done", "(I)I"⟩
abbrev cX11_granted : ByteArray := prog_12_method_5_code
def yX11_granted : MethodName := ⟨RX11, "granted", "()Z"⟩
abbrev cX11_in : ByteArray := prog_12_method_6_code
def yX11_in : MethodName := ⟨RX11, "in", "(III)Z"⟩
abbrev cX11_init : ByteArray := prog_12_method_7_code
def yX11_init : MethodName := ⟨RX11, "<init>", "()V"⟩
abbrev cX11_isHousehold : ByteArray := prog_12_method_8_code
def yX11_isHousehold : MethodName := ⟨RX11, "isHousehold", "(I)Z"⟩
abbrev cX11_isPlace : ByteArray := prog_12_method_9_code
def yX11_isPlace : MethodName := ⟨RX11, "isPlace", "(I)Z"⟩
abbrev cX11_isDay : ByteArray := prog_12_method_10_code
def yX11_isDay : MethodName := ⟨RX11, "isDay", "(I)Z"⟩
abbrev cX11_household : ByteArray := prog_12_method_11_code
def yX11_household : MethodName := ⟨RX11, "household", "(III)I"⟩
abbrev cX11_bar : ByteArray := prog_12_method_12_code
def yX11_bar : MethodName := ⟨RX11, "bar", "(IIZ)Z"⟩
abbrev cX11_place : ByteArray := prog_12_method_13_code
def yX11_place : MethodName := ⟨RX11, "place", "(III)I"⟩
abbrev cX11_room : ByteArray := prog_12_method_14_code
def yX11_room : MethodName := ⟨RX11, "room", "(IIII)I"⟩
abbrev cX11_way : ByteArray := prog_12_method_15_code
def yX11_way : MethodName := ⟨RX11, "way", "(III)Z"⟩
abbrev cX11_mud : ByteArray := prog_12_method_16_code
def yX11_mud : MethodName := ⟨RX11, "mud", "(III)Z"⟩
abbrev cX11_feast : ByteArray := prog_12_method_17_code
def yX11_feast : MethodName := ⟨RX11, "feast", "(II)Z"⟩
abbrev cX11_bring : ByteArray := prog_12_method_18_code
def yX11_bring : MethodName := ⟨RX11, "bring", "(III)Z"⟩
abbrev cX11_stop : ByteArray := prog_12_method_19_code
def yX11_stop : MethodName := ⟨RX11, "stop", "(I)LCourtProgressModel$Stop;"⟩
abbrev cX11_byteAt : ByteArray := prog_12_method_20_code
def yX11_byteAt : MethodName := ⟨RX11, "byteAt", "(I)I"⟩
abbrev cX11_isLetter : ByteArray := prog_12_method_21_code
def yX11_isLetter : MethodName := ⟨RX11, "isLetter", "(I)Z"⟩
abbrev cX11_isDigit : ByteArray := prog_12_method_22_code
def yX11_isDigit : MethodName := ⟨RX11, "isDigit", "(I)Z"⟩
abbrev cX11_wordOf : ByteArray := prog_12_method_23_code
def yX11_wordOf : MethodName := ⟨RX11, "wordOf", "(Ljava/lang/String;)J"⟩
abbrev cX11_next : ByteArray := prog_12_method_24_code
def yX11_next : MethodName := ⟨RX11, "next", "()V"⟩
abbrev cX11_isWord : ByteArray := prog_12_method_25_code
def yX11_isWord : MethodName := ⟨RX11, "isWord", "(Ljava/lang/String;)Z"⟩
abbrev cX11_is : ByteArray := prog_12_method_26_code
def yX11_is : MethodName := ⟨RX11, "is", "(I)Z"⟩
abbrev cX11_nameHere : ByteArray := prog_12_method_27_code
def yX11_nameHere : MethodName := ⟨RX11, "nameHere", "()I"⟩
abbrev cX11_reads : ByteArray := prog_12_method_28_code
def yX11_reads : MethodName := ⟨RX11, "reads", "()V"⟩
abbrev cX11_readTest : ByteArray := prog_12_method_29_code
def yX11_readTest : MethodName := ⟨RX11, "readTest", "(I)V"⟩
abbrev cX11_readTerm : ByteArray := prog_12_method_30_code
def yX11_readTerm : MethodName := ⟨RX11, "readTerm", "(I)V"⟩
abbrev cX11_feed : ByteArray := prog_12_method_31_code
def yX11_feed : MethodName := ⟨RX11, "feed", "(IIIII)I"⟩
abbrev cX11_ordinance : ByteArray := prog_12_method_32_code
def yX11_ordinance : MethodName := ⟨RX11, "ordinance", "(II)I"⟩
abbrev cX11_fault : ByteArray := prog_12_method_33_code
def yX11_fault : MethodName := ⟨RX11, "fault", "()I"⟩
abbrev cX11_where : ByteArray := prog_12_method_34_code
def yX11_where : MethodName := ⟨RX11, "where", "()I"⟩
abbrev cX11_forceOf : ByteArray := prog_12_method_35_code
def yX11_forceOf : MethodName := ⟨RX11, "forceOf", "(I)I"⟩
abbrev cX11_force : ByteArray := prog_12_method_36_code
def yX11_force : MethodName := ⟨RX11, "force", "(I)I"⟩
abbrev cX11_valueOf : ByteArray := prog_12_method_37_code
def yX11_valueOf : MethodName := ⟨RX11, "valueOf", "(III)I"⟩
abbrev cX11_eatsOf : ByteArray := prog_12_method_38_code
def yX11_eatsOf : MethodName := ⟨RX11, "eatsOf", "(IIZ)I"⟩
abbrev cX11_eats : ByteArray := prog_12_method_39_code
def yX11_eats : MethodName := ⟨RX11, "eats", "(IIZ)I"⟩
abbrev cX11_needOf : ByteArray := prog_12_method_40_code
def yX11_needOf : MethodName := ⟨RX11, "needOf", "(I)I"⟩
abbrev cX11_need : ByteArray := prog_12_method_41_code
def yX11_need : MethodName := ⟨RX11, "need", "(I)I"⟩
abbrev cX11_mayHave : ByteArray := prog_12_method_42_code
def yX11_mayHave : MethodName := ⟨RX11, "mayHave", "(IIIZ)Z"⟩
abbrev cX11_lodges : ByteArray := prog_12_method_43_code
def yX11_lodges : MethodName := ⟨RX11, "lodges", "(IIIZZ)Z"⟩
abbrev cX11_spares : ByteArray := prog_12_method_44_code
def yX11_spares : MethodName := ⟨RX11, "spares", "(I)V"⟩
abbrev cX11_whyOf : ByteArray := prog_12_method_45_code
def yX11_whyOf : MethodName := ⟨RX11, "whyOf", "(I)I"⟩
abbrev cX11_lodge : ByteArray := prog_12_method_46_code
def yX11_lodge : MethodName := ⟨RX11, "lodge", "(I)I"⟩
abbrev cX11_lodged : ByteArray := prog_12_method_47_code
def yX11_lodged : MethodName := ⟨RX11, "lodged", "(I)I"⟩
abbrev cX11_why : ByteArray := prog_12_method_48_code
def yX11_why : MethodName := ⟨RX11, "why", "(I)I"⟩
abbrev cX11_hoursOf : ByteArray := prog_12_method_49_code
def yX11_hoursOf : MethodName := ⟨RX11, "hoursOf", "(III)I"⟩
abbrev cX11_mayBe : ByteArray := prog_12_method_50_code
def yX11_mayBe : MethodName := ⟨RX11, "mayBe", "(II)Z"⟩
abbrev cX11_goesOn : ByteArray := prog_12_method_51_code
def yX11_goesOn : MethodName := ⟨RX11, "goesOn", "(IIIII)I"⟩
abbrev cX11_leaves : ByteArray := prog_12_method_52_code
def yX11_leaves : MethodName := ⟨RX11, "leaves", "(IIII)I"⟩
abbrev cX11_rows : ByteArray := prog_12_method_53_code
def yX11_rows : MethodName := ⟨RX11, "rows", "(III)V"⟩
abbrev cX11_route : ByteArray := prog_12_method_54_code
def yX11_route : MethodName := ⟨RX11, "route", "(I)I"⟩
abbrev cX11_at : ByteArray := prog_12_method_55_code
def yX11_at : MethodName := ⟨RX11, "at", "(I)I"⟩
abbrev cX11_lasts : ByteArray := prog_12_method_56_code
def yX11_lasts : MethodName := ⟨RX11, "lasts", "()I"⟩
abbrev cX11_step : ByteArray := prog_12_method_57_code
def yX11_step : MethodName := ⟨RX11, "step", "(I)I"⟩
abbrev cX11_about : ByteArray := prog_12_method_58_code
def yX11_about : MethodName := ⟨RX11, "about", "(II)I"⟩
abbrev cX11_was : ByteArray := prog_12_method_59_code
def yX11_was : MethodName := ⟨RX11, "was", "(I)I"⟩
abbrev cX11_lacked : ByteArray := prog_12_method_60_code
def yX11_lacked : MethodName := ⟨RX11, "lacked", "(I)I"⟩
abbrev cX11_plea : ByteArray := prog_12_method_61_code
def yX11_plea : MethodName := ⟨RX11, "plea", "(I)I"⟩
abbrev cX11_nextOf : ByteArray := prog_12_method_62_code
def yX11_nextOf : MethodName := ⟨RX11, "nextOf", "(I)I"⟩
abbrev cX11_hear : ByteArray := prog_12_method_63_code
def yX11_hear : MethodName := ⟨RX11, "hear", "(I)I"⟩
abbrev cX11_heard : ByteArray := prog_12_method_64_code
def yX11_heard : MethodName := ⟨RX11, "heard", "(I)I"⟩
abbrev cX11_next_ : ByteArray := prog_12_method_65_code
def yX11_next_ : MethodName := ⟨RX11, "next", "(I)I"⟩
abbrev cX11_count : ByteArray := prog_12_method_66_code
def yX11_count : MethodName := ⟨RX11, "count", "(I)I"⟩
abbrev cX11_trouble : ByteArray := prog_12_method_67_code
def yX11_trouble : MethodName := ⟨RX11, "trouble", "()I"⟩
def RJ6 : String := "java/lang/Integer"
def TJ6 : u_T := fun k => match k with
  | _ => ("", "", "", false)
def tyJ6 : Nat → FieldType := fun k => match k with
  | _ => .int
abbrev wsJ60 : List Cond := u_ws RJ6 TJ6 0
theorem nmJ6 : ∀ a, a < 0 → ∀ b, b < 0 → a ≠ b → (TJ6 a).2.1 ≠ (TJ6 b).2.1 := by decide +kernel
theorem tyJ6_ok : ∀ k, k < 0 → parseFieldDescriptor (TJ6 k).2.2.1 = some (tyJ6 k) := by decide +kernel
abbrev cJ6_bitCount_0f7a4 : ByteArray := prog_15_method_49_code
def yJ6_bitCount_0f7a4 : MethodName := ⟨RJ6, "bitCount", "(I)I"⟩
def RJ9 : String := "java/lang/Math"
def TJ9 : u_T := fun k => match k with
  | _ => ("", "", "", false)
def tyJ9 : Nat → FieldType := fun k => match k with
  | _ => .int
abbrev wsJ90 : List Cond := u_ws RJ9 TJ9 0
theorem nmJ9 : ∀ a, a < 0 → ∀ b, b < 0 → a ≠ b → (TJ9 a).2.1 ≠ (TJ9 b).2.1 := by decide +kernel
theorem tyJ9_ok : ∀ k, k < 0 → parseFieldDescriptor (TJ9 k).2.2.1 = some (tyJ9 k) := by decide +kernel
abbrev cJ9_max_7cf53 : ByteArray := prog_16_method_65_code
def yJ9_max_7cf53 : MethodName := ⟨RJ9, "max", "(II)I"⟩
abbrev cJ9_min_7cf53 : ByteArray := prog_16_method_69_code
def yJ9_min_7cf53 : MethodName := ⟨RJ9, "min", "(II)I"⟩
abbrev cJ9_min_f86c9 : ByteArray := prog_16_method_70_code
def yJ9_min_f86c9 : MethodName := ⟨RJ9, "min", "(JJ)J"⟩
def RJ0 : String := "java/lang/String"
def TJ0 : u_T := fun k => match k with
  | _ => ("", "", "", false)
def tyJ0 : Nat → FieldType := fun k => match k with
  | _ => .int
abbrev wsJ00 : List Cond := u_ws RJ0 TJ0 0
theorem nmJ0 : ∀ a, a < 0 → ∀ b, b < 0 → a ≠ b → (TJ0 a).2.1 ≠ (TJ0 b).2.1 := by decide +kernel
theorem tyJ0_ok : ∀ k, k < 0 → parseFieldDescriptor (TJ0 k).2.2.1 = some (tyJ0 k) := by decide +kernel
abbrev cJ0_length_8abf5 : ByteArray := prog_18_method_54_code
def yJ0_length_8abf5 : MethodName := ⟨RJ0, "length", "()I"⟩
abbrev cJ0_charAt_5068e : ByteArray := prog_18_method_56_code
def yJ0_charAt_5068e : MethodName := ⟨RJ0, "charAt", "(I)C"⟩
abbrev cJ0_coder_7d493 : ByteArray := prog_18_method_152_code
def yJ0_coder_7d493 : MethodName := ⟨RJ0, "coder", "()B"⟩
abbrev cJ0_isLatin1_aae02 : ByteArray := prog_18_method_154_code
def yJ0_isLatin1_aae02 : MethodName := ⟨RJ0, "isLatin1", "()Z"⟩
abbrev cJ0_checkIndex_df160 : ByteArray := prog_18_method_155_code
def yJ0_checkIndex_df160 : MethodName := ⟨RJ0, "checkIndex", "(II)V"⟩
def RJ1 : String := "java/lang/StringLatin1"
def TJ1 : u_T := fun k => match k with
  | _ => ("", "", "", false)
def tyJ1 : Nat → FieldType := fun k => match k with
  | _ => .int
abbrev wsJ10 : List Cond := u_ws RJ1 TJ1 0
theorem nmJ1 : ∀ a, a < 0 → ∀ b, b < 0 → a ≠ b → (TJ1 a).2.1 ≠ (TJ1 b).2.1 := by decide +kernel
theorem tyJ1_ok : ∀ k, k < 0 → parseFieldDescriptor (TJ1 k).2.2.1 = some (tyJ1 k) := by decide +kernel
abbrev cJ1_charAt_3b067 : ByteArray := prog_19_method_2_code
def yJ1_charAt_3b067 : MethodName := ⟨RJ1, "charAt", "([BI)C"⟩
def RJ2 : String := "java/lang/StringUTF16"
def TJ2 : u_T := fun k => match k with
  | _ => ("", "", "", false)
def tyJ2 : Nat → FieldType := fun k => match k with
  | _ => .int
abbrev wsJ20 : List Cond := u_ws RJ2 TJ2 0
theorem nmJ2 : ∀ a, a < 0 → ∀ b, b < 0 → a ≠ b → (TJ2 a).2.1 ≠ (TJ2 b).2.1 := by decide +kernel
theorem tyJ2_ok : ∀ k, k < 0 → parseFieldDescriptor (TJ2 k).2.2.1 = some (tyJ2 k) := by decide +kernel
abbrev cJ2_getChar_3b067 : ByteArray := prog_20_method_5_code
def yJ2_getChar_3b067 : MethodName := ⟨RJ2, "getChar", "([BI)C"⟩
abbrev cJ2_length_9d52b : ByteArray := prog_20_method_6_code
def yJ2_length_9d52b : MethodName := ⟨RJ2, "length", "([B)I"⟩
abbrev cJ2_charAt_3b067 : ByteArray := prog_20_method_83_code
def yJ2_charAt_3b067 : MethodName := ⟨RJ2, "charAt", "([BI)C"⟩
abbrev cJ2_checkIndex_2214a : ByteArray := prog_20_method_91_code
def yJ2_checkIndex_2214a : MethodName := ⟨RJ2, "checkIndex", "(I[B)V"⟩
def RJ3 : String := "jdk/internal/util/Preconditions"
def TJ3 : u_T := fun k => match k with
  | _ => ("", "", "", false)
def tyJ3 : Nat → FieldType := fun k => match k with
  | _ => .int
abbrev wsJ30 : List Cond := u_ws RJ3 TJ3 0
theorem nmJ3 : ∀ a, a < 0 → ∀ b, b < 0 → a ≠ b → (TJ3 a).2.1 ≠ (TJ3 b).2.1 := by decide +kernel
theorem tyJ3_ok : ∀ k, k < 0 → parseFieldDescriptor (TJ3 k).2.2.1 = some (tyJ3 k) := by decide +kernel
abbrev cJ3_checkIndex_8e157 : ByteArray := prog_22_method_11_code
def yJ3_checkIndex_8e157 : MethodName := ⟨RJ3, "checkIndex", "(IILjava/util/function/BiFunction;)I"⟩
def RL : String := "CourtProgressLaw"
abbrev cL_law : ByteArray := code
def yL_law : MethodName := ⟨RL, "law", "([I)Z"⟩
theorem inJ6 : ∀ w ∈ wsJ60, w ∈ lw_tbl := by decide +kernel
theorem inJ9 : ∀ w ∈ wsJ90, w ∈ lw_tbl := by decide +kernel
theorem inJ0 : ∀ w ∈ wsJ00, w ∈ lw_tbl := by decide +kernel
theorem inJ1 : ∀ w ∈ wsJ10, w ∈ lw_tbl := by decide +kernel
theorem inJ2 : ∀ w ∈ wsJ20, w ∈ lw_tbl := by decide +kernel
theorem inJ3 : ∀ w ∈ wsJ30, w ∈ lw_tbl := by decide +kernel
end
section
/-! THE ABSTRACT MACHINE. A heap: cells and slots made so far; the cells' shapes (0 and its kind number: an object; 1, 2, 3, 4 and a length: a row of ints, bytes, booleans, a row of ints that may move); what reference fields hold; ints of fields and rows; longs of fields. -/
abbrev ai_Hp : Type := (Nat × Nat) × List (Nat × Nat) × (Nat → Nat → Option Nat) × (Nat → Nat → Int32) × (Nat → Nat → Int64)
abbrev ai_Res : Type := Option ((Option Value ⊕ Nat) × ai_Hp)
abbrev ai_Rec : Type := Nat → Nat → Nat → List Value → List Value → ai_Hp → ai_Res
abbrev ai_K : Type := List Value → List Value → ai_Hp → ai_Res
abbrev ai_Op : Type := Instr × List Nat × Int32
def ai_un : Value := .retAddr 0
def ai_up (M : Nat → Nat → Int32) (k i : Nat) (v : Int32) : Nat → Nat → Int32 := fun a => if a = k then upd (M k) i v else M a
def ai_uR (R : Nat → Nat → Option Nat) (k i : Nat) (v : Option Nat) : Nat → Nat → Option Nat := fun a j => if a = k then (if j = i then v else R k j) else R a j
def ai_uL (N : Nat → Nat → Int64) (k i : Nat) (v : Int64) : Nat → Nat → Int64 := fun a => if a = k then vp_updL (N k) i v else N a
def ai_set (L : List Value) (i : Nat) (v : Value) : List Value := match i with
  | 0 => L.set 0 v
  | j + 1 => match L[j]? with
    | some (.long _) => (L.set j ai_un).set (j + 1) v
    | _ => L.set (j + 1) v
def ai_in (i : Int32) (n : Nat) : Bool := decide (0 ≤ i.toInt) && decide (i.toInt < (n : Int))
def ai_obj (h : ai_Hp) (a ci : Nat) : Bool := match h.2.1[a]? with
  | some q => Nat.beq q.1 0 && Nat.beq q.2 ci
  | none => false
def ai_row (h : ai_Hp) (a k1 k2 : Nat) : Option Nat := match h.2.1[a]? with
  | some q => cond (Nat.beq q.1 k1 || Nat.beq q.1 k2) (some q.2) none
  | none => none
def ai_len (h : ai_Hp) (a : Nat) : Option Nat := match h.2.1[a]? with
  | some q => cond (Nat.beq q.1 0) none (some q.2)
  | none => none
def ai_kd (h : ai_Hp) (a : Nat) : Nat := match h.2.1[a]? with
  | some q => q.1
  | none => 0
def ai_frv (S : List (Nat × Nat)) (v : Value) : Bool := match v with
  | .ref a => Nat.ble 900 a || (match S[a]? with
    | some q => !(Nat.beq q.1 4)
    | none => false)
  | _ => true
def ai_fr (S : List (Nat × Nat)) (vs : List Value) : Bool := vs.all (ai_frv S)
def ai_nrv (n : Nat) (v : Value) : Bool := match v with
  | .ref a => !(Nat.beq a n)
  | _ => true
def ai_nr (n : Nat) (vs : List Value) : Bool := vs.all (ai_nrv n)
def ai_wt (vs : List Value) : Nat := (vs.map fun v => v.category).sum
def ai_lay (vs : List Value) : List Value := vs.flatMap fun v => match v with
  | .long x => [.long x, ai_un]
  | v => [v]
def ai_ent (n : Nat) (vs : List Value) : List Value := ai_lay vs ++ List.replicate (n - (ai_lay vs).length) ai_un
def ai_ldI (i : Nat) (L st : List Value) (h : ai_Hp) (k : ai_K) : ai_Res := match L[i]? with
  | some (.int x) => k L (.int x :: st) h
  | _ => none
def ai_ldL (i : Nat) (L st : List Value) (h : ai_Hp) (k : ai_K) : ai_Res := match L[i]? with
  | some (.long x) => k L (.long x :: st) h
  | _ => none
def ai_ldA (i : Nat) (L st : List Value) (h : ai_Hp) (k : ai_K) : ai_Res := match L[i]? with
  | some (.ref x) => k L (.ref x :: st) h
  | some .null => k L (.null :: st) h
  | _ => none
def ai_stI (i : Nat) (L st : List Value) (h : ai_Hp) (k : ai_K) : ai_Res := match st with
  | .int x :: r => cond (Nat.blt i L.length) (k (ai_set L i (.int x)) r h) none
  | _ => none
def ai_stL (i : Nat) (L st : List Value) (h : ai_Hp) (k : ai_K) : ai_Res := match st with
  | .long x :: r => cond (Nat.blt (i + 1) L.length) (k ((ai_set L i (.long x)).set (i + 1) ai_un) r h) none
  | _ => none
def ai_stA (i : Nat) (L st : List Value) (h : ai_Hp) (k : ai_K) : ai_Res := match st with
  | .ref x :: r => cond (Nat.blt i L.length) (k (ai_set L i (.ref x)) r h) none
  | _ => none
def ai_bin (f : Int32 → Int32 → Int32) (L st : List Value) (h : ai_Hp) (k : ai_K) : ai_Res := match st with
  | .int y :: .int x :: r => k L (.int (f x y) :: r) h
  | _ => none
def ai_binL (f : Int64 → Int64 → Int64) (L st : List Value) (h : ai_Hp) (k : ai_K) : ai_Res := match st with
  | .long y :: .long x :: r => k L (.long (f x y) :: r) h
  | _ => none
def ai_un1 (f : Int32 → Value) (L st : List Value) (h : ai_Hp) (k : ai_K) : ai_Res := match st with
  | .int x :: r => k L (f x :: r) h
  | _ => none
/-- a comparison, taken or not -/
def ai_br (cd : ClassFile.Cond) (x y : Int32) (t f : ai_Res) : ai_Res := match cd with
  | .eq => if x = y then t else f
  | .ne => if x = y then f else t
  | .lt => if x < y then t else f
  | .ge => if y ≤ x then t else f
  | .gt => if y < x then t else f
  | .le => if x ≤ y then t else f
def ai_look (x : Int) : List (Int × Int) → List Nat → Nat → Nat
  | [], _, d => d
  | q :: ps, t :: ts, d => if x = q.1 then t else ai_look x ps ts d
  | _ :: _, [], d => d
def ai_getf (a : Nat) (ci j ty : Nat) (h : ai_Hp) : Option Value := cond (ai_obj h a ci) (match ty with
    | 0 => some (.int (h.2.2.2.1 a j))
    | 1 => some (.long (h.2.2.2.2 a j))
    | _ => match h.2.2.1 a j with
      | some v => some (.ref v)
      | none => some .null) none
def ai_putf (v : Value) (a : Nat) (ci j ty : Nat) (h : ai_Hp) : Option ai_Hp := cond (ai_obj h a ci) (match ty, v with
    | 0, .int x => some (h.1, h.2.1, h.2.2.1, ai_up h.2.2.2.1 a j x, h.2.2.2.2)
    | 1, .long x => some (h.1, h.2.1, h.2.2.1, h.2.2.2.1, ai_uL h.2.2.2.2 a j x)
    | 2, .ref x => cond (Nat.blt x h.2.1.length) (some (h.1, h.2.1, ai_uR h.2.2.1 a j (some x), h.2.2.2.1, h.2.2.2.2)) none
    | 2, .null => some (h.1, h.2.1, ai_uR h.2.2.1 a j none, h.2.2.2.1, h.2.2.2.2)
    | _, _ => none) none
/-- a row more, all 0 -/
def ai_mk (kd n : Nat) (h : ai_Hp) : ai_Hp := ((h.1.1 + 1, h.1.2 + n), h.2.1 ++ [(kd, n)], h.2.2.1, (fun a => if a = h.2.1.length then (fun _ => 0) else h.2.2.2.1 a), h.2.2.2.2)
/-- an object more, of nf fields, all 0 and null -/
def ai_ob (ci nf : Nat) (h : ai_Hp) : ai_Hp := ((h.1.1 + 1, h.1.2 + nf), h.2.1 ++ [(0, ci)], (fun a => if a = h.2.1.length then (fun _ => none) else h.2.2.1 a), (fun a => if a = h.2.1.length then (fun _ => 0) else h.2.2.2.1 a), (fun a => if a = h.2.1.length then (fun _ => 0) else h.2.2.2.2 a))
def ai_sto (a : Nat) (i x : Int32) (h : ai_Hp) : ai_Hp := (h.1, h.2.1, h.2.2.1, ai_up h.2.2.2.1 a i.toNatClampNeg x, h.2.2.2.2)
/-! the program, as blocks of instructions -/
/-- CourtProgress$Calendar.<init>()V -/
def ai_c0 : List (List ai_Op × Nat) := [([(.aload_n 0, [], 0), (.invokespecial 3, [998, 1, 999, 0, 0], 0), (.aload_n 0, [], 0), (.sipush 200, [], 200), (.newarray .int, [1], 0), (.putfield 9, [0, 0, 2, 0], 0), (.aload_n 0, [], 0), (.sipush 200, [], 200), (.newarray .int, [1], 0), (.putfield 15, [0, 1, 2, 1], 0), (.iconst 0, [], 0), (.istore_n 1, [], 0)], 1),
  ([(.iload_n 1, [], 0), (.sipush 200, [], 200), (.if_icmp .ge 16, [2], 0), (.aload_n 0, [], 0), (.getfield 15, [0, 1, 2, 1], 0), (.iload_n 1, [], 0), (.iconst (-1), [], (-1)), (.iastore, [], 0), (.iinc 1 1, [], 1), (.goto (-17), [1], 0)], 0),
  ([(.return_, [], 0)], 0)]
/-- CourtProgress$Calendar.setMud(III)V -/
def ai_c1 : List (List ai_Op × Nat) := [([(.iload_n 1, [], 0), (.iconst 0, [], 0), (.invokestatic 18, [211, 2, 999, 0, 0], 0), (.istore 4, [], 0)], 1),
  ([(.iload 4, [], 0), (.iload_n 2, [], 0), (.if_icmp .gt 25, [2], 0), (.iload 4, [], 0), (.sipush 200, [], 200), (.if_icmp .ge 17, [2], 0), (.aload_n 0, [], 0), (.getfield 9, [0, 0, 2, 0], 0), (.iload 4, [], 0), (.iload_n 3, [], 0), (.iastore, [], 0), (.iinc 4 1, [], 1), (.goto (-25), [1], 0)], 0),
  ([(.return_, [], 0)], 0)]
/-- CourtProgress$Calendar.mudOf(I)I -/
def ai_c2 : List (List ai_Op × Nat) := [([(.iload_n 1, [], 0), (.invokestatic 24, [141, 1, 999, 0, 1], 0), (.ifCond .eq 12, [1], 0), (.aload_n 0, [], 0), (.getfield 9, [0, 0, 2, 0], 0), (.iload_n 1, [], 0), (.iaload, [], 0), (.goto 4, [2], 0)], 0),
  ([(.iconst 0, [], 0)], 2),
  ([(.ireturn, [0], 0)], 0)]
/-- CourtProgress$Calendar.feastOf(I)I -/
def ai_c3 : List (List ai_Op × Nat) := [([(.iload_n 1, [], 0), (.invokestatic 24, [141, 1, 999, 0, 1], 0), (.ifCond .eq 12, [1], 0), (.aload_n 0, [], 0), (.getfield 15, [0, 1, 2, 1], 0), (.iload_n 1, [], 0), (.iaload, [], 0), (.goto 4, [2], 0)], 0),
  ([(.iconst (-1), [], (-1))], 2),
  ([(.ireturn, [0], 0)], 0)]
/-- CourtProgress$Calendar.hasRoomForFeast(I)Z -/
def ai_c4 : List (List ai_Op × Nat) := [([(.aload_n 0, [], 0), (.getfield 28, [0, 2, 0, 2], 0), (.bipush 8, [], 8), (.if_icmp .lt 12, [1], 0), (.aload_n 0, [], 0), (.iload_n 1, [], 0), (.invokevirtual 32, [3, 2, 0, 0, 2], 0), (.iconst (-1), [], (-1)), (.if_icmp .eq 7, [2], 0)], 1),
  ([(.iconst 1, [], 1), (.goto 4, [3], 0)], 0),
  ([(.iconst 0, [], 0)], 3),
  ([(.ireturn, [1], 0)], 0)]
/-- CourtProgress$Calendar.setFeast(II)V -/
def ai_c5 : List (List ai_Op × Nat) := [([(.iload_n 1, [], 0), (.invokestatic 24, [141, 1, 999, 0, 1], 0), (.ifCond .ne 4, [1], 0), (.return_, [], 0)], 0),
  ([(.aload_n 0, [], 0), (.getfield 15, [0, 1, 2, 1], 0), (.iload_n 1, [], 0), (.iaload, [], 0), (.iconst (-1), [], (-1)), (.if_icmp .eq 13, [2], 0), (.aload_n 0, [], 0), (.dup, [], 0), (.getfield 28, [0, 2, 0, 2], 0), (.iconst 1, [], 1), (.isub, [], 0), (.putfield 28, [0, 2, 0, 2], 0)], 2),
  ([(.iload_n 2, [], 0), (.iconst (-1), [], (-1)), (.if_icmp .eq 13, [3], 0), (.aload_n 0, [], 0), (.dup, [], 0), (.getfield 28, [0, 2, 0, 2], 0), (.iconst 1, [], 1), (.iadd, [], 0), (.putfield 28, [0, 2, 0, 2], 0)], 3),
  ([(.aload_n 0, [], 0), (.getfield 15, [0, 1, 2, 1], 0), (.iload_n 1, [], 0), (.iload_n 2, [], 0), (.iastore, [], 0), (.return_, [], 0)], 0)]
/-- CourtProgress$Households.<init>()V -/
def ai_c6 : List (List ai_Op × Nat) := [([(.aload_n 0, [], 0), (.invokespecial 3, [998, 1, 999, 0, 0], 0), (.aload_n 0, [], 0), (.bipush 8, [], 8), (.newarray .int, [1], 0), (.putfield 9, [1, 1, 2, 3], 0), (.aload_n 0, [], 0), (.bipush 8, [], 8), (.newarray .int, [1], 0), (.putfield 15, [1, 2, 2, 4], 0), (.aload_n 0, [], 0), (.bipush 8, [], 8), (.newarray .int, [1], 0), (.putfield 18, [1, 3, 2, 5], 0), (.aload_n 0, [], 0), (.bipush 8, [], 8), (.newarray .int, [1], 0), (.putfield 21, [1, 4, 2, 6], 0), (.return_, [], 0)], 0)]
/-- CourtProgress$Households.has(I)Z -/
def ai_c7 : List (List ai_Op × Nat) := [([(.iload_n 1, [], 0), (.ifCond .lt 15, [1], 0), (.iload_n 1, [], 0), (.aload_n 0, [], 0), (.getfield 24, [1, 0, 0, 7], 0), (.if_icmp .ge 7, [1], 0), (.iconst 1, [], 1), (.goto 4, [2], 0)], 0),
  ([(.iconst 0, [], 0)], 2),
  ([(.ireturn, [1], 0)], 0)]
/-- CourtProgress$Households.add(III)I -/
def ai_c8 : List (List ai_Op × Nat) := [([(.aload_n 0, [], 0), (.getfield 24, [1, 0, 0, 7], 0), (.bipush 8, [], 8), (.if_icmp .lt 5, [1], 0), (.iconst (-1), [], (-1)), (.ireturn, [0], 0)], 0),
  ([(.aload_n 0, [], 0), (.getfield 9, [1, 1, 2, 3], 0), (.aload_n 0, [], 0), (.getfield 24, [1, 0, 0, 7], 0), (.iload_n 1, [], 0), (.iastore, [], 0), (.aload_n 0, [], 0), (.getfield 15, [1, 2, 2, 4], 0), (.aload_n 0, [], 0), (.getfield 24, [1, 0, 0, 7], 0), (.iload_n 2, [], 0), (.iastore, [], 0), (.aload_n 0, [], 0), (.getfield 18, [1, 3, 2, 5], 0), (.aload_n 0, [], 0), (.getfield 24, [1, 0, 0, 7], 0), (.iload_n 3, [], 0), (.iastore, [], 0), (.aload_n 0, [], 0), (.dup, [], 0), (.getfield 24, [1, 0, 0, 7], 0), (.iconst 1, [], 1), (.iadd, [], 0), (.putfield 24, [1, 0, 0, 7], 0), (.aload_n 0, [], 0), (.getfield 24, [1, 0, 0, 7], 0), (.iconst 1, [], 1), (.isub, [], 0), (.ireturn, [0], 0)], 0)]
/-- CourtProgress$Households.setBar(IIZ)V -/
def ai_c9 : List (List ai_Op × Nat) := [([(.aload_n 0, [], 0), (.iload_n 1, [], 0), (.invokevirtual 28, [7, 2, 1, 0, 3], 0), (.ifCond .eq 11, [1], 0), (.aload_n 0, [], 0), (.iload_n 2, [], 0), (.invokevirtual 28, [7, 2, 1, 0, 3], 0), (.ifCond .ne 4, [2], 0)], 1),
  ([(.return_, [], 0)], 0),
  ([(.iload_n 3, [], 0), (.ifCond .eq 30, [3], 0), (.aload_n 0, [], 0), (.getfield 21, [1, 4, 2, 6], 0), (.iload_n 1, [], 0), (.dup2, [], 0), (.iaload, [], 0), (.iconst 1, [], 1), (.iload_n 2, [], 0), (.ishl, [], 0), (.ior, [], 0), (.iastore, [], 0), (.aload_n 0, [], 0), (.getfield 21, [1, 4, 2, 6], 0), (.iload_n 2, [], 0), (.dup2, [], 0), (.iaload, [], 0), (.iconst 1, [], 1), (.iload_n 1, [], 0), (.ishl, [], 0), (.ior, [], 0), (.iastore, [], 0), (.goto 31, [4], 0)], 0),
  ([(.aload_n 0, [], 0), (.getfield 21, [1, 4, 2, 6], 0), (.iload_n 1, [], 0), (.dup2, [], 0), (.iaload, [], 0), (.iconst 1, [], 1), (.iload_n 2, [], 0), (.ishl, [], 0), (.iconst (-1), [], (-1)), (.ixor, [], 0), (.iand, [], 0), (.iastore, [], 0), (.aload_n 0, [], 0), (.getfield 21, [1, 4, 2, 6], 0), (.iload_n 2, [], 0), (.dup2, [], 0), (.iaload, [], 0), (.iconst 1, [], 1), (.iload_n 1, [], 0), (.ishl, [], 0), (.iconst (-1), [], (-1)), (.ixor, [], 0), (.iand, [], 0), (.iastore, [], 0)], 4),
  ([(.return_, [], 0)], 0)]
/-- CourtProgress$Households.ranksDiffer()Z -/
def ai_c10 : List (List ai_Op × Nat) := [([(.iconst 1, [], 1), (.istore_n 1, [], 0)], 1),
  ([(.iload_n 1, [], 0), (.aload_n 0, [], 0), (.getfield 24, [1, 0, 0, 7], 0), (.if_icmp .ge 26, [3], 0), (.aload_n 0, [], 0), (.getfield 9, [1, 1, 2, 3], 0), (.iload_n 1, [], 0), (.iaload, [], 0), (.aload_n 0, [], 0), (.getfield 9, [1, 1, 2, 3], 0), (.iconst 0, [], 0), (.iaload, [], 0), (.if_icmp .eq 5, [2], 0), (.iconst 1, [], 1), (.ireturn, [1], 0)], 0),
  ([(.iinc 1 1, [], 1), (.goto (-28), [1], 0)], 0),
  ([(.iconst 0, [], 0), (.ireturn, [1], 0)], 0)]
/-- CourtProgress$Households.allHorses()I -/
def ai_c11 : List (List ai_Op × Nat) := [([(.iconst 0, [], 0), (.istore_n 1, [], 0), (.iconst 0, [], 0), (.istore_n 2, [], 0)], 1),
  ([(.iload_n 2, [], 0), (.aload_n 0, [], 0), (.getfield 24, [1, 0, 0, 7], 0), (.if_icmp .ge 18, [2], 0), (.iload_n 1, [], 0), (.aload_n 0, [], 0), (.getfield 18, [1, 3, 2, 5], 0), (.iload_n 2, [], 0), (.iaload, [], 0), (.iadd, [], 0), (.istore_n 1, [], 0), (.iinc 2 1, [], 1), (.goto (-20), [1], 0)], 0),
  ([(.iload_n 1, [], 0), (.ireturn, [0], 0)], 0)]
/-- CourtProgress$Lodger.<init>(LCourtProgress$Households;LCourtProgress$Places;)V -/
def ai_c12 : List (List ai_Op × Nat) := [([(.aload_n 0, [], 0), (.invokespecial 3, [998, 1, 999, 0, 0], 0), (.aload_n 0, [], 0), (.bipush 10, [], 10), (.newarray .int, [1], 0), (.putfield 9, [2, 3, 2, 8], 0), (.aload_n 0, [], 0), (.bipush 10, [], 10), (.newarray .int, [1], 0), (.putfield 15, [2, 4, 2, 9], 0), (.aload_n 0, [], 0), (.bipush 10, [], 10), (.newarray .int, [1], 0), (.putfield 18, [2, 5, 2, 10], 0), (.aload_n 0, [], 0), (.bipush 10, [], 10), (.newarray .int, [1], 0), (.putfield 21, [2, 6, 2, 11], 0), (.aload_n 0, [], 0), (.bipush 10, [], 10), (.newarray .int, [1], 0), (.putfield 24, [2, 7, 2, 12], 0), (.aload_n 0, [], 0), (.bipush 10, [], 10), (.newarray .int, [1], 0), (.putfield 27, [2, 8, 2, 13], 0), (.aload_n 0, [], 0), (.bipush 72, [], 72), (.newarray .int, [1], 0), (.putfield 30, [2, 9, 2, 14], 0), (.aload_n 0, [], 0), (.bipush 8, [], 8), (.newarray .int, [1], 0), (.putfield 33, [2, 10, 2, 15], 0), (.aload_n 0, [], 0), (.bipush 8, [], 8), (.newarray .int, [1], 0), (.putfield 36, [2, 11, 2, 16], 0), (.aload_n 0, [], 0), (.bipush 8, [], 8), (.newarray .int, [1], 0), (.putfield 39, [2, 12, 2, 17], 0), (.aload_n 0, [], 0), (.bipush 8, [], 8), (.newarray .int, [1], 0), (.putfield 42, [2, 13, 2, 18], 0), (.aload_n 0, [], 0), (.aload_n 1, [], 0), (.putfield 45, [2, 0, 2, 19], 0), (.aload_n 0, [], 0), (.aload_n 2, [], 0), (.putfield 49, [2, 1, 2, 20], 0), (.return_, [], 0)], 0)]
/-- CourtProgress$Lodger.roomOf(I)I -/
def ai_c13 : List (List ai_Op × Nat) := [([(.aload_n 0, [], 0), (.getfield 45, [2, 0, 2, 19], 0), (.iload_n 1, [], 0), (.invokevirtual 53, [7, 2, 1, 0, 4], 0), (.ifCond .eq 17, [1], 0), (.aload_n 0, [], 0), (.getfield 9, [2, 3, 2, 8], 0), (.aload_n 0, [], 0), (.getfield 42, [2, 13, 2, 18], 0), (.iload_n 1, [], 0), (.iaload, [], 0), (.iaload, [], 0), (.goto 4, [2], 0)], 0),
  ([(.iconst (-1), [], (-1))], 2),
  ([(.ireturn, [0], 0)], 0)]
/-- CourtProgress$Lodger.reasonAgainst(I)I -/
def ai_c14 : List (List ai_Op × Nat) := [([(.aload_n 0, [], 0), (.getfield 49, [2, 1, 2, 20], 0), (.getfield 59, [3, 6, 2, 21], 0), (.iload_n 1, [], 0), (.iaload, [], 0), (.aload_n 0, [], 0), (.getfield 45, [2, 0, 2, 19], 0), (.getfield 64, [1, 0, 0, 22], 0), (.if_icmp .ge 5, [1], 0), (.iconst 1, [], 1), (.ireturn, [0], 0)], 0),
  ([(.aload_n 0, [], 0), (.getfield 45, [2, 0, 2, 19], 0), (.invokevirtual 68, [11, 1, 1, 0, 5], 0), (.aload_n 0, [], 0), (.getfield 49, [2, 1, 2, 20], 0), (.getfield 72, [3, 3, 2, 23], 0), (.iload_n 1, [], 0), (.iaload, [], 0), (.if_icmp .le 5, [2], 0), (.iconst 2, [], 2), (.ireturn, [0], 0)], 0),
  ([(.aload_n 0, [], 0), (.iload_n 1, [], 0), (.iconst 1, [], 1), (.invokevirtual 75, [16, 3, 2, 0, 6], 0), (.ifCond .eq 5, [3], 0), (.iconst 0, [], 0), (.ireturn, [0], 0)], 0),
  ([(.aload_n 0, [], 0), (.iload_n 1, [], 0), (.iconst 0, [], 0), (.invokevirtual 75, [16, 3, 2, 0, 6], 0), (.ifCond .eq 7, [4], 0), (.iconst 4, [], 4), (.goto 4, [5], 0)], 0),
  ([(.iconst 3, [], 3)], 5),
  ([(.ireturn, [0], 0)], 0)]
/-- CourtProgress$Lodger.leastSum(I)I -/
def ai_c15 : List (List ai_Op × Nat) := [([(.aload_n 0, [], 0), (.getfield 49, [2, 1, 2, 20], 0), (.getfield 59, [3, 6, 2, 21], 0), (.iload_n 1, [], 0), (.iaload, [], 0), (.aload_n 0, [], 0), (.getfield 45, [2, 0, 2, 19], 0), (.getfield 64, [1, 0, 0, 22], 0), (.if_icmp .lt 31, [1], 0), (.aload_n 0, [], 0), (.getfield 45, [2, 0, 2, 19], 0), (.invokevirtual 68, [11, 1, 1, 0, 5], 0), (.aload_n 0, [], 0), (.getfield 49, [2, 1, 2, 20], 0), (.getfield 72, [3, 3, 2, 23], 0), (.iload_n 1, [], 0), (.iaload, [], 0), (.if_icmp .gt 12, [1], 0), (.aload_n 0, [], 0), (.iload_n 1, [], 0), (.iconst 1, [], 1), (.invokevirtual 75, [16, 3, 2, 0, 6], 0), (.ifCond .ne 5, [2], 0)], 1),
  ([(.iconst (-1), [], (-1)), (.ireturn, [0], 0)], 0),
  ([(.aload_n 0, [], 0), (.iload_n 1, [], 0), (.iconst 1, [], 1), (.iconst 1, [], 1), (.invokevirtual 79, [18, 4, 2, 0, 7], 0), (.aload_n 0, [], 0), (.ldc 83, [], 1000000), (.putfield 84, [2, 14, 0, 24], 0), (.aload_n 0, [], 0), (.iconst 0, [], 0), (.putfield 87, [2, 15, 0, 25], 0), (.aload_n 0, [], 0), (.iconst 0, [], 0), (.aload_n 0, [], 0), (.invokevirtual 90, [17, 1, 2, 0, 8], 0), (.iconst 0, [], 0), (.invokevirtual 93, [23, 4, 2, 0, 9], 0), (.aload_n 0, [], 0), (.getfield 84, [2, 14, 0, 24], 0), (.ireturn, [0], 0)], 0)]
/-- CourtProgress$Lodger.isPossible(IZ)Z -/
def ai_c16 : List (List ai_Op × Nat) := [([(.aload_n 0, [], 0), (.iload_n 1, [], 0), (.iload_n 2, [], 0), (.iconst 0, [], 0), (.invokevirtual 79, [18, 4, 2, 0, 7], 0), (.aload_n 0, [], 0), (.iconst 1, [], 1), (.putfield 84, [2, 14, 0, 24], 0), (.aload_n 0, [], 0), (.iconst 0, [], 0), (.putfield 87, [2, 15, 0, 25], 0), (.aload_n 0, [], 0), (.iconst 0, [], 0), (.aload_n 0, [], 0), (.invokevirtual 90, [17, 1, 2, 0, 8], 0), (.iconst 0, [], 0), (.invokevirtual 93, [23, 4, 2, 0, 9], 0), (.aload_n 0, [], 0), (.getfield 84, [2, 14, 0, 24], 0), (.ifCond .ne 7, [1], 0), (.iconst 1, [], 1), (.goto 4, [2], 0)], 0),
  ([(.iconst 0, [], 0)], 2),
  ([(.ireturn, [1], 0)], 0)]
/-- CourtProgress$Lodger.everyone()I -/
def ai_c17 : List (List ai_Op × Nat) := [([(.iconst 1, [], 1), (.aload_n 0, [], 0), (.getfield 45, [2, 0, 2, 19], 0), (.getfield 64, [1, 0, 0, 22], 0), (.ishl, [], 0), (.iconst 1, [], 1), (.isub, [], 0), (.ireturn, [0], 0)], 0)]
/-- CourtProgress$Lodger.prepare(IZZ)V -/
def ai_c18 : List (List ai_Op × Nat) := [([(.aload_n 0, [], 0), (.aload_n 0, [], 0), (.getfield 49, [2, 1, 2, 20], 0), (.getfield 59, [3, 6, 2, 21], 0), (.iload_n 1, [], 0), (.iaload, [], 0), (.putfield 97, [2, 2, 0, 26], 0), (.iconst 0, [], 0), (.istore 4, [], 0)], 1),
  ([(.iload 4, [], 0), (.aload_n 0, [], 0), (.getfield 45, [2, 0, 2, 19], 0), (.getfield 64, [1, 0, 0, 22], 0), (.if_icmp .ge 49, [4], 0), (.aload_n 0, [], 0), (.getfield 33, [2, 10, 2, 15], 0), (.iload 4, [], 0), (.iload_n 3, [], 0), (.ifCond .eq 16, [2], 0), (.aload_n 0, [], 0), (.getfield 45, [2, 0, 2, 19], 0), (.getfield 99, [1, 2, 2, 27], 0), (.iload 4, [], 0), (.iaload, [], 0), (.goto 4, [3], 0)], 0),
  ([(.iconst 0, [], 0)], 3),
  ([(.iastore, [], 0), (.aload_n 0, [], 0), (.getfield 30, [2, 9, 2, 14], 0), (.iload 4, [], 0), (.iconst 1, [], 1), (.aload_n 0, [], 0), (.getfield 97, [2, 2, 0, 26], 0), (.ishl, [], 0), (.iconst 1, [], 1), (.isub, [], 0), (.iastore, [], 0), (.iinc 4 1, [], 1), (.goto (-55), [1], 0)], 0),
  ([(.aload_n 0, [], 0), (.iload_n 1, [], 0), (.invokevirtual 102, [19, 2, 2, 0, 10], 0), (.aload_n 0, [], 0), (.invokevirtual 106, [20, 1, 2, 0, 11], 0), (.iload_n 2, [], 0), (.ifCond .eq 17, [5], 0), (.aload_n 0, [], 0), (.getfield 45, [2, 0, 2, 19], 0), (.invokevirtual 109, [10, 1, 1, 0, 12], 0), (.ifCond .eq 7, [5], 0), (.iconst 1, [], 1), (.goto 4, [6], 0)], 0),
  ([(.iconst 0, [], 0)], 6),
  ([(.istore 4, [], 0), (.iconst 0, [], 0), (.istore 5, [], 0)], 7),
  ([(.iload 5, [], 0), (.aload_n 0, [], 0), (.getfield 97, [2, 2, 0, 26], 0), (.if_icmp .ge 19, [8], 0), (.aload_n 0, [], 0), (.iload_n 1, [], 0), (.iload 5, [], 0), (.iload 4, [], 0), (.iload_n 3, [], 0), (.invokevirtual 113, [21, 5, 2, 0, 13], 0), (.iinc 5 1, [], 1), (.goto (-22), [7], 0)], 0),
  ([(.return_, [], 0)], 0)]
/-- CourtProgress$Lodger.sortRooms(I)V -/
def ai_c19 : List (List ai_Op × Nat) := [([(.iconst 0, [], 0), (.istore_n 2, [], 0)], 1),
  ([(.iload_n 2, [], 0), (.aload_n 0, [], 0), (.getfield 97, [2, 2, 0, 26], 0), (.if_icmp .ge 99, [4], 0), (.aload_n 0, [], 0), (.getfield 49, [2, 1, 2, 20], 0), (.getfield 117, [3, 9, 2, 28], 0), (.iload_n 1, [], 0), (.bipush 10, [], 10), (.imul, [], 0), (.iload_n 2, [], 0), (.iadd, [], 0), (.iaload, [], 0), (.istore_n 3, [], 0), (.iload_n 2, [], 0), (.istore 4, [], 0)], 2),
  ([(.iload 4, [], 0), (.ifCond .le 54, [3], 0), (.aload_n 0, [], 0), (.getfield 15, [2, 4, 2, 9], 0), (.iload 4, [], 0), (.iconst 1, [], 1), (.isub, [], 0), (.iaload, [], 0), (.iload_n 3, [], 0), (.if_icmp .le 41, [3], 0), (.aload_n 0, [], 0), (.getfield 15, [2, 4, 2, 9], 0), (.iload 4, [], 0), (.aload_n 0, [], 0), (.getfield 15, [2, 4, 2, 9], 0), (.iload 4, [], 0), (.iconst 1, [], 1), (.isub, [], 0), (.iaload, [], 0), (.iastore, [], 0), (.aload_n 0, [], 0), (.getfield 9, [2, 3, 2, 8], 0), (.iload 4, [], 0), (.aload_n 0, [], 0), (.getfield 9, [2, 3, 2, 8], 0), (.iload 4, [], 0), (.iconst 1, [], 1), (.isub, [], 0), (.iaload, [], 0), (.iastore, [], 0), (.iinc 4 (-1), [], (-1)), (.goto (-53), [2], 0)], 0),
  ([(.aload_n 0, [], 0), (.getfield 15, [2, 4, 2, 9], 0), (.iload 4, [], 0), (.iload_n 3, [], 0), (.iastore, [], 0), (.aload_n 0, [], 0), (.getfield 9, [2, 3, 2, 8], 0), (.iload 4, [], 0), (.iload_n 2, [], 0), (.iastore, [], 0), (.iinc 2 1, [], 1), (.goto (-101), [1], 0)], 0),
  ([(.return_, [], 0)], 0)]
/-- CourtProgress$Lodger.sortHouseholds()V -/
def ai_c20 : List (List ai_Op × Nat) := [([(.iconst 0, [], 0), (.istore_n 1, [], 0)], 1),
  ([(.iload_n 1, [], 0), (.aload_n 0, [], 0), (.getfield 45, [2, 0, 2, 19], 0), (.getfield 64, [1, 0, 0, 22], 0), (.if_icmp .ge 64, [4], 0), (.iload_n 1, [], 0), (.istore_n 2, [], 0)], 2),
  ([(.iload_n 2, [], 0), (.ifCond .le 45, [3], 0), (.aload_n 0, [], 0), (.getfield 33, [2, 10, 2, 15], 0), (.aload_n 0, [], 0), (.getfield 36, [2, 11, 2, 16], 0), (.iload_n 2, [], 0), (.iconst 1, [], 1), (.isub, [], 0), (.iaload, [], 0), (.iaload, [], 0), (.aload_n 0, [], 0), (.getfield 33, [2, 10, 2, 15], 0), (.iload_n 1, [], 0), (.iaload, [], 0), (.if_icmp .ge 23, [3], 0), (.aload_n 0, [], 0), (.getfield 36, [2, 11, 2, 16], 0), (.iload_n 2, [], 0), (.aload_n 0, [], 0), (.getfield 36, [2, 11, 2, 16], 0), (.iload_n 2, [], 0), (.iconst 1, [], 1), (.isub, [], 0), (.iaload, [], 0), (.iastore, [], 0), (.iinc 2 (-1), [], (-1)), (.goto (-43), [2], 0)], 0),
  ([(.aload_n 0, [], 0), (.getfield 36, [2, 11, 2, 16], 0), (.iload_n 2, [], 0), (.iload_n 1, [], 0), (.iastore, [], 0), (.iinc 1 1, [], 1), (.goto (-69), [1], 0)], 0),
  ([(.return_, [], 0)], 0)]
/-- CourtProgress$Lodger.relate(IIZZ)V -/
def ai_c21 : List (List ai_Op × Nat) := [([(.iload_n 1, [], 0), (.bipush 10, [], 10), (.imul, [], 0), (.aload_n 0, [], 0), (.getfield 9, [2, 3, 2, 8], 0), (.iload_n 2, [], 0), (.iaload, [], 0), (.iadd, [], 0), (.istore 5, [], 0), (.aload_n 0, [], 0), (.getfield 18, [2, 5, 2, 10], 0), (.iload_n 2, [], 0), (.iconst 0, [], 0), (.iastore, [], 0), (.aload_n 0, [], 0), (.getfield 21, [2, 6, 2, 11], 0), (.iload_n 2, [], 0), (.iconst 0, [], 0), (.iastore, [], 0), (.aload_n 0, [], 0), (.getfield 24, [2, 7, 2, 12], 0), (.iload_n 2, [], 0), (.iconst 0, [], 0), (.iastore, [], 0), (.aload_n 0, [], 0), (.getfield 27, [2, 8, 2, 13], 0), (.iload_n 2, [], 0), (.iconst 0, [], 0), (.iastore, [], 0), (.iconst 0, [], 0), (.istore 6, [], 0)], 1),
  ([(.iload 6, [], 0), (.aload_n 0, [], 0), (.getfield 97, [2, 2, 0, 26], 0), (.if_icmp .ge 257, [18], 0), (.iload_n 1, [], 0), (.bipush 10, [], 10), (.imul, [], 0), (.aload_n 0, [], 0), (.getfield 9, [2, 3, 2, 8], 0), (.iload 6, [], 0), (.iaload, [], 0), (.iadd, [], 0), (.istore 7, [], 0), (.aload_n 0, [], 0), (.getfield 49, [2, 1, 2, 20], 0), (.getfield 120, [3, 8, 2, 29], 0), (.iload 7, [], 0), (.iaload, [], 0), (.aload_n 0, [], 0), (.getfield 49, [2, 1, 2, 20], 0), (.getfield 120, [3, 8, 2, 29], 0), (.iload 5, [], 0), (.iaload, [], 0), (.if_icmp .ne 7, [2], 0), (.iconst 1, [], 1), (.goto 4, [3], 0)], 0),
  ([(.iconst 0, [], 0)], 3),
  ([(.istore 8, [], 0), (.iload_n 3, [], 0), (.ifCond .eq 26, [4], 0), (.aload_n 0, [], 0), (.getfield 49, [2, 1, 2, 20], 0), (.getfield 123, [3, 7, 2, 30], 0), (.iload 7, [], 0), (.iaload, [], 0), (.aload_n 0, [], 0), (.getfield 49, [2, 1, 2, 20], 0), (.getfield 123, [3, 7, 2, 30], 0), (.iload 5, [], 0), (.iaload, [], 0), (.if_icmp .ne 7, [5], 0)], 4),
  ([(.iconst 1, [], 1), (.goto 4, [6], 0)], 0),
  ([(.iconst 0, [], 0)], 6),
  ([(.istore 9, [], 0), (.iload 4, [], 0), (.ifCond .eq 19, [7], 0), (.aload_n 0, [], 0), (.getfield 15, [2, 4, 2, 9], 0), (.iload 6, [], 0), (.iaload, [], 0), (.aload_n 0, [], 0), (.getfield 15, [2, 4, 2, 9], 0), (.iload_n 2, [], 0), (.iaload, [], 0), (.if_icmp .ne 7, [8], 0)], 7),
  ([(.iconst 1, [], 1), (.goto 4, [9], 0)], 0),
  ([(.iconst 0, [], 0)], 9),
  ([(.istore 10, [], 0), (.aload_n 0, [], 0), (.getfield 18, [2, 5, 2, 10], 0), (.iload_n 2, [], 0), (.dup2, [], 0), (.iaload, [], 0), (.iload 8, [], 0), (.iload 6, [], 0), (.invokestatic 126, [22, 2, 999, 0, 14], 0), (.ior, [], 0), (.iastore, [], 0), (.aload_n 0, [], 0), (.getfield 21, [2, 6, 2, 11], 0), (.iload_n 2, [], 0), (.dup2, [], 0), (.iaload, [], 0), (.iload_n 3, [], 0), (.ifCond .eq 26, [10], 0), (.aload_n 0, [], 0), (.getfield 49, [2, 1, 2, 20], 0), (.getfield 123, [3, 7, 2, 30], 0), (.iload 7, [], 0), (.iaload, [], 0), (.aload_n 0, [], 0), (.getfield 49, [2, 1, 2, 20], 0), (.getfield 123, [3, 7, 2, 30], 0), (.iload 5, [], 0), (.iaload, [], 0), (.if_icmp .lt 7, [11], 0)], 10),
  ([(.iconst 1, [], 1), (.goto 4, [12], 0)], 0),
  ([(.iconst 0, [], 0)], 12),
  ([(.iload 6, [], 0), (.invokestatic 126, [22, 2, 999, 0, 14], 0), (.ior, [], 0), (.iastore, [], 0), (.aload_n 0, [], 0), (.getfield 24, [2, 7, 2, 12], 0), (.iload_n 2, [], 0), (.dup2, [], 0), (.iaload, [], 0), (.iload_n 3, [], 0), (.ifCond .eq 26, [13], 0), (.aload_n 0, [], 0), (.getfield 49, [2, 1, 2, 20], 0), (.getfield 123, [3, 7, 2, 30], 0), (.iload 7, [], 0), (.iaload, [], 0), (.aload_n 0, [], 0), (.getfield 49, [2, 1, 2, 20], 0), (.getfield 123, [3, 7, 2, 30], 0), (.iload 5, [], 0), (.iaload, [], 0), (.if_icmp .gt 7, [14], 0)], 13),
  ([(.iconst 1, [], 1), (.goto 4, [15], 0)], 0),
  ([(.iconst 0, [], 0)], 15),
  ([(.iload 6, [], 0), (.invokestatic 126, [22, 2, 999, 0, 14], 0), (.ior, [], 0), (.iastore, [], 0), (.aload_n 0, [], 0), (.getfield 27, [2, 8, 2, 13], 0), (.iload_n 2, [], 0), (.dup2, [], 0), (.iaload, [], 0), (.iload 8, [], 0), (.ifCond .eq 17, [16], 0), (.iload 9, [], 0), (.ifCond .eq 12, [16], 0), (.iload 10, [], 0), (.ifCond .eq 7, [16], 0), (.iconst 1, [], 1), (.goto 4, [17], 0)], 0),
  ([(.iconst 0, [], 0)], 17),
  ([(.iload 6, [], 0), (.invokestatic 126, [22, 2, 999, 0, 14], 0), (.ior, [], 0), (.iastore, [], 0), (.iinc 6 1, [], 1), (.goto (-260), [1], 0)], 0),
  ([(.return_, [], 0)], 0)]
/-- CourtProgress$Lodger.bitIf(ZI)I -/
def ai_c22 : List (List ai_Op × Nat) := [([(.iload_n 0, [], 0), (.ifCond .eq 9, [1], 0), (.iconst 1, [], 1), (.iload_n 1, [], 0), (.ishl, [], 0), (.goto 4, [2], 0)], 0),
  ([(.iconst 0, [], 0)], 2),
  ([(.ireturn, [0], 0)], 0)]
/-- CourtProgress$Lodger.search(III)V -/
def ai_c23 : List (List ai_Op × Nat) := [([(.iload_n 2, [], 0), (.ifCond .ne 9, [1], 0), (.aload_n 0, [], 0), (.iload_n 3, [], 0), (.invokevirtual 130, [24, 2, 2, 0, 15], 0), (.return_, [], 0)], 0),
  ([(.iload_n 1, [], 0), (.bipush 8, [], 8), (.if_icmp .ge 13, [2], 0), (.aload_n 0, [], 0), (.iload_n 1, [], 0), (.iload_n 2, [], 0), (.iload_n 3, [], 0), (.invokevirtual 133, [25, 4, 2, 0, 16], 0), (.goto 4, [3], 0)], 0),
  ([(.iconst (-1), [], (-1))], 3),
  ([(.istore 4, [], 0), (.iload 4, [], 0), (.iconst (-1), [], (-1)), (.if_icmp .ne 4, [4], 0), (.return_, [], 0)], 0),
  ([(.aload_n 0, [], 0), (.getfield 30, [2, 9, 2, 14], 0), (.iload_n 1, [], 0), (.bipush 8, [], 8), (.imul, [], 0), (.iload 4, [], 0), (.iadd, [], 0), (.iaload, [], 0), (.istore 5, [], 0), (.iload_n 2, [], 0), (.iconst 1, [], 1), (.iload 4, [], 0), (.ishl, [], 0), (.iconst (-1), [], (-1)), (.ixor, [], 0), (.iand, [], 0), (.istore 6, [], 0), (.iconst 0, [], 0), (.istore 7, [], 0)], 5),
  ([(.iload 7, [], 0), (.aload_n 0, [], 0), (.getfield 97, [2, 2, 0, 26], 0), (.if_icmp .ge 82, [7], 0), (.aload_n 0, [], 0), (.getfield 84, [2, 14, 0, 24], 0), (.aload_n 0, [], 0), (.getfield 87, [2, 15, 0, 25], 0), (.if_icmp .le 71, [7], 0), (.iload 5, [], 0), (.iload 7, [], 0), (.ishr, [], 0), (.iconst 1, [], 1), (.iand, [], 0), (.iconst 1, [], 1), (.if_icmp .ne 54, [6], 0), (.iload 5, [], 0), (.aload_n 0, [], 0), (.getfield 27, [2, 8, 2, 13], 0), (.iload 7, [], 0), (.iaload, [], 0), (.iconst (-1), [], (-1)), (.ixor, [], 0), (.iand, [], 0), (.istore 5, [], 0), (.aload_n 0, [], 0), (.iload_n 1, [], 0), (.iload 4, [], 0), (.iload 7, [], 0), (.iload 6, [], 0), (.invokevirtual 137, [28, 5, 2, 0, 17], 0), (.aload_n 0, [], 0), (.iload_n 1, [], 0), (.iconst 1, [], 1), (.iadd, [], 0), (.iload 6, [], 0), (.iload_n 3, [], 0), (.aload_n 0, [], 0), (.getfield 33, [2, 10, 2, 15], 0), (.iload 4, [], 0), (.iaload, [], 0), (.aload_n 0, [], 0), (.getfield 15, [2, 4, 2, 9], 0), (.iload 7, [], 0), (.iaload, [], 0), (.imul, [], 0), (.iadd, [], 0), (.invokevirtual 93, [23, 4, 2, 0, 9], 0)], 6),
  ([(.iinc 7 1, [], 1), (.goto (-85), [5], 0)], 0),
  ([(.return_, [], 0)], 0)]
/-- CourtProgress$Lodger.keep(I)V -/
def ai_c24 : List (List ai_Op × Nat) := [([(.iload_n 1, [], 0), (.aload_n 0, [], 0), (.getfield 84, [2, 14, 0, 24], 0), (.if_icmp .ge 39, [2], 0), (.aload_n 0, [], 0), (.iload_n 1, [], 0), (.putfield 84, [2, 14, 0, 24], 0), (.iconst 0, [], 0), (.istore_n 2, [], 0)], 1),
  ([(.iload_n 2, [], 0), (.aload_n 0, [], 0), (.getfield 45, [2, 0, 2, 19], 0), (.getfield 64, [1, 0, 0, 22], 0), (.if_icmp .ge 21, [2], 0), (.aload_n 0, [], 0), (.getfield 42, [2, 13, 2, 18], 0), (.iload_n 2, [], 0), (.aload_n 0, [], 0), (.getfield 39, [2, 12, 2, 17], 0), (.iload_n 2, [], 0), (.iaload, [], 0), (.iastore, [], 0), (.iinc 2 1, [], 1), (.goto (-26), [1], 0)], 0),
  ([(.return_, [], 0)], 0)]
/-- CourtProgress$Lodger.choose(III)I -/
def ai_c25 : List (List ai_Op × Nat) := [([(.iconst (-1), [], (-1)), (.istore 4, [], 0), (.iconst (-1), [], (-1)), (.istore 5, [], 0), (.iconst 0, [], 0), (.istore 6, [], 0), (.iload_n 3, [], 0), (.istore 7, [], 0), (.iconst 0, [], 0), (.istore 8, [], 0)], 1),
  ([(.iload 8, [], 0), (.aload_n 0, [], 0), (.getfield 45, [2, 0, 2, 19], 0), (.getfield 64, [1, 0, 0, 22], 0), (.if_icmp .ge 105, [4], 0), (.aload_n 0, [], 0), (.getfield 36, [2, 11, 2, 16], 0), (.iload 8, [], 0), (.iaload, [], 0), (.istore 9, [], 0), (.iload_n 2, [], 0), (.iload 9, [], 0), (.ishr, [], 0), (.iconst 1, [], 1), (.iand, [], 0), (.iconst 1, [], 1), (.if_icmp .ne 80, [3], 0), (.aload_n 0, [], 0), (.getfield 30, [2, 9, 2, 14], 0), (.iload_n 1, [], 0), (.bipush 8, [], 8), (.imul, [], 0), (.iload 9, [], 0), (.iadd, [], 0), (.iaload, [], 0), (.istore 10, [], 0), (.iload 10, [], 0), (.ifCond .ne 5, [2], 0), (.iconst (-1), [], (-1)), (.ireturn, [0], 0)], 0),
  ([(.iload 6, [], 0), (.iload 10, [], 0), (.ior, [], 0), (.istore 6, [], 0), (.iload 7, [], 0), (.aload_n 0, [], 0), (.getfield 33, [2, 10, 2, 15], 0), (.iload 9, [], 0), (.iaload, [], 0), (.aload_n 0, [], 0), (.getfield 15, [2, 4, 2, 9], 0), (.iload 10, [], 0), (.invokestatic 141, [143, 1, 999, 0, 18], 0), (.iaload, [], 0), (.imul, [], 0), (.iadd, [], 0), (.istore 7, [], 0), (.aload_n 0, [], 0), (.iload 9, [], 0), (.iload 10, [], 0), (.iload_n 2, [], 0), (.invokevirtual 145, [26, 4, 2, 0, 19], 0), (.istore 11, [], 0), (.iload 11, [], 0), (.iload 5, [], 0), (.if_icmp .le 11, [3], 0), (.iload 11, [], 0), (.istore 5, [], 0), (.iload 9, [], 0), (.istore 4, [], 0)], 3),
  ([(.iinc 8 1, [], 1), (.goto (-111), [1], 0)], 0),
  ([(.iload 7, [], 0), (.aload_n 0, [], 0), (.getfield 84, [2, 14, 0, 24], 0), (.if_icmp .ge 19, [5], 0), (.iload_n 3, [], 0), (.aload_n 0, [], 0), (.iload_n 2, [], 0), (.iload 6, [], 0), (.invokevirtual 148, [27, 3, 2, 0, 20], 0), (.iadd, [], 0), (.aload_n 0, [], 0), (.getfield 84, [2, 14, 0, 24], 0), (.if_icmp .lt 7, [6], 0)], 5),
  ([(.iconst 1, [], 1), (.goto 4, [7], 0)], 0),
  ([(.iconst 0, [], 0)], 7),
  ([(.istore 8, [], 0), (.iload 8, [], 0), (.ifCond .eq 7, [8], 0), (.iconst (-1), [], (-1)), (.goto 5, [9], 0)], 0),
  ([(.iload 4, [], 0)], 9),
  ([(.ireturn, [0], 0)], 0)]
/-- CourtProgress$Lodger.hardship(III)I -/
def ai_c26 : List (List ai_Op × Nat) := [([(.bipush 10, [], 10), (.iload_n 2, [], 0), (.invokestatic 152, [210, 1, 999, 0, 21], 0), (.isub, [], 0), (.istore 4, [], 0), (.iload 4, [], 0), (.bipush 8, [], 8), (.imul, [], 0), (.aload_n 0, [], 0), (.getfield 45, [2, 0, 2, 19], 0), (.getfield 157, [1, 4, 2, 31], 0), (.iload_n 1, [], 0), (.iaload, [], 0), (.iload_n 3, [], 0), (.iand, [], 0), (.invokestatic 152, [210, 1, 999, 0, 21], 0), (.iadd, [], 0), (.ireturn, [0], 0)], 0)]
/-- CourtProgress$Lodger.leastTogether(II)I -/
def ai_c27 : List (List ai_Op × Nat) := [([(.iconst 0, [], 0), (.istore_n 3, [], 0), (.iconst 0, [], 0), (.istore 4, [], 0), (.iconst 0, [], 0), (.istore 5, [], 0)], 1),
  ([(.iload 5, [], 0), (.aload_n 0, [], 0), (.getfield 45, [2, 0, 2, 19], 0), (.getfield 64, [1, 0, 0, 22], 0), (.if_icmp .ge 85, [6], 0), (.aload_n 0, [], 0), (.getfield 36, [2, 11, 2, 16], 0), (.iload 5, [], 0), (.iaload, [], 0), (.istore 6, [], 0), (.iload_n 1, [], 0), (.iload 6, [], 0), (.ishr, [], 0), (.iconst 1, [], 1), (.iand, [], 0), (.iconst 1, [], 1), (.if_icmp .ne 60, [5], 0)], 2),
  ([(.iload 4, [], 0), (.aload_n 0, [], 0), (.getfield 97, [2, 2, 0, 26], 0), (.if_icmp .ge 18, [3], 0), (.iload_n 2, [], 0), (.iload 4, [], 0), (.ishr, [], 0), (.iconst 1, [], 1), (.iand, [], 0), (.ifCond .ne 9, [3], 0), (.iinc 4 1, [], 1), (.goto (-21), [2], 0)], 0),
  ([(.iload 4, [], 0), (.aload_n 0, [], 0), (.getfield 97, [2, 2, 0, 26], 0), (.if_icmp .lt 6, [4], 0), (.ldc 83, [], 1000000), (.ireturn, [0], 0)], 0),
  ([(.iload_n 3, [], 0), (.aload_n 0, [], 0), (.getfield 33, [2, 10, 2, 15], 0), (.iload 6, [], 0), (.iaload, [], 0), (.aload_n 0, [], 0), (.getfield 15, [2, 4, 2, 9], 0), (.iload 4, [], 0), (.iaload, [], 0), (.imul, [], 0), (.iadd, [], 0), (.istore_n 3, [], 0), (.iinc 4 1, [], 1)], 5),
  ([(.iinc 5 1, [], 1), (.goto (-91), [1], 0)], 0),
  ([(.iload_n 3, [], 0), (.ireturn, [0], 0)], 0)]
/-- CourtProgress$Lodger.give(IIII)V -/
def ai_c28 : List (List ai_Op × Nat) := [([(.aload_n 0, [], 0), (.getfield 39, [2, 12, 2, 17], 0), (.iload_n 2, [], 0), (.iload_n 3, [], 0), (.iastore, [], 0), (.iload_n 1, [], 0), (.bipush 8, [], 8), (.imul, [], 0), (.istore 5, [], 0), (.iconst 0, [], 0), (.istore 6, [], 0)], 1),
  ([(.iload 6, [], 0), (.aload_n 0, [], 0), (.getfield 45, [2, 0, 2, 19], 0), (.getfield 64, [1, 0, 0, 22], 0), (.if_icmp .ge 153, [6], 0), (.iload 4, [], 0), (.iload 6, [], 0), (.ishr, [], 0), (.iconst 1, [], 1), (.iand, [], 0), (.iconst 1, [], 1), (.if_icmp .ne 136, [5], 0), (.aload_n 0, [], 0), (.getfield 30, [2, 9, 2, 14], 0), (.iload 5, [], 0), (.iload 6, [], 0), (.iadd, [], 0), (.iaload, [], 0), (.iconst 1, [], 1), (.iload_n 3, [], 0), (.ishl, [], 0), (.iconst (-1), [], (-1)), (.ixor, [], 0), (.iand, [], 0), (.istore 7, [], 0), (.aload_n 0, [], 0), (.getfield 45, [2, 0, 2, 19], 0), (.getfield 157, [1, 4, 2, 31], 0), (.iload_n 2, [], 0), (.iaload, [], 0), (.iload 6, [], 0), (.ishr, [], 0), (.iconst 1, [], 1), (.iand, [], 0), (.iconst 1, [], 1), (.if_icmp .ne 16, [2], 0), (.iload 7, [], 0), (.aload_n 0, [], 0), (.getfield 18, [2, 5, 2, 10], 0), (.iload_n 3, [], 0), (.iaload, [], 0), (.iconst (-1), [], (-1)), (.ixor, [], 0), (.iand, [], 0), (.istore 7, [], 0)], 2),
  ([(.aload_n 0, [], 0), (.getfield 45, [2, 0, 2, 19], 0), (.getfield 160, [1, 1, 2, 32], 0), (.iload 6, [], 0), (.iaload, [], 0), (.aload_n 0, [], 0), (.getfield 45, [2, 0, 2, 19], 0), (.getfield 160, [1, 1, 2, 32], 0), (.iload_n 2, [], 0), (.iaload, [], 0), (.if_icmp .le 17, [3], 0), (.iload 7, [], 0), (.aload_n 0, [], 0), (.getfield 21, [2, 6, 2, 11], 0), (.iload_n 3, [], 0), (.iaload, [], 0), (.iand, [], 0), (.istore 7, [], 0), (.goto 36, [4], 0)], 0),
  ([(.aload_n 0, [], 0), (.getfield 45, [2, 0, 2, 19], 0), (.getfield 160, [1, 1, 2, 32], 0), (.iload 6, [], 0), (.iaload, [], 0), (.aload_n 0, [], 0), (.getfield 45, [2, 0, 2, 19], 0), (.getfield 160, [1, 1, 2, 32], 0), (.iload_n 2, [], 0), (.iaload, [], 0), (.if_icmp .ge 14, [4], 0), (.iload 7, [], 0), (.aload_n 0, [], 0), (.getfield 24, [2, 7, 2, 12], 0), (.iload_n 3, [], 0), (.iaload, [], 0), (.iand, [], 0), (.istore 7, [], 0)], 4),
  ([(.aload_n 0, [], 0), (.getfield 30, [2, 9, 2, 14], 0), (.iload 5, [], 0), (.bipush 8, [], 8), (.iadd, [], 0), (.iload 6, [], 0), (.iadd, [], 0), (.iload 7, [], 0), (.iastore, [], 0)], 5),
  ([(.iinc 6 1, [], 1), (.goto (-159), [1], 0)], 0),
  ([(.return_, [], 0)], 0)]
/-- CourtProgress$Lodger.preferLesserRooms(I)V -/
def ai_c29 : List (List ai_Op × Nat) := [([(.aload_n 0, [], 0), (.invokevirtual 90, [17, 1, 2, 0, 8], 0), (.istore_n 2, [], 0), (.iconst 0, [], 0), (.istore_n 3, [], 0), (.iconst 0, [], 0), (.istore 4, [], 0)], 1),
  ([(.iload 4, [], 0), (.aload_n 0, [], 0), (.getfield 45, [2, 0, 2, 19], 0), (.getfield 64, [1, 0, 0, 22], 0), (.if_icmp .ge 66, [2], 0), (.iload_n 2, [], 0), (.iconst 1, [], 1), (.iload 4, [], 0), (.ishl, [], 0), (.iconst (-1), [], (-1)), (.ixor, [], 0), (.iand, [], 0), (.istore_n 2, [], 0), (.aload_n 0, [], 0), (.iload 4, [], 0), (.iload_n 2, [], 0), (.iload_n 3, [], 0), (.iload_n 1, [], 0), (.invokevirtual 163, [30, 5, 2, 0, 22], 0), (.aload_n 0, [], 0), (.iload 4, [], 0), (.iload 4, [], 0), (.aload_n 0, [], 0), (.getfield 42, [2, 13, 2, 18], 0), (.iload 4, [], 0), (.iaload, [], 0), (.iload_n 2, [], 0), (.invokevirtual 137, [28, 5, 2, 0, 17], 0), (.iload_n 3, [], 0), (.aload_n 0, [], 0), (.getfield 33, [2, 10, 2, 15], 0), (.iload 4, [], 0), (.iaload, [], 0), (.aload_n 0, [], 0), (.getfield 15, [2, 4, 2, 9], 0), (.aload_n 0, [], 0), (.getfield 42, [2, 13, 2, 18], 0), (.iload 4, [], 0), (.iaload, [], 0), (.iaload, [], 0), (.imul, [], 0), (.iadd, [], 0), (.istore_n 3, [], 0), (.iinc 4 1, [], 1), (.goto (-72), [1], 0)], 0),
  ([(.return_, [], 0)], 0)]
/-- CourtProgress$Lodger.findLesserRoom(IIII)V -/
def ai_c30 : List (List ai_Op × Nat) := [([(.aload_n 0, [], 0), (.getfield 9, [2, 3, 2, 8], 0), (.aload_n 0, [], 0), (.getfield 42, [2, 13, 2, 18], 0), (.iload_n 1, [], 0), (.iaload, [], 0), (.iaload, [], 0), (.istore 5, [], 0), (.iconst 0, [], 0), (.istore 6, [], 0)], 1),
  ([(.iload 6, [], 0), (.iload 5, [], 0), (.if_icmp .ge 94, [3], 0), (.aload_n 0, [], 0), (.iload 6, [], 0), (.invokevirtual 166, [31, 2, 2, 0, 23], 0), (.istore 7, [], 0), (.aload_n 0, [], 0), (.getfield 30, [2, 9, 2, 14], 0), (.iload_n 1, [], 0), (.bipush 8, [], 8), (.imul, [], 0), (.iload_n 1, [], 0), (.iadd, [], 0), (.iaload, [], 0), (.iload 7, [], 0), (.ishr, [], 0), (.iconst 1, [], 1), (.iand, [], 0), (.iconst 1, [], 1), (.if_icmp .ne 60, [2], 0), (.aload_n 0, [], 0), (.iload 4, [], 0), (.iconst 1, [], 1), (.iadd, [], 0), (.putfield 84, [2, 14, 0, 24], 0), (.aload_n 0, [], 0), (.iload 4, [], 0), (.putfield 87, [2, 15, 0, 25], 0), (.aload_n 0, [], 0), (.iload_n 1, [], 0), (.iload_n 1, [], 0), (.iload 7, [], 0), (.iload_n 2, [], 0), (.invokevirtual 137, [28, 5, 2, 0, 17], 0), (.aload_n 0, [], 0), (.iload_n 1, [], 0), (.iconst 1, [], 1), (.iadd, [], 0), (.iload_n 2, [], 0), (.iload_n 3, [], 0), (.aload_n 0, [], 0), (.getfield 33, [2, 10, 2, 15], 0), (.iload_n 1, [], 0), (.iaload, [], 0), (.aload_n 0, [], 0), (.getfield 15, [2, 4, 2, 9], 0), (.iload 7, [], 0), (.iaload, [], 0), (.imul, [], 0), (.iadd, [], 0), (.invokevirtual 93, [23, 4, 2, 0, 9], 0), (.aload_n 0, [], 0), (.getfield 84, [2, 14, 0, 24], 0), (.iload 4, [], 0), (.if_icmp .ne 4, [2], 0), (.return_, [], 0)], 0),
  ([(.iinc 6 1, [], 1), (.goto (-95), [1], 0)], 0),
  ([(.return_, [], 0)], 0)]
/-- CourtProgress$Lodger.spotOfRoom(I)I -/
def ai_c31 : List (List ai_Op × Nat) := [([(.iconst 0, [], 0), (.istore_n 2, [], 0), (.iconst 0, [], 0), (.istore_n 3, [], 0)], 1),
  ([(.iload_n 3, [], 0), (.aload_n 0, [], 0), (.getfield 97, [2, 2, 0, 26], 0), (.if_icmp .ge 21, [3], 0), (.aload_n 0, [], 0), (.getfield 9, [2, 3, 2, 8], 0), (.iload_n 3, [], 0), (.iaload, [], 0), (.iload_n 1, [], 0), (.if_icmp .ne 5, [2], 0), (.iload_n 3, [], 0), (.istore_n 2, [], 0)], 2),
  ([(.iinc 3 1, [], 1), (.goto (-23), [1], 0)], 0),
  ([(.iload_n 2, [], 0), (.ireturn, [0], 0)], 0)]
/-- CourtProgress$Places.<init>()V -/
def ai_c32 : List (List ai_Op × Nat) := [([(.aload_n 0, [], 0), (.invokespecial 3, [998, 1, 999, 0, 0], 0), (.aload_n 0, [], 0), (.bipush 9, [], 9), (.newarray .int, [1], 0), (.putfield 9, [3, 1, 2, 33], 0), (.aload_n 0, [], 0), (.bipush 9, [], 9), (.newarray .int, [1], 0), (.putfield 15, [3, 2, 2, 34], 0), (.aload_n 0, [], 0), (.bipush 9, [], 9), (.newarray .int, [1], 0), (.putfield 18, [3, 3, 2, 35], 0), (.aload_n 0, [], 0), (.bipush 9, [], 9), (.newarray .int, [1], 0), (.putfield 21, [3, 4, 2, 36], 0), (.aload_n 0, [], 0), (.bipush 9, [], 9), (.newarray .int, [1], 0), (.putfield 24, [3, 5, 2, 37], 0), (.aload_n 0, [], 0), (.bipush 9, [], 9), (.newarray .int, [1], 0), (.putfield 27, [3, 6, 2, 38], 0), (.aload_n 0, [], 0), (.bipush 90, [], 90), (.newarray .int, [1], 0), (.putfield 30, [3, 7, 2, 39], 0), (.aload_n 0, [], 0), (.bipush 90, [], 90), (.newarray .int, [1], 0), (.putfield 33, [3, 8, 2, 40], 0), (.aload_n 0, [], 0), (.bipush 90, [], 90), (.newarray .int, [1], 0), (.putfield 36, [3, 9, 2, 41], 0), (.aload_n 0, [], 0), (.bipush 81, [], 81), (.newarray .int, [1], 0), (.putfield 39, [3, 10, 2, 42], 0), (.return_, [], 0)], 0)]
/-- CourtProgress$Places.has(I)Z -/
def ai_c33 : List (List ai_Op × Nat) := [([(.iload_n 1, [], 0), (.ifCond .lt 15, [1], 0), (.iload_n 1, [], 0), (.aload_n 0, [], 0), (.getfield 42, [3, 0, 0, 43], 0), (.if_icmp .ge 7, [1], 0), (.iconst 1, [], 1), (.goto 4, [2], 0)], 0),
  ([(.iconst 0, [], 0)], 2),
  ([(.ireturn, [1], 0)], 0)]
/-- CourtProgress$Places.add(III)I -/
def ai_c34 : List (List ai_Op × Nat) := [([(.aload_n 0, [], 0), (.getfield 42, [3, 0, 0, 43], 0), (.bipush 9, [], 9), (.if_icmp .lt 5, [1], 0), (.iconst (-1), [], (-1)), (.ireturn, [0], 0)], 0),
  ([(.aload_n 0, [], 0), (.getfield 9, [3, 1, 2, 33], 0), (.aload_n 0, [], 0), (.getfield 42, [3, 0, 0, 43], 0), (.iload_n 1, [], 0), (.iastore, [], 0), (.aload_n 0, [], 0), (.getfield 15, [3, 2, 2, 34], 0), (.aload_n 0, [], 0), (.getfield 42, [3, 0, 0, 43], 0), (.iload_n 2, [], 0), (.iastore, [], 0), (.aload_n 0, [], 0), (.getfield 18, [3, 3, 2, 35], 0), (.aload_n 0, [], 0), (.getfield 42, [3, 0, 0, 43], 0), (.iload_n 3, [], 0), (.iastore, [], 0), (.aload_n 0, [], 0), (.dup, [], 0), (.getfield 42, [3, 0, 0, 43], 0), (.iconst 1, [], 1), (.iadd, [], 0), (.putfield 42, [3, 0, 0, 43], 0), (.aload_n 0, [], 0), (.getfield 42, [3, 0, 0, 43], 0), (.iconst 1, [], 1), (.isub, [], 0), (.ireturn, [0], 0)], 0)]
/-- CourtProgress$Places.addRoom(IIII)I -/
def ai_c35 : List (List ai_Op × Nat) := [([(.aload_n 0, [], 0), (.iload_n 1, [], 0), (.invokevirtual 46, [33, 2, 3, 0, 24], 0), (.ifCond .eq 14, [1], 0), (.aload_n 0, [], 0), (.getfield 27, [3, 6, 2, 38], 0), (.iload_n 1, [], 0), (.iaload, [], 0), (.bipush 10, [], 10), (.if_icmp .lt 5, [2], 0)], 1),
  ([(.iconst (-1), [], (-1)), (.ireturn, [0], 0)], 0),
  ([(.iload_n 1, [], 0), (.bipush 10, [], 10), (.imul, [], 0), (.aload_n 0, [], 0), (.getfield 27, [3, 6, 2, 38], 0), (.iload_n 1, [], 0), (.iaload, [], 0), (.iadd, [], 0), (.istore 5, [], 0), (.aload_n 0, [], 0), (.getfield 30, [3, 7, 2, 39], 0), (.iload 5, [], 0), (.iload_n 2, [], 0), (.iastore, [], 0), (.aload_n 0, [], 0), (.getfield 33, [3, 8, 2, 40], 0), (.iload 5, [], 0), (.iload_n 3, [], 0), (.iastore, [], 0), (.aload_n 0, [], 0), (.getfield 36, [3, 9, 2, 41], 0), (.iload 5, [], 0), (.iload 4, [], 0), (.iastore, [], 0), (.aload_n 0, [], 0), (.getfield 27, [3, 6, 2, 38], 0), (.iload_n 1, [], 0), (.dup2, [], 0), (.iaload, [], 0), (.iconst 1, [], 1), (.iadd, [], 0), (.iastore, [], 0), (.aload_n 0, [], 0), (.getfield 27, [3, 6, 2, 38], 0), (.iload_n 1, [], 0), (.iaload, [], 0), (.iconst 1, [], 1), (.isub, [], 0), (.ireturn, [0], 0)], 0)]
/-- CourtProgress$Places.setWay(III)V -/
def ai_c36 : List (List ai_Op × Nat) := [([(.aload_n 0, [], 0), (.iload_n 1, [], 0), (.invokevirtual 46, [33, 2, 3, 0, 24], 0), (.ifCond .eq 35, [1], 0), (.aload_n 0, [], 0), (.iload_n 2, [], 0), (.invokevirtual 46, [33, 2, 3, 0, 24], 0), (.ifCond .eq 27, [1], 0), (.aload_n 0, [], 0), (.getfield 39, [3, 10, 2, 42], 0), (.iload_n 1, [], 0), (.bipush 9, [], 9), (.imul, [], 0), (.iload_n 2, [], 0), (.iadd, [], 0), (.iload_n 3, [], 0), (.iastore, [], 0), (.aload_n 0, [], 0), (.getfield 39, [3, 10, 2, 42], 0), (.iload_n 2, [], 0), (.bipush 9, [], 9), (.imul, [], 0), (.iload_n 1, [], 0), (.iadd, [], 0), (.iload_n 3, [], 0), (.iastore, [], 0)], 1),
  ([(.return_, [], 0)], 0)]
/-- CourtProgress$Places.hoursOn(III)I -/
def ai_c37 : List (List ai_Op × Nat) := [([(.aload_n 0, [], 0), (.iload_n 1, [], 0), (.invokevirtual 46, [33, 2, 3, 0, 24], 0), (.ifCond .eq 11, [1], 0), (.aload_n 0, [], 0), (.iload_n 2, [], 0), (.invokevirtual 46, [33, 2, 3, 0, 24], 0), (.ifCond .ne 5, [2], 0)], 1),
  ([(.iconst 0, [], 0), (.ireturn, [0], 0)], 0),
  ([(.aload_n 0, [], 0), (.getfield 39, [3, 10, 2, 42], 0), (.iload_n 1, [], 0), (.bipush 9, [], 9), (.imul, [], 0), (.iload_n 2, [], 0), (.iadd, [], 0), (.iaload, [], 0), (.iconst 4, [], 4), (.iload_n 3, [], 0), (.iadd, [], 0), (.imul, [], 0), (.iconst 4, [], 4), (.idiv, [], 0), (.istore 4, [], 0), (.iload 4, [], 0), (.bipush 16, [], 16), (.if_icmp .le 7, [3], 0), (.iconst 0, [], 0), (.goto 5, [4], 0)], 0),
  ([(.iload 4, [], 0)], 4),
  ([(.ireturn, [0], 0)], 0)]
/-- CourtProgress$Places.supply(I)I -/
def ai_c38 : List (List ai_Op × Nat) := [([(.aload_n 0, [], 0), (.iload_n 1, [], 0), (.invokevirtual 46, [33, 2, 3, 0, 24], 0), (.ifCond .eq 21, [1], 0), (.aload_n 0, [], 0), (.getfield 9, [3, 1, 2, 33], 0), (.iload_n 1, [], 0), (.iaload, [], 0), (.aload_n 0, [], 0), (.getfield 15, [3, 2, 2, 34], 0), (.iload_n 1, [], 0), (.iaload, [], 0), (.invokestatic 50, [212, 2, 999, 0, 25], 0), (.goto 4, [2], 0)], 0),
  ([(.iconst 0, [], 0)], 2),
  ([(.ireturn, [0], 0)], 0)]
/-- CourtProgress$Places.take(II)I -/
def ai_c39 : List (List ai_Op × Nat) := [([(.aload_n 0, [], 0), (.iload_n 1, [], 0), (.invokevirtual 46, [33, 2, 3, 0, 24], 0), (.ifCond .ne 5, [1], 0), (.iload_n 2, [], 0), (.ireturn, [0], 0)], 0),
  ([(.iload_n 2, [], 0), (.aload_n 0, [], 0), (.iload_n 1, [], 0), (.invokevirtual 56, [38, 2, 3, 0, 26], 0), (.invokestatic 50, [212, 2, 999, 0, 25], 0), (.istore_n 3, [], 0), (.aload_n 0, [], 0), (.getfield 9, [3, 1, 2, 33], 0), (.iload_n 1, [], 0), (.dup2, [], 0), (.iaload, [], 0), (.iload_n 3, [], 0), (.isub, [], 0), (.iastore, [], 0), (.aload_n 0, [], 0), (.getfield 15, [3, 2, 2, 34], 0), (.iload_n 1, [], 0), (.dup2, [], 0), (.iaload, [], 0), (.iload_n 3, [], 0), (.isub, [], 0), (.iastore, [], 0), (.aload_n 0, [], 0), (.getfield 21, [3, 4, 2, 36], 0), (.iload_n 1, [], 0), (.dup2, [], 0), (.iaload, [], 0), (.iload_n 3, [], 0), (.iadd, [], 0), (.iastore, [], 0), (.aload_n 0, [], 0), (.getfield 24, [3, 5, 2, 37], 0), (.iload_n 1, [], 0), (.dup2, [], 0), (.iaload, [], 0), (.iconst 1, [], 1), (.iadd, [], 0), (.iastore, [], 0), (.iload_n 2, [], 0), (.iload_n 3, [], 0), (.isub, [], 0), (.ireturn, [0], 0)], 0)]
/-- CourtProgress$Places.fact(II)I -/
def ai_c40 : List (List ai_Op × Nat) := [([(.aload_n 0, [], 0), (.iload_n 1, [], 0), (.invokevirtual 46, [33, 2, 3, 0, 24], 0), (.ifCond .ne 5, [1], 0), (.iconst (-1), [], (-1)), (.ireturn, [0], 0)], 0),
  ([(.iload_n 2, [], 0), (.tableswitch 68 0 4 #[33, 40, 47, 54, 61], [7, 2, 3, 4, 5, 6], 0)], 0),
  ([(.aload_n 0, [], 0), (.getfield 9, [3, 1, 2, 33], 0), (.iload_n 1, [], 0), (.iaload, [], 0), (.ireturn, [0], 0)], 0),
  ([(.aload_n 0, [], 0), (.getfield 15, [3, 2, 2, 34], 0), (.iload_n 1, [], 0), (.iaload, [], 0), (.ireturn, [0], 0)], 0),
  ([(.aload_n 0, [], 0), (.getfield 21, [3, 4, 2, 36], 0), (.iload_n 1, [], 0), (.iaload, [], 0), (.ireturn, [0], 0)], 0),
  ([(.aload_n 0, [], 0), (.getfield 27, [3, 6, 2, 38], 0), (.iload_n 1, [], 0), (.iaload, [], 0), (.ireturn, [0], 0)], 0),
  ([(.aload_n 0, [], 0), (.getfield 24, [3, 5, 2, 37], 0), (.iload_n 1, [], 0), (.iaload, [], 0), (.ireturn, [0], 0)], 0),
  ([(.iconst (-1), [], (-1)), (.ireturn, [0], 0)], 0)]
/-- CourtProgress$Pleas.<init>()V -/
def ai_c41 : List (List ai_Op × Nat) := [([(.aload_n 0, [], 0), (.invokespecial 3, [998, 1, 999, 0, 0], 0), (.aload_n 0, [], 0), (.bipush 60, [], 60), (.newarray .int, [1], 0), (.putfield 11, [4, 2, 2, 44], 0), (.aload_n 0, [], 0), (.bipush 60, [], 60), (.newarray .int, [1], 0), (.putfield 15, [4, 3, 2, 45], 0), (.aload_n 0, [], 0), (.bipush 60, [], 60), (.newarray .int, [1], 0), (.putfield 18, [4, 4, 2, 46], 0), (.return_, [], 0)], 0)]
/-- CourtProgress$Pleas.add(II)I -/
def ai_c42 : List (List ai_Op × Nat) := [([(.aload_n 0, [], 0), (.getfield 21, [4, 0, 0, 47], 0), (.bipush 60, [], 60), (.if_icmp .lt 5, [1], 0), (.iconst (-1), [], (-1)), (.ireturn, [0], 0)], 0),
  ([(.aload_n 0, [], 0), (.getfield 11, [4, 2, 2, 44], 0), (.aload_n 0, [], 0), (.getfield 21, [4, 0, 0, 47], 0), (.iload_n 1, [], 0), (.iload_n 2, [], 0), (.isub, [], 0), (.iastore, [], 0), (.aload_n 0, [], 0), (.getfield 15, [4, 3, 2, 45], 0), (.aload_n 0, [], 0), (.getfield 21, [4, 0, 0, 47], 0), (.bipush (-2), [], (-2)), (.iastore, [], 0), (.aload_n 0, [], 0), (.getfield 25, [4, 1, 0, 48], 0), (.istore_n 3, [], 0)], 2),
  ([(.iload_n 3, [], 0), (.ifCond .le 48, [3], 0), (.aload_n 0, [], 0), (.getfield 11, [4, 2, 2, 44], 0), (.aload_n 0, [], 0), (.getfield 18, [4, 4, 2, 46], 0), (.iload_n 3, [], 0), (.iconst 1, [], 1), (.isub, [], 0), (.iaload, [], 0), (.iaload, [], 0), (.aload_n 0, [], 0), (.getfield 11, [4, 2, 2, 44], 0), (.aload_n 0, [], 0), (.getfield 21, [4, 0, 0, 47], 0), (.iaload, [], 0), (.if_icmp .ge 23, [3], 0), (.aload_n 0, [], 0), (.getfield 18, [4, 4, 2, 46], 0), (.iload_n 3, [], 0), (.aload_n 0, [], 0), (.getfield 18, [4, 4, 2, 46], 0), (.iload_n 3, [], 0), (.iconst 1, [], 1), (.isub, [], 0), (.iaload, [], 0), (.iastore, [], 0), (.iinc 3 (-1), [], (-1)), (.goto (-46), [2], 0)], 0),
  ([(.aload_n 0, [], 0), (.getfield 18, [4, 4, 2, 46], 0), (.iload_n 3, [], 0), (.aload_n 0, [], 0), (.getfield 21, [4, 0, 0, 47], 0), (.iastore, [], 0), (.aload_n 0, [], 0), (.dup, [], 0), (.getfield 25, [4, 1, 0, 48], 0), (.iconst 1, [], 1), (.iadd, [], 0), (.putfield 25, [4, 1, 0, 48], 0), (.aload_n 0, [], 0), (.dup, [], 0), (.getfield 21, [4, 0, 0, 47], 0), (.iconst 1, [], 1), (.iadd, [], 0), (.putfield 21, [4, 0, 0, 47], 0), (.aload_n 0, [], 0), (.getfield 21, [4, 0, 0, 47], 0), (.iconst 1, [], 1), (.isub, [], 0), (.ireturn, [0], 0)], 0)]
/-- CourtProgress$Pleas.hearFirst(II)I -/
def ai_c43 : List (List ai_Op × Nat) := [([(.iload_n 1, [], 0), (.aload_n 0, [], 0), (.getfield 25, [4, 1, 0, 48], 0), (.invokestatic 28, [212, 2, 999, 0, 27], 0), (.istore_n 3, [], 0), (.iconst 0, [], 0), (.istore 4, [], 0)], 1),
  ([(.iload 4, [], 0), (.iload_n 3, [], 0), (.if_icmp .ge 22, [2], 0), (.aload_n 0, [], 0), (.getfield 15, [4, 3, 2, 45], 0), (.aload_n 0, [], 0), (.getfield 18, [4, 4, 2, 46], 0), (.iload 4, [], 0), (.iaload, [], 0), (.iload_n 2, [], 0), (.iastore, [], 0), (.iinc 4 1, [], 1), (.goto (-22), [1], 0)], 0),
  ([(.iload_n 3, [], 0), (.istore 4, [], 0)], 3),
  ([(.iload 4, [], 0), (.aload_n 0, [], 0), (.getfield 25, [4, 1, 0, 48], 0), (.if_icmp .ge 25, [4], 0), (.aload_n 0, [], 0), (.getfield 18, [4, 4, 2, 46], 0), (.iload 4, [], 0), (.iload_n 3, [], 0), (.isub, [], 0), (.aload_n 0, [], 0), (.getfield 18, [4, 4, 2, 46], 0), (.iload 4, [], 0), (.iaload, [], 0), (.iastore, [], 0), (.iinc 4 1, [], 1), (.goto (-28), [3], 0)], 0),
  ([(.aload_n 0, [], 0), (.dup, [], 0), (.getfield 25, [4, 1, 0, 48], 0), (.iload_n 3, [], 0), (.isub, [], 0), (.putfield 25, [4, 1, 0, 48], 0), (.iload_n 3, [], 0), (.ireturn, [0], 0)], 0)]
/-- CourtProgress$Pleas.dayHeard(I)I -/
def ai_c44 : List (List ai_Op × Nat) := [([(.iload_n 1, [], 0), (.ifCond .lt 20, [1], 0), (.iload_n 1, [], 0), (.aload_n 0, [], 0), (.getfield 21, [4, 0, 0, 47], 0), (.if_icmp .ge 12, [1], 0), (.aload_n 0, [], 0), (.getfield 15, [4, 3, 2, 45], 0), (.iload_n 1, [], 0), (.iaload, [], 0), (.goto 4, [2], 0)], 0),
  ([(.iconst (-1), [], (-1))], 2),
  ([(.ireturn, [0], 0)], 0)]
/-- CourtProgress$Pleas.inTurn(I)I -/
def ai_c45 : List (List ai_Op × Nat) := [([(.iload_n 1, [], 0), (.ifCond .lt 20, [1], 0), (.iload_n 1, [], 0), (.aload_n 0, [], 0), (.getfield 25, [4, 1, 0, 48], 0), (.if_icmp .ge 12, [1], 0), (.aload_n 0, [], 0), (.getfield 18, [4, 4, 2, 46], 0), (.iload_n 1, [], 0), (.iaload, [], 0), (.goto 4, [2], 0)], 0),
  ([(.iconst (-1), [], (-1))], 2),
  ([(.ireturn, [0], 0)], 0)]
/-- CourtProgress$Router.<init>(LCourtProgress$Places;LCourtProgress$Calendar;LCourtProgress$Statutes;)V -/
def ai_c46 : List (List ai_Op × Nat) := [([(.aload_n 0, [], 0), (.invokespecial 3, [998, 1, 999, 0, 0], 0), (.aload_n 0, [], 0), (.bipush 21, [], 21), (.newarray .int, [1], 0), (.putfield 11, [5, 6, 2, 49], 0), (.aload_n 0, [], 0), (.bipush 21, [], 21), (.newarray .int, [1], 0), (.putfield 15, [5, 7, 2, 50], 0), (.aload_n 0, [], 0), (.sipush 189, [], 189), (.newarray .int, [1], 0), (.putfield 18, [5, 8, 2, 51], 0), (.aload_n 0, [], 0), (.iconst 0, [], 0), (.newarray .int, [4], 0), (.putfield 21, [5, 9, 2, 52], 0), (.aload_n 0, [], 0), (.bipush 21, [], 21), (.newarray .int, [1], 0), (.putfield 24, [5, 11, 2, 53], 0), (.aload_n 0, [], 0), (.aload_n 1, [], 0), (.putfield 27, [5, 0, 2, 54], 0), (.aload_n 0, [], 0), (.aload_n 2, [], 0), (.putfield 31, [5, 1, 2, 55], 0), (.aload_n 0, [], 0), (.aload_n 3, [], 0), (.putfield 35, [5, 2, 2, 56], 0), (.aload_n 0, [], 0), (.iconst (-1), [], (-1)), (.putfield 39, [5, 13, 0, 57], 0), (.return_, [], 0)], 0)]
/-- CourtProgress$Router.stopOn(I)I -/
def ai_c47 : List (List ai_Op × Nat) := [([(.iload_n 1, [], 0), (.aload_n 0, [], 0), (.getfield 43, [5, 12, 0, 58], 0), (.if_icmp .lt 26, [1], 0), (.iload_n 1, [], 0), (.aload_n 0, [], 0), (.getfield 39, [5, 13, 0, 57], 0), (.if_icmp .gt 18, [1], 0), (.iload_n 1, [], 0), (.aload_n 0, [], 0), (.getfield 43, [5, 12, 0, 58], 0), (.isub, [], 0), (.bipush 21, [], 21), (.if_icmp .ge 7, [1], 0), (.iconst 1, [], 1), (.goto 4, [2], 0)], 0),
  ([(.iconst 0, [], 0)], 2),
  ([(.istore_n 2, [], 0), (.iload_n 2, [], 0), (.ifCond .eq 17, [3], 0), (.aload_n 0, [], 0), (.getfield 24, [5, 11, 2, 53], 0), (.iload_n 1, [], 0), (.aload_n 0, [], 0), (.getfield 43, [5, 12, 0, 58], 0), (.isub, [], 0), (.iaload, [], 0), (.goto 4, [4], 0)], 0),
  ([(.iconst (-1), [], (-1))], 4),
  ([(.ireturn, [0], 0)], 0)]
/-- CourtProgress$Router.leastHours(III)I -/
def ai_c48 : List (List ai_Op × Nat) := [([(.aload_n 0, [], 0), (.getfield 27, [5, 0, 2, 54], 0), (.iload_n 3, [], 0), (.invokevirtual 46, [33, 2, 3, 0, 28], 0), (.ifCond .eq 16, [1], 0), (.iload_n 2, [], 0), (.iload_n 1, [], 0), (.if_icmp .lt 11, [1], 0), (.iload_n 2, [], 0), (.iload_n 1, [], 0), (.isub, [], 0), (.bipush 21, [], 21), (.if_icmp .lt 5, [2], 0)], 1),
  ([(.iconst (-1), [], (-1)), (.ireturn, [0], 0)], 0),
  ([(.aload_n 0, [], 0), (.iload_n 1, [], 0), (.putfield 52, [5, 3, 0, 59], 0), (.aload_n 0, [], 0), (.iload_n 2, [], 0), (.iload_n 1, [], 0), (.isub, [], 0), (.putfield 55, [5, 4, 0, 60], 0), (.aload_n 0, [], 0), (.iload_n 3, [], 0), (.putfield 58, [5, 5, 0, 61], 0), (.aload_n 0, [], 0), (.invokevirtual 61, [49, 1, 5, 0, 29], 0), (.aload_n 0, [], 0), (.invokevirtual 64, [303, 1, 5, 0, 30], 0), (.aload_n 0, [], 0), (.aload_n 0, [], 0), (.getfield 67, [5, 10, 0, 62], 0), (.iconst 1, [], 1), (.iadd, [], 0), (.ldc 70, [], 65536), (.irem, [], 0), (.putfield 67, [5, 10, 0, 62], 0), (.aload_n 0, [], 0), (.iconst 0, [], 0), (.iconst 0, [], 0), (.aload_n 0, [], 0), (.getfield 58, [5, 5, 0, 61], 0), (.iconst 1, [], 1), (.aload_n 0, [], 0), (.getfield 58, [5, 5, 0, 61], 0), (.ishl, [], 0), (.invokevirtual 71, [52, 5, 5, 0, 31], 0), (.istore 4, [], 0), (.iload 4, [], 0), (.sipush 255, [], 255), (.if_icmp .lt 7, [3], 0), (.iconst (-1), [], (-1)), (.goto 5, [4], 0)], 0),
  ([(.iload 4, [], 0)], 4),
  ([(.ireturn, [0], 0)], 0)]
/-- CourtProgress$Router.measureRows()V -/
def ai_c49 : List (List ai_Op × Nat) := [([(.iconst 0, [], 0), (.istore_n 1, [], 0)], 1),
  ([(.iload_n 1, [], 0), (.aload_n 0, [], 0), (.getfield 55, [5, 4, 0, 60], 0), (.if_icmp .gt 47, [2], 0), (.aload_n 0, [], 0), (.getfield 11, [5, 6, 2, 49], 0), (.iload_n 1, [], 0), (.aload_n 0, [], 0), (.getfield 35, [5, 2, 2, 56], 0), (.aload_n 0, [], 0), (.getfield 52, [5, 3, 0, 59], 0), (.iload_n 1, [], 0), (.iadd, [], 0), (.invokevirtual 75, [81, 2, 7, 0, 32], 0), (.iastore, [], 0), (.aload_n 0, [], 0), (.getfield 15, [5, 7, 2, 50], 0), (.iload_n 1, [], 0), (.aload_n 0, [], 0), (.getfield 31, [5, 1, 2, 55], 0), (.aload_n 0, [], 0), (.getfield 52, [5, 3, 0, 59], 0), (.iload_n 1, [], 0), (.iadd, [], 0), (.invokevirtual 81, [2, 2, 0, 0, 33], 0), (.iastore, [], 0), (.iinc 1 1, [], 1), (.goto (-49), [1], 0)], 0),
  ([(.iconst 0, [], 0), (.istore_n 1, [], 0)], 3),
  ([(.iload_n 1, [], 0), (.aload_n 0, [], 0), (.getfield 27, [5, 0, 2, 54], 0), (.getfield 86, [3, 0, 0, 63], 0), (.if_icmp .ge 42, [6], 0), (.iconst 0, [], 0), (.istore_n 2, [], 0)], 4),
  ([(.iload_n 2, [], 0), (.aload_n 0, [], 0), (.getfield 55, [5, 4, 0, 60], 0), (.if_icmp .gt 26, [5], 0), (.aload_n 0, [], 0), (.getfield 18, [5, 8, 2, 51], 0), (.iload_n 2, [], 0), (.bipush 9, [], 9), (.imul, [], 0), (.iload_n 1, [], 0), (.iadd, [], 0), (.aload_n 0, [], 0), (.iload_n 2, [], 0), (.iload_n 1, [], 0), (.invokevirtual 89, [50, 3, 5, 0, 34], 0), (.iastore, [], 0), (.iinc 2 1, [], 1), (.goto (-28), [4], 0)], 0),
  ([(.iinc 1 1, [], 1), (.goto (-47), [3], 0)], 0),
  ([(.return_, [], 0)], 0)]
/-- CourtProgress$Router.rowEnd(II)I -/
def ai_c50 : List (List ai_Op × Nat) := [([(.aload_n 0, [], 0), (.getfield 27, [5, 0, 2, 54], 0), (.iload_n 2, [], 0), (.invokevirtual 93, [38, 2, 3, 0, 35], 0), (.istore_n 3, [], 0), (.iload_n 1, [], 0), (.istore 4, [], 0)], 1),
  ([(.iload 4, [], 0), (.aload_n 0, [], 0), (.getfield 55, [5, 4, 0, 60], 0), (.if_icmp .gt 40, [2], 0), (.aload_n 0, [], 0), (.getfield 11, [5, 6, 2, 49], 0), (.iload 4, [], 0), (.iaload, [], 0), (.iload_n 3, [], 0), (.if_icmp .gt 29, [2], 0), (.aload_n 0, [], 0), (.iload_n 2, [], 0), (.iload 4, [], 0), (.invokevirtual 96, [51, 3, 5, 0, 36], 0), (.ifCond .eq 19, [2], 0), (.iload_n 3, [], 0), (.aload_n 0, [], 0), (.getfield 11, [5, 6, 2, 49], 0), (.iload 4, [], 0), (.iaload, [], 0), (.isub, [], 0), (.istore_n 3, [], 0), (.iinc 4 1, [], 1), (.goto (-43), [1], 0)], 0),
  ([(.iload 4, [], 0), (.iconst 1, [], 1), (.isub, [], 0), (.ireturn, [0], 0)], 0)]
/-- CourtProgress$Router.mayBeAt(II)Z -/
def ai_c51 : List (List ai_Op × Nat) := [([(.aload_n 0, [], 0), (.getfield 31, [5, 1, 2, 55], 0), (.aload_n 0, [], 0), (.getfield 52, [5, 3, 0, 59], 0), (.iload_n 2, [], 0), (.iadd, [], 0), (.invokevirtual 100, [3, 2, 0, 0, 37], 0), (.istore_n 3, [], 0), (.iload_n 3, [], 0), (.iconst (-1), [], (-1)), (.if_icmp .eq 8, [1], 0), (.iload_n 3, [], 0), (.iload_n 1, [], 0), (.if_icmp .ne 7, [2], 0)], 1),
  ([(.iconst 1, [], 1), (.goto 4, [3], 0)], 0),
  ([(.iconst 0, [], 0)], 3),
  ([(.ireturn, [1], 0)], 0)]
/-- CourtProgress$Router.leastOnward(IIII)I -/
def ai_c52 : List (List ai_Op × Nat) := [([(.aload_n 0, [], 0), (.getfield 18, [5, 8, 2, 51], 0), (.iload_n 1, [], 0), (.bipush 9, [], 9), (.imul, [], 0), (.iload_n 3, [], 0), (.iadd, [], 0), (.iaload, [], 0), (.istore 5, [], 0), (.iload 5, [], 0), (.aload_n 0, [], 0), (.getfield 55, [5, 4, 0, 60], 0), (.if_icmp .lt 5, [1], 0), (.iconst 0, [], 0), (.ireturn, [0], 0)], 0),
  ([(.sipush 255, [], 255), (.istore 6, [], 0), (.iload_n 2, [], 0), (.istore 7, [], 0)], 2),
  ([(.iload 7, [], 0), (.iload 5, [], 0), (.if_icmp .gt 25, [3], 0), (.iload 6, [], 0), (.aload_n 0, [], 0), (.iload 7, [], 0), (.iload_n 3, [], 0), (.iload 4, [], 0), (.invokevirtual 103, [53, 4, 5, 0, 38], 0), (.invokestatic 107, [212, 2, 999, 0, 39], 0), (.istore 6, [], 0), (.iinc 7 1, [], 1), (.goto (-26), [2], 0)], 0),
  ([(.iload 6, [], 0), (.ireturn, [0], 0)], 0)]
/-- CourtProgress$Router.leastLeaving(III)I -/
def ai_c53 : List (List ai_Op × Nat) := [([(.aload_n 0, [], 0), (.iload_n 1, [], 0), (.iload_n 2, [], 0), (.iload_n 3, [], 0), (.invokevirtual 112, [56, 4, 5, 0, 40], 0), (.istore 4, [], 0), (.aload_n 0, [], 0), (.getfield 21, [5, 9, 2, 52], 0), (.iload 4, [], 0), (.iaload, [], 0), (.bipush 8, [], 8), (.ishr, [], 0), (.sipush 255, [], 255), (.iand, [], 0), (.istore 5, [], 0), (.iload 5, [], 0), (.sipush 254, [], 254), (.if_icmp .ne 70, [3], 0), (.sipush 255, [], 255), (.istore 5, [], 0), (.iconst 0, [], 0), (.istore 6, [], 0)], 1),
  ([(.iload 6, [], 0), (.aload_n 0, [], 0), (.getfield 27, [5, 0, 2, 54], 0), (.getfield 86, [3, 0, 0, 63], 0), (.if_icmp .ge 27, [2], 0), (.iload 5, [], 0), (.aload_n 0, [], 0), (.iload_n 1, [], 0), (.iload_n 2, [], 0), (.iload 6, [], 0), (.iload_n 3, [], 0), (.iload 5, [], 0), (.invokevirtual 115, [54, 6, 5, 0, 41], 0), (.invokestatic 107, [212, 2, 999, 0, 39], 0), (.istore 5, [], 0), (.iinc 6 1, [], 1), (.goto (-33), [1], 0)], 0),
  ([(.aload_n 0, [], 0), (.getfield 21, [5, 9, 2, 52], 0), (.iload 4, [], 0), (.aload_n 0, [], 0), (.getfield 21, [5, 9, 2, 52], 0), (.iload 4, [], 0), (.iaload, [], 0), (.ldc 119, [], (-65281)), (.iand, [], 0), (.iload 5, [], 0), (.bipush 8, [], 8), (.ishl, [], 0), (.ior, [], 0), (.iastore, [], 0)], 3),
  ([(.iload 5, [], 0), (.ireturn, [0], 0)], 0)]
/-- CourtProgress$Router.leastBy(IIIII)I -/
def ai_c54 : List (List ai_Op × Nat) := [([(.iload 4, [], 0), (.iload_n 3, [], 0), (.ishr, [], 0), (.iconst 1, [], 1), (.iand, [], 0), (.iconst 1, [], 1), (.if_icmp .ne 7, [1], 0), (.sipush 255, [], 255), (.ireturn, [0], 0)], 0),
  ([(.aload_n 0, [], 0), (.getfield 27, [5, 0, 2, 54], 0), (.iload_n 2, [], 0), (.iload_n 3, [], 0), (.aload_n 0, [], 0), (.getfield 15, [5, 7, 2, 50], 0), (.iload_n 1, [], 0), (.iaload, [], 0), (.invokevirtual 120, [37, 4, 3, 0, 42], 0), (.istore 6, [], 0), (.iload 6, [], 0), (.ifCond .eq 27, [2], 0), (.iload 6, [], 0), (.iload 5, [], 0), (.if_icmp .ge 20, [2], 0), (.aload_n 0, [], 0), (.getfield 18, [5, 8, 2, 51], 0), (.iload_n 1, [], 0), (.iconst 1, [], 1), (.iadd, [], 0), (.bipush 9, [], 9), (.imul, [], 0), (.iload_n 3, [], 0), (.iadd, [], 0), (.iaload, [], 0), (.iload_n 1, [], 0), (.if_icmp .gt 7, [3], 0)], 2),
  ([(.sipush 255, [], 255), (.ireturn, [0], 0)], 0),
  ([(.iload 6, [], 0), (.aload_n 0, [], 0), (.iload_n 1, [], 0), (.iconst 1, [], 1), (.iadd, [], 0), (.iload_n 3, [], 0), (.iload 4, [], 0), (.iconst 1, [], 1), (.iload_n 3, [], 0), (.ishl, [], 0), (.ior, [], 0), (.invokevirtual 123, [55, 4, 5, 0, 43], 0), (.iadd, [], 0), (.ireturn, [0], 0)], 0)]
/-- CourtProgress$Router.leastFrom(III)I -/
def ai_c55 : List (List ai_Op × Nat) := [([(.aload_n 0, [], 0), (.iload_n 1, [], 0), (.iload_n 2, [], 0), (.iload_n 3, [], 0), (.invokevirtual 112, [56, 4, 5, 0, 40], 0), (.istore 4, [], 0), (.aload_n 0, [], 0), (.getfield 21, [5, 9, 2, 52], 0), (.iload 4, [], 0), (.iaload, [], 0), (.sipush 255, [], 255), (.iand, [], 0), (.istore 5, [], 0), (.iload 5, [], 0), (.sipush 254, [], 254), (.if_icmp .ne 34, [1], 0), (.aload_n 0, [], 0), (.iload_n 1, [], 0), (.iload_n 1, [], 0), (.iload_n 2, [], 0), (.iload_n 3, [], 0), (.invokevirtual 71, [52, 5, 5, 0, 31], 0), (.istore 5, [], 0), (.aload_n 0, [], 0), (.getfield 21, [5, 9, 2, 52], 0), (.iload 4, [], 0), (.aload_n 0, [], 0), (.getfield 21, [5, 9, 2, 52], 0), (.iload 4, [], 0), (.iaload, [], 0), (.sipush (-256), [], (-256)), (.iand, [], 0), (.iload 5, [], 0), (.ior, [], 0), (.iastore, [], 0)], 1),
  ([(.iload 5, [], 0), (.ireturn, [0], 0)], 0)]
/-- CourtProgress$Router.slotOf(III)I -/
def ai_c56 : List (List ai_Op × Nat) := [([(.iload_n 3, [], 0), (.iconst 1, [], 1), (.aload_n 0, [], 0), (.getfield 58, [5, 5, 0, 61], 0), (.ishl, [], 0), (.iconst 1, [], 1), (.isub, [], 0), (.iand, [], 0), (.istore 4, [], 0), (.iload 4, [], 0), (.iload_n 3, [], 0), (.aload_n 0, [], 0), (.getfield 58, [5, 5, 0, 61], 0), (.iconst 1, [], 1), (.iadd, [], 0), (.ishr, [], 0), (.aload_n 0, [], 0), (.getfield 58, [5, 5, 0, 61], 0), (.ishl, [], 0), (.ior, [], 0), (.istore 5, [], 0), (.iload 5, [], 0), (.aload_n 0, [], 0), (.getfield 27, [5, 0, 2, 54], 0), (.getfield 86, [3, 0, 0, 63], 0), (.imul, [], 0), (.iload_n 2, [], 0), (.iadd, [], 0), (.bipush 21, [], 21), (.imul, [], 0), (.iload_n 1, [], 0), (.iadd, [], 0), (.istore 6, [], 0), (.aload_n 0, [], 0), (.getfield 21, [5, 9, 2, 52], 0), (.iload 6, [], 0), (.iaload, [], 0), (.bipush 16, [], 16), (.iushr, [], 0), (.aload_n 0, [], 0), (.getfield 67, [5, 10, 0, 62], 0), (.if_icmp .eq 24, [1], 0), (.aload_n 0, [], 0), (.getfield 21, [5, 9, 2, 52], 0), (.iload 6, [], 0), (.aload_n 0, [], 0), (.getfield 67, [5, 10, 0, 62], 0), (.bipush 16, [], 16), (.ishl, [], 0), (.ldc 126, [], 65024), (.ior, [], 0), (.sipush 254, [], 254), (.ior, [], 0), (.iastore, [], 0)], 1),
  ([(.iload 6, [], 0), (.ireturn, [0], 0)], 0)]
/-- CourtProgress$Router.trace(I)V -/
def ai_c57 : List (List ai_Op × Nat) := [([(.aload_n 0, [], 0), (.getfield 58, [5, 5, 0, 61], 0), (.istore_n 2, [], 0), (.iconst 1, [], 1), (.aload_n 0, [], 0), (.getfield 58, [5, 5, 0, 61], 0), (.ishl, [], 0), (.istore_n 3, [], 0), (.iconst 0, [], 0), (.istore 4, [], 0), (.iload_n 1, [], 0), (.istore 5, [], 0), (.aload_n 0, [], 0), (.aload_n 0, [], 0), (.getfield 52, [5, 3, 0, 59], 0), (.putfield 43, [5, 12, 0, 58], 0), (.aload_n 0, [], 0), (.aload_n 0, [], 0), (.getfield 52, [5, 3, 0, 59], 0), (.aload_n 0, [], 0), (.getfield 55, [5, 4, 0, 60], 0), (.iadd, [], 0), (.putfield 39, [5, 13, 0, 57], 0), (.aload_n 0, [], 0), (.getfield 24, [5, 11, 2, 53], 0), (.iconst 0, [], 0), (.aload_n 0, [], 0), (.getfield 58, [5, 5, 0, 61], 0), (.iastore, [], 0), (.iconst 0, [], 0), (.istore 6, [], 0)], 1),
  ([(.iload 6, [], 0), (.aload_n 0, [], 0), (.getfield 55, [5, 4, 0, 60], 0), (.if_icmp .ge 77, [3], 0), (.aload_n 0, [], 0), (.iload 6, [], 0), (.iload 4, [], 0), (.iload_n 2, [], 0), (.iload_n 3, [], 0), (.iload 5, [], 0), (.invokevirtual 127, [58, 6, 5, 0, 44], 0), (.istore 7, [], 0), (.iload 7, [], 0), (.iload_n 2, [], 0), (.if_icmp .eq 41, [2], 0), (.iload 5, [], 0), (.aload_n 0, [], 0), (.getfield 27, [5, 0, 2, 54], 0), (.iload_n 2, [], 0), (.iload 7, [], 0), (.aload_n 0, [], 0), (.getfield 15, [5, 7, 2, 50], 0), (.iload 6, [], 0), (.iaload, [], 0), (.invokevirtual 120, [37, 4, 3, 0, 42], 0), (.isub, [], 0), (.istore 5, [], 0), (.iload_n 3, [], 0), (.iconst 1, [], 1), (.iload 7, [], 0), (.ishl, [], 0), (.ior, [], 0), (.istore_n 3, [], 0), (.iload 6, [], 0), (.iconst 1, [], 1), (.iadd, [], 0), (.istore 4, [], 0), (.iload 7, [], 0), (.istore_n 2, [], 0)], 2),
  ([(.aload_n 0, [], 0), (.getfield 24, [5, 11, 2, 53], 0), (.iload 6, [], 0), (.iconst 1, [], 1), (.iadd, [], 0), (.iload_n 2, [], 0), (.iastore, [], 0), (.iinc 6 1, [], 1), (.goto (-80), [1], 0)], 0),
  ([(.return_, [], 0)], 0)]
/-- CourtProgress$Router.leastNext(IIIII)I -/
def ai_c58 : List (List ai_Op × Nat) := [([(.iconst 0, [], 0), (.istore 6, [], 0)], 1),
  ([(.iload 6, [], 0), (.aload_n 0, [], 0), (.getfield 27, [5, 0, 2, 54], 0), (.getfield 86, [3, 0, 0, 63], 0), (.if_icmp .ge 54, [5], 0), (.iload 6, [], 0), (.iload_n 3, [], 0), (.if_icmp .ne 17, [2], 0), (.aload_n 0, [], 0), (.iload_n 2, [], 0), (.iload_n 1, [], 0), (.iconst 1, [], 1), (.iadd, [], 0), (.iload_n 3, [], 0), (.iload 4, [], 0), (.invokevirtual 71, [52, 5, 5, 0, 31], 0), (.goto 16, [3], 0)], 0),
  ([(.aload_n 0, [], 0), (.iload_n 1, [], 0), (.iload_n 3, [], 0), (.iload 6, [], 0), (.iload 4, [], 0), (.sipush 255, [], 255), (.invokevirtual 115, [54, 6, 5, 0, 41], 0)], 3),
  ([(.istore 7, [], 0), (.iload 7, [], 0), (.iload 5, [], 0), (.if_icmp .ne 6, [4], 0), (.iload 6, [], 0), (.ireturn, [0], 0)], 0),
  ([(.iinc 6 1, [], 1), (.goto (-60), [1], 0)], 0),
  ([(.iload_n 3, [], 0), (.ireturn, [0], 0)], 0)]
/-- CourtProgress$Scribe.<init>(LCourtProgress$Tape;LCourtProgress$Statutes;)V -/
def ai_c59 : List (List ai_Op × Nat) := [([(.aload_n 0, [], 0), (.invokespecial 1, [998, 1, 999, 0, 0], 0), (.aload_n 0, [], 0), (.aload_n 1, [], 0), (.putfield 7, [6, 0, 2, 64], 0), (.aload_n 0, [], 0), (.aload_n 2, [], 0), (.putfield 13, [6, 1, 2, 65], 0), (.return_, [], 0)], 0)]
/-- CourtProgress$Scribe.reads()Z -/
def ai_c60 : List (List ai_Op × Nat) := [([(.aload_n 0, [], 0), (.iconst 0, [], 0), (.putfield 17, [6, 2, 0, 66], 0), (.aload_n 0, [], 0), (.iconst 0, [], 0), (.putfield 21, [6, 3, 0, 67], 0), (.aload_n 0, [], 0), (.aload_n 0, [], 0), (.getfield 7, [6, 0, 2, 64], 0), (.iconst 0, [], 0), (.invokevirtual 24, [92, 2, 8, 0, 45], 0), (.putfield 30, [6, 4, 0, 68], 0), (.aload_n 0, [], 0), (.getfield 13, [6, 1, 2, 65], 0), (.invokevirtual 33, [73, 1, 7, 0, 46], 0), (.iconst 0, [], 0), (.istore_n 1, [], 0)], 1),
  ([(.iload_n 1, [], 0), (.bipush 12, [], 12), (.if_icmp .gt 48, [5], 0), (.aload_n 0, [], 0), (.iload_n 1, [], 0), (.invokevirtual 38, [62, 2, 6, 0, 47], 0), (.ifCond .ne 5, [2], 0), (.iconst 0, [], 0), (.ireturn, [1], 0)], 0),
  ([(.aload_n 0, [], 0), (.getfield 30, [6, 4, 0, 68], 0), (.iconst (-1), [], (-1)), (.if_icmp .ne 5, [3], 0), (.iconst 1, [], 1), (.ireturn, [1], 0)], 0),
  ([(.aload_n 0, [], 0), (.getfield 30, [6, 4, 0, 68], 0), (.bipush 59, [], 59), (.if_icmp .eq 9, [4], 0), (.aload_n 0, [], 0), (.iconst 1, [], 1), (.invokevirtual 42, [71, 2, 6, 0, 48], 0), (.ireturn, [1], 0)], 0),
  ([(.aload_n 0, [], 0), (.invokevirtual 45, [67, 1, 6, 0, 49], 0), (.iinc 1 1, [], 1), (.goto (-48), [1], 0)], 0),
  ([(.iconst 0, [], 0), (.ireturn, [1], 0)], 0)]
/-- CourtProgress$Scribe.faultPlace()I -/
def ai_c61 : List (List ai_Op × Nat) := [([(.aload_n 0, [], 0), (.getfield 7, [6, 0, 2, 64], 0), (.aload_n 0, [], 0), (.getfield 21, [6, 3, 0, 67], 0), (.invokevirtual 48, [93, 2, 8, 0, 50], 0), (.ireturn, [0], 0)], 0)]
/-- CourtProgress$Scribe.readRule(I)Z -/
def ai_c62 : List (List ai_Op × Nat) := [([(.aload_n 0, [], 0), (.getfield 30, [6, 4, 0, 68], 0), (.sipush 257, [], 257), (.if_icmp .eq 29, [1], 0), (.aload_n 0, [], 0), (.getfield 30, [6, 4, 0, 68], 0), (.sipush 259, [], 259), (.if_icmp .eq 19, [1], 0), (.aload_n 0, [], 0), (.getfield 30, [6, 4, 0, 68], 0), (.sipush 260, [], 260), (.if_icmp .eq 9, [1], 0), (.aload_n 0, [], 0), (.iconst 1, [], 1), (.invokevirtual 42, [71, 2, 6, 0, 48], 0), (.ireturn, [1], 0)], 0),
  ([(.iload_n 1, [], 0), (.bipush 12, [], 12), (.if_icmp .lt 9, [2], 0), (.aload_n 0, [], 0), (.iconst 3, [], 3), (.invokevirtual 42, [71, 2, 6, 0, 48], 0), (.ireturn, [1], 0)], 0),
  ([(.aload_n 0, [], 0), (.getfield 13, [6, 1, 2, 65], 0), (.invokevirtual 51, [74, 1, 7, 0, 51], 0), (.aload_n 0, [], 0), (.getfield 30, [6, 4, 0, 68], 0), (.sipush 257, [], 257), (.if_icmp .ne 12, [3], 0), (.aload_n 0, [], 0), (.invokevirtual 54, [63, 1, 6, 0, 52], 0), (.ifCond .ne 5, [3], 0), (.iconst 0, [], 0), (.ireturn, [1], 0)], 0),
  ([(.aload_n 0, [], 0), (.getfield 30, [6, 4, 0, 68], 0), (.sipush 259, [], 259), (.if_icmp .eq 19, [4], 0), (.aload_n 0, [], 0), (.getfield 30, [6, 4, 0, 68], 0), (.sipush 260, [], 260), (.if_icmp .eq 9, [4], 0), (.aload_n 0, [], 0), (.iconst 1, [], 1), (.invokevirtual 42, [71, 2, 6, 0, 48], 0), (.ireturn, [1], 0)], 0),
  ([(.aload_n 0, [], 0), (.getfield 13, [6, 1, 2, 65], 0), (.aload_n 0, [], 0), (.getfield 30, [6, 4, 0, 68], 0), (.sipush 260, [], 260), (.if_icmp .ne 7, [5], 0), (.iconst 1, [], 1), (.goto 4, [6], 0)], 0),
  ([(.iconst 0, [], 0)], 6),
  ([(.invokevirtual 58, [75, 2, 7, 0, 53], 0), (.aload_n 0, [], 0), (.invokevirtual 62, [65, 1, 6, 0, 54], 0), (.ireturn, [1], 0)], 0)]
/-- CourtProgress$Scribe.readTests()Z -/
def ai_c63 : List (List ai_Op × Nat) := [([(.iconst 0, [], 0), (.istore_n 1, [], 0)], 1),
  ([(.iload_n 1, [], 0), (.iconst 4, [], 4), (.if_icmp .gt 57, [6], 0), (.aload_n 0, [], 0), (.invokevirtual 45, [67, 1, 6, 0, 49], 0), (.aload_n 0, [], 0), (.invokevirtual 65, [69, 1, 6, 0, 55], 0), (.ifCond .ne 8, [2], 0), (.aload_n 0, [], 0), (.invokevirtual 68, [70, 1, 6, 0, 56], 0), (.ireturn, [1], 0)], 0),
  ([(.iload_n 1, [], 0), (.iconst 4, [], 4), (.if_icmp .lt 9, [3], 0), (.aload_n 0, [], 0), (.iconst 3, [], 3), (.invokevirtual 42, [71, 2, 6, 0, 48], 0), (.ireturn, [1], 0)], 0),
  ([(.aload_n 0, [], 0), (.invokevirtual 71, [64, 1, 6, 0, 57], 0), (.ifCond .ne 5, [4], 0), (.iconst 0, [], 0), (.ireturn, [1], 0)], 0),
  ([(.aload_n 0, [], 0), (.getfield 30, [6, 4, 0, 68], 0), (.sipush 258, [], 258), (.if_icmp .eq 5, [5], 0), (.iconst 1, [], 1), (.ireturn, [1], 0)], 0),
  ([(.iinc 1 1, [], 1), (.goto (-56), [1], 0)], 0),
  ([(.iconst 0, [], 0), (.ireturn, [1], 0)], 0)]
/-- CourtProgress$Scribe.readTest()Z -/
def ai_c64 : List (List ai_Op × Nat) := [([(.aload_n 0, [], 0), (.getfield 30, [6, 4, 0, 68], 0), (.istore_n 1, [], 0), (.aload_n 0, [], 0), (.invokevirtual 45, [67, 1, 6, 0, 49], 0), (.aload_n 0, [], 0), (.getfield 30, [6, 4, 0, 68], 0), (.istore_n 2, [], 0), (.iload_n 2, [], 0), (.bipush 60, [], 60), (.if_icmp .eq 21, [1], 0), (.iload_n 2, [], 0), (.bipush 62, [], 62), (.if_icmp .eq 15, [1], 0), (.iload_n 2, [], 0), (.bipush 61, [], 61), (.if_icmp .eq 9, [1], 0), (.aload_n 0, [], 0), (.iconst 1, [], 1), (.invokevirtual 42, [71, 2, 6, 0, 48], 0), (.ireturn, [1], 0)], 0),
  ([(.aload_n 0, [], 0), (.invokevirtual 45, [67, 1, 6, 0, 49], 0), (.aload_n 0, [], 0), (.invokevirtual 74, [68, 1, 6, 0, 58], 0), (.ifCond .ne 9, [2], 0), (.aload_n 0, [], 0), (.iconst 1, [], 1), (.invokevirtual 42, [71, 2, 6, 0, 48], 0), (.ireturn, [1], 0)], 0),
  ([(.aload_n 0, [], 0), (.getfield 13, [6, 1, 2, 65], 0), (.iload_n 1, [], 0), (.iload_n 2, [], 0), (.aload_n 0, [], 0), (.getfield 30, [6, 4, 0, 68], 0), (.sipush 1000, [], 1000), (.isub, [], 0), (.invokevirtual 77, [76, 4, 7, 0, 59], 0), (.aload_n 0, [], 0), (.invokevirtual 45, [67, 1, 6, 0, 49], 0), (.iconst 1, [], 1), (.ireturn, [1], 0)], 0)]
/-- CourtProgress$Scribe.readSum()Z -/
def ai_c65 : List (List ai_Op × Nat) := [([(.iconst 0, [], 0), (.istore_n 1, [], 0)], 1),
  ([(.iload_n 1, [], 0), (.iconst 4, [], 4), (.if_icmp .gt 63, [6], 0), (.aload_n 0, [], 0), (.invokevirtual 45, [67, 1, 6, 0, 49], 0), (.aload_n 0, [], 0), (.invokevirtual 74, [68, 1, 6, 0, 58], 0), (.ifCond .ne 15, [2], 0), (.aload_n 0, [], 0), (.invokevirtual 65, [69, 1, 6, 0, 55], 0), (.ifCond .ne 8, [2], 0), (.aload_n 0, [], 0), (.invokevirtual 68, [70, 1, 6, 0, 56], 0), (.ireturn, [1], 0)], 0),
  ([(.iload_n 1, [], 0), (.iconst 4, [], 4), (.if_icmp .lt 9, [3], 0), (.aload_n 0, [], 0), (.iconst 3, [], 3), (.invokevirtual 42, [71, 2, 6, 0, 48], 0), (.ireturn, [1], 0)], 0),
  ([(.aload_n 0, [], 0), (.invokevirtual 81, [66, 1, 6, 0, 60], 0), (.ifCond .ne 5, [4], 0), (.iconst 0, [], 0), (.ireturn, [1], 0)], 0),
  ([(.aload_n 0, [], 0), (.getfield 30, [6, 4, 0, 68], 0), (.bipush 43, [], 43), (.if_icmp .eq 5, [5], 0), (.iconst 1, [], 1), (.ireturn, [1], 0)], 0),
  ([(.iinc 1 1, [], 1), (.goto (-62), [1], 0)], 0),
  ([(.iconst 0, [], 0), (.ireturn, [1], 0)], 0)]
/-- CourtProgress$Scribe.readTerm()Z -/
def ai_c66 : List (List ai_Op × Nat) := [([(.iconst 1, [], 1), (.istore_n 1, [], 0), (.aload_n 0, [], 0), (.invokevirtual 74, [68, 1, 6, 0, 58], 0), (.ifCond .eq 53, [2], 0), (.aload_n 0, [], 0), (.getfield 30, [6, 4, 0, 68], 0), (.sipush 1000, [], 1000), (.isub, [], 0), (.istore_n 1, [], 0), (.aload_n 0, [], 0), (.invokevirtual 45, [67, 1, 6, 0, 49], 0), (.aload_n 0, [], 0), (.getfield 30, [6, 4, 0, 68], 0), (.bipush 42, [], 42), (.if_icmp .eq 15, [1], 0), (.aload_n 0, [], 0), (.getfield 13, [6, 1, 2, 65], 0), (.iload_n 1, [], 0), (.bipush 6, [], 6), (.invokevirtual 84, [77, 3, 7, 0, 61], 0), (.iconst 1, [], 1), (.ireturn, [1], 0)], 0),
  ([(.aload_n 0, [], 0), (.invokevirtual 45, [67, 1, 6, 0, 49], 0), (.aload_n 0, [], 0), (.invokevirtual 65, [69, 1, 6, 0, 55], 0), (.ifCond .ne 8, [2], 0), (.aload_n 0, [], 0), (.invokevirtual 68, [70, 1, 6, 0, 56], 0), (.ireturn, [1], 0)], 0),
  ([(.aload_n 0, [], 0), (.getfield 13, [6, 1, 2, 65], 0), (.iload_n 1, [], 0), (.aload_n 0, [], 0), (.getfield 30, [6, 4, 0, 68], 0), (.invokevirtual 84, [77, 3, 7, 0, 61], 0), (.aload_n 0, [], 0), (.invokevirtual 45, [67, 1, 6, 0, 49], 0), (.iconst 1, [], 1), (.ireturn, [1], 0)], 0)]
/-- CourtProgress$Scribe.advance()V -/
def ai_c67 : List (List ai_Op × Nat) := [([(.aload_n 0, [], 0), (.dup, [], 0), (.getfield 21, [6, 3, 0, 67], 0), (.iconst 1, [], 1), (.iadd, [], 0), (.putfield 21, [6, 3, 0, 67], 0), (.aload_n 0, [], 0), (.aload_n 0, [], 0), (.getfield 7, [6, 0, 2, 64], 0), (.aload_n 0, [], 0), (.getfield 21, [6, 3, 0, 67], 0), (.invokevirtual 24, [92, 2, 8, 0, 45], 0), (.putfield 30, [6, 4, 0, 68], 0), (.return_, [], 0)], 0)]
/-- CourtProgress$Scribe.isNumber()Z -/
def ai_c68 : List (List ai_Op × Nat) := [([(.aload_n 0, [], 0), (.getfield 30, [6, 4, 0, 68], 0), (.sipush 1000, [], 1000), (.if_icmp .lt 7, [1], 0), (.iconst 1, [], 1), (.goto 4, [2], 0)], 0),
  ([(.iconst 0, [], 0)], 2),
  ([(.ireturn, [1], 0)], 0)]
/-- CourtProgress$Scribe.isName()Z -/
def ai_c69 : List (List ai_Op × Nat) := [([(.aload_n 0, [], 0), (.getfield 30, [6, 4, 0, 68], 0), (.ifCond .lt 15, [1], 0), (.aload_n 0, [], 0), (.getfield 30, [6, 4, 0, 68], 0), (.iconst 5, [], 5), (.if_icmp .gt 7, [1], 0), (.iconst 1, [], 1), (.goto 4, [2], 0)], 0),
  ([(.iconst 0, [], 0)], 2),
  ([(.ireturn, [1], 0)], 0)]
/-- CourtProgress$Scribe.failWithoutName()Z -/
def ai_c70 : List (List ai_Op × Nat) := [([(.aload_n 0, [], 0), (.aload_n 0, [], 0), (.getfield 30, [6, 4, 0, 68], 0), (.sipush 256, [], 256), (.if_icmp .ne 7, [1], 0), (.iconst 2, [], 2), (.goto 4, [2], 0)], 0),
  ([(.iconst 1, [], 1)], 2),
  ([(.invokevirtual 42, [71, 2, 6, 0, 48], 0), (.ireturn, [1], 0)], 0)]
/-- CourtProgress$Scribe.fail(I)Z -/
def ai_c71 : List (List ai_Op × Nat) := [([(.aload_n 0, [], 0), (.iload_n 1, [], 0), (.putfield 17, [6, 2, 0, 66], 0), (.iconst 0, [], 0), (.ireturn, [1], 0)], 0)]
/-- CourtProgress$Statutes.<init>(LCourtProgress$Households;LCourtProgress$Calendar;)V -/
def ai_c72 : List (List ai_Op × Nat) := [([(.aload_n 0, [], 0), (.invokespecial 5, [998, 1, 999, 0, 0], 0), (.aload_n 0, [], 0), (.bipush 10, [], 10), (.newarray .int, [1], 0), (.putfield 11, [7, 3, 2, 69], 0), (.aload_n 0, [], 0), (.bipush 11, [], 11), (.newarray .int, [1], 0), (.putfield 15, [7, 4, 2, 70], 0), (.aload_n 0, [], 0), (.sipush 3036, [], 3036), (.newarray .int, [1], 0), (.putfield 18, [7, 5, 2, 71], 0), (.aload_n 0, [], 0), (.bipush 7, [], 7), (.newarray .int, [1], 0), (.putfield 21, [7, 7, 2, 72], 0), (.aload_n 0, [], 0), (.aload_n 1, [], 0), (.putfield 24, [7, 0, 2, 73], 0), (.aload_n 0, [], 0), (.aload_n 2, [], 0), (.putfield 28, [7, 1, 2, 74], 0), (.aload_n 0, [], 0), (.getfield 21, [7, 7, 2, 72], 0), (.bipush 6, [], 6), (.iconst 1, [], 1), (.iastore, [], 0), (.return_, [], 0)], 0)]
/-- CourtProgress$Statutes.beginDraft()V -/
def ai_c73 : List (List ai_Op × Nat) := [([(.aload_n 0, [], 0), (.getfield 32, [7, 2, 0, 75], 0), (.bipush 10, [], 10), (.if_icmp .gt 13, [1], 0), (.aload_n 0, [], 0), (.getfield 15, [7, 4, 2, 70], 0), (.aload_n 0, [], 0), (.getfield 32, [7, 2, 0, 75], 0), (.iconst 0, [], 0), (.iastore, [], 0)], 1),
  ([(.return_, [], 0)], 0)]
/-- CourtProgress$Statutes.draftRule()V -/
def ai_c74 : List (List ai_Op × Nat) := [([(.aload_n 0, [], 0), (.getfield 32, [7, 2, 0, 75], 0), (.bipush 10, [], 10), (.if_icmp .gt 84, [1], 0), (.aload_n 0, [], 0), (.getfield 15, [7, 4, 2, 70], 0), (.aload_n 0, [], 0), (.getfield 32, [7, 2, 0, 75], 0), (.iaload, [], 0), (.bipush 12, [], 12), (.if_icmp .ge 70, [1], 0), (.aload_n 0, [], 0), (.aload_n 0, [], 0), (.getfield 32, [7, 2, 0, 75], 0), (.aload_n 0, [], 0), (.getfield 15, [7, 4, 2, 70], 0), (.aload_n 0, [], 0), (.getfield 32, [7, 2, 0, 75], 0), (.iaload, [], 0), (.invokestatic 36, [88, 2, 999, 0, 62], 0), (.putfield 40, [7, 6, 0, 76], 0), (.aload_n 0, [], 0), (.getfield 18, [7, 5, 2, 71], 0), (.aload_n 0, [], 0), (.getfield 40, [7, 6, 0, 76], 0), (.iconst 0, [], 0), (.iastore, [], 0), (.aload_n 0, [], 0), (.getfield 18, [7, 5, 2, 71], 0), (.aload_n 0, [], 0), (.getfield 40, [7, 6, 0, 76], 0), (.iconst 1, [], 1), (.iadd, [], 0), (.iconst 0, [], 0), (.iastore, [], 0), (.aload_n 0, [], 0), (.getfield 18, [7, 5, 2, 71], 0), (.aload_n 0, [], 0), (.getfield 40, [7, 6, 0, 76], 0), (.iconst 2, [], 2), (.iadd, [], 0), (.iconst 0, [], 0), (.iastore, [], 0), (.aload_n 0, [], 0), (.getfield 15, [7, 4, 2, 70], 0), (.aload_n 0, [], 0), (.getfield 32, [7, 2, 0, 75], 0), (.dup2, [], 0), (.iaload, [], 0), (.iconst 1, [], 1), (.iadd, [], 0), (.iastore, [], 0)], 1),
  ([(.return_, [], 0)], 0)]
/-- CourtProgress$Statutes.draftKind(Z)V -/
def ai_c75 : List (List ai_Op × Nat) := [([(.aload_n 0, [], 0), (.getfield 18, [7, 5, 2, 71], 0), (.aload_n 0, [], 0), (.getfield 40, [7, 6, 0, 76], 0), (.iload_n 1, [], 0), (.ifCond .eq 7, [1], 0), (.iconst 1, [], 1), (.goto 4, [2], 0)], 0),
  ([(.iconst 0, [], 0)], 2),
  ([(.iastore, [], 0), (.return_, [], 0)], 0)]
/-- CourtProgress$Statutes.draftTest(III)V -/
def ai_c76 : List (List ai_Op × Nat) := [([(.aload_n 0, [], 0), (.getfield 18, [7, 5, 2, 71], 0), (.aload_n 0, [], 0), (.getfield 40, [7, 6, 0, 76], 0), (.iconst 1, [], 1), (.iadd, [], 0), (.iaload, [], 0), (.iconst 4, [], 4), (.if_icmp .ge 68, [1], 0), (.aload_n 0, [], 0), (.getfield 40, [7, 6, 0, 76], 0), (.iconst 3, [], 3), (.iadd, [], 0), (.iconst 3, [], 3), (.aload_n 0, [], 0), (.getfield 18, [7, 5, 2, 71], 0), (.aload_n 0, [], 0), (.getfield 40, [7, 6, 0, 76], 0), (.iconst 1, [], 1), (.iadd, [], 0), (.iaload, [], 0), (.imul, [], 0), (.iadd, [], 0), (.istore 4, [], 0), (.aload_n 0, [], 0), (.getfield 18, [7, 5, 2, 71], 0), (.iload 4, [], 0), (.iload_n 1, [], 0), (.iastore, [], 0), (.aload_n 0, [], 0), (.getfield 18, [7, 5, 2, 71], 0), (.iload 4, [], 0), (.iconst 1, [], 1), (.iadd, [], 0), (.iload_n 2, [], 0), (.iastore, [], 0), (.aload_n 0, [], 0), (.getfield 18, [7, 5, 2, 71], 0), (.iload 4, [], 0), (.iconst 2, [], 2), (.iadd, [], 0), (.iload_n 3, [], 0), (.iastore, [], 0), (.aload_n 0, [], 0), (.getfield 18, [7, 5, 2, 71], 0), (.aload_n 0, [], 0), (.getfield 40, [7, 6, 0, 76], 0), (.iconst 1, [], 1), (.iadd, [], 0), (.dup2, [], 0), (.iaload, [], 0), (.iconst 1, [], 1), (.iadd, [], 0), (.iastore, [], 0)], 1),
  ([(.return_, [], 0)], 0)]
/-- CourtProgress$Statutes.draftTerm(II)V -/
def ai_c77 : List (List ai_Op × Nat) := [([(.aload_n 0, [], 0), (.getfield 18, [7, 5, 2, 71], 0), (.aload_n 0, [], 0), (.getfield 40, [7, 6, 0, 76], 0), (.iconst 2, [], 2), (.iadd, [], 0), (.iaload, [], 0), (.iconst 4, [], 4), (.if_icmp .ge 56, [1], 0), (.aload_n 0, [], 0), (.getfield 40, [7, 6, 0, 76], 0), (.bipush 15, [], 15), (.iadd, [], 0), (.iconst 2, [], 2), (.aload_n 0, [], 0), (.getfield 18, [7, 5, 2, 71], 0), (.aload_n 0, [], 0), (.getfield 40, [7, 6, 0, 76], 0), (.iconst 2, [], 2), (.iadd, [], 0), (.iaload, [], 0), (.imul, [], 0), (.iadd, [], 0), (.istore_n 3, [], 0), (.aload_n 0, [], 0), (.getfield 18, [7, 5, 2, 71], 0), (.iload_n 3, [], 0), (.iload_n 1, [], 0), (.iastore, [], 0), (.aload_n 0, [], 0), (.getfield 18, [7, 5, 2, 71], 0), (.iload_n 3, [], 0), (.iconst 1, [], 1), (.iadd, [], 0), (.iload_n 2, [], 0), (.iastore, [], 0), (.aload_n 0, [], 0), (.getfield 18, [7, 5, 2, 71], 0), (.aload_n 0, [], 0), (.getfield 40, [7, 6, 0, 76], 0), (.iconst 2, [], 2), (.iadd, [], 0), (.dup2, [], 0), (.iaload, [], 0), (.iconst 1, [], 1), (.iadd, [], 0), (.iastore, [], 0)], 1),
  ([(.return_, [], 0)], 0)]
/-- CourtProgress$Statutes.enact(I)I -/
def ai_c78 : List (List ai_Op × Nat) := [([(.aload_n 0, [], 0), (.getfield 32, [7, 2, 0, 75], 0), (.bipush 10, [], 10), (.if_icmp .lt 5, [1], 0), (.iconst (-1), [], (-1)), (.ireturn, [0], 0)], 0),
  ([(.aload_n 0, [], 0), (.getfield 11, [7, 3, 2, 69], 0), (.aload_n 0, [], 0), (.getfield 32, [7, 2, 0, 75], 0), (.iload_n 1, [], 0), (.iastore, [], 0), (.aload_n 0, [], 0), (.dup, [], 0), (.getfield 32, [7, 2, 0, 75], 0), (.iconst 1, [], 1), (.iadd, [], 0), (.putfield 32, [7, 2, 0, 75], 0), (.aload_n 0, [], 0), (.getfield 32, [7, 2, 0, 75], 0), (.iconst 1, [], 1), (.isub, [], 0), (.ireturn, [0], 0)], 0)]
/-- CourtProgress$Statutes.inForce(I)I -/
def ai_c79 : List (List ai_Op × Nat) := [([(.bipush (-2), [], (-2)), (.istore_n 2, [], 0), (.iconst (-1), [], (-1)), (.istore_n 3, [], 0), (.iconst 0, [], 0), (.istore 4, [], 0)], 1),
  ([(.iload 4, [], 0), (.aload_n 0, [], 0), (.getfield 32, [7, 2, 0, 75], 0), (.if_icmp .ge 42, [3], 0), (.aload_n 0, [], 0), (.getfield 11, [7, 3, 2, 69], 0), (.iload 4, [], 0), (.iaload, [], 0), (.iload_n 1, [], 0), (.if_icmp .gt 25, [2], 0), (.aload_n 0, [], 0), (.getfield 11, [7, 3, 2, 69], 0), (.iload 4, [], 0), (.iaload, [], 0), (.iload_n 3, [], 0), (.if_icmp .lt 14, [2], 0), (.iload 4, [], 0), (.istore_n 2, [], 0), (.aload_n 0, [], 0), (.getfield 11, [7, 3, 2, 69], 0), (.iload 4, [], 0), (.iaload, [], 0), (.istore_n 3, [], 0)], 2),
  ([(.iinc 4 1, [], 1), (.goto (-45), [1], 0)], 0),
  ([(.iload_n 2, [], 0), (.ireturn, [0], 0)], 0)]
/-- CourtProgress$Statutes.portion(IIZ)I -/
def ai_c80 : List (List ai_Op × Nat) := [([(.aload_n 0, [], 0), (.iload_n 2, [], 0), (.invokevirtual 43, [79, 2, 7, 0, 63], 0), (.istore 4, [], 0), (.iload 4, [], 0), (.ifCond .lt 14, [1], 0), (.aload_n 0, [], 0), (.getfield 24, [7, 0, 2, 73], 0), (.iload_n 1, [], 0), (.invokevirtual 47, [7, 2, 1, 0, 64], 0), (.ifCond .ne 5, [2], 0)], 1),
  ([(.iconst 0, [], 0), (.ireturn, [0], 0)], 0),
  ([(.aload_n 0, [], 0), (.iload_n 2, [], 0), (.invokevirtual 53, [82, 2, 7, 0, 65], 0), (.aload_n 0, [], 0), (.iload_n 1, [], 0), (.invokevirtual 57, [83, 2, 7, 0, 66], 0), (.aload_n 0, [], 0), (.iload 4, [], 0), (.iload_n 3, [], 0), (.ifCond .eq 7, [3], 0), (.iconst 1, [], 1), (.goto 4, [4], 0)], 0),
  ([(.iconst 0, [], 0)], 4),
  ([(.invokevirtual 60, [84, 3, 7, 0, 67], 0), (.ireturn, [0], 0)], 0)]
/-- CourtProgress$Statutes.needOf(I)I -/
def ai_c81 : List (List ai_Op × Nat) := [([(.aload_n 0, [], 0), (.iload_n 1, [], 0), (.invokevirtual 43, [79, 2, 7, 0, 63], 0), (.istore_n 2, [], 0), (.iload_n 2, [], 0), (.ifCond .ge 5, [1], 0), (.iconst 0, [], 0), (.ireturn, [0], 0)], 0),
  ([(.aload_n 0, [], 0), (.iload_n 1, [], 0), (.invokevirtual 53, [82, 2, 7, 0, 65], 0), (.lconst 0, [], 0), (.lstore_n 3, [], 0), (.iconst 0, [], 0), (.istore 5, [], 0)], 2),
  ([(.iload 5, [], 0), (.aload_n 0, [], 0), (.getfield 24, [7, 0, 2, 73], 0), (.getfield 63, [1, 0, 0, 77], 0), (.if_icmp .ge 76, [5], 0), (.aload_n 0, [], 0), (.iload 5, [], 0), (.invokevirtual 57, [83, 2, 7, 0, 66], 0), (.lload_n 3, [], 0), (.aload_n 0, [], 0), (.getfield 24, [7, 0, 2, 73], 0), (.getfield 64, [1, 2, 2, 78], 0), (.iload 5, [], 0), (.iaload, [], 0), (.i2l, [], 0), (.aload_n 0, [], 0), (.iload_n 2, [], 0), (.iconst 0, [], 0), (.invokevirtual 60, [84, 3, 7, 0, 67], 0), (.i2l, [], 0), (.lmul, [], 0), (.ladd, [], 0), (.lstore_n 3, [], 0), (.lload_n 3, [], 0), (.aload_n 0, [], 0), (.getfield 24, [7, 0, 2, 73], 0), (.getfield 67, [1, 3, 2, 79], 0), (.iload 5, [], 0), (.iaload, [], 0), (.ifCond .ne 7, [3], 0), (.lconst 0, [], 0), (.goto 22, [4], 0)], 0),
  ([(.aload_n 0, [], 0), (.getfield 24, [7, 0, 2, 73], 0), (.getfield 67, [1, 3, 2, 79], 0), (.iload 5, [], 0), (.iaload, [], 0), (.i2l, [], 0), (.aload_n 0, [], 0), (.iload_n 2, [], 0), (.iconst 1, [], 1), (.invokevirtual 60, [84, 3, 7, 0, 67], 0), (.i2l, [], 0), (.lmul, [], 0)], 4),
  ([(.ladd, [], 0), (.lstore_n 3, [], 0), (.iinc 5 1, [], 1), (.goto (-82), [2], 0)], 0),
  ([(.lload_n 3, [], 0), (.ldc2_w 70, [], 1000000), (.invokestatic 72, [213, 2, 999, 0, 68], 0), (.l2i, [], 0), (.ireturn, [0], 0)], 0)]
/-- CourtProgress$Statutes.setDay(I)V -/
def ai_c82 : List (List ai_Op × Nat) := [([(.aload_n 0, [], 0), (.getfield 21, [7, 7, 2, 72], 0), (.iconst 3, [], 3), (.iload_n 1, [], 0), (.iastore, [], 0), (.aload_n 0, [], 0), (.getfield 21, [7, 7, 2, 72], 0), (.iconst 4, [], 4), (.aload_n 0, [], 0), (.getfield 28, [7, 1, 2, 74], 0), (.iload_n 1, [], 0), (.invokevirtual 78, [2, 2, 0, 0, 69], 0), (.iastore, [], 0), (.aload_n 0, [], 0), (.getfield 21, [7, 7, 2, 72], 0), (.iconst 5, [], 5), (.aload_n 0, [], 0), (.getfield 28, [7, 1, 2, 74], 0), (.iload_n 1, [], 0), (.invokevirtual 83, [3, 2, 0, 0, 70], 0), (.iconst (-1), [], (-1)), (.if_icmp .ne 7, [1], 0), (.iconst 0, [], 0), (.goto 4, [2], 0)], 0),
  ([(.iconst 1, [], 1)], 2),
  ([(.iastore, [], 0), (.return_, [], 0)], 0)]
/-- CourtProgress$Statutes.setHousehold(I)V -/
def ai_c83 : List (List ai_Op × Nat) := [([(.aload_n 0, [], 0), (.getfield 21, [7, 7, 2, 72], 0), (.iconst 0, [], 0), (.aload_n 0, [], 0), (.getfield 24, [7, 0, 2, 73], 0), (.getfield 86, [1, 1, 2, 80], 0), (.iload_n 1, [], 0), (.iaload, [], 0), (.iastore, [], 0), (.aload_n 0, [], 0), (.getfield 21, [7, 7, 2, 72], 0), (.iconst 1, [], 1), (.aload_n 0, [], 0), (.getfield 24, [7, 0, 2, 73], 0), (.getfield 64, [1, 2, 2, 78], 0), (.iload_n 1, [], 0), (.iaload, [], 0), (.iastore, [], 0), (.aload_n 0, [], 0), (.getfield 21, [7, 7, 2, 72], 0), (.iconst 2, [], 2), (.aload_n 0, [], 0), (.getfield 24, [7, 0, 2, 73], 0), (.getfield 67, [1, 3, 2, 79], 0), (.iload_n 1, [], 0), (.iaload, [], 0), (.iastore, [], 0), (.return_, [], 0)], 0)]
/-- CourtProgress$Statutes.firstSum(II)I -/
def ai_c84 : List (List ai_Op × Nat) := [([(.iconst 0, [], 0), (.istore_n 3, [], 0)], 1),
  ([(.iload_n 3, [], 0), (.aload_n 0, [], 0), (.getfield 15, [7, 4, 2, 70], 0), (.iload_n 1, [], 0), (.iaload, [], 0), (.if_icmp .ge 43, [3], 0), (.iload_n 1, [], 0), (.iload_n 3, [], 0), (.invokestatic 36, [88, 2, 999, 0, 62], 0), (.istore 4, [], 0), (.aload_n 0, [], 0), (.getfield 18, [7, 5, 2, 71], 0), (.iload 4, [], 0), (.iaload, [], 0), (.iload_n 2, [], 0), (.if_icmp .ne 19, [2], 0), (.aload_n 0, [], 0), (.iload 4, [], 0), (.invokevirtual 89, [85, 2, 7, 0, 71], 0), (.ifCond .eq 10, [2], 0), (.aload_n 0, [], 0), (.iload 4, [], 0), (.invokevirtual 92, [86, 2, 7, 0, 72], 0), (.ireturn, [0], 0)], 0),
  ([(.iinc 3 1, [], 1), (.goto (-47), [1], 0)], 0),
  ([(.iconst 0, [], 0), (.ireturn, [0], 0)], 0)]
/-- CourtProgress$Statutes.testsHold(I)Z -/
def ai_c85 : List (List ai_Op × Nat) := [([(.iload_n 1, [], 0), (.iconst 3, [], 3), (.iadd, [], 0), (.iconst 3, [], 3), (.aload_n 0, [], 0), (.getfield 18, [7, 5, 2, 71], 0), (.iload_n 1, [], 0), (.iconst 1, [], 1), (.iadd, [], 0), (.iaload, [], 0), (.imul, [], 0), (.iadd, [], 0), (.istore_n 2, [], 0), (.iload_n 1, [], 0), (.iconst 3, [], 3), (.iadd, [], 0), (.istore_n 3, [], 0)], 1),
  ([(.iload_n 3, [], 0), (.iload_n 2, [], 0), (.if_icmp .ge 120, [13], 0), (.aload_n 0, [], 0), (.aload_n 0, [], 0), (.getfield 18, [7, 5, 2, 71], 0), (.iload_n 3, [], 0), (.iaload, [], 0), (.invokevirtual 95, [87, 2, 7, 0, 73], 0), (.istore 4, [], 0), (.aload_n 0, [], 0), (.getfield 18, [7, 5, 2, 71], 0), (.iload_n 3, [], 0), (.iconst 2, [], 2), (.iadd, [], 0), (.iaload, [], 0), (.istore 5, [], 0), (.aload_n 0, [], 0), (.getfield 18, [7, 5, 2, 71], 0), (.iload_n 3, [], 0), (.iconst 1, [], 1), (.iadd, [], 0), (.iaload, [], 0), (.lookupswitch 60 #[(60, 26), (62, 43)], [8, 2, 5], 0)], 0),
  ([(.iload 4, [], 0), (.iload 5, [], 0), (.if_icmp .ge 7, [3], 0), (.iconst 1, [], 1), (.goto 4, [4], 0)], 0),
  ([(.iconst 0, [], 0)], 4),
  ([(.istore 6, [], 0), (.goto 34, [11], 0)], 0),
  ([(.iload 4, [], 0), (.iload 5, [], 0), (.if_icmp .le 7, [6], 0), (.iconst 1, [], 1), (.goto 4, [7], 0)], 0),
  ([(.iconst 0, [], 0)], 7),
  ([(.istore 6, [], 0), (.goto 17, [11], 0)], 0),
  ([(.iload 4, [], 0), (.iload 5, [], 0), (.if_icmp .ne 7, [9], 0), (.iconst 1, [], 1), (.goto 4, [10], 0)], 0),
  ([(.iconst 0, [], 0)], 10),
  ([(.istore 6, [], 0)], 11),
  ([(.iload 6, [], 0), (.ifCond .ne 5, [12], 0), (.iconst 0, [], 0), (.ireturn, [1], 0)], 0),
  ([(.iinc 3 3, [], 3), (.goto (-119), [1], 0)], 0),
  ([(.iconst 1, [], 1), (.ireturn, [1], 0)], 0)]
/-- CourtProgress$Statutes.sumOf(I)I -/
def ai_c86 : List (List ai_Op × Nat) := [([(.iconst 0, [], 0), (.istore_n 2, [], 0), (.iload_n 1, [], 0), (.bipush 15, [], 15), (.iadd, [], 0), (.iconst 2, [], 2), (.aload_n 0, [], 0), (.getfield 18, [7, 5, 2, 71], 0), (.iload_n 1, [], 0), (.iconst 2, [], 2), (.iadd, [], 0), (.iaload, [], 0), (.imul, [], 0), (.iadd, [], 0), (.istore_n 3, [], 0), (.iload_n 1, [], 0), (.bipush 15, [], 15), (.iadd, [], 0), (.istore 4, [], 0)], 1),
  ([(.iload 4, [], 0), (.iload_n 3, [], 0), (.if_icmp .ge 33, [2], 0), (.iload_n 2, [], 0), (.aload_n 0, [], 0), (.getfield 18, [7, 5, 2, 71], 0), (.iload 4, [], 0), (.iaload, [], 0), (.aload_n 0, [], 0), (.aload_n 0, [], 0), (.getfield 18, [7, 5, 2, 71], 0), (.iload 4, [], 0), (.iconst 1, [], 1), (.iadd, [], 0), (.iaload, [], 0), (.invokevirtual 95, [87, 2, 7, 0, 73], 0), (.imul, [], 0), (.iadd, [], 0), (.istore_n 2, [], 0), (.iinc 4 2, [], 2), (.goto (-33), [1], 0)], 0),
  ([(.iload_n 2, [], 0), (.ireturn, [0], 0)], 0)]
/-- CourtProgress$Statutes.valueOf(I)I -/
def ai_c87 : List (List ai_Op × Nat) := [([(.iload_n 1, [], 0), (.ifCond .lt 18, [1], 0), (.iload_n 1, [], 0), (.bipush 6, [], 6), (.if_icmp .gt 12, [1], 0), (.aload_n 0, [], 0), (.getfield 21, [7, 7, 2, 72], 0), (.iload_n 1, [], 0), (.iaload, [], 0), (.goto 4, [2], 0)], 0),
  ([(.iconst 0, [], 0)], 2),
  ([(.ireturn, [0], 0)], 0)]
/-- CourtProgress$Statutes.rowOf(II)I -/
def ai_c88 : List (List ai_Op × Nat) := [([(.iload_n 0, [], 0), (.bipush 12, [], 12), (.imul, [], 0), (.iload_n 1, [], 0), (.iadd, [], 0), (.bipush 23, [], 23), (.imul, [], 0), (.ireturn, [0], 0)], 0)]
/-- CourtProgress$Tape.<init>()V -/
def ai_c89 : List (List ai_Op × Nat) := [([(.aload_n 0, [], 0), (.invokespecial 3, [998, 1, 999, 0, 0], 0), (.aload_n 0, [], 0), (.sipush 400, [], 400), (.newarray .int, [1], 0), (.putfield 11, [8, 1, 2, 81], 0), (.aload_n 0, [], 0), (.sipush 401, [], 401), (.newarray .int, [1], 0), (.putfield 15, [8, 4, 2, 82], 0), (.aload_n 0, [], 0), (.sipush 401, [], 401), (.newarray .int, [1], 0), (.putfield 18, [8, 5, 2, 83], 0), (.return_, [], 0)], 0)]
/-- CourtProgress$Tape.hasRoom()Z -/
def ai_c90 : List (List ai_Op × Nat) := [([(.aload_n 0, [], 0), (.getfield 21, [8, 0, 0, 84], 0), (.sipush 380, [], 380), (.if_icmp .gt 7, [1], 0), (.iconst 1, [], 1), (.goto 4, [2], 0)], 0),
  ([(.iconst 0, [], 0)], 2),
  ([(.ireturn, [1], 0)], 0)]
/-- CourtProgress$Tape.append(I)V -/
def ai_c91 : List (List ai_Op × Nat) := [([(.bipush 24, [], 24), (.istore_n 2, [], 0)], 1),
  ([(.iload_n 2, [], 0), (.ifCond .lt 45, [2], 0), (.aload_n 0, [], 0), (.getfield 21, [8, 0, 0, 84], 0), (.sipush 400, [], 400), (.if_icmp .ge 35, [2], 0), (.aload_n 0, [], 0), (.getfield 11, [8, 1, 2, 81], 0), (.aload_n 0, [], 0), (.getfield 21, [8, 0, 0, 84], 0), (.iload_n 1, [], 0), (.iload_n 2, [], 0), (.iushr, [], 0), (.sipush 255, [], 255), (.iand, [], 0), (.iastore, [], 0), (.aload_n 0, [], 0), (.dup, [], 0), (.getfield 21, [8, 0, 0, 84], 0), (.iconst 1, [], 1), (.iadd, [], 0), (.putfield 21, [8, 0, 0, 84], 0), (.iinc 2 (-8), [], (-8)), (.goto (-43), [1], 0)], 0),
  ([(.return_, [], 0)], 0)]
/-- CourtProgress$Tape.tokenAt(I)I -/
def ai_c92 : List (List ai_Op × Nat) := [([(.iload_n 1, [], 0), (.ifCond .lt 20, [1], 0), (.iload_n 1, [], 0), (.aload_n 0, [], 0), (.getfield 25, [8, 3, 0, 85], 0), (.if_icmp .ge 12, [1], 0), (.aload_n 0, [], 0), (.getfield 15, [8, 4, 2, 82], 0), (.iload_n 1, [], 0), (.iaload, [], 0), (.goto 4, [2], 0)], 0),
  ([(.iconst (-1), [], (-1))], 2),
  ([(.ireturn, [0], 0)], 0)]
/-- CourtProgress$Tape.placeAt(I)I -/
def ai_c93 : List (List ai_Op × Nat) := [([(.iload_n 1, [], 0), (.ifCond .lt 20, [1], 0), (.iload_n 1, [], 0), (.aload_n 0, [], 0), (.getfield 25, [8, 3, 0, 85], 0), (.if_icmp .ge 12, [1], 0), (.aload_n 0, [], 0), (.getfield 18, [8, 5, 2, 83], 0), (.iload_n 1, [], 0), (.iaload, [], 0), (.goto 4, [2], 0)], 0),
  ([(.iconst (-1), [], (-1))], 2),
  ([(.ireturn, [0], 0)], 0)]
/-- CourtProgress$Tape.scan(I)V -/
def ai_c94 : List (List ai_Op × Nat) := [([(.aload_n 0, [], 0), (.iconst 0, [], 0), (.iload_n 1, [], 0), (.aload_n 0, [], 0), (.getfield 21, [8, 0, 0, 84], 0), (.invokestatic 28, [212, 2, 999, 0, 74], 0), (.invokestatic 34, [211, 2, 999, 0, 75], 0), (.putfield 37, [8, 2, 0, 86], 0), (.aload_n 0, [], 0), (.iconst 0, [], 0), (.putfield 25, [8, 3, 0, 85], 0), (.iconst 0, [], 0), (.istore_n 2, [], 0), (.iconst 0, [], 0), (.istore_n 3, [], 0)], 1),
  ([(.aload_n 0, [], 0), (.getfield 25, [8, 3, 0, 85], 0), (.sipush 400, [], 400), (.if_icmp .gt 71, [2], 0), (.iload_n 2, [], 0), (.iconst (-1), [], (-1)), (.if_icmp .eq 66, [2], 0), (.iload_n 2, [], 0), (.bipush (-2), [], (-2)), (.if_icmp .eq 60, [2], 0), (.aload_n 0, [], 0), (.iload_n 3, [], 0), (.invokevirtual 40, [95, 2, 8, 0, 76], 0), (.istore_n 3, [], 0), (.aload_n 0, [], 0), (.iload_n 3, [], 0), (.invokevirtual 44, [96, 2, 8, 0, 77], 0), (.istore 4, [], 0), (.aload_n 0, [], 0), (.iload_n 3, [], 0), (.iload 4, [], 0), (.invokevirtual 47, [97, 3, 8, 0, 78], 0), (.istore_n 2, [], 0), (.aload_n 0, [], 0), (.getfield 15, [8, 4, 2, 82], 0), (.aload_n 0, [], 0), (.getfield 25, [8, 3, 0, 85], 0), (.iload_n 2, [], 0), (.iastore, [], 0), (.aload_n 0, [], 0), (.getfield 18, [8, 5, 2, 83], 0), (.aload_n 0, [], 0), (.getfield 25, [8, 3, 0, 85], 0), (.iload_n 3, [], 0), (.iastore, [], 0), (.aload_n 0, [], 0), (.dup, [], 0), (.getfield 25, [8, 3, 0, 85], 0), (.iconst 1, [], 1), (.iadd, [], 0), (.putfield 25, [8, 3, 0, 85], 0), (.iload 4, [], 0), (.istore_n 3, [], 0), (.goto (-75), [1], 0)], 0),
  ([(.return_, [], 0)], 0)]
/-- CourtProgress$Tape.skipBlanks(I)I -/
def ai_c95 : List (List ai_Op × Nat) := [([(.iload_n 1, [], 0), (.istore_n 2, [], 0)], 1),
  ([(.iload_n 2, [], 0), (.aload_n 0, [], 0), (.getfield 37, [8, 2, 0, 86], 0), (.if_icmp .ge 20, [2], 0), (.aload_n 0, [], 0), (.getfield 11, [8, 1, 2, 81], 0), (.iload_n 2, [], 0), (.iaload, [], 0), (.bipush 32, [], 32), (.if_icmp .ne 9, [2], 0), (.iinc 2 1, [], 1), (.goto (-22), [1], 0)], 0),
  ([(.iload_n 2, [], 0), (.ireturn, [0], 0)], 0)]
/-- CourtProgress$Tape.tokenEnd(I)I -/
def ai_c96 : List (List ai_Op × Nat) := [([(.iload_n 1, [], 0), (.istore_n 2, [], 0), (.aload_n 0, [], 0), (.iload_n 1, [], 0), (.invokevirtual 50, [101, 2, 8, 0, 79], 0), (.ifCond .eq 25, [2], 0)], 1),
  ([(.iload_n 2, [], 0), (.aload_n 0, [], 0), (.getfield 37, [8, 2, 0, 86], 0), (.if_icmp .ge 50, [5], 0), (.aload_n 0, [], 0), (.iload_n 2, [], 0), (.invokevirtual 50, [101, 2, 8, 0, 79], 0), (.ifCond .eq 42, [5], 0), (.iinc 2 1, [], 1), (.goto (-19), [1], 0)], 0),
  ([(.aload_n 0, [], 0), (.iload_n 1, [], 0), (.invokevirtual 54, [102, 2, 8, 0, 80], 0), (.ifCond .eq 25, [4], 0)], 3),
  ([(.iload_n 2, [], 0), (.aload_n 0, [], 0), (.getfield 37, [8, 2, 0, 86], 0), (.if_icmp .ge 20, [5], 0), (.aload_n 0, [], 0), (.iload_n 2, [], 0), (.invokevirtual 54, [102, 2, 8, 0, 80], 0), (.ifCond .eq 12, [5], 0), (.iinc 2 1, [], 1), (.goto (-19), [3], 0)], 0),
  ([(.iinc 2 1, [], 1)], 5),
  ([(.iload_n 2, [], 0), (.ireturn, [0], 0)], 0)]
/-- CourtProgress$Tape.tokenOf(II)I -/
def ai_c97 : List (List ai_Op × Nat) := [([(.iload_n 1, [], 0), (.aload_n 0, [], 0), (.getfield 37, [8, 2, 0, 86], 0), (.if_icmp .lt 5, [1], 0), (.iconst (-1), [], (-1)), (.ireturn, [0], 0)], 0),
  ([(.aload_n 0, [], 0), (.iload_n 1, [], 0), (.invokevirtual 50, [101, 2, 8, 0, 79], 0), (.ifCond .eq 23, [4], 0), (.iload_n 2, [], 0), (.iload_n 1, [], 0), (.isub, [], 0), (.bipush 8, [], 8), (.if_icmp .le 8, [2], 0), (.bipush (-2), [], (-2)), (.goto 9, [3], 0)], 0),
  ([(.aload_n 0, [], 0), (.iload_n 1, [], 0), (.iload_n 2, [], 0), (.invokevirtual 57, [99, 3, 8, 0, 81], 0)], 3),
  ([(.ireturn, [0], 0)], 0),
  ([(.aload_n 0, [], 0), (.iload_n 1, [], 0), (.invokevirtual 54, [102, 2, 8, 0, 80], 0), (.ifCond .eq 22, [7], 0), (.iload_n 2, [], 0), (.iload_n 1, [], 0), (.isub, [], 0), (.iconst 3, [], 3), (.if_icmp .le 8, [5], 0), (.bipush (-2), [], (-2)), (.goto 9, [6], 0)], 0),
  ([(.aload_n 0, [], 0), (.iload_n 1, [], 0), (.iload_n 2, [], 0), (.invokevirtual 60, [98, 3, 8, 0, 82], 0)], 6),
  ([(.ireturn, [0], 0)], 0),
  ([(.aload_n 0, [], 0), (.getfield 11, [8, 1, 2, 81], 0), (.iload_n 1, [], 0), (.iaload, [], 0), (.invokestatic 63, [103, 1, 999, 0, 83], 0), (.ifCond .eq 12, [8], 0), (.aload_n 0, [], 0), (.getfield 11, [8, 1, 2, 81], 0), (.iload_n 1, [], 0), (.iaload, [], 0), (.goto 5, [9], 0)], 0),
  ([(.bipush (-2), [], (-2))], 9),
  ([(.ireturn, [0], 0)], 0)]
/-- CourtProgress$Tape.numberOf(II)I -/
def ai_c98 : List (List ai_Op × Nat) := [([(.iconst 0, [], 0), (.istore_n 3, [], 0), (.iload_n 1, [], 0), (.istore 4, [], 0)], 1),
  ([(.iload 4, [], 0), (.iload_n 2, [], 0), (.if_icmp .ge 25, [2], 0), (.iload_n 3, [], 0), (.bipush 10, [], 10), (.imul, [], 0), (.aload_n 0, [], 0), (.getfield 11, [8, 1, 2, 81], 0), (.iload 4, [], 0), (.iaload, [], 0), (.iadd, [], 0), (.bipush 48, [], 48), (.isub, [], 0), (.istore_n 3, [], 0), (.iinc 4 1, [], 1), (.goto (-25), [1], 0)], 0),
  ([(.sipush 1000, [], 1000), (.iload_n 3, [], 0), (.iadd, [], 0), (.ireturn, [0], 0)], 0)]
/-- CourtProgress$Tape.wordOf(II)I -/
def ai_c99 : List (List ai_Op × Nat) := [([(.aload_n 0, [], 0), (.ldc 66, [0], 0), (.iload_n 1, [], 0), (.iload_n 2, [], 0), (.invokevirtual 68, [100, 4, 8, 0, 84], 0), (.ifCond .eq 5, [1], 0), (.iconst 0, [], 0), (.ireturn, [0], 0)], 0),
  ([(.aload_n 0, [], 0), (.ldc 74, [1], 0), (.iload_n 1, [], 0), (.iload_n 2, [], 0), (.invokevirtual 68, [100, 4, 8, 0, 84], 0), (.ifCond .eq 5, [2], 0), (.iconst 1, [], 1), (.ireturn, [0], 0)], 0),
  ([(.aload_n 0, [], 0), (.ldc 76, [2], 0), (.iload_n 1, [], 0), (.iload_n 2, [], 0), (.invokevirtual 68, [100, 4, 8, 0, 84], 0), (.ifCond .eq 5, [3], 0), (.iconst 2, [], 2), (.ireturn, [0], 0)], 0),
  ([(.aload_n 0, [], 0), (.ldc 78, [3], 0), (.iload_n 1, [], 0), (.iload_n 2, [], 0), (.invokevirtual 68, [100, 4, 8, 0, 84], 0), (.ifCond .eq 5, [4], 0), (.iconst 3, [], 3), (.ireturn, [0], 0)], 0),
  ([(.aload_n 0, [], 0), (.ldc 80, [4], 0), (.iload_n 1, [], 0), (.iload_n 2, [], 0), (.invokevirtual 68, [100, 4, 8, 0, 84], 0), (.ifCond .eq 5, [5], 0), (.iconst 4, [], 4), (.ireturn, [0], 0)], 0),
  ([(.aload_n 0, [], 0), (.ldc 82, [5], 0), (.iload_n 1, [], 0), (.iload_n 2, [], 0), (.invokevirtual 68, [100, 4, 8, 0, 84], 0), (.ifCond .eq 5, [6], 0), (.iconst 5, [], 5), (.ireturn, [0], 0)], 0),
  ([(.aload_n 0, [], 0), (.ldc 84, [6], 0), (.iload_n 1, [], 0), (.iload_n 2, [], 0), (.invokevirtual 68, [100, 4, 8, 0, 84], 0), (.ifCond .eq 7, [7], 0), (.sipush 257, [], 257), (.ireturn, [0], 0)], 0),
  ([(.aload_n 0, [], 0), (.ldc 86, [7], 0), (.iload_n 1, [], 0), (.iload_n 2, [], 0), (.invokevirtual 68, [100, 4, 8, 0, 84], 0), (.ifCond .eq 7, [8], 0), (.sipush 258, [], 258), (.ireturn, [0], 0)], 0),
  ([(.aload_n 0, [], 0), (.ldc 88, [8], 0), (.iload_n 1, [], 0), (.iload_n 2, [], 0), (.invokevirtual 68, [100, 4, 8, 0, 84], 0), (.ifCond .eq 7, [9], 0), (.sipush 259, [], 259), (.ireturn, [0], 0)], 0),
  ([(.aload_n 0, [], 0), (.ldc 90, [9], 0), (.iload_n 1, [], 0), (.iload_n 2, [], 0), (.invokevirtual 68, [100, 4, 8, 0, 84], 0), (.ifCond .eq 7, [10], 0), (.sipush 260, [], 260), (.ireturn, [0], 0)], 0),
  ([(.sipush 256, [], 256), (.ireturn, [0], 0)], 0)]
/-- CourtProgress$Tape.spells(Ljava/lang/String;II)Z -/
def ai_c100 : List (List ai_Op × Nat) := [([(.iload_n 3, [], 0), (.iload_n 2, [], 0), (.isub, [], 0), (.aload_n 1, [], 0), (.invokevirtual 92, [300, 1, 998, 0, 85], 0), (.if_icmp .eq 5, [1], 0), (.iconst 0, [], 0), (.ireturn, [1], 0)], 0),
  ([(.iconst 0, [], 0), (.istore 4, [], 0)], 2),
  ([(.iload 4, [], 0), (.aload_n 1, [], 0), (.invokevirtual 92, [300, 1, 998, 0, 85], 0), (.if_icmp .ge 29, [4], 0), (.aload_n 0, [], 0), (.getfield 11, [8, 1, 2, 81], 0), (.iload_n 2, [], 0), (.iload 4, [], 0), (.iadd, [], 0), (.iaload, [], 0), (.aload_n 1, [], 0), (.iload 4, [], 0), (.invokevirtual 97, [301, 2, 998, 0, 86], 0), (.if_icmp .eq 5, [3], 0), (.iconst 0, [], 0), (.ireturn, [1], 0)], 0),
  ([(.iinc 4 1, [], 1), (.goto (-32), [2], 0)], 0),
  ([(.iconst 1, [], 1), (.ireturn, [1], 0)], 0)]
/-- CourtProgress$Tape.isLetter(I)Z -/
def ai_c101 : List (List ai_Op × Nat) := [([(.iload_n 1, [], 0), (.ifCond .lt 37, [1], 0), (.iload_n 1, [], 0), (.aload_n 0, [], 0), (.getfield 37, [8, 2, 0, 86], 0), (.if_icmp .ge 29, [1], 0), (.aload_n 0, [], 0), (.getfield 11, [8, 1, 2, 81], 0), (.iload_n 1, [], 0), (.iaload, [], 0), (.bipush 97, [], 97), (.if_icmp .lt 18, [1], 0), (.aload_n 0, [], 0), (.getfield 11, [8, 1, 2, 81], 0), (.iload_n 1, [], 0), (.iaload, [], 0), (.bipush 122, [], 122), (.if_icmp .gt 7, [1], 0), (.iconst 1, [], 1), (.goto 4, [2], 0)], 0),
  ([(.iconst 0, [], 0)], 2),
  ([(.ireturn, [1], 0)], 0)]
/-- CourtProgress$Tape.isDigit(I)Z -/
def ai_c102 : List (List ai_Op × Nat) := [([(.iload_n 1, [], 0), (.ifCond .lt 37, [1], 0), (.iload_n 1, [], 0), (.aload_n 0, [], 0), (.getfield 37, [8, 2, 0, 86], 0), (.if_icmp .ge 29, [1], 0), (.aload_n 0, [], 0), (.getfield 11, [8, 1, 2, 81], 0), (.iload_n 1, [], 0), (.iaload, [], 0), (.bipush 48, [], 48), (.if_icmp .lt 18, [1], 0), (.aload_n 0, [], 0), (.getfield 11, [8, 1, 2, 81], 0), (.iload_n 1, [], 0), (.iaload, [], 0), (.bipush 57, [], 57), (.if_icmp .gt 7, [1], 0), (.iconst 1, [], 1), (.goto 4, [2], 0)], 0),
  ([(.iconst 0, [], 0)], 2),
  ([(.ireturn, [1], 0)], 0)]
/-- CourtProgress$Tape.isSign(I)Z -/
def ai_c103 : List (List ai_Op × Nat) := [([(.iload_n 0, [], 0), (.bipush 60, [], 60), (.if_icmp .eq 33, [1], 0), (.iload_n 0, [], 0), (.bipush 62, [], 62), (.if_icmp .eq 27, [1], 0), (.iload_n 0, [], 0), (.bipush 61, [], 61), (.if_icmp .eq 21, [1], 0), (.iload_n 0, [], 0), (.bipush 43, [], 43), (.if_icmp .eq 15, [1], 0), (.iload_n 0, [], 0), (.bipush 42, [], 42), (.if_icmp .eq 9, [1], 0), (.iload_n 0, [], 0), (.bipush 59, [], 59), (.if_icmp .ne 7, [2], 0)], 1),
  ([(.iconst 1, [], 1), (.goto 4, [3], 0)], 0),
  ([(.iconst 0, [], 0)], 3),
  ([(.ireturn, [1], 0)], 0)]
/-- CourtProgress.<init>()V -/
def ai_c104 : List (List ai_Op × Nat) := [([(.aload_n 0, [], 0), (.invokespecial 1, [998, 1, 999, 0, 0], 0), (.aload_n 0, [], 0), (.bipush 8, [], 8), (.newarray .int, [1], 0), (.putfield 9, [9, 9, 2, 87], 0), (.aload_n 0, [], 0), (.sipush 200, [], 200), (.newarray .int, [1], 0), (.putfield 13, [9, 10, 2, 88], 0), (.aload_n 0, [], 0), (.sipush 200, [], 200), (.newarray .int, [1], 0), (.putfield 16, [9, 11, 2, 89], 0), (.aload_n 0, [], 0), (.new 19, [1], 0), (.dup, [], 0), (.invokespecial 21, [6, 1, 1, 0, 87], 0), (.putfield 22, [9, 0, 2, 90], 0), (.aload_n 0, [], 0), (.new 26, [3], 0), (.dup, [], 0), (.invokespecial 28, [32, 1, 3, 0, 88], 0), (.putfield 29, [9, 1, 2, 91], 0), (.aload_n 0, [], 0), (.new 33, [0], 0), (.dup, [], 0), (.invokespecial 35, [0, 1, 0, 0, 89], 0), (.putfield 36, [9, 2, 2, 92], 0), (.aload_n 0, [], 0), (.new 40, [7], 0), (.dup, [], 0), (.aload_n 0, [], 0), (.getfield 22, [9, 0, 2, 90], 0), (.aload_n 0, [], 0), (.getfield 36, [9, 2, 2, 92], 0), (.invokespecial 42, [72, 3, 7, 0, 90], 0), (.putfield 45, [9, 3, 2, 93], 0), (.aload_n 0, [], 0), (.new 49, [8], 0), (.dup, [], 0), (.invokespecial 51, [89, 1, 8, 0, 91], 0), (.putfield 52, [9, 4, 2, 94], 0), (.aload_n 0, [], 0), (.new 56, [6], 0), (.dup, [], 0), (.aload_n 0, [], 0), (.getfield 52, [9, 4, 2, 94], 0), (.aload_n 0, [], 0), (.getfield 45, [9, 3, 2, 93], 0), (.invokespecial 58, [59, 3, 6, 0, 92], 0), (.putfield 61, [9, 5, 2, 95], 0), (.aload_n 0, [], 0), (.new 65, [2], 0), (.dup, [], 0), (.aload_n 0, [], 0), (.getfield 22, [9, 0, 2, 90], 0), (.aload_n 0, [], 0), (.getfield 29, [9, 1, 2, 91], 0), (.invokespecial 67, [12, 3, 2, 0, 93], 0), (.putfield 70, [9, 6, 2, 96], 0), (.aload_n 0, [], 0), (.new 74, [5], 0), (.dup, [], 0), (.aload_n 0, [], 0), (.getfield 29, [9, 1, 2, 91], 0), (.aload_n 0, [], 0), (.getfield 36, [9, 2, 2, 92], 0), (.aload_n 0, [], 0), (.getfield 45, [9, 3, 2, 93], 0), (.invokespecial 76, [46, 4, 5, 0, 94], 0), (.putfield 79, [9, 7, 2, 97], 0), (.aload_n 0, [], 0), (.new 83, [4], 0), (.dup, [], 0), (.invokespecial 85, [41, 1, 4, 0, 95], 0), (.putfield 86, [9, 8, 2, 98], 0), (.iconst 0, [], 0), (.istore_n 1, [], 0)], 1),
  ([(.iload_n 1, [], 0), (.bipush 8, [], 8), (.if_icmp .ge 16, [2], 0), (.aload_n 0, [], 0), (.getfield 9, [9, 9, 2, 87], 0), (.iload_n 1, [], 0), (.iconst (-1), [], (-1)), (.iastore, [], 0), (.iinc 1 1, [], 1), (.goto (-16), [1], 0)], 0),
  ([(.aload_n 0, [], 0), (.iconst 0, [], 0), (.putfield 90, [9, 12, 0, 99], 0), (.aload_n 0, [], 0), (.iconst (-1), [], (-1)), (.putfield 94, [9, 13, 0, 100], 0), (.aload_n 0, [], 0), (.iconst 0, [], 0), (.putfield 97, [9, 14, 0, 101], 0), (.return_, [], 0)], 0)]
/-- CourtProgress.household(III)I -/
def ai_c105 : List (List ai_Op × Nat) := [([(.iload_n 1, [], 0), (.iconst 1, [], 1), (.bipush 9, [], 9), (.invokestatic 100, [142, 3, 999, 0, 96], 0), (.ifCond .eq 23, [1], 0), (.iload_n 2, [], 0), (.iconst 1, [], 1), (.bipush 99, [], 99), (.invokestatic 100, [142, 3, 999, 0, 96], 0), (.ifCond .eq 13, [1], 0), (.iload_n 3, [], 0), (.iconst 0, [], 0), (.bipush 99, [], 99), (.invokestatic 100, [142, 3, 999, 0, 96], 0), (.ifCond .ne 9, [2], 0)], 1),
  ([(.aload_n 0, [], 0), (.iconst 2, [], 2), (.invokevirtual 104, [136, 2, 9, 0, 97], 0), (.ireturn, [0], 0)], 0),
  ([(.aload_n 0, [], 0), (.getfield 22, [9, 0, 2, 90], 0), (.getfield 108, [1, 0, 0, 102], 0), (.bipush 8, [], 8), (.if_icmp .lt 9, [3], 0), (.aload_n 0, [], 0), (.iconst 3, [], 3), (.invokevirtual 104, [136, 2, 9, 0, 97], 0), (.ireturn, [0], 0)], 0),
  ([(.aload_n 0, [], 0), (.aload_n 0, [], 0), (.getfield 22, [9, 0, 2, 90], 0), (.iload_n 1, [], 0), (.iload_n 2, [], 0), (.iload_n 3, [], 0), (.invokevirtual 111, [8, 4, 1, 0, 98], 0), (.invokevirtual 115, [137, 2, 9, 0, 99], 0), (.ireturn, [0], 0)], 0)]
/-- CourtProgress.bar(IIZ)Z -/
def ai_c106 : List (List ai_Op × Nat) := [([(.aload_n 0, [], 0), (.getfield 22, [9, 0, 2, 90], 0), (.iload_n 1, [], 0), (.invokevirtual 118, [7, 2, 1, 0, 100], 0), (.ifCond .eq 19, [1], 0), (.aload_n 0, [], 0), (.getfield 22, [9, 0, 2, 90], 0), (.iload_n 2, [], 0), (.invokevirtual 118, [7, 2, 1, 0, 100], 0), (.ifCond .eq 8, [1], 0), (.iload_n 1, [], 0), (.iload_n 2, [], 0), (.if_icmp .ne 9, [2], 0)], 1),
  ([(.aload_n 0, [], 0), (.iconst 1, [], 1), (.invokevirtual 122, [138, 2, 9, 0, 101], 0), (.ireturn, [1], 0)], 0),
  ([(.aload_n 0, [], 0), (.getfield 22, [9, 0, 2, 90], 0), (.iload_n 1, [], 0), (.iload_n 2, [], 0), (.iload_n 3, [], 0), (.invokevirtual 125, [9, 4, 1, 0, 102], 0), (.aload_n 0, [], 0), (.invokevirtual 129, [139, 1, 9, 0, 103], 0), (.ireturn, [1], 0)], 0)]
/-- CourtProgress.place(III)I -/
def ai_c107 : List (List ai_Op × Nat) := [([(.iload_n 1, [], 0), (.iconst 0, [], 0), (.ldc 133, [], 1000000), (.invokestatic 100, [142, 3, 999, 0, 96], 0), (.ifCond .eq 24, [1], 0), (.iload_n 2, [], 0), (.iconst 0, [], 0), (.ldc 133, [], 1000000), (.invokestatic 100, [142, 3, 999, 0, 96], 0), (.ifCond .eq 14, [1], 0), (.iload_n 3, [], 0), (.iconst 0, [], 0), (.sipush 999, [], 999), (.invokestatic 100, [142, 3, 999, 0, 96], 0), (.ifCond .ne 9, [2], 0)], 1),
  ([(.aload_n 0, [], 0), (.iconst 2, [], 2), (.invokevirtual 104, [136, 2, 9, 0, 97], 0), (.ireturn, [0], 0)], 0),
  ([(.aload_n 0, [], 0), (.getfield 29, [9, 1, 2, 91], 0), (.getfield 134, [3, 0, 0, 103], 0), (.bipush 9, [], 9), (.if_icmp .lt 9, [3], 0), (.aload_n 0, [], 0), (.iconst 3, [], 3), (.invokevirtual 104, [136, 2, 9, 0, 97], 0), (.ireturn, [0], 0)], 0),
  ([(.aload_n 0, [], 0), (.getfield 29, [9, 1, 2, 91], 0), (.iload_n 1, [], 0), (.iload_n 2, [], 0), (.iload_n 3, [], 0), (.invokevirtual 135, [34, 4, 3, 0, 104], 0), (.istore 4, [], 0), (.aload_n 0, [], 0), (.getfield 94, [9, 13, 0, 100], 0), (.iconst (-1), [], (-1)), (.if_icmp .ne 9, [4], 0), (.aload_n 0, [], 0), (.iload 4, [], 0), (.putfield 94, [9, 13, 0, 100], 0)], 4),
  ([(.aload_n 0, [], 0), (.iload 4, [], 0), (.invokevirtual 115, [137, 2, 9, 0, 99], 0), (.ireturn, [0], 0)], 0)]
/-- CourtProgress.room(IIII)I -/
def ai_c108 : List (List ai_Op × Nat) := [([(.aload_n 0, [], 0), (.getfield 29, [9, 1, 2, 91], 0), (.iload_n 1, [], 0), (.invokevirtual 136, [33, 2, 3, 0, 105], 0), (.ifCond .ne 9, [1], 0), (.aload_n 0, [], 0), (.iconst 1, [], 1), (.invokevirtual 104, [136, 2, 9, 0, 97], 0), (.ireturn, [0], 0)], 0),
  ([(.iload_n 2, [], 0), (.iconst 1, [], 1), (.bipush 9, [], 9), (.invokestatic 100, [142, 3, 999, 0, 96], 0), (.ifCond .eq 23, [2], 0), (.iload_n 3, [], 0), (.iconst 0, [], 0), (.iconst 3, [], 3), (.invokestatic 100, [142, 3, 999, 0, 96], 0), (.ifCond .eq 14, [2], 0), (.iload 4, [], 0), (.iconst 0, [], 0), (.bipush 99, [], 99), (.invokestatic 100, [142, 3, 999, 0, 96], 0), (.ifCond .ne 9, [3], 0)], 2),
  ([(.aload_n 0, [], 0), (.iconst 2, [], 2), (.invokevirtual 104, [136, 2, 9, 0, 97], 0), (.ireturn, [0], 0)], 0),
  ([(.aload_n 0, [], 0), (.getfield 29, [9, 1, 2, 91], 0), (.getfield 137, [3, 6, 2, 104], 0), (.iload_n 1, [], 0), (.iaload, [], 0), (.bipush 10, [], 10), (.if_icmp .lt 9, [4], 0), (.aload_n 0, [], 0), (.iconst 3, [], 3), (.invokevirtual 104, [136, 2, 9, 0, 97], 0), (.ireturn, [0], 0)], 0),
  ([(.aload_n 0, [], 0), (.aload_n 0, [], 0), (.getfield 29, [9, 1, 2, 91], 0), (.iload_n 1, [], 0), (.iload_n 2, [], 0), (.iload_n 3, [], 0), (.iload 4, [], 0), (.invokevirtual 140, [35, 5, 3, 0, 106], 0), (.invokevirtual 115, [137, 2, 9, 0, 99], 0), (.ireturn, [0], 0)], 0)]
/-- CourtProgress.way(III)Z -/
def ai_c109 : List (List ai_Op × Nat) := [([(.aload_n 0, [], 0), (.getfield 29, [9, 1, 2, 91], 0), (.iload_n 1, [], 0), (.invokevirtual 136, [33, 2, 3, 0, 105], 0), (.ifCond .eq 19, [1], 0), (.aload_n 0, [], 0), (.getfield 29, [9, 1, 2, 91], 0), (.iload_n 2, [], 0), (.invokevirtual 136, [33, 2, 3, 0, 105], 0), (.ifCond .eq 8, [1], 0), (.iload_n 1, [], 0), (.iload_n 2, [], 0), (.if_icmp .ne 9, [2], 0)], 1),
  ([(.aload_n 0, [], 0), (.iconst 1, [], 1), (.invokevirtual 122, [138, 2, 9, 0, 101], 0), (.ireturn, [1], 0)], 0),
  ([(.iload_n 3, [], 0), (.iconst 0, [], 0), (.bipush 48, [], 48), (.invokestatic 100, [142, 3, 999, 0, 96], 0), (.ifCond .ne 9, [3], 0), (.aload_n 0, [], 0), (.iconst 2, [], 2), (.invokevirtual 122, [138, 2, 9, 0, 101], 0), (.ireturn, [1], 0)], 0),
  ([(.aload_n 0, [], 0), (.getfield 29, [9, 1, 2, 91], 0), (.iload_n 1, [], 0), (.iload_n 2, [], 0), (.iload_n 3, [], 0), (.invokevirtual 144, [36, 4, 3, 0, 107], 0), (.aload_n 0, [], 0), (.invokevirtual 129, [139, 1, 9, 0, 103], 0), (.ireturn, [1], 0)], 0)]
/-- CourtProgress.mud(III)Z -/
def ai_c110 : List (List ai_Op × Nat) := [([(.iload_n 1, [], 0), (.invokestatic 148, [141, 1, 999, 0, 108], 0), (.ifCond .eq 24, [1], 0), (.iload_n 2, [], 0), (.invokestatic 148, [141, 1, 999, 0, 108], 0), (.ifCond .eq 17, [1], 0), (.iload_n 1, [], 0), (.iload_n 2, [], 0), (.if_icmp .gt 12, [1], 0), (.iload_n 3, [], 0), (.iconst 0, [], 0), (.iconst 4, [], 4), (.invokestatic 100, [142, 3, 999, 0, 96], 0), (.ifCond .ne 9, [2], 0)], 1),
  ([(.aload_n 0, [], 0), (.iconst 2, [], 2), (.invokevirtual 122, [138, 2, 9, 0, 101], 0), (.ireturn, [1], 0)], 0),
  ([(.aload_n 0, [], 0), (.getfield 36, [9, 2, 2, 92], 0), (.iload_n 1, [], 0), (.iload_n 2, [], 0), (.iload_n 3, [], 0), (.invokevirtual 151, [1, 4, 0, 0, 109], 0), (.aload_n 0, [], 0), (.invokevirtual 129, [139, 1, 9, 0, 103], 0), (.ireturn, [1], 0)], 0)]
/-- CourtProgress.feast(II)Z -/
def ai_c111 : List (List ai_Op × Nat) := [([(.iload_n 2, [], 0), (.iconst (-1), [], (-1)), (.if_icmp .eq 20, [1], 0), (.aload_n 0, [], 0), (.getfield 29, [9, 1, 2, 91], 0), (.iload_n 2, [], 0), (.invokevirtual 136, [33, 2, 3, 0, 105], 0), (.ifCond .ne 9, [1], 0), (.aload_n 0, [], 0), (.iconst 1, [], 1), (.invokevirtual 122, [138, 2, 9, 0, 101], 0), (.ireturn, [1], 0)], 0),
  ([(.iload_n 1, [], 0), (.invokestatic 148, [141, 1, 999, 0, 108], 0), (.ifCond .ne 9, [2], 0), (.aload_n 0, [], 0), (.iconst 2, [], 2), (.invokevirtual 122, [138, 2, 9, 0, 101], 0), (.ireturn, [1], 0)], 0),
  ([(.iload_n 2, [], 0), (.iconst (-1), [], (-1)), (.if_icmp .eq 20, [3], 0), (.aload_n 0, [], 0), (.getfield 36, [9, 2, 2, 92], 0), (.iload_n 1, [], 0), (.invokevirtual 154, [4, 2, 0, 0, 110], 0), (.ifCond .ne 9, [3], 0), (.aload_n 0, [], 0), (.iconst 3, [], 3), (.invokevirtual 122, [138, 2, 9, 0, 101], 0), (.ireturn, [1], 0)], 0),
  ([(.aload_n 0, [], 0), (.getfield 36, [9, 2, 2, 92], 0), (.iload_n 1, [], 0), (.iload_n 2, [], 0), (.invokevirtual 157, [5, 3, 0, 0, 111], 0), (.aload_n 0, [], 0), (.invokevirtual 129, [139, 1, 9, 0, 103], 0), (.ireturn, [1], 0)], 0)]
/-- CourtProgress.bring(III)Z -/
def ai_c112 : List (List ai_Op × Nat) := [([(.aload_n 0, [], 0), (.getfield 29, [9, 1, 2, 91], 0), (.iload_n 1, [], 0), (.invokevirtual 136, [33, 2, 3, 0, 105], 0), (.ifCond .ne 9, [1], 0), (.aload_n 0, [], 0), (.iconst 1, [], 1), (.invokevirtual 122, [138, 2, 9, 0, 101], 0), (.ireturn, [1], 0)], 0),
  ([(.aload_n 0, [], 0), (.getfield 29, [9, 1, 2, 91], 0), (.getfield 161, [3, 1, 2, 105], 0), (.iload_n 1, [], 0), (.iaload, [], 0), (.i2l, [], 0), (.iload_n 2, [], 0), (.i2l, [], 0), (.ladd, [], 0), (.lstore 4, [], 0), (.aload_n 0, [], 0), (.getfield 29, [9, 1, 2, 91], 0), (.getfield 164, [3, 2, 2, 106], 0), (.iload_n 1, [], 0), (.iaload, [], 0), (.i2l, [], 0), (.iload_n 3, [], 0), (.i2l, [], 0), (.ladd, [], 0), (.lstore 6, [], 0), (.lload 4, [], 0), (.lconst 0, [], 0), (.lcmp, [], 0), (.ifCond .lt 28, [2], 0), (.lload 4, [], 0), (.ldc2_w 167, [], 1000000), (.lcmp, [], 0), (.ifCond .gt 19, [2], 0), (.lload 6, [], 0), (.lconst 0, [], 0), (.lcmp, [], 0), (.ifCond .lt 12, [2], 0), (.lload 6, [], 0), (.ldc2_w 167, [], 1000000), (.lcmp, [], 0), (.ifCond .le 9, [3], 0)], 2),
  ([(.aload_n 0, [], 0), (.iconst 2, [], 2), (.invokevirtual 122, [138, 2, 9, 0, 101], 0), (.ireturn, [1], 0)], 0),
  ([(.aload_n 0, [], 0), (.getfield 29, [9, 1, 2, 91], 0), (.getfield 161, [3, 1, 2, 105], 0), (.iload_n 1, [], 0), (.lload 4, [], 0), (.l2i, [], 0), (.iastore, [], 0), (.aload_n 0, [], 0), (.getfield 29, [9, 1, 2, 91], 0), (.getfield 164, [3, 2, 2, 106], 0), (.iload_n 1, [], 0), (.lload 6, [], 0), (.l2i, [], 0), (.iastore, [], 0), (.aload_n 0, [], 0), (.invokevirtual 129, [139, 1, 9, 0, 103], 0), (.ireturn, [1], 0)], 0)]
/-- CourtProgress.feed(IIIII)I -/
def ai_c113 : List (List ai_Op × Nat) := [([(.aload_n 0, [], 0), (.getfield 52, [9, 4, 2, 94], 0), (.invokevirtual 169, [90, 1, 8, 0, 112], 0), (.ifCond .ne 5, [1], 0), (.iconst (-1), [], (-1)), (.ireturn, [0], 0)], 0),
  ([(.aload_n 0, [], 0), (.getfield 52, [9, 4, 2, 94], 0), (.iload_n 1, [], 0), (.invokevirtual 172, [91, 2, 8, 0, 113], 0), (.aload_n 0, [], 0), (.getfield 52, [9, 4, 2, 94], 0), (.iload_n 2, [], 0), (.invokevirtual 172, [91, 2, 8, 0, 113], 0), (.aload_n 0, [], 0), (.getfield 52, [9, 4, 2, 94], 0), (.iload_n 3, [], 0), (.invokevirtual 172, [91, 2, 8, 0, 113], 0), (.aload_n 0, [], 0), (.getfield 52, [9, 4, 2, 94], 0), (.iload 4, [], 0), (.invokevirtual 172, [91, 2, 8, 0, 113], 0), (.aload_n 0, [], 0), (.getfield 52, [9, 4, 2, 94], 0), (.iload 5, [], 0), (.invokevirtual 172, [91, 2, 8, 0, 113], 0), (.aload_n 0, [], 0), (.getfield 52, [9, 4, 2, 94], 0), (.getfield 176, [8, 0, 0, 107], 0), (.ireturn, [0], 0)], 0)]
/-- CourtProgress.ordinance(II)I -/
def ai_c114 : List (List ai_Op × Nat) := [([(.iload_n 1, [], 0), (.invokestatic 148, [141, 1, 999, 0, 108], 0), (.ifCond .eq 18, [1], 0), (.iload_n 2, [], 0), (.iconst 0, [], 0), (.aload_n 0, [], 0), (.getfield 52, [9, 4, 2, 94], 0), (.getfield 176, [8, 0, 0, 107], 0), (.invokestatic 100, [142, 3, 999, 0, 96], 0), (.ifCond .ne 9, [2], 0)], 1),
  ([(.aload_n 0, [], 0), (.iconst 2, [], 2), (.invokevirtual 104, [136, 2, 9, 0, 97], 0), (.ireturn, [0], 0)], 0),
  ([(.aload_n 0, [], 0), (.getfield 52, [9, 4, 2, 94], 0), (.iload_n 2, [], 0), (.invokevirtual 177, [94, 2, 8, 0, 114], 0), (.aload_n 0, [], 0), (.getfield 52, [9, 4, 2, 94], 0), (.iconst 0, [], 0), (.putfield 176, [8, 0, 0, 107], 0), (.aload_n 0, [], 0), (.getfield 61, [9, 5, 2, 95], 0), (.invokevirtual 180, [60, 1, 6, 0, 115], 0), (.ifCond .ne 9, [3], 0), (.aload_n 0, [], 0), (.iconst 4, [], 4), (.invokevirtual 104, [136, 2, 9, 0, 97], 0), (.ireturn, [0], 0)], 0),
  ([(.aload_n 0, [], 0), (.getfield 45, [9, 3, 2, 93], 0), (.getfield 183, [7, 2, 0, 108], 0), (.bipush 10, [], 10), (.if_icmp .lt 9, [4], 0), (.aload_n 0, [], 0), (.iconst 3, [], 3), (.invokevirtual 104, [136, 2, 9, 0, 97], 0), (.ireturn, [0], 0)], 0),
  ([(.aload_n 0, [], 0), (.aload_n 0, [], 0), (.getfield 45, [9, 3, 2, 93], 0), (.iload_n 1, [], 0), (.invokevirtual 184, [78, 2, 7, 0, 116], 0), (.invokevirtual 115, [137, 2, 9, 0, 99], 0), (.ireturn, [0], 0)], 0)]
/-- CourtProgress.fault()I -/
def ai_c115 : List (List ai_Op × Nat) := [([(.aload_n 0, [], 0), (.getfield 61, [9, 5, 2, 95], 0), (.getfield 187, [6, 2, 0, 109], 0), (.ireturn, [0], 0)], 0)]
/-- CourtProgress.where()I -/
def ai_c116 : List (List ai_Op × Nat) := [([(.aload_n 0, [], 0), (.getfield 97, [9, 14, 0, 101], 0), (.iconst 4, [], 4), (.if_icmp .ne 13, [1], 0), (.aload_n 0, [], 0), (.getfield 61, [9, 5, 2, 95], 0), (.invokevirtual 190, [61, 1, 6, 0, 117], 0), (.goto 4, [2], 0)], 0),
  ([(.iconst (-1), [], (-1))], 2),
  ([(.ireturn, [0], 0)], 0)]
/-- CourtProgress.force(I)I -/
def ai_c117 : List (List ai_Op × Nat) := [([(.iload_n 1, [], 0), (.invokestatic 148, [141, 1, 999, 0, 108], 0), (.ifCond .eq 14, [1], 0), (.aload_n 0, [], 0), (.getfield 45, [9, 3, 2, 93], 0), (.iload_n 1, [], 0), (.invokevirtual 194, [79, 2, 7, 0, 118], 0), (.goto 4, [2], 0)], 0),
  ([(.iconst (-1), [], (-1))], 2),
  ([(.ireturn, [0], 0)], 0)]
/-- CourtProgress.eats(IIZ)I -/
def ai_c118 : List (List ai_Op × Nat) := [([(.aload_n 0, [], 0), (.getfield 22, [9, 0, 2, 90], 0), (.iload_n 1, [], 0), (.invokevirtual 118, [7, 2, 1, 0, 100], 0), (.ifCond .eq 10, [1], 0), (.iload_n 2, [], 0), (.invokestatic 148, [141, 1, 999, 0, 108], 0), (.ifCond .ne 5, [2], 0)], 1),
  ([(.iconst (-1), [], (-1)), (.ireturn, [0], 0)], 0),
  ([(.aload_n 0, [], 0), (.getfield 45, [9, 3, 2, 93], 0), (.iload_n 1, [], 0), (.iload_n 2, [], 0), (.iload_n 3, [], 0), (.invokevirtual 197, [80, 4, 7, 0, 119], 0), (.ireturn, [0], 0)], 0)]
/-- CourtProgress.need(I)I -/
def ai_c119 : List (List ai_Op × Nat) := [([(.iload_n 1, [], 0), (.invokestatic 148, [141, 1, 999, 0, 108], 0), (.ifCond .eq 14, [1], 0), (.aload_n 0, [], 0), (.getfield 45, [9, 3, 2, 93], 0), (.iload_n 1, [], 0), (.invokevirtual 201, [81, 2, 7, 0, 120], 0), (.goto 4, [2], 0)], 0),
  ([(.iconst (-1), [], (-1))], 2),
  ([(.ireturn, [0], 0)], 0)]
/-- CourtProgress.lodge(I)I -/
def ai_c120 : List (List ai_Op × Nat) := [([(.aload_n 0, [], 0), (.getfield 29, [9, 1, 2, 91], 0), (.iload_n 1, [], 0), (.invokevirtual 136, [33, 2, 3, 0, 105], 0), (.ifCond .ne 9, [1], 0), (.aload_n 0, [], 0), (.iconst 1, [], 1), (.invokevirtual 104, [136, 2, 9, 0, 97], 0), (.ireturn, [0], 0)], 0),
  ([(.aload_n 0, [], 0), (.getfield 70, [9, 6, 2, 96], 0), (.iload_n 1, [], 0), (.invokevirtual 204, [15, 2, 2, 0, 121], 0), (.istore_n 2, [], 0), (.iload_n 2, [], 0), (.iconst (-1), [], (-1)), (.if_icmp .ne 10, [2], 0), (.aload_n 0, [], 0), (.bipush 6, [], 6), (.invokevirtual 104, [136, 2, 9, 0, 97], 0), (.ireturn, [0], 0)], 0),
  ([(.aload_n 0, [], 0), (.getfield 70, [9, 6, 2, 96], 0), (.iload_n 2, [], 0), (.invokevirtual 207, [29, 2, 2, 0, 122], 0), (.iconst 0, [], 0), (.istore_n 3, [], 0)], 3),
  ([(.iload_n 3, [], 0), (.bipush 8, [], 8), (.if_icmp .ge 23, [4], 0), (.aload_n 0, [], 0), (.getfield 9, [9, 9, 2, 87], 0), (.iload_n 3, [], 0), (.aload_n 0, [], 0), (.getfield 70, [9, 6, 2, 96], 0), (.iload_n 3, [], 0), (.invokevirtual 210, [13, 2, 2, 0, 123], 0), (.iastore, [], 0), (.iinc 3 1, [], 1), (.goto (-23), [3], 0)], 0),
  ([(.aload_n 0, [], 0), (.iload_n 2, [], 0), (.invokevirtual 115, [137, 2, 9, 0, 99], 0), (.ireturn, [0], 0)], 0)]
/-- CourtProgress.lodged(I)I -/
def ai_c121 : List (List ai_Op × Nat) := [([(.iload_n 1, [], 0), (.iconst 0, [], 0), (.bipush 7, [], 7), (.invokestatic 100, [142, 3, 999, 0, 96], 0), (.ifCond .eq 12, [1], 0), (.aload_n 0, [], 0), (.getfield 9, [9, 9, 2, 87], 0), (.iload_n 1, [], 0), (.iaload, [], 0), (.goto 4, [2], 0)], 0),
  ([(.iconst (-1), [], (-1))], 2),
  ([(.ireturn, [0], 0)], 0)]
/-- CourtProgress.why(I)I -/
def ai_c122 : List (List ai_Op × Nat) := [([(.aload_n 0, [], 0), (.getfield 29, [9, 1, 2, 91], 0), (.iload_n 1, [], 0), (.invokevirtual 136, [33, 2, 3, 0, 105], 0), (.ifCond .eq 18, [1], 0), (.aload_n 0, [], 0), (.aload_n 0, [], 0), (.getfield 70, [9, 6, 2, 96], 0), (.iload_n 1, [], 0), (.invokevirtual 213, [14, 2, 2, 0, 124], 0), (.invokevirtual 115, [137, 2, 9, 0, 99], 0), (.goto 8, [2], 0)], 0),
  ([(.aload_n 0, [], 0), (.iconst 1, [], 1), (.invokevirtual 104, [136, 2, 9, 0, 97], 0)], 2),
  ([(.ireturn, [0], 0)], 0)]
/-- CourtProgress.route(I)I -/
def ai_c123 : List (List ai_Op × Nat) := [([(.iload_n 1, [], 0), (.invokestatic 148, [141, 1, 999, 0, 108], 0), (.ifCond .eq 22, [1], 0), (.iload_n 1, [], 0), (.aload_n 0, [], 0), (.getfield 90, [9, 12, 0, 99], 0), (.if_icmp .lt 14, [1], 0), (.iload_n 1, [], 0), (.aload_n 0, [], 0), (.getfield 90, [9, 12, 0, 99], 0), (.bipush 20, [], 20), (.iadd, [], 0), (.if_icmp .le 9, [2], 0)], 1),
  ([(.aload_n 0, [], 0), (.iconst 2, [], 2), (.invokevirtual 104, [136, 2, 9, 0, 97], 0), (.ireturn, [0], 0)], 0),
  ([(.aload_n 0, [], 0), (.getfield 29, [9, 1, 2, 91], 0), (.aload_n 0, [], 0), (.getfield 94, [9, 13, 0, 100], 0), (.invokevirtual 136, [33, 2, 3, 0, 105], 0), (.ifCond .ne 10, [3], 0), (.aload_n 0, [], 0), (.bipush 6, [], 6), (.invokevirtual 104, [136, 2, 9, 0, 97], 0), (.ireturn, [0], 0)], 0),
  ([(.aload_n 0, [], 0), (.getfield 79, [9, 7, 2, 97], 0), (.aload_n 0, [], 0), (.getfield 90, [9, 12, 0, 99], 0), (.iload_n 1, [], 0), (.aload_n 0, [], 0), (.getfield 94, [9, 13, 0, 100], 0), (.invokevirtual 216, [48, 4, 5, 0, 125], 0), (.istore_n 2, [], 0), (.iload_n 2, [], 0), (.iconst (-1), [], (-1)), (.if_icmp .ne 10, [4], 0), (.aload_n 0, [], 0), (.bipush 6, [], 6), (.invokevirtual 104, [136, 2, 9, 0, 97], 0), (.ireturn, [0], 0)], 0),
  ([(.aload_n 0, [], 0), (.getfield 79, [9, 7, 2, 97], 0), (.iload_n 2, [], 0), (.invokevirtual 219, [57, 2, 5, 0, 126], 0), (.aload_n 0, [], 0), (.iload_n 2, [], 0), (.invokevirtual 115, [137, 2, 9, 0, 99], 0), (.ireturn, [0], 0)], 0)]
/-- CourtProgress.at(I)I -/
def ai_c124 : List (List ai_Op × Nat) := [([(.aload_n 0, [], 0), (.getfield 79, [9, 7, 2, 97], 0), (.iload_n 1, [], 0), (.invokevirtual 222, [47, 2, 5, 0, 127], 0), (.ireturn, [0], 0)], 0)]
/-- CourtProgress.lasts()I -/
def ai_c125 : List (List ai_Op × Nat) := [([(.aload_n 0, [], 0), (.getfield 29, [9, 1, 2, 91], 0), (.aload_n 0, [], 0), (.getfield 94, [9, 13, 0, 100], 0), (.invokevirtual 136, [33, 2, 3, 0, 105], 0), (.ifCond .ne 10, [1], 0), (.aload_n 0, [], 0), (.bipush 6, [], 6), (.invokevirtual 104, [136, 2, 9, 0, 97], 0), (.ireturn, [0], 0)], 0),
  ([(.aload_n 0, [], 0), (.getfield 29, [9, 1, 2, 91], 0), (.aload_n 0, [], 0), (.getfield 94, [9, 13, 0, 100], 0), (.invokevirtual 225, [38, 2, 3, 0, 128], 0), (.istore_n 1, [], 0), (.iconst 0, [], 0), (.istore_n 2, [], 0), (.aload_n 0, [], 0), (.getfield 90, [9, 12, 0, 99], 0), (.istore_n 3, [], 0)], 2),
  ([(.iload_n 3, [], 0), (.sipush 200, [], 200), (.if_icmp .ge 30, [4], 0), (.iload_n 1, [], 0), (.aload_n 0, [], 0), (.getfield 45, [9, 3, 2, 93], 0), (.iload_n 3, [], 0), (.invokevirtual 201, [81, 2, 7, 0, 120], 0), (.isub, [], 0), (.istore_n 1, [], 0), (.iload_n 1, [], 0), (.ifCond .ge 6, [3], 0), (.goto 12, [4], 0)], 0),
  ([(.iinc 2 1, [], 1), (.iinc 3 1, [], 1), (.goto (-31), [2], 0)], 0),
  ([(.aload_n 0, [], 0), (.iload_n 2, [], 0), (.invokevirtual 115, [137, 2, 9, 0, 99], 0), (.ireturn, [0], 0)], 0)]
/-- CourtProgress.step(I)I -/
def ai_c126 : List (List ai_Op × Nat) := [([(.aload_n 0, [], 0), (.getfield 29, [9, 1, 2, 91], 0), (.iload_n 1, [], 0), (.invokevirtual 136, [33, 2, 3, 0, 105], 0), (.ifCond .eq 17, [1], 0), (.aload_n 0, [], 0), (.getfield 29, [9, 1, 2, 91], 0), (.aload_n 0, [], 0), (.getfield 94, [9, 13, 0, 100], 0), (.invokevirtual 136, [33, 2, 3, 0, 105], 0), (.ifCond .ne 9, [2], 0)], 1),
  ([(.aload_n 0, [], 0), (.iconst 1, [], 1), (.invokevirtual 104, [136, 2, 9, 0, 97], 0), (.ireturn, [0], 0)], 0),
  ([(.iload_n 1, [], 0), (.aload_n 0, [], 0), (.getfield 94, [9, 13, 0, 100], 0), (.if_icmp .eq 35, [3], 0), (.aload_n 0, [], 0), (.getfield 29, [9, 1, 2, 91], 0), (.aload_n 0, [], 0), (.getfield 94, [9, 13, 0, 100], 0), (.iload_n 1, [], 0), (.aload_n 0, [], 0), (.getfield 36, [9, 2, 2, 92], 0), (.aload_n 0, [], 0), (.getfield 90, [9, 12, 0, 99], 0), (.invokevirtual 228, [2, 2, 0, 0, 129], 0), (.invokevirtual 231, [37, 4, 3, 0, 130], 0), (.ifCond .ne 9, [3], 0), (.aload_n 0, [], 0), (.iconst 5, [], 5), (.invokevirtual 104, [136, 2, 9, 0, 97], 0), (.ireturn, [0], 0)], 0),
  ([(.aload_n 0, [], 0), (.getfield 90, [9, 12, 0, 99], 0), (.sipush 199, [], 199), (.if_icmp .lt 9, [4], 0), (.aload_n 0, [], 0), (.iconst 2, [], 2), (.invokevirtual 104, [136, 2, 9, 0, 97], 0), (.ireturn, [0], 0)], 0),
  ([(.aload_n 0, [], 0), (.getfield 29, [9, 1, 2, 91], 0), (.aload_n 0, [], 0), (.getfield 94, [9, 13, 0, 100], 0), (.aload_n 0, [], 0), (.getfield 45, [9, 3, 2, 93], 0), (.aload_n 0, [], 0), (.getfield 90, [9, 12, 0, 99], 0), (.invokevirtual 201, [81, 2, 7, 0, 120], 0), (.invokevirtual 234, [39, 3, 3, 0, 131], 0), (.istore_n 2, [], 0), (.aload_n 0, [], 0), (.getfield 13, [9, 10, 2, 88], 0), (.aload_n 0, [], 0), (.getfield 90, [9, 12, 0, 99], 0), (.aload_n 0, [], 0), (.getfield 94, [9, 13, 0, 100], 0), (.iastore, [], 0), (.aload_n 0, [], 0), (.getfield 16, [9, 11, 2, 89], 0), (.aload_n 0, [], 0), (.getfield 90, [9, 12, 0, 99], 0), (.iload_n 2, [], 0), (.iastore, [], 0), (.aload_n 0, [], 0), (.iload_n 1, [], 0), (.putfield 94, [9, 13, 0, 100], 0), (.aload_n 0, [], 0), (.dup, [], 0), (.getfield 90, [9, 12, 0, 99], 0), (.iconst 1, [], 1), (.iadd, [], 0), (.putfield 90, [9, 12, 0, 99], 0), (.aload_n 0, [], 0), (.iload_n 2, [], 0), (.invokevirtual 115, [137, 2, 9, 0, 99], 0), (.ireturn, [0], 0)], 0)]
/-- CourtProgress.about(II)I -/
def ai_c127 : List (List ai_Op × Nat) := [([(.aload_n 0, [], 0), (.getfield 29, [9, 1, 2, 91], 0), (.iload_n 1, [], 0), (.invokevirtual 136, [33, 2, 3, 0, 105], 0), (.ifCond .eq 15, [1], 0), (.aload_n 0, [], 0), (.getfield 29, [9, 1, 2, 91], 0), (.iload_n 1, [], 0), (.iload_n 2, [], 0), (.invokevirtual 238, [40, 3, 3, 0, 132], 0), (.goto 4, [2], 0)], 0),
  ([(.iconst (-1), [], (-1))], 2),
  ([(.ireturn, [0], 0)], 0)]
/-- CourtProgress.was(I)I -/
def ai_c128 : List (List ai_Op × Nat) := [([(.aload_n 0, [], 0), (.iload_n 1, [], 0), (.invokevirtual 241, [140, 2, 9, 0, 133], 0), (.ifCond .eq 12, [1], 0), (.aload_n 0, [], 0), (.getfield 13, [9, 10, 2, 88], 0), (.iload_n 1, [], 0), (.iaload, [], 0), (.goto 4, [2], 0)], 0),
  ([(.iconst (-1), [], (-1))], 2),
  ([(.ireturn, [0], 0)], 0)]
/-- CourtProgress.lacked(I)I -/
def ai_c129 : List (List ai_Op × Nat) := [([(.aload_n 0, [], 0), (.iload_n 1, [], 0), (.invokevirtual 241, [140, 2, 9, 0, 133], 0), (.ifCond .eq 12, [1], 0), (.aload_n 0, [], 0), (.getfield 16, [9, 11, 2, 89], 0), (.iload_n 1, [], 0), (.iaload, [], 0), (.goto 4, [2], 0)], 0),
  ([(.iconst (-1), [], (-1))], 2),
  ([(.ireturn, [0], 0)], 0)]
/-- CourtProgress.plea(I)I -/
def ai_c130 : List (List ai_Op × Nat) := [([(.iload_n 1, [], 0), (.iconst 0, [], 0), (.bipush 99, [], 99), (.invokestatic 100, [142, 3, 999, 0, 96], 0), (.ifCond .ne 9, [1], 0), (.aload_n 0, [], 0), (.iconst 2, [], 2), (.invokevirtual 104, [136, 2, 9, 0, 97], 0), (.ireturn, [0], 0)], 0),
  ([(.aload_n 0, [], 0), (.getfield 86, [9, 8, 2, 98], 0), (.getfield 244, [4, 0, 0, 110], 0), (.bipush 60, [], 60), (.if_icmp .lt 9, [2], 0), (.aload_n 0, [], 0), (.iconst 3, [], 3), (.invokevirtual 104, [136, 2, 9, 0, 97], 0), (.ireturn, [0], 0)], 0),
  ([(.aload_n 0, [], 0), (.aload_n 0, [], 0), (.getfield 86, [9, 8, 2, 98], 0), (.iload_n 1, [], 0), (.aload_n 0, [], 0), (.getfield 90, [9, 12, 0, 99], 0), (.invokevirtual 245, [42, 3, 4, 0, 134], 0), (.invokevirtual 115, [137, 2, 9, 0, 99], 0), (.ireturn, [0], 0)], 0)]
/-- CourtProgress.hear(I)I -/
def ai_c131 : List (List ai_Op × Nat) := [([(.iload_n 1, [], 0), (.iconst 1, [], 1), (.bipush 9, [], 9), (.invokestatic 100, [142, 3, 999, 0, 96], 0), (.ifCond .eq 22, [1], 0), (.aload_n 0, [], 0), (.aload_n 0, [], 0), (.getfield 86, [9, 8, 2, 98], 0), (.iload_n 1, [], 0), (.aload_n 0, [], 0), (.getfield 90, [9, 12, 0, 99], 0), (.invokevirtual 247, [43, 3, 4, 0, 135], 0), (.invokevirtual 115, [137, 2, 9, 0, 99], 0), (.goto 8, [2], 0)], 0),
  ([(.aload_n 0, [], 0), (.iconst 2, [], 2), (.invokevirtual 104, [136, 2, 9, 0, 97], 0)], 2),
  ([(.ireturn, [0], 0)], 0)]
/-- CourtProgress.heard(I)I -/
def ai_c132 : List (List ai_Op × Nat) := [([(.aload_n 0, [], 0), (.getfield 86, [9, 8, 2, 98], 0), (.iload_n 1, [], 0), (.invokevirtual 250, [44, 2, 4, 0, 136], 0), (.ireturn, [0], 0)], 0)]
/-- CourtProgress.next(I)I -/
def ai_c133 : List (List ai_Op × Nat) := [([(.aload_n 0, [], 0), (.getfield 86, [9, 8, 2, 98], 0), (.iload_n 1, [], 0), (.invokevirtual 253, [45, 2, 4, 0, 137], 0), (.ireturn, [0], 0)], 0)]
/-- CourtProgress.count(I)I -/
def ai_c134 : List (List ai_Op × Nat) := [([(.iload_n 1, [], 0), (.tableswitch 105 0 7 #[47, 55, 63, 71, 79, 87, 92, 97], [9, 1, 2, 3, 4, 5, 6, 7, 8], 0)], 0),
  ([(.aload_n 0, [], 0), (.getfield 22, [9, 0, 2, 90], 0), (.getfield 108, [1, 0, 0, 102], 0), (.ireturn, [0], 0)], 0),
  ([(.aload_n 0, [], 0), (.getfield 29, [9, 1, 2, 91], 0), (.getfield 134, [3, 0, 0, 103], 0), (.ireturn, [0], 0)], 0),
  ([(.aload_n 0, [], 0), (.getfield 45, [9, 3, 2, 93], 0), (.getfield 183, [7, 2, 0, 108], 0), (.ireturn, [0], 0)], 0),
  ([(.aload_n 0, [], 0), (.getfield 36, [9, 2, 2, 92], 0), (.getfield 256, [0, 2, 0, 111], 0), (.ireturn, [0], 0)], 0),
  ([(.aload_n 0, [], 0), (.getfield 86, [9, 8, 2, 98], 0), (.getfield 259, [4, 1, 0, 112], 0), (.ireturn, [0], 0)], 0),
  ([(.aload_n 0, [], 0), (.getfield 90, [9, 12, 0, 99], 0), (.ireturn, [0], 0)], 0),
  ([(.aload_n 0, [], 0), (.getfield 94, [9, 13, 0, 100], 0), (.ireturn, [0], 0)], 0),
  ([(.aload_n 0, [], 0), (.getfield 52, [9, 4, 2, 94], 0), (.getfield 176, [8, 0, 0, 107], 0), (.ireturn, [0], 0)], 0),
  ([(.iconst (-1), [], (-1)), (.ireturn, [0], 0)], 0)]
/-- CourtProgress.trouble()I -/
def ai_c135 : List (List ai_Op × Nat) := [([(.aload_n 0, [], 0), (.getfield 97, [9, 14, 0, 101], 0), (.ireturn, [0], 0)], 0)]
/-- CourtProgress.refuse(I)I -/
def ai_c136 : List (List ai_Op × Nat) := [([(.aload_n 0, [], 0), (.iload_n 1, [], 0), (.putfield 97, [9, 14, 0, 101], 0), (.iconst (-1), [], (-1)), (.ireturn, [0], 0)], 0)]
/-- CourtProgress.grant(I)I -/
def ai_c137 : List (List ai_Op × Nat) := [([(.aload_n 0, [], 0), (.iconst 0, [], 0), (.putfield 97, [9, 14, 0, 101], 0), (.iload_n 1, [], 0), (.ireturn, [0], 0)], 0)]
/-- CourtProgress.deny(I)Z -/
def ai_c138 : List (List ai_Op × Nat) := [([(.aload_n 0, [], 0), (.iload_n 1, [], 0), (.putfield 97, [9, 14, 0, 101], 0), (.iconst 0, [], 0), (.ireturn, [1], 0)], 0)]
/-- CourtProgress.allow()Z -/
def ai_c139 : List (List ai_Op × Nat) := [([(.aload_n 0, [], 0), (.iconst 0, [], 0), (.putfield 97, [9, 14, 0, 101], 0), (.iconst 1, [], 1), (.ireturn, [1], 0)], 0)]
/-- CourtProgress.isPast(I)Z -/
def ai_c140 : List (List ai_Op × Nat) := [([(.iload_n 1, [], 0), (.invokestatic 148, [141, 1, 999, 0, 108], 0), (.ifCond .eq 15, [1], 0), (.iload_n 1, [], 0), (.aload_n 0, [], 0), (.getfield 90, [9, 12, 0, 99], 0), (.if_icmp .ge 7, [1], 0), (.iconst 1, [], 1), (.goto 4, [2], 0)], 0),
  ([(.iconst 0, [], 0)], 2),
  ([(.ireturn, [1], 0)], 0)]
/-- CourtProgress.isDay(I)Z -/
def ai_c141 : List (List ai_Op × Nat) := [([(.iload_n 0, [], 0), (.ifCond .lt 14, [1], 0), (.iload_n 0, [], 0), (.sipush 200, [], 200), (.if_icmp .ge 7, [1], 0), (.iconst 1, [], 1), (.goto 4, [2], 0)], 0),
  ([(.iconst 0, [], 0)], 2),
  ([(.ireturn, [1], 0)], 0)]
/-- CourtProgress.isWithin(III)Z -/
def ai_c142 : List (List ai_Op × Nat) := [([(.iload_n 0, [], 0), (.iload_n 1, [], 0), (.if_icmp .lt 12, [1], 0), (.iload_n 0, [], 0), (.iload_n 2, [], 0), (.if_icmp .gt 7, [1], 0), (.iconst 1, [], 1), (.goto 4, [2], 0)], 0),
  ([(.iconst 0, [], 0)], 2),
  ([(.ireturn, [1], 0)], 0)]
/-- CourtProgress.lowestIn(I)I -/
def ai_c143 : List (List ai_Op × Nat) := [([(.iload_n 0, [], 0), (.iload_n 0, [], 0), (.ineg, [], 0), (.iand, [], 0), (.iconst 1, [], 1), (.isub, [], 0), (.invokestatic 262, [210, 1, 999, 0, 138], 0), (.ireturn, [0], 0)], 0)]
/-- CourtProgressModel.refused(I)I -/
def ai_c144 : List (List ai_Op × Nat) := [([(.aload_n 0, [], 0), (.iload_n 1, [], 0), (.putfield 7, [11, 1, 0, 113], 0), (.aload_n 0, [], 0), (.iconst (-1), [], (-1)), (.putfield 10, [11, 2, 0, 114], 0), (.iconst (-1), [], (-1)), (.ireturn, [0], 0)], 0)]
/-- CourtProgressModel.denied(I)Z -/
def ai_c145 : List (List ai_Op × Nat) := [([(.aload_n 0, [], 0), (.iload_n 1, [], 0), (.putfield 7, [11, 1, 0, 113], 0), (.aload_n 0, [], 0), (.iconst (-1), [], (-1)), (.putfield 10, [11, 2, 0, 114], 0), (.iconst 0, [], 0), (.ireturn, [1], 0)], 0)]
/-- CourtProgressModel.done(I)I -/
def ai_c146 : List (List ai_Op × Nat) := [([(.aload_n 0, [], 0), (.iconst 0, [], 0), (.putfield 7, [11, 1, 0, 113], 0), (.aload_n 0, [], 0), (.iconst (-1), [], (-1)), (.putfield 10, [11, 2, 0, 114], 0), (.iload_n 1, [], 0), (.ireturn, [0], 0)], 0)]
/-- CourtProgressModel.granted()Z -/
def ai_c147 : List (List ai_Op × Nat) := [([(.aload_n 0, [], 0), (.iconst 0, [], 0), (.putfield 7, [11, 1, 0, 113], 0), (.aload_n 0, [], 0), (.iconst (-1), [], (-1)), (.putfield 10, [11, 2, 0, 114], 0), (.iconst 1, [], 1), (.ireturn, [1], 0)], 0)]
/-- CourtProgressModel.in(III)Z -/
def ai_c148 : List (List ai_Op × Nat) := [([(.iload_n 0, [], 0), (.iload_n 1, [], 0), (.if_icmp .lt 12, [1], 0), (.iload_n 0, [], 0), (.iload_n 2, [], 0), (.if_icmp .gt 7, [1], 0), (.iconst 1, [], 1), (.goto 4, [2], 0)], 0),
  ([(.iconst 0, [], 0)], 2),
  ([(.ireturn, [1], 0)], 0)]
/-- CourtProgressModel.<init>()V -/
def ai_c149 : List (List ai_Op × Nat) := [([(.aload_n 0, [], 0), (.invokespecial 13, [998, 1, 999, 0, 0], 0), (.aload_n 0, [], 0), (.iconst (-1), [], (-1)), (.putfield 10, [11, 2, 0, 114], 0), (.aload_n 0, [], 0), (.iconst (-1), [], (-1)), (.putfield 19, [11, 9, 0, 115], 0), (.aload_n 0, [], 0), (.bipush 8, [], 8), (.newarray .int, [1], 0), (.putfield 22, [11, 10, 2, 116], 0), (.aload_n 0, [], 0), (.bipush 8, [], 8), (.newarray .int, [1], 0), (.putfield 26, [11, 11, 2, 117], 0), (.aload_n 0, [], 0), (.bipush 8, [], 8), (.newarray .int, [1], 0), (.putfield 29, [11, 12, 2, 118], 0), (.aload_n 0, [], 0), (.bipush 8, [], 8), (.newarray .int, [1], 0), (.putfield 32, [11, 13, 2, 119], 0), (.aload_n 0, [], 0), (.bipush 9, [], 9), (.newarray .int, [1], 0), (.putfield 35, [11, 14, 2, 120], 0), (.aload_n 0, [], 0), (.bipush 9, [], 9), (.newarray .int, [1], 0), (.putfield 38, [11, 15, 2, 121], 0), (.aload_n 0, [], 0), (.bipush 9, [], 9), (.newarray .int, [1], 0), (.putfield 41, [11, 16, 2, 122], 0), (.aload_n 0, [], 0), (.bipush 9, [], 9), (.newarray .int, [1], 0), (.putfield 44, [11, 17, 2, 123], 0), (.aload_n 0, [], 0), (.bipush 9, [], 9), (.newarray .int, [1], 0), (.putfield 47, [11, 18, 2, 124], 0), (.aload_n 0, [], 0), (.bipush 9, [], 9), (.newarray .int, [1], 0), (.putfield 50, [11, 19, 2, 125], 0), (.aload_n 0, [], 0), (.bipush 90, [], 90), (.newarray .int, [1], 0), (.putfield 53, [11, 20, 2, 126], 0), (.aload_n 0, [], 0), (.bipush 90, [], 90), (.newarray .int, [1], 0), (.putfield 56, [11, 21, 2, 127], 0), (.aload_n 0, [], 0), (.bipush 90, [], 90), (.newarray .int, [1], 0), (.putfield 59, [11, 22, 2, 128], 0), (.aload_n 0, [], 0), (.bipush 81, [], 81), (.newarray .int, [1], 0), (.putfield 62, [11, 23, 2, 129], 0), (.aload_n 0, [], 0), (.sipush 200, [], 200), (.newarray .int, [1], 0), (.putfield 65, [11, 24, 2, 130], 0), (.aload_n 0, [], 0), (.sipush 200, [], 200), (.newarray .int, [1], 0), (.putfield 68, [11, 25, 2, 131], 0), (.aload_n 0, [], 0), (.sipush 200, [], 200), (.newarray .int, [1], 0), (.putfield 71, [11, 26, 2, 132], 0), (.aload_n 0, [], 0), (.sipush 200, [], 200), (.newarray .int, [1], 0), (.putfield 74, [11, 27, 2, 133], 0), (.aload_n 0, [], 0), (.bipush 60, [], 60), (.newarray .int, [1], 0), (.putfield 77, [11, 28, 2, 134], 0), (.aload_n 0, [], 0), (.bipush 60, [], 60), (.newarray .int, [1], 0), (.putfield 80, [11, 29, 2, 135], 0), (.aload_n 0, [], 0), (.bipush 60, [], 60), (.newarray .int, [1], 0), (.putfield 83, [11, 30, 2, 136], 0), (.aload_n 0, [], 0), (.new 86, [10], 0), (.dup, [], 0), (.invokespecial 88, [302, 1, 10, 0, 139], 0), (.putfield 89, [11, 31, 2, 137], 0), (.aload_n 0, [], 0), (.sipush 400, [], 400), (.newarray .byte, [2], 0), (.putfield 93, [11, 32, 2, 138], 0), (.aload_n 0, [], 0), (.bipush 10, [], 10), (.newarray .int, [1], 0), (.putfield 97, [11, 42, 2, 139], 0), (.aload_n 0, [], 0), (.bipush 11, [], 11), (.newarray .int, [1], 0), (.putfield 100, [11, 43, 2, 140], 0), (.aload_n 0, [], 0), (.sipush 132, [], 132), (.newarray .int, [1], 0), (.putfield 103, [11, 44, 2, 141], 0), (.aload_n 0, [], 0), (.sipush 132, [], 132), (.newarray .int, [1], 0), (.putfield 106, [11, 45, 2, 142], 0), (.aload_n 0, [], 0), (.sipush 132, [], 132), (.newarray .boolean, [3], 0), (.putfield 109, [11, 46, 2, 143], 0), (.aload_n 0, [], 0), (.sipush 528, [], 528), (.newarray .int, [1], 0), (.putfield 113, [11, 47, 2, 144], 0), (.aload_n 0, [], 0), (.sipush 528, [], 528), (.newarray .int, [1], 0), (.putfield 116, [11, 48, 2, 145], 0), (.aload_n 0, [], 0), (.sipush 528, [], 528), (.newarray .int, [1], 0), (.putfield 119, [11, 49, 2, 146], 0), (.aload_n 0, [], 0), (.sipush 528, [], 528), (.newarray .int, [1], 0), (.putfield 122, [11, 50, 2, 147], 0), (.aload_n 0, [], 0), (.sipush 528, [], 528), (.newarray .int, [1], 0), (.putfield 125, [11, 51, 2, 148], 0), (.aload_n 0, [], 0), (.bipush 8, [], 8), (.newarray .int, [1], 0), (.putfield 128, [11, 53, 2, 149], 0), (.aload_n 0, [], 0), (.bipush 8, [], 8), (.newarray .int, [1], 0), (.putfield 131, [11, 54, 2, 150], 0), (.aload_n 0, [], 0), (.bipush 8, [], 8), (.newarray .int, [1], 0), (.putfield 134, [11, 55, 2, 151], 0), (.aload_n 0, [], 0), (.bipush 9, [], 9), (.newarray .int, [1], 0), (.putfield 137, [11, 56, 2, 152], 0), (.aload_n 0, [], 0), (.ldc 140, [], 101376), (.newarray .int, [1], 0), (.putfield 141, [11, 58, 2, 153], 0), (.aload_n 0, [], 0), (.bipush 21, [], 21), (.newarray .int, [1], 0), (.putfield 144, [11, 59, 2, 154], 0), (.aload_n 0, [], 0), (.bipush 21, [], 21), (.newarray .int, [1], 0), (.putfield 147, [11, 60, 2, 155], 0), (.aload_n 0, [], 0), (.bipush 21, [], 21), (.newarray .int, [1], 0), (.putfield 150, [11, 63, 2, 156], 0), (.iconst 0, [], 0), (.istore_n 1, [], 0)], 1),
  ([(.iload_n 1, [], 0), (.sipush 200, [], 200), (.if_icmp .ge 16, [2], 0), (.aload_n 0, [], 0), (.getfield 68, [11, 25, 2, 131], 0), (.iload_n 1, [], 0), (.iconst (-1), [], (-1)), (.iastore, [], 0), (.iinc 1 1, [], 1), (.goto (-17), [1], 0)], 0),
  ([(.return_, [], 0)], 0)]
/-- CourtProgressModel.isHousehold(I)Z -/
def ai_c150 : List (List ai_Op × Nat) := [([(.iload_n 1, [], 0), (.ifCond .lt 15, [1], 0), (.iload_n 1, [], 0), (.aload_n 0, [], 0), (.getfield 153, [11, 4, 0, 157], 0), (.if_icmp .ge 7, [1], 0), (.iconst 1, [], 1), (.goto 4, [2], 0)], 0),
  ([(.iconst 0, [], 0)], 2),
  ([(.ireturn, [1], 0)], 0)]
/-- CourtProgressModel.isPlace(I)Z -/
def ai_c151 : List (List ai_Op × Nat) := [([(.iload_n 1, [], 0), (.ifCond .lt 15, [1], 0), (.iload_n 1, [], 0), (.aload_n 0, [], 0), (.getfield 156, [11, 5, 0, 158], 0), (.if_icmp .ge 7, [1], 0), (.iconst 1, [], 1), (.goto 4, [2], 0)], 0),
  ([(.iconst 0, [], 0)], 2),
  ([(.ireturn, [1], 0)], 0)]
/-- CourtProgressModel.isDay(I)Z -/
def ai_c152 : List (List ai_Op × Nat) := [([(.iload_n 0, [], 0), (.ifCond .lt 14, [1], 0), (.iload_n 0, [], 0), (.sipush 200, [], 200), (.if_icmp .ge 7, [1], 0), (.iconst 1, [], 1), (.goto 4, [2], 0)], 0),
  ([(.iconst 0, [], 0)], 2),
  ([(.ireturn, [1], 0)], 0)]
/-- CourtProgressModel.household(III)I -/
def ai_c153 : List (List ai_Op × Nat) := [([(.aload_n 0, [], 0), (.iconst 0, [], 0), (.putfield 1, [11, 0, 0, 159], 0), (.iload_n 1, [], 0), (.iconst 1, [], 1), (.bipush 9, [], 9), (.invokestatic 159, [148, 3, 999, 0, 140], 0), (.ifCond .eq 23, [1], 0), (.iload_n 2, [], 0), (.iconst 1, [], 1), (.bipush 99, [], 99), (.invokestatic 159, [148, 3, 999, 0, 140], 0), (.ifCond .eq 13, [1], 0), (.iload_n 3, [], 0), (.iconst 0, [], 0), (.bipush 99, [], 99), (.invokestatic 159, [148, 3, 999, 0, 140], 0), (.ifCond .ne 9, [2], 0)], 1),
  ([(.aload_n 0, [], 0), (.iconst 2, [], 2), (.invokevirtual 163, [144, 2, 11, 0, 141], 0), (.ireturn, [0], 0)], 0),
  ([(.aload_n 0, [], 0), (.getfield 153, [11, 4, 0, 157], 0), (.bipush 8, [], 8), (.if_icmp .ne 9, [3], 0), (.aload_n 0, [], 0), (.iconst 3, [], 3), (.invokevirtual 163, [144, 2, 11, 0, 141], 0), (.ireturn, [0], 0)], 0),
  ([(.aload_n 0, [], 0), (.getfield 22, [11, 10, 2, 116], 0), (.aload_n 0, [], 0), (.getfield 153, [11, 4, 0, 157], 0), (.iload_n 1, [], 0), (.iastore, [], 0), (.aload_n 0, [], 0), (.getfield 26, [11, 11, 2, 117], 0), (.aload_n 0, [], 0), (.getfield 153, [11, 4, 0, 157], 0), (.iload_n 2, [], 0), (.iastore, [], 0), (.aload_n 0, [], 0), (.getfield 29, [11, 12, 2, 118], 0), (.aload_n 0, [], 0), (.getfield 153, [11, 4, 0, 157], 0), (.iload_n 3, [], 0), (.iastore, [], 0), (.aload_n 0, [], 0), (.dup, [], 0), (.getfield 153, [11, 4, 0, 157], 0), (.iconst 1, [], 1), (.iadd, [], 0), (.putfield 153, [11, 4, 0, 157], 0), (.aload_n 0, [], 0), (.aload_n 0, [], 0), (.getfield 153, [11, 4, 0, 157], 0), (.iconst 1, [], 1), (.isub, [], 0), (.invokevirtual 167, [146, 2, 11, 0, 142], 0), (.ireturn, [0], 0)], 0)]
/-- CourtProgressModel.bar(IIZ)Z -/
def ai_c154 : List (List ai_Op × Nat) := [([(.aload_n 0, [], 0), (.iconst 0, [], 0), (.putfield 1, [11, 0, 0, 159], 0), (.aload_n 0, [], 0), (.iload_n 1, [], 0), (.invokevirtual 170, [150, 2, 11, 0, 143], 0), (.ifCond .eq 16, [1], 0), (.aload_n 0, [], 0), (.iload_n 2, [], 0), (.invokevirtual 170, [150, 2, 11, 0, 143], 0), (.ifCond .eq 8, [1], 0), (.iload_n 1, [], 0), (.iload_n 2, [], 0), (.if_icmp .ne 9, [2], 0)], 1),
  ([(.aload_n 0, [], 0), (.iconst 1, [], 1), (.invokevirtual 174, [145, 2, 11, 0, 144], 0), (.ireturn, [1], 0)], 0),
  ([(.aload_n 0, [], 0), (.getfield 32, [11, 13, 2, 119], 0), (.iload_n 1, [], 0), (.iload_n 3, [], 0), (.ifCond .eq 16, [3], 0), (.aload_n 0, [], 0), (.getfield 32, [11, 13, 2, 119], 0), (.iload_n 1, [], 0), (.iaload, [], 0), (.iconst 1, [], 1), (.iload_n 2, [], 0), (.ishl, [], 0), (.ior, [], 0), (.goto 15, [4], 0)], 0),
  ([(.aload_n 0, [], 0), (.getfield 32, [11, 13, 2, 119], 0), (.iload_n 1, [], 0), (.iaload, [], 0), (.iconst 1, [], 1), (.iload_n 2, [], 0), (.ishl, [], 0), (.iconst (-1), [], (-1)), (.ixor, [], 0), (.iand, [], 0)], 4),
  ([(.iastore, [], 0), (.aload_n 0, [], 0), (.getfield 32, [11, 13, 2, 119], 0), (.iload_n 2, [], 0), (.iload_n 3, [], 0), (.ifCond .eq 16, [5], 0), (.aload_n 0, [], 0), (.getfield 32, [11, 13, 2, 119], 0), (.iload_n 2, [], 0), (.iaload, [], 0), (.iconst 1, [], 1), (.iload_n 1, [], 0), (.ishl, [], 0), (.ior, [], 0), (.goto 15, [6], 0)], 0),
  ([(.aload_n 0, [], 0), (.getfield 32, [11, 13, 2, 119], 0), (.iload_n 2, [], 0), (.iaload, [], 0), (.iconst 1, [], 1), (.iload_n 1, [], 0), (.ishl, [], 0), (.iconst (-1), [], (-1)), (.ixor, [], 0), (.iand, [], 0)], 6),
  ([(.iastore, [], 0), (.aload_n 0, [], 0), (.invokevirtual 177, [147, 1, 11, 0, 145], 0), (.ireturn, [1], 0)], 0)]
/-- CourtProgressModel.place(III)I -/
def ai_c155 : List (List ai_Op × Nat) := [([(.aload_n 0, [], 0), (.iconst 0, [], 0), (.putfield 1, [11, 0, 0, 159], 0), (.iload_n 1, [], 0), (.iconst 0, [], 0), (.ldc 181, [], 1000000), (.invokestatic 159, [148, 3, 999, 0, 140], 0), (.ifCond .eq 24, [1], 0), (.iload_n 2, [], 0), (.iconst 0, [], 0), (.ldc 181, [], 1000000), (.invokestatic 159, [148, 3, 999, 0, 140], 0), (.ifCond .eq 14, [1], 0), (.iload_n 3, [], 0), (.iconst 0, [], 0), (.sipush 999, [], 999), (.invokestatic 159, [148, 3, 999, 0, 140], 0), (.ifCond .ne 9, [2], 0)], 1),
  ([(.aload_n 0, [], 0), (.iconst 2, [], 2), (.invokevirtual 163, [144, 2, 11, 0, 141], 0), (.ireturn, [0], 0)], 0),
  ([(.aload_n 0, [], 0), (.getfield 156, [11, 5, 0, 158], 0), (.bipush 9, [], 9), (.if_icmp .ne 9, [3], 0), (.aload_n 0, [], 0), (.iconst 3, [], 3), (.invokevirtual 163, [144, 2, 11, 0, 141], 0), (.ireturn, [0], 0)], 0),
  ([(.aload_n 0, [], 0), (.getfield 35, [11, 14, 2, 120], 0), (.aload_n 0, [], 0), (.getfield 156, [11, 5, 0, 158], 0), (.iload_n 1, [], 0), (.iastore, [], 0), (.aload_n 0, [], 0), (.getfield 38, [11, 15, 2, 121], 0), (.aload_n 0, [], 0), (.getfield 156, [11, 5, 0, 158], 0), (.iload_n 2, [], 0), (.iastore, [], 0), (.aload_n 0, [], 0), (.getfield 41, [11, 16, 2, 122], 0), (.aload_n 0, [], 0), (.getfield 156, [11, 5, 0, 158], 0), (.iload_n 3, [], 0), (.iastore, [], 0), (.aload_n 0, [], 0), (.getfield 156, [11, 5, 0, 158], 0), (.ifCond .ne 8, [4], 0), (.aload_n 0, [], 0), (.iconst 0, [], 0), (.putfield 19, [11, 9, 0, 115], 0)], 4),
  ([(.aload_n 0, [], 0), (.dup, [], 0), (.getfield 156, [11, 5, 0, 158], 0), (.iconst 1, [], 1), (.iadd, [], 0), (.putfield 156, [11, 5, 0, 158], 0), (.aload_n 0, [], 0), (.aload_n 0, [], 0), (.getfield 156, [11, 5, 0, 158], 0), (.iconst 1, [], 1), (.isub, [], 0), (.invokevirtual 167, [146, 2, 11, 0, 142], 0), (.ireturn, [0], 0)], 0)]
/-- CourtProgressModel.room(IIII)I -/
def ai_c156 : List (List ai_Op × Nat) := [([(.aload_n 0, [], 0), (.iconst 0, [], 0), (.putfield 1, [11, 0, 0, 159], 0), (.aload_n 0, [], 0), (.iload_n 1, [], 0), (.invokevirtual 182, [151, 2, 11, 0, 146], 0), (.ifCond .ne 9, [1], 0), (.aload_n 0, [], 0), (.iconst 1, [], 1), (.invokevirtual 163, [144, 2, 11, 0, 141], 0), (.ireturn, [0], 0)], 0),
  ([(.iload_n 2, [], 0), (.iconst 1, [], 1), (.bipush 9, [], 9), (.invokestatic 159, [148, 3, 999, 0, 140], 0), (.ifCond .eq 23, [2], 0), (.iload_n 3, [], 0), (.iconst 0, [], 0), (.iconst 3, [], 3), (.invokestatic 159, [148, 3, 999, 0, 140], 0), (.ifCond .eq 14, [2], 0), (.iload 4, [], 0), (.iconst 0, [], 0), (.bipush 99, [], 99), (.invokestatic 159, [148, 3, 999, 0, 140], 0), (.ifCond .ne 9, [3], 0)], 2),
  ([(.aload_n 0, [], 0), (.iconst 2, [], 2), (.invokevirtual 163, [144, 2, 11, 0, 141], 0), (.ireturn, [0], 0)], 0),
  ([(.aload_n 0, [], 0), (.getfield 50, [11, 19, 2, 125], 0), (.iload_n 1, [], 0), (.iaload, [], 0), (.bipush 10, [], 10), (.if_icmp .ne 9, [4], 0), (.aload_n 0, [], 0), (.iconst 3, [], 3), (.invokevirtual 163, [144, 2, 11, 0, 141], 0), (.ireturn, [0], 0)], 0),
  ([(.bipush 10, [], 10), (.iload_n 1, [], 0), (.imul, [], 0), (.aload_n 0, [], 0), (.getfield 50, [11, 19, 2, 125], 0), (.iload_n 1, [], 0), (.iaload, [], 0), (.iadd, [], 0), (.istore 5, [], 0), (.aload_n 0, [], 0), (.getfield 53, [11, 20, 2, 126], 0), (.iload 5, [], 0), (.iload_n 2, [], 0), (.iastore, [], 0), (.aload_n 0, [], 0), (.getfield 56, [11, 21, 2, 127], 0), (.iload 5, [], 0), (.iload_n 3, [], 0), (.iastore, [], 0), (.aload_n 0, [], 0), (.getfield 59, [11, 22, 2, 128], 0), (.iload 5, [], 0), (.iload 4, [], 0), (.iastore, [], 0), (.aload_n 0, [], 0), (.getfield 50, [11, 19, 2, 125], 0), (.iload_n 1, [], 0), (.dup2, [], 0), (.iaload, [], 0), (.iconst 1, [], 1), (.iadd, [], 0), (.iastore, [], 0), (.aload_n 0, [], 0), (.aload_n 0, [], 0), (.getfield 50, [11, 19, 2, 125], 0), (.iload_n 1, [], 0), (.iaload, [], 0), (.iconst 1, [], 1), (.isub, [], 0), (.invokevirtual 167, [146, 2, 11, 0, 142], 0), (.ireturn, [0], 0)], 0)]
/-- CourtProgressModel.way(III)Z -/
def ai_c157 : List (List ai_Op × Nat) := [([(.aload_n 0, [], 0), (.iconst 0, [], 0), (.putfield 1, [11, 0, 0, 159], 0), (.aload_n 0, [], 0), (.iload_n 1, [], 0), (.invokevirtual 182, [151, 2, 11, 0, 146], 0), (.ifCond .eq 16, [1], 0), (.aload_n 0, [], 0), (.iload_n 2, [], 0), (.invokevirtual 182, [151, 2, 11, 0, 146], 0), (.ifCond .eq 8, [1], 0), (.iload_n 1, [], 0), (.iload_n 2, [], 0), (.if_icmp .ne 9, [2], 0)], 1),
  ([(.aload_n 0, [], 0), (.iconst 1, [], 1), (.invokevirtual 174, [145, 2, 11, 0, 144], 0), (.ireturn, [1], 0)], 0),
  ([(.iload_n 3, [], 0), (.iconst 0, [], 0), (.bipush 48, [], 48), (.invokestatic 159, [148, 3, 999, 0, 140], 0), (.ifCond .ne 9, [3], 0), (.aload_n 0, [], 0), (.iconst 2, [], 2), (.invokevirtual 174, [145, 2, 11, 0, 144], 0), (.ireturn, [1], 0)], 0),
  ([(.aload_n 0, [], 0), (.getfield 62, [11, 23, 2, 129], 0), (.bipush 9, [], 9), (.iload_n 1, [], 0), (.imul, [], 0), (.iload_n 2, [], 0), (.iadd, [], 0), (.iload_n 3, [], 0), (.iastore, [], 0), (.aload_n 0, [], 0), (.getfield 62, [11, 23, 2, 129], 0), (.bipush 9, [], 9), (.iload_n 2, [], 0), (.imul, [], 0), (.iload_n 1, [], 0), (.iadd, [], 0), (.iload_n 3, [], 0), (.iastore, [], 0), (.aload_n 0, [], 0), (.invokevirtual 177, [147, 1, 11, 0, 145], 0), (.ireturn, [1], 0)], 0)]
/-- CourtProgressModel.mud(III)Z -/
def ai_c158 : List (List ai_Op × Nat) := [([(.aload_n 0, [], 0), (.iconst 0, [], 0), (.putfield 1, [11, 0, 0, 159], 0), (.iload_n 1, [], 0), (.ifCond .lt 24, [1], 0), (.iload_n 1, [], 0), (.iload_n 2, [], 0), (.if_icmp .gt 19, [1], 0), (.iload_n 2, [], 0), (.sipush 200, [], 200), (.if_icmp .ge 12, [1], 0), (.iload_n 3, [], 0), (.iconst 0, [], 0), (.iconst 4, [], 4), (.invokestatic 159, [148, 3, 999, 0, 140], 0), (.ifCond .ne 9, [2], 0)], 1),
  ([(.aload_n 0, [], 0), (.iconst 2, [], 2), (.invokevirtual 174, [145, 2, 11, 0, 144], 0), (.ireturn, [1], 0)], 0),
  ([(.iload_n 1, [], 0), (.istore 4, [], 0)], 3),
  ([(.iload 4, [], 0), (.iload_n 2, [], 0), (.if_icmp .gt 17, [4], 0), (.aload_n 0, [], 0), (.getfield 65, [11, 24, 2, 130], 0), (.iload 4, [], 0), (.iload_n 3, [], 0), (.iastore, [], 0), (.iinc 4 1, [], 1), (.goto (-17), [3], 0)], 0),
  ([(.aload_n 0, [], 0), (.invokevirtual 177, [147, 1, 11, 0, 145], 0), (.ireturn, [1], 0)], 0)]
/-- CourtProgressModel.feast(II)Z -/
def ai_c159 : List (List ai_Op × Nat) := [([(.aload_n 0, [], 0), (.iconst 0, [], 0), (.putfield 1, [11, 0, 0, 159], 0), (.iload_n 2, [], 0), (.iconst (-1), [], (-1)), (.if_icmp .eq 17, [1], 0), (.aload_n 0, [], 0), (.iload_n 2, [], 0), (.invokevirtual 182, [151, 2, 11, 0, 146], 0), (.ifCond .ne 9, [1], 0), (.aload_n 0, [], 0), (.iconst 1, [], 1), (.invokevirtual 174, [145, 2, 11, 0, 144], 0), (.ireturn, [1], 0)], 0),
  ([(.iload_n 1, [], 0), (.invokestatic 185, [152, 1, 999, 0, 147], 0), (.ifCond .ne 9, [2], 0), (.aload_n 0, [], 0), (.iconst 2, [], 2), (.invokevirtual 174, [145, 2, 11, 0, 144], 0), (.ireturn, [1], 0)], 0),
  ([(.iload_n 2, [], 0), (.iconst (-1), [], (-1)), (.if_icmp .eq 28, [3], 0), (.aload_n 0, [], 0), (.getfield 68, [11, 25, 2, 131], 0), (.iload_n 1, [], 0), (.iaload, [], 0), (.iconst (-1), [], (-1)), (.if_icmp .ne 18, [3], 0), (.aload_n 0, [], 0), (.getfield 188, [11, 6, 0, 160], 0), (.bipush 8, [], 8), (.if_icmp .ne 9, [3], 0), (.aload_n 0, [], 0), (.iconst 3, [], 3), (.invokevirtual 174, [145, 2, 11, 0, 144], 0), (.ireturn, [1], 0)], 0),
  ([(.aload_n 0, [], 0), (.dup, [], 0), (.getfield 188, [11, 6, 0, 160], 0), (.iload_n 2, [], 0), (.iconst (-1), [], (-1)), (.if_icmp .ne 7, [4], 0), (.iconst 0, [], 0), (.goto 4, [5], 0)], 0),
  ([(.iconst 1, [], 1)], 5),
  ([(.aload_n 0, [], 0), (.getfield 68, [11, 25, 2, 131], 0), (.iload_n 1, [], 0), (.iaload, [], 0), (.iconst (-1), [], (-1)), (.if_icmp .ne 7, [6], 0), (.iconst 0, [], 0), (.goto 4, [7], 0)], 0),
  ([(.iconst 1, [], 1)], 7),
  ([(.isub, [], 0), (.iadd, [], 0), (.putfield 188, [11, 6, 0, 160], 0), (.aload_n 0, [], 0), (.getfield 68, [11, 25, 2, 131], 0), (.iload_n 1, [], 0), (.iload_n 2, [], 0), (.iastore, [], 0), (.aload_n 0, [], 0), (.invokevirtual 177, [147, 1, 11, 0, 145], 0), (.ireturn, [1], 0)], 0)]
/-- CourtProgressModel.bring(III)Z -/
def ai_c160 : List (List ai_Op × Nat) := [([(.aload_n 0, [], 0), (.iconst 0, [], 0), (.putfield 1, [11, 0, 0, 159], 0), (.aload_n 0, [], 0), (.iload_n 1, [], 0), (.invokevirtual 182, [151, 2, 11, 0, 146], 0), (.ifCond .ne 9, [1], 0), (.aload_n 0, [], 0), (.iconst 1, [], 1), (.invokevirtual 174, [145, 2, 11, 0, 144], 0), (.ireturn, [1], 0)], 0),
  ([(.aload_n 0, [], 0), (.getfield 35, [11, 14, 2, 120], 0), (.iload_n 1, [], 0), (.iaload, [], 0), (.i2l, [], 0), (.iload_n 2, [], 0), (.i2l, [], 0), (.ladd, [], 0), (.lstore 4, [], 0), (.aload_n 0, [], 0), (.getfield 38, [11, 15, 2, 121], 0), (.iload_n 1, [], 0), (.iaload, [], 0), (.i2l, [], 0), (.iload_n 3, [], 0), (.i2l, [], 0), (.ladd, [], 0), (.lstore 6, [], 0), (.lload 4, [], 0), (.lconst 0, [], 0), (.lcmp, [], 0), (.ifCond .lt 28, [2], 0), (.lload 4, [], 0), (.ldc2_w 191, [], 1000000), (.lcmp, [], 0), (.ifCond .gt 19, [2], 0), (.lload 6, [], 0), (.lconst 0, [], 0), (.lcmp, [], 0), (.ifCond .lt 12, [2], 0), (.lload 6, [], 0), (.ldc2_w 191, [], 1000000), (.lcmp, [], 0), (.ifCond .le 9, [3], 0)], 2),
  ([(.aload_n 0, [], 0), (.iconst 2, [], 2), (.invokevirtual 174, [145, 2, 11, 0, 144], 0), (.ireturn, [1], 0)], 0),
  ([(.aload_n 0, [], 0), (.getfield 35, [11, 14, 2, 120], 0), (.iload_n 1, [], 0), (.lload 4, [], 0), (.l2i, [], 0), (.iastore, [], 0), (.aload_n 0, [], 0), (.getfield 38, [11, 15, 2, 121], 0), (.iload_n 1, [], 0), (.lload 6, [], 0), (.l2i, [], 0), (.iastore, [], 0), (.aload_n 0, [], 0), (.invokevirtual 177, [147, 1, 11, 0, 145], 0), (.ireturn, [1], 0)], 0)]
/-- CourtProgressModel.stop(I)LCourtProgressModel$Stop; -/
def ai_c161 : List (List ai_Op × Nat) := [([(.aload_n 0, [], 0), (.getfield 89, [11, 31, 2, 137], 0), (.iload_n 1, [], 0), (.putfield 193, [10, 6, 0, 161], 0), (.aload_n 0, [], 0), (.getfield 89, [11, 31, 2, 137], 0), (.aload_n 0, [], 0), (.getfield 196, [11, 37, 0, 162], 0), (.putfield 199, [10, 7, 0, 163], 0), (.aload_n 0, [], 0), (.getfield 89, [11, 31, 2, 137], 0), (.areturn, [], 0)], 0)]
/-- CourtProgressModel.byteAt(I)I -/
def ai_c162 : List (List ai_Op × Nat) := [([(.iload_n 1, [], 0), (.aload_n 0, [], 0), (.getfield 200, [11, 34, 0, 164], 0), (.if_icmp .ge 16, [1], 0), (.aload_n 0, [], 0), (.getfield 93, [11, 32, 2, 138], 0), (.iload_n 1, [], 0), (.baload, [], 0), (.sipush 255, [], 255), (.iand, [], 0), (.goto 4, [2], 0)], 0),
  ([(.iconst (-1), [], (-1))], 2),
  ([(.ireturn, [0], 0)], 0)]
/-- CourtProgressModel.isLetter(I)Z -/
def ai_c163 : List (List ai_Op × Nat) := [([(.iload_n 0, [], 0), (.bipush 97, [], 97), (.if_icmp .lt 13, [1], 0), (.iload_n 0, [], 0), (.bipush 122, [], 122), (.if_icmp .gt 7, [1], 0), (.iconst 1, [], 1), (.goto 4, [2], 0)], 0),
  ([(.iconst 0, [], 0)], 2),
  ([(.ireturn, [1], 0)], 0)]
/-- CourtProgressModel.isDigit(I)Z -/
def ai_c164 : List (List ai_Op × Nat) := [([(.iload_n 0, [], 0), (.bipush 48, [], 48), (.if_icmp .lt 13, [1], 0), (.iload_n 0, [], 0), (.bipush 57, [], 57), (.if_icmp .gt 7, [1], 0), (.iconst 1, [], 1), (.goto 4, [2], 0)], 0),
  ([(.iconst 0, [], 0)], 2),
  ([(.ireturn, [1], 0)], 0)]
/-- CourtProgressModel.wordOf(Ljava/lang/String;)J -/
def ai_c165 : List (List ai_Op × Nat) := [([(.lconst 0, [], 0), (.lstore_n 1, [], 0), (.iconst 0, [], 0), (.istore_n 3, [], 0)], 1),
  ([(.iload_n 3, [], 0), (.aload_n 0, [], 0), (.invokevirtual 203, [300, 1, 998, 0, 148], 0), (.if_icmp .ge 27, [2], 0), (.ldc2_w 209, [], 32), (.lload_n 1, [], 0), (.lmul, [], 0), (.aload_n 0, [], 0), (.iload_n 3, [], 0), (.invokevirtual 211, [301, 2, 998, 0, 149], 0), (.bipush 97, [], 97), (.isub, [], 0), (.iconst 1, [], 1), (.iadd, [], 0), (.i2l, [], 0), (.ladd, [], 0), (.lstore_n 1, [], 0), (.iinc 3 1, [], 1), (.goto (-29), [1], 0)], 0),
  ([(.lload_n 1, [], 0), (.lreturn, [], 0)], 0)]
/-- CourtProgressModel.next()V -/
def ai_c166 : List (List ai_Op × Nat) := [([(.aload_n 0, [], 0), (.aload_n 0, [], 0), (.getfield 215, [11, 35, 0, 165], 0), (.invokevirtual 218, [162, 2, 11, 0, 150], 0), (.bipush 32, [], 32), (.if_icmp .ne 16, [1], 0), (.aload_n 0, [], 0), (.dup, [], 0), (.getfield 215, [11, 35, 0, 165], 0), (.iconst 1, [], 1), (.iadd, [], 0), (.putfield 215, [11, 35, 0, 165], 0), (.goto (-23), [0], 0)], 0),
  ([(.aload_n 0, [], 0), (.aload_n 0, [], 0), (.getfield 215, [11, 35, 0, 165], 0), (.putfield 196, [11, 37, 0, 162], 0), (.aload_n 0, [], 0), (.iconst 0, [], 0), (.putfield 221, [11, 36, 0, 166], 0), (.aload_n 0, [], 0), (.iconst 0, [], 0), (.putfield 224, [11, 38, 0, 167], 0), (.aload_n 0, [], 0), (.aload_n 0, [], 0), (.getfield 215, [11, 35, 0, 165], 0), (.invokevirtual 218, [162, 2, 11, 0, 150], 0), (.istore_n 1, [], 0), (.iconst 0, [], 0), (.istore_n 2, [], 0), (.iload_n 1, [], 0), (.iconst (-1), [], (-1)), (.if_icmp .ne 11, [2], 0), (.aload_n 0, [], 0), (.iconst 1, [], 1), (.putfield 221, [11, 36, 0, 166], 0), (.goto 231, [12], 0)], 0),
  ([(.iload_n 1, [], 0), (.invokestatic 227, [163, 1, 999, 0, 151], 0), (.ifCond .eq 85, [6], 0), (.aload_n 0, [], 0), (.lconst 0, [], 0), (.putfield 230, [11, 40, 1, 168], 0)], 3),
  ([(.aload_n 0, [], 0), (.aload_n 0, [], 0), (.getfield 215, [11, 35, 0, 165], 0), (.invokevirtual 218, [162, 2, 11, 0, 150], 0), (.invokestatic 227, [163, 1, 999, 0, 151], 0), (.ifCond .eq 52, [5], 0), (.iload_n 2, [], 0), (.bipush 8, [], 8), (.if_icmp .ge 30, [4], 0), (.aload_n 0, [], 0), (.ldc2_w 209, [], 32), (.aload_n 0, [], 0), (.getfield 230, [11, 40, 1, 168], 0), (.lmul, [], 0), (.aload_n 0, [], 0), (.aload_n 0, [], 0), (.getfield 215, [11, 35, 0, 165], 0), (.invokevirtual 218, [162, 2, 11, 0, 150], 0), (.bipush 97, [], 97), (.isub, [], 0), (.iconst 1, [], 1), (.iadd, [], 0), (.i2l, [], 0), (.ladd, [], 0), (.putfield 230, [11, 40, 1, 168], 0)], 4),
  ([(.iinc 2 1, [], 1), (.aload_n 0, [], 0), (.dup, [], 0), (.getfield 215, [11, 35, 0, 165], 0), (.iconst 1, [], 1), (.iadd, [], 0), (.putfield 215, [11, 35, 0, 165], 0), (.goto (-60), [3], 0)], 0),
  ([(.iload_n 2, [], 0), (.bipush 9, [], 9), (.if_icmp .ge 150, [12], 0), (.aload_n 0, [], 0), (.iconst 2, [], 2), (.putfield 221, [11, 36, 0, 166], 0), (.goto 142, [12], 0)], 0),
  ([(.iload_n 1, [], 0), (.invokestatic 234, [164, 1, 999, 0, 152], 0), (.ifCond .eq 79, [10], 0), (.aload_n 0, [], 0), (.iconst 0, [], 0), (.putfield 237, [11, 39, 0, 169], 0)], 7),
  ([(.aload_n 0, [], 0), (.aload_n 0, [], 0), (.getfield 215, [11, 35, 0, 165], 0), (.invokevirtual 218, [162, 2, 11, 0, 150], 0), (.invokestatic 234, [164, 1, 999, 0, 152], 0), (.ifCond .eq 47, [9], 0), (.iload_n 2, [], 0), (.iconst 3, [], 3), (.if_icmp .ge 26, [8], 0), (.aload_n 0, [], 0), (.bipush 10, [], 10), (.aload_n 0, [], 0), (.getfield 237, [11, 39, 0, 169], 0), (.imul, [], 0), (.aload_n 0, [], 0), (.aload_n 0, [], 0), (.getfield 215, [11, 35, 0, 165], 0), (.invokevirtual 218, [162, 2, 11, 0, 150], 0), (.iadd, [], 0), (.bipush 48, [], 48), (.isub, [], 0), (.putfield 237, [11, 39, 0, 169], 0)], 8),
  ([(.iinc 2 1, [], 1), (.aload_n 0, [], 0), (.dup, [], 0), (.getfield 215, [11, 35, 0, 165], 0), (.iconst 1, [], 1), (.iadd, [], 0), (.putfield 215, [11, 35, 0, 165], 0), (.goto (-55), [7], 0)], 0),
  ([(.iload_n 2, [], 0), (.iconst 4, [], 4), (.if_icmp .ge 67, [12], 0), (.aload_n 0, [], 0), (.iconst 3, [], 3), (.putfield 221, [11, 36, 0, 166], 0), (.goto 59, [12], 0)], 0),
  ([(.iload_n 1, [], 0), (.bipush 60, [], 60), (.if_icmp .eq 33, [11], 0), (.iload_n 1, [], 0), (.bipush 62, [], 62), (.if_icmp .eq 27, [11], 0), (.iload_n 1, [], 0), (.bipush 61, [], 61), (.if_icmp .eq 21, [11], 0), (.iload_n 1, [], 0), (.bipush 43, [], 43), (.if_icmp .eq 15, [11], 0), (.iload_n 1, [], 0), (.bipush 42, [], 42), (.if_icmp .eq 9, [11], 0), (.iload_n 1, [], 0), (.bipush 59, [], 59), (.if_icmp .ne 23, [12], 0)], 11),
  ([(.aload_n 0, [], 0), (.iconst 4, [], 4), (.putfield 221, [11, 36, 0, 166], 0), (.aload_n 0, [], 0), (.iload_n 1, [], 0), (.putfield 224, [11, 38, 0, 167], 0), (.aload_n 0, [], 0), (.dup, [], 0), (.getfield 215, [11, 35, 0, 165], 0), (.iconst 1, [], 1), (.iadd, [], 0), (.putfield 215, [11, 35, 0, 165], 0)], 12),
  ([(.return_, [], 0)], 0)]
/-- CourtProgressModel.isWord(Ljava/lang/String;)Z -/
def ai_c167 : List (List ai_Op × Nat) := [([(.aload_n 0, [], 0), (.getfield 221, [11, 36, 0, 166], 0), (.iconst 2, [], 2), (.if_icmp .ne 19, [1], 0), (.aload_n 0, [], 0), (.getfield 230, [11, 40, 1, 168], 0), (.aload_n 1, [], 0), (.invokestatic 240, [165, 1, 999, 0, 153], 0), (.lcmp, [], 0), (.ifCond .ne 7, [1], 0), (.iconst 1, [], 1), (.goto 4, [2], 0)], 0),
  ([(.iconst 0, [], 0)], 2),
  ([(.ireturn, [1], 0)], 0)]
/-- CourtProgressModel.is(I)Z -/
def ai_c168 : List (List ai_Op × Nat) := [([(.aload_n 0, [], 0), (.getfield 221, [11, 36, 0, 166], 0), (.iconst 4, [], 4), (.if_icmp .ne 15, [1], 0), (.aload_n 0, [], 0), (.getfield 224, [11, 38, 0, 167], 0), (.iload_n 1, [], 0), (.if_icmp .ne 7, [1], 0), (.iconst 1, [], 1), (.goto 4, [2], 0)], 0),
  ([(.iconst 0, [], 0)], 2),
  ([(.ireturn, [1], 0)], 0)]
/-- CourtProgressModel.nameHere()I -/
def ai_c169 : List (List ai_Op × Nat) := [([(.aload_n 0, [], 0), (.getfield 221, [11, 36, 0, 166], 0), (.iconst 2, [], 2), (.if_icmp .ne 39, [1], 0), (.aload_n 0, [], 0), (.ldc 244, [10], 0), (.invokevirtual 246, [167, 2, 11, 0, 154], 0), (.ifCond .ne 30, [1], 0), (.aload_n 0, [], 0), (.ldc 250, [13], 0), (.invokevirtual 246, [167, 2, 11, 0, 154], 0), (.ifCond .ne 21, [1], 0), (.aload_n 0, [], 0), (.ldc 252, [11], 0), (.invokevirtual 246, [167, 2, 11, 0, 154], 0), (.ifCond .ne 12, [1], 0), (.aload_n 0, [], 0), (.ldc 254, [12], 0), (.invokevirtual 246, [167, 2, 11, 0, 154], 0), (.ifCond .eq 9, [2], 0)], 1),
  ([(.aload_n 0, [], 0), (.iconst 1, [], 1), (.invokevirtual 255, [161, 2, 11, 0, 155], 0), (.athrow, [], 0)], 0),
  ([(.aload_n 0, [], 0), (.ldc_w 258, [14], 0), (.invokevirtual 246, [167, 2, 11, 0, 154], 0), (.ifCond .eq 7, [3], 0), (.iconst 0, [], 0), (.goto 74, [9], 0)], 0),
  ([(.aload_n 0, [], 0), (.ldc_w 259, [15], 0), (.invokevirtual 246, [167, 2, 11, 0, 154], 0), (.ifCond .eq 7, [4], 0), (.iconst 1, [], 1), (.goto 60, [9], 0)], 0),
  ([(.aload_n 0, [], 0), (.ldc_w 260, [16], 0), (.invokevirtual 246, [167, 2, 11, 0, 154], 0), (.ifCond .eq 7, [5], 0), (.iconst 2, [], 2), (.goto 46, [9], 0)], 0),
  ([(.aload_n 0, [], 0), (.ldc_w 261, [17], 0), (.invokevirtual 246, [167, 2, 11, 0, 154], 0), (.ifCond .eq 7, [6], 0), (.iconst 3, [], 3), (.goto 32, [9], 0)], 0),
  ([(.aload_n 0, [], 0), (.ldc_w 263, [18], 0), (.invokevirtual 246, [167, 2, 11, 0, 154], 0), (.ifCond .eq 7, [7], 0), (.iconst 4, [], 4), (.goto 18, [9], 0)], 0),
  ([(.aload_n 0, [], 0), (.ldc_w 264, [19], 0), (.invokevirtual 246, [167, 2, 11, 0, 154], 0), (.ifCond .eq 7, [8], 0), (.iconst 5, [], 5), (.goto 4, [9], 0)], 0),
  ([(.iconst (-1), [], (-1))], 9),
  ([(.istore_n 1, [], 0), (.iload_n 1, [], 0), (.iconst (-1), [], (-1)), (.if_icmp .ne 9, [10], 0), (.aload_n 0, [], 0), (.iconst 2, [], 2), (.invokevirtual 255, [161, 2, 11, 0, 155], 0), (.athrow, [], 0)], 0),
  ([(.iload_n 1, [], 0), (.ireturn, [0], 0)], 0)]
/-- CourtProgressModel.reads()V -/
def ai_c170 : List (List ai_Op × Nat) := [([(.aload_n 0, [], 0), (.getfield 266, [11, 41, 0, 170], 0), (.istore_n 1, [], 0), (.aload_n 0, [], 0), (.getfield 100, [11, 43, 2, 140], 0), (.iload_n 1, [], 0), (.iconst 0, [], 0), (.iastore, [], 0), (.aload_n 0, [], 0), (.invokevirtual 269, [166, 1, 11, 0, 156], 0), (.iconst 1, [], 1), (.istore_n 2, [], 0)], 1),
  ([(.iload_n 2, [], 0), (.ifCond .eq 204, [10], 0), (.aload_n 0, [], 0), (.ldc 244, [10], 0), (.invokevirtual 246, [167, 2, 11, 0, 154], 0), (.ifCond .ne 27, [2], 0), (.aload_n 0, [], 0), (.ldc 252, [11], 0), (.invokevirtual 246, [167, 2, 11, 0, 154], 0), (.ifCond .ne 18, [2], 0), (.aload_n 0, [], 0), (.ldc 254, [12], 0), (.invokevirtual 246, [167, 2, 11, 0, 154], 0), (.ifCond .ne 9, [2], 0), (.aload_n 0, [], 0), (.iconst 1, [], 1), (.invokevirtual 255, [161, 2, 11, 0, 155], 0), (.athrow, [], 0)], 0),
  ([(.aload_n 0, [], 0), (.getfield 100, [11, 43, 2, 140], 0), (.iload_n 1, [], 0), (.iaload, [], 0), (.bipush 12, [], 12), (.if_icmp .ne 9, [3], 0), (.aload_n 0, [], 0), (.iconst 3, [], 3), (.invokevirtual 255, [161, 2, 11, 0, 155], 0), (.athrow, [], 0)], 0),
  ([(.bipush 12, [], 12), (.iload_n 1, [], 0), (.imul, [], 0), (.aload_n 0, [], 0), (.getfield 100, [11, 43, 2, 140], 0), (.iload_n 1, [], 0), (.iaload, [], 0), (.iadd, [], 0), (.istore_n 3, [], 0), (.aload_n 0, [], 0), (.getfield 103, [11, 44, 2, 141], 0), (.iload_n 3, [], 0), (.iconst 0, [], 0), (.iastore, [], 0), (.aload_n 0, [], 0), (.getfield 106, [11, 45, 2, 142], 0), (.iload_n 3, [], 0), (.iconst 0, [], 0), (.iastore, [], 0), (.aload_n 0, [], 0), (.ldc 244, [10], 0), (.invokevirtual 246, [167, 2, 11, 0, 154], 0), (.istore 4, [], 0)], 4),
  ([(.iload 4, [], 0), (.ifCond .eq 23, [5], 0), (.aload_n 0, [], 0), (.invokevirtual 269, [166, 1, 11, 0, 156], 0), (.aload_n 0, [], 0), (.iload_n 3, [], 0), (.invokevirtual 272, [171, 2, 11, 0, 157], 0), (.aload_n 0, [], 0), (.ldc 250, [13], 0), (.invokevirtual 246, [167, 2, 11, 0, 154], 0), (.istore 4, [], 0), (.goto (-22), [4], 0)], 0),
  ([(.aload_n 0, [], 0), (.ldc 252, [11], 0), (.invokevirtual 246, [167, 2, 11, 0, 154], 0), (.ifCond .ne 18, [6], 0), (.aload_n 0, [], 0), (.ldc 254, [12], 0), (.invokevirtual 246, [167, 2, 11, 0, 154], 0), (.ifCond .ne 9, [6], 0), (.aload_n 0, [], 0), (.iconst 1, [], 1), (.invokevirtual 255, [161, 2, 11, 0, 155], 0), (.athrow, [], 0)], 0),
  ([(.aload_n 0, [], 0), (.getfield 109, [11, 46, 2, 143], 0), (.iload_n 3, [], 0), (.aload_n 0, [], 0), (.ldc 254, [12], 0), (.invokevirtual 246, [167, 2, 11, 0, 154], 0), (.bastore, [], 0), (.iconst 1, [], 1), (.istore 5, [], 0)], 7),
  ([(.iload 5, [], 0), (.ifCond .eq 23, [8], 0), (.aload_n 0, [], 0), (.invokevirtual 269, [166, 1, 11, 0, 156], 0), (.aload_n 0, [], 0), (.iload_n 3, [], 0), (.invokevirtual 276, [172, 2, 11, 0, 158], 0), (.aload_n 0, [], 0), (.bipush 43, [], 43), (.invokevirtual 279, [168, 2, 11, 0, 159], 0), (.istore 5, [], 0), (.goto (-22), [7], 0)], 0),
  ([(.aload_n 0, [], 0), (.getfield 100, [11, 43, 2, 140], 0), (.iload_n 1, [], 0), (.dup2, [], 0), (.iaload, [], 0), (.iconst 1, [], 1), (.iadd, [], 0), (.iastore, [], 0), (.aload_n 0, [], 0), (.bipush 59, [], 59), (.invokevirtual 279, [168, 2, 11, 0, 159], 0), (.istore_n 2, [], 0), (.iload_n 2, [], 0), (.ifCond .eq 7, [9], 0), (.aload_n 0, [], 0), (.invokevirtual 269, [166, 1, 11, 0, 156], 0)], 9),
  ([(.goto (-202), [1], 0)], 0),
  ([(.aload_n 0, [], 0), (.getfield 221, [11, 36, 0, 166], 0), (.iconst 1, [], 1), (.if_icmp .eq 9, [11], 0), (.aload_n 0, [], 0), (.iconst 1, [], 1), (.invokevirtual 255, [161, 2, 11, 0, 155], 0), (.athrow, [], 0)], 0),
  ([(.return_, [], 0)], 0)]
/-- CourtProgressModel.readTest(I)V -/
def ai_c171 : List (List ai_Op × Nat) := [([(.aload_n 0, [], 0), (.invokevirtual 282, [169, 1, 11, 0, 160], 0), (.istore_n 2, [], 0), (.aload_n 0, [], 0), (.getfield 103, [11, 44, 2, 141], 0), (.iload_n 1, [], 0), (.iaload, [], 0), (.iconst 4, [], 4), (.if_icmp .ne 9, [1], 0), (.aload_n 0, [], 0), (.iconst 3, [], 3), (.invokevirtual 255, [161, 2, 11, 0, 155], 0), (.athrow, [], 0)], 0),
  ([(.iconst 4, [], 4), (.iload_n 1, [], 0), (.imul, [], 0), (.aload_n 0, [], 0), (.getfield 103, [11, 44, 2, 141], 0), (.iload_n 1, [], 0), (.iaload, [], 0), (.iadd, [], 0), (.istore_n 3, [], 0), (.aload_n 0, [], 0), (.getfield 113, [11, 47, 2, 144], 0), (.iload_n 3, [], 0), (.iload_n 2, [], 0), (.iastore, [], 0), (.aload_n 0, [], 0), (.invokevirtual 269, [166, 1, 11, 0, 156], 0), (.aload_n 0, [], 0), (.bipush 60, [], 60), (.invokevirtual 279, [168, 2, 11, 0, 159], 0), (.ifCond .ne 27, [2], 0), (.aload_n 0, [], 0), (.bipush 62, [], 62), (.invokevirtual 279, [168, 2, 11, 0, 159], 0), (.ifCond .ne 18, [2], 0), (.aload_n 0, [], 0), (.bipush 61, [], 61), (.invokevirtual 279, [168, 2, 11, 0, 159], 0), (.ifCond .ne 9, [2], 0), (.aload_n 0, [], 0), (.iconst 1, [], 1), (.invokevirtual 255, [161, 2, 11, 0, 155], 0), (.athrow, [], 0)], 0),
  ([(.aload_n 0, [], 0), (.getfield 116, [11, 48, 2, 145], 0), (.iload_n 3, [], 0), (.aload_n 0, [], 0), (.getfield 224, [11, 38, 0, 167], 0), (.iastore, [], 0), (.aload_n 0, [], 0), (.invokevirtual 269, [166, 1, 11, 0, 156], 0), (.aload_n 0, [], 0), (.getfield 221, [11, 36, 0, 166], 0), (.iconst 3, [], 3), (.if_icmp .eq 9, [3], 0), (.aload_n 0, [], 0), (.iconst 1, [], 1), (.invokevirtual 255, [161, 2, 11, 0, 155], 0), (.athrow, [], 0)], 0),
  ([(.aload_n 0, [], 0), (.getfield 119, [11, 49, 2, 146], 0), (.iload_n 3, [], 0), (.aload_n 0, [], 0), (.getfield 237, [11, 39, 0, 169], 0), (.iastore, [], 0), (.aload_n 0, [], 0), (.invokevirtual 269, [166, 1, 11, 0, 156], 0), (.aload_n 0, [], 0), (.getfield 103, [11, 44, 2, 141], 0), (.iload_n 1, [], 0), (.dup2, [], 0), (.iaload, [], 0), (.iconst 1, [], 1), (.iadd, [], 0), (.iastore, [], 0), (.return_, [], 0)], 0)]
/-- CourtProgressModel.readTerm(I)V -/
def ai_c172 : List (List ai_Op × Nat) := [([(.aload_n 0, [], 0), (.getfield 221, [11, 36, 0, 166], 0), (.iconst 3, [], 3), (.if_icmp .ne 7, [1], 0), (.iconst (-1), [], (-1)), (.goto 7, [2], 0)], 0),
  ([(.aload_n 0, [], 0), (.invokevirtual 282, [169, 1, 11, 0, 160], 0)], 2),
  ([(.istore_n 2, [], 0), (.aload_n 0, [], 0), (.getfield 106, [11, 45, 2, 142], 0), (.iload_n 1, [], 0), (.iaload, [], 0), (.iconst 4, [], 4), (.if_icmp .ne 9, [3], 0), (.aload_n 0, [], 0), (.iconst 3, [], 3), (.invokevirtual 255, [161, 2, 11, 0, 155], 0), (.athrow, [], 0)], 0),
  ([(.iconst 4, [], 4), (.iload_n 1, [], 0), (.imul, [], 0), (.aload_n 0, [], 0), (.getfield 106, [11, 45, 2, 142], 0), (.iload_n 1, [], 0), (.iaload, [], 0), (.iadd, [], 0), (.istore_n 3, [], 0), (.aload_n 0, [], 0), (.getfield 125, [11, 51, 2, 148], 0), (.iload_n 3, [], 0), (.aload_n 0, [], 0), (.getfield 221, [11, 36, 0, 166], 0), (.iconst 3, [], 3), (.if_icmp .ne 10, [4], 0), (.aload_n 0, [], 0), (.getfield 237, [11, 39, 0, 169], 0), (.goto 4, [5], 0)], 0),
  ([(.iconst 1, [], 1)], 5),
  ([(.iastore, [], 0), (.aload_n 0, [], 0), (.getfield 122, [11, 50, 2, 147], 0), (.iload_n 3, [], 0), (.iload_n 2, [], 0), (.iastore, [], 0), (.aload_n 0, [], 0), (.invokevirtual 269, [166, 1, 11, 0, 156], 0), (.iload_n 2, [], 0), (.iconst (-1), [], (-1)), (.if_icmp .ne 30, [6], 0), (.aload_n 0, [], 0), (.bipush 42, [], 42), (.invokevirtual 279, [168, 2, 11, 0, 159], 0), (.ifCond .eq 21, [6], 0), (.aload_n 0, [], 0), (.invokevirtual 269, [166, 1, 11, 0, 156], 0), (.aload_n 0, [], 0), (.getfield 122, [11, 50, 2, 147], 0), (.iload_n 3, [], 0), (.aload_n 0, [], 0), (.invokevirtual 282, [169, 1, 11, 0, 160], 0), (.iastore, [], 0), (.aload_n 0, [], 0), (.invokevirtual 269, [166, 1, 11, 0, 156], 0)], 6),
  ([(.aload_n 0, [], 0), (.getfield 106, [11, 45, 2, 142], 0), (.iload_n 1, [], 0), (.dup2, [], 0), (.iaload, [], 0), (.iconst 1, [], 1), (.iadd, [], 0), (.iastore, [], 0), (.return_, [], 0)], 0)]
/-- CourtProgressModel.feed(IIIII)I -/
def ai_c173 : List (List ai_Op × Nat) := [([(.aload_n 0, [], 0), (.iconst 0, [], 0), (.putfield 1, [11, 0, 0, 159], 0), (.aload_n 0, [], 0), (.getfield 285, [11, 33, 0, 171], 0), (.bipush 20, [], 20), (.iadd, [], 0), (.sipush 400, [], 400), (.if_icmp .le 5, [1], 0), (.iconst (-1), [], (-1)), (.ireturn, [0], 0)], 0),
  ([(.iconst 0, [], 0), (.istore 6, [], 0)], 2),
  ([(.iload 6, [], 0), (.bipush 20, [], 20), (.if_icmp .ge 90, [8], 0), (.iload 6, [], 0), (.iconst 4, [], 4), (.if_icmp .ge 7, [3], 0), (.iload_n 1, [], 0), (.goto 39, [7], 0)], 0),
  ([(.iload 6, [], 0), (.bipush 8, [], 8), (.if_icmp .ge 7, [4], 0), (.iload_n 2, [], 0), (.goto 28, [7], 0)], 0),
  ([(.iload 6, [], 0), (.bipush 12, [], 12), (.if_icmp .ge 7, [5], 0), (.iload_n 3, [], 0), (.goto 17, [7], 0)], 0),
  ([(.iload 6, [], 0), (.bipush 16, [], 16), (.if_icmp .ge 8, [6], 0), (.iload 4, [], 0), (.goto 5, [7], 0)], 0),
  ([(.iload 5, [], 0)], 7),
  ([(.istore 7, [], 0), (.aload_n 0, [], 0), (.getfield 93, [11, 32, 2, 138], 0), (.aload_n 0, [], 0), (.getfield 285, [11, 33, 0, 171], 0), (.iload 7, [], 0), (.bipush 24, [], 24), (.bipush 8, [], 8), (.iload 6, [], 0), (.iconst 4, [], 4), (.irem, [], 0), (.imul, [], 0), (.isub, [], 0), (.ishr, [], 0), (.i2b, [], 0), (.bastore, [], 0), (.aload_n 0, [], 0), (.dup, [], 0), (.getfield 285, [11, 33, 0, 171], 0), (.iconst 1, [], 1), (.iadd, [], 0), (.putfield 285, [11, 33, 0, 171], 0), (.iinc 6 1, [], 1), (.goto (-91), [2], 0)], 0),
  ([(.aload_n 0, [], 0), (.getfield 285, [11, 33, 0, 171], 0), (.ireturn, [0], 0)], 0)]
/-- CourtProgressModel.ordinance(II)I -/
def ai_c174 : List (List ai_Op × Nat) := [([(.aload_n 0, [], 0), (.iconst 0, [], 0), (.putfield 1, [11, 0, 0, 159], 0), (.iload_n 1, [], 0), (.invokestatic 185, [152, 1, 999, 0, 147], 0), (.ifCond .eq 15, [1], 0), (.iload_n 2, [], 0), (.ifCond .lt 11, [1], 0), (.iload_n 2, [], 0), (.aload_n 0, [], 0), (.getfield 285, [11, 33, 0, 171], 0), (.if_icmp .le 9, [2], 0)], 1),
  ([(.aload_n 0, [], 0), (.iconst 2, [], 2), (.invokevirtual 163, [144, 2, 11, 0, 141], 0), (.ireturn, [0], 0)], 0),
  ([(.aload_n 0, [], 0), (.iload_n 2, [], 0), (.putfield 200, [11, 34, 0, 164], 0), (.aload_n 0, [], 0), (.iconst 0, [], 0), (.putfield 285, [11, 33, 0, 171], 0), (.aload_n 0, [], 0), (.iconst 0, [], 0), (.putfield 215, [11, 35, 0, 165], 0), (.aload_n 0, [], 0), (.iconst 0, [], 0), (.putfield 288, [11, 3, 0, 172], 0), (.aload_n 0, [], 0), (.invokevirtual 291, [170, 1, 11, 3, 161], 0), (.goto 27, [4], 0)], 0),
  ([(.astore_n 3, [], 0), (.aload_n 0, [], 0), (.aload_n 3, [], 0), (.getfield 193, [10, 6, 0, 161], 0), (.putfield 288, [11, 3, 0, 172], 0), (.aload_n 0, [], 0), (.iconst 4, [], 4), (.putfield 7, [11, 1, 0, 113], 0), (.aload_n 0, [], 0), (.aload_n 3, [], 0), (.getfield 199, [10, 7, 0, 163], 0), (.putfield 10, [11, 2, 0, 114], 0), (.iconst (-1), [], (-1)), (.ireturn, [0], 0)], 0),
  ([(.aload_n 0, [], 0), (.getfield 266, [11, 41, 0, 170], 0), (.bipush 10, [], 10), (.if_icmp .ne 9, [5], 0), (.aload_n 0, [], 0), (.iconst 3, [], 3), (.invokevirtual 163, [144, 2, 11, 0, 141], 0), (.ireturn, [0], 0)], 0),
  ([(.aload_n 0, [], 0), (.getfield 97, [11, 42, 2, 139], 0), (.aload_n 0, [], 0), (.getfield 266, [11, 41, 0, 170], 0), (.iload_n 1, [], 0), (.iastore, [], 0), (.aload_n 0, [], 0), (.dup, [], 0), (.getfield 266, [11, 41, 0, 170], 0), (.iconst 1, [], 1), (.iadd, [], 0), (.putfield 266, [11, 41, 0, 170], 0), (.aload_n 0, [], 0), (.aload_n 0, [], 0), (.getfield 266, [11, 41, 0, 170], 0), (.iconst 1, [], 1), (.isub, [], 0), (.invokevirtual 167, [146, 2, 11, 0, 142], 0), (.ireturn, [0], 0)], 0)]
/-- CourtProgressModel.fault()I -/
def ai_c175 : List (List ai_Op × Nat) := [([(.aload_n 0, [], 0), (.iconst 0, [], 0), (.putfield 1, [11, 0, 0, 159], 0), (.aload_n 0, [], 0), (.getfield 288, [11, 3, 0, 172], 0), (.ireturn, [0], 0)], 0)]
/-- CourtProgressModel.where()I -/
def ai_c176 : List (List ai_Op × Nat) := [([(.aload_n 0, [], 0), (.iconst 0, [], 0), (.putfield 1, [11, 0, 0, 159], 0), (.aload_n 0, [], 0), (.getfield 10, [11, 2, 0, 114], 0), (.ireturn, [0], 0)], 0)]
/-- CourtProgressModel.forceOf(I)I -/
def ai_c177 : List (List ai_Op × Nat) := [([(.bipush (-2), [], (-2)), (.istore_n 2, [], 0), (.iconst 0, [], 0), (.istore_n 3, [], 0)], 1),
  ([(.iload_n 3, [], 0), (.aload_n 0, [], 0), (.getfield 266, [11, 41, 0, 170], 0), (.if_icmp .ge 42, [4], 0), (.aload_n 0, [], 0), (.getfield 97, [11, 42, 2, 139], 0), (.iload_n 3, [], 0), (.iaload, [], 0), (.iload_n 1, [], 0), (.if_icmp .gt 26, [3], 0), (.iload_n 2, [], 0), (.bipush (-2), [], (-2)), (.if_icmp .eq 18, [2], 0), (.aload_n 0, [], 0), (.getfield 97, [11, 42, 2, 139], 0), (.iload_n 3, [], 0), (.iaload, [], 0), (.aload_n 0, [], 0), (.getfield 97, [11, 42, 2, 139], 0), (.iload_n 2, [], 0), (.iaload, [], 0), (.if_icmp .lt 5, [3], 0)], 2),
  ([(.iload_n 3, [], 0), (.istore_n 2, [], 0)], 3),
  ([(.iinc 3 1, [], 1), (.goto (-44), [1], 0)], 0),
  ([(.iload_n 2, [], 0), (.ireturn, [0], 0)], 0)]
/-- CourtProgressModel.force(I)I -/
def ai_c178 : List (List ai_Op × Nat) := [([(.aload_n 0, [], 0), (.iconst 0, [], 0), (.putfield 1, [11, 0, 0, 159], 0), (.iload_n 1, [], 0), (.invokestatic 185, [152, 1, 999, 0, 147], 0), (.ifCond .eq 11, [1], 0), (.aload_n 0, [], 0), (.iload_n 1, [], 0), (.invokevirtual 294, [177, 2, 11, 0, 162], 0), (.goto 4, [2], 0)], 0),
  ([(.iconst (-1), [], (-1))], 2),
  ([(.ireturn, [0], 0)], 0)]
/-- CourtProgressModel.valueOf(III)I -/
def ai_c179 : List (List ai_Op × Nat) := [([(.iload_n 1, [], 0), (.tableswitch 65 0 4 #[35, 42, 49, 56, 58], [6, 1, 2, 3, 4, 5], 0)], 0),
  ([(.aload_n 0, [], 0), (.getfield 22, [11, 10, 2, 116], 0), (.iload_n 2, [], 0), (.iaload, [], 0), (.ireturn, [0], 0)], 0),
  ([(.aload_n 0, [], 0), (.getfield 26, [11, 11, 2, 117], 0), (.iload_n 2, [], 0), (.iaload, [], 0), (.ireturn, [0], 0)], 0),
  ([(.aload_n 0, [], 0), (.getfield 29, [11, 12, 2, 118], 0), (.iload_n 2, [], 0), (.iaload, [], 0), (.ireturn, [0], 0)], 0),
  ([(.iload_n 3, [], 0), (.ireturn, [0], 0)], 0),
  ([(.aload_n 0, [], 0), (.getfield 65, [11, 24, 2, 130], 0), (.iload_n 3, [], 0), (.iaload, [], 0), (.ireturn, [0], 0)], 0),
  ([(.aload_n 0, [], 0), (.getfield 68, [11, 25, 2, 131], 0), (.iload_n 3, [], 0), (.iaload, [], 0), (.iconst (-1), [], (-1)), (.if_icmp .ne 7, [7], 0), (.iconst 0, [], 0), (.goto 4, [8], 0)], 0),
  ([(.iconst 1, [], 1)], 8),
  ([(.ireturn, [0], 0)], 0)]
/-- CourtProgressModel.eatsOf(IIZ)I -/
def ai_c180 : List (List ai_Op × Nat) := [([(.aload_n 0, [], 0), (.iload_n 2, [], 0), (.invokevirtual 294, [177, 2, 11, 0, 162], 0), (.istore 4, [], 0), (.bipush 12, [], 12), (.iload 4, [], 0), (.iconst 0, [], 0), (.invokestatic 297, [211, 2, 999, 0, 163], 0), (.imul, [], 0), (.istore 5, [], 0)], 1),
  ([(.iload 4, [], 0), (.ifCond .lt 251, [17], 0), (.iload 5, [], 0), (.bipush 12, [], 12), (.iload 4, [], 0), (.imul, [], 0), (.aload_n 0, [], 0), (.getfield 100, [11, 43, 2, 140], 0), (.iload 4, [], 0), (.iaload, [], 0), (.iadd, [], 0), (.if_icmp .ge 233, [17], 0), (.aload_n 0, [], 0), (.getfield 109, [11, 46, 2, 143], 0), (.iload 5, [], 0), (.baload, [], 0), (.iload_n 3, [], 0), (.if_icmp .ne 7, [2], 0), (.iconst 1, [], 1), (.goto 4, [3], 0)], 0),
  ([(.iconst 0, [], 0)], 3),
  ([(.istore 6, [], 0), (.iconst 4, [], 4), (.iload 5, [], 0), (.imul, [], 0), (.istore 7, [], 0)], 4),
  ([(.iload 7, [], 0), (.iconst 4, [], 4), (.iload 5, [], 0), (.imul, [], 0), (.aload_n 0, [], 0), (.getfield 103, [11, 44, 2, 141], 0), (.iload 5, [], 0), (.iaload, [], 0), (.iadd, [], 0), (.if_icmp .ge 102, [10], 0), (.aload_n 0, [], 0), (.aload_n 0, [], 0), (.getfield 113, [11, 47, 2, 144], 0), (.iload 7, [], 0), (.iaload, [], 0), (.iload_n 1, [], 0), (.iload_n 2, [], 0), (.invokevirtual 303, [179, 4, 11, 0, 164], 0), (.istore 8, [], 0), (.iload 6, [], 0), (.ifCond .eq 73, [8], 0), (.aload_n 0, [], 0), (.getfield 116, [11, 48, 2, 145], 0), (.iload 7, [], 0), (.iaload, [], 0), (.bipush 60, [], 60), (.if_icmp .ne 18, [5], 0), (.iload 8, [], 0), (.aload_n 0, [], 0), (.getfield 119, [11, 49, 2, 146], 0), (.iload 7, [], 0), (.iaload, [], 0), (.if_icmp .ge 49, [8], 0), (.goto 42, [7], 0)], 0),
  ([(.aload_n 0, [], 0), (.getfield 116, [11, 48, 2, 145], 0), (.iload 7, [], 0), (.iaload, [], 0), (.bipush 62, [], 62), (.if_icmp .ne 18, [6], 0), (.iload 8, [], 0), (.aload_n 0, [], 0), (.getfield 119, [11, 49, 2, 146], 0), (.iload 7, [], 0), (.iaload, [], 0), (.if_icmp .le 22, [8], 0), (.goto 15, [7], 0)], 0),
  ([(.iload 8, [], 0), (.aload_n 0, [], 0), (.getfield 119, [11, 49, 2, 146], 0), (.iload 7, [], 0), (.iaload, [], 0), (.if_icmp .ne 7, [8], 0)], 7),
  ([(.iconst 1, [], 1), (.goto 4, [9], 0)], 0),
  ([(.iconst 0, [], 0)], 9),
  ([(.istore 6, [], 0), (.iinc 7 1, [], 1), (.goto (-113), [4], 0)], 0),
  ([(.iload 6, [], 0), (.ifCond .ne 6, [11], 0), (.goto 79, [16], 0)], 0),
  ([(.iconst 0, [], 0), (.istore 7, [], 0), (.iconst 4, [], 4), (.iload 5, [], 0), (.imul, [], 0), (.istore 8, [], 0)], 12),
  ([(.iload 8, [], 0), (.iconst 4, [], 4), (.iload 5, [], 0), (.imul, [], 0), (.aload_n 0, [], 0), (.getfield 106, [11, 45, 2, 142], 0), (.iload 5, [], 0), (.iaload, [], 0), (.iadd, [], 0), (.if_icmp .ge 50, [15], 0), (.iload 7, [], 0), (.aload_n 0, [], 0), (.getfield 125, [11, 51, 2, 148], 0), (.iload 8, [], 0), (.iaload, [], 0), (.aload_n 0, [], 0), (.getfield 122, [11, 50, 2, 147], 0), (.iload 8, [], 0), (.iaload, [], 0), (.iconst (-1), [], (-1)), (.if_icmp .ne 7, [13], 0), (.iconst 1, [], 1), (.goto 16, [14], 0)], 0),
  ([(.aload_n 0, [], 0), (.aload_n 0, [], 0), (.getfield 122, [11, 50, 2, 147], 0), (.iload 8, [], 0), (.iaload, [], 0), (.iload_n 1, [], 0), (.iload_n 2, [], 0), (.invokevirtual 303, [179, 4, 11, 0, 164], 0)], 14),
  ([(.imul, [], 0), (.iadd, [], 0), (.istore 7, [], 0), (.iinc 8 1, [], 1), (.goto (-61), [12], 0)], 0),
  ([(.iload 7, [], 0), (.ireturn, [0], 0)], 0),
  ([(.iinc 5 1, [], 1), (.goto (-250), [1], 0)], 0),
  ([(.iconst 0, [], 0), (.ireturn, [0], 0)], 0)]
/-- CourtProgressModel.eats(IIZ)I -/
def ai_c181 : List (List ai_Op × Nat) := [([(.aload_n 0, [], 0), (.iconst 0, [], 0), (.putfield 1, [11, 0, 0, 159], 0), (.aload_n 0, [], 0), (.iload_n 1, [], 0), (.invokevirtual 170, [150, 2, 11, 0, 143], 0), (.ifCond .eq 20, [1], 0), (.iload_n 2, [], 0), (.invokestatic 185, [152, 1, 999, 0, 147], 0), (.ifCond .eq 13, [1], 0), (.aload_n 0, [], 0), (.iload_n 1, [], 0), (.iload_n 2, [], 0), (.iload_n 3, [], 0), (.invokevirtual 307, [180, 4, 11, 0, 165], 0), (.goto 4, [2], 0)], 0),
  ([(.iconst (-1), [], (-1))], 2),
  ([(.ireturn, [0], 0)], 0)]
/-- CourtProgressModel.needOf(I)I -/
def ai_c182 : List (List ai_Op × Nat) := [([(.lconst 0, [], 0), (.lstore_n 2, [], 0), (.iconst 0, [], 0), (.istore 4, [], 0)], 1),
  ([(.iload 4, [], 0), (.aload_n 0, [], 0), (.getfield 153, [11, 4, 0, 157], 0), (.if_icmp .ge 49, [2], 0), (.lload_n 2, [], 0), (.aload_n 0, [], 0), (.getfield 26, [11, 11, 2, 117], 0), (.iload 4, [], 0), (.iaload, [], 0), (.i2l, [], 0), (.aload_n 0, [], 0), (.iload 4, [], 0), (.iload_n 1, [], 0), (.iconst 0, [], 0), (.invokevirtual 307, [180, 4, 11, 0, 165], 0), (.i2l, [], 0), (.lmul, [], 0), (.aload_n 0, [], 0), (.getfield 29, [11, 12, 2, 118], 0), (.iload 4, [], 0), (.iaload, [], 0), (.i2l, [], 0), (.aload_n 0, [], 0), (.iload 4, [], 0), (.iload_n 1, [], 0), (.iconst 1, [], 1), (.invokevirtual 307, [180, 4, 11, 0, 165], 0), (.i2l, [], 0), (.lmul, [], 0), (.ladd, [], 0), (.ladd, [], 0), (.lstore_n 2, [], 0), (.iinc 4 1, [], 1), (.goto (-52), [1], 0)], 0),
  ([(.lload_n 2, [], 0), (.ldc2_w 191, [], 1000000), (.invokestatic 311, [213, 2, 999, 0, 166], 0), (.l2i, [], 0), (.ireturn, [0], 0)], 0)]
/-- CourtProgressModel.need(I)I -/
def ai_c183 : List (List ai_Op × Nat) := [([(.aload_n 0, [], 0), (.iconst 0, [], 0), (.putfield 1, [11, 0, 0, 159], 0), (.iload_n 1, [], 0), (.invokestatic 185, [152, 1, 999, 0, 147], 0), (.ifCond .eq 11, [1], 0), (.aload_n 0, [], 0), (.iload_n 1, [], 0), (.invokevirtual 315, [182, 2, 11, 0, 167], 0), (.goto 4, [2], 0)], 0),
  ([(.iconst (-1), [], (-1))], 2),
  ([(.ireturn, [0], 0)], 0)]
/-- CourtProgressModel.mayHave(IIIZ)Z -/
def ai_c184 : List (List ai_Op × Nat) := [([(.iconst 1, [], 1), (.istore 5, [], 0), (.iconst 0, [], 0), (.istore 6, [], 0)], 1),
  ([(.iload 6, [], 0), (.iload_n 2, [], 0), (.if_icmp .ge 174, [11], 0), (.bipush 10, [], 10), (.iload_n 1, [], 0), (.imul, [], 0), (.aload_n 0, [], 0), (.getfield 128, [11, 53, 2, 149], 0), (.iload 6, [], 0), (.iaload, [], 0), (.iadd, [], 0), (.istore 7, [], 0), (.bipush 10, [], 10), (.iload_n 1, [], 0), (.imul, [], 0), (.iload_n 3, [], 0), (.iadd, [], 0), (.istore 8, [], 0), (.iload 5, [], 0), (.ifCond .eq 49, [3], 0), (.aload_n 0, [], 0), (.getfield 128, [11, 53, 2, 149], 0), (.iload 6, [], 0), (.iaload, [], 0), (.iload_n 3, [], 0), (.if_icmp .eq 38, [3], 0), (.aload_n 0, [], 0), (.getfield 32, [11, 13, 2, 119], 0), (.iload_n 2, [], 0), (.iaload, [], 0), (.iload 6, [], 0), (.ishr, [], 0), (.iconst 1, [], 1), (.iand, [], 0), (.ifCond .eq 20, [2], 0), (.aload_n 0, [], 0), (.getfield 56, [11, 21, 2, 127], 0), (.iload 7, [], 0), (.iaload, [], 0), (.aload_n 0, [], 0), (.getfield 56, [11, 21, 2, 127], 0), (.iload 8, [], 0), (.iaload, [], 0), (.if_icmp .eq 7, [3], 0)], 2),
  ([(.iconst 1, [], 1), (.goto 4, [4], 0)], 0),
  ([(.iconst 0, [], 0)], 4),
  ([(.istore 5, [], 0), (.iload 4, [], 0), (.ifCond .eq 87, [10], 0), (.aload_n 0, [], 0), (.getfield 22, [11, 10, 2, 116], 0), (.iload 6, [], 0), (.iaload, [], 0), (.aload_n 0, [], 0), (.getfield 22, [11, 10, 2, 116], 0), (.iload_n 2, [], 0), (.iaload, [], 0), (.if_icmp .ne 6, [5], 0), (.goto 68, [10], 0)], 0),
  ([(.iload 5, [], 0), (.ifCond .eq 60, [8], 0), (.aload_n 0, [], 0), (.getfield 22, [11, 10, 2, 116], 0), (.iload 6, [], 0), (.iaload, [], 0), (.aload_n 0, [], 0), (.getfield 22, [11, 10, 2, 116], 0), (.iload_n 2, [], 0), (.iaload, [], 0), (.if_icmp .le 23, [6], 0), (.aload_n 0, [], 0), (.getfield 53, [11, 20, 2, 126], 0), (.iload 8, [], 0), (.iaload, [], 0), (.aload_n 0, [], 0), (.getfield 53, [11, 20, 2, 126], 0), (.iload 7, [], 0), (.iaload, [], 0), (.if_icmp .gt 27, [8], 0), (.goto 20, [7], 0)], 0),
  ([(.aload_n 0, [], 0), (.getfield 53, [11, 20, 2, 126], 0), (.iload 7, [], 0), (.iaload, [], 0), (.aload_n 0, [], 0), (.getfield 53, [11, 20, 2, 126], 0), (.iload 8, [], 0), (.iaload, [], 0), (.if_icmp .gt 7, [8], 0)], 7),
  ([(.iconst 1, [], 1), (.goto 4, [9], 0)], 0),
  ([(.iconst 0, [], 0)], 9),
  ([(.istore 5, [], 0)], 10),
  ([(.iinc 6 1, [], 1), (.goto (-174), [1], 0)], 0),
  ([(.iload 5, [], 0), (.ireturn, [1], 0)], 0)]
/-- CourtProgressModel.lodges(IIIZZ)Z -/
def ai_c185 : List (List ai_Op × Nat) := [([(.iload_n 2, [], 0), (.aload_n 0, [], 0), (.getfield 153, [11, 4, 0, 157], 0), (.if_icmp .ne 42, [3], 0), (.aload_n 0, [], 0), (.iload_n 3, [], 0), (.putfield 318, [11, 52, 0, 173], 0), (.iconst 0, [], 0), (.istore 6, [], 0)], 1),
  ([(.iload 6, [], 0), (.aload_n 0, [], 0), (.getfield 153, [11, 4, 0, 157], 0), (.if_icmp .ge 23, [2], 0), (.aload_n 0, [], 0), (.getfield 131, [11, 54, 2, 150], 0), (.iload 6, [], 0), (.aload_n 0, [], 0), (.getfield 128, [11, 53, 2, 149], 0), (.iload 6, [], 0), (.iaload, [], 0), (.iastore, [], 0), (.iinc 6 1, [], 1), (.goto (-26), [1], 0)], 0),
  ([(.iconst 1, [], 1), (.ireturn, [1], 0)], 0),
  ([(.iconst 0, [], 0), (.istore 6, [], 0), (.iconst 0, [], 0), (.istore 7, [], 0)], 4),
  ([(.iload 7, [], 0), (.aload_n 0, [], 0), (.getfield 50, [11, 19, 2, 125], 0), (.iload_n 1, [], 0), (.iaload, [], 0), (.if_icmp .ge 118, [12], 0), (.iload 5, [], 0), (.ifCond .eq 8, [5], 0), (.iload 6, [], 0), (.ifCond .ne 108, [12], 0)], 5),
  ([(.iload_n 3, [], 0), (.aload_n 0, [], 0), (.getfield 26, [11, 11, 2, 117], 0), (.iload_n 2, [], 0), (.iaload, [], 0), (.aload_n 0, [], 0), (.getfield 59, [11, 22, 2, 128], 0), (.bipush 10, [], 10), (.iload_n 1, [], 0), (.imul, [], 0), (.iload 7, [], 0), (.iadd, [], 0), (.iaload, [], 0), (.imul, [], 0), (.iadd, [], 0), (.istore 8, [], 0), (.iload 5, [], 0), (.ifCond .ne 21, [6], 0), (.iload 8, [], 0), (.aload_n 0, [], 0), (.getfield 137, [11, 56, 2, 152], 0), (.iload_n 2, [], 0), (.iconst 1, [], 1), (.iadd, [], 0), (.iaload, [], 0), (.iadd, [], 0), (.aload_n 0, [], 0), (.getfield 318, [11, 52, 0, 173], 0), (.if_icmp .ge 56, [11], 0)], 6),
  ([(.aload_n 0, [], 0), (.iload_n 1, [], 0), (.iload_n 2, [], 0), (.iload 7, [], 0), (.iload 4, [], 0), (.invokevirtual 321, [184, 5, 11, 0, 168], 0), (.ifCond .ne 6, [7], 0), (.goto 40, [11], 0)], 0),
  ([(.aload_n 0, [], 0), (.getfield 128, [11, 53, 2, 149], 0), (.iload_n 2, [], 0), (.iload 7, [], 0), (.iastore, [], 0), (.aload_n 0, [], 0), (.iload_n 1, [], 0), (.iload_n 2, [], 0), (.iconst 1, [], 1), (.iadd, [], 0), (.iload 8, [], 0), (.iload 4, [], 0), (.iload 5, [], 0), (.invokevirtual 325, [185, 6, 11, 0, 169], 0), (.ifCond .ne 8, [8], 0), (.iload 6, [], 0), (.ifCond .eq 7, [9], 0)], 8),
  ([(.iconst 1, [], 1), (.goto 4, [10], 0)], 0),
  ([(.iconst 0, [], 0)], 10),
  ([(.istore 6, [], 0)], 11),
  ([(.iinc 7 1, [], 1), (.goto (-123), [4], 0)], 0),
  ([(.iload 6, [], 0), (.ireturn, [1], 0)], 0)]
/-- CourtProgressModel.spares(I)V -/
def ai_c186 : List (List ai_Op × Nat) := [([(.bipush 99, [], 99), (.istore_n 2, [], 0), (.iconst 0, [], 0), (.istore_n 3, [], 0)], 1),
  ([(.iload_n 3, [], 0), (.aload_n 0, [], 0), (.getfield 50, [11, 19, 2, 125], 0), (.iload_n 1, [], 0), (.iaload, [], 0), (.if_icmp .ge 25, [2], 0), (.iload_n 2, [], 0), (.aload_n 0, [], 0), (.getfield 59, [11, 22, 2, 128], 0), (.bipush 10, [], 10), (.iload_n 1, [], 0), (.imul, [], 0), (.iload_n 3, [], 0), (.iadd, [], 0), (.iaload, [], 0), (.invokestatic 329, [212, 2, 999, 0, 170], 0), (.istore_n 2, [], 0), (.iinc 3 1, [], 1), (.goto (-29), [1], 0)], 0),
  ([(.aload_n 0, [], 0), (.getfield 137, [11, 56, 2, 152], 0), (.aload_n 0, [], 0), (.getfield 153, [11, 4, 0, 157], 0), (.iconst 0, [], 0), (.iastore, [], 0), (.aload_n 0, [], 0), (.getfield 153, [11, 4, 0, 157], 0), (.iconst 1, [], 1), (.isub, [], 0), (.istore_n 3, [], 0)], 3),
  ([(.iload_n 3, [], 0), (.ifCond .lt 32, [4], 0), (.aload_n 0, [], 0), (.getfield 137, [11, 56, 2, 152], 0), (.iload_n 3, [], 0), (.aload_n 0, [], 0), (.getfield 137, [11, 56, 2, 152], 0), (.iload_n 3, [], 0), (.iconst 1, [], 1), (.iadd, [], 0), (.iaload, [], 0), (.aload_n 0, [], 0), (.getfield 26, [11, 11, 2, 117], 0), (.iload_n 3, [], 0), (.iaload, [], 0), (.iload_n 2, [], 0), (.imul, [], 0), (.iadd, [], 0), (.iastore, [], 0), (.iinc 3 (-1), [], (-1)), (.goto (-30), [3], 0)], 0),
  ([(.return_, [], 0)], 0)]
/-- CourtProgressModel.whyOf(I)I -/
def ai_c187 : List (List ai_Op × Nat) := [([(.iconst 0, [], 0), (.istore_n 2, [], 0), (.iconst 0, [], 0), (.istore_n 3, [], 0)], 1),
  ([(.iload_n 3, [], 0), (.aload_n 0, [], 0), (.getfield 153, [11, 4, 0, 157], 0), (.if_icmp .ge 18, [2], 0), (.iload_n 2, [], 0), (.aload_n 0, [], 0), (.getfield 29, [11, 12, 2, 118], 0), (.iload_n 3, [], 0), (.iaload, [], 0), (.iadd, [], 0), (.istore_n 2, [], 0), (.iinc 3 1, [], 1), (.goto (-20), [1], 0)], 0),
  ([(.aload_n 0, [], 0), (.getfield 50, [11, 19, 2, 125], 0), (.iload_n 1, [], 0), (.iaload, [], 0), (.aload_n 0, [], 0), (.getfield 153, [11, 4, 0, 157], 0), (.if_icmp .ge 5, [3], 0), (.iconst 1, [], 1), (.ireturn, [0], 0)], 0),
  ([(.iload_n 2, [], 0), (.aload_n 0, [], 0), (.getfield 41, [11, 16, 2, 122], 0), (.iload_n 1, [], 0), (.iaload, [], 0), (.if_icmp .le 5, [4], 0), (.iconst 2, [], 2), (.ireturn, [0], 0)], 0),
  ([(.aload_n 0, [], 0), (.iload_n 1, [], 0), (.iconst 0, [], 0), (.iconst 0, [], 0), (.iconst 1, [], 1), (.iconst 1, [], 1), (.invokevirtual 325, [185, 6, 11, 0, 169], 0), (.ifCond .eq 5, [5], 0), (.iconst 0, [], 0), (.ireturn, [0], 0)], 0),
  ([(.aload_n 0, [], 0), (.iload_n 1, [], 0), (.iconst 0, [], 0), (.iconst 0, [], 0), (.iconst 0, [], 0), (.iconst 1, [], 1), (.invokevirtual 325, [185, 6, 11, 0, 169], 0), (.ifCond .eq 7, [6], 0), (.iconst 4, [], 4), (.goto 4, [7], 0)], 0),
  ([(.iconst 3, [], 3)], 7),
  ([(.ireturn, [0], 0)], 0)]
/-- CourtProgressModel.lodge(I)I -/
def ai_c188 : List (List ai_Op × Nat) := [([(.aload_n 0, [], 0), (.iconst 0, [], 0), (.putfield 1, [11, 0, 0, 159], 0), (.aload_n 0, [], 0), (.iload_n 1, [], 0), (.invokevirtual 182, [151, 2, 11, 0, 146], 0), (.ifCond .ne 9, [1], 0), (.aload_n 0, [], 0), (.iconst 1, [], 1), (.invokevirtual 163, [144, 2, 11, 0, 141], 0), (.ireturn, [0], 0)], 0),
  ([(.aload_n 0, [], 0), (.iload_n 1, [], 0), (.invokevirtual 331, [187, 2, 11, 0, 171], 0), (.ifCond .le 10, [2], 0), (.aload_n 0, [], 0), (.bipush 6, [], 6), (.invokevirtual 163, [144, 2, 11, 0, 141], 0), (.ireturn, [0], 0)], 0),
  ([(.aload_n 0, [], 0), (.iload_n 1, [], 0), (.invokevirtual 334, [186, 2, 11, 0, 172], 0), (.aload_n 0, [], 0), (.ldc_w 337, [], 1000000000), (.putfield 318, [11, 52, 0, 173], 0), (.aload_n 0, [], 0), (.iload_n 1, [], 0), (.iconst 0, [], 0), (.iconst 0, [], 0), (.iconst 1, [], 1), (.iconst 0, [], 0), (.invokevirtual 325, [185, 6, 11, 0, 169], 0), (.istore_n 2, [], 0), (.iconst 0, [], 0), (.istore_n 3, [], 0)], 3),
  ([(.iload_n 3, [], 0), (.aload_n 0, [], 0), (.getfield 153, [11, 4, 0, 157], 0), (.if_icmp .ge 21, [4], 0), (.aload_n 0, [], 0), (.getfield 134, [11, 55, 2, 151], 0), (.iload_n 3, [], 0), (.aload_n 0, [], 0), (.getfield 131, [11, 54, 2, 150], 0), (.iload_n 3, [], 0), (.iaload, [], 0), (.iastore, [], 0), (.iinc 3 1, [], 1), (.goto (-23), [3], 0)], 0),
  ([(.aload_n 0, [], 0), (.aload_n 0, [], 0), (.getfield 153, [11, 4, 0, 157], 0), (.putfield 338, [11, 57, 0, 174], 0), (.aload_n 0, [], 0), (.aload_n 0, [], 0), (.getfield 318, [11, 52, 0, 173], 0), (.invokevirtual 167, [146, 2, 11, 0, 142], 0), (.ireturn, [0], 0)], 0)]
/-- CourtProgressModel.lodged(I)I -/
def ai_c189 : List (List ai_Op × Nat) := [([(.aload_n 0, [], 0), (.iconst 0, [], 0), (.putfield 1, [11, 0, 0, 159], 0), (.iload_n 1, [], 0), (.ifCond .lt 20, [1], 0), (.iload_n 1, [], 0), (.aload_n 0, [], 0), (.getfield 338, [11, 57, 0, 174], 0), (.if_icmp .ge 12, [1], 0), (.aload_n 0, [], 0), (.getfield 134, [11, 55, 2, 151], 0), (.iload_n 1, [], 0), (.iaload, [], 0), (.goto 4, [2], 0)], 0),
  ([(.iconst (-1), [], (-1))], 2),
  ([(.ireturn, [0], 0)], 0)]
/-- CourtProgressModel.why(I)I -/
def ai_c190 : List (List ai_Op × Nat) := [([(.aload_n 0, [], 0), (.iconst 0, [], 0), (.putfield 1, [11, 0, 0, 159], 0), (.aload_n 0, [], 0), (.iload_n 1, [], 0), (.invokevirtual 182, [151, 2, 11, 0, 146], 0), (.ifCond .eq 15, [1], 0), (.aload_n 0, [], 0), (.aload_n 0, [], 0), (.iload_n 1, [], 0), (.invokevirtual 331, [187, 2, 11, 0, 171], 0), (.invokevirtual 167, [146, 2, 11, 0, 142], 0), (.goto 8, [2], 0)], 0),
  ([(.aload_n 0, [], 0), (.iconst 1, [], 1), (.invokevirtual 163, [144, 2, 11, 0, 141], 0)], 2),
  ([(.ireturn, [0], 0)], 0)]
/-- CourtProgressModel.hoursOf(III)I -/
def ai_c191 : List (List ai_Op × Nat) := [([(.aload_n 0, [], 0), (.getfield 62, [11, 23, 2, 129], 0), (.bipush 9, [], 9), (.iload_n 1, [], 0), (.imul, [], 0), (.iload_n 2, [], 0), (.iadd, [], 0), (.iaload, [], 0), (.iconst 4, [], 4), (.aload_n 0, [], 0), (.getfield 65, [11, 24, 2, 130], 0), (.iload_n 3, [], 0), (.iaload, [], 0), (.iadd, [], 0), (.imul, [], 0), (.iconst 4, [], 4), (.idiv, [], 0), (.istore 4, [], 0), (.iload 4, [], 0), (.ifCond .eq 10, [1], 0), (.iload 4, [], 0), (.bipush 16, [], 16), (.if_icmp .le 7, [2], 0)], 1),
  ([(.iconst (-1), [], (-1)), (.goto 5, [3], 0)], 0),
  ([(.iload 4, [], 0)], 3),
  ([(.ireturn, [0], 0)], 0)]
/-- CourtProgressModel.mayBe(II)Z -/
def ai_c192 : List (List ai_Op × Nat) := [([(.aload_n 0, [], 0), (.getfield 68, [11, 25, 2, 131], 0), (.iload_n 2, [], 0), (.iaload, [], 0), (.iconst (-1), [], (-1)), (.if_icmp .eq 13, [1], 0), (.aload_n 0, [], 0), (.getfield 68, [11, 25, 2, 131], 0), (.iload_n 2, [], 0), (.iaload, [], 0), (.iload_n 1, [], 0), (.if_icmp .ne 7, [2], 0)], 1),
  ([(.iconst 1, [], 1), (.goto 4, [3], 0)], 0),
  ([(.iconst 0, [], 0)], 3),
  ([(.ireturn, [1], 0)], 0)]
/-- CourtProgressModel.goesOn(IIIII)I -/
def ai_c193 : List (List ai_Op × Nat) := [([(.iload_n 1, [], 0), (.iload 5, [], 0), (.iconst 1, [], 1), (.isub, [], 0), (.if_icmp .ne 5, [1], 0), (.iconst 0, [], 0), (.ireturn, [0], 0)], 0),
  ([(.ldc_w 337, [], 1000000000), (.istore 6, [], 0), (.iload 4, [], 0), (.aload_n 0, [], 0), (.getfield 144, [11, 59, 2, 154], 0), (.iload_n 1, [], 0), (.iconst 1, [], 1), (.iadd, [], 0), (.iaload, [], 0), (.iadd, [], 0), (.istore 7, [], 0), (.aload_n 0, [], 0), (.iload_n 2, [], 0), (.aload_n 0, [], 0), (.getfield 341, [11, 8, 0, 175], 0), (.iload_n 1, [], 0), (.iadd, [], 0), (.iconst 1, [], 1), (.iadd, [], 0), (.invokevirtual 344, [192, 3, 11, 0, 173], 0), (.ifCond .eq 40, [2], 0), (.iload 7, [], 0), (.aload_n 0, [], 0), (.getfield 35, [11, 14, 2, 120], 0), (.iload_n 2, [], 0), (.iaload, [], 0), (.if_icmp .gt 29, [2], 0), (.iload 7, [], 0), (.aload_n 0, [], 0), (.getfield 38, [11, 15, 2, 121], 0), (.iload_n 2, [], 0), (.iaload, [], 0), (.if_icmp .gt 18, [2], 0), (.aload_n 0, [], 0), (.iload_n 1, [], 0), (.iconst 1, [], 1), (.iadd, [], 0), (.iload_n 2, [], 0), (.iload_n 3, [], 0), (.iload 7, [], 0), (.iload 5, [], 0), (.invokevirtual 348, [193, 6, 11, 0, 174], 0), (.istore 6, [], 0)], 2),
  ([(.iconst 0, [], 0), (.istore 8, [], 0)], 3),
  ([(.iload 8, [], 0), (.aload_n 0, [], 0), (.getfield 156, [11, 5, 0, 158], 0), (.if_icmp .ge 25, [4], 0), (.iload 6, [], 0), (.aload_n 0, [], 0), (.iload_n 1, [], 0), (.iload_n 2, [], 0), (.iload 8, [], 0), (.iload_n 3, [], 0), (.invokevirtual 352, [194, 5, 11, 0, 175], 0), (.invokestatic 329, [212, 2, 999, 0, 170], 0), (.istore 6, [], 0), (.iinc 8 1, [], 1), (.goto (-28), [3], 0)], 0),
  ([(.iload 6, [], 0), (.ireturn, [0], 0)], 0)]
/-- CourtProgressModel.leaves(IIII)I -/
def ai_c194 : List (List ai_Op × Nat) := [([(.iload 4, [], 0), (.iload_n 3, [], 0), (.ishr, [], 0), (.iconst 1, [], 1), (.iand, [], 0), (.iconst 1, [], 1), (.if_icmp .ne 7, [1], 0), (.iconst (-1), [], (-1)), (.goto 15, [2], 0)], 0),
  ([(.aload_n 0, [], 0), (.iload_n 2, [], 0), (.iload_n 3, [], 0), (.aload_n 0, [], 0), (.getfield 341, [11, 8, 0, 175], 0), (.iload_n 1, [], 0), (.iadd, [], 0), (.invokevirtual 356, [191, 4, 11, 0, 176], 0)], 2),
  ([(.istore 5, [], 0), (.iload 5, [], 0), (.iconst (-1), [], (-1)), (.if_icmp .ne 7, [3], 0), (.ldc_w 337, [], 1000000000), (.ireturn, [0], 0)], 0),
  ([(.aload_n 0, [], 0), (.getfield 141, [11, 58, 2, 153], 0), (.bipush 9, [], 9), (.iload_n 1, [], 0), (.iconst 1, [], 1), (.iadd, [], 0), (.imul, [], 0), (.iload_n 3, [], 0), (.iadd, [], 0), (.sipush 512, [], 512), (.imul, [], 0), (.iload 4, [], 0), (.iconst 1, [], 1), (.iload_n 3, [], 0), (.ishl, [], 0), (.ior, [], 0), (.iadd, [], 0), (.iaload, [], 0), (.istore 6, [], 0), (.iload 6, [], 0), (.ldc_w 337, [], 1000000000), (.if_icmp .ne 9, [4], 0), (.ldc_w 337, [], 1000000000), (.goto 8, [5], 0)], 0),
  ([(.iload 5, [], 0), (.iload 6, [], 0), (.iadd, [], 0)], 5),
  ([(.ireturn, [0], 0)], 0)]
/-- CourtProgressModel.rows(III)V -/
def ai_c195 : List (List ai_Op × Nat) := [([(.iconst 0, [], 0), (.istore 4, [], 0)], 1),
  ([(.iload 4, [], 0), (.iload_n 3, [], 0), (.if_icmp .ge 84, [6], 0), (.aload_n 0, [], 0), (.getfield 150, [11, 63, 2, 156], 0), (.iload 4, [], 0), (.iload 4, [], 0), (.iload_n 3, [], 0), (.iconst 1, [], 1), (.isub, [], 0), (.if_icmp .ne 7, [2], 0), (.iconst 0, [], 0), (.goto 6, [3], 0)], 0),
  ([(.ldc_w 337, [], 1000000000)], 3),
  ([(.iastore, [], 0), (.iconst 0, [], 0), (.istore 5, [], 0)], 4),
  ([(.iload 5, [], 0), (.aload_n 0, [], 0), (.getfield 156, [11, 5, 0, 158], 0), (.if_icmp .ge 44, [5], 0), (.iload 4, [], 0), (.iload_n 3, [], 0), (.iconst 1, [], 1), (.isub, [], 0), (.if_icmp .ge 36, [5], 0), (.aload_n 0, [], 0), (.getfield 150, [11, 63, 2, 156], 0), (.iload 4, [], 0), (.aload_n 0, [], 0), (.getfield 150, [11, 63, 2, 156], 0), (.iload 4, [], 0), (.iaload, [], 0), (.aload_n 0, [], 0), (.iload 4, [], 0), (.iload_n 1, [], 0), (.iload 5, [], 0), (.iload_n 2, [], 0), (.invokevirtual 352, [194, 5, 11, 0, 175], 0), (.invokestatic 329, [212, 2, 999, 0, 170], 0), (.iastore, [], 0), (.iinc 5 1, [], 1), (.goto (-47), [4], 0)], 0),
  ([(.iinc 4 1, [], 1), (.goto (-84), [1], 0)], 0),
  ([(.iconst 0, [], 0), (.istore 4, [], 0)], 7),
  ([(.iload 4, [], 0), (.iload_n 3, [], 0), (.if_icmp .ge 119, [11], 0), (.ldc_w 337, [], 1000000000), (.istore 5, [], 0), (.iconst 0, [], 0), (.istore 6, [], 0), (.iload 4, [], 0), (.istore 7, [], 0)], 8),
  ([(.iload 7, [], 0), (.iload_n 3, [], 0), (.if_icmp .ge 75, [10], 0), (.aload_n 0, [], 0), (.iload_n 1, [], 0), (.aload_n 0, [], 0), (.getfield 341, [11, 8, 0, 175], 0), (.iload 7, [], 0), (.iadd, [], 0), (.invokevirtual 344, [192, 3, 11, 0, 173], 0), (.ifCond .eq 60, [10], 0), (.iload 6, [], 0), (.aload_n 0, [], 0), (.getfield 144, [11, 59, 2, 154], 0), (.iload 7, [], 0), (.iaload, [], 0), (.iadd, [], 0), (.istore 6, [], 0), (.iload 6, [], 0), (.aload_n 0, [], 0), (.getfield 35, [11, 14, 2, 120], 0), (.iload_n 1, [], 0), (.iaload, [], 0), (.if_icmp .gt 37, [10], 0), (.iload 6, [], 0), (.aload_n 0, [], 0), (.getfield 38, [11, 15, 2, 121], 0), (.iload_n 1, [], 0), (.iaload, [], 0), (.if_icmp .le 6, [9], 0), (.goto 23, [10], 0)], 0),
  ([(.iload 5, [], 0), (.aload_n 0, [], 0), (.getfield 150, [11, 63, 2, 156], 0), (.iload 7, [], 0), (.iaload, [], 0), (.invokestatic 329, [212, 2, 999, 0, 170], 0), (.istore 5, [], 0), (.iinc 7 1, [], 1), (.goto (-75), [8], 0)], 0),
  ([(.aload_n 0, [], 0), (.getfield 141, [11, 58, 2, 153], 0), (.bipush 9, [], 9), (.iload 4, [], 0), (.imul, [], 0), (.iload_n 1, [], 0), (.iadd, [], 0), (.sipush 512, [], 512), (.imul, [], 0), (.iload_n 2, [], 0), (.iadd, [], 0), (.iload 5, [], 0), (.iastore, [], 0), (.iinc 4 1, [], 1), (.goto (-119), [7], 0)], 0),
  ([(.return_, [], 0)], 0)]
/-- CourtProgressModel.route(I)I -/
def ai_c196 : List (List ai_Op × Nat) := [([(.aload_n 0, [], 0), (.iconst 0, [], 0), (.putfield 1, [11, 0, 0, 159], 0), (.iload_n 1, [], 0), (.aload_n 0, [], 0), (.getfield 341, [11, 8, 0, 175], 0), (.aload_n 0, [], 0), (.getfield 341, [11, 8, 0, 175], 0), (.bipush 20, [], 20), (.iadd, [], 0), (.sipush 199, [], 199), (.invokestatic 329, [212, 2, 999, 0, 170], 0), (.invokestatic 159, [148, 3, 999, 0, 140], 0), (.ifCond .ne 9, [1], 0), (.aload_n 0, [], 0), (.iconst 2, [], 2), (.invokevirtual 163, [144, 2, 11, 0, 141], 0), (.ireturn, [0], 0)], 0),
  ([(.aload_n 0, [], 0), (.getfield 19, [11, 9, 0, 115], 0), (.iconst (-1), [], (-1)), (.if_icmp .ne 10, [2], 0), (.aload_n 0, [], 0), (.bipush 6, [], 6), (.invokevirtual 163, [144, 2, 11, 0, 141], 0), (.ireturn, [0], 0)], 0),
  ([(.iload_n 1, [], 0), (.aload_n 0, [], 0), (.getfield 341, [11, 8, 0, 175], 0), (.isub, [], 0), (.iconst 1, [], 1), (.iadd, [], 0), (.istore_n 2, [], 0), (.iconst 0, [], 0), (.istore_n 3, [], 0)], 3),
  ([(.iload_n 3, [], 0), (.iload_n 2, [], 0), (.if_icmp .ge 25, [4], 0), (.aload_n 0, [], 0), (.getfield 144, [11, 59, 2, 154], 0), (.iload_n 3, [], 0), (.aload_n 0, [], 0), (.aload_n 0, [], 0), (.getfield 341, [11, 8, 0, 175], 0), (.iload_n 3, [], 0), (.iadd, [], 0), (.invokevirtual 315, [182, 2, 11, 0, 167], 0), (.iastore, [], 0), (.iinc 3 1, [], 1), (.goto (-24), [3], 0)], 0),
  ([(.iconst 1, [], 1), (.aload_n 0, [], 0), (.getfield 156, [11, 5, 0, 158], 0), (.ishl, [], 0), (.iconst 1, [], 1), (.isub, [], 0), (.istore_n 3, [], 0)], 5),
  ([(.iload_n 3, [], 0), (.ifCond .le 45, [9], 0), (.iconst 0, [], 0), (.istore 4, [], 0)], 6),
  ([(.iload 4, [], 0), (.aload_n 0, [], 0), (.getfield 156, [11, 5, 0, 158], 0), (.if_icmp .ge 27, [8], 0), (.iload_n 3, [], 0), (.iload 4, [], 0), (.ishr, [], 0), (.iconst 1, [], 1), (.iand, [], 0), (.iconst 1, [], 1), (.if_icmp .ne 11, [7], 0), (.aload_n 0, [], 0), (.iload 4, [], 0), (.iload_n 3, [], 0), (.iload_n 2, [], 0), (.invokevirtual 359, [195, 4, 11, 0, 177], 0)], 7),
  ([(.iinc 4 1, [], 1), (.goto (-30), [6], 0)], 0),
  ([(.iinc 3 (-1), [], (-1)), (.goto (-43), [5], 0)], 0),
  ([(.aload_n 0, [], 0), (.getfield 141, [11, 58, 2, 153], 0), (.aload_n 0, [], 0), (.getfield 19, [11, 9, 0, 115], 0), (.sipush 512, [], 512), (.imul, [], 0), (.iconst 1, [], 1), (.aload_n 0, [], 0), (.getfield 19, [11, 9, 0, 115], 0), (.ishl, [], 0), (.iadd, [], 0), (.iaload, [], 0), (.istore_n 3, [], 0), (.iload_n 3, [], 0), (.ldc_w 337, [], 1000000000), (.if_icmp .ne 10, [10], 0), (.aload_n 0, [], 0), (.bipush 6, [], 6), (.invokevirtual 163, [144, 2, 11, 0, 141], 0), (.ireturn, [0], 0)], 0),
  ([(.aload_n 0, [], 0), (.getfield 19, [11, 9, 0, 115], 0), (.istore 4, [], 0), (.iconst 1, [], 1), (.aload_n 0, [], 0), (.getfield 19, [11, 9, 0, 115], 0), (.ishl, [], 0), (.istore 5, [], 0), (.aload_n 0, [], 0), (.getfield 144, [11, 59, 2, 154], 0), (.iconst 0, [], 0), (.iaload, [], 0), (.istore 6, [], 0), (.iload_n 3, [], 0), (.istore 7, [], 0), (.aload_n 0, [], 0), (.aload_n 0, [], 0), (.getfield 341, [11, 8, 0, 175], 0), (.putfield 363, [11, 61, 0, 176], 0), (.aload_n 0, [], 0), (.iload_n 2, [], 0), (.putfield 366, [11, 62, 0, 177], 0), (.aload_n 0, [], 0), (.getfield 147, [11, 60, 2, 155], 0), (.iconst 0, [], 0), (.iload 4, [], 0), (.iastore, [], 0), (.iconst 0, [], 0), (.istore 8, [], 0)], 11),
  ([(.iload 8, [], 0), (.iconst 1, [], 1), (.iadd, [], 0), (.iload_n 2, [], 0), (.if_icmp .ge 211, [20], 0), (.iload 6, [], 0), (.aload_n 0, [], 0), (.getfield 144, [11, 59, 2, 154], 0), (.iload 8, [], 0), (.iconst 1, [], 1), (.iadd, [], 0), (.iaload, [], 0), (.iadd, [], 0), (.istore 9, [], 0), (.aload_n 0, [], 0), (.iload 4, [], 0), (.aload_n 0, [], 0), (.getfield 341, [11, 8, 0, 175], 0), (.iload 8, [], 0), (.iadd, [], 0), (.iconst 1, [], 1), (.iadd, [], 0), (.invokevirtual 344, [192, 3, 11, 0, 173], 0), (.ifCond .eq 51, [12], 0), (.iload 9, [], 0), (.aload_n 0, [], 0), (.getfield 35, [11, 14, 2, 120], 0), (.iload 4, [], 0), (.iaload, [], 0), (.if_icmp .gt 39, [12], 0), (.iload 9, [], 0), (.aload_n 0, [], 0), (.getfield 38, [11, 15, 2, 121], 0), (.iload 4, [], 0), (.iaload, [], 0), (.if_icmp .gt 27, [12], 0), (.aload_n 0, [], 0), (.iload 8, [], 0), (.iconst 1, [], 1), (.iadd, [], 0), (.iload 4, [], 0), (.iload 5, [], 0), (.iload 9, [], 0), (.iload_n 2, [], 0), (.invokevirtual 348, [193, 6, 11, 0, 174], 0), (.iload 7, [], 0), (.if_icmp .ne 7, [12], 0), (.iconst 1, [], 1), (.goto 4, [13], 0)], 0),
  ([(.iconst 0, [], 0)], 13),
  ([(.istore 10, [], 0), (.iconst 0, [], 0), (.istore 11, [], 0)], 14),
  ([(.iload 11, [], 0), (.aload_n 0, [], 0), (.getfield 156, [11, 5, 0, 158], 0), (.if_icmp .ge 41, [17], 0), (.iload 11, [], 0), (.iload 4, [], 0), (.if_icmp .ne 11, [15], 0), (.iload 10, [], 0), (.ifCond .eq 23, [16], 0), (.goto 26, [17], 0)], 0),
  ([(.aload_n 0, [], 0), (.iload 8, [], 0), (.iload 4, [], 0), (.iload 11, [], 0), (.iload 5, [], 0), (.invokevirtual 352, [194, 5, 11, 0, 175], 0), (.iload 7, [], 0), (.if_icmp .eq 9, [17], 0)], 16),
  ([(.iinc 11 1, [], 1), (.goto (-44), [14], 0)], 0),
  ([(.iload 11, [], 0), (.iload 4, [], 0), (.if_icmp .ne 10, [18], 0), (.iload 9, [], 0), (.istore 6, [], 0), (.goto 47, [19], 0)], 0),
  ([(.iload 7, [], 0), (.aload_n 0, [], 0), (.iload 4, [], 0), (.iload 11, [], 0), (.aload_n 0, [], 0), (.getfield 341, [11, 8, 0, 175], 0), (.iload 8, [], 0), (.iadd, [], 0), (.invokevirtual 356, [191, 4, 11, 0, 176], 0), (.isub, [], 0), (.istore 7, [], 0), (.iload 5, [], 0), (.iconst 1, [], 1), (.iload 11, [], 0), (.ishl, [], 0), (.ior, [], 0), (.istore 5, [], 0), (.iload 11, [], 0), (.istore 4, [], 0), (.aload_n 0, [], 0), (.getfield 144, [11, 59, 2, 154], 0), (.iload 8, [], 0), (.iconst 1, [], 1), (.iadd, [], 0), (.iaload, [], 0), (.istore 6, [], 0)], 19),
  ([(.aload_n 0, [], 0), (.getfield 147, [11, 60, 2, 155], 0), (.iload 8, [], 0), (.iconst 1, [], 1), (.iadd, [], 0), (.iload 4, [], 0), (.iastore, [], 0), (.iinc 8 1, [], 1), (.goto (-213), [11], 0)], 0),
  ([(.aload_n 0, [], 0), (.iload_n 3, [], 0), (.invokevirtual 167, [146, 2, 11, 0, 142], 0), (.ireturn, [0], 0)], 0)]
/-- CourtProgressModel.at(I)I -/
def ai_c197 : List (List ai_Op × Nat) := [([(.aload_n 0, [], 0), (.iconst 0, [], 0), (.putfield 1, [11, 0, 0, 159], 0), (.iload_n 1, [], 0), (.aload_n 0, [], 0), (.getfield 363, [11, 61, 0, 176], 0), (.if_icmp .lt 30, [1], 0), (.iload_n 1, [], 0), (.aload_n 0, [], 0), (.getfield 363, [11, 61, 0, 176], 0), (.aload_n 0, [], 0), (.getfield 366, [11, 62, 0, 177], 0), (.iadd, [], 0), (.if_icmp .ge 17, [1], 0), (.aload_n 0, [], 0), (.getfield 147, [11, 60, 2, 155], 0), (.iload_n 1, [], 0), (.aload_n 0, [], 0), (.getfield 363, [11, 61, 0, 176], 0), (.isub, [], 0), (.iaload, [], 0), (.goto 4, [2], 0)], 0),
  ([(.iconst (-1), [], (-1))], 2),
  ([(.ireturn, [0], 0)], 0)]
/-- CourtProgressModel.lasts()I -/
def ai_c198 : List (List ai_Op × Nat) := [([(.aload_n 0, [], 0), (.iconst 0, [], 0), (.putfield 1, [11, 0, 0, 159], 0), (.aload_n 0, [], 0), (.getfield 19, [11, 9, 0, 115], 0), (.iconst (-1), [], (-1)), (.if_icmp .ne 10, [1], 0), (.aload_n 0, [], 0), (.bipush 6, [], 6), (.invokevirtual 163, [144, 2, 11, 0, 141], 0), (.ireturn, [0], 0)], 0),
  ([(.iconst 0, [], 0), (.istore_n 1, [], 0), (.lconst 0, [], 0), (.lstore_n 2, [], 0), (.aload_n 0, [], 0), (.getfield 341, [11, 8, 0, 175], 0), (.istore 4, [], 0)], 2),
  ([(.iload 4, [], 0), (.sipush 200, [], 200), (.if_icmp .ge 58, [5], 0), (.lload_n 2, [], 0), (.aload_n 0, [], 0), (.iload 4, [], 0), (.invokevirtual 315, [182, 2, 11, 0, 167], 0), (.i2l, [], 0), (.ladd, [], 0), (.lstore_n 2, [], 0), (.lload_n 2, [], 0), (.aload_n 0, [], 0), (.getfield 35, [11, 14, 2, 120], 0), (.aload_n 0, [], 0), (.getfield 19, [11, 9, 0, 115], 0), (.iaload, [], 0), (.i2l, [], 0), (.lcmp, [], 0), (.ifCond .gt 18, [3], 0), (.lload_n 2, [], 0), (.aload_n 0, [], 0), (.getfield 38, [11, 15, 2, 121], 0), (.aload_n 0, [], 0), (.getfield 19, [11, 9, 0, 115], 0), (.iaload, [], 0), (.i2l, [], 0), (.lcmp, [], 0), (.ifCond .le 9, [4], 0)], 3),
  ([(.aload_n 0, [], 0), (.iload_n 1, [], 0), (.invokevirtual 167, [146, 2, 11, 0, 142], 0), (.ireturn, [0], 0)], 0),
  ([(.iinc 1 1, [], 1), (.iinc 4 1, [], 1), (.goto (-60), [2], 0)], 0),
  ([(.aload_n 0, [], 0), (.iload_n 1, [], 0), (.invokevirtual 167, [146, 2, 11, 0, 142], 0), (.ireturn, [0], 0)], 0)]
/-- CourtProgressModel.step(I)I -/
def ai_c199 : List (List ai_Op × Nat) := [([(.aload_n 0, [], 0), (.iconst 0, [], 0), (.putfield 1, [11, 0, 0, 159], 0), (.aload_n 0, [], 0), (.iload_n 1, [], 0), (.invokevirtual 182, [151, 2, 11, 0, 146], 0), (.ifCond .ne 9, [1], 0), (.aload_n 0, [], 0), (.iconst 1, [], 1), (.invokevirtual 163, [144, 2, 11, 0, 141], 0), (.ireturn, [0], 0)], 0),
  ([(.iload_n 1, [], 0), (.aload_n 0, [], 0), (.getfield 19, [11, 9, 0, 115], 0), (.if_icmp .eq 26, [2], 0), (.aload_n 0, [], 0), (.aload_n 0, [], 0), (.getfield 19, [11, 9, 0, 115], 0), (.iload_n 1, [], 0), (.aload_n 0, [], 0), (.getfield 341, [11, 8, 0, 175], 0), (.invokevirtual 356, [191, 4, 11, 0, 176], 0), (.iconst (-1), [], (-1)), (.if_icmp .ne 9, [2], 0), (.aload_n 0, [], 0), (.iconst 5, [], 5), (.invokevirtual 163, [144, 2, 11, 0, 141], 0), (.ireturn, [0], 0)], 0),
  ([(.aload_n 0, [], 0), (.getfield 341, [11, 8, 0, 175], 0), (.sipush 199, [], 199), (.if_icmp .ne 9, [3], 0), (.aload_n 0, [], 0), (.iconst 2, [], 2), (.invokevirtual 163, [144, 2, 11, 0, 141], 0), (.ireturn, [0], 0)], 0),
  ([(.aload_n 0, [], 0), (.aload_n 0, [], 0), (.getfield 341, [11, 8, 0, 175], 0), (.invokevirtual 315, [182, 2, 11, 0, 167], 0), (.istore_n 2, [], 0), (.iload_n 2, [], 0), (.aload_n 0, [], 0), (.getfield 35, [11, 14, 2, 120], 0), (.aload_n 0, [], 0), (.getfield 19, [11, 9, 0, 115], 0), (.iaload, [], 0), (.aload_n 0, [], 0), (.getfield 38, [11, 15, 2, 121], 0), (.aload_n 0, [], 0), (.getfield 19, [11, 9, 0, 115], 0), (.iaload, [], 0), (.invokestatic 329, [212, 2, 999, 0, 170], 0), (.invokestatic 329, [212, 2, 999, 0, 170], 0), (.istore_n 3, [], 0), (.aload_n 0, [], 0), (.getfield 35, [11, 14, 2, 120], 0), (.aload_n 0, [], 0), (.getfield 19, [11, 9, 0, 115], 0), (.dup2, [], 0), (.iaload, [], 0), (.iload_n 3, [], 0), (.isub, [], 0), (.iastore, [], 0), (.aload_n 0, [], 0), (.getfield 38, [11, 15, 2, 121], 0), (.aload_n 0, [], 0), (.getfield 19, [11, 9, 0, 115], 0), (.dup2, [], 0), (.iaload, [], 0), (.iload_n 3, [], 0), (.isub, [], 0), (.iastore, [], 0), (.aload_n 0, [], 0), (.getfield 44, [11, 17, 2, 123], 0), (.aload_n 0, [], 0), (.getfield 19, [11, 9, 0, 115], 0), (.dup2, [], 0), (.iaload, [], 0), (.iload_n 3, [], 0), (.iadd, [], 0), (.iastore, [], 0), (.aload_n 0, [], 0), (.getfield 47, [11, 18, 2, 124], 0), (.aload_n 0, [], 0), (.getfield 19, [11, 9, 0, 115], 0), (.dup2, [], 0), (.iaload, [], 0), (.iconst 1, [], 1), (.iadd, [], 0), (.iastore, [], 0), (.aload_n 0, [], 0), (.getfield 71, [11, 26, 2, 132], 0), (.aload_n 0, [], 0), (.getfield 341, [11, 8, 0, 175], 0), (.aload_n 0, [], 0), (.getfield 19, [11, 9, 0, 115], 0), (.iastore, [], 0), (.aload_n 0, [], 0), (.getfield 74, [11, 27, 2, 133], 0), (.aload_n 0, [], 0), (.getfield 341, [11, 8, 0, 175], 0), (.iload_n 2, [], 0), (.iload_n 3, [], 0), (.isub, [], 0), (.iastore, [], 0), (.aload_n 0, [], 0), (.iload_n 1, [], 0), (.putfield 19, [11, 9, 0, 115], 0), (.aload_n 0, [], 0), (.dup, [], 0), (.getfield 341, [11, 8, 0, 175], 0), (.iconst 1, [], 1), (.iadd, [], 0), (.putfield 341, [11, 8, 0, 175], 0), (.aload_n 0, [], 0), (.iload_n 2, [], 0), (.iload_n 3, [], 0), (.isub, [], 0), (.invokevirtual 167, [146, 2, 11, 0, 142], 0), (.ireturn, [0], 0)], 0)]
/-- CourtProgressModel.about(II)I -/
def ai_c200 : List (List ai_Op × Nat) := [([(.aload_n 0, [], 0), (.iconst 0, [], 0), (.putfield 1, [11, 0, 0, 159], 0), (.aload_n 0, [], 0), (.iload_n 1, [], 0), (.invokevirtual 182, [151, 2, 11, 0, 146], 0), (.ifCond .ne 5, [1], 0), (.iconst (-1), [], (-1)), (.ireturn, [0], 0)], 0),
  ([(.iload_n 2, [], 0), (.tableswitch 71 0 4 #[36, 43, 50, 57, 64], [7, 2, 3, 4, 5, 6], 0)], 0),
  ([(.aload_n 0, [], 0), (.getfield 35, [11, 14, 2, 120], 0), (.iload_n 1, [], 0), (.iaload, [], 0), (.ireturn, [0], 0)], 0),
  ([(.aload_n 0, [], 0), (.getfield 38, [11, 15, 2, 121], 0), (.iload_n 1, [], 0), (.iaload, [], 0), (.ireturn, [0], 0)], 0),
  ([(.aload_n 0, [], 0), (.getfield 44, [11, 17, 2, 123], 0), (.iload_n 1, [], 0), (.iaload, [], 0), (.ireturn, [0], 0)], 0),
  ([(.aload_n 0, [], 0), (.getfield 50, [11, 19, 2, 125], 0), (.iload_n 1, [], 0), (.iaload, [], 0), (.ireturn, [0], 0)], 0),
  ([(.aload_n 0, [], 0), (.getfield 47, [11, 18, 2, 124], 0), (.iload_n 1, [], 0), (.iaload, [], 0), (.ireturn, [0], 0)], 0),
  ([(.iconst (-1), [], (-1)), (.ireturn, [0], 0)], 0)]
/-- CourtProgressModel.was(I)I -/
def ai_c201 : List (List ai_Op × Nat) := [([(.aload_n 0, [], 0), (.iconst 0, [], 0), (.putfield 1, [11, 0, 0, 159], 0), (.iload_n 1, [], 0), (.ifCond .lt 20, [1], 0), (.iload_n 1, [], 0), (.aload_n 0, [], 0), (.getfield 341, [11, 8, 0, 175], 0), (.if_icmp .ge 12, [1], 0), (.aload_n 0, [], 0), (.getfield 71, [11, 26, 2, 132], 0), (.iload_n 1, [], 0), (.iaload, [], 0), (.goto 4, [2], 0)], 0),
  ([(.iconst (-1), [], (-1))], 2),
  ([(.ireturn, [0], 0)], 0)]
/-- CourtProgressModel.lacked(I)I -/
def ai_c202 : List (List ai_Op × Nat) := [([(.aload_n 0, [], 0), (.iconst 0, [], 0), (.putfield 1, [11, 0, 0, 159], 0), (.iload_n 1, [], 0), (.ifCond .lt 20, [1], 0), (.iload_n 1, [], 0), (.aload_n 0, [], 0), (.getfield 341, [11, 8, 0, 175], 0), (.if_icmp .ge 12, [1], 0), (.aload_n 0, [], 0), (.getfield 74, [11, 27, 2, 133], 0), (.iload_n 1, [], 0), (.iaload, [], 0), (.goto 4, [2], 0)], 0),
  ([(.iconst (-1), [], (-1))], 2),
  ([(.ireturn, [0], 0)], 0)]
/-- CourtProgressModel.plea(I)I -/
def ai_c203 : List (List ai_Op × Nat) := [([(.aload_n 0, [], 0), (.iconst 0, [], 0), (.putfield 1, [11, 0, 0, 159], 0), (.iload_n 1, [], 0), (.iconst 0, [], 0), (.bipush 99, [], 99), (.invokestatic 159, [148, 3, 999, 0, 140], 0), (.ifCond .ne 9, [1], 0), (.aload_n 0, [], 0), (.iconst 2, [], 2), (.invokevirtual 163, [144, 2, 11, 0, 141], 0), (.ireturn, [0], 0)], 0),
  ([(.aload_n 0, [], 0), (.getfield 369, [11, 7, 0, 178], 0), (.bipush 60, [], 60), (.if_icmp .ne 9, [2], 0), (.aload_n 0, [], 0), (.iconst 3, [], 3), (.invokevirtual 163, [144, 2, 11, 0, 141], 0), (.ireturn, [0], 0)], 0),
  ([(.aload_n 0, [], 0), (.getfield 77, [11, 28, 2, 134], 0), (.aload_n 0, [], 0), (.getfield 369, [11, 7, 0, 178], 0), (.iload_n 1, [], 0), (.iastore, [], 0), (.aload_n 0, [], 0), (.getfield 80, [11, 29, 2, 135], 0), (.aload_n 0, [], 0), (.getfield 369, [11, 7, 0, 178], 0), (.aload_n 0, [], 0), (.getfield 341, [11, 8, 0, 175], 0), (.iastore, [], 0), (.aload_n 0, [], 0), (.getfield 83, [11, 30, 2, 136], 0), (.aload_n 0, [], 0), (.getfield 369, [11, 7, 0, 178], 0), (.bipush (-2), [], (-2)), (.iastore, [], 0), (.aload_n 0, [], 0), (.dup, [], 0), (.getfield 369, [11, 7, 0, 178], 0), (.iconst 1, [], 1), (.iadd, [], 0), (.putfield 369, [11, 7, 0, 178], 0), (.aload_n 0, [], 0), (.aload_n 0, [], 0), (.getfield 369, [11, 7, 0, 178], 0), (.iconst 1, [], 1), (.isub, [], 0), (.invokevirtual 167, [146, 2, 11, 0, 142], 0), (.ireturn, [0], 0)], 0)]
/-- CourtProgressModel.nextOf(I)I -/
def ai_c204 : List (List ai_Op × Nat) := [([(.iconst 0, [], 0), (.istore_n 2, [], 0)], 1),
  ([(.iload_n 2, [], 0), (.aload_n 0, [], 0), (.getfield 369, [11, 7, 0, 178], 0), (.if_icmp .ge 123, [9], 0), (.aload_n 0, [], 0), (.getfield 83, [11, 30, 2, 136], 0), (.iload_n 2, [], 0), (.iaload, [], 0), (.bipush (-2), [], (-2)), (.if_icmp .eq 6, [2], 0), (.goto 103, [8], 0)], 0),
  ([(.aload_n 0, [], 0), (.getfield 77, [11, 28, 2, 134], 0), (.iload_n 2, [], 0), (.iaload, [], 0), (.aload_n 0, [], 0), (.getfield 80, [11, 29, 2, 135], 0), (.iload_n 2, [], 0), (.iaload, [], 0), (.isub, [], 0), (.istore_n 3, [], 0), (.iconst 0, [], 0), (.istore 4, [], 0), (.iconst 0, [], 0), (.istore 5, [], 0)], 3),
  ([(.iload 5, [], 0), (.aload_n 0, [], 0), (.getfield 369, [11, 7, 0, 178], 0), (.if_icmp .ge 66, [7], 0), (.aload_n 0, [], 0), (.getfield 77, [11, 28, 2, 134], 0), (.iload 5, [], 0), (.iaload, [], 0), (.aload_n 0, [], 0), (.getfield 80, [11, 29, 2, 135], 0), (.iload 5, [], 0), (.iaload, [], 0), (.isub, [], 0), (.istore 6, [], 0), (.iload 4, [], 0), (.aload_n 0, [], 0), (.getfield 83, [11, 30, 2, 136], 0), (.iload 5, [], 0), (.iaload, [], 0), (.bipush (-2), [], (-2)), (.if_icmp .ne 25, [5], 0), (.iload 6, [], 0), (.iload_n 3, [], 0), (.if_icmp .gt 15, [4], 0), (.iload 6, [], 0), (.iload_n 3, [], 0), (.if_icmp .ne 13, [5], 0), (.iload 5, [], 0), (.iload_n 2, [], 0), (.if_icmp .ge 7, [5], 0)], 4),
  ([(.iconst 1, [], 1), (.goto 4, [6], 0)], 0),
  ([(.iconst 0, [], 0)], 6),
  ([(.iadd, [], 0), (.istore 4, [], 0), (.iinc 5 1, [], 1), (.goto (-69), [3], 0)], 0),
  ([(.iload 4, [], 0), (.iload_n 1, [], 0), (.if_icmp .ne 5, [8], 0), (.iload_n 2, [], 0), (.ireturn, [0], 0)], 0),
  ([(.iinc 2 1, [], 1), (.goto (-125), [1], 0)], 0),
  ([(.iconst (-1), [], (-1)), (.ireturn, [0], 0)], 0)]
/-- CourtProgressModel.hear(I)I -/
def ai_c205 : List (List ai_Op × Nat) := [([(.aload_n 0, [], 0), (.iconst 0, [], 0), (.putfield 1, [11, 0, 0, 159], 0), (.iload_n 1, [], 0), (.iconst 1, [], 1), (.bipush 9, [], 9), (.invokestatic 159, [148, 3, 999, 0, 140], 0), (.ifCond .ne 9, [1], 0), (.aload_n 0, [], 0), (.iconst 2, [], 2), (.invokevirtual 163, [144, 2, 11, 0, 141], 0), (.ireturn, [0], 0)], 0),
  ([(.iconst 0, [], 0), (.istore_n 2, [], 0), (.aload_n 0, [], 0), (.iconst 0, [], 0), (.invokevirtual 372, [204, 2, 11, 0, 178], 0), (.istore_n 3, [], 0)], 2),
  ([(.iload_n 2, [], 0), (.iload_n 1, [], 0), (.if_icmp .ge 30, [3], 0), (.iload_n 3, [], 0), (.iconst (-1), [], (-1)), (.if_icmp .eq 25, [3], 0), (.aload_n 0, [], 0), (.getfield 83, [11, 30, 2, 136], 0), (.iload_n 3, [], 0), (.aload_n 0, [], 0), (.getfield 341, [11, 8, 0, 175], 0), (.iastore, [], 0), (.iinc 2 1, [], 1), (.aload_n 0, [], 0), (.iconst 0, [], 0), (.invokevirtual 372, [204, 2, 11, 0, 178], 0), (.istore_n 3, [], 0), (.goto (-29), [2], 0)], 0),
  ([(.aload_n 0, [], 0), (.iload_n 2, [], 0), (.invokevirtual 167, [146, 2, 11, 0, 142], 0), (.ireturn, [0], 0)], 0)]
/-- CourtProgressModel.heard(I)I -/
def ai_c206 : List (List ai_Op × Nat) := [([(.aload_n 0, [], 0), (.iconst 0, [], 0), (.putfield 1, [11, 0, 0, 159], 0), (.iload_n 1, [], 0), (.ifCond .lt 20, [1], 0), (.iload_n 1, [], 0), (.aload_n 0, [], 0), (.getfield 369, [11, 7, 0, 178], 0), (.if_icmp .ge 12, [1], 0), (.aload_n 0, [], 0), (.getfield 83, [11, 30, 2, 136], 0), (.iload_n 1, [], 0), (.iaload, [], 0), (.goto 4, [2], 0)], 0),
  ([(.iconst (-1), [], (-1))], 2),
  ([(.ireturn, [0], 0)], 0)]
/-- CourtProgressModel.next(I)I -/
def ai_c207 : List (List ai_Op × Nat) := [([(.aload_n 0, [], 0), (.iconst 0, [], 0), (.putfield 1, [11, 0, 0, 159], 0), (.aload_n 0, [], 0), (.iload_n 1, [], 0), (.invokevirtual 372, [204, 2, 11, 0, 178], 0), (.ireturn, [0], 0)], 0)]
/-- CourtProgressModel.count(I)I -/
def ai_c208 : List (List ai_Op × Nat) := [([(.aload_n 0, [], 0), (.iconst 0, [], 0), (.putfield 1, [11, 0, 0, 159], 0), (.iload_n 1, [], 0), (.tableswitch 120 0 7 #[46, 51, 56, 61, 66, 105, 110, 115], [13, 1, 2, 3, 4, 5, 10, 11, 12], 0)], 0),
  ([(.aload_n 0, [], 0), (.getfield 153, [11, 4, 0, 157], 0), (.ireturn, [0], 0)], 0),
  ([(.aload_n 0, [], 0), (.getfield 156, [11, 5, 0, 158], 0), (.ireturn, [0], 0)], 0),
  ([(.aload_n 0, [], 0), (.getfield 266, [11, 41, 0, 170], 0), (.ireturn, [0], 0)], 0),
  ([(.aload_n 0, [], 0), (.getfield 188, [11, 6, 0, 160], 0), (.ireturn, [0], 0)], 0),
  ([(.iconst 0, [], 0), (.istore_n 2, [], 0), (.iconst 0, [], 0), (.istore_n 3, [], 0)], 6),
  ([(.iload_n 3, [], 0), (.aload_n 0, [], 0), (.getfield 369, [11, 7, 0, 178], 0), (.if_icmp .ge 28, [9], 0), (.iload_n 2, [], 0), (.aload_n 0, [], 0), (.getfield 83, [11, 30, 2, 136], 0), (.iload_n 3, [], 0), (.iaload, [], 0), (.bipush (-2), [], (-2)), (.if_icmp .ne 7, [7], 0), (.iconst 1, [], 1), (.goto 4, [8], 0)], 0),
  ([(.iconst 0, [], 0)], 8),
  ([(.iadd, [], 0), (.istore_n 2, [], 0), (.iinc 3 1, [], 1), (.goto (-30), [6], 0)], 0),
  ([(.iload_n 2, [], 0), (.ireturn, [0], 0)], 0),
  ([(.aload_n 0, [], 0), (.getfield 341, [11, 8, 0, 175], 0), (.ireturn, [0], 0)], 0),
  ([(.aload_n 0, [], 0), (.getfield 19, [11, 9, 0, 115], 0), (.ireturn, [0], 0)], 0),
  ([(.aload_n 0, [], 0), (.getfield 285, [11, 33, 0, 171], 0), (.ireturn, [0], 0)], 0),
  ([(.iconst (-1), [], (-1)), (.ireturn, [0], 0)], 0)]
/-- CourtProgressModel.trouble()I -/
def ai_c209 : List (List ai_Op × Nat) := [([(.aload_n 0, [], 0), (.iconst 0, [], 0), (.putfield 1, [11, 0, 0, 159], 0), (.aload_n 0, [], 0), (.getfield 7, [11, 1, 0, 113], 0), (.ireturn, [0], 0)], 0)]
/-- java/lang/Integer.bitCount(I)I -/
def ai_c210 : List (List ai_Op × Nat) := [([(.iload_n 0, [], 0), (.iload_n 0, [], 0), (.iconst 1, [], 1), (.iushr, [], 0), (.ldc_w 265, [], 1431655765), (.iand, [], 0), (.isub, [], 0), (.istore_n 0, [], 0), (.iload_n 0, [], 0), (.ldc_w 266, [], 858993459), (.iand, [], 0), (.iload_n 0, [], 0), (.iconst 2, [], 2), (.iushr, [], 0), (.ldc_w 266, [], 858993459), (.iand, [], 0), (.iadd, [], 0), (.istore_n 0, [], 0), (.iload_n 0, [], 0), (.iload_n 0, [], 0), (.iconst 4, [], 4), (.iushr, [], 0), (.iadd, [], 0), (.ldc_w 267, [], 252645135), (.iand, [], 0), (.istore_n 0, [], 0), (.iload_n 0, [], 0), (.iload_n 0, [], 0), (.bipush 8, [], 8), (.iushr, [], 0), (.iadd, [], 0), (.istore_n 0, [], 0), (.iload_n 0, [], 0), (.iload_n 0, [], 0), (.bipush 16, [], 16), (.iushr, [], 0), (.iadd, [], 0), (.istore_n 0, [], 0), (.iload_n 0, [], 0), (.bipush 63, [], 63), (.iand, [], 0), (.ireturn, [0], 0)], 0)]
/-- java/lang/Math.max(II)I -/
def ai_c211 : List (List ai_Op × Nat) := [([(.iload_n 0, [], 0), (.iload_n 1, [], 0), (.if_icmp .lt 7, [1], 0), (.iload_n 0, [], 0), (.goto 4, [2], 0)], 0),
  ([(.iload_n 1, [], 0)], 2),
  ([(.ireturn, [0], 0)], 0)]
/-- java/lang/Math.min(II)I -/
def ai_c212 : List (List ai_Op × Nat) := [([(.iload_n 0, [], 0), (.iload_n 1, [], 0), (.if_icmp .gt 7, [1], 0), (.iload_n 0, [], 0), (.goto 4, [2], 0)], 0),
  ([(.iload_n 1, [], 0)], 2),
  ([(.ireturn, [0], 0)], 0)]
/-- java/lang/Math.min(JJ)J -/
def ai_c213 : List (List ai_Op × Nat) := [([(.lload_n 0, [], 0), (.lload_n 2, [], 0), (.lcmp, [], 0), (.ifCond .gt 7, [1], 0), (.lload_n 0, [], 0), (.goto 4, [2], 0)], 0),
  ([(.lload_n 2, [], 0)], 2),
  ([(.lreturn, [], 0)], 0)]
def ai_prog : List (List (List ai_Op × Nat)) := [ai_c0, ai_c1, ai_c2, ai_c3, ai_c4, ai_c5, ai_c6, ai_c7, ai_c8, ai_c9, ai_c10, ai_c11, ai_c12, ai_c13, ai_c14, ai_c15, ai_c16, ai_c17, ai_c18, ai_c19, ai_c20, ai_c21, ai_c22, ai_c23, ai_c24, ai_c25, ai_c26, ai_c27, ai_c28, ai_c29, ai_c30, ai_c31, ai_c32, ai_c33, ai_c34, ai_c35, ai_c36, ai_c37, ai_c38, ai_c39, ai_c40, ai_c41, ai_c42, ai_c43, ai_c44, ai_c45, ai_c46, ai_c47, ai_c48, ai_c49, ai_c50, ai_c51, ai_c52, ai_c53, ai_c54, ai_c55, ai_c56, ai_c57, ai_c58, ai_c59, ai_c60, ai_c61, ai_c62, ai_c63, ai_c64, ai_c65, ai_c66, ai_c67, ai_c68, ai_c69, ai_c70, ai_c71, ai_c72, ai_c73, ai_c74, ai_c75, ai_c76, ai_c77, ai_c78, ai_c79, ai_c80, ai_c81, ai_c82, ai_c83, ai_c84, ai_c85, ai_c86, ai_c87, ai_c88, ai_c89, ai_c90, ai_c91, ai_c92, ai_c93, ai_c94, ai_c95, ai_c96, ai_c97, ai_c98, ai_c99, ai_c100, ai_c101, ai_c102, ai_c103, ai_c104, ai_c105, ai_c106, ai_c107, ai_c108, ai_c109, ai_c110, ai_c111, ai_c112, ai_c113, ai_c114, ai_c115, ai_c116, ai_c117, ai_c118, ai_c119, ai_c120, ai_c121, ai_c122, ai_c123, ai_c124, ai_c125, ai_c126, ai_c127, ai_c128, ai_c129, ai_c130, ai_c131, ai_c132, ai_c133, ai_c134, ai_c135, ai_c136, ai_c137, ai_c138, ai_c139, ai_c140, ai_c141, ai_c142, ai_c143, ai_c144, ai_c145, ai_c146, ai_c147, ai_c148, ai_c149, ai_c150, ai_c151, ai_c152, ai_c153, ai_c154, ai_c155, ai_c156, ai_c157, ai_c158, ai_c159, ai_c160, ai_c161, ai_c162, ai_c163, ai_c164, ai_c165, ai_c166, ai_c167, ai_c168, ai_c169, ai_c170, ai_c171, ai_c172, ai_c173, ai_c174, ai_c175, ai_c176, ai_c177, ai_c178, ai_c179, ai_c180, ai_c181, ai_c182, ai_c183, ai_c184, ai_c185, ai_c186, ai_c187, ai_c188, ai_c189, ai_c190, ai_c191, ai_c192, ai_c193, ai_c194, ai_c195, ai_c196, ai_c197, ai_c198, ai_c199, ai_c200, ai_c201, ai_c202, ai_c203, ai_c204, ai_c205, ai_c206, ai_c207, ai_c208, ai_c209, ai_c210, ai_c211, ai_c212, ai_c213]
def ai_code (mi b : Nat) : List ai_Op × Nat := ((ai_prog[mi]?).getD [])[b]?.getD ([], 0)
def ai_mxs : List Nat := [2, 5, 2, 2, 2, 3, 1, 2, 4, 4, 2, 3, 3, 2, 2, 2, 3, 1, 6, 5, 3, 11, 2, 8, 3, 12, 5, 7, 8, 5, 8, 4, 1, 2, 4, 6, 4, 5, 2, 4, 3, 1, 4, 5, 2, 2, 4, 3, 5, 3, 5, 4, 8, 7, 7, 6, 7, 8, 8, 3, 2, 1, 2, 2, 3, 2, 2, 1, 1, 1, 1, 2, 3, 1, 1, 2, 5, 4, 2, 5, 5, 6, 2, 2, 5, 7, 5, 2, 2, 1, 1, 3, 2, 2, 5, 3, 3, 3, 5, 3, 5, 2, 2, 1, 2, 4, 4, 5, 5, 4, 4, 3, 8, 6, 3, 1, 1, 2, 4, 2, 4, 2, 2, 3, 2, 4, 3, 3, 2, 2, 2, 2, 2, 2, 2, 1, 2, 2, 2, 1, 2, 1, 3, 1, 2, 2, 2, 1, 3, 2, 2, 2, 1, 4, 4, 4, 6, 4, 5, 3, 8, 2, 2, 1, 1, 4, 3, 2, 2, 2, 6, 4, 4, 8, 4, 1, 1, 4, 2, 4, 9, 4, 5, 2, 9, 9, 4, 4, 4, 2, 2, 5, 3, 9, 7, 8, 12, 2, 5, 4, 3, 2, 2, 2, 7, 4, 2, 2, 4, 1, 1, 2, 2, 4]
def ai_mx (mi : Nat) : Nat := (ai_mxs[mi]?).getD 0
def ai_nfs : List Nat := [3, 5, 16, 11, 5, 14, 5, 8, 6, 15, 8, 64]
def ai_nf (ci : Nat) : Nat := (ai_nfs[ci]?).getD 0
def ai_fts : List (List Nat) := [[2, 2, 0], [0, 2, 2, 2, 2], [2, 2, 0, 2, 2, 2, 2, 2, 2, 2, 2, 2, 2, 2, 0, 0], [0, 2, 2, 2, 2, 2, 2, 2, 2, 2, 2], [0, 0, 2, 2, 2], [2, 2, 2, 0, 0, 0, 2, 2, 2, 2, 0, 2, 0, 0], [2, 2, 0, 0, 0], [2, 2, 0, 2, 2, 2, 0, 2], [0, 2, 0, 0, 2, 2], [2, 2, 2, 2, 2, 2, 2, 2, 2, 2, 2, 2, 0, 0, 0], [2, 2, 2, 2, 2, 0, 0, 0], [0, 0, 0, 0, 0, 0, 0, 0, 0, 0, 2, 2, 2, 2, 2, 2, 2, 2, 2, 2, 2, 2, 2, 2, 2, 2, 2, 2, 2, 2, 2, 2, 2, 0, 0, 0, 0, 0, 0, 0, 1, 0, 2, 2, 2, 2, 2, 2, 2, 2, 2, 2, 0, 2, 2, 2, 2, 0, 2, 2, 2, 0, 0, 2]]
def ai_ft (ci j : Nat) : Nat := ((ai_fts[ci]?).getD [])[j]?.getD 0
def ai_strs : List (List Int32) := [[114, 97, 110, 107], [109, 111, 117, 116, 104, 115], [104, 111, 114, 115, 101, 115], [100, 97, 121], [109, 117, 100], [102, 101, 97, 115, 116], [119, 104, 101, 110], [97, 110, 100], [101, 97, 116, 115], [102, 101, 101, 100, 115], [119, 104, 101, 110], [101, 97, 116, 115], [102, 101, 101, 100, 115], [97, 110, 100], [114, 97, 110, 107], [109, 111, 117, 116, 104, 115], [104, 111, 114, 115, 101, 115], [100, 97, 121], [109, 117, 100], [102, 101, 97, 115, 116]]
def ai_str (a : Nat) : Option (List Int32) := cond (Nat.ble 900 a) (ai_strs[a - 900]?) none
/-- kinds of rows that newarray makes -/
def ai_kt (ty : ArrayType) (kd : Nat) : Bool := match ty with
  | .int => Nat.beq kd 1 || Nat.beq kd 4
  | .byte => Nat.beq kd 2
  | .boolean => Nat.beq kd 3
  | _ => false
/-- the router's row that grows: 45 the router, 9 the places, 49 the row -/
def ai_mrsz (x : Int32) : Int32 := if x < 1 then 0 else (1 <<< ((x - 1) &&& 31)) * x * 21
def ai_mrOK (h : ai_Hp) : Prop := ai_obj h 45 5 = true ∧ ai_obj h 9 3 = true ∧ h.2.2.1 45 0 = some 9 ∧ h.2.2.1 45 9 = some 49 ∧ ai_row h 49 4 4 ≠ none ∧ ai_in (ai_mrsz (h.2.2.2.1 9 0)) 1000001 = true ∧ ∀ k j, h.2.2.1 k j = some 49 → k = 45 ∧ j = 9
noncomputable def ai_mr (h : ai_Hp) : ai_Res := @ite _ (ai_mrOK h) (Classical.propDecidable _) (some (.inl none, if Int32.ofNat ((ai_row h 49 4 4).getD 0) < ai_mrsz (h.2.2.2.1 9 0) then
    ((h.1.1 + 1, h.1.2 + (ai_mrsz (h.2.2.2.1 9 0)).toNatClampNeg), h.2.1.set 49 (4, (ai_mrsz (h.2.2.2.1 9 0)).toNatClampNeg), h.2.2.1, (fun a => if a = 49 then (fun _ => 0) else h.2.2.2.1 a), h.2.2.2.2) else h)) none
noncomputable def ai_prim (cal : Nat) (vs : List Value) (h : ai_Hp) : ai_Res := match cal, vs with
  | 300, [.ref a] => (match ai_str a with
    | some s => some (.inl (some (.int (Int32.ofNat s.length))), h)
    | none => none)
  | 301, [.ref a, .int i] => (match ai_str a with
    | some s => cond (ai_in i s.length) (some (.inl (some (.int (s.getD i.toNatClampNeg 0))), h)) none
    | none => none)
  | 302, [.ref a] => cond (ai_obj h a 10) (some (.inl none, h)) none
  | 303, [.ref 45] => ai_mr h
  | _, _ => none
/-- a call's road: d is how many frames more may lie; n how many values it takes (the receiver too); ci the receiver's kind (999: none); hd the block that catches (0: none) -/
def ai_back (rc : ai_Rec) (d mi hd : Nat) (L r : List Value) (k : ai_K) (x : ai_Res) : ai_Res := match x with
  | some (.inl none, h) => k L r h
  | some (.inl (some v), h) => k L (v :: r) h
  | some (.inr a, h) => cond (Nat.beq hd 0) (some (.inr a, h)) (rc d mi hd L [.ref a] h)
  | none => none
def ai_rcv (h : ai_Hp) (ci : Nat) (vs : List Value) : Bool := cond (Nat.beq ci 999) true (match vs with
  | .ref a :: _ => cond (Nat.beq ci 998) (Nat.ble 900 a) (ai_obj h a ci)
  | _ => false)
noncomputable def ai_inv (rc : ai_Rec) (d mi cal n ci hd : Nat) (L st : List Value) (h : ai_Hp) (k : ai_K) : ai_Res := match d with
  | 0 => none
  | e + 1 => cond (Nat.ble n st.length && (ai_fr h.2.1 L && (ai_fr h.2.1 (st.drop n) && (Nat.ble (ai_wt (st.drop n)) 8 && ai_rcv h ci (st.take n).reverse))))
      (ai_back rc (e + 1) mi hd L (st.drop n) k (cond (Nat.ble 300 cal) (ai_prim cal (st.take n).reverse h) (rc e cal 0 (ai_ent (ai_mx cal) (st.take n).reverse) [] h))) none
noncomputable def ai_call (rc : ai_Rec) (d mi : Nat) (aux : List Nat) (L st : List Value) (h : ai_Hp) (k : ai_K) : ai_Res := match aux with
  | cal :: n :: ci :: hd :: _ => ai_inv rc d mi cal n ci hd L st h k
  | _ => none
noncomputable def ai_spec (rc : ai_Rec) (d mi : Nat) (aux : List Nat) (L st : List Value) (h : ai_Hp) (k : ai_K) : ai_Res := match aux with
  | cal :: n :: ci :: hd :: _ => cond (Nat.beq cal 998) (match d, st with
      | _ + 1, .ref _ :: r => cond (Nat.ble (ai_wt r) 8) (k L r h) none
      | _, _ => none) (ai_inv rc d mi cal n ci hd L st h k)
  | _ => none
noncomputable def ai_step (rc : ai_Rec) (d mi : Nat) (op : ai_Op) (L st : List Value) (h : ai_Hp) (k : ai_K) : ai_Res := match op.1 with
  | .iconst _ => k L (.int op.2.2 :: st) h
  | .bipush _ => k L (.int op.2.2 :: st) h
  | .sipush _ => k L (.int op.2.2 :: st) h
  | .ldc _ => (match op.2.1 with
    | [] => k L (.int op.2.2 :: st) h
    | j :: _ => k L (.ref (900 + j) :: st) h)
  | .ldc_w _ => (match op.2.1 with
    | [] => k L (.int op.2.2 :: st) h
    | j :: _ => k L (.ref (900 + j) :: st) h)
  | .ldc2_w _ => k L (.long op.2.2.toInt64 :: st) h
  | .lconst n => k L (.long (Int64.ofNat n.val) :: st) h
  | .aconst_null => k L (.null :: st) h
  | .iload i => ai_ldI i L st h k
  | .iload_n i => ai_ldI i.val L st h k
  | .lload i => ai_ldL i L st h k
  | .lload_n i => ai_ldL i.val L st h k
  | .aload i => ai_ldA i L st h k
  | .aload_n i => ai_ldA i.val L st h k
  | .istore i => ai_stI i L st h k
  | .istore_n i => ai_stI i.val L st h k
  | .lstore i => ai_stL i L st h k
  | .lstore_n i => ai_stL i.val L st h k
  | .astore i => ai_stA i L st h k
  | .astore_n i => ai_stA i.val L st h k
  | .iinc i _ => (match L[i]? with
    | some (.int x) => k (ai_set L i (.int (x + op.2.2))) st h
    | _ => none)
  | .iadd => ai_bin (fun x y => x + y) L st h k
  | .isub => ai_bin (fun x y => x - y) L st h k
  | .imul => ai_bin (fun x y => x * y) L st h k
  | .iand => ai_bin (fun x y => x &&& y) L st h k
  | .ior => ai_bin (fun x y => x ||| y) L st h k
  | .ixor => ai_bin (fun x y => x ^^^ y) L st h k
  | .ishl => ai_bin (fun x y => x <<< (y &&& 31)) L st h k
  | .ishr => ai_bin (fun x y => x >>> (y &&& 31)) L st h k
  | .iushr => ai_bin (fun x y => (x.toUInt32 >>> (y.toUInt32 &&& Int32.toUInt32 31)).toInt32) L st h k
  | .idiv => (match st with
    | .int y :: .int x :: r => if y = 0 then none else k L (.int (x / y) :: r) h
    | _ => none)
  | .irem => (match st with
    | .int y :: .int x :: r => if y = 0 then none else k L (.int (x - x / y * y) :: r) h
    | _ => none)
  | .ineg => ai_un1 (fun x => .int (-x)) L st h k
  | .i2l => ai_un1 (fun x => .long x.toInt64) L st h k
  | .i2b => ai_un1 (fun x => .int x.toInt8.toInt32) L st h k
  | .l2i => (match st with
    | .long x :: r => k L (.int x.toInt32 :: r) h
    | _ => none)
  | .ladd => ai_binL (fun x y => x + y) L st h k
  | .lmul => ai_binL (fun x y => x * y) L st h k
  | .lcmp => (match st with
    | .long y :: .long x :: r => k L (.int (lg_cmp x y) :: r) h
    | _ => none)
  | .dup => (match st with
    | .int x :: r => k L (.int x :: .int x :: r) h
    | .ref x :: r => k L (.ref x :: .ref x :: r) h
    | _ => none)
  | .dup2 => (match st with
    | .int x :: .ref y :: r => k L (.int x :: .ref y :: .int x :: .ref y :: r) h
    | _ => none)
  | .ifCond cd _ => (match st with
    | .int x :: r => ai_br cd x 0 (rc d mi (op.2.1.headD 0) L r h) (k L r h)
    | _ => none)
  | .if_icmp cd _ => (match st with
    | .int y :: .int x :: r => ai_br cd x y (rc d mi (op.2.1.headD 0) L r h) (k L r h)
    | _ => none)
  | .goto _ => rc d mi (op.2.1.headD 0) L st h
  | .tableswitch _ lo hi _ => (match st with
    | .int x :: r => if x.toInt < lo ∨ hi < x.toInt then rc d mi (op.2.1.headD 0) L r h else rc d mi (op.2.1.tail.getD (x.toInt - lo).toNat 0) L r h
    | _ => none)
  | .lookupswitch _ ps => (match st with
    | .int x :: r => rc d mi (ai_look x.toInt ps.toList op.2.1.tail (op.2.1.headD 0)) L r h
    | _ => none)
  | .ireturn => (match st with
    | [.int v] => cond (Nat.beq (op.2.1.headD 0) 1) (if v = 0 ∨ v = 1 then some (.inl (some (.int v)), h) else none) (some (.inl (some (.int v)), h))
    | _ => none)
  | .lreturn => (match st with
    | [.long v] => some (.inl (some (.long v)), h)
    | _ => none)
  | .areturn => (match st with
    | [.ref v] => some (.inl (some (.ref v)), h)
    | _ => none)
  | .return_ => (match st with
    | [] => some (.inl none, h)
    | _ => none)
  | .athrow => (match st with
    | [.ref a] => cond (ai_obj h a 10) (some (.inr a, h)) none
    | _ => none)
  | .getfield _ => (match op.2.1, st with
    | ci :: j :: ty :: _, .ref a :: r => (match ai_getf a ci j ty h with
      | some v => k L (v :: r) h
      | none => none)
    | _, _ => none)
  | .putfield _ => (match op.2.1, st with
    | ci :: j :: ty :: _, v :: .ref a :: r => (match ai_putf v a ci j ty h with
      | some h1 => k L r h1
      | none => none)
    | _, _ => none)
  | .iaload => (match st with
    | .int i :: .ref a :: r => (match ai_row h a 1 4 with
      | some n => cond (ai_in i n) (k L (.int (h.2.2.2.1 a i.toNatClampNeg) :: r) h) none
      | none => none)
    | _ => none)
  | .baload => (match st with
    | .int i :: .ref a :: r => (match ai_row h a 2 3 with
      | some n => cond (ai_in i n) (k L (.int (h.2.2.2.1 a i.toNatClampNeg) :: r) h) none
      | none => none)
    | _ => none)
  | .iastore => (match st with
    | .int x :: .int i :: .ref a :: r => (match ai_row h a 1 4 with
      | some n => cond (ai_in i n) (k L r (ai_sto a i x h)) none
      | none => none)
    | _ => none)
  | .bastore => (match st with
    | .int x :: .int i :: .ref a :: r => (match ai_row h a 2 3 with
      | some n => cond (ai_in i n) (k L r (ai_sto a i (cond (Nat.beq (ai_kd h a) 2) (vp_nar .byte x) (vp_nar .boolean x)) h)) none
      | none => none)
    | _ => none)
  | .arraylength => (match st with
    | .ref a :: r => (match ai_len h a with
      | some n => k L (.int (Int32.ofNat n) :: r) h
      | none => none)
    | _ => none)
  | .newarray ty => (match op.2.1, st with
    | kd :: _, .int n :: r => cond (ai_in n 1000001 && (ai_nr h.2.1.length L && (ai_nr h.2.1.length r && (Nat.blt h.2.1.length 900 && ai_kt ty kd)))) (k L (.ref h.2.1.length :: r) (ai_mk kd n.toNatClampNeg h)) none
    | _, _ => none)
  | .new _ => (match op.2.1 with
    | ci :: _ => cond (ai_nr h.2.1.length L && (ai_nr h.2.1.length st && Nat.blt h.2.1.length 900)) (k L (.ref h.2.1.length :: st) (ai_ob ci (ai_nf ci) h)) none
    | _ => none)
  | .invokevirtual _ => ai_call rc d mi op.2.1 L st h k
  | .invokestatic _ => ai_call rc d mi op.2.1 L st h k
  | .invokespecial _ => ai_spec rc d mi op.2.1 L st h k
  | _ => none
noncomputable def ai_ops (rc : ai_Rec) (d mi nx : Nat) : List ai_Op → List Value → List Value → ai_Hp → ai_Res
  | [], L, st, h => rc d mi nx L st h
  | op :: ops, L, st, h => ai_step rc d mi op L st h (fun L st h => ai_ops rc d mi nx ops L st h)
noncomputable def ai_blk (rc : ai_Rec) : ai_Rec := fun d mi b L st h => ai_ops rc d mi (ai_code mi b).2 (ai_code mi b).1 L st h
noncomputable def ai_ex : Nat → ai_Rec
  | 0 => fun _ _ _ _ _ _ => none
  | n + 1 => ai_blk (ai_ex n)
end
section
/-! the machine without fuel: ai_run is what ai_ex comes to -/
theorem ai_back_ev {rc : Nat → ai_Rec} {run : ai_Rec} (hrc : ∀ d mi b L st h r, run d mi b L st h = some r → ∃ n, ∀ m, n ≤ m → rc m d mi b L st h = some r) {km : Nat → ai_K} {k : ai_K} {r : (Option Value ⊕ Nat) × ai_Hp} (hk : ∀ L st h, k L st h = some r → ∃ n, ∀ m, n ≤ m → km m L st h = some r) {xm : Nat → ai_Res} {x : ai_Res} (hx : ∀ r, x = some r → ∃ n, ∀ m, n ≤ m → xm m = some r) {d mi hd : Nat} {L rs : List Value} (H : ai_back run d mi hd L rs k x = some r) : ∃ n, ∀ m, n ≤ m → ai_back (rc m) d mi hd L rs (km m) (xm m) = some r := by
  cases x with
  | none => simp [ai_back] at H
  | some q =>
    obtain ⟨n1, h1⟩ := hx q rfl
    obtain ⟨o, h⟩ := q
    cases o with
    | inl v =>
      cases v with
      | none =>
        obtain ⟨n2, h2⟩ := hk _ _ _ H
        exact ⟨max n1 n2, fun m hm => by rw [h1 m (by omega)]; exact h2 m (by omega)⟩
      | some v =>
        obtain ⟨n2, h2⟩ := hk _ _ _ H
        exact ⟨max n1 n2, fun m hm => by rw [h1 m (by omega)]; exact h2 m (by omega)⟩
    | inr a =>
      cases hb : Nat.beq hd 0 with
      | true =>
        simp only [ai_back, hb, cond_true] at H
        exact ⟨n1, fun m hm => by rw [h1 m hm]; simp only [ai_back, hb, cond_true]; exact H⟩
      | false =>
        simp only [ai_back, hb, cond_false] at H
        obtain ⟨n2, h2⟩ := hrc _ _ _ _ _ _ _ H
        exact ⟨max n1 n2, fun m hm => by rw [h1 m (by omega)]; simp only [ai_back, hb, cond_false]; exact h2 m (by omega)⟩
theorem ai_inv_ev {rc : Nat → ai_Rec} {run : ai_Rec} (hrc : ∀ d mi b L st h r, run d mi b L st h = some r → ∃ n, ∀ m, n ≤ m → rc m d mi b L st h = some r) {km : Nat → ai_K} {k : ai_K} {r : (Option Value ⊕ Nat) × ai_Hp} (hk : ∀ L st h, k L st h = some r → ∃ n, ∀ m, n ≤ m → km m L st h = some r) {d mi cal n0 ci hd : Nat} {L st : List Value} {h : ai_Hp} (H : ai_inv run d mi cal n0 ci hd L st h k = some r) : ∃ n, ∀ m, n ≤ m → ai_inv (rc m) d mi cal n0 ci hd L st h (km m) = some r := by
  cases d with
  | zero => simp [ai_inv] at H
  | succ e =>
    unfold ai_inv at H ⊢
    dsimp only at H ⊢
    revert H
    generalize (Nat.ble n0 st.length && (ai_fr h.2.1 L && (ai_fr h.2.1 (st.drop n0) && (Nat.ble (ai_wt (st.drop n0)) 8 && ai_rcv h ci (st.take n0).reverse)))) = cb
    intro H
    cases cb with
    | false => simp at H
    | true =>
      simp only [cond_true] at H ⊢
      refine ai_back_ev hrc hk ?_ H
      intro q hq
      cases hc : Nat.ble 300 cal with
      | true => rw [hc] at hq; exact ⟨0, fun _ _ => hq⟩
      | false =>
        rw [hc] at hq
        simp only [cond_false] at hq ⊢
        exact hrc _ _ _ _ _ _ _ hq
theorem ai_cond_ev {xm : Nat → ai_Res} {x : ai_Res} {b : Bool} {r : (Option Value ⊕ Nat) × ai_Hp} (hx : x = some r → ∃ n, ∀ m, n ≤ m → xm m = some r) (H : cond b x none = some r) : ∃ n, ∀ m, n ≤ m → cond b (xm m) none = some r := by
  cases b with
  | true => exact hx H
  | false => cases H
theorem ai_cond2_ev {xm ym : Nat → ai_Res} {x y : ai_Res} {b : Bool} {r : (Option Value ⊕ Nat) × ai_Hp} (hx : x = some r → ∃ n, ∀ m, n ≤ m → xm m = some r) (hy : y = some r → ∃ n, ∀ m, n ≤ m → ym m = some r) (H : cond b x y = some r) : ∃ n, ∀ m, n ≤ m → cond b (xm m) (ym m) = some r := by
  cases b with
  | true => exact hx H
  | false => exact hy H
set_option maxHeartbeats 4000000 in
theorem ai_step_ev {rc : Nat → ai_Rec} {run : ai_Rec} (hrc : ∀ d mi b L st h r, run d mi b L st h = some r → ∃ n, ∀ m, n ≤ m → rc m d mi b L st h = some r) {km : Nat → ai_K} {k : ai_K} {r : (Option Value ⊕ Nat) × ai_Hp} (hk : ∀ L st h, k L st h = some r → ∃ n, ∀ m, n ≤ m → km m L st h = some r) {d mi : Nat} {op : ai_Op} {L st : List Value} {h : ai_Hp} (H : ai_step run d mi op L st h k = some r) : ∃ n, ∀ m, n ≤ m → ai_step (rc m) d mi op L st h (km m) = some r := by
  obtain ⟨ins, aux, cc⟩ := op
  cases ins
  all_goals dsimp only [ai_step, ai_ldI, ai_ldL, ai_ldA, ai_stI, ai_stL, ai_stA, ai_bin, ai_binL, ai_un1, ai_call, ai_spec, ai_br] at H ⊢
  all_goals first
    | (cases H; done)
    | exact hk _ _ _ H
    | exact hrc _ _ _ _ _ _ _ H
    | exact ⟨0, fun _ _ => H⟩
    | exact ai_inv_ev hrc hk H
    | skip
  all_goals (repeat' (split at H))
  all_goals first
    | (cases H; done)
    | exact hk _ _ _ H
    | exact hrc _ _ _ _ _ _ _ H
    | exact ⟨0, fun _ _ => H⟩
    | exact ai_inv_ev hrc hk H
    | skip
  all_goals first
    | exact ai_cond_ev (hk _ _ _) H
    | (rename_i hc; simp only [if_pos hc]; first | exact hk _ _ _ H | exact hrc _ _ _ _ _ _ _ H)
    | (rename_i hc; simp only [if_neg hc]; first | exact hk _ _ _ H | exact hrc _ _ _ _ _ _ _ H)
    | exact ai_cond2_ev (ai_cond_ev (hk _ _ _)) (ai_inv_ev hrc hk) H
    | exact ai_cond2_ev (fun h => by cases h) (ai_inv_ev hrc hk) H
theorem ai_ops_ev {rc : Nat → ai_Rec} {run : ai_Rec} (hrc : ∀ d mi b L st h r, run d mi b L st h = some r → ∃ n, ∀ m, n ≤ m → rc m d mi b L st h = some r) {d mi nx : Nat} {r : (Option Value ⊕ Nat) × ai_Hp} : ∀ (ops : List ai_Op) (L st : List Value) (h : ai_Hp), ai_ops run d mi nx ops L st h = some r → ∃ n, ∀ m, n ≤ m → ai_ops (rc m) d mi nx ops L st h = some r
  | [], L, st, h, H => hrc _ _ _ _ _ _ _ H
  | op :: ops, L, st, h, H => ai_step_ev hrc (km := fun m L st h => ai_ops (rc m) d mi nx ops L st h) (fun L st h H => ai_ops_ev hrc ops L st h H) H
theorem ai_ex_mono : ∀ (n : Nat) {d mi b : Nat} {L st : List Value} {h : ai_Hp} {r : (Option Value ⊕ Nat) × ai_Hp}, ai_ex n d mi b L st h = some r → ai_ex (n + 1) d mi b L st h = some r
  | 0, d, mi, b, L, st, h, r, H => by cases H
  | n + 1, d, mi, b, L, st, h, r, H => by
    obtain ⟨k, hk⟩ := ai_ops_ev (rc := fun _ => ai_ex (n + 1)) (run := ai_ex n) (fun d mi b L st h r H => ⟨0, fun _ _ => ai_ex_mono n H⟩) (ai_code mi b).1 L st h H
    exact hk k (Nat.le_refl k)
theorem ai_ex_le {n m : Nat} (hm : n ≤ m) {d mi b : Nat} {L st : List Value} {h : ai_Hp} {r : (Option Value ⊕ Nat) × ai_Hp} (H : ai_ex n d mi b L st h = some r) : ai_ex m d mi b L st h = some r := by
  induction m with
  | zero => rw [Nat.le_zero.mp hm] at H; exact H
  | succ m ih =>
    rcases Nat.lt_or_ge n (m + 1) with q | q
    · exact ai_ex_mono m (ih (by omega))
    · rw [show m + 1 = n by omega]; exact H
noncomputable def ai_run : ai_Rec := fun d mi b L st h => @dite _ (∃ (n : Nat) (r : (Option Value ⊕ Nat) × ai_Hp), ai_ex n d mi b L st h = some r) (Classical.propDecidable _) (fun q => some q.choose_spec.choose) (fun _ => none)
theorem ai_run_iff {d mi b : Nat} {L st : List Value} {h : ai_Hp} {r : (Option Value ⊕ Nat) × ai_Hp} : ai_run d mi b L st h = some r ↔ ∃ n, ai_ex n d mi b L st h = some r := by
  unfold ai_run
  constructor
  · intro H
    split at H
    · rename_i q
      exact ⟨q.choose, by rw [q.choose_spec.choose_spec]; exact H⟩
    · cases H
  · intro H
    obtain ⟨n, hn⟩ := H
    have q : ∃ (n : Nat) (r : (Option Value ⊕ Nat) × ai_Hp), ai_ex n d mi b L st h = some r := ⟨n, r, hn⟩
    rw [dif_pos q]
    have h1 := ai_ex_le (Nat.le_max_left n q.choose) hn
    have h2 := ai_ex_le (Nat.le_max_right n q.choose) q.choose_spec.choose_spec
    exact h2.symm.trans h1
theorem ai_run_eq (d mi b : Nat) (L st : List Value) (h : ai_Hp) : ai_run d mi b L st h = ai_blk ai_run d mi b L st h := by
  have one : ∀ r, ai_run d mi b L st h = some r → ai_blk ai_run d mi b L st h = some r := by
    intro r H
    obtain ⟨n, hn⟩ := ai_run_iff.mp H
    cases n with
    | zero => cases hn
    | succ n =>
      obtain ⟨k, hk⟩ := ai_ops_ev (rc := fun _ => ai_run) (run := ai_ex n) (fun d mi b L st h r H => ⟨0, fun _ _ => ai_run_iff.mpr ⟨n, H⟩⟩) (ai_code mi b).1 L st h hn
      exact hk k (Nat.le_refl k)
  have two : ∀ r, ai_blk ai_run d mi b L st h = some r → ai_run d mi b L st h = some r := by
    intro r H
    obtain ⟨k, hk⟩ := ai_ops_ev (rc := ai_ex) (run := ai_run) (fun d mi b L st h r H => by
      obtain ⟨n, hn⟩ := ai_run_iff.mp H
      exact ⟨n, fun m hm => ai_ex_le hm hn⟩) (ai_code mi b).1 L st h H
    exact ai_run_iff.mpr ⟨k + 1, hk k (Nat.le_refl k)⟩
  cases hr : ai_run d mi b L st h with
  | some r => exact (one r hr).symm
  | none =>
    cases hb : ai_blk ai_run d mi b L st h with
    | none => rfl
    | some r => rw [two r hb] at hr; cases hr
end

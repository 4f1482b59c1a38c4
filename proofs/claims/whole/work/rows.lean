section
-- ===== PART A: goes FIRST, ahead of the names: the tables' words, and 'selects' of the private methods out of them =====
/-- a private method of a class that the tables say can be made, by its rows of tables_1 -/
def lw_okq (q : MethodName × Nat) : Prop := (q.1.cls ≠ "java/lang/invoke/MethodHandle" ∧ q.1.cls ≠ "java/lang/invoke/VarHandle") ∧ Cond.instantiable q.1.cls q.2 ∈ tables_1 ∧ Cond.privateMethod q.1 ∈ tables_1 ∧ Cond.instanceMethod q.1 ∈ tables_1
theorem lw_p0 : lw_okq (⟨"FeteBoard$Fete", "openBooths", "()I"⟩, 11) := ⟨⟨by decide +kernel, by decide +kernel⟩, List.mem_of_getElem? (i := 25) (by decide +kernel), List.mem_of_getElem? (i := 236) (by decide +kernel), List.mem_of_getElem? (i := 237) (by decide +kernel)⟩
theorem lw_p1 : lw_okq (⟨"FeteBoard$Fete", "visitorsIn", "(I)I"⟩, 11) := ⟨⟨by decide +kernel, by decide +kernel⟩, List.mem_of_getElem? (i := 25) (by decide +kernel), List.mem_of_getElem? (i := 244) (by decide +kernel), List.mem_of_getElem? (i := 245) (by decide +kernel)⟩
theorem lw_p2 : lw_okq (⟨"FeteBoard$Fete", "prizesLeft", "()I"⟩, 11) := ⟨⟨by decide +kernel, by decide +kernel⟩, List.mem_of_getElem? (i := 25) (by decide +kernel), List.mem_of_getElem? (i := 252) (by decide +kernel), List.mem_of_getElem? (i := 253) (by decide +kernel)⟩
theorem lw_p3 : lw_okq (⟨"FeteBoard", "withBooth", "(JI)J"⟩, 2) := ⟨⟨by decide +kernel, by decide +kernel⟩, List.mem_of_getElem? (i := 17) (by decide +kernel), List.mem_of_getElem? (i := 260) (by decide +kernel), List.mem_of_getElem? (i := 261) (by decide +kernel)⟩
theorem lw_p4 : lw_okq (⟨"FeteBoard", "withVisitor", "(JLFeteBoard$Visitor;)J"⟩, 2) := ⟨⟨by decide +kernel, by decide +kernel⟩, List.mem_of_getElem? (i := 17) (by decide +kernel), List.mem_of_getElem? (i := 276) (by decide +kernel), List.mem_of_getElem? (i := 277) (by decide +kernel)⟩
theorem lw_p5 : lw_okq (⟨"java/lang/Throwable", "fillInStackTrace", "(I)Ljava/lang/Throwable;"⟩, 6) := ⟨⟨by decide +kernel, by decide +kernel⟩, List.mem_of_getElem? (i := 339) (by decide +kernel), List.mem_of_getElem? (i := 337) (by decide +kernel), List.mem_of_getElem? (i := 338) (by decide +kernel)⟩
theorem lw_p6 : lw_okq (⟨"FeteBoard", "requireHelper", "(I)V"⟩, 2) := ⟨⟨by decide +kernel, by decide +kernel⟩, List.mem_of_getElem? (i := 17) (by decide +kernel), List.mem_of_getElem? (i := 441) (by decide +kernel), List.mem_of_getElem? (i := 442) (by decide +kernel)⟩
theorem lw_p7 : lw_okq (⟨"FeteBoard", "requireBooth", "(I)V"⟩, 2) := ⟨⟨by decide +kernel, by decide +kernel⟩, List.mem_of_getElem? (i := 17) (by decide +kernel), List.mem_of_getElem? (i := 465) (by decide +kernel), List.mem_of_getElem? (i := 466) (by decide +kernel)⟩
theorem lw_p8 : lw_okq (⟨"FeteBoard", "requireVisitor", "(I)V"⟩, 2) := ⟨⟨by decide +kernel, by decide +kernel⟩, List.mem_of_getElem? (i := 17) (by decide +kernel), List.mem_of_getElem? (i := 495) (by decide +kernel), List.mem_of_getElem? (i := 496) (by decide +kernel)⟩
theorem lw_p9 : lw_okq (⟨"FeteBoard$Fete", "throwDart", "()V"⟩, 11) := ⟨⟨by decide +kernel, by decide +kernel⟩, List.mem_of_getElem? (i := 25) (by decide +kernel), List.mem_of_getElem? (i := 583) (by decide +kernel), List.mem_of_getElem? (i := 584) (by decide +kernel)⟩
theorem lw_p10 : lw_okq (⟨"FeteBoard$Fete", "choose", "(I)V"⟩, 11) := ⟨⟨by decide +kernel, by decide +kernel⟩, List.mem_of_getElem? (i := 25) (by decide +kernel), List.mem_of_getElem? (i := 592) (by decide +kernel), List.mem_of_getElem? (i := 593) (by decide +kernel)⟩
theorem lw_p11 : lw_okq (⟨"FeteBoard$Fete", "invites", "(ILFeteBoard$Visitor;)Z"⟩, 11) := ⟨⟨by decide +kernel, by decide +kernel⟩, List.mem_of_getElem? (i := 25) (by decide +kernel), List.mem_of_getElem? (i := 596) (by decide +kernel), List.mem_of_getElem? (i := 597) (by decide +kernel)⟩
theorem lw_p12 : lw_okq (⟨"FeteBoard$Fete", "isBetter", "(IILFeteBoard$Visitor;)Z"⟩, 11) := ⟨⟨by decide +kernel, by decide +kernel⟩, List.mem_of_getElem? (i := 25) (by decide +kernel), List.mem_of_getElem? (i := 600) (by decide +kernel), List.mem_of_getElem? (i := 601) (by decide +kernel)⟩
theorem lw_p13 : lw_okq (⟨"FeteBoard$Fete", "serve", "(I)V"⟩, 11) := ⟨⟨by decide +kernel, by decide +kernel⟩, List.mem_of_getElem? (i := 25) (by decide +kernel), List.mem_of_getElem? (i := 608) (by decide +kernel), List.mem_of_getElem? (i := 609) (by decide +kernel)⟩
theorem lw_p14 : lw_okq (⟨"FeteBoard$Fete", "play", "(II)V"⟩, 11) := ⟨⟨by decide +kernel, by decide +kernel⟩, List.mem_of_getElem? (i := 25) (by decide +kernel), List.mem_of_getElem? (i := 616) (by decide +kernel), List.mem_of_getElem? (i := 617) (by decide +kernel)⟩
theorem lw_p15 : lw_okq (⟨"FeteBoard$Fete", "pointsOf", "(LFeteBoard$Visitor;I)I"⟩, 11) := ⟨⟨by decide +kernel, by decide +kernel⟩, List.mem_of_getElem? (i := 25) (by decide +kernel), List.mem_of_getElem? (i := 620) (by decide +kernel), List.mem_of_getElem? (i := 621) (by decide +kernel)⟩
def lw_privs_1 : List (MethodName × Nat) := [(⟨"FeteBoard$Fete", "openBooths", "()I"⟩, 11), (⟨"FeteBoard$Fete", "visitorsIn", "(I)I"⟩, 11), (⟨"FeteBoard$Fete", "prizesLeft", "()I"⟩, 11), (⟨"FeteBoard", "withBooth", "(JI)J"⟩, 2), (⟨"FeteBoard", "withVisitor", "(JLFeteBoard$Visitor;)J"⟩, 2), (⟨"java/lang/Throwable", "fillInStackTrace", "(I)Ljava/lang/Throwable;"⟩, 6), (⟨"FeteBoard", "requireHelper", "(I)V"⟩, 2), (⟨"FeteBoard", "requireBooth", "(I)V"⟩, 2), (⟨"FeteBoard", "requireVisitor", "(I)V"⟩, 2), (⟨"FeteBoard$Fete", "throwDart", "()V"⟩, 11), (⟨"FeteBoard$Fete", "choose", "(I)V"⟩, 11), (⟨"FeteBoard$Fete", "invites", "(ILFeteBoard$Visitor;)Z"⟩, 11), (⟨"FeteBoard$Fete", "isBetter", "(IILFeteBoard$Visitor;)Z"⟩, 11), (⟨"FeteBoard$Fete", "serve", "(I)V"⟩, 11), (⟨"FeteBoard$Fete", "play", "(II)V"⟩, 11), (⟨"FeteBoard$Fete", "pointsOf", "(LFeteBoard$Visitor;I)I"⟩, 11)]
theorem lw_r1 : ∀ q ∈ lw_privs_1, lw_okq q := List.forall_mem_cons.mpr ⟨lw_p0, List.forall_mem_cons.mpr ⟨lw_p1, List.forall_mem_cons.mpr ⟨lw_p2, List.forall_mem_cons.mpr ⟨lw_p3, List.forall_mem_cons.mpr ⟨lw_p4, List.forall_mem_cons.mpr ⟨lw_p5, List.forall_mem_cons.mpr ⟨lw_p6, List.forall_mem_cons.mpr ⟨lw_p7, List.forall_mem_cons.mpr ⟨lw_p8, List.forall_mem_cons.mpr ⟨lw_p9, List.forall_mem_cons.mpr ⟨lw_p10, List.forall_mem_cons.mpr ⟨lw_p11, List.forall_mem_cons.mpr ⟨lw_p12, List.forall_mem_cons.mpr ⟨lw_p13, List.forall_mem_cons.mpr ⟨lw_p14, List.forall_mem_cons.mpr ⟨lw_p15, fun _ h => absurd h List.not_mem_nil⟩⟩⟩⟩⟩⟩⟩⟩⟩⟩⟩⟩⟩⟩⟩⟩
theorem lw_p16 : lw_okq (⟨"FeteBoard$Fete", "tireOrRest", "(I)V"⟩, 11) := ⟨⟨by decide +kernel, by decide +kernel⟩, List.mem_of_getElem? (i := 25) (by decide +kernel), List.mem_of_getElem? (i := 632) (by decide +kernel), List.mem_of_getElem? (i := 633) (by decide +kernel)⟩
theorem lw_p17 : lw_okq (⟨"FeteBoard$Fete", "endHour", "()V"⟩, 11) := ⟨⟨by decide +kernel, by decide +kernel⟩, List.mem_of_getElem? (i := 25) (by decide +kernel), List.mem_of_getElem? (i := 642) (by decide +kernel), List.mem_of_getElem? (i := 643) (by decide +kernel)⟩
theorem lw_p18 : lw_okq (⟨"FeteBoard$Fete", "rewardLine", "(I)V"⟩, 11) := ⟨⟨by decide +kernel, by decide +kernel⟩, List.mem_of_getElem? (i := 25) (by decide +kernel), List.mem_of_getElem? (i := 646) (by decide +kernel), List.mem_of_getElem? (i := 647) (by decide +kernel)⟩
theorem lw_p19 : lw_okq (⟨"FeteBoard", "prizesWonWith", "(III)I"⟩, 2) := ⟨⟨by decide +kernel, by decide +kernel⟩, List.mem_of_getElem? (i := 17) (by decide +kernel), List.mem_of_getElem? (i := 704) (by decide +kernel), List.mem_of_getElem? (i := 705) (by decide +kernel)⟩
theorem lw_p20 : lw_okq (⟨"FeteBoardModel", "fail", "(I)I"⟩, 10) := ⟨⟨by decide +kernel, by decide +kernel⟩, List.mem_of_getElem? (i := 708) (by decide +kernel), List.mem_of_getElem? (i := 756) (by decide +kernel), List.mem_of_getElem? (i := 757) (by decide +kernel)⟩
theorem lw_p21 : lw_okq (⟨"FeteBoardModel", "isHelper", "(I)Z"⟩, 10) := ⟨⟨by decide +kernel, by decide +kernel⟩, List.mem_of_getElem? (i := 708) (by decide +kernel), List.mem_of_getElem? (i := 780) (by decide +kernel), List.mem_of_getElem? (i := 781) (by decide +kernel)⟩
theorem lw_p22 : lw_okq (⟨"FeteBoardModel", "isBooth", "(I)Z"⟩, 10) := ⟨⟨by decide +kernel, by decide +kernel⟩, List.mem_of_getElem? (i := 708) (by decide +kernel), List.mem_of_getElem? (i := 784) (by decide +kernel), List.mem_of_getElem? (i := 785) (by decide +kernel)⟩
theorem lw_p23 : lw_okq (⟨"FeteBoardModel", "he", "(II)I"⟩, 10) := ⟨⟨by decide +kernel, by decide +kernel⟩, List.mem_of_getElem? (i := 708) (by decide +kernel), List.mem_of_getElem? (i := 788) (by decide +kernel), List.mem_of_getElem? (i := 789) (by decide +kernel)⟩
theorem lw_p24 : lw_okq (⟨"FeteBoardModel", "setHe", "(III)V"⟩, 10) := ⟨⟨by decide +kernel, by decide +kernel⟩, List.mem_of_getElem? (i := 708) (by decide +kernel), List.mem_of_getElem? (i := 792) (by decide +kernel), List.mem_of_getElem? (i := 793) (by decide +kernel)⟩
theorem lw_p25 : lw_okq (⟨"FeteBoardModel", "bo", "(II)I"⟩, 10) := ⟨⟨by decide +kernel, by decide +kernel⟩, List.mem_of_getElem? (i := 708) (by decide +kernel), List.mem_of_getElem? (i := 800) (by decide +kernel), List.mem_of_getElem? (i := 801) (by decide +kernel)⟩
theorem lw_p26 : lw_okq (⟨"FeteBoardModel", "setBo", "(III)V"⟩, 10) := ⟨⟨by decide +kernel, by decide +kernel⟩, List.mem_of_getElem? (i := 708) (by decide +kernel), List.mem_of_getElem? (i := 804) (by decide +kernel), List.mem_of_getElem? (i := 805) (by decide +kernel)⟩
theorem lw_p27 : lw_okq (⟨"FeteBoardModel", "isVisitor", "(I)Z"⟩, 10) := ⟨⟨by decide +kernel, by decide +kernel⟩, List.mem_of_getElem? (i := 708) (by decide +kernel), List.mem_of_getElem? (i := 812) (by decide +kernel), List.mem_of_getElem? (i := 813) (by decide +kernel)⟩
theorem lw_p28 : lw_okq (⟨"FeteBoardModel", "vi", "(II)I"⟩, 10) := ⟨⟨by decide +kernel, by decide +kernel⟩, List.mem_of_getElem? (i := 708) (by decide +kernel), List.mem_of_getElem? (i := 816) (by decide +kernel), List.mem_of_getElem? (i := 817) (by decide +kernel)⟩
theorem lw_p29 : lw_okq (⟨"FeteBoardModel", "setVi", "(III)V"⟩, 10) := ⟨⟨by decide +kernel, by decide +kernel⟩, List.mem_of_getElem? (i := 708) (by decide +kernel), List.mem_of_getElem? (i := 820) (by decide +kernel), List.mem_of_getElem? (i := 821) (by decide +kernel)⟩
theorem lw_p30 : lw_okq (⟨"FeteBoardModel", "stroll", "(I)V"⟩, 10) := ⟨⟨by decide +kernel, by decide +kernel⟩, List.mem_of_getElem? (i := 708) (by decide +kernel), List.mem_of_getElem? (i := 828) (by decide +kernel), List.mem_of_getElem? (i := 829) (by decide +kernel)⟩
theorem lw_p31 : lw_okq (⟨"FeteBoardModel", "boothTold", "(II)I"⟩, 10) := ⟨⟨by decide +kernel, by decide +kernel⟩, List.mem_of_getElem? (i := 708) (by decide +kernel), List.mem_of_getElem? (i := 836) (by decide +kernel), List.mem_of_getElem? (i := 837) (by decide +kernel)⟩
def lw_privs_2 : List (MethodName × Nat) := [(⟨"FeteBoard$Fete", "tireOrRest", "(I)V"⟩, 11), (⟨"FeteBoard$Fete", "endHour", "()V"⟩, 11), (⟨"FeteBoard$Fete", "rewardLine", "(I)V"⟩, 11), (⟨"FeteBoard", "prizesWonWith", "(III)I"⟩, 2), (⟨"FeteBoardModel", "fail", "(I)I"⟩, 10), (⟨"FeteBoardModel", "isHelper", "(I)Z"⟩, 10), (⟨"FeteBoardModel", "isBooth", "(I)Z"⟩, 10), (⟨"FeteBoardModel", "he", "(II)I"⟩, 10), (⟨"FeteBoardModel", "setHe", "(III)V"⟩, 10), (⟨"FeteBoardModel", "bo", "(II)I"⟩, 10), (⟨"FeteBoardModel", "setBo", "(III)V"⟩, 10), (⟨"FeteBoardModel", "isVisitor", "(I)Z"⟩, 10), (⟨"FeteBoardModel", "vi", "(II)I"⟩, 10), (⟨"FeteBoardModel", "setVi", "(III)V"⟩, 10), (⟨"FeteBoardModel", "stroll", "(I)V"⟩, 10), (⟨"FeteBoardModel", "boothTold", "(II)I"⟩, 10)]
theorem lw_r2 : ∀ q ∈ lw_privs_2, lw_okq q := List.forall_mem_cons.mpr ⟨lw_p16, List.forall_mem_cons.mpr ⟨lw_p17, List.forall_mem_cons.mpr ⟨lw_p18, List.forall_mem_cons.mpr ⟨lw_p19, List.forall_mem_cons.mpr ⟨lw_p20, List.forall_mem_cons.mpr ⟨lw_p21, List.forall_mem_cons.mpr ⟨lw_p22, List.forall_mem_cons.mpr ⟨lw_p23, List.forall_mem_cons.mpr ⟨lw_p24, List.forall_mem_cons.mpr ⟨lw_p25, List.forall_mem_cons.mpr ⟨lw_p26, List.forall_mem_cons.mpr ⟨lw_p27, List.forall_mem_cons.mpr ⟨lw_p28, List.forall_mem_cons.mpr ⟨lw_p29, List.forall_mem_cons.mpr ⟨lw_p30, List.forall_mem_cons.mpr ⟨lw_p31, fun _ h => absurd h List.not_mem_nil⟩⟩⟩⟩⟩⟩⟩⟩⟩⟩⟩⟩⟩⟩⟩⟩
theorem lw_p32 : lw_okq (⟨"FeteBoardModel", "cost", "(I)I"⟩, 10) := ⟨⟨by decide +kernel, by decide +kernel⟩, List.mem_of_getElem? (i := 708) (by decide +kernel), List.mem_of_getElem? (i := 840) (by decide +kernel), List.mem_of_getElem? (i := 841) (by decide +kernel)⟩
theorem lw_p33 : lw_okq (⟨"FeteBoardModel", "working", "(I)I"⟩, 10) := ⟨⟨by decide +kernel, by decide +kernel⟩, List.mem_of_getElem? (i := 708) (by decide +kernel), List.mem_of_getElem? (i := 844) (by decide +kernel), List.mem_of_getElem? (i := 845) (by decide +kernel)⟩
theorem lw_p34 : lw_okq (⟨"FeteBoardModel", "isOpen", "(I)Z"⟩, 10) := ⟨⟨by decide +kernel, by decide +kernel⟩, List.mem_of_getElem? (i := 708) (by decide +kernel), List.mem_of_getElem? (i := 848) (by decide +kernel), List.mem_of_getElem? (i := 849) (by decide +kernel)⟩
theorem lw_p35 : lw_okq (⟨"FeteBoardModel", "length", "(I)I"⟩, 10) := ⟨⟨by decide +kernel, by decide +kernel⟩, List.mem_of_getElem? (i := 708) (by decide +kernel), List.mem_of_getElem? (i := 852) (by decide +kernel), List.mem_of_getElem? (i := 853) (by decide +kernel)⟩
theorem lw_p36 : lw_okq (⟨"FeteBoardModel", "at", "(II)I"⟩, 10) := ⟨⟨by decide +kernel, by decide +kernel⟩, List.mem_of_getElem? (i := 708) (by decide +kernel), List.mem_of_getElem? (i := 860) (by decide +kernel), List.mem_of_getElem? (i := 861) (by decide +kernel)⟩
theorem lw_p37 : lw_okq (⟨"FeteBoardModel", "visitorTold", "(II)I"⟩, 10) := ⟨⟨by decide +kernel, by decide +kernel⟩, List.mem_of_getElem? (i := 708) (by decide +kernel), List.mem_of_getElem? (i := 872) (by decide +kernel), List.mem_of_getElem? (i := 873) (by decide +kernel)⟩
theorem lw_p38 : lw_okq (⟨"FeteBoardModel", "roundsOn", "(I)I"⟩, 10) := ⟨⟨by decide +kernel, by decide +kernel⟩, List.mem_of_getElem? (i := 708) (by decide +kernel), List.mem_of_getElem? (i := 888) (by decide +kernel), List.mem_of_getElem? (i := 889) (by decide +kernel)⟩
theorem lw_p39 : lw_okq (⟨"FeteBoardModel", "roundOn", "()I"⟩, 10) := ⟨⟨by decide +kernel, by decide +kernel⟩, List.mem_of_getElem? (i := 708) (by decide +kernel), List.mem_of_getElem? (i := 892) (by decide +kernel), List.mem_of_getElem? (i := 893) (by decide +kernel)⟩
theorem lw_p40 : lw_okq (⟨"FeteBoardModel", "dart", "()V"⟩, 10) := ⟨⟨by decide +kernel, by decide +kernel⟩, List.mem_of_getElem? (i := 708) (by decide +kernel), List.mem_of_getElem? (i := 896) (by decide +kernel), List.mem_of_getElem? (i := 897) (by decide +kernel)⟩
theorem lw_p41 : lw_okq (⟨"FeteBoardModel", "choose", "(I)V"⟩, 10) := ⟨⟨by decide +kernel, by decide +kernel⟩, List.mem_of_getElem? (i := 708) (by decide +kernel), List.mem_of_getElem? (i := 901) (by decide +kernel), List.mem_of_getElem? (i := 902) (by decide +kernel)⟩
theorem lw_p42 : lw_okq (⟨"FeteBoardModel", "play", "(II)Z"⟩, 10) := ⟨⟨by decide +kernel, by decide +kernel⟩, List.mem_of_getElem? (i := 708) (by decide +kernel), List.mem_of_getElem? (i := 905) (by decide +kernel), List.mem_of_getElem? (i := 906) (by decide +kernel)⟩
theorem lw_p43 : lw_okq (⟨"FeteBoardModel", "write", "(III)V"⟩, 10) := ⟨⟨by decide +kernel, by decide +kernel⟩, List.mem_of_getElem? (i := 708) (by decide +kernel), List.mem_of_getElem? (i := 909) (by decide +kernel), List.mem_of_getElem? (i := 910) (by decide +kernel)⟩
theorem lw_p44 : lw_okq (⟨"FeteBoardModel", "endHour", "()V"⟩, 10) := ⟨⟨by decide +kernel, by decide +kernel⟩, List.mem_of_getElem? (i := 708) (by decide +kernel), List.mem_of_getElem? (i := 915) (by decide +kernel), List.mem_of_getElem? (i := 916) (by decide +kernel)⟩
theorem lw_p45 : lw_okq (⟨"FeteBoardModel", "counted", "(I)I"⟩, 10) := ⟨⟨by decide +kernel, by decide +kernel⟩, List.mem_of_getElem? (i := 708) (by decide +kernel), List.mem_of_getElem? (i := 923) (by decide +kernel), List.mem_of_getElem? (i := 924) (by decide +kernel)⟩
theorem lw_p46 : lw_okq (⟨"FeteBoardModel", "with", "(I)I"⟩, 10) := ⟨⟨by decide +kernel, by decide +kernel⟩, List.mem_of_getElem? (i := 708) (by decide +kernel), List.mem_of_getElem? (i := 927) (by decide +kernel), List.mem_of_getElem? (i := 928) (by decide +kernel)⟩
theorem lw_p47 : lw_okq (⟨"FeteBoardModel", "kept", "()[[I"⟩, 10) := ⟨⟨by decide +kernel, by decide +kernel⟩, List.mem_of_getElem? (i := 708) (by decide +kernel), List.mem_of_getElem? (i := 935) (by decide +kernel), List.mem_of_getElem? (i := 936) (by decide +kernel)⟩
def lw_privs_3 : List (MethodName × Nat) := [(⟨"FeteBoardModel", "cost", "(I)I"⟩, 10), (⟨"FeteBoardModel", "working", "(I)I"⟩, 10), (⟨"FeteBoardModel", "isOpen", "(I)Z"⟩, 10), (⟨"FeteBoardModel", "length", "(I)I"⟩, 10), (⟨"FeteBoardModel", "at", "(II)I"⟩, 10), (⟨"FeteBoardModel", "visitorTold", "(II)I"⟩, 10), (⟨"FeteBoardModel", "roundsOn", "(I)I"⟩, 10), (⟨"FeteBoardModel", "roundOn", "()I"⟩, 10), (⟨"FeteBoardModel", "dart", "()V"⟩, 10), (⟨"FeteBoardModel", "choose", "(I)V"⟩, 10), (⟨"FeteBoardModel", "play", "(II)Z"⟩, 10), (⟨"FeteBoardModel", "write", "(III)V"⟩, 10), (⟨"FeteBoardModel", "endHour", "()V"⟩, 10), (⟨"FeteBoardModel", "counted", "(I)I"⟩, 10), (⟨"FeteBoardModel", "with", "(I)I"⟩, 10), (⟨"FeteBoardModel", "kept", "()[[I"⟩, 10)]
theorem lw_r3 : ∀ q ∈ lw_privs_3, lw_okq q := List.forall_mem_cons.mpr ⟨lw_p32, List.forall_mem_cons.mpr ⟨lw_p33, List.forall_mem_cons.mpr ⟨lw_p34, List.forall_mem_cons.mpr ⟨lw_p35, List.forall_mem_cons.mpr ⟨lw_p36, List.forall_mem_cons.mpr ⟨lw_p37, List.forall_mem_cons.mpr ⟨lw_p38, List.forall_mem_cons.mpr ⟨lw_p39, List.forall_mem_cons.mpr ⟨lw_p40, List.forall_mem_cons.mpr ⟨lw_p41, List.forall_mem_cons.mpr ⟨lw_p42, List.forall_mem_cons.mpr ⟨lw_p43, List.forall_mem_cons.mpr ⟨lw_p44, List.forall_mem_cons.mpr ⟨lw_p45, List.forall_mem_cons.mpr ⟨lw_p46, List.forall_mem_cons.mpr ⟨lw_p47, fun _ h => absurd h List.not_mem_nil⟩⟩⟩⟩⟩⟩⟩⟩⟩⟩⟩⟩⟩⟩⟩⟩
theorem lw_p48 : lw_okq (⟨"FeteBoardModel", "bringBack", "([[I)V"⟩, 10) := ⟨⟨by decide +kernel, by decide +kernel⟩, List.mem_of_getElem? (i := 708) (by decide +kernel), List.mem_of_getElem? (i := 947) (by decide +kernel), List.mem_of_getElem? (i := 948) (by decide +kernel)⟩
def lw_privs_4 : List (MethodName × Nat) := [(⟨"FeteBoardModel", "bringBack", "([[I)V"⟩, 10)]
theorem lw_r4 : ∀ q ∈ lw_privs_4, lw_okq q := List.forall_mem_cons.mpr ⟨lw_p48, fun _ h => absurd h List.not_mem_nil⟩
def lw_privs : List (MethodName × Nat) := lw_privs_1 ++ (lw_privs_2 ++ (lw_privs_3 ++ (lw_privs_4)))
def lw_tbl : List Cond := k2_sels lw_privs ++ tables_1
theorem lw_privs_ok : ∀ q ∈ lw_privs, lw_okq q := by
  show ∀ q ∈ lw_privs_1 ++ (lw_privs_2 ++ (lw_privs_3 ++ (lw_privs_4))), lw_okq q
  exact List.forall_mem_append.mpr ⟨lw_r1, List.forall_mem_append.mpr ⟨lw_r2, List.forall_mem_append.mpr ⟨lw_r3, lw_r4⟩⟩⟩
/-- the streams that the claim lets the run draw from -/
abbrev lw_cs : List Choice := [Jvm.Choice.named "NaN.bits"]
theorem lw_bits : nanBits ∈ lw_cs := by first | decide | exact List.mem_cons_self | simp [lw_cs, nanBits]
-- ===== end of PART A; then your names; then what follows =====
end
section
/-! ===== BEGIN words of one list among another's, by their places ===== -/
theorem goodIn_r {big : List Cond} (ws : List Cond) (ps : List Nat) (hp : ws = ps.filterMap (fun i => big[i]?)) (h : ws.all goodWord = true) : GoodIn big ws := by
  intro w hw
  have h1 := List.all_eq_true.mp h w hw
  rw [hp] at hw
  obtain ⟨i, -, hi⟩ := List.mem_filterMap.mp hw
  have hm : w ∈ big := by first | exact List.mem_of_getElem? hi | exact List.getElem?_mem hi
  exact ⟨hm, good_of_word h1⟩
theorem goodIn_app {big a b : List Cond} (ha : GoodIn big a) (hb : GoodIn big b) : GoodIn big (a ++ b) := fun w h => (List.mem_append.mp h).elim (ha w) (hb w)
theorem goodIn_ca {big a b : List Cond} {c : Cond} (ha : GoodIn big (c :: a)) (hb : GoodIn big b) : GoodIn big (c :: (a ++ b)) := fun w h => (List.mem_cons.mp h).elim (fun e => ha w (List.mem_cons.mpr (Or.inl e))) (fun h => (List.mem_append.mp h).elim (fun h => ha w (List.mem_cons.mpr (Or.inr h))) (hb w))
theorem goodIn_sub {big ws : List Cond} (hm : ∀ w ∈ ws, w ∈ big) (h : ws.all goodWord = true) : GoodIn big ws := fun w hw => ⟨hm w hw, good_of_word (List.all_eq_true.mp h w hw)⟩
/-! ===== END ===== -/

/-! ===== BEGIN exceptions that leave a method, and their catching by the caller (launches without stack traces) ===== -/
section VXA
/-! The laws vx_back, vx_callV, vx_callS, vx_callSW, vx_throw0, vx_throwS follow proofs of the library, with one case more: JvmDerived/Free/Laws.lean (Back.of_free), Shelf42/LK1.lean (callV, callS), Shelf/KitTraced.lean (throwNew0V, throwNewS). -/
/-- where a method has thrown q: the class by its name, the cell, what was written, the world -/
def vx_T (XC : String → State → State → Prop) (st : State) (q : Addr) (t : State) (mc ms : Nat) (free : Addr → Prop) : Prop :=
  ∃ (E : String) (ce : Cell) (L : List Loc), XC E st t ∧ t.heap[q]? = some ce ∧ ce.vm = .none ∧ st.vm.findClass E = some ce.cls ∧ st.WarmedH t.vm ∧ st.sameButNew ({ t with vm := st.vm } : State) L mc ms ∧ ∀ z ∈ L, free z.base
def vx_Q (Qc : Array Value → State → Outcome → State → Prop) (XC : String → State → State → Prop) (mc ms : Nat) (free : Addr → Prop) : Array Value → State → Outcome → State → Prop := fun a st o t =>
  (Qc a st o t ∧ ∃ L, FrameEnd st o t L mc ms ∧ ∀ q ∈ L, free q.base) ∨ ∃ q, o = .threw q ∧ vx_T XC st q t mc ms free
/-- a callee that returns or throws -/
def vx_Met (l : Launch) (y : MethodName) (ws : List Cond) (rm : Room) (Pc : Array Value → State → Prop) (Qc : Array Value → State → Outcome → State → Prop) (XC : String → State → State → Prop) (mc ms : Nat) (free : Addr → Prop) : Prop :=
  MetFree l y (headSpec ws rm) Pc (fun _ _ _ _ _ => True) (vx_Q Qc XC mc ms free)
def vx_Post (XC : String → State → State → Prop) (mc ms : Nat) (free : Addr → Prop) : Pt → Array Value → Addr → Pt → Prop := fun A a q B =>
  ∃ (g : JFrame) (mk : MethodId) (t : State) (L : List Loc) (E : String) (ce : Cell), B.U.heap = t.heap ∧ B.U.vm = t.vm ∧ XC E (A.U.calling g mk a) t ∧ t.heap[q]? = some ce ∧ ce.vm = .none ∧ A.U.vm.findClass E = some ce.cls ∧ B.locs = A.locs ++ L ∧ (∀ z ∈ L, free z.base) ∧ B.cells = A.cells + mc ∧ B.slots = A.slots + ms
def vx_Back (l : Launch) (R : Room) (p : Program) (e : Env) (below : List Frame) (s : State) (sargs : Array Value) (y : MethodName) (len W9 : Nat)
    (Pre : Pt → Array Value → Prop) (Post : Pt → Array Value → Option Value → Pt → Prop) (PostX : Pt → Array Value → Addr → Pt → Prop) : Prop :=
  ∀ (m : MethodId) (meth : Method) (c : Code) (A : Pt) (g : JFrame) (ig : Instr) (mk : MethodId) (a : Array Value),
    Stand p l e R s m sargs below meth c A.U A.locs A.cells A.slots → g.method = m → g.locals.size = c.maxLocals → decode c.code g.pc = .ok (ig, len) →
    2 * g.monitorRoom + (g.stack.map fun v => v.category).sum ≤ W9 → A.U.methodNamed? y = some mk → Pre A a →
    (∃ (v : Option Value) (B : Pt), Stand p l e R s m sargs below meth c B.U B.locs B.cells B.slots ∧ Post A a v B ∧
      Steps p.tables e below (doInvoke e (A.U.setTop g) [] mk a).1 (B.U.setTop { g with pc := g.pc + len, stack := v.toList ++ g.stack })) ∨
    (∃ (q : Addr) (B : Pt), Stand p l e R s m sargs below meth c B.U B.locs B.cells B.slots ∧ PostX A a q B ∧
      Steps p.tables e below (doInvoke e (A.U.setTop g) [] mk a).1 ((B.U.setTop g).pushFrame (.throwing q)))
section Payer
variable {l : Launch} {R : Room} {p : Program} {e : Env} {below : List Frame} {s : State} {sargs : Array Value} {y : MethodName} {len W9 : Nat}
theorem vx_back {ws : List Cond} {rm : Room} {Pc : Array Value → State → Prop} {Qc : Array Value → State → Outcome → State → Prop} {XC : String → State → State → Prop} {mc ms : Nat} {free : Addr → Prop} {bytes : ByteArray} {maxL : Nat} {ret : Option FieldType}
    (hM : vx_Met l y ws rm Pc Qc XC mc ms free) (hblind : FrameBlind Pc) (hrc : rm.cells = mc) (hrs : rm.slots = ms)
    (hframes : rm.frames + 1 ≤ R.frames) (hlocals : W9 + (maxL + 11) + rm.locals ≤ R.locals)
    (hws : ∀ w ∈ ws, ∀ a' U, s.WarmedH U.vm → w.before a' U = true) (hcode : Cond.code y bytes maxL ret ∈ ws) (hinit : ∀ a' U, s.WarmedH U.vm → (Cond.initialized y.cls).before a' U = true) :
    vx_Back l R p e below s sargs y len W9 (PreOf R mc ms Pc) (PostOf Qc mc ms free) (vx_Post XC mc ms free) := by
  intro m meth c A g ig mk a X hg hsize hdg hW hn hp
  have h1 : (headSpec ws rm).pre.before a A.U = true := atoms_intro fun w hw => hws w hw _ _ X.warmed
  have h2 : (Cond.code y bytes maxL ret).before a A.U = true := hws _ hcode _ _ X.warmed
  have h3 : (Cond.initialized y.cls).before a A.U = true := hinit _ _ X.warmed
  have h4 : A.cells + (headSpec ws rm).room.cells ≤ R.cells := by rw [show (headSpec ws rm).room.cells = mc from hrc]; exact hp.1
  have h5 : A.slots + (headSpec ws rm).room.slots ≤ R.slots := by rw [show (headSpec ws rm).room.slots = ms from hrs]; exact hp.2.1
  have hPc : Pc a (A.U.calling g mk a) := hblind _ _ _ _ hp.2.2
  obtain ⟨U, Ls, c0, s0⟩ := A
  dsimp only [Pt.U, Pt.locs, Pt.cells, Pt.slots] at h1 h2 h3 h4 h5 X hn hPc ⊢
  obtain ⟨methY, cY, hmY, hcY, -, hlY, -, -, -, -⟩ := Cond.code_spec hn h2
  obtain ⟨kY, hkY, -⟩ := className_of_methodNamed hn
  have hinitY : kY.init = .initialized := Cond.initialized_spec (findClass_of_methodNamed hn) hkY h3
  have h : At U g.method c below := by rw [hg]; exact X.here
  have hlocals9 : W9 + (maxL + 11) + (headSpec ws rm).room.locals ≤ R.locals := hlocals
  have happ : (headSpec ws rm).appliesLoose y e.platform (U.calling g mk a) = true :=
    Spec.appliesLoose_calling (g := g) h hdg hn hkY hinitY
      (X.room_calling (g := g) (R' := (headSpec ws rm).room) hsize hmY hcY hframes (by rw [hlY]; omega) h4 h5) h1
  obtain ⟨mid, hmid⟩ := h.above
  have hfr : (U.setTop g).frames = (.java g :: mid) ++ below := by rw [State.frames_setTop' g h.top, hmid]; rfl
  obtain ⟨o, s₂, hsteps, -, hend, hq⟩ := Steps.callFree hM p X.admits X.cas X.clock (acts := []) hfr happ hPc trivial
  have hq' : vx_Q Qc XC mc ms free a (U.calling g mk a) o s₂ := hq
  rw [State.frames_setTop' g h.top] at hend
  obtain ⟨g₀, hg0⟩ := Option.isSome_iff_exists.mp h.top
  obtain ⟨r, hr⟩ := State.topJava?_eq_some.mp hg0
  have hr' : (({ U with heap := s₂.heap, slotsUsed := s₂.slotsUsed } : State).setVm s₂.vm).frames = .java g₀ :: r := hr
  rcases hq' with ⟨hqc, L, hfe, hL⟩ | ⟨q, rfl, E, ce, L, hx, hce, hcv, hcl, hW₂, hsm, hL⟩
  · obtain ⟨⟨v, rfl⟩, hW₂, e2, q2, q3, q4, q5, q6⟩ := id hfe
    have e3 : s₂ = ({ (U.calling g mk a).setFrames s₂.frames with heap := s₂.heap, slotsUsed := s₂.slotsUsed } : State).setVm s₂.vm := by
      have : s₂ = ({ s₂ with vm := (U.calling g mk a).vm } : State).setVm s₂.vm := rfl
      rw [e2] at this
      exact this
    obtain ⟨c₂, i₂, len₂, hc₂, hd₂, hf₂⟩ := hend
    have hW' : U.WarmedH s₂.vm := hW₂
    have hcc : c₂ = c := by
      have h1 : s₂.code? g.method = U.code? g.method := by
        rw [State.code?_eq, State.code?_eq, hW'.alike.method?]
      exact Option.some.inj (hc₂.symm.trans (h1.trans h.code))
    subst hcc
    have hlen : len₂ = len := by rw [hdg] at hd₂; cases hd₂; rfl
    subst hlen
    have hs₂ : s₂ = (({ U with heap := s₂.heap, slotsUsed := s₂.slotsUsed } : State).setVm s₂.vm).setTop { g with pc := g.pc + len₂, stack := v.toList ++ g.stack } := by
      refine e3.trans ?_
      rw [hf₂, State.calling_eq h.top, State.setFrames_setFrames, State.setTop_of_frames _ hr', hr]
      rfl
    have hsame : U.sameButNew ({ U with heap := s₂.heap, slotsUsed := s₂.slotsUsed } : State) L mc ms := by
      refine ⟨?_, q2, q3, q4, q5, q6⟩
      obtain ⟨t, ht, -⟩ := State.frames_cons hr
      show ({ U with heap := s₂.heap, slotsUsed := s₂.slotsUsed } : State) = { U.setFrames U.frames with heap := s₂.heap, slotsUsed := s₂.slotsUsed }
      rw [State.setFrames_self ht]
    subst hg
    refine Or.inl ⟨v, ⟨(({ U with heap := s₂.heap, slotsUsed := s₂.slotsUsed } : State).setVm s₂.vm), Ls ++ L, c0 + mc, s0 + ms⟩,
      ⟨X.admits, X.cas, X.clock, X.frames, X.room, X.hears, X.method, X.code, (X.here.setHeapUsed s₂.heap s₂.slotsUsed).setVm hW'.alike, X.tail, State.WarmedH.trans X.warmed hW', X.limits, X.bytes, X.same.trans (hsame.setVm s.vm)⟩,
      ⟨g, mk, s₂, L, rfl, rfl, hqc, rfl, hL, rfl, rfl⟩, ?_⟩
    show Steps p.tables e below _ ((({ U with heap := s₂.heap, slotsUsed := s₂.slotsUsed } : State).setVm s₂.vm).setTop { g with pc := g.pc + len₂, stack := v.toList ++ g.stack })
    rw [← hs₂]
    exact hsteps
  · obtain ⟨e2, q2, q3, q4, q5, q6⟩ := id hsm
    have e3 : s₂ = ({ (U.calling g mk a).setFrames s₂.frames with heap := s₂.heap, slotsUsed := s₂.slotsUsed } : State).setVm s₂.vm := by
      have : s₂ = ({ s₂ with vm := (U.calling g mk a).vm } : State).setVm s₂.vm := rfl
      rw [e2] at this
      exact this
    have hf₂ : s₂.frames = .throwing q :: .java g :: U.frames.tail := hend
    have hW' : U.WarmedH s₂.vm := hW₂
    have hs₂ : s₂ = ((({ U with heap := s₂.heap, slotsUsed := s₂.slotsUsed } : State).setVm s₂.vm).setTop g).pushFrame (.throwing q) := by
      refine e3.trans ?_
      rw [hf₂, State.calling_eq h.top, State.setFrames_setFrames, State.pushFrame, State.frames_setTop _ hr', State.setTop_of_frames _ hr', State.setFrames_setFrames, hr]
      rfl
    have hsame : U.sameButNew ({ U with heap := s₂.heap, slotsUsed := s₂.slotsUsed } : State) L mc ms := by
      refine ⟨?_, q2, q3, q4, q5, q6⟩
      obtain ⟨t, ht, -⟩ := State.frames_cons hr
      show ({ U with heap := s₂.heap, slotsUsed := s₂.slotsUsed } : State) = { U.setFrames U.frames with heap := s₂.heap, slotsUsed := s₂.slotsUsed }
      rw [State.setFrames_self ht]
    subst hg
    refine Or.inr ⟨q, ⟨(({ U with heap := s₂.heap, slotsUsed := s₂.slotsUsed } : State).setVm s₂.vm), Ls ++ L, c0 + mc, s0 + ms⟩,
      ⟨X.admits, X.cas, X.clock, X.frames, X.room, X.hears, X.method, X.code, (X.here.setHeapUsed s₂.heap s₂.slotsUsed).setVm hW'.alike, X.tail, State.WarmedH.trans X.warmed hW', X.limits, X.bytes, X.same.trans (hsame.setVm s.vm)⟩,
      ⟨g, mk, s₂, L, E, ce, rfl, rfl, hx, hce, hcv, hcl, rfl, hL, rfl, rfl⟩, ?_⟩
    show Steps p.tables e below _ (((({ U with heap := s₂.heap, slotsUsed := s₂.slotsUsed } : State).setVm s₂.vm).setTop g).pushFrame (.throwing q))
    rw [← hs₂]
    exact hsteps
end Payer
section Calls
variable {p : Program} {l : Launch} {e : Env} {R : Room} {s : State} {m : MethodId} {args : Array Value} {below : List Frame} {meth : Method} {c : Code} {T : State} {locs : List Loc} {cells slots : Nat}
theorem vx_callV (X : Stand p l e R s m args below meth c T locs cells slots) (hexec : p.tables.exec = Jvm.exec) {own C : String} {index : Nat} {y : MethodName} {bytes : ByteArray} {maxL : Nat} {ret : Option FieldType}
    (hown : s.vm.findClass own = some m.cls) (hlink : (Cond.methodLink own index y).before args s = true) (hinst : (Cond.instanceMethod y).before args s = true) (hsel : (Cond.selects C y y).before args s = true)
    (hcode : (Cond.code y bytes maxL ret).before args s = true) (hy : y.cls ≠ "java/lang/invoke/MethodHandle" ∧ y.cls ≠ "java/lang/invoke/VarHandle")
    {W9 : Nat} {Pre : Pt → Array Value → Prop} {Post : Pt → Array Value → Option Value → Pt → Prop} {PostX : Pt → Array Value → Addr → Pt → Prop} (hK : vx_Back l R p e below s args y 3 W9 Pre Post PostX)
    {b : Addr} {cellB : Cell} (hcell : T.heap[b]? = some cellB) (hobj : cellB.vm.isStatics = false) (hcls : s.vm.findClass C = some cellB.cls)
    {g : JFrame} (hg : g.method = m) (hsize : g.locals.size = c.maxLocals) {argsL rest : List Value} (hlen : ∀ sig, parseMethodDescriptor y.desc = some sig → argsL.length = sig.parameters.length)
    (hstack : g.stack = argsL.reverse ++ .ref b :: rest) (hW : 2 * g.monitorRoom + (rest.map fun v => v.category).sum ≤ W9) (hdg : decode c.code g.pc = .ok (.invokevirtual index, 3))
    (hpre : ∀ vm₁, s.WarmedH vm₁ → Pre ⟨T.setVm vm₁, locs, cells, slots⟩ (Value.ref b :: argsL).toArray) :
    (∃ (v : Option Value) (vm₁ : Vm) (B : Pt), s.WarmedH vm₁ ∧ Stand p l e R s m args below meth c B.U B.locs B.cells B.slots ∧ Post ⟨T.setVm vm₁, locs, cells, slots⟩ (Value.ref b :: argsL).toArray v B ∧
      ∀ target, Steps p.tables e below (B.U.setTop { g with pc := g.pc + 3, stack := v.toList ++ rest }) target → Steps p.tables e below (T.setTop g) target) ∨
    (∃ (q : Addr) (vm₁ : Vm) (B : Pt), s.WarmedH vm₁ ∧ Stand p l e R s m args below meth c B.U B.locs B.cells B.slots ∧ PostX ⟨T.setVm vm₁, locs, cells, slots⟩ (Value.ref b :: argsL).toArray q B ∧
      Steps p.tables e below (T.setTop g) ((B.U.setTop { g with stack := rest }).pushFrame (.throwing q))) := by
  obtain ⟨mk, methM, hnamed, hmethM, hstM, habM⟩ := Cond.instanceMethod_spec hinst
  obtain ⟨methM', cM, hmethM', -, -, -, -, -, -, hsigM⟩ := Cond.code_spec hnamed hcode
  cases hmethM.symm.trans hmethM'
  obtain ⟨c2, r2, m2, q1, q2, q3, q4, kP, hkP, hkPi⟩ := Cond.selects_spec hsel
  cases hcls.symm.trans q1
  cases (State.methodFound?_of_named hnamed hy).symm.trans q2
  cases hnamed.symm.trans q3
  have hselP : selectMethod e.platform s.vm cellB.cls mk = .method mk := by rw [Launch.admits_selectMethod X.admits]; exact q4
  obtain ⟨vm₁, X₁, hstep₁⟩ := X.invokevirtual hexec hown hlink hnamed hmethM hstM hkP hkPi hy (a := b) (cell := cellB) hcell
    (fun z h => by rw [h] at hobj; cases hobj) hselP hmethM habM hkP hkPi (g := g) hg (argsL := argsL) (rest := rest) (hlen _ hsigM) hstack hdg
  rcases hK m meth c ⟨T.setVm vm₁, locs, cells, slots⟩ { g with stack := rest } (.invokevirtual index) mk (Value.ref b :: argsL).toArray X₁ hg hsize hdg hW (X₁.named hnamed) (hpre vm₁ X₁.warmed) with ⟨v, B, X', hpost, hsteps⟩ | ⟨q, B, X', hpost, hsteps⟩
  · exact Or.inl ⟨v, vm₁, B, X₁.warmed, X', hpost, fun target h => hstep₁ _ fun acts => by rw [doInvoke_state]; exact hsteps.trans h⟩
  · exact Or.inr ⟨q, vm₁, B, X₁.warmed, X', hpost, hstep₁ _ fun acts => by rw [doInvoke_state]; exact hsteps⟩
theorem vx_callS (X : Stand p l e R s m args below meth c T locs cells slots) (hexec : p.tables.exec = Jvm.exec) {own : String} {index : Nat} {y : MethodName} {bytes : ByteArray} {maxL : Nat} {ret : Option FieldType}
    (hown : s.vm.findClass own = some m.cls) (hlink : (Cond.methodLink own index y).before args s = true) (hstat : (Cond.static y).before args s = true) (hinit : (Cond.initialized y.cls).before args s = true)
    (hcode : (Cond.code y bytes maxL ret).before args s = true) (hy : y.cls ≠ "java/lang/invoke/MethodHandle" ∧ y.cls ≠ "java/lang/invoke/VarHandle")
    {W9 : Nat} {Pre : Pt → Array Value → Prop} {Post : Pt → Array Value → Option Value → Pt → Prop} {PostX : Pt → Array Value → Addr → Pt → Prop} (hK : vx_Back l R p e below s args y 3 W9 Pre Post PostX)
    {g : JFrame} (hg : g.method = m) (hsize : g.locals.size = c.maxLocals) {argsL rest : List Value} (hlen : ∀ sig, parseMethodDescriptor y.desc = some sig → argsL.length = sig.parameters.length)
    (hstack : g.stack = argsL.reverse ++ rest) (hW : 2 * g.monitorRoom + (rest.map fun v => v.category).sum ≤ W9) (hdg : decode c.code g.pc = .ok (.invokestatic index, 3))
    (hpre : ∀ vm₁, s.WarmedH vm₁ → Pre ⟨T.setVm vm₁, locs, cells, slots⟩ argsL.toArray) :
    (∃ (v : Option Value) (vm₁ : Vm) (B : Pt), s.WarmedH vm₁ ∧ Stand p l e R s m args below meth c B.U B.locs B.cells B.slots ∧ Post ⟨T.setVm vm₁, locs, cells, slots⟩ argsL.toArray v B ∧
      ∀ target, Steps p.tables e below (B.U.setTop { g with pc := g.pc + 3, stack := v.toList ++ rest }) target → Steps p.tables e below (T.setTop g) target) ∨
    (∃ (q : Addr) (vm₁ : Vm) (B : Pt), s.WarmedH vm₁ ∧ Stand p l e R s m args below meth c B.U B.locs B.cells B.slots ∧ PostX ⟨T.setVm vm₁, locs, cells, slots⟩ argsL.toArray q B ∧
      Steps p.tables e below (T.setTop g) ((B.U.setTop { g with stack := rest }).pushFrame (.throwing q))) := by
  obtain ⟨mk, hnamed⟩ := Cond.code_named hcode
  obtain ⟨methM, cM, hmethM, -, -, -, -, -, -, hsigM⟩ := Cond.code_spec hnamed hcode
  have hstatic : methM.isStatic = true := Cond.static_spec hnamed hmethM hstat
  obtain ⟨kP, hkP, -⟩ := className_of_methodNamed hnamed
  have hinitP : kP.init = .initialized := Cond.initialized_spec (findClass_of_methodNamed hnamed) hkP hinit
  obtain ⟨vm₁, X₁, hstep₁⟩ := X.invokestatic hexec hown hlink hnamed hmethM hstatic hkP hinitP hy (g := g) hg (argsL := argsL) (rest := rest) (hlen _ hsigM) hstack hdg
  rcases hK m meth c ⟨T.setVm vm₁, locs, cells, slots⟩ { g with stack := rest } (.invokestatic index) mk argsL.toArray X₁ hg hsize hdg hW (X₁.named hnamed) (hpre vm₁ X₁.warmed) with ⟨v, B, X', hpost, hsteps⟩ | ⟨q, B, X', hpost, hsteps⟩
  · exact Or.inl ⟨v, vm₁, B, X₁.warmed, X', hpost, fun target h => hstep₁ _ fun acts => by rw [doInvoke_state]; exact hsteps.trans h⟩
  · exact Or.inr ⟨q, vm₁, B, X₁.warmed, X', hpost, hstep₁ _ fun acts => by rw [doInvoke_state]; exact hsteps⟩
end Calls
theorem vx_cls {s : State} {T : State} {vm₁ : Vm} {E : String} {k : ClassId} (hW : s.WarmedH vm₁) (h : (T.setVm vm₁).vm.findClass E = some k) : s.vm.findClass E = some k := by
  have h1 : vm₁.findClass E = some k := h
  rw [hW.alike.findClass] at h1
  exact h1
/-- the method's frame g, with q thrown over it -/
def vx_W (p : Program) (l : Launch) (e : Env) (R : Room) (s : State) (m : MethodId) (args : Array Value) (below : List Frame) (meth : Method) (c : Code) (H : Heap) (locs : List Loc) (cells slots : Nat) (Q : State → Prop) (g : JFrame) (q : Addr) : Prop :=
  ∀ T : State, T.heap = H → Stand p l e R s m args below meth c T locs cells slots → ∃ t, Steps p.tables e below ((T.setTop g).pushFrame (.throwing q)) t ∧ Q t
def vx_Run (p : Program) (l : Launch) (e : Env) (R : Room) (s : State) (m : MethodId) (args : Array Value) (below : List Frame) (meth : Method) (c : Code) (H : Heap) (locs : List Loc) (cells slots mc ms : Nat) (g : JFrame) (rest : List Value) (Qa : State → Outcome → State → Prop) (XC : String → State → State → Prop) (free : Addr → Prop) : Prop :=
  ∀ T : State, T.heap = H → Stand p l e R s m args below meth c T locs cells slots →
    (∃ (v : Option Value) (st₀ t T' : State) (L : List Loc), st₀.heap = H ∧ Stand p l e R s m args below meth c T' (locs ++ L) (cells + mc) (slots + ms) ∧ (∀ q ∈ L, free q.base) ∧ T'.heap = t.heap ∧ T'.vm = t.vm ∧ Qa st₀ (.returned v) t ∧
      Goes p e below T g T' { g with pc := g.pc + 3, stack := v.toList ++ rest }) ∨
    (∃ (q : Addr) (st₀ t T' : State) (L : List Loc) (E : String) (ce : Cell), st₀.heap = H ∧ Stand p l e R s m args below meth c T' (locs ++ L) (cells + mc) (slots + ms) ∧ (∀ z ∈ L, free z.base) ∧ T'.heap = t.heap ∧ T'.vm = t.vm ∧ XC E st₀ t ∧ t.heap[q]? = some ce ∧ ce.vm = .none ∧ s.vm.findClass E = some ce.cls ∧
      Steps p.tables e below (T.setTop g) ((T'.setTop { g with stack := rest }).pushFrame (.throwing q)))
def vx_X {S : Type} (px : S → Prop) (B : String → S → State → Prop) (A : Nat → Prop) : String → State → State → Prop := fun E st t => ∃ u : S, px u ∧ B E u t ∧ va_F A st t
section Runs
variable {p : Program} {l : Launch} {e : Env} {R : Room} {s : State} {m : MethodId} {args : Array Value} {below : List Frame} {meth : Method} {c : Code} {H : Heap} {locs : List Loc} {cells slots : Nat}
variable {y : MethodName} {bytes cc : ByteArray} {maxL nL mc ms n index : Nat} {ret : Option FieldType} {ws : List Cond} {rm : Room} {Pc : Array Value → State → Prop} {Qc : Array Value → State → Outcome → State → Prop} {XC : String → State → State → Prop} {free : Addr → Prop} {Ts : List Cond} {own C : String} {b : Addr} {As rest : List Value} {g : JFrame}
theorem vx_callBack (cb : CallB R s args own index y bytes maxL ret ws rm mc ms n) (hM : vx_Met l y ws rm Pc Qc XC mc ms free) (hbl : FrameBlind Pc) : vx_Back l R p e below s args y 3 8 (PreOf R mc ms Pc) (PostOf Qc mc ms free) (vx_Post XC mc ms free) := by
  obtain ⟨hrc, hrs, hfr, hlo, hws, hcw, -, hini, -⟩ := cb
  exact vx_back (bytes := bytes) (maxL := maxL) (ret := ret) hM hbl hrc hrs hfr hlo hws hcw (fun a' U hW => word_at hW (Or.inl (by first | rfl | simp [Cond.onTables, Cond.keeps, Cond.steady])) hini)
theorem vx_runV (S : CallFix p m c cc nL s args Ts own) (hM : vx_Met l y ws rm Pc Qc XC mc ms free) (cw : CallW R s args own C index y bytes maxL ret ws rm mc ms n) (hp : PreV s H C b Pc As)
    (hg : g.method = m) (hn : As.length = n) (hsize : g.locals.size = nL) (hstack : g.stack = As.reverse ++ .ref b :: rest) (hW : 2 * g.monitorRoom + (rest.map fun v => v.category).sum ≤ 8) (hdg : decode cc g.pc = .ok (.invokevirtual index, 3)) (hf : cells + mc ≤ R.cells ∧ slots + ms ≤ R.slots) :
    vx_Run p l e R s m args below meth c H locs cells slots mc ms g rest (Qc (Value.ref b :: As).toArray) XC free := by
  have hK : vx_Back l R p e below s args y 3 8 (PreOf R mc ms Pc) (PostOf Qc mc ms free) (vx_Post XC mc ms free) := vx_callBack cw.1 hM hp.1
  obtain ⟨⟨-, -, -, -, -, -, hcode, -, hy, hlen, hl⟩, hin, hse⟩ := cw
  obtain ⟨hx, hb, hml, ho, -⟩ := S
  obtain ⟨-, ⟨cellB, hcB, hoB, hclB⟩, hPc⟩ := hp
  intro T hT X
  rcases vx_callV X hx (C := C) (bytes := bytes) (maxL := maxL) (ret := ret) ho hl hin hse hcode hy hK (by rw [hT]; exact hcB) hoB hclB hg (hsize.trans hml.symm) (argsL := As) (rest := rest) (fun sig h => hn.trans (hlen sig h)) hstack hW (by rw [hb]; exact hdg)
    (fun vm₁ hW₁ => ⟨hf.1, hf.2, hPc (T.setVm vm₁) hT hW₁⟩) with ⟨v, vm₁, ⟨U', l2, c2, s2⟩, hW₁, X', ⟨g', mk, t, L, e1, e2, hq, h1, hL, h2, h3⟩, st⟩ | ⟨q, vm₁, ⟨U', l2, c2, s2⟩, hW₁, X', ⟨g', mk, t, L, E, ce, e1, e2, hq, hce, hcv, hcl, h1, hL, h2, h3⟩, st⟩
  · dsimp only [Pt.U, Pt.locs, Pt.cells, Pt.slots] at X' e1 e2 h1 h2 h3 st
    subst h1; subst h2; subst h3
    exact Or.inl ⟨v, (T.setVm vm₁).calling g' mk (Value.ref b :: As).toArray, t, U', L, hT, X', hL, e1, e2, hq, st⟩
  · dsimp only [Pt.U, Pt.locs, Pt.cells, Pt.slots] at X' e1 e2 h1 h2 h3 st hcl
    subst h1; subst h2; subst h3
    exact Or.inr ⟨q, (T.setVm vm₁).calling g' mk (Value.ref b :: As).toArray, t, U', L, E, ce, hT, X', hL, e1, e2, hq, hce, hcv, vx_cls hW₁ hcl, st⟩
theorem vx_runS (S : CallFix p m c cc nL s args Ts own) (hM : vx_Met l y ws rm Pc Qc XC mc ms free) (cw : CallB R s args own index y bytes maxL ret ws rm mc ms n ∧ (Cond.static y).before args s = true) (hp : PreS s H Pc As)
    (hg : g.method = m) (hn : As.length = n) (hsize : g.locals.size = nL) (hstack : g.stack = As.reverse ++ rest) (hW : 2 * g.monitorRoom + (rest.map fun v => v.category).sum ≤ 8) (hdg : decode cc g.pc = .ok (.invokestatic index, 3)) (hf : cells + mc ≤ R.cells ∧ slots + ms ≤ R.slots) :
    vx_Run p l e R s m args below meth c H locs cells slots mc ms g rest (Qc As.toArray) XC free := by
  have hK : vx_Back l R p e below s args y 3 8 (PreOf R mc ms Pc) (PostOf Qc mc ms free) (vx_Post XC mc ms free) := vx_callBack cw.1 hM hp.1
  obtain ⟨⟨-, -, -, -, -, -, hcode, hini, hy, hlen, hl⟩, hstt⟩ := cw
  obtain ⟨hx, hb, hml, ho, -⟩ := S
  intro T hT X
  rcases vx_callS X hx (bytes := bytes) (maxL := maxL) (ret := ret) ho hl hstt hini hcode hy hK hg (hsize.trans hml.symm) (argsL := As) (rest := rest) (fun sig h => hn.trans (hlen sig h)) hstack hW (by rw [hb]; exact hdg)
    (fun vm₁ hW₁ => ⟨hf.1, hf.2, hp.2 (T.setVm vm₁) hT hW₁⟩) with ⟨v, vm₁, ⟨U', l2, c2, s2⟩, hW₁, X', ⟨g', mk, t, L, e1, e2, hq, h1, hL, h2, h3⟩, st⟩ | ⟨q, vm₁, ⟨U', l2, c2, s2⟩, hW₁, X', ⟨g', mk, t, L, E, ce, e1, e2, hq, hce, hcv, hcl, h1, hL, h2, h3⟩, st⟩
  · dsimp only [Pt.U, Pt.locs, Pt.cells, Pt.slots] at X' e1 e2 h1 h2 h3 st
    subst h1; subst h2; subst h3
    exact Or.inl ⟨v, (T.setVm vm₁).calling g' mk As.toArray, t, U', L, hT, X', hL, e1, e2, hq, st⟩
  · dsimp only [Pt.U, Pt.locs, Pt.cells, Pt.slots] at X' e1 e2 h1 h2 h3 st hcl
    subst h1; subst h2; subst h3
    exact Or.inr ⟨q, (T.setVm vm₁).calling g' mk As.toArray, t, U', L, E, ce, hT, X', hL, e1, e2, hq, hce, hcv, vx_cls hW₁ hcl, st⟩
end Runs
section Rows
variable {p : Program} {l : Launch} {e : Env} {R : Room} {s : State} {m : MethodId} {args : Array Value} {below : List Frame} {meth : Method} {c : Code} {H : Heap} {locs : List Loc} {cells slots : Nat} {Q : State → Prop}
variable {mc ms : Nat} {free : Addr → Prop} {A0 A1 : Nat → Prop} {H0 : Heap} {a : Array Value} {pc : Nat} {ls : Array Slot} {st0 rest : List Value}
theorem vx_keep {st₀ t T' : State} {L : List Loc} (h0 : st₀.heap = H) (e1 : T'.heap = t.heap) (hS : va_S A0 H0 H locs) (hA : ∀ q, q < H.size → A1 q → A0 q) (hf : ∀ q, free q → A0 q) (hL : ∀ q ∈ L, free q.base) (hF : va_F A1 st₀ t) :
    H.size ≤ T'.heap.size ∧ (∀ q : Nat, q < H.size → ¬ A1 q → T'.heap[q]? = H[q]?) ∧ va_S A0 H0 T'.heap (locs ++ L) := by
  obtain ⟨hz, hk⟩ := hF
  rw [h0] at hz hk
  exact ⟨by rw [e1]; exact hz, fun q h1 h2 => by rw [e1]; exact hk q h1 h2,
    ⟨Nat.le_trans hS.1 (by rw [e1]; exact hz), fun q h1 h2 => by rw [e1, hk q (Nat.lt_of_lt_of_le h1 hS.1) (fun z => h2 (hA q (Nat.lt_of_lt_of_le h1 hS.1) z))]; exact hS.2.1 q h1 h2, fun q hq => by
      rcases List.mem_append.mp hq with h | h
      · exact hS.2.2 q h
      · exact hf _ (hL q h)⟩⟩
theorem vx_calli {S SX : Type} {post : Int32 → S → Prop} {px : SX → Prop} {B : S → State → Prop} {BX : String → SX → State → Prop} {AX : Nat → Prop} (hr : vx_Run p l e R s m args below meth c H locs cells slots mc ms (F0 m pc ls st0) rest (va_Qi post B A1 a) (vx_X px BX AX) free) (hS : va_S A0 H0 H locs) (hA : ∀ q, q < H.size → A1 q → A0 q) (hf : ∀ q, free q → A0 q) (hAX : ∀ q, q < H.size → AX q → A0 q)
    (kx : ∀ (E : String) (ce : Cell) (q9 : Addr) (u : SX) (t : State) (H1 : Heap) (locs1 : List Loc), t.heap = H1 → s.vm.Alike t.vm → px u → BX E u t → H.size ≤ H1.size → (∀ q : Nat, q < H.size → ¬ AX q → H1[q]? = H[q]?) → va_S A0 H0 H1 locs1 → H1[q9]? = some ce → ce.vm = .none → s.vm.findClass E = some ce.cls → vx_W p l e R s m args below meth c H1 locs1 (cells + mc) (slots + ms) Q (F0 m pc ls rest) q9)
    (kk : ∀ (r : Int32) (u : S) (t : State) (H1 : Heap) (locs1 : List Loc), t.heap = H1 → s.vm.Alike t.vm → post r u → B u t → H.size ≤ H1.size → (∀ q : Nat, q < H.size → ¬ A1 q → H1[q]? = H[q]?) → va_S A0 H0 H1 locs1 → W p l e R s m args below meth c H1 locs1 (cells + mc) (slots + ms) Q (F0 m (pc + 3) ls (.int r :: rest))) : W p l e R s m args below meth c H locs cells slots Q (F0 m pc ls st0) := by
  intro T hT X
  rcases hr T hT X with ⟨v, st₀, t, T', L, h0, X', hL, e1, e2, ⟨⟨r, u, hv, hp, hb⟩, hF⟩, st⟩ | ⟨q, st₀, t, T', L, E, ce, h0, X', hL, e1, e2, ⟨u, hp, hb, hF⟩, hce, hcv, hcl, st⟩
  · cases hv
    obtain ⟨k1, k2, k3⟩ := vx_keep h0 e1 hS hA hf hL hF
    obtain ⟨t2, a1, b1⟩ := kk r u t T'.heap (locs ++ L) e1.symm (by rw [← e2]; exact X'.warmed.alike) hp hb k1 k2 k3 T' rfl X'
    exact ⟨t2, st t2 a1, b1⟩
  · obtain ⟨k1, k2, k3⟩ := vx_keep h0 e1 hS hAX hf hL hF
    obtain ⟨t2, a1, b1⟩ := kx E ce q u t T'.heap (locs ++ L) e1.symm (by rw [← e2]; exact X'.warmed.alike) hp hb k1 k2 k3 (by rw [e1]; exact hce) hcv hcl T' rfl X'
    exact ⟨t2, st.trans a1, b1⟩
theorem vx_calll {S SX : Type} {post : Int64 → S → Prop} {px : SX → Prop} {B : S → State → Prop} {BX : String → SX → State → Prop} {AX : Nat → Prop} (hr : vx_Run p l e R s m args below meth c H locs cells slots mc ms (F0 m pc ls st0) rest (va_Ql post B A1 a) (vx_X px BX AX) free) (hS : va_S A0 H0 H locs) (hA : ∀ q, q < H.size → A1 q → A0 q) (hf : ∀ q, free q → A0 q) (hAX : ∀ q, q < H.size → AX q → A0 q)
    (kx : ∀ (E : String) (ce : Cell) (q9 : Addr) (u : SX) (t : State) (H1 : Heap) (locs1 : List Loc), t.heap = H1 → s.vm.Alike t.vm → px u → BX E u t → H.size ≤ H1.size → (∀ q : Nat, q < H.size → ¬ AX q → H1[q]? = H[q]?) → va_S A0 H0 H1 locs1 → H1[q9]? = some ce → ce.vm = .none → s.vm.findClass E = some ce.cls → vx_W p l e R s m args below meth c H1 locs1 (cells + mc) (slots + ms) Q (F0 m pc ls rest) q9)
    (kk : ∀ (r : Int64) (u : S) (t : State) (H1 : Heap) (locs1 : List Loc), t.heap = H1 → s.vm.Alike t.vm → post r u → B u t → H.size ≤ H1.size → (∀ q : Nat, q < H.size → ¬ A1 q → H1[q]? = H[q]?) → va_S A0 H0 H1 locs1 → W p l e R s m args below meth c H1 locs1 (cells + mc) (slots + ms) Q (F0 m (pc + 3) ls (.long r :: rest))) : W p l e R s m args below meth c H locs cells slots Q (F0 m pc ls st0) := by
  intro T hT X
  rcases hr T hT X with ⟨v, st₀, t, T', L, h0, X', hL, e1, e2, ⟨⟨r, u, hv, hp, hb⟩, hF⟩, st⟩ | ⟨q, st₀, t, T', L, E, ce, h0, X', hL, e1, e2, ⟨u, hp, hb, hF⟩, hce, hcv, hcl, st⟩
  · cases hv
    obtain ⟨k1, k2, k3⟩ := vx_keep h0 e1 hS hA hf hL hF
    obtain ⟨t2, a1, b1⟩ := kk r u t T'.heap (locs ++ L) e1.symm (by rw [← e2]; exact X'.warmed.alike) hp hb k1 k2 k3 T' rfl X'
    exact ⟨t2, st t2 a1, b1⟩
  · obtain ⟨k1, k2, k3⟩ := vx_keep h0 e1 hS hAX hf hL hF
    obtain ⟨t2, a1, b1⟩ := kx E ce q u t T'.heap (locs ++ L) e1.symm (by rw [← e2]; exact X'.warmed.alike) hp hb k1 k2 k3 (by rw [e1]; exact hce) hcv hcl T' rfl X'
    exact ⟨t2, st.trans a1, b1⟩
theorem vx_callf {S SX : Type} {post : UInt32 → S → Prop} {px : SX → Prop} {B : S → State → Prop} {BX : String → SX → State → Prop} {AX : Nat → Prop} (hr : vx_Run p l e R s m args below meth c H locs cells slots mc ms (F0 m pc ls st0) rest (va_Qf post B A1 a) (vx_X px BX AX) free) (hS : va_S A0 H0 H locs) (hA : ∀ q, q < H.size → A1 q → A0 q) (hf : ∀ q, free q → A0 q) (hAX : ∀ q, q < H.size → AX q → A0 q)
    (kx : ∀ (E : String) (ce : Cell) (q9 : Addr) (u : SX) (t : State) (H1 : Heap) (locs1 : List Loc), t.heap = H1 → s.vm.Alike t.vm → px u → BX E u t → H.size ≤ H1.size → (∀ q : Nat, q < H.size → ¬ AX q → H1[q]? = H[q]?) → va_S A0 H0 H1 locs1 → H1[q9]? = some ce → ce.vm = .none → s.vm.findClass E = some ce.cls → vx_W p l e R s m args below meth c H1 locs1 (cells + mc) (slots + ms) Q (F0 m pc ls rest) q9)
    (kk : ∀ (r : UInt32) (u : S) (t : State) (H1 : Heap) (locs1 : List Loc), t.heap = H1 → s.vm.Alike t.vm → post r u → B u t → H.size ≤ H1.size → (∀ q : Nat, q < H.size → ¬ A1 q → H1[q]? = H[q]?) → va_S A0 H0 H1 locs1 → W p l e R s m args below meth c H1 locs1 (cells + mc) (slots + ms) Q (F0 m (pc + 3) ls (.float r :: rest))) : W p l e R s m args below meth c H locs cells slots Q (F0 m pc ls st0) := by
  intro T hT X
  rcases hr T hT X with ⟨v, st₀, t, T', L, h0, X', hL, e1, e2, ⟨⟨r, u, hv, hp, hb⟩, hF⟩, st⟩ | ⟨q, st₀, t, T', L, E, ce, h0, X', hL, e1, e2, ⟨u, hp, hb, hF⟩, hce, hcv, hcl, st⟩
  · cases hv
    obtain ⟨k1, k2, k3⟩ := vx_keep h0 e1 hS hA hf hL hF
    obtain ⟨t2, a1, b1⟩ := kk r u t T'.heap (locs ++ L) e1.symm (by rw [← e2]; exact X'.warmed.alike) hp hb k1 k2 k3 T' rfl X'
    exact ⟨t2, st t2 a1, b1⟩
  · obtain ⟨k1, k2, k3⟩ := vx_keep h0 e1 hS hAX hf hL hF
    obtain ⟨t2, a1, b1⟩ := kx E ce q u t T'.heap (locs ++ L) e1.symm (by rw [← e2]; exact X'.warmed.alike) hp hb k1 k2 k3 (by rw [e1]; exact hce) hcv hcl T' rfl X'
    exact ⟨t2, st.trans a1, b1⟩
theorem vx_calld {S SX : Type} {post : UInt64 → S → Prop} {px : SX → Prop} {B : S → State → Prop} {BX : String → SX → State → Prop} {AX : Nat → Prop} (hr : vx_Run p l e R s m args below meth c H locs cells slots mc ms (F0 m pc ls st0) rest (va_Qd post B A1 a) (vx_X px BX AX) free) (hS : va_S A0 H0 H locs) (hA : ∀ q, q < H.size → A1 q → A0 q) (hf : ∀ q, free q → A0 q) (hAX : ∀ q, q < H.size → AX q → A0 q)
    (kx : ∀ (E : String) (ce : Cell) (q9 : Addr) (u : SX) (t : State) (H1 : Heap) (locs1 : List Loc), t.heap = H1 → s.vm.Alike t.vm → px u → BX E u t → H.size ≤ H1.size → (∀ q : Nat, q < H.size → ¬ AX q → H1[q]? = H[q]?) → va_S A0 H0 H1 locs1 → H1[q9]? = some ce → ce.vm = .none → s.vm.findClass E = some ce.cls → vx_W p l e R s m args below meth c H1 locs1 (cells + mc) (slots + ms) Q (F0 m pc ls rest) q9)
    (kk : ∀ (r : UInt64) (u : S) (t : State) (H1 : Heap) (locs1 : List Loc), t.heap = H1 → s.vm.Alike t.vm → post r u → B u t → H.size ≤ H1.size → (∀ q : Nat, q < H.size → ¬ A1 q → H1[q]? = H[q]?) → va_S A0 H0 H1 locs1 → W p l e R s m args below meth c H1 locs1 (cells + mc) (slots + ms) Q (F0 m (pc + 3) ls (.double r :: rest))) : W p l e R s m args below meth c H locs cells slots Q (F0 m pc ls st0) := by
  intro T hT X
  rcases hr T hT X with ⟨v, st₀, t, T', L, h0, X', hL, e1, e2, ⟨⟨r, u, hv, hp, hb⟩, hF⟩, st⟩ | ⟨q, st₀, t, T', L, E, ce, h0, X', hL, e1, e2, ⟨u, hp, hb, hF⟩, hce, hcv, hcl, st⟩
  · cases hv
    obtain ⟨k1, k2, k3⟩ := vx_keep h0 e1 hS hA hf hL hF
    obtain ⟨t2, a1, b1⟩ := kk r u t T'.heap (locs ++ L) e1.symm (by rw [← e2]; exact X'.warmed.alike) hp hb k1 k2 k3 T' rfl X'
    exact ⟨t2, st t2 a1, b1⟩
  · obtain ⟨k1, k2, k3⟩ := vx_keep h0 e1 hS hAX hf hL hF
    obtain ⟨t2, a1, b1⟩ := kx E ce q u t T'.heap (locs ++ L) e1.symm (by rw [← e2]; exact X'.warmed.alike) hp hb k1 k2 k3 (by rw [e1]; exact hce) hcv hcl T' rfl X'
    exact ⟨t2, st.trans a1, b1⟩
theorem vx_callv {S SX : Type} {post : S → Prop} {px : SX → Prop} {B : S → State → Prop} {BX : String → SX → State → Prop} {AX : Nat → Prop} (hr : vx_Run p l e R s m args below meth c H locs cells slots mc ms (F0 m pc ls st0) rest (va_Qv post B A1 a) (vx_X px BX AX) free) (hS : va_S A0 H0 H locs) (hA : ∀ q, q < H.size → A1 q → A0 q) (hf : ∀ q, free q → A0 q) (hAX : ∀ q, q < H.size → AX q → A0 q)
    (kx : ∀ (E : String) (ce : Cell) (q9 : Addr) (u : SX) (t : State) (H1 : Heap) (locs1 : List Loc), t.heap = H1 → s.vm.Alike t.vm → px u → BX E u t → H.size ≤ H1.size → (∀ q : Nat, q < H.size → ¬ AX q → H1[q]? = H[q]?) → va_S A0 H0 H1 locs1 → H1[q9]? = some ce → ce.vm = .none → s.vm.findClass E = some ce.cls → vx_W p l e R s m args below meth c H1 locs1 (cells + mc) (slots + ms) Q (F0 m pc ls rest) q9)
    (kk : ∀ (u : S) (t : State) (H1 : Heap) (locs1 : List Loc), t.heap = H1 → s.vm.Alike t.vm → post u → B u t → H.size ≤ H1.size → (∀ q : Nat, q < H.size → ¬ A1 q → H1[q]? = H[q]?) → va_S A0 H0 H1 locs1 → W p l e R s m args below meth c H1 locs1 (cells + mc) (slots + ms) Q (F0 m (pc + 3) ls (rest))) : W p l e R s m args below meth c H locs cells slots Q (F0 m pc ls st0) := by
  intro T hT X
  rcases hr T hT X with ⟨v, st₀, t, T', L, h0, X', hL, e1, e2, ⟨⟨u, hv, hp, hb⟩, hF⟩, st⟩ | ⟨q, st₀, t, T', L, E, ce, h0, X', hL, e1, e2, ⟨u, hp, hb, hF⟩, hce, hcv, hcl, st⟩
  · cases hv
    obtain ⟨k1, k2, k3⟩ := vx_keep h0 e1 hS hA hf hL hF
    obtain ⟨t2, a1, b1⟩ := kk u t T'.heap (locs ++ L) e1.symm (by rw [← e2]; exact X'.warmed.alike) hp hb k1 k2 k3 T' rfl X'
    exact ⟨t2, st t2 a1, b1⟩
  · obtain ⟨k1, k2, k3⟩ := vx_keep h0 e1 hS hAX hf hL hF
    obtain ⟨t2, a1, b1⟩ := kx E ce q u t T'.heap (locs ++ L) e1.symm (by rw [← e2]; exact X'.warmed.alike) hp hb k1 k2 k3 (by rw [e1]; exact hce) hcv hcl T' rfl X'
    exact ⟨t2, st.trans a1, b1⟩
/-- caught by the row x of this method's table; the rows ahead don't take it -/
theorem vx_catch {own name : String} {E : String} {ce : Cell} {q : Addr} (hown : s.vm.findClass own = some m.cls) (pre : List ExceptionTableEntry) (x : ExceptionTableEntry) (suf : List ExceptionTableEntry) (hsplit : c.exceptionTable.toList = pre ++ x :: suf)
    (hpass : ∀ z ∈ pre, covers z pc = false ∨ (z.catchType ≠ 0 ∧ ∃ nm : String, (Cond.classLink own z.catchType nm).before args s = true ∧ va_Nc E nm s)) (hx : covers x pc = true) (h0 : x.catchType ≠ 0)
    (hlink : (Cond.classLink own x.catchType name).before args s = true) (hcast : (Cond.castable E name).before args s = true) (hcell : H[q]? = some ce) (hv : ce.vm = .none) (hcl : s.vm.findClass E = some ce.cls)
    (kk : W p l e R s m args below meth c H locs cells slots Q (F0 m x.handlerPc ls [.ref q])) : vx_W p l e R s m args below meth c H locs cells slots Q (F0 m pc ls rest) q := by
  intro T hT X
  have hpl : e.platform.magicAccessors = ({} : Platform).magicAccessors := by rw [X.admits.platform]
  obtain ⟨c3, c4, hc3, hc4, hasg⟩ := Cond.castable_spec hcast
  cases Option.some.inj (hc3.symm.trans hcl)
  obtain ⟨c5, hc5, hcl5⟩ := Cond.classLink_spec hown hlink e.platform hpl
  cases Option.some.inj (hc4.symm.trans hc5)
  obtain ⟨vm', X', st⟩ := X.thenCaughtThrough q (g := F0 m pc ls rest) rfl (Steps.refl _) (by rw [hT]; exact hcell) (by rw [hv]; rfl) (by obtain ⟨k9, h9, -⟩ := Vm.findClass_spec hcl; exact ⟨k9, h9⟩) pre x suf hsplit
    (fun z hz => by
      rcases hpass z hz with h | ⟨hz0, nm, hl1, hn1⟩
      · exact Or.inl h
      · obtain ⟨c6, hc6, hcl6⟩ := Cond.classLink_spec hown hl1 e.platform hpl
        obtain ⟨a8, b8, h1, h2, h3⟩ := hn1
        cases Option.some.inj (h1.symm.trans hcl)
        cases Option.some.inj (h2.symm.trans hc6)
        exact Or.inr ⟨hz0, _, hcl6, h3⟩) hx (Or.inr ⟨h0, c4, hcl5, hasg⟩)
  obtain ⟨t, a1, b1⟩ := kk (T.setVm vm') hT X'
  exact ⟨t, st.trans a1, b1⟩
end Rows
section Ends
variable {p : Program} {l : Launch} {e : Env} {R : Room} {s : State} {m : MethodId} {args : Array Value} {below : List Frame} {meth : Method} {c : Code} {H : Heap} {locs : List Loc} {cells slots : Nat} {Q : State → Prop}
variable {mc ms : Nat} {free : Addr → Prop} {A0 A1 : Nat → Prop} {H0 : Heap} {a : Array Value} {ls : Array Slot} {st0 rest : List Value}
variable {Qc : Array Value → State → Outcome → State → Prop} {XC : String → State → State → Prop}
/-- what a body that may throw owes at its end -/
def vx_MQ (below : List Frame) (Qc : Array Value → State → Outcome → State → Prop) (XC : String → State → State → Prop) (a : Array Value) (s : State) (mc ms : Nat) (free : Addr → Prop) : State → Prop := fun t =>
  ∃ o, t.status = .running ∧ Ended t below o ∧ vx_Q Qc XC mc ms free a s o t
theorem vx_ret {g : JFrame} {mc ms : Nat} (k : W p l e R s m args below meth c H locs cells slots (MQ below Qc args s mc ms free) g) : W p l e R s m args below meth c H locs cells slots (vx_MQ below Qc XC args s mc ms free) g := by
  intro T hT X
  obtain ⟨t, a1, o, b1, b2, b3, b4⟩ := k T hT X
  exact ⟨t, a1, o, b1, b2, Or.inl ⟨b3, b4⟩⟩
/-- not caught here: it goes on to the caller -/
theorem vx_widen {g : JFrame} {q : Addr} {k n : Nat} (h1 : cells ≤ k) (h2 : slots ≤ n) (kk : vx_W p l e R s m args below meth c H locs k n Q g q) : vx_W p l e R s m args below meth c H locs cells slots Q g q := fun T hT X => kk T hT (stand_widen X h1 h2)
theorem vx_out {pc : Nat} {E : String} {ce : Cell} {q : Addr} {mc ms : Nat} (hout : ∀ x ∈ c.exceptionTable.toList, covers x pc = false) (hlocks : meth.locks = false) (hcell : H[q]? = some ce) (hv : ce.vm = .none) (hcl : s.vm.findClass E = some ce.cls)
    (hx : ∀ t : State, t.heap = H → s.vm.Alike t.vm → XC E s t) (hf : ∀ z ∈ locs, free z.base) (hc : cells ≤ mc) (hs : slots ≤ ms) :
    vx_W p l e R s m args below meth c H locs cells slots (vx_MQ below Qc XC args s mc ms free) (F0 m pc ls rest) q := by
  intro T hT X
  obtain ⟨st1, hrun, hend, hW, hsm⟩ := X.leaveThrown q (g := F0 m pc ls rest) rfl rfl rfl hout hlocks
  have hcell9 : (T.setFrames (.throwing q :: below)).heap[q]? = some ce := by
    show T.heap[q]? = some ce
    rw [hT]; exact hcell
  exact ⟨_, st1, .threw q, hrun, hend, Or.inr ⟨q, rfl, E, ce, locs, hx _ hT hW.alike, hcell9, hv, hcl, hW, hsm.mono hc hs, hf⟩⟩
theorem vx_frame {U : State} {k n : Nat} (h : s.sameButNew ({ U with vm := s.vm } : State) locs k n) : s.heap.size ≤ U.heap.size ∧ ∀ q : Nat, q < s.heap.size → (∀ z ∈ locs, z.base ≠ q) → U.heap[q]? = s.heap[q]? := by
  obtain ⟨-, h2, -, -, -, h6⟩ := h
  refine ⟨h2, fun q hq hz => ?_⟩
  obtain ⟨c9, e1, e2, e3, e4⟩ := h6 q _ (Array.getElem?_eq_getElem hq)
  have hs : c9.slots = (s.heap[q]).slots := Array.ext_getElem? fun i => e4 i fun hm => hz _ hm rfl
  have h9 : c9 = s.heap[q] := by
    rw [hs] at e2
    exact e2
  have e5 : U.heap[q]? = some c9 := e1
  rw [e5, h9, Array.getElem?_eq_getElem hq]
/-- the words of a throw but the four that speak of the heap -/
def vx_no (w : Cond) : Bool := decide (w ≠ .isRef (.static Bundle.tN "UNASSIGNED_STACK" Bundle.steD)) && decide (w ≠ .isRef (.static Bundle.tN "SUPPRESSED_SENTINEL" Bundle.listD)) && decide (w ≠ .laysStatic Bundle.tN "UNASSIGNED_STACK" Bundle.steD) && decide (w ≠ .laysStatic Bundle.tN "SUPPRESSED_SENTINEL" Bundle.listD)
def vx_at0 (own : String) (ic : Nat) (X : String) (names : List String) : List Cond := (Bundle.ownAtoms0 own ic X names).filter vx_no
def vx_atS (own : String) (ic : Nat) (X : String) (names : List String) : List Cond := (Bundle.ownAtoms own ic X names).filter vx_no
/-- a word that the tables alone decide, or a good one -/
def vx_ot (w : Cond) : Bool := w.onTables || goodWord w
theorem vx_ot_at {args a' : Array Value} {s U : State} {w : Cond} (hW : s.WarmedH U.vm) (hvm : s.vm = U.vm) (hg : vx_ot w = true) (h : w.before args s = true) : w.before a' U = true := by
  simp only [vx_ot, Bool.or_eq_true] at hg
  rcases hg with hg | hg
  · exact va_tabs hg hvm h
  · exact word_at hW (good_of_word hg) h
/-- a list's words: the good ones out of the method's own list, the others by premises of their own -/
theorem vx_hat {args : Array Value} {s : State} {L B : List Cond} (h1 : ∀ w ∈ L.filter goodWord, w.before args s = true) (h2 : ∀ w ∈ L.filter (fun w => !goodWord w), w ∈ B) (h3 : ∀ w ∈ B, w.before args s = true) : ∀ w ∈ L, w.before args s = true := by
  intro w hw
  by_cases g : goodWord w = true
  · exact h1 w (List.mem_filter.mpr ⟨hw, g⟩)
  · refine h3 w (h2 w (List.mem_filter.mpr ⟨hw, ?_⟩))
    show (!goodWord w) = true
    cases hgw : goodWord w
    · rfl
    · exact absurd hgw g
theorem vx_c {args : Array Value} {s : State} {w : Cond} {B : List Cond} (h : w.before args s = true) (t : ∀ w ∈ B, w.before args s = true) : ∀ w' ∈ w :: B, w'.before args s = true := fun w' h' => (List.mem_cons.mp h').elim (fun e => by rw [e]; exact h) (t w')
theorem vx_n {args : Array Value} {s : State} : ∀ w ∈ ([] : List Cond), w.before args s = true := fun _ h => nomatch h
theorem vx_own {args : Array Value} {s : State} {L : List Cond} (h1 : ∀ w ∈ L.filter vx_no, w.before args s = true)
    (hU : (Cond.isRef (.static Bundle.tN "UNASSIGNED_STACK" Bundle.steD)).before args s = true) (hN : (Cond.isRef (.static Bundle.tN "SUPPRESSED_SENTINEL" Bundle.listD)).before args s = true)
    (lU : (Cond.laysStatic Bundle.tN "UNASSIGNED_STACK" Bundle.steD).before args s = true) (lN : (Cond.laysStatic Bundle.tN "SUPPRESSED_SENTINEL" Bundle.listD).before args s = true) : ∀ w ∈ L, w.before args s = true := by
  intro w hw
  by_cases e1 : w = .isRef (.static Bundle.tN "UNASSIGNED_STACK" Bundle.steD)
  · rw [e1]; exact hU
  · by_cases e2 : w = .isRef (.static Bundle.tN "SUPPRESSED_SENTINEL" Bundle.listD)
    · rw [e2]; exact hN
    · by_cases e3 : w = .laysStatic Bundle.tN "UNASSIGNED_STACK" Bundle.steD
      · rw [e3]; exact lU
      · by_cases e4 : w = .laysStatic Bundle.tN "SUPPRESSED_SENTINEL" Bundle.listD
        · rw [e4]; exact lN
        · exact h1 w (List.mem_filter.mpr ⟨hw, by unfold vx_no; rw [decide_eq_true e1, decide_eq_true e2, decide_eq_true e3, decide_eq_true e4]; rfl⟩)
/-- where a static field lies, its class's statics cell in H -/
def vx_L (C n d : String) (A : Nat → Prop) (U : State) (H : Heap) : Prop := ∃ (c : ClassId) (k : Class) (i : Nat) (f : Field) (a : Nat) (cell : Cell), U.vm.findClass C = some c ∧ U.fieldFound? C n d = some (c, k, i, f) ∧ f.isStatic = true ∧ k.statics = some a ∧ H[a]? = some cell ∧ cell.vm.isStatics = true ∧ cell.cls = c ∧ f.slot < cell.slots.size ∧ k.staticTypes[f.slot]? = some f.type ∧ ¬ A a
theorem vx_L.moved {C n d : String} {A : Nat → Prop} {u U : State} {H : Heap} (hvm : u.vm.Alike U.vm) (h : vx_L C n d A u H) : vx_L C n d A U H := by
  obtain ⟨c, k, i, f, a, cell, h1, h2, h3, h4, h5, h6, h7, h8, h9, h10⟩ := h
  obtain ⟨k', hi', he⟩ := State.fieldFound?_setVm hvm h2
  exact ⟨c, k', i, f, a, cell, by rw [hvm.findClass]; exact h1, hi', h3, by rw [he]; exact h4, h5, h6, h7, h8, by rw [he]; exact h9, h10⟩
theorem vx_L.kept {C n d : String} {A : Nat → Prop} {U : State} {H H1 : Heap} (h : vx_L C n d A U H) (hq : ∀ a : Nat, a < H.size → ¬ A a → H1[a]? = H[a]?) : vx_L C n d A U H1 := by
  obtain ⟨c, k, i, f, a, cell, h1, h2, h3, h4, h5, h6, h7, h8, h9, h10⟩ := h
  exact ⟨c, k, i, f, a, cell, h1, h2, h3, h4, by rw [hq a (Array.getElem?_eq_some_iff.mp h5).1 h10]; exact h5, h6, h7, h8, h9, h10⟩
theorem vx_L.narrow {C n d : String} {A B : Nat → Prop} {U : State} {H : Heap} (h : vx_L C n d A U H) (hAB : ∀ q, B q → A q) : vx_L C n d B U H := by
  obtain ⟨c, k, i, f, a, cell, h1, h2, h3, h4, h5, h6, h7, h8, h9, h10⟩ := h
  exact ⟨c, k, i, f, a, cell, h1, h2, h3, h4, h5, h6, h7, h8, h9, fun z => h10 (hAB _ z)⟩
theorem vx_L.word {C n d : String} {A : Nat → Prop} {s : State} {args : Array Value} (h : vx_L C n d A s s.heap) : (Cond.laysStatic C n d).before args s = true := by
  obtain ⟨c, k, i, f, a, cell, h1, h2, h3, h4, h5, h6, h7, h8, h9, -⟩ := h
  show (Cond.laysStatic C n d).holds args s none s [] = true
  exact Cond.laysStatic_of h1 h2 h3 h4 h5 h6 h7 h8 h9
/-- .. and what it holds: null or some reference -/
def vx_Zq (C n d : String) (A : Nat → Prop) (U : State) (H : Heap) : Prop := va_Zq C n d A U H ∧ vx_L C n d A U H
theorem vx_Zq.moved {C n d : String} {A : Nat → Prop} {u U : State} {H : Heap} (hvm : u.vm.Alike U.vm) (h : vx_Zq C n d A u H) : vx_Zq C n d A U H := ⟨va_Zq.moved hvm h.1, vx_L.moved hvm h.2⟩
theorem vx_Zq.kept {C n d : String} {A : Nat → Prop} {U : State} {H H1 : Heap} (h : vx_Zq C n d A U H) (hq : ∀ a : Nat, a < H.size → ¬ A a → H1[a]? = H[a]?) : vx_Zq C n d A U H1 := ⟨va_Zq.kept h.1 hq, vx_L.kept h.2 hq⟩
theorem vx_Zq.narrow {C n d : String} {A B : Nat → Prop} {U : State} {H : Heap} (h : vx_Zq C n d A U H) (hAB : ∀ q, B q → A q) : vx_Zq C n d B U H := ⟨va_Zq.narrow h.1 hAB, vx_L.narrow h.2 hAB⟩
theorem vx_Zqof {args : Array Value} {s : State} {C n d : String} {A : Nat → Prop} (hl : (Cond.laysStatic C n d).before args s = true) (hini : (Cond.initialized C).before args s = true) (h : (Cond.isRef (.static C n d)).before args s = true) (hA : ∀ a : Nat, a < s.heap.size → ¬ A a) : vx_Zq C n d A s s.heap := by
  refine ⟨va_Zqof hl hini h hA, ?_⟩
  obtain ⟨c, k, i, f, a, cell, h1, h2, h3, h4, h5, h6, h7, h8, h9⟩ := Cond.laysStatic_spec hl
  exact ⟨c, k, i, f, a, cell, h1, h2, h3, h4, h5, h6, h7, h8, h9, hA a (Array.getElem?_eq_some_iff.mp h5).1⟩
theorem vx_isRef {C n d : String} {v : Value} {A : Nat → Prop} {s : State} {args : Array Value} (h : va_Z C n d v A s s.heap) (hv : v.isRef = true) : (Cond.isRef (.static C n d)).before args s = true := by
  obtain ⟨cf, kf, fi, f, a, cell, h1, h2, h3, h4, h5, h6, h7, -⟩ := h
  have he : (Term.static C n d).eval args s none [] s = some v := by
    simp [Term.eval, State.fieldNamed?, h1, h2, h4, h5, h6, h7]
  simp only [Cond.before, Cond.holds, Cond.value, he]
  cases v <;> simp_all [Value.isRef]
theorem vx_isRefq {C n d : String} {A : Nat → Prop} {s : State} {args : Array Value} (h : va_Zq C n d A s s.heap) : (Cond.isRef (.static C n d)).before args s = true := by
  rcases h with h | ⟨t, h⟩
  · exact vx_isRef h rfl
  · exact vx_isRef h rfl
/-- the same frame, seen from here: as if the method were called anew in this heap -/
theorem vx_rebase {T : State} (X : Stand p l e R s m args below meth c T locs cells slots) {R' : Room} (hf : R'.frames ≤ R.frames) (hl : R'.locals ≤ R.locals) (hc : cells + R'.cells ≤ R.cells) (hs : slots + R'.slots ≤ R.slots) :
    Stand p l e R' ((T.setVm s.vm).setFrames (.invoking m args :: below)) m args below meth c T [] 0 0 := by
  have htop : (T.setVm s.vm).topJava?.isSome := X.here.top
  have hF : ((T.setVm s.vm).setFrames (.invoking m args :: below)).frames = .invoking m args :: below := State.frames_setFrames _ (State.cur_lt_of_top htop)
  obtain ⟨g₀, hg0⟩ := Option.isSome_iff_exists.mp htop
  obtain ⟨r, hr⟩ := State.topJava?_eq_some.mp hg0
  have hl9 : e.platform.stackLimits (T.setVm s.vm).me = e.platform.stackLimits s.me := X.limits
  have hb9 : (T.setVm s.vm).me.stackBytes = s.me.stackBytes := X.bytes
  refine ⟨X.admits, X.cas, X.clock, hF, ?_, X.hears, X.method, X.code, X.here, X.tail, X.warmed, ?_, ?_, ?_⟩
  · have h := X.room
    have hU : ((T.setVm s.vm).setFrames (.invoking m args :: below)).localsInUse = s.localsInUse := by
      rw [State.localsInUse_invoking hF (meth := meth) (c := c) X.method X.code, State.localsInUse_invoking X.frames X.method X.code]
    simp only [State.hasRoom, Bool.and_eq_true, decide_eq_true_eq] at h ⊢
    obtain ⟨⟨⟨⟨h1, h2, h3, h4, h5, h6⟩, h7⟩, h8⟩, h9⟩ := h
    rw [X.frames, List.length_cons] at h2 h3
    have q1 := X.heapSize
    have q2 := X.used
    simp only [hF, hU, List.length_cons, State.stackLimits_setFrames, State.stackBytes_setFrames, hl9, hb9]
    refine ⟨⟨⟨⟨by omega, by omega, by omega, by omega, by omega, h6⟩, ?_⟩, ?_⟩, X.book⟩
    · show T.heap.size + R'.cells ≤ e.platform.maxCells
      omega
    · show T.slotsUsed + R'.slots ≤ e.platform.maxSlots
      omega
  · rw [State.stackLimits_setFrames]; rfl
  · rw [State.stackBytes_setFrames]; rfl
  · refine ⟨?_, Nat.le_refl _, Nat.le_refl _, ?_, ?_, fun a c9 h9 => ⟨c9, h9, rfl, rfl, fun _ _ => rfl⟩⟩
    · obtain ⟨t, ht, -⟩ := State.frames_cons hr
      show T.setVm s.vm = { ((T.setVm s.vm).setFrames (.invoking m args :: below)).setFrames (T.setVm s.vm).frames with heap := T.heap, slotsUsed := T.slotsUsed }
      rw [State.setFrames_setFrames, State.setFrames_self ht]
      rfl
    · show T.slotsUsed = T.slotsUsed + ((T.heap.toList.drop T.heap.size).map (·.slots.size)).sum
      rw [List.drop_eq_nil_of_le (Nat.le_of_eq Array.length_toList)]
      rfl
    · show ((T.heap.toList.drop T.heap.size).map (·.slots.size)).sum ≤ 0
      rw [List.drop_eq_nil_of_le (Nat.le_of_eq Array.length_toList)]
      exact Nat.le_refl _
/-- 'throw new E()': new; dup; invokespecial; athrow -/
theorem vx_throw0 {cc : ByteArray} {pc : Nat} (hexec : p.tables.exec = Jvm.exec) (hb : c.code = cc) (hl : l.stackTraces = false) {own cls : String} {names : List String} {ik ic mc ms : Nat} {A : Nat → Prop}
    (hown : s.vm.findClass own = some m.cls) (hcls : Bundle.fit cls = true) (hnames : ∀ n ∈ names, Bundle.fit n = true)
    (hk : (Cond.classLink own ik cls).before args s = true) (hini : (Cond.initialized cls).before args s = true) (hat : ∀ w ∈ vx_at0 own ic cls names, w.before args s = true)
    (hgood : ∀ w ∈ Cond.classLink own ik cls :: Cond.initialized cls :: vx_at0 own ic cls names, vx_ot w = true)
    (hU : vx_Zq Bundle.tN "UNASSIGNED_STACK" Bundle.steD A s s.heap) (hN : vx_Zq Bundle.tN "SUPPRESSED_SENTINEL" Bundle.listD A s s.heap) (hS : va_S A s.heap H locs) (hsize : ls.size = c.maxLocals)
    (d0 : decode cc pc = .ok (.new ik, 3)) (d3 : decode cc (pc + 3) = .ok (.dup, 1)) (d4 : decode cc (pc + 4) = .ok (.invokespecial ic, 3)) (d7 : decode cc (pc + 7) = .ok (.athrow, 1))
    (hout : ∀ x ∈ c.exceptionTable.toList, covers x (pc + 7) = false)
    (hRframes : names.length + 3 < R.frames) (hRlocals : (rest.map fun v => v.category).sum + (13 * (names.length + 1) + 42) ≤ R.locals) (hRcells : cells + 1 ≤ R.cells) (hRslots : slots + 6 ≤ R.slots) (hlocks : meth.locks = false)
    (hx : ∀ t : State, s.vm.Alike t.vm → H.size ≤ t.heap.size → (∀ q : Nat, q < H.size → t.heap[q]? = H[q]?) → XC cls s t)
    (hf : ∀ z ∈ locs, free z.base) (hc : cells + 1 ≤ mc) (hs : slots + 6 ≤ ms) :
    W p l e R s m args below meth c H locs cells slots (vx_MQ below Qc XC args s mc ms free) (F0 m pc ls rest) := by
  intro T hT X
  have htr : e.platform.stackTraces = false := (show e.platform.stackTraces = l.stackTraces by rw [X.admits.platform]).trans hl
  have Y := vx_rebase X (R' := { frames := R.frames, locals := R.locals, cells := 1, slots := 6 }) (Nat.le_refl _) (Nat.le_refl _) hRcells hRslots
  obtain ⟨s', hA⟩ : ∃ z, z = (T.setVm s.vm).setFrames (.invoking m args :: below) := ⟨_, rfl⟩
  rw [← hA] at Y
  have hvm : s'.vm = s.vm := by rw [hA]; rfl
  have hhp : s'.heap = H := by rw [hA]; exact hT
  have hW0 : s.WarmedH s'.vm := by rw [hvm]; exact State.WarmedH.refl s
  have hat' : ∀ w ∈ vx_at0 own ic cls names, w.before args s' = true := fun w hw => vx_ot_at hW0 hvm.symm (hgood w (List.mem_cons_of_mem _ (List.mem_cons_of_mem _ hw))) (hat w hw)
  have hk' : (Cond.classLink own ik cls).before args s' = true := vx_ot_at hW0 hvm.symm (hgood _ List.mem_cons_self) hk
  have hini' : (Cond.initialized cls).before args s' = true := vx_ot_at hW0 hvm.symm (hgood _ (List.mem_cons_of_mem _ List.mem_cons_self)) hini
  have hU' : vx_Zq Bundle.tN "UNASSIGNED_STACK" Bundle.steD A s' s'.heap := by rw [hhp]; exact vx_Zq.moved hW0.alike (hU.kept hS.2.1)
  have hN' : vx_Zq Bundle.tN "SUPPRESSED_SENTINEL" Bundle.listD A s' s'.heap := by rw [hhp]; exact vx_Zq.moved hW0.alike (hN.kept hS.2.1)
  have h : ∀ w ∈ Bundle.ownAtoms0 own ic cls names, w.before args s' = true := vx_own hat' (vx_isRefq hU'.1) (vx_isRefq hN'.1) hU'.2.word hN'.2.word
  have hown' : s'.vm.findClass own = some m.cls := by rw [hvm]; exact hown
  have hins : (Cond.instantiable cls 6).before args s' = true := h _ (by simp [Bundle.ownAtoms0])
  obtain ⟨vm₁, cX, kX, hfX, hkX, -, -, X₁, st1⟩ := Y.newCold hexec (own := own) (C := cls) (index := ik) (n := 6) hown' hk' hins hini'
    (g := F0 m pc ls rest) rfl (by rw [hb]; exact d0) (Nat.le_refl _) (Nat.le_refl _)
  generalize hT1 : (T.setVm vm₁).pushCell { cls := cX, slots := kX.instanceTypes.map defaultValue, vm := .none } = T1 at X₁ st1
  have hcat : (Value.ref T.heap.size).category = 1 := rfl
  have hcellA : T1.heap[T.heap.size]? = some (freshCell cX kX) := by rw [← hT1]; exact State.heap_pushCell_size _ _
  have d3' : decode c.code (pc + 3) = .ok (.dup, 1) := by rw [hb]; exact d3
  obtain ⟨U, hsteps, hrun, hend, hW, hsame, ce, hce, hO⟩ := X₁.ctorThrow0 hexec htr (own := own) (cls := cls) (names := names) (ic := ic) hown' hcls hnames h (fun x hx => nomatch hx) hfX hkX hcellA (by rw [hhp, hT]; exact Nat.le_refl _)
    (g := { method := m, pc := pc + 4, locals := ls, stack := .ref T.heap.size :: .ref T.heap.size :: rest, locked := none }) rfl hsize rfl rfl (rest := rest) rfl
    (by rw [hb]; exact d4) (by rw [hb]; exact d7) hout hRframes (by simp only [List.map_cons, List.sum_cons, hcat]; omega) hlocks
  obtain ⟨f1, f2⟩ := vx_frame hsame
  rw [hhp] at f1 f2
  have hWs : s.WarmedH U.vm := State.WarmedH.trans hW0 hW
  have hcl : s.vm.findClass cls = some ce.cls := by
    have h9 := hO.cls
    rw [hvm] at h9
    exact h9
  have hall : s.sameButNew ({ U with vm := s.vm } : State) locs mc ms := by
    subst hA
    obtain ⟨e1, e2⟩ := hsame
    rw [State.setFrames_setFrames] at e1
    have h2 : (T.setVm s.vm).sameButNew ({ U with vm := s.vm } : State) [] (0 + 1) (0 + 6) := ⟨e1, e2⟩
    have h3 := X.same.trans h2
    rw [List.append_nil] at h3
    exact h3.mono hc hs
  refine ⟨U, ?_, .threw T.heap.size, hrun, hend, Or.inr ⟨T.heap.size, rfl, cls, ce, locs, hx U hWs.alike f1 (fun q hq => f2 q hq (fun z hz => nomatch hz)), hce, hO.vm, hcl, hWs, hall, hf⟩⟩
  refine st1 _ ?_
  show Steps p.tables e below (T1.setTop { method := m, pc := pc + 3, locals := ls, stack := .ref T.heap.size :: rest, locked := none }) _
  jvm_step X₁.here [X₁.here.top, hexec, d3', Value.category]
  exact hsteps
/-- 'throw new E("text")': new; dup; ldc; invokespecial; athrow -/
theorem vx_throwS {cc : ByteArray} {pc : Nat} (hexec : p.tables.exec = Jvm.exec) (hb : c.code = cc) (hl : l.stackTraces = false) {own cls text : String} {names : List String} {ik is ic mc ms sa : Nat} {A : Nat → Prop}
    (hown : s.vm.findClass own = some m.cls) (hcls : Bundle.fit cls = true) (hnames : ∀ n ∈ names, Bundle.fit n = true)
    (hk : (Cond.classLink own ik cls).before args s = true) (hini : (Cond.initialized cls).before args s = true) (hstr : vk_R own is text sa s) (hat : ∀ w ∈ vx_atS own ic cls names, w.before args s = true)
    (hgood : ∀ w ∈ Cond.classLink own ik cls :: Cond.initialized cls :: vx_atS own ic cls names, vx_ot w = true)
    (hU : vx_Zq Bundle.tN "UNASSIGNED_STACK" Bundle.steD A s s.heap) (hN : vx_Zq Bundle.tN "SUPPRESSED_SENTINEL" Bundle.listD A s s.heap) (hS : va_S A s.heap H locs) (hsize : ls.size = c.maxLocals)
    (d0 : decode cc pc = .ok (.new ik, 3)) (d3 : decode cc (pc + 3) = .ok (.dup, 1)) (d4 : decode cc (pc + 4) = .ok (.ldc is, 2)) (d6 : decode cc (pc + 6) = .ok (.invokespecial ic, 3)) (d9 : decode cc (pc + 9) = .ok (.athrow, 1))
    (hout : ∀ x ∈ c.exceptionTable.toList, covers x (pc + 9) = false)
    (hRframes : names.length + 3 < R.frames) (hRlocals : (rest.map fun v => v.category).sum + (13 * (names.length + 1) + 43) ≤ R.locals) (hRcells : cells + 1 ≤ R.cells) (hRslots : slots + 6 ≤ R.slots) (hlocks : meth.locks = false)
    (hx : ∀ t : State, s.vm.Alike t.vm → H.size ≤ t.heap.size → (∀ q : Nat, q < H.size → t.heap[q]? = H[q]?) → XC cls s t)
    (hf : ∀ z ∈ locs, free z.base) (hc : cells + 1 ≤ mc) (hs : slots + 6 ≤ ms) :
    W p l e R s m args below meth c H locs cells slots (vx_MQ below Qc XC args s mc ms free) (F0 m pc ls rest) := by
  intro T hT X
  have htr : e.platform.stackTraces = false := (show e.platform.stackTraces = l.stackTraces by rw [X.admits.platform]).trans hl
  have Y := vx_rebase X (R' := { frames := R.frames, locals := R.locals, cells := 1, slots := 6 }) (Nat.le_refl _) (Nat.le_refl _) hRcells hRslots
  obtain ⟨s', hA⟩ : ∃ z, z = (T.setVm s.vm).setFrames (.invoking m args :: below) := ⟨_, rfl⟩
  rw [← hA] at Y
  have hvm : s'.vm = s.vm := by rw [hA]; rfl
  have hhp : s'.heap = H := by rw [hA]; exact hT
  have hW0 : s.WarmedH s'.vm := by rw [hvm]; exact State.WarmedH.refl s
  have hat' : ∀ w ∈ vx_atS own ic cls names, w.before args s' = true := fun w hw => vx_ot_at hW0 hvm.symm (hgood w (List.mem_cons_of_mem _ (List.mem_cons_of_mem _ hw))) (hat w hw)
  have hk' : (Cond.classLink own ik cls).before args s' = true := vx_ot_at hW0 hvm.symm (hgood _ List.mem_cons_self) hk
  have hini' : (Cond.initialized cls).before args s' = true := vx_ot_at hW0 hvm.symm (hgood _ (List.mem_cons_of_mem _ List.mem_cons_self)) hini
  have hU' : vx_Zq Bundle.tN "UNASSIGNED_STACK" Bundle.steD A s' s'.heap := by rw [hhp]; exact vx_Zq.moved hW0.alike (hU.kept hS.2.1)
  have hN' : vx_Zq Bundle.tN "SUPPRESSED_SENTINEL" Bundle.listD A s' s'.heap := by rw [hhp]; exact vx_Zq.moved hW0.alike (hN.kept hS.2.1)
  have h : ∀ w ∈ Bundle.ownAtoms own ic cls names, w.before args s' = true := vx_own hat' (vx_isRefq hU'.1) (vx_isRefq hN'.1) hU'.2.word hN'.2.word
  have hown' : s'.vm.findClass own = some m.cls := by rw [hvm]; exact hown
  have hins : (Cond.instantiable cls 6).before args s' = true := h _ (by simp [Bundle.ownAtoms])
  obtain ⟨vm₁, cX, kX, hfX, hkX, -, -, X₁, st1⟩ := Y.newCold hexec (own := own) (C := cls) (index := ik) (n := 6) hown' hk' hins hini'
    (g := F0 m pc ls rest) rfl (by rw [hb]; exact d0) (Nat.le_refl _) (Nat.le_refl _)
  generalize hT1 : (T.setVm vm₁).pushCell { cls := cX, slots := kX.instanceTypes.map defaultValue, vm := .none } = T1 at X₁ st1
  have hcat : (Value.ref T.heap.size).category = 1 := rfl
  have hcellA : T1.heap[T.heap.size]? = some (freshCell cX kX) := by rw [← hT1]; exact State.heap_pushCell_size _ _
  have d3' : decode c.code (pc + 3) = .ok (.dup, 1) := by rw [hb]; exact d3
  have d4' : decode c.code (pc + 4) = .ok (.ldc is, 2) := by rw [hb]; exact d4
  have hstr' : vk_R own is text sa s' := vk_R.warm hW0 hstr
  obtain ⟨U, hsteps, hrun, hend, hW, hsame, ce, hce, hO⟩ := X₁.ctorThrowS hexec htr (own := own) (cls := cls) (names := names) (ic := ic) hown' hcls hnames h (fun x hx => nomatch hx) hfX hkX hcellA (by rw [hhp, hT]; exact Nat.le_refl _) (msg := .ref sa) rfl
    (g := { method := m, pc := pc + 6, locals := ls, stack := .ref sa :: .ref T.heap.size :: .ref T.heap.size :: rest, locked := none }) rfl hsize rfl rfl (rest := rest) rfl
    (by rw [hb]; exact d6) (by rw [hb]; exact d9) hout hRframes (by simp only [List.map_cons, List.sum_cons, hcat]; omega) hlocks
  obtain ⟨f1, f2⟩ := vx_frame hsame
  rw [hhp] at f1 f2
  have hWs : s.WarmedH U.vm := State.WarmedH.trans hW0 hW
  have hcl : s.vm.findClass cls = some ce.cls := by
    have h9 := hO.cls
    rw [hvm] at h9
    exact h9
  have hall : s.sameButNew ({ U with vm := s.vm } : State) locs mc ms := by
    subst hA
    obtain ⟨e1, e2⟩ := hsame
    rw [State.setFrames_setFrames] at e1
    have h2 : (T.setVm s.vm).sameButNew ({ U with vm := s.vm } : State) [] (0 + 1) (0 + 6) := ⟨e1, e2⟩
    have h3 := X.same.trans h2
    rw [List.append_nil] at h3
    exact h3.mono hc hs
  refine ⟨U, ?_, .threw T.heap.size, hrun, hend, Or.inr ⟨T.heap.size, rfl, cls, ce, locs, hx U hWs.alike f1 (fun q hq => f2 q hq (fun z hz => nomatch hz)), hce, hO.vm, hcl, hWs, hall, hf⟩⟩
  refine st1 _ ?_
  show Steps p.tables e below (T1.setTop { method := m, pc := pc + 3, locals := ls, stack := .ref T.heap.size :: rest, locked := none }) _
  jvm_step X₁.here [X₁.here.top, hexec, d3', Value.category]
  exact X₁.ldcString hexec (own := own) (text := text) (index := is) (a := sa) hown' hstr'.1 hstr'.2
    (g := { method := m, pc := pc + 4, locals := ls, stack := .ref T.heap.size :: .ref T.heap.size :: rest, locked := none }) rfl d4' _ hsteps
/-- 'throw new E("text")', the text by a wide index -/
theorem vx_throwSW {cc : ByteArray} {pc : Nat} (hexec : p.tables.exec = Jvm.exec) (hb : c.code = cc) (hl : l.stackTraces = false) {own cls text : String} {names : List String} {ik is ic mc ms sa : Nat} {A : Nat → Prop}
    (hown : s.vm.findClass own = some m.cls) (hcls : Bundle.fit cls = true) (hnames : ∀ n ∈ names, Bundle.fit n = true)
    (hk : (Cond.classLink own ik cls).before args s = true) (hini : (Cond.initialized cls).before args s = true) (hstr : vk_R own is text sa s) (hat : ∀ w ∈ vx_atS own ic cls names, w.before args s = true)
    (hgood : ∀ w ∈ Cond.classLink own ik cls :: Cond.initialized cls :: vx_atS own ic cls names, vx_ot w = true)
    (hU : vx_Zq Bundle.tN "UNASSIGNED_STACK" Bundle.steD A s s.heap) (hN : vx_Zq Bundle.tN "SUPPRESSED_SENTINEL" Bundle.listD A s s.heap) (hS : va_S A s.heap H locs) (hsize : ls.size = c.maxLocals)
    (d0 : decode cc pc = .ok (.new ik, 3)) (d3 : decode cc (pc + 3) = .ok (.dup, 1)) (d4 : decode cc (pc + 4) = .ok (.ldc_w is, 3)) (d7 : decode cc (pc + 7) = .ok (.invokespecial ic, 3)) (d10 : decode cc (pc + 10) = .ok (.athrow, 1))
    (hout : ∀ x ∈ c.exceptionTable.toList, covers x (pc + 10) = false)
    (hRframes : names.length + 3 < R.frames) (hRlocals : (rest.map fun v => v.category).sum + (13 * (names.length + 1) + 43) ≤ R.locals) (hRcells : cells + 1 ≤ R.cells) (hRslots : slots + 6 ≤ R.slots) (hlocks : meth.locks = false)
    (hx : ∀ t : State, s.vm.Alike t.vm → H.size ≤ t.heap.size → (∀ q : Nat, q < H.size → t.heap[q]? = H[q]?) → XC cls s t)
    (hf : ∀ z ∈ locs, free z.base) (hc : cells + 1 ≤ mc) (hs : slots + 6 ≤ ms) :
    W p l e R s m args below meth c H locs cells slots (vx_MQ below Qc XC args s mc ms free) (F0 m pc ls rest) := by
  intro T hT X
  have htr : e.platform.stackTraces = false := (show e.platform.stackTraces = l.stackTraces by rw [X.admits.platform]).trans hl
  have Y := vx_rebase X (R' := { frames := R.frames, locals := R.locals, cells := 1, slots := 6 }) (Nat.le_refl _) (Nat.le_refl _) hRcells hRslots
  obtain ⟨s', hA⟩ : ∃ z, z = (T.setVm s.vm).setFrames (.invoking m args :: below) := ⟨_, rfl⟩
  rw [← hA] at Y
  have hvm : s'.vm = s.vm := by rw [hA]; rfl
  have hhp : s'.heap = H := by rw [hA]; exact hT
  have hW0 : s.WarmedH s'.vm := by rw [hvm]; exact State.WarmedH.refl s
  have hat' : ∀ w ∈ vx_atS own ic cls names, w.before args s' = true := fun w hw => vx_ot_at hW0 hvm.symm (hgood w (List.mem_cons_of_mem _ (List.mem_cons_of_mem _ hw))) (hat w hw)
  have hk' : (Cond.classLink own ik cls).before args s' = true := vx_ot_at hW0 hvm.symm (hgood _ List.mem_cons_self) hk
  have hini' : (Cond.initialized cls).before args s' = true := vx_ot_at hW0 hvm.symm (hgood _ (List.mem_cons_of_mem _ List.mem_cons_self)) hini
  have hU' : vx_Zq Bundle.tN "UNASSIGNED_STACK" Bundle.steD A s' s'.heap := by rw [hhp]; exact vx_Zq.moved hW0.alike (hU.kept hS.2.1)
  have hN' : vx_Zq Bundle.tN "SUPPRESSED_SENTINEL" Bundle.listD A s' s'.heap := by rw [hhp]; exact vx_Zq.moved hW0.alike (hN.kept hS.2.1)
  have h : ∀ w ∈ Bundle.ownAtoms own ic cls names, w.before args s' = true := vx_own hat' (vx_isRefq hU'.1) (vx_isRefq hN'.1) hU'.2.word hN'.2.word
  have hown' : s'.vm.findClass own = some m.cls := by rw [hvm]; exact hown
  have hins : (Cond.instantiable cls 6).before args s' = true := h _ (by simp [Bundle.ownAtoms])
  obtain ⟨vm₁, cX, kX, hfX, hkX, -, -, X₁, st1⟩ := Y.newCold hexec (own := own) (C := cls) (index := ik) (n := 6) hown' hk' hins hini'
    (g := F0 m pc ls rest) rfl (by rw [hb]; exact d0) (Nat.le_refl _) (Nat.le_refl _)
  generalize hT1 : (T.setVm vm₁).pushCell { cls := cX, slots := kX.instanceTypes.map defaultValue, vm := .none } = T1 at X₁ st1
  have hcat : (Value.ref T.heap.size).category = 1 := rfl
  have hcellA : T1.heap[T.heap.size]? = some (freshCell cX kX) := by rw [← hT1]; exact State.heap_pushCell_size _ _
  have d3' : decode c.code (pc + 3) = .ok (.dup, 1) := by rw [hb]; exact d3
  have d4' : decode c.code (pc + 4) = .ok (.ldc_w is, 3) := by rw [hb]; exact d4
  have hstr' : vk_R own is text sa s' := vk_R.warm hW0 hstr
  obtain ⟨U, hsteps, hrun, hend, hW, hsame, ce, hce, hO⟩ := X₁.ctorThrowS hexec htr (own := own) (cls := cls) (names := names) (ic := ic) hown' hcls hnames h (fun x hx => nomatch hx) hfX hkX hcellA (by rw [hhp, hT]; exact Nat.le_refl _) (msg := .ref sa) rfl
    (g := { method := m, pc := pc + 7, locals := ls, stack := .ref sa :: .ref T.heap.size :: .ref T.heap.size :: rest, locked := none }) rfl hsize rfl rfl (rest := rest) rfl
    (by rw [hb]; exact d7) (by rw [hb]; exact d10) hout hRframes (by simp only [List.map_cons, List.sum_cons, hcat]; omega) hlocks
  obtain ⟨f1, f2⟩ := vx_frame hsame
  rw [hhp] at f1 f2
  have hWs : s.WarmedH U.vm := State.WarmedH.trans hW0 hW
  have hcl : s.vm.findClass cls = some ce.cls := by
    have h9 := hO.cls
    rw [hvm] at h9
    exact h9
  have hall : s.sameButNew ({ U with vm := s.vm } : State) locs mc ms := by
    subst hA
    obtain ⟨e1, e2⟩ := hsame
    rw [State.setFrames_setFrames] at e1
    have h2 : (T.setVm s.vm).sameButNew ({ U with vm := s.vm } : State) [] (0 + 1) (0 + 6) := ⟨e1, e2⟩
    have h3 := X.same.trans h2
    rw [List.append_nil] at h3
    exact h3.mono hc hs
  refine ⟨U, ?_, .threw T.heap.size, hrun, hend, Or.inr ⟨T.heap.size, rfl, cls, ce, locs, hx U hWs.alike f1 (fun q hq => f2 q hq (fun z hz => nomatch hz)), hce, hO.vm, hcl, hWs, hall, hf⟩⟩
  refine st1 _ ?_
  show Steps p.tables e below (T1.setTop { method := m, pc := pc + 3, locals := ls, stack := .ref T.heap.size :: rest, locked := none }) _
  jvm_step X₁.here [X₁.here.top, hexec, d3', Value.category]
  exact X₁.ldcStringW hexec (own := own) (text := text) (index := is) (a := sa) hown' hstr'.1 hstr'.2
    (g := { method := m, pc := pc + 4, locals := ls, stack := .ref T.heap.size :: .ref T.heap.size :: rest, locked := none }) rfl d4' _ hsteps
end Ends
section Bodies
variable {l : Launch}
theorem vx_ofW {y : MethodName} {ws ws' : List Cond} {rm : Room} {Pc : Array Value → State → Prop} {Qc : Array Value → State → Outcome → State → Prop} {XC : String → State → State → Prop} {mc ms : Nat} {free : Addr → Prop} {cc : ByteArray} {maxL : Nat} {ret : Option FieldType}
    (hy : plainName y.cls = true) (hw : ws = Cond.code y cc maxL ret :: ws')
    (body : ∀ p e s m args below meth c s₁, BodyLoose p l y (headSpec ws rm) cc maxL ret e s m args below meth c s₁ → c.maxLocals = maxL → (∀ x ∈ c.exceptionTable.toList, False) → Pc args s →
      W p l e (headSpec ws rm).room s m args below meth c s.heap [] 0 0 (vx_MQ below Qc XC args s mc ms free) (entryFrame m args maxL)) : vx_Met l y ws rm Pc Qc XC mc ms free := by
  refine MetFree.of_bodyS (code := cc) (maxLocals := maxL) (ret := ret) hy ?_ ?_
  · intro args s m h hn
    obtain ⟨meth, c, h1, h2, h3, h4, h5, h6, -, -⟩ := Cond.code_spec hn (atoms_spec (ws := ws) h _ (by rw [hw]; exact List.mem_cons_self))
    exact ⟨meth, c, h1, h2, h3, h4, h5, h6⟩
  · intro p e s m args below meth c s₁ B hml hP _
    have hh0 : s₁.heap = s.heap := by rw [B.state]; rfl
    have ht : ∀ x ∈ c.exceptionTable.toList, False := by
      obtain ⟨meth9, c9, h1, h2, -, -, -, -, h7, -⟩ := Cond.code_spec B.named (atoms_spec (ws := ws) B.pre _ (by rw [hw]; exact List.mem_cons_self))
      cases Option.some.inj (h1.symm.trans B.method)
      cases Option.some.inj (h2.symm.trans (Stand.of_body B).code)
      intro x hx
      rw [Array.isEmpty_iff.mp h7] at hx
      cases hx
    obtain ⟨t, a1, o, b1, b2, b3⟩ := body p e s m args below meth c s₁ B hml ht hP s₁ hh0 (Stand.of_body B)
    exact ⟨t, o, a1, b1, b2, b3⟩
/-- the table of a body with handlers -/
theorem vx_table {p : Program} {x y : MethodName} {S : Spec} {cc bytes : ByteArray} {maxL maxL' : Nat} {ret ret' : Option FieldType} {e : Env} {s s₁ : State} {m : MethodId} {args : Array Value} {below : List Frame} {meth : Method} {c : Code} {hh : List (Nat × Nat × Nat × Nat)}
    (B : BodyLoose p l y S cc maxL ret e s m args below meth c s₁) (h : (Cond.codeWith y bytes maxL' ret' hh).before args s = true) : c.exceptionTable.toList = tableOf hh := by
  obtain ⟨m9, meth9, c9, hn9, h1, h2, -, -, h6, -⟩ := Cond.codeWith_spec h
  cases Option.some.inj (hn9.symm.trans B.named)
  cases Option.some.inj (h1.symm.trans B.method)
  cases Option.some.inj (h2.symm.trans (Stand.of_body B).code)
  rw [← h6, table_eq]
end Bodies
end VXA
/-! ===== END ===== -/
/-! ===== BEGIN a static call of a method with an exception table ===== -/
section VXS
variable {p : Program} {l : Launch} {e : Env} {R : Room} {s : State} {m : MethodId} {args : Array Value} {below : List Frame} {meth : Method} {c : Code} {T : State} {H : Heap} {locs : List Loc} {cells slots : Nat}
abbrev vx_CSW (R : Room) (s : State) (args : Array Value) (own : String) (index : Nat) (y : MethodName) (bytes : ByteArray) (maxL : Nat) (ret : Option FieldType) (hh : List (Nat × Nat × Nat × Nat)) (ws : List Cond) (rm : Room) (mc ms n : Nat) : Prop :=
  (rm.cells = mc ∧ rm.slots = ms ∧ rm.frames + 1 ≤ R.frames ∧ 8 + (maxL + 11) + rm.locals ≤ R.locals ∧ (∀ w ∈ ws, ∀ (a' : Array Value) (U : State), s.WarmedH U.vm → w.before a' U = true) ∧ Cond.codeWith y bytes maxL ret hh ∈ ws) ∧
  (Cond.codeWith y bytes maxL ret hh).before args s = true ∧ (Cond.initialized y.cls).before args s = true ∧ (y.cls ≠ "java/lang/invoke/MethodHandle" ∧ y.cls ≠ "java/lang/invoke/VarHandle") ∧
  (∀ sig, parseMethodDescriptor y.desc = some sig → n = sig.parameters.length) ∧ (Cond.methodLink own index y).before args s = true ∧ (Cond.static y).before args s = true
theorem vx_cwSW {own : String} {index maxL mc ms : Nat} {y : MethodName} {bytes : ByteArray} {ret : Option FieldType} {hh : List (Nat × Nat × Nat × Nat)} {Ts ws ws' : List Cond} {rm : Room} (n : Nat) (ht : ∀ w ∈ Ts, w.before args s = true) (hT : GoodIn Ts (va_wsS own index y ws)) (hw : ws = Cond.codeWith y bytes maxL ret hh :: ws') (hrc : rm.cells = mc) (hrs : rm.slots = ms)
    (hd : y.cls ≠ "java/lang/invoke/MethodHandle" ∧ y.cls ≠ "java/lang/invoke/VarHandle" ∧ (parseMethodDescriptor y.desc).map (fun d => d.parameters.length) = some n) (hR : rm.frames + 1 ≤ R.frames ∧ 8 + (maxL + 11) + rm.locals ≤ R.locals) :
    vx_CSW R s args own index y bytes maxL ret hh ws rm mc ms n := by
  have ok : ∀ w ∈ va_wsS own index y ws, w.before args s = true := fun w h => ht w (hT w h).1
  have hG : GoodIn Ts ws := fun w h => hT w (by unfold va_wsS; exact List.mem_append_right _ h)
  have hc : Cond.codeWith y bytes maxL ret hh ∈ ws := by rw [hw]; exact List.mem_cons_self
  refine ⟨⟨hrc, hrs, hR.1, hR.2, pay_in ht hG, hc⟩, ht _ (hG _ hc).1, ok _ (by simp [va_wsS]), ⟨hd.1, hd.2.1⟩, fun sig h => ?_, ok _ (by simp [va_wsS]), ok _ (by simp [va_wsS])⟩
  have h2 := hd.2.2
  rw [h] at h2
  exact (Option.some.inj h2).symm
theorem vx_callSW (X : Stand p l e R s m args below meth c T locs cells slots) (hexec : p.tables.exec = Jvm.exec) {own : String} {index : Nat} {y : MethodName} {bytes : ByteArray} {maxL : Nat} {ret : Option FieldType} {hh : List (Nat × Nat × Nat × Nat)}
    (hown : s.vm.findClass own = some m.cls) (hlink : (Cond.methodLink own index y).before args s = true) (hstat : (Cond.static y).before args s = true) (hinit : (Cond.initialized y.cls).before args s = true)
    (hcode : (Cond.codeWith y bytes maxL ret hh).before args s = true) (hy : y.cls ≠ "java/lang/invoke/MethodHandle" ∧ y.cls ≠ "java/lang/invoke/VarHandle")
    {W9 : Nat} {Pre : Pt → Array Value → Prop} {Post : Pt → Array Value → Option Value → Pt → Prop} (hK : Back l R p e below s args y 3 W9 Pre Post)
    {g : JFrame} (hg : g.method = m) (hsize : g.locals.size = c.maxLocals) {argsL rest : List Value} (hlen : ∀ sig, parseMethodDescriptor y.desc = some sig → argsL.length = sig.parameters.length)
    (hstack : g.stack = argsL.reverse ++ rest) (hW : 2 * g.monitorRoom + (rest.map fun v => v.category).sum ≤ W9) (hdg : decode c.code g.pc = .ok (.invokestatic index, 3))
    (hpre : ∀ vm₁, s.WarmedH vm₁ → Pre ⟨T.setVm vm₁, locs, cells, slots⟩ argsL.toArray) :
    ∃ (v : Option Value) (vm₁ : Vm) (B : Pt), s.WarmedH vm₁ ∧ Stand p l e R s m args below meth c B.U B.locs B.cells B.slots ∧ Post ⟨T.setVm vm₁, locs, cells, slots⟩ argsL.toArray v B ∧
      ∀ target, Steps p.tables e below (B.U.setTop { g with pc := g.pc + 3, stack := v.toList ++ rest }) target → Steps p.tables e below (T.setTop g) target := by
  obtain ⟨mk, methM, cM, hnamed, hmethM, -, -, -, -, -, -, hsigM⟩ := Cond.codeWith_spec hcode
  have hstatic : methM.isStatic = true := Cond.static_spec hnamed hmethM hstat
  obtain ⟨kP, hkP, -⟩ := className_of_methodNamed hnamed
  have hinitP : kP.init = .initialized := Cond.initialized_spec (findClass_of_methodNamed hnamed) hkP hinit
  obtain ⟨vm₁, X₁, hstep₁⟩ := X.invokestatic hexec hown hlink hnamed hmethM hstatic hkP hinitP hy (g := g) hg (argsL := argsL) (rest := rest) (hlen _ hsigM) hstack hdg
  obtain ⟨v, B, X', hpost, hsteps⟩ := hK m meth c ⟨T.setVm vm₁, locs, cells, slots⟩ { g with stack := rest } (.invokestatic index) mk argsL.toArray X₁ hg hsize hdg hW (X₁.named hnamed) (hpre vm₁ X₁.warmed)
  exact ⟨v, vm₁, B, X₁.warmed, X', hpost, fun target h => hstep₁ _ fun acts => by rw [doInvoke_state]; exact hsteps.trans h⟩
theorem vx_runSW {y : MethodName} {bytes cc : ByteArray} {maxL nL mc ms n index : Nat} {ret : Option FieldType} {hh : List (Nat × Nat × Nat × Nat)} {ws : List Cond} {rm : Room} {Pc : Array Value → State → Prop} {Qc : Array Value → State → Outcome → State → Prop} {free : Addr → Prop} {Ts : List Cond} {own : String} {As rest : List Value} {g : JFrame}
    (S : CallFix p m c cc nL s args Ts own) (hM : Met l y ws rm Pc Qc mc ms free) (cw : vx_CSW R s args own index y bytes maxL ret hh ws rm mc ms n) (hp : PreS s H Pc As)
    (hg : g.method = m) (hn : As.length = n) (hsize : g.locals.size = nL) (hstack : g.stack = As.reverse ++ rest) (hW : 2 * g.monitorRoom + (rest.map fun v => v.category).sum ≤ 8) (hdg : decode cc g.pc = .ok (.invokestatic index, 3)) (hf : cells + mc ≤ R.cells ∧ slots + ms ≤ R.slots) :
    va_Run p l e R s m args below meth c H locs cells slots mc ms g rest (Qc As.toArray) (free) := by
  obtain ⟨⟨hrc, hrs, hfr, hlo, hws, hcw⟩, hcode, hini, hy, hlen, hl, hstt⟩ := cw
  have hK : Back l R p e below s args y 3 8 (PreOf R mc ms Pc) (PostOf Qc mc ms free) := va_backW (hh := hh) (bytes := bytes) (maxL := maxL) (ret := ret) hM hp.1 hrc hrs hfr hlo hws hcw (fun a' U hW => word_at hW (Or.inl (by first | rfl | simp [Cond.onTables, Cond.keeps, Cond.steady])) hini)
  obtain ⟨hx, hb, hml, ho, -⟩ := S
  intro T hT X
  obtain ⟨v, vm₁, ⟨U', l2, c2, s2⟩, hW₁, X', ⟨g', mk, t, L, e1, e2, hq, h1, hL, h2, h3⟩, st⟩ := vx_callSW X hx (hh := hh) (bytes := bytes) (maxL := maxL) (ret := ret) ho hl hstt hini hcode hy hK hg (hsize.trans hml.symm) (argsL := As) (rest := rest) (fun sig h => hn.trans (hlen sig h)) hstack hW (by rw [hb]; exact hdg)
    (fun vm₁ hW₁ => ⟨hf.1, hf.2, hp.2 (T.setVm vm₁) hT hW₁⟩)
  dsimp only [Pt.U, Pt.locs, Pt.cells, Pt.slots] at X' e1 e2 h1 h2 h3 st
  subst h1; subst h2; subst h3
  exact ⟨v, (T.setVm vm₁).calling g' mk As.toArray, t, U', L, hT, X', hL, e1, e2, hq, st⟩
/-- not caught here, past rows that name other classes: it goes on to the caller -/
theorem vx_outP {p : Program} {l : Launch} {e : Env} {R : Room} {s : State} {m : MethodId} {args : Array Value} {below : List Frame} {meth : Method} {c : Code} {H : Heap} {locs : List Loc} {cells slots : Nat} {free : Addr → Prop} {ls : Array Slot} {rest : List Value} {Qc : Array Value → State → Outcome → State → Prop} {XC : String → State → State → Prop}
    {pc : Nat} {own E : String} {ce : Cell} {q : Addr} {mc ms : Nat} (hown : s.vm.findClass own = some m.cls) (hlocks : meth.locks = false)
    (hpass : ∀ z ∈ c.exceptionTable.toList, covers z pc = false ∨ (z.catchType ≠ 0 ∧ ∃ nm : String, (Cond.classLink own z.catchType nm).before args s = true ∧ va_Nc E nm s)) (hcell : H[q]? = some ce) (hv : ce.vm = .none) (hcl : s.vm.findClass E = some ce.cls)
    (hx : ∀ t : State, t.heap = H → s.vm.Alike t.vm → XC E s t) (hf : ∀ z ∈ locs, free z.base) (hc : cells ≤ mc) (hs : slots ≤ ms) :
    vx_W p l e R s m args below meth c H locs cells slots (vx_MQ below Qc XC args s mc ms free) (F0 m pc ls rest) q := by
  intro T hT X
  have hpl : e.platform.magicAccessors = ({} : Platform).magicAccessors := by rw [X.admits.platform]
  obtain ⟨vm', hW', X', st⟩ := X.outThrough hlocks q (g := F0 m pc ls rest) rfl rfl rfl (cell := ce) (by rw [hT]; exact hcell) (by rw [hv]; rfl)
    (by obtain ⟨k9, h9, -⟩ := Vm.findClass_spec hcl; exact ⟨k9, h9⟩) (fun z hz => by
      rcases hpass z hz with h | ⟨hz0, nm, hl1, hn1⟩
      · exact Or.inl h
      · obtain ⟨c6, hc6, hcl6⟩ := Cond.classLink_spec hown hl1 e.platform hpl
        obtain ⟨a8, b8, h1, h2, h3⟩ := hn1
        cases Option.some.inj (h1.symm.trans hcl)
        cases Option.some.inj (h2.symm.trans hc6)
        exact Or.inr ⟨hz0, _, hcl6, h3⟩)
  obtain ⟨g₀, hfr⟩ := X'.frames_eq
  have hcell9 : ((T.setVm vm').setFrames (.throwing q :: below)).heap[q]? = some ce := by
    show T.heap[q]? = some ce
    rw [hT]; exact hcell
  have hend : Ended ((T.setVm vm').setFrames (.throwing q :: below)) below (.threw q) := State.frames_setFrames _ (State.cur_lt_of_frames hfr)
  refine ⟨(T.setVm vm').setFrames (.throwing q :: below), ?_, .threw q, X'.here.running, hend, Or.inr ⟨q, rfl, E, ce, locs, hx _ hT (X'.ends _).1.alike, hcell9, hv, hcl, (X'.ends _).1, (X'.ends _).2.mono hc hs, hf⟩⟩
  rw [X.pushThrowing_eq]
  exact st
/-- a thing of a world lies in the heap -/
theorem vx_lt {D : va_G} {cl : List vw_C} {ws : va_W} {H1 : Heap} (h : va_P D cl ws H1) {k : Nat} {q : Nat × va_E} (hk : ws[k]? = some q) : q.1 < H1.size := (h k q hk).lt
end VXS
/-! ===== END ===== -/
/-! ===== BEGIN methods with a table of their own: called by a name, returning or throwing ===== -/
section VXH
/-! vx_backW, vx_callVX, vx_callSX, vx_callVW, vx_runVW, vx_runVX, vx_runSX, vx_ofWH follow the same proofs as their sisters above (Free/Laws.lean, Shelf42/LK1.lean); vx_outP calls Shelf42/NT130.lean (outThrough). -/
section
variable {l : Launch} {R : Room} {p : Program} {e : Env} {below : List Frame} {s : State} {sargs : Array Value} {y : MethodName} {len W9 : Nat}
theorem vx_backW {ws : List Cond} {rm : Room} {Pc : Array Value → State → Prop} {Qc : Array Value → State → Outcome → State → Prop} {XC : String → State → State → Prop} {mc ms : Nat} {free : Addr → Prop} {bytes : ByteArray} {maxL : Nat} {ret : Option FieldType} {hh : List (Nat × Nat × Nat × Nat)}
    (hM : vx_Met l y ws rm Pc Qc XC mc ms free) (hblind : FrameBlind Pc) (hrc : rm.cells = mc) (hrs : rm.slots = ms)
    (hframes : rm.frames + 1 ≤ R.frames) (hlocals : W9 + (maxL + 11) + rm.locals ≤ R.locals)
    (hws : ∀ w ∈ ws, ∀ a' U, s.WarmedH U.vm → w.before a' U = true) (hcode : Cond.codeWith y bytes maxL ret hh ∈ ws) (hinit : ∀ a' U, s.WarmedH U.vm → (Cond.initialized y.cls).before a' U = true) :
    vx_Back l R p e below s sargs y len W9 (PreOf R mc ms Pc) (PostOf Qc mc ms free) (vx_Post XC mc ms free) := by
  intro m meth c A g ig mk a X hg hsize hdg hW hn hp
  have h1 : (headSpec ws rm).pre.before a A.U = true := atoms_intro fun w hw => hws w hw _ _ X.warmed
  have h2 : (Cond.codeWith y bytes maxL ret hh).before a A.U = true := hws _ hcode _ _ X.warmed
  have h3 : (Cond.initialized y.cls).before a A.U = true := hinit _ _ X.warmed
  have h4 : A.cells + (headSpec ws rm).room.cells ≤ R.cells := by rw [show (headSpec ws rm).room.cells = mc from hrc]; exact hp.1
  have h5 : A.slots + (headSpec ws rm).room.slots ≤ R.slots := by rw [show (headSpec ws rm).room.slots = ms from hrs]; exact hp.2.1
  have hPc : Pc a (A.U.calling g mk a) := hblind _ _ _ _ hp.2.2
  obtain ⟨U, Ls, c0, s0⟩ := A
  dsimp only [Pt.U, Pt.locs, Pt.cells, Pt.slots] at h1 h2 h3 h4 h5 X hn hPc ⊢
  obtain ⟨m9, methY, cY, hn9, hmY, hcY, -, hlY, -⟩ := Cond.codeWith_spec h2
  cases Option.some.inj (hn9.symm.trans hn)
  obtain ⟨kY, hkY, -⟩ := className_of_methodNamed hn
  have hinitY : kY.init = .initialized := Cond.initialized_spec (findClass_of_methodNamed hn) hkY h3
  have h : At U g.method c below := by rw [hg]; exact X.here
  have hlocals9 : W9 + (maxL + 11) + (headSpec ws rm).room.locals ≤ R.locals := hlocals
  have happ : (headSpec ws rm).appliesLoose y e.platform (U.calling g mk a) = true :=
    Spec.appliesLoose_calling (g := g) h hdg hn hkY hinitY
      (X.room_calling (g := g) (R' := (headSpec ws rm).room) hsize hmY hcY hframes (by rw [hlY]; omega) h4 h5) h1
  obtain ⟨mid, hmid⟩ := h.above
  have hfr : (U.setTop g).frames = (.java g :: mid) ++ below := by rw [State.frames_setTop' g h.top, hmid]; rfl
  obtain ⟨o, s₂, hsteps, -, hend, hq⟩ := Steps.callFree hM p X.admits X.cas X.clock (acts := []) hfr happ hPc trivial
  have hq' : vx_Q Qc XC mc ms free a (U.calling g mk a) o s₂ := hq
  rw [State.frames_setTop' g h.top] at hend
  obtain ⟨g₀, hg0⟩ := Option.isSome_iff_exists.mp h.top
  obtain ⟨r, hr⟩ := State.topJava?_eq_some.mp hg0
  have hr' : (({ U with heap := s₂.heap, slotsUsed := s₂.slotsUsed } : State).setVm s₂.vm).frames = .java g₀ :: r := hr
  rcases hq' with ⟨hqc, L, hfe, hL⟩ | ⟨q, rfl, E, ce, L, hx, hce, hcv, hcl, hW₂, hsm, hL⟩
  · obtain ⟨⟨v, rfl⟩, hW₂, e2, q2, q3, q4, q5, q6⟩ := id hfe
    have e3 : s₂ = ({ (U.calling g mk a).setFrames s₂.frames with heap := s₂.heap, slotsUsed := s₂.slotsUsed } : State).setVm s₂.vm := by
      have : s₂ = ({ s₂ with vm := (U.calling g mk a).vm } : State).setVm s₂.vm := rfl
      rw [e2] at this
      exact this
    obtain ⟨c₂, i₂, len₂, hc₂, hd₂, hf₂⟩ := hend
    have hW' : U.WarmedH s₂.vm := hW₂
    have hcc : c₂ = c := by
      have h1 : s₂.code? g.method = U.code? g.method := by
        rw [State.code?_eq, State.code?_eq, hW'.alike.method?]
      exact Option.some.inj (hc₂.symm.trans (h1.trans h.code))
    subst hcc
    have hlen : len₂ = len := by rw [hdg] at hd₂; cases hd₂; rfl
    subst hlen
    have hs₂ : s₂ = (({ U with heap := s₂.heap, slotsUsed := s₂.slotsUsed } : State).setVm s₂.vm).setTop { g with pc := g.pc + len₂, stack := v.toList ++ g.stack } := by
      refine e3.trans ?_
      rw [hf₂, State.calling_eq h.top, State.setFrames_setFrames, State.setTop_of_frames _ hr', hr]
      rfl
    have hsame : U.sameButNew ({ U with heap := s₂.heap, slotsUsed := s₂.slotsUsed } : State) L mc ms := by
      refine ⟨?_, q2, q3, q4, q5, q6⟩
      obtain ⟨t, ht, -⟩ := State.frames_cons hr
      show ({ U with heap := s₂.heap, slotsUsed := s₂.slotsUsed } : State) = { U.setFrames U.frames with heap := s₂.heap, slotsUsed := s₂.slotsUsed }
      rw [State.setFrames_self ht]
    subst hg
    refine Or.inl ⟨v, ⟨(({ U with heap := s₂.heap, slotsUsed := s₂.slotsUsed } : State).setVm s₂.vm), Ls ++ L, c0 + mc, s0 + ms⟩,
      ⟨X.admits, X.cas, X.clock, X.frames, X.room, X.hears, X.method, X.code, (X.here.setHeapUsed s₂.heap s₂.slotsUsed).setVm hW'.alike, X.tail, State.WarmedH.trans X.warmed hW', X.limits, X.bytes, X.same.trans (hsame.setVm s.vm)⟩,
      ⟨g, mk, s₂, L, rfl, rfl, hqc, rfl, hL, rfl, rfl⟩, ?_⟩
    show Steps p.tables e below _ ((({ U with heap := s₂.heap, slotsUsed := s₂.slotsUsed } : State).setVm s₂.vm).setTop { g with pc := g.pc + len₂, stack := v.toList ++ g.stack })
    rw [← hs₂]
    exact hsteps
  · obtain ⟨e2, q2, q3, q4, q5, q6⟩ := id hsm
    have e3 : s₂ = ({ (U.calling g mk a).setFrames s₂.frames with heap := s₂.heap, slotsUsed := s₂.slotsUsed } : State).setVm s₂.vm := by
      have : s₂ = ({ s₂ with vm := (U.calling g mk a).vm } : State).setVm s₂.vm := rfl
      rw [e2] at this
      exact this
    have hf₂ : s₂.frames = .throwing q :: .java g :: U.frames.tail := hend
    have hW' : U.WarmedH s₂.vm := hW₂
    have hs₂ : s₂ = ((({ U with heap := s₂.heap, slotsUsed := s₂.slotsUsed } : State).setVm s₂.vm).setTop g).pushFrame (.throwing q) := by
      refine e3.trans ?_
      rw [hf₂, State.calling_eq h.top, State.setFrames_setFrames, State.pushFrame, State.frames_setTop _ hr', State.setTop_of_frames _ hr', State.setFrames_setFrames, hr]
      rfl
    have hsame : U.sameButNew ({ U with heap := s₂.heap, slotsUsed := s₂.slotsUsed } : State) L mc ms := by
      refine ⟨?_, q2, q3, q4, q5, q6⟩
      obtain ⟨t, ht, -⟩ := State.frames_cons hr
      show ({ U with heap := s₂.heap, slotsUsed := s₂.slotsUsed } : State) = { U.setFrames U.frames with heap := s₂.heap, slotsUsed := s₂.slotsUsed }
      rw [State.setFrames_self ht]
    subst hg
    refine Or.inr ⟨q, ⟨(({ U with heap := s₂.heap, slotsUsed := s₂.slotsUsed } : State).setVm s₂.vm), Ls ++ L, c0 + mc, s0 + ms⟩,
      ⟨X.admits, X.cas, X.clock, X.frames, X.room, X.hears, X.method, X.code, (X.here.setHeapUsed s₂.heap s₂.slotsUsed).setVm hW'.alike, X.tail, State.WarmedH.trans X.warmed hW', X.limits, X.bytes, X.same.trans (hsame.setVm s.vm)⟩,
      ⟨g, mk, s₂, L, E, ce, rfl, rfl, hx, hce, hcv, hcl, rfl, hL, rfl, rfl⟩, ?_⟩
    show Steps p.tables e below _ (((({ U with heap := s₂.heap, slotsUsed := s₂.slotsUsed } : State).setVm s₂.vm).setTop g).pushFrame (.throwing q))
    rw [← hs₂]
    exact hsteps
end
variable {p : Program} {l : Launch} {e : Env} {R : Room} {s : State} {m : MethodId} {args : Array Value} {below : List Frame} {meth : Method} {c : Code} {T : State} {H : Heap} {locs : List Loc} {cells slots : Nat}
theorem vx_callVX (X : Stand p l e R s m args below meth c T locs cells slots) (hexec : p.tables.exec = Jvm.exec) {own C : String} {index : Nat} {y : MethodName} {bytes : ByteArray} {maxL : Nat} {ret : Option FieldType} {hh : List (Nat × Nat × Nat × Nat)}
    (hown : s.vm.findClass own = some m.cls) (hlink : (Cond.methodLink own index y).before args s = true) (hinst : (Cond.instanceMethod y).before args s = true) (hsel : (Cond.selects C y y).before args s = true)
    (hcode : (Cond.codeWith y bytes maxL ret hh).before args s = true) (hy : y.cls ≠ "java/lang/invoke/MethodHandle" ∧ y.cls ≠ "java/lang/invoke/VarHandle")
    {W9 : Nat} {Pre : Pt → Array Value → Prop} {Post : Pt → Array Value → Option Value → Pt → Prop} {PostX : Pt → Array Value → Addr → Pt → Prop} (hK : vx_Back l R p e below s args y 3 W9 Pre Post PostX)
    {b : Addr} {cellB : Cell} (hcell : T.heap[b]? = some cellB) (hobj : cellB.vm.isStatics = false) (hcls : s.vm.findClass C = some cellB.cls)
    {g : JFrame} (hg : g.method = m) (hsize : g.locals.size = c.maxLocals) {argsL rest : List Value} (hlen : ∀ sig, parseMethodDescriptor y.desc = some sig → argsL.length = sig.parameters.length)
    (hstack : g.stack = argsL.reverse ++ .ref b :: rest) (hW : 2 * g.monitorRoom + (rest.map fun v => v.category).sum ≤ W9) (hdg : decode c.code g.pc = .ok (.invokevirtual index, 3))
    (hpre : ∀ vm₁, s.WarmedH vm₁ → Pre ⟨T.setVm vm₁, locs, cells, slots⟩ (Value.ref b :: argsL).toArray) :
    (∃ (v : Option Value) (vm₁ : Vm) (B : Pt), s.WarmedH vm₁ ∧ Stand p l e R s m args below meth c B.U B.locs B.cells B.slots ∧ Post ⟨T.setVm vm₁, locs, cells, slots⟩ (Value.ref b :: argsL).toArray v B ∧
      ∀ target, Steps p.tables e below (B.U.setTop { g with pc := g.pc + 3, stack := v.toList ++ rest }) target → Steps p.tables e below (T.setTop g) target) ∨
    (∃ (q : Addr) (vm₁ : Vm) (B : Pt), s.WarmedH vm₁ ∧ Stand p l e R s m args below meth c B.U B.locs B.cells B.slots ∧ PostX ⟨T.setVm vm₁, locs, cells, slots⟩ (Value.ref b :: argsL).toArray q B ∧
      Steps p.tables e below (T.setTop g) ((B.U.setTop { g with stack := rest }).pushFrame (.throwing q))) := by
  obtain ⟨mk, methM, hnamed, hmethM, hstM, habM⟩ := Cond.instanceMethod_spec hinst
  obtain ⟨m8, methM', cM, hn8, hmethM', -, -, -, -, -, -, hsigM⟩ := Cond.codeWith_spec hcode
  cases Option.some.inj (hn8.symm.trans hnamed)
  cases hmethM.symm.trans hmethM'
  obtain ⟨c2, r2, m2, q1, q2, q3, q4, kP, hkP, hkPi⟩ := Cond.selects_spec hsel
  cases hcls.symm.trans q1
  cases (State.methodFound?_of_named hnamed hy).symm.trans q2
  cases hnamed.symm.trans q3
  have hselP : selectMethod e.platform s.vm cellB.cls mk = .method mk := by rw [Launch.admits_selectMethod X.admits]; exact q4
  obtain ⟨vm₁, X₁, hstep₁⟩ := X.invokevirtual hexec hown hlink hnamed hmethM hstM hkP hkPi hy (a := b) (cell := cellB) hcell
    (fun z h => by rw [h] at hobj; cases hobj) hselP hmethM habM hkP hkPi (g := g) hg (argsL := argsL) (rest := rest) (hlen _ hsigM) hstack hdg
  rcases hK m meth c ⟨T.setVm vm₁, locs, cells, slots⟩ { g with stack := rest } (.invokevirtual index) mk (Value.ref b :: argsL).toArray X₁ hg hsize hdg hW (X₁.named hnamed) (hpre vm₁ X₁.warmed) with ⟨v, B, X', hpost, hsteps⟩ | ⟨q, B, X', hpost, hsteps⟩
  · exact Or.inl ⟨v, vm₁, B, X₁.warmed, X', hpost, fun target h => hstep₁ _ fun acts => by rw [doInvoke_state]; exact hsteps.trans h⟩
  · exact Or.inr ⟨q, vm₁, B, X₁.warmed, X', hpost, hstep₁ _ fun acts => by rw [doInvoke_state]; exact hsteps⟩
theorem vx_callSX (X : Stand p l e R s m args below meth c T locs cells slots) (hexec : p.tables.exec = Jvm.exec) {own : String} {index : Nat} {y : MethodName} {bytes : ByteArray} {maxL : Nat} {ret : Option FieldType} {hh : List (Nat × Nat × Nat × Nat)}
    (hown : s.vm.findClass own = some m.cls) (hlink : (Cond.methodLink own index y).before args s = true) (hstat : (Cond.static y).before args s = true) (hinit : (Cond.initialized y.cls).before args s = true)
    (hcode : (Cond.codeWith y bytes maxL ret hh).before args s = true) (hy : y.cls ≠ "java/lang/invoke/MethodHandle" ∧ y.cls ≠ "java/lang/invoke/VarHandle")
    {W9 : Nat} {Pre : Pt → Array Value → Prop} {Post : Pt → Array Value → Option Value → Pt → Prop} {PostX : Pt → Array Value → Addr → Pt → Prop} (hK : vx_Back l R p e below s args y 3 W9 Pre Post PostX)
    {g : JFrame} (hg : g.method = m) (hsize : g.locals.size = c.maxLocals) {argsL rest : List Value} (hlen : ∀ sig, parseMethodDescriptor y.desc = some sig → argsL.length = sig.parameters.length)
    (hstack : g.stack = argsL.reverse ++ rest) (hW : 2 * g.monitorRoom + (rest.map fun v => v.category).sum ≤ W9) (hdg : decode c.code g.pc = .ok (.invokestatic index, 3))
    (hpre : ∀ vm₁, s.WarmedH vm₁ → Pre ⟨T.setVm vm₁, locs, cells, slots⟩ argsL.toArray) :
    (∃ (v : Option Value) (vm₁ : Vm) (B : Pt), s.WarmedH vm₁ ∧ Stand p l e R s m args below meth c B.U B.locs B.cells B.slots ∧ Post ⟨T.setVm vm₁, locs, cells, slots⟩ argsL.toArray v B ∧
      ∀ target, Steps p.tables e below (B.U.setTop { g with pc := g.pc + 3, stack := v.toList ++ rest }) target → Steps p.tables e below (T.setTop g) target) ∨
    (∃ (q : Addr) (vm₁ : Vm) (B : Pt), s.WarmedH vm₁ ∧ Stand p l e R s m args below meth c B.U B.locs B.cells B.slots ∧ PostX ⟨T.setVm vm₁, locs, cells, slots⟩ argsL.toArray q B ∧
      Steps p.tables e below (T.setTop g) ((B.U.setTop { g with stack := rest }).pushFrame (.throwing q))) := by
  obtain ⟨mk, methM, cM, hnamed, hmethM, -, -, -, -, -, -, hsigM⟩ := Cond.codeWith_spec hcode
  have hstatic : methM.isStatic = true := Cond.static_spec hnamed hmethM hstat
  obtain ⟨kP, hkP, -⟩ := className_of_methodNamed hnamed
  have hinitP : kP.init = .initialized := Cond.initialized_spec (findClass_of_methodNamed hnamed) hkP hinit
  obtain ⟨vm₁, X₁, hstep₁⟩ := X.invokestatic hexec hown hlink hnamed hmethM hstatic hkP hinitP hy (g := g) hg (argsL := argsL) (rest := rest) (hlen _ hsigM) hstack hdg
  rcases hK m meth c ⟨T.setVm vm₁, locs, cells, slots⟩ { g with stack := rest } (.invokestatic index) mk argsL.toArray X₁ hg hsize hdg hW (X₁.named hnamed) (hpre vm₁ X₁.warmed) with ⟨v, B, X', hpost, hsteps⟩ | ⟨q, B, X', hpost, hsteps⟩
  · exact Or.inl ⟨v, vm₁, B, X₁.warmed, X', hpost, fun target h => hstep₁ _ fun acts => by rw [doInvoke_state]; exact hsteps.trans h⟩
  · exact Or.inr ⟨q, vm₁, B, X₁.warmed, X', hpost, hstep₁ _ fun acts => by rw [doInvoke_state]; exact hsteps⟩
theorem vx_callVW (X : Stand p l e R s m args below meth c T locs cells slots) (hexec : p.tables.exec = Jvm.exec) {own C : String} {index : Nat} {y : MethodName} {bytes : ByteArray} {maxL : Nat} {ret : Option FieldType} {hh : List (Nat × Nat × Nat × Nat)}
    (hown : s.vm.findClass own = some m.cls) (hlink : (Cond.methodLink own index y).before args s = true) (hinst : (Cond.instanceMethod y).before args s = true) (hsel : (Cond.selects C y y).before args s = true)
    (hcode : (Cond.codeWith y bytes maxL ret hh).before args s = true) (hy : y.cls ≠ "java/lang/invoke/MethodHandle" ∧ y.cls ≠ "java/lang/invoke/VarHandle")
    {W9 : Nat} {Pre : Pt → Array Value → Prop} {Post : Pt → Array Value → Option Value → Pt → Prop} (hK : Back l R p e below s args y 3 W9 Pre Post)
    {b : Addr} {cellB : Cell} (hcell : T.heap[b]? = some cellB) (hobj : cellB.vm.isStatics = false) (hcls : s.vm.findClass C = some cellB.cls)
    {g : JFrame} (hg : g.method = m) (hsize : g.locals.size = c.maxLocals) {argsL rest : List Value} (hlen : ∀ sig, parseMethodDescriptor y.desc = some sig → argsL.length = sig.parameters.length)
    (hstack : g.stack = argsL.reverse ++ .ref b :: rest) (hW : 2 * g.monitorRoom + (rest.map fun v => v.category).sum ≤ W9) (hdg : decode c.code g.pc = .ok (.invokevirtual index, 3))
    (hpre : ∀ vm₁, s.WarmedH vm₁ → Pre ⟨T.setVm vm₁, locs, cells, slots⟩ (Value.ref b :: argsL).toArray) :
    ∃ (v : Option Value) (vm₁ : Vm) (B : Pt), s.WarmedH vm₁ ∧ Stand p l e R s m args below meth c B.U B.locs B.cells B.slots ∧ Post ⟨T.setVm vm₁, locs, cells, slots⟩ (Value.ref b :: argsL).toArray v B ∧
      ∀ target, Steps p.tables e below (B.U.setTop { g with pc := g.pc + 3, stack := v.toList ++ rest }) target → Steps p.tables e below (T.setTop g) target := by
  obtain ⟨mk, methM, hnamed, hmethM, hstM, habM⟩ := Cond.instanceMethod_spec hinst
  obtain ⟨m8, methM', cM, hn8, hmethM', -, -, -, -, -, -, hsigM⟩ := Cond.codeWith_spec hcode
  cases Option.some.inj (hn8.symm.trans hnamed)
  cases hmethM.symm.trans hmethM'
  obtain ⟨c2, r2, m2, q1, q2, q3, q4, kP, hkP, hkPi⟩ := Cond.selects_spec hsel
  cases hcls.symm.trans q1
  cases (State.methodFound?_of_named hnamed hy).symm.trans q2
  cases hnamed.symm.trans q3
  have hselP : selectMethod e.platform s.vm cellB.cls mk = .method mk := by rw [Launch.admits_selectMethod X.admits]; exact q4
  obtain ⟨vm₁, X₁, hstep₁⟩ := X.invokevirtual hexec hown hlink hnamed hmethM hstM hkP hkPi hy (a := b) (cell := cellB) hcell
    (fun z h => by rw [h] at hobj; cases hobj) hselP hmethM habM hkP hkPi (g := g) hg (argsL := argsL) (rest := rest) (hlen _ hsigM) hstack hdg
  obtain ⟨v, B, X', hpost, hsteps⟩ := hK m meth c ⟨T.setVm vm₁, locs, cells, slots⟩ { g with stack := rest } (.invokevirtual index) mk (Value.ref b :: argsL).toArray X₁ hg hsize hdg hW (X₁.named hnamed) (hpre vm₁ X₁.warmed)
  exact ⟨v, vm₁, B, X₁.warmed, X', hpost, fun target h => hstep₁ _ fun acts => by rw [doInvoke_state]; exact hsteps.trans h⟩
abbrev vx_CVW (R : Room) (s : State) (args : Array Value) (own C : String) (index : Nat) (y : MethodName) (bytes : ByteArray) (maxL : Nat) (ret : Option FieldType) (hh : List (Nat × Nat × Nat × Nat)) (ws : List Cond) (rm : Room) (mc ms n : Nat) : Prop :=
  (rm.cells = mc ∧ rm.slots = ms ∧ rm.frames + 1 ≤ R.frames ∧ 8 + (maxL + 11) + rm.locals ≤ R.locals ∧ (∀ w ∈ ws, ∀ (a' : Array Value) (U : State), s.WarmedH U.vm → w.before a' U = true) ∧ Cond.codeWith y bytes maxL ret hh ∈ ws) ∧
  (Cond.codeWith y bytes maxL ret hh).before args s = true ∧ (Cond.initialized y.cls).before args s = true ∧ (y.cls ≠ "java/lang/invoke/MethodHandle" ∧ y.cls ≠ "java/lang/invoke/VarHandle") ∧
  (∀ sig, parseMethodDescriptor y.desc = some sig → n = sig.parameters.length) ∧ (Cond.methodLink own index y).before args s = true ∧ (Cond.instanceMethod y).before args s = true ∧ (Cond.selects C y y).before args s = true
theorem vx_cwVW {own C : String} {index maxL mc ms : Nat} {y : MethodName} {bytes : ByteArray} {ret : Option FieldType} {hh : List (Nat × Nat × Nat × Nat)} {Ts ws ws' : List Cond} {rm : Room} (n : Nat) (ht : ∀ w ∈ Ts, w.before args s = true) (hT : GoodIn Ts (wsV own index C y ws)) (hw : ws = Cond.codeWith y bytes maxL ret hh :: ws') (hrc : rm.cells = mc) (hrs : rm.slots = ms)
    (hd : y.cls = C ∧ y.cls ≠ "java/lang/invoke/MethodHandle" ∧ y.cls ≠ "java/lang/invoke/VarHandle" ∧ (parseMethodDescriptor y.desc).map (fun d => d.parameters.length) = some n) (hR : rm.frames + 1 ≤ R.frames ∧ 8 + (maxL + 11) + rm.locals ≤ R.locals) :
    vx_CVW R s args own C index y bytes maxL ret hh ws rm mc ms n := by
  obtain ⟨hC, hd⟩ := hd
  subst hC
  have ok : ∀ w ∈ wsV own index y.cls y ws, w.before args s = true := fun w h => ht w (hT w h).1
  have hG : GoodIn Ts ws := fun w h => hT w (by unfold wsV; exact List.mem_append_right _ h)
  have hc : Cond.codeWith y bytes maxL ret hh ∈ ws := by rw [hw]; exact List.mem_cons_self
  refine ⟨⟨hrc, hrs, hR.1, hR.2, pay_in ht hG, hc⟩, ht _ (hG _ hc).1, ok _ (by simp [wsV]), ⟨hd.1, hd.2.1⟩, fun sig h => ?_, ok _ (by simp [wsV]), ok _ (by simp [wsV]), ok _ (by simp [wsV])⟩
  have h2 := hd.2.2
  rw [h] at h2
  exact (Option.some.inj h2).symm
theorem vx_runVW {y : MethodName} {bytes cc : ByteArray} {maxL nL mc ms n index : Nat} {ret : Option FieldType} {hh : List (Nat × Nat × Nat × Nat)} {ws : List Cond} {rm : Room} {Pc : Array Value → State → Prop} {Qc : Array Value → State → Outcome → State → Prop} {free : Addr → Prop} {Ts : List Cond} {own C : String} {b : Addr} {As rest : List Value} {g : JFrame}
    (S : CallFix p m c cc nL s args Ts own) (hM : Met l y ws rm Pc Qc mc ms free) (cw : vx_CVW R s args own C index y bytes maxL ret hh ws rm mc ms n) (hp : PreV s H C b Pc As)
    (hg : g.method = m) (hn : As.length = n) (hsize : g.locals.size = nL) (hstack : g.stack = As.reverse ++ .ref b :: rest) (hW : 2 * g.monitorRoom + (rest.map fun v => v.category).sum ≤ 8) (hdg : decode cc g.pc = .ok (.invokevirtual index, 3)) (hf : cells + mc ≤ R.cells ∧ slots + ms ≤ R.slots) :
    va_Run p l e R s m args below meth c H locs cells slots mc ms g rest (Qc (Value.ref b :: As).toArray) free := by
  obtain ⟨⟨hrc, hrs, hfr, hlo, hws, hcw⟩, hcode, hini, hy, hlen, hl, hin, hse⟩ := cw
  have hK : Back l R p e below s args y 3 8 (PreOf R mc ms Pc) (PostOf Qc mc ms free) := va_backW (hh := hh) (bytes := bytes) (maxL := maxL) (ret := ret) hM hp.1 hrc hrs hfr hlo hws hcw (fun a' U hW => word_at hW (Or.inl (by first | rfl | simp [Cond.onTables, Cond.keeps, Cond.steady])) hini)
  obtain ⟨hx, hb, hml, ho, -⟩ := S
  obtain ⟨-, ⟨cellB, hcB, hoB, hclB⟩, hPc⟩ := hp
  intro T hT X
  obtain ⟨v, vm₁, ⟨U', l2, c2, s2⟩, hW₁, X', ⟨g', mk, t, L, e1, e2, hq, h1, hL, h2, h3⟩, st⟩ := vx_callVW X hx (C := C) (hh := hh) (bytes := bytes) (maxL := maxL) (ret := ret) ho hl hin hse hcode hy hK (by rw [hT]; exact hcB) hoB hclB hg (hsize.trans hml.symm) (argsL := As) (rest := rest) (fun sig h => hn.trans (hlen sig h)) hstack hW (by rw [hb]; exact hdg)
    (fun vm₁ hW₁ => ⟨hf.1, hf.2, hPc (T.setVm vm₁) hT hW₁⟩)
  dsimp only [Pt.U, Pt.locs, Pt.cells, Pt.slots] at X' e1 e2 h1 h2 h3 st
  subst h1; subst h2; subst h3
  exact ⟨v, (T.setVm vm₁).calling g' mk (Value.ref b :: As).toArray, t, U', L, hT, X', hL, e1, e2, hq, st⟩
section
variable {y : MethodName} {bytes cc : ByteArray} {maxL nL mc ms n index : Nat} {ret : Option FieldType} {ws : List Cond} {rm : Room} {Pc : Array Value → State → Prop} {Qc : Array Value → State → Outcome → State → Prop} {XC : String → State → State → Prop} {free : Addr → Prop} {Ts : List Cond} {own C : String} {b : Addr} {As rest : List Value} {g : JFrame}
theorem vx_runVX {hh : List (Nat × Nat × Nat × Nat)} (S : CallFix p m c cc nL s args Ts own) (hM : vx_Met l y ws rm Pc Qc XC mc ms free) (cw : vx_CVW R s args own C index y bytes maxL ret hh ws rm mc ms n) (hp : PreV s H C b Pc As)
    (hg : g.method = m) (hn : As.length = n) (hsize : g.locals.size = nL) (hstack : g.stack = As.reverse ++ .ref b :: rest) (hW : 2 * g.monitorRoom + (rest.map fun v => v.category).sum ≤ 8) (hdg : decode cc g.pc = .ok (.invokevirtual index, 3)) (hf : cells + mc ≤ R.cells ∧ slots + ms ≤ R.slots) :
    vx_Run p l e R s m args below meth c H locs cells slots mc ms g rest (Qc (Value.ref b :: As).toArray) XC free := by
  obtain ⟨⟨hrc, hrs, hfr, hlo, hws, hcw⟩, hcode, hini, hy, hlen, hl, hin, hse⟩ := cw
  have hK : vx_Back l R p e below s args y 3 8 (PreOf R mc ms Pc) (PostOf Qc mc ms free) (vx_Post XC mc ms free) := vx_backW (hh := hh) (bytes := bytes) (maxL := maxL) (ret := ret) hM hp.1 hrc hrs hfr hlo hws hcw (fun a' U hW => word_at hW (Or.inl (by first | rfl | simp [Cond.onTables, Cond.keeps, Cond.steady])) hini)
  obtain ⟨hx, hb, hml, ho, -⟩ := S
  obtain ⟨-, ⟨cellB, hcB, hoB, hclB⟩, hPc⟩ := hp
  intro T hT X
  rcases vx_callVX X hx (C := C) (hh := hh) (bytes := bytes) (maxL := maxL) (ret := ret) ho hl hin hse hcode hy hK (by rw [hT]; exact hcB) hoB hclB hg (hsize.trans hml.symm) (argsL := As) (rest := rest) (fun sig h => hn.trans (hlen sig h)) hstack hW (by rw [hb]; exact hdg)
    (fun vm₁ hW₁ => ⟨hf.1, hf.2, hPc (T.setVm vm₁) hT hW₁⟩) with ⟨v, vm₁, ⟨U', l2, c2, s2⟩, hW₁, X', ⟨g', mk, t, L, e1, e2, hq, h1, hL, h2, h3⟩, st⟩ | ⟨q, vm₁, ⟨U', l2, c2, s2⟩, hW₁, X', ⟨g', mk, t, L, E, ce, e1, e2, hq, hce, hcv, hcl, h1, hL, h2, h3⟩, st⟩
  · dsimp only [Pt.U, Pt.locs, Pt.cells, Pt.slots] at X' e1 e2 h1 h2 h3 st
    subst h1; subst h2; subst h3
    exact Or.inl ⟨v, (T.setVm vm₁).calling g' mk (Value.ref b :: As).toArray, t, U', L, hT, X', hL, e1, e2, hq, st⟩
  · dsimp only [Pt.U, Pt.locs, Pt.cells, Pt.slots] at X' e1 e2 h1 h2 h3 st hcl
    subst h1; subst h2; subst h3
    exact Or.inr ⟨q, (T.setVm vm₁).calling g' mk (Value.ref b :: As).toArray, t, U', L, E, ce, hT, X', hL, e1, e2, hq, hce, hcv, vx_cls hW₁ hcl, st⟩
theorem vx_runSX {hh : List (Nat × Nat × Nat × Nat)} (S : CallFix p m c cc nL s args Ts own) (hM : vx_Met l y ws rm Pc Qc XC mc ms free) (cw : vx_CSW R s args own index y bytes maxL ret hh ws rm mc ms n) (hp : PreS s H Pc As)
    (hg : g.method = m) (hn : As.length = n) (hsize : g.locals.size = nL) (hstack : g.stack = As.reverse ++ rest) (hW : 2 * g.monitorRoom + (rest.map fun v => v.category).sum ≤ 8) (hdg : decode cc g.pc = .ok (.invokestatic index, 3)) (hf : cells + mc ≤ R.cells ∧ slots + ms ≤ R.slots) :
    vx_Run p l e R s m args below meth c H locs cells slots mc ms g rest (Qc As.toArray) XC free := by
  obtain ⟨⟨hrc, hrs, hfr, hlo, hws, hcw⟩, hcode, hini, hy, hlen, hl, hstt⟩ := cw
  have hK : vx_Back l R p e below s args y 3 8 (PreOf R mc ms Pc) (PostOf Qc mc ms free) (vx_Post XC mc ms free) := vx_backW (hh := hh) (bytes := bytes) (maxL := maxL) (ret := ret) hM hp.1 hrc hrs hfr hlo hws hcw (fun a' U hW => word_at hW (Or.inl (by first | rfl | simp [Cond.onTables, Cond.keeps, Cond.steady])) hini)
  obtain ⟨hx, hb, hml, ho, -⟩ := S
  intro T hT X
  rcases vx_callSX X hx (hh := hh) (bytes := bytes) (maxL := maxL) (ret := ret) ho hl hstt hini hcode hy hK hg (hsize.trans hml.symm) (argsL := As) (rest := rest) (fun sig h => hn.trans (hlen sig h)) hstack hW (by rw [hb]; exact hdg)
    (fun vm₁ hW₁ => ⟨hf.1, hf.2, hp.2 (T.setVm vm₁) hT hW₁⟩) with ⟨v, vm₁, ⟨U', l2, c2, s2⟩, hW₁, X', ⟨g', mk, t, L, e1, e2, hq, h1, hL, h2, h3⟩, st⟩ | ⟨q, vm₁, ⟨U', l2, c2, s2⟩, hW₁, X', ⟨g', mk, t, L, E, ce, e1, e2, hq, hce, hcv, hcl, h1, hL, h2, h3⟩, st⟩
  · dsimp only [Pt.U, Pt.locs, Pt.cells, Pt.slots] at X' e1 e2 h1 h2 h3 st
    subst h1; subst h2; subst h3
    exact Or.inl ⟨v, (T.setVm vm₁).calling g' mk As.toArray, t, U', L, hT, X', hL, e1, e2, hq, st⟩
  · dsimp only [Pt.U, Pt.locs, Pt.cells, Pt.slots] at X' e1 e2 h1 h2 h3 st hcl
    subst h1; subst h2; subst h3
    exact Or.inr ⟨q, (T.setVm vm₁).calling g' mk As.toArray, t, U', L, E, ce, hT, X', hL, e1, e2, hq, hce, hcv, vx_cls hW₁ hcl, st⟩
end
end VXH
theorem vx_ofWH {l : Launch} {y : MethodName} {ws ws' : List Cond} {rm : Room} {Pc : Array Value → State → Prop} {Qc : Array Value → State → Outcome → State → Prop} {XC : String → State → State → Prop} {mc ms : Nat} {free : Addr → Prop} {cc : ByteArray} {maxL : Nat} {ret : Option FieldType} {hh : List (Nat × Nat × Nat × Nat)}
    (hy : plainName y.cls = true) (hw : ws = Cond.codeWith y cc maxL ret hh :: ws')
    (body : ∀ p e s m args below meth c s₁, BodyLoose p l y (headSpec ws rm) cc maxL ret e s m args below meth c s₁ → c.maxLocals = maxL → Pc args s →
      W p l e (headSpec ws rm).room s m args below meth c s.heap [] 0 0 (vx_MQ below Qc XC args s mc ms free) (entryFrame m args maxL)) : vx_Met l y ws rm Pc Qc XC mc ms free := by
  refine MetFree.of_bodyS (code := cc) (maxLocals := maxL) (ret := ret) hy ?_ ?_
  · intro args s m h hn
    obtain ⟨m9, meth, c, hn9, h1, h2, h3, h4, -, h5, h6, -⟩ := Cond.codeWith_spec (atoms_spec (ws := ws) h _ (by rw [hw]; exact List.mem_cons_self))
    cases hn.symm.trans hn9
    exact ⟨meth, c, h1, h2, h3, h4, h5, h6⟩
  · intro p e s m args below meth c s₁ B hml hP _
    have hh0 : s₁.heap = s.heap := by rw [B.state]; rfl
    obtain ⟨t, a1, o, b1, b2, b3⟩ := body p e s m args below meth c s₁ B hml hP s₁ hh0 (Stand.of_body B)
    exact ⟨t, o, a1, b1, b2, b3⟩
/-! ===== END ===== -/
end
section
def RX0 : String := "FeteBoard$Booth"
def TX0 : u_T := fun k => match k with
  | 0 => ("FeteBoard$Booth", "cost", "I", false)
  | 1 => ("FeteBoard$Booth", "goal", "I", false)
  | 2 => ("FeteBoard$Booth", "prizes", "I", false)
  | 3 => ("FeteBoard$Booth", "needs", "I", false)
  | 4 => ("FeteBoard$Booth", "workers", "I", false)
  | 5 => ("FeteBoard$Booth", "plays", "I", false)
  | 6 => ("FeteBoard$Booth", "paid", "I", false)
  | 7 => ("FeteBoard$Booth", "queued", "I", false)
  | _ => ("FeteBoard$Booth", "queue", "[I", true)
def tyX0 : Nat → FieldType := fun k => match k with
  | 0 => .int
  | 1 => .int
  | 2 => .int
  | 3 => .int
  | 4 => .int
  | 5 => .int
  | 6 => .int
  | 7 => .int
  | _ => .array .int
abbrev wsX00 : List Cond := u_ws RX0 TX0 9
theorem nmX0 : ∀ a, a < 9 → ∀ b, b < 9 → a ≠ b → (TX0 a).2.1 ≠ (TX0 b).2.1 := by decide +kernel
theorem tyX0_ok : ∀ k, k < 9 → parseFieldDescriptor (TX0 k).2.2.1 = some (tyX0 k) := by decide +kernel
abbrev cX0_init : ByteArray := prog_2_method_1_code
def yX0_init : MethodName := ⟨RX0, "<init>", "()V"⟩
abbrev cX0_begin : ByteArray := prog_2_method_2_code
def yX0_begin : MethodName := ⟨RX0, "begin", "(IIII)V"⟩
abbrev cX0_copyFrom : ByteArray := prog_2_method_3_code
def yX0_copyFrom : MethodName := ⟨RX0, "copyFrom", "(LFeteBoard$Booth;)V"⟩
abbrev cX0_isOpen : ByteArray := prog_2_method_4_code
def yX0_isOpen : MethodName := ⟨RX0, "isOpen", "()Z"⟩
abbrev cX0_enqueue : ByteArray := prog_2_method_5_code
def yX0_enqueue : MethodName := ⟨RX0, "enqueue", "(I)Z"⟩
abbrev cX0_dequeue : ByteArray := prog_2_method_6_code
def yX0_dequeue : MethodName := ⟨RX0, "dequeue", "(I)V"⟩
def RX1 : String := "FeteBoard$Chalk"
def TX1 : u_T := fun k => match k with
  | 0 => ("FeteBoard$Chalk", "lines", "I", false)
  | 1 => ("FeteBoard$Chalk", "visitors", "[I", true)
  | 2 => ("FeteBoard$Chalk", "booths", "[I", true)
  | _ => ("FeteBoard$Chalk", "points", "[I", true)
def tyX1 : Nat → FieldType := fun k => match k with
  | 0 => .int
  | 1 => .array .int
  | 2 => .array .int
  | _ => .array .int
abbrev wsX10 : List Cond := u_ws RX1 TX1 4
theorem nmX1 : ∀ a, a < 4 → ∀ b, b < 4 → a ≠ b → (TX1 a).2.1 ≠ (TX1 b).2.1 := by decide +kernel
theorem tyX1_ok : ∀ k, k < 4 → parseFieldDescriptor (TX1 k).2.2.1 = some (tyX1 k) := by decide +kernel
abbrev cX1_init : ByteArray := prog_3_method_1_code
def yX1_init : MethodName := ⟨RX1, "<init>", "()V"⟩
abbrev cX1_copyFrom : ByteArray := prog_3_method_2_code
def yX1_copyFrom : MethodName := ⟨RX1, "copyFrom", "(LFeteBoard$Chalk;)V"⟩
abbrev cX1_write : ByteArray := prog_3_method_3_code
def yX1_write : MethodName := ⟨RX1, "write", "(III)V"⟩
abbrev cX1_fact : ByteArray := prog_3_method_4_code
def yX1_fact : MethodName := ⟨RX1, "fact", "(II)I"⟩
def RX2 : String := "FeteBoard$Fete"
def TX2 : u_T := fun k => match k with
  | 0 => ("FeteBoard$Fete", "booths", "[LFeteBoard$Booth;", true)
  | 1 => ("FeteBoard$Fete", "boothCount", "I", false)
  | 2 => ("FeteBoard$Fete", "helpers", "[LFeteBoard$Helper;", true)
  | 3 => ("FeteBoard$Fete", "helperCount", "I", false)
  | 4 => ("FeteBoard$Fete", "visitors", "[LFeteBoard$Visitor;", true)
  | 5 => ("FeteBoard$Fete", "visitorCount", "I", false)
  | 6 => ("FeteBoard$Fete", "chalk", "LFeteBoard$Chalk;", true)
  | 7 => ("FeteBoard$Fete", "round", "I", false)
  | 8 => ("FeteBoard$Fete", "dart", "I", false)
  | 9 => ("FeteBoard$Fete", "marked", "I", false)
  | _ => ("FeteBoard$Fete", "won", "I", false)
def tyX2 : Nat → FieldType := fun k => match k with
  | 0 => .array (.object "FeteBoard$Booth")
  | 1 => .int
  | 2 => .array (.object "FeteBoard$Helper")
  | 3 => .int
  | 4 => .array (.object "FeteBoard$Visitor")
  | 5 => .int
  | 6 => .object "FeteBoard$Chalk"
  | 7 => .int
  | 8 => .int
  | 9 => .int
  | _ => .int
abbrev wsX20 : List Cond := u_ws RX2 TX2 11
theorem nmX2 : ∀ a, a < 11 → ∀ b, b < 11 → a ≠ b → (TX2 a).2.1 ≠ (TX2 b).2.1 := by decide +kernel
theorem tyX2_ok : ∀ k, k < 11 → parseFieldDescriptor (TX2 k).2.2.1 = some (tyX2 k) := by decide +kernel
abbrev cX2_init : ByteArray := prog_4_method_1_code
def yX2_init : MethodName := ⟨RX2, "<init>", "()V"⟩
abbrev cX2_copyFrom : ByteArray := prog_4_method_2_code
def yX2_copyFrom : MethodName := ⟨RX2, "copyFrom", "(LFeteBoard$Fete;)V"⟩
abbrev cX2_isBooth : ByteArray := prog_4_method_3_code
def yX2_isBooth : MethodName := ⟨RX2, "isBooth", "(I)Z"⟩
abbrev cX2_isHelper : ByteArray := prog_4_method_4_code
def yX2_isHelper : MethodName := ⟨RX2, "isHelper", "(I)Z"⟩
abbrev cX2_isVisitor : ByteArray := prog_4_method_5_code
def yX2_isVisitor : MethodName := ⟨RX2, "isVisitor", "(I)Z"⟩
abbrev cX2_setUpBooth : ByteArray := prog_4_method_6_code
def yX2_setUpBooth : MethodName := ⟨RX2, "setUpBooth", "(IIII)I"⟩
abbrev cX2_takeOnHelper : ByteArray := prog_4_method_7_code
def yX2_takeOnHelper : MethodName := ⟨RX2, "takeOnHelper", "()I"⟩
abbrev cX2_letIn : ByteArray := prog_4_method_8_code
def yX2_letIn : MethodName := ⟨RX2, "letIn", "(II)I"⟩
abbrev cX2_send : ByteArray := prog_4_method_9_code
def yX2_send : MethodName := ⟨RX2, "send", "(II)V"⟩
abbrev cX2_takeFromQueue : ByteArray := prog_4_method_10_code
def yX2_takeFromQueue : MethodName := ⟨RX2, "takeFromQueue", "(I)I"⟩
abbrev cX2_costNow : ByteArray := prog_4_method_11_code
def yX2_costNow : MethodName := ⟨RX2, "costNow", "(I)I"⟩
abbrev cX2_goOn : ByteArray := prog_4_method_12_code
def yX2_goOn : MethodName := ⟨RX2, "goOn", "(I)I"⟩
abbrev cX2_playRound : ByteArray := prog_4_method_13_code
def yX2_playRound : MethodName := ⟨RX2, "playRound", "()V"⟩
abbrev cX2_throwDart : ByteArray := prog_4_method_14_code
def yX2_throwDart : MethodName := ⟨RX2, "throwDart", "()V"⟩
abbrev cX2_choose : ByteArray := prog_4_method_15_code
def yX2_choose : MethodName := ⟨RX2, "choose", "(I)V"⟩
abbrev cX2_invites : ByteArray := prog_4_method_16_code
def yX2_invites : MethodName := ⟨RX2, "invites", "(ILFeteBoard$Visitor;)Z"⟩
abbrev cX2_isBetter : ByteArray := prog_4_method_17_code
def yX2_isBetter : MethodName := ⟨RX2, "isBetter", "(IILFeteBoard$Visitor;)Z"⟩
abbrev cX2_serve : ByteArray := prog_4_method_18_code
def yX2_serve : MethodName := ⟨RX2, "serve", "(I)V"⟩
abbrev cX2_play : ByteArray := prog_4_method_19_code
def yX2_play : MethodName := ⟨RX2, "play", "(II)V"⟩
abbrev cX2_pointsOf : ByteArray := prog_4_method_20_code
def yX2_pointsOf : MethodName := ⟨RX2, "pointsOf", "(LFeteBoard$Visitor;I)I"⟩
abbrev cX2_tireOrRest : ByteArray := prog_4_method_21_code
def yX2_tireOrRest : MethodName := ⟨RX2, "tireOrRest", "(I)V"⟩
abbrev cX2_endHour : ByteArray := prog_4_method_22_code
def yX2_endHour : MethodName := ⟨RX2, "endHour", "()V"⟩
abbrev cX2_rewardLine : ByteArray := prog_4_method_23_code
def yX2_rewardLine : MethodName := ⟨RX2, "rewardLine", "(I)V"⟩
abbrev cX2_allPlays : ByteArray := prog_4_method_24_code
def yX2_allPlays : MethodName := ⟨RX2, "allPlays", "()I"⟩
abbrev cX2_boothFact : ByteArray := prog_4_method_25_code
def yX2_boothFact : MethodName := ⟨RX2, "boothFact", "(II)I"⟩
abbrev cX2_total : ByteArray := prog_4_method_26_code
def yX2_total : MethodName := ⟨RX2, "total", "(I)I"⟩
abbrev cX2_openBooths : ByteArray := prog_4_method_27_code
def yX2_openBooths : MethodName := ⟨RX2, "openBooths", "()I"⟩
abbrev cX2_visitorsIn : ByteArray := prog_4_method_28_code
def yX2_visitorsIn : MethodName := ⟨RX2, "visitorsIn", "(I)I"⟩
abbrev cX2_prizesLeft : ByteArray := prog_4_method_29_code
def yX2_prizesLeft : MethodName := ⟨RX2, "prizesLeft", "()I"⟩
def RX3 : String := "FeteBoard$Helper"
def TX3 : u_T := fun k => match k with
  | 0 => ("FeteBoard$Helper", "strength", "I", false)
  | 1 => ("FeteBoard$Helper", "at", "I", false)
  | _ => ("FeteBoard$Helper", "worked", "I", false)
def tyX3 : Nat → FieldType := fun k => match k with
  | 0 => .int
  | 1 => .int
  | _ => .int
abbrev wsX30 : List Cond := u_ws RX3 TX3 3
theorem nmX3 : ∀ a, a < 3 → ∀ b, b < 3 → a ≠ b → (TX3 a).2.1 ≠ (TX3 b).2.1 := by decide +kernel
theorem tyX3_ok : ∀ k, k < 3 → parseFieldDescriptor (TX3 k).2.2.1 = some (tyX3 k) := by decide +kernel
abbrev cX3_init : ByteArray := prog_5_method_1_code
def yX3_init : MethodName := ⟨RX3, "<init>", "()V"⟩
abbrev cX3_begin : ByteArray := prog_5_method_2_code
def yX3_begin : MethodName := ⟨RX3, "begin", "()V"⟩
abbrev cX3_copyFrom : ByteArray := prog_5_method_3_code
def yX3_copyFrom : MethodName := ⟨RX3, "copyFrom", "(LFeteBoard$Helper;)V"⟩
abbrev cX3_rest : ByteArray := prog_5_method_4_code
def yX3_rest : MethodName := ⟨RX3, "rest", "()V"⟩
abbrev cX3_fact : ByteArray := prog_5_method_5_code
def yX3_fact : MethodName := ⟨RX3, "fact", "(I)I"⟩
def RX4 : String := "FeteBoard$Visitor"
def TX4 : u_T := fun k => match k with
  | 0 => ("FeteBoard$Visitor", "tokens", "I", false)
  | 1 => ("FeteBoard$Visitor", "skill", "I", false)
  | 2 => ("FeteBoard$Visitor", "home", "Z", false)
  | 3 => ("FeteBoard$Visitor", "at", "I", false)
  | 4 => ("FeteBoard$Visitor", "prizes", "I", false)
  | 5 => ("FeteBoard$Visitor", "marks", "I", false)
  | 6 => ("FeteBoard$Visitor", "plays", "I", false)
  | 7 => ("FeteBoard$Visitor", "mostPoints", "I", false)
  | _ => ("FeteBoard$Visitor", "practice", "[I", true)
def tyX4 : Nat → FieldType := fun k => match k with
  | 0 => .int
  | 1 => .int
  | 2 => .boolean
  | 3 => .int
  | 4 => .int
  | 5 => .int
  | 6 => .int
  | 7 => .int
  | _ => .array .int
abbrev wsX40 : List Cond := u_ws RX4 TX4 9
theorem nmX4 : ∀ a, a < 9 → ∀ b, b < 9 → a ≠ b → (TX4 a).2.1 ≠ (TX4 b).2.1 := by decide +kernel
theorem tyX4_ok : ∀ k, k < 9 → parseFieldDescriptor (TX4 k).2.2.1 = some (tyX4 k) := by decide +kernel
abbrev cX4_init : ByteArray := prog_6_method_1_code
def yX4_init : MethodName := ⟨RX4, "<init>", "()V"⟩
abbrev cX4_begin : ByteArray := prog_6_method_2_code
def yX4_begin : MethodName := ⟨RX4, "begin", "(II)V"⟩
abbrev cX4_copyFrom : ByteArray := prog_6_method_3_code
def yX4_copyFrom : MethodName := ⟨RX4, "copyFrom", "(LFeteBoard$Visitor;)V"⟩
abbrev cX4_strolls : ByteArray := prog_6_method_4_code
def yX4_strolls : MethodName := ⟨RX4, "strolls", "()Z"⟩
abbrev cX4_state : ByteArray := prog_6_method_5_code
def yX4_state : MethodName := ⟨RX4, "state", "()I"⟩
abbrev cX4_fact : ByteArray := prog_6_method_6_code
def yX4_fact : MethodName := ⟨RX4, "fact", "(I)I"⟩
abbrev cX4_foreseenFact : ByteArray := prog_6_method_7_code
def yX4_foreseenFact : MethodName := ⟨RX4, "foreseenFact", "(I)I"⟩
def RX5 : String := "FeteBoard"
def TX5 : u_T := fun k => match k with
  | 0 => ("FeteBoard", "now", "LFeteBoard$Fete;", true)
  | _ => ("FeteBoard", "trial", "LFeteBoard$Fete;", true)
def tyX5 : Nat → FieldType := fun k => match k with
  | 0 => .object "FeteBoard$Fete"
  | _ => .object "FeteBoard$Fete"
abbrev wsX50 : List Cond := u_ws RX5 TX5 2
theorem nmX5 : ∀ a, a < 2 → ∀ b, b < 2 → a ≠ b → (TX5 a).2.1 ≠ (TX5 b).2.1 := by decide +kernel
theorem tyX5_ok : ∀ k, k < 2 → parseFieldDescriptor (TX5 k).2.2.1 = some (tyX5 k) := by decide +kernel
abbrev cX5_init : ByteArray := prog_1_method_1_code
def yX5_init : MethodName := ⟨RX5, "<init>", "()V"⟩
abbrev cX5_addBooth : ByteArray := prog_1_method_2_code
def yX5_addBooth : MethodName := ⟨RX5, "addBooth", "(IIII)I"⟩
abbrev cX5_addHelper : ByteArray := prog_1_method_3_code
def yX5_addHelper : MethodName := ⟨RX5, "addHelper", "()I"⟩
abbrev cX5_come : ByteArray := prog_1_method_4_code
def yX5_come : MethodName := ⟨RX5, "come", "(II)I"⟩
abbrev cX5_setDart : ByteArray := prog_1_method_5_code
def yX5_setDart : MethodName := ⟨RX5, "setDart", "(I)I"⟩
abbrev cX5_work : ByteArray := prog_1_method_6_code
def yX5_work : MethodName := ⟨RX5, "work", "(II)I"⟩
abbrev cX5_bring : ByteArray := prog_1_method_7_code
def yX5_bring : MethodName := ⟨RX5, "bring", "(II)I"⟩
abbrev cX5_sell : ByteArray := prog_1_method_8_code
def yX5_sell : MethodName := ⟨RX5, "sell", "(II)I"⟩
abbrev cX5_leave : ByteArray := prog_1_method_9_code
def yX5_leave : MethodName := ⟨RX5, "leave", "(I)I"⟩
abbrev cX5_booth : ByteArray := prog_1_method_10_code
def yX5_booth : MethodName := ⟨RX5, "booth", "(II)I"⟩
abbrev cX5_queue : ByteArray := prog_1_method_11_code
def yX5_queue : MethodName := ⟨RX5, "queue", "(II)I"⟩
abbrev cX5_helper : ByteArray := prog_1_method_12_code
def yX5_helper : MethodName := ⟨RX5, "helper", "(II)I"⟩
abbrev cX5_visitor : ByteArray := prog_1_method_13_code
def yX5_visitor : MethodName := ⟨RX5, "visitor", "(II)I"⟩
abbrev cX5_practice : ByteArray := prog_1_method_14_code
def yX5_practice : MethodName := ⟨RX5, "practice", "(II)I"⟩
abbrev cX5_board : ByteArray := prog_1_method_15_code
def yX5_board : MethodName := ⟨RX5, "board", "(II)I"⟩
abbrev cX5_pass : ByteArray := prog_1_method_16_code
def yX5_pass : MethodName := ⟨RX5, "pass", "(I)I"⟩
abbrev cX5_count : ByteArray := prog_1_method_17_code
def yX5_count : MethodName := ⟨RX5, "count", "(I)I"⟩
abbrev cX5_foresee : ByteArray := prog_1_method_18_code
def yX5_foresee : MethodName := ⟨RX5, "foresee", "(III)I"⟩
abbrev cX5_closes : ByteArray := prog_1_method_19_code
def yX5_closes : MethodName := ⟨RX5, "closes", "(I)I"⟩
abbrev cX5_advise : ByteArray := prog_1_method_20_code
def yX5_advise : MethodName := ⟨RX5, "advise", "(II)I"⟩
abbrev cX5_luck : ByteArray := prog_1_method_21_code
def yX5_luck : MethodName := ⟨RX5, "luck", "()D"⟩
abbrev cX5_digest : ByteArray := prog_1_method_22_code
def yX5_digest : MethodName := ⟨RX5, "digest", "()J"⟩
abbrev cX5_withBooth : ByteArray := prog_1_method_23_code
def yX5_withBooth : MethodName := ⟨RX5, "withBooth", "(JI)J"⟩
abbrev cX5_withVisitor : ByteArray := prog_1_method_24_code
def yX5_withVisitor : MethodName := ⟨RX5, "withVisitor", "(JLFeteBoard$Visitor;)J"⟩
abbrev cX5_mixed : ByteArray := prog_1_method_25_code
def yX5_mixed : MethodName := ⟨RX5, "mixed", "(JI)J"⟩
abbrev cX5_prizesWonWith : ByteArray := prog_1_method_26_code
def yX5_prizesWonWith : MethodName := ⟨RX5, "prizesWonWith", "(III)I"⟩
abbrev cX5_requireBooth : ByteArray := prog_1_method_27_code
def yX5_requireBooth : MethodName := ⟨RX5, "requireBooth", "(I)V"⟩
abbrev cX5_requireHelper : ByteArray := prog_1_method_28_code
def yX5_requireHelper : MethodName := ⟨RX5, "requireHelper", "(I)V"⟩
abbrev cX5_requireVisitor : ByteArray := prog_1_method_29_code
def yX5_requireVisitor : MethodName := ⟨RX5, "requireVisitor", "(I)V"⟩
abbrev cX5_requireFact : ByteArray := prog_1_method_30_code
def yX5_requireFact : MethodName := ⟨RX5, "requireFact", "(II)V"⟩
abbrev cX5_requireRange : ByteArray := prog_1_method_31_code
def yX5_requireRange : MethodName := ⟨RX5, "requireRange", "(III)V"⟩
def RX6 : String := "FeteBoardModel"
def TX6 : u_T := fun k => match k with
  | 0 => ("FeteBoardModel", "thrown", "I", false)
  | 1 => ("FeteBoardModel", "booths", "I", false)
  | 2 => ("FeteBoardModel", "helpers", "I", false)
  | 3 => ("FeteBoardModel", "visitors", "I", false)
  | 4 => ("FeteBoardModel", "boothTable", "[I", true)
  | 5 => ("FeteBoardModel", "helperTable", "[I", true)
  | 6 => ("FeteBoardModel", "visitorTable", "[I", true)
  | 7 => ("FeteBoardModel", "practice", "[I", true)
  | 8 => ("FeteBoardModel", "board", "[I", true)
  | _ => ("FeteBoardModel", "numbers", "[I", true)
def tyX6 : Nat → FieldType := fun k => match k with
  | 0 => .int
  | 1 => .int
  | 2 => .int
  | 3 => .int
  | 4 => .array .int
  | 5 => .array .int
  | 6 => .array .int
  | 7 => .array .int
  | 8 => .array .int
  | _ => .array .int
abbrev wsX60 : List Cond := u_ws RX6 TX6 10
theorem nmX6 : ∀ a, a < 10 → ∀ b, b < 10 → a ≠ b → (TX6 a).2.1 ≠ (TX6 b).2.1 := by decide +kernel
theorem tyX6_ok : ∀ k, k < 10 → parseFieldDescriptor (TX6 k).2.2.1 = some (tyX6 k) := by decide +kernel
abbrev cX6_init : ByteArray := prog_8_method_1_code
def yX6_init : MethodName := ⟨RX6, "<init>", "()V"⟩
abbrev cX6_thrown : ByteArray := prog_8_method_2_code
def yX6_thrown : MethodName := ⟨RX6, "thrown", "()I"⟩
abbrev cX6_fail : ByteArray := prog_8_method_3_code
def yX6_fail : MethodName := ⟨RX6, "fail", "(I)I"⟩
abbrev cX6_isIn : ByteArray := prog_8_method_4_code
def yX6_isIn : MethodName := ⟨RX6, "isIn", "(III)Z"⟩
abbrev cX6_isBooth : ByteArray := prog_8_method_5_code
def yX6_isBooth : MethodName := ⟨RX6, "isBooth", "(I)Z"⟩
abbrev cX6_isHelper : ByteArray := prog_8_method_6_code
def yX6_isHelper : MethodName := ⟨RX6, "isHelper", "(I)Z"⟩
abbrev cX6_isVisitor : ByteArray := prog_8_method_7_code
def yX6_isVisitor : MethodName := ⟨RX6, "isVisitor", "(I)Z"⟩
abbrev cX6_bo : ByteArray := prog_8_method_8_code
def yX6_bo : MethodName := ⟨RX6, "bo", "(II)I"⟩
abbrev cX6_setBo : ByteArray := prog_8_method_9_code
def yX6_setBo : MethodName := ⟨RX6, "setBo", "(III)V"⟩
abbrev cX6_he : ByteArray := prog_8_method_10_code
def yX6_he : MethodName := ⟨RX6, "he", "(II)I"⟩
abbrev cX6_setHe : ByteArray := prog_8_method_11_code
def yX6_setHe : MethodName := ⟨RX6, "setHe", "(III)V"⟩
abbrev cX6_vi : ByteArray := prog_8_method_12_code
def yX6_vi : MethodName := ⟨RX6, "vi", "(II)I"⟩
abbrev cX6_setVi : ByteArray := prog_8_method_13_code
def yX6_setVi : MethodName := ⟨RX6, "setVi", "(III)V"⟩
abbrev cX6_addBooth : ByteArray := prog_8_method_14_code
def yX6_addBooth : MethodName := ⟨RX6, "addBooth", "(IIII)I"⟩
abbrev cX6_addHelper : ByteArray := prog_8_method_15_code
def yX6_addHelper : MethodName := ⟨RX6, "addHelper", "()I"⟩
abbrev cX6_come : ByteArray := prog_8_method_16_code
def yX6_come : MethodName := ⟨RX6, "come", "(II)I"⟩
abbrev cX6_setDart : ByteArray := prog_8_method_17_code
def yX6_setDart : MethodName := ⟨RX6, "setDart", "(I)I"⟩
abbrev cX6_work : ByteArray := prog_8_method_18_code
def yX6_work : MethodName := ⟨RX6, "work", "(II)I"⟩
abbrev cX6_bring : ByteArray := prog_8_method_19_code
def yX6_bring : MethodName := ⟨RX6, "bring", "(II)I"⟩
abbrev cX6_sell : ByteArray := prog_8_method_20_code
def yX6_sell : MethodName := ⟨RX6, "sell", "(II)I"⟩
abbrev cX6_stroll : ByteArray := prog_8_method_21_code
def yX6_stroll : MethodName := ⟨RX6, "stroll", "(I)V"⟩
abbrev cX6_leave : ByteArray := prog_8_method_22_code
def yX6_leave : MethodName := ⟨RX6, "leave", "(I)I"⟩
abbrev cX6_working : ByteArray := prog_8_method_23_code
def yX6_working : MethodName := ⟨RX6, "working", "(I)I"⟩
abbrev cX6_isOpen : ByteArray := prog_8_method_24_code
def yX6_isOpen : MethodName := ⟨RX6, "isOpen", "(I)Z"⟩
abbrev cX6_length : ByteArray := prog_8_method_25_code
def yX6_length : MethodName := ⟨RX6, "length", "(I)I"⟩
abbrev cX6_at : ByteArray := prog_8_method_26_code
def yX6_at : MethodName := ⟨RX6, "at", "(II)I"⟩
abbrev cX6_cost : ByteArray := prog_8_method_27_code
def yX6_cost : MethodName := ⟨RX6, "cost", "(I)I"⟩
abbrev cX6_boothTold : ByteArray := prog_8_method_28_code
def yX6_boothTold : MethodName := ⟨RX6, "boothTold", "(II)I"⟩
abbrev cX6_booth : ByteArray := prog_8_method_29_code
def yX6_booth : MethodName := ⟨RX6, "booth", "(II)I"⟩
abbrev cX6_queue : ByteArray := prog_8_method_30_code
def yX6_queue : MethodName := ⟨RX6, "queue", "(II)I"⟩
abbrev cX6_helper : ByteArray := prog_8_method_31_code
def yX6_helper : MethodName := ⟨RX6, "helper", "(II)I"⟩
abbrev cX6_visitorTold : ByteArray := prog_8_method_32_code
def yX6_visitorTold : MethodName := ⟨RX6, "visitorTold", "(II)I"⟩
abbrev cX6_visitor : ByteArray := prog_8_method_33_code
def yX6_visitor : MethodName := ⟨RX6, "visitor", "(II)I"⟩
abbrev cX6_practice : ByteArray := prog_8_method_34_code
def yX6_practice : MethodName := ⟨RX6, "practice", "(II)I"⟩
abbrev cX6_board : ByteArray := prog_8_method_35_code
def yX6_board : MethodName := ⟨RX6, "board", "(II)I"⟩
abbrev cX6_dart : ByteArray := prog_8_method_36_code
def yX6_dart : MethodName := ⟨RX6, "dart", "()V"⟩
abbrev cX6_choose : ByteArray := prog_8_method_37_code
def yX6_choose : MethodName := ⟨RX6, "choose", "(I)V"⟩
abbrev cX6_write : ByteArray := prog_8_method_38_code
def yX6_write : MethodName := ⟨RX6, "write", "(III)V"⟩
abbrev cX6_play : ByteArray := prog_8_method_39_code
def yX6_play : MethodName := ⟨RX6, "play", "(II)Z"⟩
abbrev cX6_endHour : ByteArray := prog_8_method_40_code
def yX6_endHour : MethodName := ⟨RX6, "endHour", "()V"⟩
abbrev cX6_roundOn : ByteArray := prog_8_method_41_code
def yX6_roundOn : MethodName := ⟨RX6, "roundOn", "()I"⟩
abbrev cX6_roundsOn : ByteArray := prog_8_method_42_code
def yX6_roundsOn : MethodName := ⟨RX6, "roundsOn", "(I)I"⟩
abbrev cX6_pass : ByteArray := prog_8_method_43_code
def yX6_pass : MethodName := ⟨RX6, "pass", "(I)I"⟩
abbrev cX6_with : ByteArray := prog_8_method_44_code
def yX6_with : MethodName := ⟨RX6, "with", "(I)I"⟩
abbrev cX6_counted : ByteArray := prog_8_method_45_code
def yX6_counted : MethodName := ⟨RX6, "counted", "(I)I"⟩
abbrev cX6_count : ByteArray := prog_8_method_46_code
def yX6_count : MethodName := ⟨RX6, "count", "(I)I"⟩
abbrev cX6_kept : ByteArray := prog_8_method_47_code
def yX6_kept : MethodName := ⟨RX6, "kept", "()[[I"⟩
abbrev cX6_bringBack : ByteArray := prog_8_method_48_code
def yX6_bringBack : MethodName := ⟨RX6, "bringBack", "([[I)V"⟩
abbrev cX6_foresee : ByteArray := prog_8_method_49_code
def yX6_foresee : MethodName := ⟨RX6, "foresee", "(III)I"⟩
abbrev cX6_closes : ByteArray := prog_8_method_50_code
def yX6_closes : MethodName := ⟨RX6, "closes", "(I)I"⟩
abbrev cX6_advise : ByteArray := prog_8_method_51_code
def yX6_advise : MethodName := ⟨RX6, "advise", "(II)I"⟩
abbrev cX6_luck : ByteArray := prog_8_method_52_code
def yX6_luck : MethodName := ⟨RX6, "luck", "()D"⟩
abbrev cX6_digest : ByteArray := prog_8_method_53_code
def yX6_digest : MethodName := ⟨RX6, "digest", "()J"⟩
def RJx8e188 : String := "java/lang/Cloneable"
def TJx8e188 : u_T := fun k => match k with
  | _ => ("", "", "", false)
def tyJx8e188 : Nat → FieldType := fun k => match k with
  | _ => .int
abbrev wsJx8e1880 : List Cond := u_ws RJx8e188 TJx8e188 0
theorem nmJx8e188 : ∀ a, a < 0 → ∀ b, b < 0 → a ≠ b → (TJx8e188 a).2.1 ≠ (TJx8e188 b).2.1 := by decide +kernel
theorem tyJx8e188_ok : ∀ k, k < 0 → parseFieldDescriptor (TJx8e188 k).2.2.1 = some (tyJx8e188 k) := by decide +kernel
def RJ9 : String := "java/lang/Math"
def TJ9 : u_T := fun k => match k with
  | _ => ("", "", "", false)
def tyJ9 : Nat → FieldType := fun k => match k with
  | _ => .int
abbrev wsJ90 : List Cond := u_ws RJ9 TJ9 0
theorem nmJ9 : ∀ a, a < 0 → ∀ b, b < 0 → a ≠ b → (TJ9 a).2.1 ≠ (TJ9 b).2.1 := by decide +kernel
theorem tyJ9_ok : ∀ k, k < 0 → parseFieldDescriptor (TJ9 k).2.2.1 = some (tyJ9 k) := by decide +kernel
abbrev cJ9_max_7cf53 : ByteArray := prog_14_method_65_code
def yJ9_max_7cf53 : MethodName := ⟨RJ9, "max", "(II)I"⟩
abbrev cJ9_min_7cf53 : ByteArray := prog_14_method_69_code
def yJ9_min_7cf53 : MethodName := ⟨RJ9, "min", "(II)I"⟩
def RJ0 : String := "java/lang/String"
def TJ0 : u_T := fun k => match k with
  | _ => ("", "", "", false)
def tyJ0 : Nat → FieldType := fun k => match k with
  | _ => .int
abbrev wsJ00 : List Cond := u_ws RJ0 TJ0 0
theorem nmJ0 : ∀ a, a < 0 → ∀ b, b < 0 → a ≠ b → (TJ0 a).2.1 ≠ (TJ0 b).2.1 := by decide +kernel
theorem tyJ0_ok : ∀ k, k < 0 → parseFieldDescriptor (TJ0 k).2.2.1 = some (tyJ0 k) := by decide +kernel
def RJ10 : String := "java/lang/System"
def TJ10 : u_T := fun k => match k with
  | _ => ("", "", "", false)
def tyJ10 : Nat → FieldType := fun k => match k with
  | _ => .int
abbrev wsJ100 : List Cond := u_ws RJ10 TJ10 0
theorem nmJ10 : ∀ a, a < 0 → ∀ b, b < 0 → a ≠ b → (TJ10 a).2.1 ≠ (TJ10 b).2.1 := by decide +kernel
theorem tyJ10_ok : ∀ k, k < 0 → parseFieldDescriptor (TJ10 k).2.2.1 = some (tyJ10 k) := by decide +kernel
def RL : String := "FeteBoardLaw"
abbrev cL_addBooth : ByteArray := method_3_code
def yL_addBooth : MethodName := ⟨RL, "addBooth", "(LFeteBoard;IIII[J)I"⟩
abbrev cL_addHelper : ByteArray := method_4_code
def yL_addHelper : MethodName := ⟨RL, "addHelper", "(LFeteBoard;[J)I"⟩
abbrev cL_come : ByteArray := method_5_code
def yL_come : MethodName := ⟨RL, "come", "(LFeteBoard;II[J)I"⟩
abbrev cL_setDart : ByteArray := method_6_code
def yL_setDart : MethodName := ⟨RL, "setDart", "(LFeteBoard;I[J)I"⟩
abbrev cL_work : ByteArray := method_7_code
def yL_work : MethodName := ⟨RL, "work", "(LFeteBoard;II[J)I"⟩
abbrev cL_bring : ByteArray := method_8_code
def yL_bring : MethodName := ⟨RL, "bring", "(LFeteBoard;II[J)I"⟩
abbrev cL_sell : ByteArray := method_9_code
def yL_sell : MethodName := ⟨RL, "sell", "(LFeteBoard;II[J)I"⟩
abbrev cL_leave : ByteArray := method_10_code
def yL_leave : MethodName := ⟨RL, "leave", "(LFeteBoard;I[J)I"⟩
abbrev cL_booth : ByteArray := method_11_code
def yL_booth : MethodName := ⟨RL, "booth", "(LFeteBoard;II[J)I"⟩
abbrev cL_queue : ByteArray := method_12_code
def yL_queue : MethodName := ⟨RL, "queue", "(LFeteBoard;II[J)I"⟩
abbrev cL_helper : ByteArray := method_13_code
def yL_helper : MethodName := ⟨RL, "helper", "(LFeteBoard;II[J)I"⟩
abbrev cL_visitor : ByteArray := method_14_code
def yL_visitor : MethodName := ⟨RL, "visitor", "(LFeteBoard;II[J)I"⟩
abbrev cL_practice : ByteArray := method_15_code
def yL_practice : MethodName := ⟨RL, "practice", "(LFeteBoard;II[J)I"⟩
abbrev cL_board : ByteArray := method_16_code
def yL_board : MethodName := ⟨RL, "board", "(LFeteBoard;II[J)I"⟩
abbrev cL_pass : ByteArray := method_17_code
def yL_pass : MethodName := ⟨RL, "pass", "(LFeteBoard;I[J)I"⟩
abbrev cL_count : ByteArray := method_18_code
def yL_count : MethodName := ⟨RL, "count", "(LFeteBoard;I[J)I"⟩
abbrev cL_foresee : ByteArray := method_19_code
def yL_foresee : MethodName := ⟨RL, "foresee", "(LFeteBoard;III[J)I"⟩
abbrev cL_closes : ByteArray := method_20_code
def yL_closes : MethodName := ⟨RL, "closes", "(LFeteBoard;I[J)I"⟩
abbrev cL_advise : ByteArray := method_21_code
def yL_advise : MethodName := ⟨RL, "advise", "(LFeteBoard;II[J)I"⟩
abbrev cL_law : ByteArray := code
def yL_law : MethodName := ⟨RL, "law", "([I)Z"⟩
def wsJ9_max_7cf53 : List Cond := .code yJ9_max_7cf53 cJ9_max_7cf53 2 (some .int) :: ([])
def wsJ9_min_7cf53 : List Cond := .code yJ9_min_7cf53 cJ9_min_7cf53 2 (some .int) :: ([])
theorem inJx8e188 : ∀ w ∈ wsJx8e1880, w ∈ lw_tbl := by decide +kernel
theorem inJ9 : ∀ w ∈ wsJ90, w ∈ lw_tbl := by decide +kernel
theorem inJ0 : ∀ w ∈ wsJ00, w ∈ lw_tbl := by decide +kernel
theorem inJ10 : ∀ w ∈ wsJ100, w ∈ lw_tbl := by decide +kernel
abbrev vwCl : List vw_C := [(RX0, TX0, 9), (RX1, TX1, 4), (RX2, TX2, 11), (RX3, TX3, 3), (RX4, TX4, 9), (RX5, TX5, 2), (RX6, TX6, 10)]
end
section
theorem dX0_init_0 : decode cX0_init 0 = .ok (.aload_n 0, 1) := by decide +kernel
theorem dX0_init_1 : decode cX0_init 1 = .ok (.invokespecial 3, 3) := by decide +kernel
theorem dX0_init_4 : decode cX0_init 4 = .ok (.aload_n 0, 1) := by decide +kernel
theorem dX0_init_5 : decode cX0_init 5 = .ok (.bipush 16, 2) := by decide +kernel
theorem dX0_init_7 : decode cX0_init 7 = .ok (.newarray .int, 2) := by decide +kernel
theorem dX0_init_9 : decode cX0_init 9 = .ok (.putfield 9, 3) := by decide +kernel
theorem dX0_init_12 : decode cX0_init 12 = .ok (.return_, 1) := by decide +kernel
theorem dX0_begin_0 : decode cX0_begin 0 = .ok (.aload_n 0, 1) := by decide +kernel
theorem dX0_begin_1 : decode cX0_begin 1 = .ok (.iload_n 1, 1) := by decide +kernel
theorem dX0_begin_2 : decode cX0_begin 2 = .ok (.putfield 15, 3) := by decide +kernel
theorem dX0_begin_5 : decode cX0_begin 5 = .ok (.aload_n 0, 1) := by decide +kernel
theorem dX0_begin_6 : decode cX0_begin 6 = .ok (.iload_n 2, 1) := by decide +kernel
theorem dX0_begin_7 : decode cX0_begin 7 = .ok (.putfield 19, 3) := by decide +kernel
theorem dX0_begin_10 : decode cX0_begin 10 = .ok (.aload_n 0, 1) := by decide +kernel
theorem dX0_begin_11 : decode cX0_begin 11 = .ok (.iload_n 3, 1) := by decide +kernel
theorem dX0_begin_12 : decode cX0_begin 12 = .ok (.putfield 22, 3) := by decide +kernel
theorem dX0_begin_15 : decode cX0_begin 15 = .ok (.aload_n 0, 1) := by decide +kernel
theorem dX0_begin_16 : decode cX0_begin 16 = .ok (.iload 4, 2) := by decide +kernel
theorem dX0_begin_18 : decode cX0_begin 18 = .ok (.putfield 25, 3) := by decide +kernel
theorem dX0_begin_21 : decode cX0_begin 21 = .ok (.return_, 1) := by decide +kernel
theorem dX0_copyFrom_0 : decode cX0_copyFrom 0 = .ok (.aload_n 0, 1) := by decide +kernel
theorem dX0_copyFrom_1 : decode cX0_copyFrom 1 = .ok (.aload_n 1, 1) := by decide +kernel
theorem dX0_copyFrom_2 : decode cX0_copyFrom 2 = .ok (.getfield 15, 3) := by decide +kernel
theorem dX0_copyFrom_5 : decode cX0_copyFrom 5 = .ok (.putfield 15, 3) := by decide +kernel
theorem dX0_copyFrom_8 : decode cX0_copyFrom 8 = .ok (.aload_n 0, 1) := by decide +kernel
theorem dX0_copyFrom_9 : decode cX0_copyFrom 9 = .ok (.aload_n 1, 1) := by decide +kernel
theorem dX0_copyFrom_10 : decode cX0_copyFrom 10 = .ok (.getfield 19, 3) := by decide +kernel
theorem dX0_copyFrom_13 : decode cX0_copyFrom 13 = .ok (.putfield 19, 3) := by decide +kernel
theorem dX0_copyFrom_16 : decode cX0_copyFrom 16 = .ok (.aload_n 0, 1) := by decide +kernel
theorem dX0_copyFrom_17 : decode cX0_copyFrom 17 = .ok (.aload_n 1, 1) := by decide +kernel
theorem dX0_copyFrom_18 : decode cX0_copyFrom 18 = .ok (.getfield 22, 3) := by decide +kernel
theorem dX0_copyFrom_21 : decode cX0_copyFrom 21 = .ok (.putfield 22, 3) := by decide +kernel
theorem dX0_copyFrom_24 : decode cX0_copyFrom 24 = .ok (.aload_n 0, 1) := by decide +kernel
theorem dX0_copyFrom_25 : decode cX0_copyFrom 25 = .ok (.aload_n 1, 1) := by decide +kernel
theorem dX0_copyFrom_26 : decode cX0_copyFrom 26 = .ok (.getfield 25, 3) := by decide +kernel
theorem dX0_copyFrom_29 : decode cX0_copyFrom 29 = .ok (.putfield 25, 3) := by decide +kernel
theorem dX0_copyFrom_32 : decode cX0_copyFrom 32 = .ok (.aload_n 0, 1) := by decide +kernel
theorem dX0_copyFrom_33 : decode cX0_copyFrom 33 = .ok (.aload_n 1, 1) := by decide +kernel
theorem dX0_copyFrom_34 : decode cX0_copyFrom 34 = .ok (.getfield 28, 3) := by decide +kernel
theorem dX0_copyFrom_37 : decode cX0_copyFrom 37 = .ok (.putfield 28, 3) := by decide +kernel
theorem dX0_copyFrom_40 : decode cX0_copyFrom 40 = .ok (.aload_n 0, 1) := by decide +kernel
theorem dX0_copyFrom_41 : decode cX0_copyFrom 41 = .ok (.aload_n 1, 1) := by decide +kernel
theorem dX0_copyFrom_42 : decode cX0_copyFrom 42 = .ok (.getfield 31, 3) := by decide +kernel
theorem dX0_copyFrom_45 : decode cX0_copyFrom 45 = .ok (.putfield 31, 3) := by decide +kernel
theorem dX0_copyFrom_48 : decode cX0_copyFrom 48 = .ok (.aload_n 0, 1) := by decide +kernel
theorem dX0_copyFrom_49 : decode cX0_copyFrom 49 = .ok (.aload_n 1, 1) := by decide +kernel
theorem dX0_copyFrom_50 : decode cX0_copyFrom 50 = .ok (.getfield 34, 3) := by decide +kernel
theorem dX0_copyFrom_53 : decode cX0_copyFrom 53 = .ok (.putfield 34, 3) := by decide +kernel
theorem dX0_copyFrom_56 : decode cX0_copyFrom 56 = .ok (.aload_n 0, 1) := by decide +kernel
theorem dX0_copyFrom_57 : decode cX0_copyFrom 57 = .ok (.aload_n 1, 1) := by decide +kernel
theorem dX0_copyFrom_58 : decode cX0_copyFrom 58 = .ok (.getfield 37, 3) := by decide +kernel
theorem dX0_copyFrom_61 : decode cX0_copyFrom 61 = .ok (.putfield 37, 3) := by decide +kernel
theorem dX0_copyFrom_64 : decode cX0_copyFrom 64 = .ok (.iconst 0, 1) := by decide +kernel
theorem dX0_copyFrom_65 : decode cX0_copyFrom 65 = .ok (.istore_n 2, 1) := by decide +kernel
theorem dX0_copyFrom_66 : decode cX0_copyFrom 66 = .ok (.iload_n 2, 1) := by decide +kernel
theorem dX0_copyFrom_67 : decode cX0_copyFrom 67 = .ok (.bipush 16, 2) := by decide +kernel
theorem dX0_copyFrom_69 : decode cX0_copyFrom 69 = .ok (.if_icmp .ge 21, 3) := by decide +kernel
theorem dX0_copyFrom_72 : decode cX0_copyFrom 72 = .ok (.aload_n 0, 1) := by decide +kernel
theorem dX0_copyFrom_73 : decode cX0_copyFrom 73 = .ok (.getfield 9, 3) := by decide +kernel
theorem dX0_copyFrom_76 : decode cX0_copyFrom 76 = .ok (.iload_n 2, 1) := by decide +kernel
theorem dX0_copyFrom_77 : decode cX0_copyFrom 77 = .ok (.aload_n 1, 1) := by decide +kernel
theorem dX0_copyFrom_78 : decode cX0_copyFrom 78 = .ok (.getfield 9, 3) := by decide +kernel
theorem dX0_copyFrom_81 : decode cX0_copyFrom 81 = .ok (.iload_n 2, 1) := by decide +kernel
theorem dX0_copyFrom_82 : decode cX0_copyFrom 82 = .ok (.iaload, 1) := by decide +kernel
theorem dX0_copyFrom_83 : decode cX0_copyFrom 83 = .ok (.iastore, 1) := by decide +kernel
theorem dX0_copyFrom_84 : decode cX0_copyFrom 84 = .ok (.iinc 2 1, 3) := by decide +kernel
theorem dX0_copyFrom_87 : decode cX0_copyFrom 87 = .ok (.goto (-21), 3) := by decide +kernel
theorem dX0_copyFrom_90 : decode cX0_copyFrom 90 = .ok (.return_, 1) := by decide +kernel
theorem dX0_isOpen_0 : decode cX0_isOpen 0 = .ok (.aload_n 0, 1) := by decide +kernel
theorem dX0_isOpen_1 : decode cX0_isOpen 1 = .ok (.getfield 28, 3) := by decide +kernel
theorem dX0_isOpen_4 : decode cX0_isOpen 4 = .ok (.aload_n 0, 1) := by decide +kernel
theorem dX0_isOpen_5 : decode cX0_isOpen 5 = .ok (.getfield 25, 3) := by decide +kernel
theorem dX0_isOpen_8 : decode cX0_isOpen 8 = .ok (.if_icmp .lt 7, 3) := by decide +kernel
theorem dX0_isOpen_11 : decode cX0_isOpen 11 = .ok (.iconst 1, 1) := by decide +kernel
theorem dX0_isOpen_12 : decode cX0_isOpen 12 = .ok (.goto 4, 3) := by decide +kernel
theorem dX0_isOpen_15 : decode cX0_isOpen 15 = .ok (.iconst 0, 1) := by decide +kernel
theorem dX0_isOpen_16 : decode cX0_isOpen 16 = .ok (.ireturn, 1) := by decide +kernel
theorem dX0_enqueue_0 : decode cX0_enqueue 0 = .ok (.aload_n 0, 1) := by decide +kernel
theorem dX0_enqueue_1 : decode cX0_enqueue 1 = .ok (.getfield 37, 3) := by decide +kernel
theorem dX0_enqueue_4 : decode cX0_enqueue 4 = .ok (.ifCond .lt 12, 3) := by decide +kernel
theorem dX0_enqueue_7 : decode cX0_enqueue 7 = .ok (.aload_n 0, 1) := by decide +kernel
theorem dX0_enqueue_8 : decode cX0_enqueue 8 = .ok (.getfield 37, 3) := by decide +kernel
theorem dX0_enqueue_11 : decode cX0_enqueue 11 = .ok (.bipush 16, 2) := by decide +kernel
theorem dX0_enqueue_13 : decode cX0_enqueue 13 = .ok (.if_icmp .lt 5, 3) := by decide +kernel
theorem dX0_enqueue_16 : decode cX0_enqueue 16 = .ok (.iconst 0, 1) := by decide +kernel
theorem dX0_enqueue_17 : decode cX0_enqueue 17 = .ok (.ireturn, 1) := by decide +kernel
theorem dX0_enqueue_18 : decode cX0_enqueue 18 = .ok (.aload_n 0, 1) := by decide +kernel
theorem dX0_enqueue_19 : decode cX0_enqueue 19 = .ok (.getfield 9, 3) := by decide +kernel
theorem dX0_enqueue_22 : decode cX0_enqueue 22 = .ok (.aload_n 0, 1) := by decide +kernel
theorem dX0_enqueue_23 : decode cX0_enqueue 23 = .ok (.getfield 37, 3) := by decide +kernel
theorem dX0_enqueue_26 : decode cX0_enqueue 26 = .ok (.iload_n 1, 1) := by decide +kernel
theorem dX0_enqueue_27 : decode cX0_enqueue 27 = .ok (.iastore, 1) := by decide +kernel
theorem dX0_enqueue_28 : decode cX0_enqueue 28 = .ok (.aload_n 0, 1) := by decide +kernel
theorem dX0_enqueue_29 : decode cX0_enqueue 29 = .ok (.dup, 1) := by decide +kernel
theorem dX0_enqueue_30 : decode cX0_enqueue 30 = .ok (.getfield 37, 3) := by decide +kernel
theorem dX0_enqueue_33 : decode cX0_enqueue 33 = .ok (.iconst 1, 1) := by decide +kernel
theorem dX0_enqueue_34 : decode cX0_enqueue 34 = .ok (.iadd, 1) := by decide +kernel
theorem dX0_enqueue_35 : decode cX0_enqueue 35 = .ok (.putfield 37, 3) := by decide +kernel
theorem dX0_enqueue_38 : decode cX0_enqueue 38 = .ok (.iconst 1, 1) := by decide +kernel
theorem dX0_enqueue_39 : decode cX0_enqueue 39 = .ok (.ireturn, 1) := by decide +kernel
theorem dX0_dequeue_0 : decode cX0_dequeue 0 = .ok (.iconst 0, 1) := by decide +kernel
theorem dX0_dequeue_1 : decode cX0_dequeue 1 = .ok (.istore_n 2, 1) := by decide +kernel
theorem dX0_dequeue_2 : decode cX0_dequeue 2 = .ok (.iconst 0, 1) := by decide +kernel
theorem dX0_dequeue_3 : decode cX0_dequeue 3 = .ok (.istore_n 3, 1) := by decide +kernel
theorem dX0_dequeue_4 : decode cX0_dequeue 4 = .ok (.iload_n 3, 1) := by decide +kernel
theorem dX0_dequeue_5 : decode cX0_dequeue 5 = .ok (.aload_n 0, 1) := by decide +kernel
theorem dX0_dequeue_6 : decode cX0_dequeue 6 = .ok (.getfield 37, 3) := by decide +kernel
theorem dX0_dequeue_9 : decode cX0_dequeue 9 = .ok (.if_icmp .ge 40, 3) := by decide +kernel
theorem dX0_dequeue_12 : decode cX0_dequeue 12 = .ok (.iload_n 3, 1) := by decide +kernel
theorem dX0_dequeue_13 : decode cX0_dequeue 13 = .ok (.bipush 16, 2) := by decide +kernel
theorem dX0_dequeue_15 : decode cX0_dequeue 15 = .ok (.if_icmp .ge 34, 3) := by decide +kernel
theorem dX0_dequeue_18 : decode cX0_dequeue 18 = .ok (.aload_n 0, 1) := by decide +kernel
theorem dX0_dequeue_19 : decode cX0_dequeue 19 = .ok (.getfield 9, 3) := by decide +kernel
theorem dX0_dequeue_22 : decode cX0_dequeue 22 = .ok (.iload_n 3, 1) := by decide +kernel
theorem dX0_dequeue_23 : decode cX0_dequeue 23 = .ok (.iaload, 1) := by decide +kernel
theorem dX0_dequeue_24 : decode cX0_dequeue 24 = .ok (.iload_n 1, 1) := by decide +kernel
theorem dX0_dequeue_25 : decode cX0_dequeue 25 = .ok (.if_icmp .eq 18, 3) := by decide +kernel
theorem dX0_dequeue_28 : decode cX0_dequeue 28 = .ok (.aload_n 0, 1) := by decide +kernel
theorem dX0_dequeue_29 : decode cX0_dequeue 29 = .ok (.getfield 9, 3) := by decide +kernel
theorem dX0_dequeue_32 : decode cX0_dequeue 32 = .ok (.iload_n 2, 1) := by decide +kernel
theorem dX0_dequeue_33 : decode cX0_dequeue 33 = .ok (.aload_n 0, 1) := by decide +kernel
theorem dX0_dequeue_34 : decode cX0_dequeue 34 = .ok (.getfield 9, 3) := by decide +kernel
theorem dX0_dequeue_37 : decode cX0_dequeue 37 = .ok (.iload_n 3, 1) := by decide +kernel
theorem dX0_dequeue_38 : decode cX0_dequeue 38 = .ok (.iaload, 1) := by decide +kernel
theorem dX0_dequeue_39 : decode cX0_dequeue 39 = .ok (.iastore, 1) := by decide +kernel
theorem dX0_dequeue_40 : decode cX0_dequeue 40 = .ok (.iinc 2 1, 3) := by decide +kernel
theorem dX0_dequeue_43 : decode cX0_dequeue 43 = .ok (.iinc 3 1, 3) := by decide +kernel
theorem dX0_dequeue_46 : decode cX0_dequeue 46 = .ok (.goto (-42), 3) := by decide +kernel
theorem dX0_dequeue_49 : decode cX0_dequeue 49 = .ok (.aload_n 0, 1) := by decide +kernel
theorem dX0_dequeue_50 : decode cX0_dequeue 50 = .ok (.iload_n 2, 1) := by decide +kernel
theorem dX0_dequeue_51 : decode cX0_dequeue 51 = .ok (.putfield 37, 3) := by decide +kernel
theorem dX0_dequeue_54 : decode cX0_dequeue 54 = .ok (.return_, 1) := by decide +kernel
theorem dX1_init_0 : decode cX1_init 0 = .ok (.aload_n 0, 1) := by decide +kernel
theorem dX1_init_1 : decode cX1_init 1 = .ok (.invokespecial 3, 3) := by decide +kernel
theorem dX1_init_4 : decode cX1_init 4 = .ok (.aload_n 0, 1) := by decide +kernel
theorem dX1_init_5 : decode cX1_init 5 = .ok (.iconst 3, 1) := by decide +kernel
theorem dX1_init_6 : decode cX1_init 6 = .ok (.newarray .int, 2) := by decide +kernel
theorem dX1_init_8 : decode cX1_init 8 = .ok (.putfield 9, 3) := by decide +kernel
theorem dX1_init_11 : decode cX1_init 11 = .ok (.aload_n 0, 1) := by decide +kernel
theorem dX1_init_12 : decode cX1_init 12 = .ok (.iconst 3, 1) := by decide +kernel
theorem dX1_init_13 : decode cX1_init 13 = .ok (.newarray .int, 2) := by decide +kernel
theorem dX1_init_15 : decode cX1_init 15 = .ok (.putfield 15, 3) := by decide +kernel
theorem dX1_init_18 : decode cX1_init 18 = .ok (.aload_n 0, 1) := by decide +kernel
theorem dX1_init_19 : decode cX1_init 19 = .ok (.iconst 3, 1) := by decide +kernel
theorem dX1_init_20 : decode cX1_init 20 = .ok (.newarray .int, 2) := by decide +kernel
theorem dX1_init_22 : decode cX1_init 22 = .ok (.putfield 18, 3) := by decide +kernel
theorem dX1_init_25 : decode cX1_init 25 = .ok (.return_, 1) := by decide +kernel
theorem dX1_copyFrom_0 : decode cX1_copyFrom 0 = .ok (.aload_n 0, 1) := by decide +kernel
theorem dX1_copyFrom_1 : decode cX1_copyFrom 1 = .ok (.aload_n 1, 1) := by decide +kernel
theorem dX1_copyFrom_2 : decode cX1_copyFrom 2 = .ok (.getfield 21, 3) := by decide +kernel
theorem dX1_copyFrom_5 : decode cX1_copyFrom 5 = .ok (.putfield 21, 3) := by decide +kernel
theorem dX1_copyFrom_8 : decode cX1_copyFrom 8 = .ok (.iconst 0, 1) := by decide +kernel
theorem dX1_copyFrom_9 : decode cX1_copyFrom 9 = .ok (.istore_n 2, 1) := by decide +kernel
theorem dX1_copyFrom_10 : decode cX1_copyFrom 10 = .ok (.iload_n 2, 1) := by decide +kernel
theorem dX1_copyFrom_11 : decode cX1_copyFrom 11 = .ok (.iconst 3, 1) := by decide +kernel
theorem dX1_copyFrom_12 : decode cX1_copyFrom 12 = .ok (.if_icmp .ge 45, 3) := by decide +kernel
theorem dX1_copyFrom_15 : decode cX1_copyFrom 15 = .ok (.aload_n 0, 1) := by decide +kernel
theorem dX1_copyFrom_16 : decode cX1_copyFrom 16 = .ok (.getfield 9, 3) := by decide +kernel
theorem dX1_copyFrom_19 : decode cX1_copyFrom 19 = .ok (.iload_n 2, 1) := by decide +kernel
theorem dX1_copyFrom_20 : decode cX1_copyFrom 20 = .ok (.aload_n 1, 1) := by decide +kernel
theorem dX1_copyFrom_21 : decode cX1_copyFrom 21 = .ok (.getfield 9, 3) := by decide +kernel
theorem dX1_copyFrom_24 : decode cX1_copyFrom 24 = .ok (.iload_n 2, 1) := by decide +kernel
theorem dX1_copyFrom_25 : decode cX1_copyFrom 25 = .ok (.iaload, 1) := by decide +kernel
theorem dX1_copyFrom_26 : decode cX1_copyFrom 26 = .ok (.iastore, 1) := by decide +kernel
theorem dX1_copyFrom_27 : decode cX1_copyFrom 27 = .ok (.aload_n 0, 1) := by decide +kernel
theorem dX1_copyFrom_28 : decode cX1_copyFrom 28 = .ok (.getfield 15, 3) := by decide +kernel
theorem dX1_copyFrom_31 : decode cX1_copyFrom 31 = .ok (.iload_n 2, 1) := by decide +kernel
theorem dX1_copyFrom_32 : decode cX1_copyFrom 32 = .ok (.aload_n 1, 1) := by decide +kernel
theorem dX1_copyFrom_33 : decode cX1_copyFrom 33 = .ok (.getfield 15, 3) := by decide +kernel
theorem dX1_copyFrom_36 : decode cX1_copyFrom 36 = .ok (.iload_n 2, 1) := by decide +kernel
theorem dX1_copyFrom_37 : decode cX1_copyFrom 37 = .ok (.iaload, 1) := by decide +kernel
theorem dX1_copyFrom_38 : decode cX1_copyFrom 38 = .ok (.iastore, 1) := by decide +kernel
theorem dX1_copyFrom_39 : decode cX1_copyFrom 39 = .ok (.aload_n 0, 1) := by decide +kernel
theorem dX1_copyFrom_40 : decode cX1_copyFrom 40 = .ok (.getfield 18, 3) := by decide +kernel
theorem dX1_copyFrom_43 : decode cX1_copyFrom 43 = .ok (.iload_n 2, 1) := by decide +kernel
theorem dX1_copyFrom_44 : decode cX1_copyFrom 44 = .ok (.aload_n 1, 1) := by decide +kernel
theorem dX1_copyFrom_45 : decode cX1_copyFrom 45 = .ok (.getfield 18, 3) := by decide +kernel
theorem dX1_copyFrom_48 : decode cX1_copyFrom 48 = .ok (.iload_n 2, 1) := by decide +kernel
theorem dX1_copyFrom_49 : decode cX1_copyFrom 49 = .ok (.iaload, 1) := by decide +kernel
theorem dX1_copyFrom_50 : decode cX1_copyFrom 50 = .ok (.iastore, 1) := by decide +kernel
theorem dX1_copyFrom_51 : decode cX1_copyFrom 51 = .ok (.iinc 2 1, 3) := by decide +kernel
theorem dX1_copyFrom_54 : decode cX1_copyFrom 54 = .ok (.goto (-44), 3) := by decide +kernel
theorem dX1_copyFrom_57 : decode cX1_copyFrom 57 = .ok (.return_, 1) := by decide +kernel
theorem dX1_write_0 : decode cX1_write 0 = .ok (.iconst 0, 1) := by decide +kernel
theorem dX1_write_1 : decode cX1_write 1 = .ok (.istore 4, 2) := by decide +kernel
theorem dX1_write_3 : decode cX1_write 3 = .ok (.iconst 0, 1) := by decide +kernel
theorem dX1_write_4 : decode cX1_write 4 = .ok (.istore 5, 2) := by decide +kernel
theorem dX1_write_6 : decode cX1_write 6 = .ok (.iload 5, 2) := by decide +kernel
theorem dX1_write_8 : decode cX1_write 8 = .ok (.aload_n 0, 1) := by decide +kernel
theorem dX1_write_9 : decode cX1_write 9 = .ok (.getfield 21, 3) := by decide +kernel
theorem dX1_write_12 : decode cX1_write 12 = .ok (.if_icmp .ge 32, 3) := by decide +kernel
theorem dX1_write_15 : decode cX1_write 15 = .ok (.iload 5, 2) := by decide +kernel
theorem dX1_write_17 : decode cX1_write 17 = .ok (.iconst 3, 1) := by decide +kernel
theorem dX1_write_18 : decode cX1_write 18 = .ok (.if_icmp .ge 26, 3) := by decide +kernel
theorem dX1_write_21 : decode cX1_write 21 = .ok (.aload_n 0, 1) := by decide +kernel
theorem dX1_write_22 : decode cX1_write 22 = .ok (.getfield 18, 3) := by decide +kernel
theorem dX1_write_25 : decode cX1_write 25 = .ok (.iload 5, 2) := by decide +kernel
theorem dX1_write_27 : decode cX1_write 27 = .ok (.iaload, 1) := by decide +kernel
theorem dX1_write_28 : decode cX1_write 28 = .ok (.iload_n 3, 1) := by decide +kernel
theorem dX1_write_29 : decode cX1_write 29 = .ok (.if_icmp .lt 9, 3) := by decide +kernel
theorem dX1_write_32 : decode cX1_write 32 = .ok (.iload 5, 2) := by decide +kernel
theorem dX1_write_34 : decode cX1_write 34 = .ok (.iconst 1, 1) := by decide +kernel
theorem dX1_write_35 : decode cX1_write 35 = .ok (.iadd, 1) := by decide +kernel
theorem dX1_write_36 : decode cX1_write 36 = .ok (.istore 4, 2) := by decide +kernel
theorem dX1_write_38 : decode cX1_write 38 = .ok (.iinc 5 1, 3) := by decide +kernel
theorem dX1_write_41 : decode cX1_write 41 = .ok (.goto (-35), 3) := by decide +kernel
theorem dX1_write_44 : decode cX1_write 44 = .ok (.iload 4, 2) := by decide +kernel
theorem dX1_write_46 : decode cX1_write 46 = .ok (.iconst 3, 1) := by decide +kernel
theorem dX1_write_47 : decode cX1_write 47 = .ok (.if_icmp .lt 4, 3) := by decide +kernel
theorem dX1_write_50 : decode cX1_write 50 = .ok (.return_, 1) := by decide +kernel
theorem dX1_write_51 : decode cX1_write 51 = .ok (.aload_n 0, 1) := by decide +kernel
theorem dX1_write_52 : decode cX1_write 52 = .ok (.aload_n 0, 1) := by decide +kernel
theorem dX1_write_53 : decode cX1_write 53 = .ok (.getfield 21, 3) := by decide +kernel
theorem dX1_write_56 : decode cX1_write 56 = .ok (.iconst 1, 1) := by decide +kernel
theorem dX1_write_57 : decode cX1_write 57 = .ok (.iadd, 1) := by decide +kernel
theorem dX1_write_58 : decode cX1_write 58 = .ok (.iconst 3, 1) := by decide +kernel
theorem dX1_write_59 : decode cX1_write 59 = .ok (.invokestatic 25, 3) := by decide +kernel
theorem dX1_write_62 : decode cX1_write 62 = .ok (.putfield 21, 3) := by decide +kernel
theorem dX1_write_65 : decode cX1_write 65 = .ok (.aload_n 0, 1) := by decide +kernel
theorem dX1_write_66 : decode cX1_write 66 = .ok (.getfield 21, 3) := by decide +kernel
theorem dX1_write_69 : decode cX1_write 69 = .ok (.iconst 1, 1) := by decide +kernel
theorem dX1_write_70 : decode cX1_write 70 = .ok (.isub, 1) := by decide +kernel
theorem dX1_write_71 : decode cX1_write 71 = .ok (.istore 5, 2) := by decide +kernel
theorem dX1_write_73 : decode cX1_write 73 = .ok (.iload 5, 2) := by decide +kernel
theorem dX1_write_75 : decode cX1_write 75 = .ok (.iload 4, 2) := by decide +kernel
theorem dX1_write_77 : decode cX1_write 77 = .ok (.if_icmp .le 57, 3) := by decide +kernel
theorem dX1_write_80 : decode cX1_write 80 = .ok (.aload_n 0, 1) := by decide +kernel
theorem dX1_write_81 : decode cX1_write 81 = .ok (.getfield 9, 3) := by decide +kernel
theorem dX1_write_84 : decode cX1_write 84 = .ok (.iload 5, 2) := by decide +kernel
theorem dX1_write_86 : decode cX1_write 86 = .ok (.aload_n 0, 1) := by decide +kernel
theorem dX1_write_87 : decode cX1_write 87 = .ok (.getfield 9, 3) := by decide +kernel
theorem dX1_write_90 : decode cX1_write 90 = .ok (.iload 5, 2) := by decide +kernel
theorem dX1_write_92 : decode cX1_write 92 = .ok (.iconst 1, 1) := by decide +kernel
theorem dX1_write_93 : decode cX1_write 93 = .ok (.isub, 1) := by decide +kernel
theorem dX1_write_94 : decode cX1_write 94 = .ok (.iaload, 1) := by decide +kernel
theorem dX1_write_95 : decode cX1_write 95 = .ok (.iastore, 1) := by decide +kernel
theorem dX1_write_96 : decode cX1_write 96 = .ok (.aload_n 0, 1) := by decide +kernel
theorem dX1_write_97 : decode cX1_write 97 = .ok (.getfield 15, 3) := by decide +kernel
theorem dX1_write_100 : decode cX1_write 100 = .ok (.iload 5, 2) := by decide +kernel
theorem dX1_write_102 : decode cX1_write 102 = .ok (.aload_n 0, 1) := by decide +kernel
theorem dX1_write_103 : decode cX1_write 103 = .ok (.getfield 15, 3) := by decide +kernel
theorem dX1_write_106 : decode cX1_write 106 = .ok (.iload 5, 2) := by decide +kernel
theorem dX1_write_108 : decode cX1_write 108 = .ok (.iconst 1, 1) := by decide +kernel
theorem dX1_write_109 : decode cX1_write 109 = .ok (.isub, 1) := by decide +kernel
theorem dX1_write_110 : decode cX1_write 110 = .ok (.iaload, 1) := by decide +kernel
theorem dX1_write_111 : decode cX1_write 111 = .ok (.iastore, 1) := by decide +kernel
theorem dX1_write_112 : decode cX1_write 112 = .ok (.aload_n 0, 1) := by decide +kernel
theorem dX1_write_113 : decode cX1_write 113 = .ok (.getfield 18, 3) := by decide +kernel
theorem dX1_write_116 : decode cX1_write 116 = .ok (.iload 5, 2) := by decide +kernel
theorem dX1_write_118 : decode cX1_write 118 = .ok (.aload_n 0, 1) := by decide +kernel
theorem dX1_write_119 : decode cX1_write 119 = .ok (.getfield 18, 3) := by decide +kernel
theorem dX1_write_122 : decode cX1_write 122 = .ok (.iload 5, 2) := by decide +kernel
theorem dX1_write_124 : decode cX1_write 124 = .ok (.iconst 1, 1) := by decide +kernel
theorem dX1_write_125 : decode cX1_write 125 = .ok (.isub, 1) := by decide +kernel
theorem dX1_write_126 : decode cX1_write 126 = .ok (.iaload, 1) := by decide +kernel
theorem dX1_write_127 : decode cX1_write 127 = .ok (.iastore, 1) := by decide +kernel
theorem dX1_write_128 : decode cX1_write 128 = .ok (.iinc 5 (-1), 3) := by decide +kernel
theorem dX1_write_131 : decode cX1_write 131 = .ok (.goto (-58), 3) := by decide +kernel
theorem dX1_write_134 : decode cX1_write 134 = .ok (.aload_n 0, 1) := by decide +kernel
theorem dX1_write_135 : decode cX1_write 135 = .ok (.getfield 9, 3) := by decide +kernel
theorem dX1_write_138 : decode cX1_write 138 = .ok (.iload 4, 2) := by decide +kernel
theorem dX1_write_140 : decode cX1_write 140 = .ok (.iload_n 1, 1) := by decide +kernel
theorem dX1_write_141 : decode cX1_write 141 = .ok (.iastore, 1) := by decide +kernel
theorem dX1_write_142 : decode cX1_write 142 = .ok (.aload_n 0, 1) := by decide +kernel
theorem dX1_write_143 : decode cX1_write 143 = .ok (.getfield 15, 3) := by decide +kernel
theorem dX1_write_146 : decode cX1_write 146 = .ok (.iload 4, 2) := by decide +kernel
theorem dX1_write_148 : decode cX1_write 148 = .ok (.iload_n 2, 1) := by decide +kernel
theorem dX1_write_149 : decode cX1_write 149 = .ok (.iastore, 1) := by decide +kernel
theorem dX1_write_150 : decode cX1_write 150 = .ok (.aload_n 0, 1) := by decide +kernel
theorem dX1_write_151 : decode cX1_write 151 = .ok (.getfield 18, 3) := by decide +kernel
theorem dX1_write_154 : decode cX1_write 154 = .ok (.iload 4, 2) := by decide +kernel
theorem dX1_write_156 : decode cX1_write 156 = .ok (.iload_n 3, 1) := by decide +kernel
theorem dX1_write_157 : decode cX1_write 157 = .ok (.iastore, 1) := by decide +kernel
theorem dX1_write_158 : decode cX1_write 158 = .ok (.return_, 1) := by decide +kernel
theorem dX1_fact_0 : decode cX1_fact 0 = .ok (.iload_n 2, 1) := by decide +kernel
theorem dX1_fact_1 : decode cX1_fact 1 = .ok (.lookupswitch 41 #[(0, 27), (1, 34)], 27) := by decide +kernel
theorem dX1_fact_28 : decode cX1_fact 28 = .ok (.aload_n 0, 1) := by decide +kernel
theorem dX1_fact_29 : decode cX1_fact 29 = .ok (.getfield 9, 3) := by decide +kernel
theorem dX1_fact_32 : decode cX1_fact 32 = .ok (.iload_n 1, 1) := by decide +kernel
theorem dX1_fact_33 : decode cX1_fact 33 = .ok (.iaload, 1) := by decide +kernel
theorem dX1_fact_34 : decode cX1_fact 34 = .ok (.ireturn, 1) := by decide +kernel
theorem dX1_fact_35 : decode cX1_fact 35 = .ok (.aload_n 0, 1) := by decide +kernel
theorem dX1_fact_36 : decode cX1_fact 36 = .ok (.getfield 15, 3) := by decide +kernel
theorem dX1_fact_39 : decode cX1_fact 39 = .ok (.iload_n 1, 1) := by decide +kernel
theorem dX1_fact_40 : decode cX1_fact 40 = .ok (.iaload, 1) := by decide +kernel
theorem dX1_fact_41 : decode cX1_fact 41 = .ok (.ireturn, 1) := by decide +kernel
theorem dX1_fact_42 : decode cX1_fact 42 = .ok (.aload_n 0, 1) := by decide +kernel
theorem dX1_fact_43 : decode cX1_fact 43 = .ok (.getfield 18, 3) := by decide +kernel
theorem dX1_fact_46 : decode cX1_fact 46 = .ok (.iload_n 1, 1) := by decide +kernel
theorem dX1_fact_47 : decode cX1_fact 47 = .ok (.iaload, 1) := by decide +kernel
theorem dX1_fact_48 : decode cX1_fact 48 = .ok (.ireturn, 1) := by decide +kernel
theorem dX2_init_0 : decode cX2_init 0 = .ok (.aload_n 0, 1) := by decide +kernel
theorem dX2_init_1 : decode cX2_init 1 = .ok (.invokespecial 3, 3) := by decide +kernel
theorem dX2_init_4 : decode cX2_init 4 = .ok (.aload_n 0, 1) := by decide +kernel
theorem dX2_init_5 : decode cX2_init 5 = .ok (.bipush 8, 2) := by decide +kernel
theorem dX2_init_7 : decode cX2_init 7 = .ok (.anewarray 9, 3) := by decide +kernel
theorem dX2_init_10 : decode cX2_init 10 = .ok (.putfield 11, 3) := by decide +kernel
theorem dX2_init_13 : decode cX2_init 13 = .ok (.aload_n 0, 1) := by decide +kernel
theorem dX2_init_14 : decode cX2_init 14 = .ok (.bipush 12, 2) := by decide +kernel
theorem dX2_init_16 : decode cX2_init 16 = .ok (.anewarray 17, 3) := by decide +kernel
theorem dX2_init_19 : decode cX2_init 19 = .ok (.putfield 19, 3) := by decide +kernel
theorem dX2_init_22 : decode cX2_init 22 = .ok (.aload_n 0, 1) := by decide +kernel
theorem dX2_init_23 : decode cX2_init 23 = .ok (.bipush 16, 2) := by decide +kernel
theorem dX2_init_25 : decode cX2_init 25 = .ok (.anewarray 23, 3) := by decide +kernel
theorem dX2_init_28 : decode cX2_init 28 = .ok (.putfield 25, 3) := by decide +kernel
theorem dX2_init_31 : decode cX2_init 31 = .ok (.aload_n 0, 1) := by decide +kernel
theorem dX2_init_32 : decode cX2_init 32 = .ok (.new 29, 3) := by decide +kernel
theorem dX2_init_35 : decode cX2_init 35 = .ok (.dup, 1) := by decide +kernel
theorem dX2_init_36 : decode cX2_init 36 = .ok (.invokespecial 31, 3) := by decide +kernel
theorem dX2_init_39 : decode cX2_init 39 = .ok (.putfield 32, 3) := by decide +kernel
theorem dX2_init_42 : decode cX2_init 42 = .ok (.aload_n 0, 1) := by decide +kernel
theorem dX2_init_43 : decode cX2_init 43 = .ok (.iconst 1, 1) := by decide +kernel
theorem dX2_init_44 : decode cX2_init 44 = .ok (.putfield 36, 3) := by decide +kernel
theorem dX2_init_47 : decode cX2_init 47 = .ok (.aload_n 0, 1) := by decide +kernel
theorem dX2_init_48 : decode cX2_init 48 = .ok (.iconst (-1), 1) := by decide +kernel
theorem dX2_init_49 : decode cX2_init 49 = .ok (.putfield 40, 3) := by decide +kernel
theorem dX2_init_52 : decode cX2_init 52 = .ok (.iconst 0, 1) := by decide +kernel
theorem dX2_init_53 : decode cX2_init 53 = .ok (.istore_n 1, 1) := by decide +kernel
theorem dX2_init_54 : decode cX2_init 54 = .ok (.iload_n 1, 1) := by decide +kernel
theorem dX2_init_55 : decode cX2_init 55 = .ok (.bipush 8, 2) := by decide +kernel
theorem dX2_init_57 : decode cX2_init 57 = .ok (.if_icmp .ge 22, 3) := by decide +kernel
theorem dX2_init_60 : decode cX2_init 60 = .ok (.aload_n 0, 1) := by decide +kernel
theorem dX2_init_61 : decode cX2_init 61 = .ok (.getfield 11, 3) := by decide +kernel
theorem dX2_init_64 : decode cX2_init 64 = .ok (.iload_n 1, 1) := by decide +kernel
theorem dX2_init_65 : decode cX2_init 65 = .ok (.new 9, 3) := by decide +kernel
theorem dX2_init_68 : decode cX2_init 68 = .ok (.dup, 1) := by decide +kernel
theorem dX2_init_69 : decode cX2_init 69 = .ok (.invokespecial 43, 3) := by decide +kernel
theorem dX2_init_72 : decode cX2_init 72 = .ok (.aastore, 1) := by decide +kernel
theorem dX2_init_73 : decode cX2_init 73 = .ok (.iinc 1 1, 3) := by decide +kernel
theorem dX2_init_76 : decode cX2_init 76 = .ok (.goto (-22), 3) := by decide +kernel
theorem dX2_init_79 : decode cX2_init 79 = .ok (.iconst 0, 1) := by decide +kernel
theorem dX2_init_80 : decode cX2_init 80 = .ok (.istore_n 1, 1) := by decide +kernel
theorem dX2_init_81 : decode cX2_init 81 = .ok (.iload_n 1, 1) := by decide +kernel
theorem dX2_init_82 : decode cX2_init 82 = .ok (.bipush 12, 2) := by decide +kernel
theorem dX2_init_84 : decode cX2_init 84 = .ok (.if_icmp .ge 22, 3) := by decide +kernel
theorem dX2_init_87 : decode cX2_init 87 = .ok (.aload_n 0, 1) := by decide +kernel
theorem dX2_init_88 : decode cX2_init 88 = .ok (.getfield 19, 3) := by decide +kernel
theorem dX2_init_91 : decode cX2_init 91 = .ok (.iload_n 1, 1) := by decide +kernel
theorem dX2_init_92 : decode cX2_init 92 = .ok (.new 17, 3) := by decide +kernel
theorem dX2_init_95 : decode cX2_init 95 = .ok (.dup, 1) := by decide +kernel
theorem dX2_init_96 : decode cX2_init 96 = .ok (.invokespecial 44, 3) := by decide +kernel
theorem dX2_init_99 : decode cX2_init 99 = .ok (.aastore, 1) := by decide +kernel
theorem dX2_init_100 : decode cX2_init 100 = .ok (.iinc 1 1, 3) := by decide +kernel
theorem dX2_init_103 : decode cX2_init 103 = .ok (.goto (-22), 3) := by decide +kernel
theorem dX2_init_106 : decode cX2_init 106 = .ok (.iconst 0, 1) := by decide +kernel
theorem dX2_init_107 : decode cX2_init 107 = .ok (.istore_n 1, 1) := by decide +kernel
theorem dX2_init_108 : decode cX2_init 108 = .ok (.iload_n 1, 1) := by decide +kernel
theorem dX2_init_109 : decode cX2_init 109 = .ok (.bipush 16, 2) := by decide +kernel
theorem dX2_init_111 : decode cX2_init 111 = .ok (.if_icmp .ge 22, 3) := by decide +kernel
theorem dX2_init_114 : decode cX2_init 114 = .ok (.aload_n 0, 1) := by decide +kernel
theorem dX2_init_115 : decode cX2_init 115 = .ok (.getfield 25, 3) := by decide +kernel
theorem dX2_init_118 : decode cX2_init 118 = .ok (.iload_n 1, 1) := by decide +kernel
theorem dX2_init_119 : decode cX2_init 119 = .ok (.new 23, 3) := by decide +kernel
theorem dX2_init_122 : decode cX2_init 122 = .ok (.dup, 1) := by decide +kernel
theorem dX2_init_123 : decode cX2_init 123 = .ok (.invokespecial 45, 3) := by decide +kernel
theorem dX2_init_126 : decode cX2_init 126 = .ok (.aastore, 1) := by decide +kernel
theorem dX2_init_127 : decode cX2_init 127 = .ok (.iinc 1 1, 3) := by decide +kernel
theorem dX2_init_130 : decode cX2_init 130 = .ok (.goto (-22), 3) := by decide +kernel
theorem dX2_init_133 : decode cX2_init 133 = .ok (.return_, 1) := by decide +kernel
theorem dX2_copyFrom_0 : decode cX2_copyFrom 0 = .ok (.aload_n 0, 1) := by decide +kernel
theorem dX2_copyFrom_1 : decode cX2_copyFrom 1 = .ok (.aload_n 1, 1) := by decide +kernel
theorem dX2_copyFrom_2 : decode cX2_copyFrom 2 = .ok (.getfield 46, 3) := by decide +kernel
theorem dX2_copyFrom_5 : decode cX2_copyFrom 5 = .ok (.putfield 46, 3) := by decide +kernel
theorem dX2_copyFrom_8 : decode cX2_copyFrom 8 = .ok (.aload_n 0, 1) := by decide +kernel
theorem dX2_copyFrom_9 : decode cX2_copyFrom 9 = .ok (.aload_n 1, 1) := by decide +kernel
theorem dX2_copyFrom_10 : decode cX2_copyFrom 10 = .ok (.getfield 49, 3) := by decide +kernel
theorem dX2_copyFrom_13 : decode cX2_copyFrom 13 = .ok (.putfield 49, 3) := by decide +kernel
theorem dX2_copyFrom_16 : decode cX2_copyFrom 16 = .ok (.aload_n 0, 1) := by decide +kernel
theorem dX2_copyFrom_17 : decode cX2_copyFrom 17 = .ok (.aload_n 1, 1) := by decide +kernel
theorem dX2_copyFrom_18 : decode cX2_copyFrom 18 = .ok (.getfield 52, 3) := by decide +kernel
theorem dX2_copyFrom_21 : decode cX2_copyFrom 21 = .ok (.putfield 52, 3) := by decide +kernel
theorem dX2_copyFrom_24 : decode cX2_copyFrom 24 = .ok (.aload_n 0, 1) := by decide +kernel
theorem dX2_copyFrom_25 : decode cX2_copyFrom 25 = .ok (.aload_n 1, 1) := by decide +kernel
theorem dX2_copyFrom_26 : decode cX2_copyFrom 26 = .ok (.getfield 55, 3) := by decide +kernel
theorem dX2_copyFrom_29 : decode cX2_copyFrom 29 = .ok (.putfield 55, 3) := by decide +kernel
theorem dX2_copyFrom_32 : decode cX2_copyFrom 32 = .ok (.aload_n 0, 1) := by decide +kernel
theorem dX2_copyFrom_33 : decode cX2_copyFrom 33 = .ok (.aload_n 1, 1) := by decide +kernel
theorem dX2_copyFrom_34 : decode cX2_copyFrom 34 = .ok (.getfield 36, 3) := by decide +kernel
theorem dX2_copyFrom_37 : decode cX2_copyFrom 37 = .ok (.putfield 36, 3) := by decide +kernel
theorem dX2_copyFrom_40 : decode cX2_copyFrom 40 = .ok (.aload_n 0, 1) := by decide +kernel
theorem dX2_copyFrom_41 : decode cX2_copyFrom 41 = .ok (.aload_n 1, 1) := by decide +kernel
theorem dX2_copyFrom_42 : decode cX2_copyFrom 42 = .ok (.getfield 40, 3) := by decide +kernel
theorem dX2_copyFrom_45 : decode cX2_copyFrom 45 = .ok (.putfield 40, 3) := by decide +kernel
theorem dX2_copyFrom_48 : decode cX2_copyFrom 48 = .ok (.aload_n 0, 1) := by decide +kernel
theorem dX2_copyFrom_49 : decode cX2_copyFrom 49 = .ok (.aload_n 1, 1) := by decide +kernel
theorem dX2_copyFrom_50 : decode cX2_copyFrom 50 = .ok (.getfield 58, 3) := by decide +kernel
theorem dX2_copyFrom_53 : decode cX2_copyFrom 53 = .ok (.putfield 58, 3) := by decide +kernel
theorem dX2_copyFrom_56 : decode cX2_copyFrom 56 = .ok (.iconst 0, 1) := by decide +kernel
theorem dX2_copyFrom_57 : decode cX2_copyFrom 57 = .ok (.istore_n 2, 1) := by decide +kernel
theorem dX2_copyFrom_58 : decode cX2_copyFrom 58 = .ok (.iload_n 2, 1) := by decide +kernel
theorem dX2_copyFrom_59 : decode cX2_copyFrom 59 = .ok (.aload_n 0, 1) := by decide +kernel
theorem dX2_copyFrom_60 : decode cX2_copyFrom 60 = .ok (.getfield 46, 3) := by decide +kernel
theorem dX2_copyFrom_63 : decode cX2_copyFrom 63 = .ok (.if_icmp .ge 24, 3) := by decide +kernel
theorem dX2_copyFrom_66 : decode cX2_copyFrom 66 = .ok (.aload_n 0, 1) := by decide +kernel
theorem dX2_copyFrom_67 : decode cX2_copyFrom 67 = .ok (.getfield 11, 3) := by decide +kernel
theorem dX2_copyFrom_70 : decode cX2_copyFrom 70 = .ok (.iload_n 2, 1) := by decide +kernel
theorem dX2_copyFrom_71 : decode cX2_copyFrom 71 = .ok (.aaload, 1) := by decide +kernel
theorem dX2_copyFrom_72 : decode cX2_copyFrom 72 = .ok (.aload_n 1, 1) := by decide +kernel
theorem dX2_copyFrom_73 : decode cX2_copyFrom 73 = .ok (.getfield 11, 3) := by decide +kernel
theorem dX2_copyFrom_76 : decode cX2_copyFrom 76 = .ok (.iload_n 2, 1) := by decide +kernel
theorem dX2_copyFrom_77 : decode cX2_copyFrom 77 = .ok (.aaload, 1) := by decide +kernel
theorem dX2_copyFrom_78 : decode cX2_copyFrom 78 = .ok (.invokevirtual 61, 3) := by decide +kernel
theorem dX2_copyFrom_81 : decode cX2_copyFrom 81 = .ok (.iinc 2 1, 3) := by decide +kernel
theorem dX2_copyFrom_84 : decode cX2_copyFrom 84 = .ok (.goto (-26), 3) := by decide +kernel
theorem dX2_copyFrom_87 : decode cX2_copyFrom 87 = .ok (.iconst 0, 1) := by decide +kernel
theorem dX2_copyFrom_88 : decode cX2_copyFrom 88 = .ok (.istore_n 2, 1) := by decide +kernel
theorem dX2_copyFrom_89 : decode cX2_copyFrom 89 = .ok (.iload_n 2, 1) := by decide +kernel
theorem dX2_copyFrom_90 : decode cX2_copyFrom 90 = .ok (.aload_n 0, 1) := by decide +kernel
theorem dX2_copyFrom_91 : decode cX2_copyFrom 91 = .ok (.getfield 49, 3) := by decide +kernel
theorem dX2_copyFrom_94 : decode cX2_copyFrom 94 = .ok (.if_icmp .ge 24, 3) := by decide +kernel
theorem dX2_copyFrom_97 : decode cX2_copyFrom 97 = .ok (.aload_n 0, 1) := by decide +kernel
theorem dX2_copyFrom_98 : decode cX2_copyFrom 98 = .ok (.getfield 19, 3) := by decide +kernel
theorem dX2_copyFrom_101 : decode cX2_copyFrom 101 = .ok (.iload_n 2, 1) := by decide +kernel
theorem dX2_copyFrom_102 : decode cX2_copyFrom 102 = .ok (.aaload, 1) := by decide +kernel
theorem dX2_copyFrom_103 : decode cX2_copyFrom 103 = .ok (.aload_n 1, 1) := by decide +kernel
theorem dX2_copyFrom_104 : decode cX2_copyFrom 104 = .ok (.getfield 19, 3) := by decide +kernel
theorem dX2_copyFrom_107 : decode cX2_copyFrom 107 = .ok (.iload_n 2, 1) := by decide +kernel
theorem dX2_copyFrom_108 : decode cX2_copyFrom 108 = .ok (.aaload, 1) := by decide +kernel
theorem dX2_copyFrom_109 : decode cX2_copyFrom 109 = .ok (.invokevirtual 65, 3) := by decide +kernel
theorem dX2_copyFrom_112 : decode cX2_copyFrom 112 = .ok (.iinc 2 1, 3) := by decide +kernel
theorem dX2_copyFrom_115 : decode cX2_copyFrom 115 = .ok (.goto (-26), 3) := by decide +kernel
theorem dX2_copyFrom_118 : decode cX2_copyFrom 118 = .ok (.iconst 0, 1) := by decide +kernel
theorem dX2_copyFrom_119 : decode cX2_copyFrom 119 = .ok (.istore_n 2, 1) := by decide +kernel
theorem dX2_copyFrom_120 : decode cX2_copyFrom 120 = .ok (.iload_n 2, 1) := by decide +kernel
theorem dX2_copyFrom_121 : decode cX2_copyFrom 121 = .ok (.aload_n 0, 1) := by decide +kernel
theorem dX2_copyFrom_122 : decode cX2_copyFrom 122 = .ok (.getfield 52, 3) := by decide +kernel
theorem dX2_copyFrom_125 : decode cX2_copyFrom 125 = .ok (.if_icmp .ge 24, 3) := by decide +kernel
theorem dX2_copyFrom_128 : decode cX2_copyFrom 128 = .ok (.aload_n 0, 1) := by decide +kernel
theorem dX2_copyFrom_129 : decode cX2_copyFrom 129 = .ok (.getfield 25, 3) := by decide +kernel
theorem dX2_copyFrom_132 : decode cX2_copyFrom 132 = .ok (.iload_n 2, 1) := by decide +kernel
theorem dX2_copyFrom_133 : decode cX2_copyFrom 133 = .ok (.aaload, 1) := by decide +kernel
theorem dX2_copyFrom_134 : decode cX2_copyFrom 134 = .ok (.aload_n 1, 1) := by decide +kernel
theorem dX2_copyFrom_135 : decode cX2_copyFrom 135 = .ok (.getfield 25, 3) := by decide +kernel
theorem dX2_copyFrom_138 : decode cX2_copyFrom 138 = .ok (.iload_n 2, 1) := by decide +kernel
theorem dX2_copyFrom_139 : decode cX2_copyFrom 139 = .ok (.aaload, 1) := by decide +kernel
theorem dX2_copyFrom_140 : decode cX2_copyFrom 140 = .ok (.invokevirtual 68, 3) := by decide +kernel
theorem dX2_copyFrom_143 : decode cX2_copyFrom 143 = .ok (.iinc 2 1, 3) := by decide +kernel
theorem dX2_copyFrom_146 : decode cX2_copyFrom 146 = .ok (.goto (-26), 3) := by decide +kernel
theorem dX2_copyFrom_149 : decode cX2_copyFrom 149 = .ok (.aload_n 0, 1) := by decide +kernel
theorem dX2_copyFrom_150 : decode cX2_copyFrom 150 = .ok (.getfield 32, 3) := by decide +kernel
theorem dX2_copyFrom_153 : decode cX2_copyFrom 153 = .ok (.aload_n 1, 1) := by decide +kernel
theorem dX2_copyFrom_154 : decode cX2_copyFrom 154 = .ok (.getfield 32, 3) := by decide +kernel
theorem dX2_copyFrom_157 : decode cX2_copyFrom 157 = .ok (.invokevirtual 71, 3) := by decide +kernel
theorem dX2_copyFrom_160 : decode cX2_copyFrom 160 = .ok (.return_, 1) := by decide +kernel
theorem dX2_isBooth_0 : decode cX2_isBooth 0 = .ok (.iload_n 1, 1) := by decide +kernel
theorem dX2_isBooth_1 : decode cX2_isBooth 1 = .ok (.ifCond .lt 15, 3) := by decide +kernel
theorem dX2_isBooth_4 : decode cX2_isBooth 4 = .ok (.iload_n 1, 1) := by decide +kernel
theorem dX2_isBooth_5 : decode cX2_isBooth 5 = .ok (.aload_n 0, 1) := by decide +kernel
theorem dX2_isBooth_6 : decode cX2_isBooth 6 = .ok (.getfield 46, 3) := by decide +kernel
theorem dX2_isBooth_9 : decode cX2_isBooth 9 = .ok (.if_icmp .ge 7, 3) := by decide +kernel
theorem dX2_isBooth_12 : decode cX2_isBooth 12 = .ok (.iconst 1, 1) := by decide +kernel
theorem dX2_isBooth_13 : decode cX2_isBooth 13 = .ok (.goto 4, 3) := by decide +kernel
theorem dX2_isBooth_16 : decode cX2_isBooth 16 = .ok (.iconst 0, 1) := by decide +kernel
theorem dX2_isBooth_17 : decode cX2_isBooth 17 = .ok (.ireturn, 1) := by decide +kernel
theorem dX2_isHelper_0 : decode cX2_isHelper 0 = .ok (.iload_n 1, 1) := by decide +kernel
theorem dX2_isHelper_1 : decode cX2_isHelper 1 = .ok (.ifCond .lt 15, 3) := by decide +kernel
theorem dX2_isHelper_4 : decode cX2_isHelper 4 = .ok (.iload_n 1, 1) := by decide +kernel
theorem dX2_isHelper_5 : decode cX2_isHelper 5 = .ok (.aload_n 0, 1) := by decide +kernel
theorem dX2_isHelper_6 : decode cX2_isHelper 6 = .ok (.getfield 49, 3) := by decide +kernel
theorem dX2_isHelper_9 : decode cX2_isHelper 9 = .ok (.if_icmp .ge 7, 3) := by decide +kernel
theorem dX2_isHelper_12 : decode cX2_isHelper 12 = .ok (.iconst 1, 1) := by decide +kernel
theorem dX2_isHelper_13 : decode cX2_isHelper 13 = .ok (.goto 4, 3) := by decide +kernel
theorem dX2_isHelper_16 : decode cX2_isHelper 16 = .ok (.iconst 0, 1) := by decide +kernel
theorem dX2_isHelper_17 : decode cX2_isHelper 17 = .ok (.ireturn, 1) := by decide +kernel
theorem dX2_isVisitor_0 : decode cX2_isVisitor 0 = .ok (.iload_n 1, 1) := by decide +kernel
theorem dX2_isVisitor_1 : decode cX2_isVisitor 1 = .ok (.ifCond .lt 15, 3) := by decide +kernel
theorem dX2_isVisitor_4 : decode cX2_isVisitor 4 = .ok (.iload_n 1, 1) := by decide +kernel
theorem dX2_isVisitor_5 : decode cX2_isVisitor 5 = .ok (.aload_n 0, 1) := by decide +kernel
theorem dX2_isVisitor_6 : decode cX2_isVisitor 6 = .ok (.getfield 52, 3) := by decide +kernel
theorem dX2_isVisitor_9 : decode cX2_isVisitor 9 = .ok (.if_icmp .ge 7, 3) := by decide +kernel
theorem dX2_isVisitor_12 : decode cX2_isVisitor 12 = .ok (.iconst 1, 1) := by decide +kernel
theorem dX2_isVisitor_13 : decode cX2_isVisitor 13 = .ok (.goto 4, 3) := by decide +kernel
theorem dX2_isVisitor_16 : decode cX2_isVisitor 16 = .ok (.iconst 0, 1) := by decide +kernel
theorem dX2_isVisitor_17 : decode cX2_isVisitor 17 = .ok (.ireturn, 1) := by decide +kernel
theorem dX2_setUpBooth_0 : decode cX2_setUpBooth 0 = .ok (.aload_n 0, 1) := by decide +kernel
theorem dX2_setUpBooth_1 : decode cX2_setUpBooth 1 = .ok (.getfield 46, 3) := by decide +kernel
theorem dX2_setUpBooth_4 : decode cX2_setUpBooth 4 = .ok (.bipush 8, 2) := by decide +kernel
theorem dX2_setUpBooth_6 : decode cX2_setUpBooth 6 = .ok (.if_icmp .lt 5, 3) := by decide +kernel
theorem dX2_setUpBooth_9 : decode cX2_setUpBooth 9 = .ok (.iconst (-1), 1) := by decide +kernel
theorem dX2_setUpBooth_10 : decode cX2_setUpBooth 10 = .ok (.ireturn, 1) := by decide +kernel
theorem dX2_setUpBooth_11 : decode cX2_setUpBooth 11 = .ok (.aload_n 0, 1) := by decide +kernel
theorem dX2_setUpBooth_12 : decode cX2_setUpBooth 12 = .ok (.getfield 11, 3) := by decide +kernel
theorem dX2_setUpBooth_15 : decode cX2_setUpBooth 15 = .ok (.aload_n 0, 1) := by decide +kernel
theorem dX2_setUpBooth_16 : decode cX2_setUpBooth 16 = .ok (.getfield 46, 3) := by decide +kernel
theorem dX2_setUpBooth_19 : decode cX2_setUpBooth 19 = .ok (.aaload, 1) := by decide +kernel
theorem dX2_setUpBooth_20 : decode cX2_setUpBooth 20 = .ok (.iload_n 1, 1) := by decide +kernel
theorem dX2_setUpBooth_21 : decode cX2_setUpBooth 21 = .ok (.iload_n 2, 1) := by decide +kernel
theorem dX2_setUpBooth_22 : decode cX2_setUpBooth 22 = .ok (.iload_n 3, 1) := by decide +kernel
theorem dX2_setUpBooth_23 : decode cX2_setUpBooth 23 = .ok (.iload 4, 2) := by decide +kernel
theorem dX2_setUpBooth_25 : decode cX2_setUpBooth 25 = .ok (.invokevirtual 74, 3) := by decide +kernel
theorem dX2_setUpBooth_28 : decode cX2_setUpBooth 28 = .ok (.aload_n 0, 1) := by decide +kernel
theorem dX2_setUpBooth_29 : decode cX2_setUpBooth 29 = .ok (.dup, 1) := by decide +kernel
theorem dX2_setUpBooth_30 : decode cX2_setUpBooth 30 = .ok (.getfield 46, 3) := by decide +kernel
theorem dX2_setUpBooth_33 : decode cX2_setUpBooth 33 = .ok (.iconst 1, 1) := by decide +kernel
theorem dX2_setUpBooth_34 : decode cX2_setUpBooth 34 = .ok (.iadd, 1) := by decide +kernel
theorem dX2_setUpBooth_35 : decode cX2_setUpBooth 35 = .ok (.putfield 46, 3) := by decide +kernel
theorem dX2_setUpBooth_38 : decode cX2_setUpBooth 38 = .ok (.aload_n 0, 1) := by decide +kernel
theorem dX2_setUpBooth_39 : decode cX2_setUpBooth 39 = .ok (.getfield 46, 3) := by decide +kernel
theorem dX2_setUpBooth_42 : decode cX2_setUpBooth 42 = .ok (.iconst 1, 1) := by decide +kernel
theorem dX2_setUpBooth_43 : decode cX2_setUpBooth 43 = .ok (.isub, 1) := by decide +kernel
theorem dX2_setUpBooth_44 : decode cX2_setUpBooth 44 = .ok (.ireturn, 1) := by decide +kernel
theorem dX2_takeOnHelper_0 : decode cX2_takeOnHelper 0 = .ok (.aload_n 0, 1) := by decide +kernel
theorem dX2_takeOnHelper_1 : decode cX2_takeOnHelper 1 = .ok (.getfield 49, 3) := by decide +kernel
theorem dX2_takeOnHelper_4 : decode cX2_takeOnHelper 4 = .ok (.bipush 12, 2) := by decide +kernel
theorem dX2_takeOnHelper_6 : decode cX2_takeOnHelper 6 = .ok (.if_icmp .lt 5, 3) := by decide +kernel
theorem dX2_takeOnHelper_9 : decode cX2_takeOnHelper 9 = .ok (.iconst (-1), 1) := by decide +kernel
theorem dX2_takeOnHelper_10 : decode cX2_takeOnHelper 10 = .ok (.ireturn, 1) := by decide +kernel
theorem dX2_takeOnHelper_11 : decode cX2_takeOnHelper 11 = .ok (.aload_n 0, 1) := by decide +kernel
theorem dX2_takeOnHelper_12 : decode cX2_takeOnHelper 12 = .ok (.getfield 19, 3) := by decide +kernel
theorem dX2_takeOnHelper_15 : decode cX2_takeOnHelper 15 = .ok (.aload_n 0, 1) := by decide +kernel
theorem dX2_takeOnHelper_16 : decode cX2_takeOnHelper 16 = .ok (.getfield 49, 3) := by decide +kernel
theorem dX2_takeOnHelper_19 : decode cX2_takeOnHelper 19 = .ok (.aaload, 1) := by decide +kernel
theorem dX2_takeOnHelper_20 : decode cX2_takeOnHelper 20 = .ok (.invokevirtual 78, 3) := by decide +kernel
theorem dX2_takeOnHelper_23 : decode cX2_takeOnHelper 23 = .ok (.aload_n 0, 1) := by decide +kernel
theorem dX2_takeOnHelper_24 : decode cX2_takeOnHelper 24 = .ok (.dup, 1) := by decide +kernel
theorem dX2_takeOnHelper_25 : decode cX2_takeOnHelper 25 = .ok (.getfield 49, 3) := by decide +kernel
theorem dX2_takeOnHelper_28 : decode cX2_takeOnHelper 28 = .ok (.iconst 1, 1) := by decide +kernel
theorem dX2_takeOnHelper_29 : decode cX2_takeOnHelper 29 = .ok (.iadd, 1) := by decide +kernel
theorem dX2_takeOnHelper_30 : decode cX2_takeOnHelper 30 = .ok (.putfield 49, 3) := by decide +kernel
theorem dX2_takeOnHelper_33 : decode cX2_takeOnHelper 33 = .ok (.aload_n 0, 1) := by decide +kernel
theorem dX2_takeOnHelper_34 : decode cX2_takeOnHelper 34 = .ok (.getfield 49, 3) := by decide +kernel
theorem dX2_takeOnHelper_37 : decode cX2_takeOnHelper 37 = .ok (.iconst 1, 1) := by decide +kernel
theorem dX2_takeOnHelper_38 : decode cX2_takeOnHelper 38 = .ok (.isub, 1) := by decide +kernel
theorem dX2_takeOnHelper_39 : decode cX2_takeOnHelper 39 = .ok (.ireturn, 1) := by decide +kernel
theorem dX2_letIn_0 : decode cX2_letIn 0 = .ok (.aload_n 0, 1) := by decide +kernel
theorem dX2_letIn_1 : decode cX2_letIn 1 = .ok (.getfield 52, 3) := by decide +kernel
theorem dX2_letIn_4 : decode cX2_letIn 4 = .ok (.bipush 16, 2) := by decide +kernel
theorem dX2_letIn_6 : decode cX2_letIn 6 = .ok (.if_icmp .lt 5, 3) := by decide +kernel
theorem dX2_letIn_9 : decode cX2_letIn 9 = .ok (.iconst (-1), 1) := by decide +kernel
theorem dX2_letIn_10 : decode cX2_letIn 10 = .ok (.ireturn, 1) := by decide +kernel
theorem dX2_letIn_11 : decode cX2_letIn 11 = .ok (.aload_n 0, 1) := by decide +kernel
theorem dX2_letIn_12 : decode cX2_letIn 12 = .ok (.getfield 25, 3) := by decide +kernel
theorem dX2_letIn_15 : decode cX2_letIn 15 = .ok (.aload_n 0, 1) := by decide +kernel
theorem dX2_letIn_16 : decode cX2_letIn 16 = .ok (.getfield 52, 3) := by decide +kernel
theorem dX2_letIn_19 : decode cX2_letIn 19 = .ok (.aaload, 1) := by decide +kernel
theorem dX2_letIn_20 : decode cX2_letIn 20 = .ok (.iload_n 1, 1) := by decide +kernel
theorem dX2_letIn_21 : decode cX2_letIn 21 = .ok (.iload_n 2, 1) := by decide +kernel
theorem dX2_letIn_22 : decode cX2_letIn 22 = .ok (.invokevirtual 80, 3) := by decide +kernel
theorem dX2_letIn_25 : decode cX2_letIn 25 = .ok (.aload_n 0, 1) := by decide +kernel
theorem dX2_letIn_26 : decode cX2_letIn 26 = .ok (.dup, 1) := by decide +kernel
theorem dX2_letIn_27 : decode cX2_letIn 27 = .ok (.getfield 52, 3) := by decide +kernel
theorem dX2_letIn_30 : decode cX2_letIn 30 = .ok (.iconst 1, 1) := by decide +kernel
theorem dX2_letIn_31 : decode cX2_letIn 31 = .ok (.iadd, 1) := by decide +kernel
theorem dX2_letIn_32 : decode cX2_letIn 32 = .ok (.putfield 52, 3) := by decide +kernel
theorem dX2_letIn_35 : decode cX2_letIn 35 = .ok (.aload_n 0, 1) := by decide +kernel
theorem dX2_letIn_36 : decode cX2_letIn 36 = .ok (.getfield 52, 3) := by decide +kernel
theorem dX2_letIn_39 : decode cX2_letIn 39 = .ok (.iconst 1, 1) := by decide +kernel
theorem dX2_letIn_40 : decode cX2_letIn 40 = .ok (.isub, 1) := by decide +kernel
theorem dX2_letIn_41 : decode cX2_letIn 41 = .ok (.ireturn, 1) := by decide +kernel
theorem dX2_send_0 : decode cX2_send 0 = .ok (.aload_n 0, 1) := by decide +kernel
theorem dX2_send_1 : decode cX2_send 1 = .ok (.iload_n 1, 1) := by decide +kernel
theorem dX2_send_2 : decode cX2_send 2 = .ok (.invokevirtual 83, 3) := by decide +kernel
theorem dX2_send_5 : decode cX2_send 5 = .ok (.ifCond .ne 4, 3) := by decide +kernel
theorem dX2_send_8 : decode cX2_send 8 = .ok (.return_, 1) := by decide +kernel
theorem dX2_send_9 : decode cX2_send 9 = .ok (.aload_n 0, 1) := by decide +kernel
theorem dX2_send_10 : decode cX2_send 10 = .ok (.getfield 19, 3) := by decide +kernel
theorem dX2_send_13 : decode cX2_send 13 = .ok (.iload_n 1, 1) := by decide +kernel
theorem dX2_send_14 : decode cX2_send 14 = .ok (.aaload, 1) := by decide +kernel
theorem dX2_send_15 : decode cX2_send 15 = .ok (.astore_n 3, 1) := by decide +kernel
theorem dX2_send_16 : decode cX2_send 16 = .ok (.aload_n 0, 1) := by decide +kernel
theorem dX2_send_17 : decode cX2_send 17 = .ok (.aload_n 3, 1) := by decide +kernel
theorem dX2_send_18 : decode cX2_send 18 = .ok (.getfield 87, 3) := by decide +kernel
theorem dX2_send_21 : decode cX2_send 21 = .ok (.invokevirtual 90, 3) := by decide +kernel
theorem dX2_send_24 : decode cX2_send 24 = .ok (.ifCond .eq 21, 3) := by decide +kernel
theorem dX2_send_27 : decode cX2_send 27 = .ok (.aload_n 0, 1) := by decide +kernel
theorem dX2_send_28 : decode cX2_send 28 = .ok (.getfield 11, 3) := by decide +kernel
theorem dX2_send_31 : decode cX2_send 31 = .ok (.aload_n 3, 1) := by decide +kernel
theorem dX2_send_32 : decode cX2_send 32 = .ok (.getfield 87, 3) := by decide +kernel
theorem dX2_send_35 : decode cX2_send 35 = .ok (.aaload, 1) := by decide +kernel
theorem dX2_send_36 : decode cX2_send 36 = .ok (.dup, 1) := by decide +kernel
theorem dX2_send_37 : decode cX2_send 37 = .ok (.getfield 93, 3) := by decide +kernel
theorem dX2_send_40 : decode cX2_send 40 = .ok (.iconst 1, 1) := by decide +kernel
theorem dX2_send_41 : decode cX2_send 41 = .ok (.isub, 1) := by decide +kernel
theorem dX2_send_42 : decode cX2_send 42 = .ok (.putfield 93, 3) := by decide +kernel
theorem dX2_send_45 : decode cX2_send 45 = .ok (.aload_n 3, 1) := by decide +kernel
theorem dX2_send_46 : decode cX2_send 46 = .ok (.aload_n 0, 1) := by decide +kernel
theorem dX2_send_47 : decode cX2_send 47 = .ok (.iload_n 2, 1) := by decide +kernel
theorem dX2_send_48 : decode cX2_send 48 = .ok (.invokevirtual 90, 3) := by decide +kernel
theorem dX2_send_51 : decode cX2_send 51 = .ok (.ifCond .eq 7, 3) := by decide +kernel
theorem dX2_send_54 : decode cX2_send 54 = .ok (.iload_n 2, 1) := by decide +kernel
theorem dX2_send_55 : decode cX2_send 55 = .ok (.goto 4, 3) := by decide +kernel
theorem dX2_send_58 : decode cX2_send 58 = .ok (.iconst (-1), 1) := by decide +kernel
theorem dX2_send_59 : decode cX2_send 59 = .ok (.putfield 87, 3) := by decide +kernel
theorem dX2_send_62 : decode cX2_send 62 = .ok (.aload_n 0, 1) := by decide +kernel
theorem dX2_send_63 : decode cX2_send 63 = .ok (.aload_n 3, 1) := by decide +kernel
theorem dX2_send_64 : decode cX2_send 64 = .ok (.getfield 87, 3) := by decide +kernel
theorem dX2_send_67 : decode cX2_send 67 = .ok (.invokevirtual 90, 3) := by decide +kernel
theorem dX2_send_70 : decode cX2_send 70 = .ok (.ifCond .eq 21, 3) := by decide +kernel
theorem dX2_send_73 : decode cX2_send 73 = .ok (.aload_n 0, 1) := by decide +kernel
theorem dX2_send_74 : decode cX2_send 74 = .ok (.getfield 11, 3) := by decide +kernel
theorem dX2_send_77 : decode cX2_send 77 = .ok (.aload_n 3, 1) := by decide +kernel
theorem dX2_send_78 : decode cX2_send 78 = .ok (.getfield 87, 3) := by decide +kernel
theorem dX2_send_81 : decode cX2_send 81 = .ok (.aaload, 1) := by decide +kernel
theorem dX2_send_82 : decode cX2_send 82 = .ok (.dup, 1) := by decide +kernel
theorem dX2_send_83 : decode cX2_send 83 = .ok (.getfield 93, 3) := by decide +kernel
theorem dX2_send_86 : decode cX2_send 86 = .ok (.iconst 1, 1) := by decide +kernel
theorem dX2_send_87 : decode cX2_send 87 = .ok (.iadd, 1) := by decide +kernel
theorem dX2_send_88 : decode cX2_send 88 = .ok (.putfield 93, 3) := by decide +kernel
theorem dX2_send_91 : decode cX2_send 91 = .ok (.return_, 1) := by decide +kernel
theorem dX2_takeFromQueue_0 : decode cX2_takeFromQueue 0 = .ok (.aload_n 0, 1) := by decide +kernel
theorem dX2_takeFromQueue_1 : decode cX2_takeFromQueue 1 = .ok (.iload_n 1, 1) := by decide +kernel
theorem dX2_takeFromQueue_2 : decode cX2_takeFromQueue 2 = .ok (.invokevirtual 96, 3) := by decide +kernel
theorem dX2_takeFromQueue_5 : decode cX2_takeFromQueue 5 = .ok (.ifCond .ne 5, 3) := by decide +kernel
theorem dX2_takeFromQueue_8 : decode cX2_takeFromQueue 8 = .ok (.iconst (-1), 1) := by decide +kernel
theorem dX2_takeFromQueue_9 : decode cX2_takeFromQueue 9 = .ok (.ireturn, 1) := by decide +kernel
theorem dX2_takeFromQueue_10 : decode cX2_takeFromQueue 10 = .ok (.aload_n 0, 1) := by decide +kernel
theorem dX2_takeFromQueue_11 : decode cX2_takeFromQueue 11 = .ok (.getfield 25, 3) := by decide +kernel
theorem dX2_takeFromQueue_14 : decode cX2_takeFromQueue 14 = .ok (.iload_n 1, 1) := by decide +kernel
theorem dX2_takeFromQueue_15 : decode cX2_takeFromQueue 15 = .ok (.aaload, 1) := by decide +kernel
theorem dX2_takeFromQueue_16 : decode cX2_takeFromQueue 16 = .ok (.astore_n 2, 1) := by decide +kernel
theorem dX2_takeFromQueue_17 : decode cX2_takeFromQueue 17 = .ok (.aload_n 2, 1) := by decide +kernel
theorem dX2_takeFromQueue_18 : decode cX2_takeFromQueue 18 = .ok (.getfield 99, 3) := by decide +kernel
theorem dX2_takeFromQueue_21 : decode cX2_takeFromQueue 21 = .ok (.istore_n 3, 1) := by decide +kernel
theorem dX2_takeFromQueue_22 : decode cX2_takeFromQueue 22 = .ok (.aload_n 0, 1) := by decide +kernel
theorem dX2_takeFromQueue_23 : decode cX2_takeFromQueue 23 = .ok (.iload_n 3, 1) := by decide +kernel
theorem dX2_takeFromQueue_24 : decode cX2_takeFromQueue 24 = .ok (.invokevirtual 90, 3) := by decide +kernel
theorem dX2_takeFromQueue_27 : decode cX2_takeFromQueue 27 = .ok (.ifCond .eq 13, 3) := by decide +kernel
theorem dX2_takeFromQueue_30 : decode cX2_takeFromQueue 30 = .ok (.aload_n 0, 1) := by decide +kernel
theorem dX2_takeFromQueue_31 : decode cX2_takeFromQueue 31 = .ok (.getfield 11, 3) := by decide +kernel
theorem dX2_takeFromQueue_34 : decode cX2_takeFromQueue 34 = .ok (.iload_n 3, 1) := by decide +kernel
theorem dX2_takeFromQueue_35 : decode cX2_takeFromQueue 35 = .ok (.aaload, 1) := by decide +kernel
theorem dX2_takeFromQueue_36 : decode cX2_takeFromQueue 36 = .ok (.iload_n 1, 1) := by decide +kernel
theorem dX2_takeFromQueue_37 : decode cX2_takeFromQueue 37 = .ok (.invokevirtual 100, 3) := by decide +kernel
theorem dX2_takeFromQueue_40 : decode cX2_takeFromQueue 40 = .ok (.aload_n 2, 1) := by decide +kernel
theorem dX2_takeFromQueue_41 : decode cX2_takeFromQueue 41 = .ok (.iconst (-1), 1) := by decide +kernel
theorem dX2_takeFromQueue_42 : decode cX2_takeFromQueue 42 = .ok (.putfield 99, 3) := by decide +kernel
theorem dX2_takeFromQueue_45 : decode cX2_takeFromQueue 45 = .ok (.iload_n 3, 1) := by decide +kernel
theorem dX2_takeFromQueue_46 : decode cX2_takeFromQueue 46 = .ok (.ireturn, 1) := by decide +kernel
theorem dX2_costNow_0 : decode cX2_costNow 0 = .ok (.iload_n 1, 1) := by decide +kernel
theorem dX2_costNow_1 : decode cX2_costNow 1 = .ok (.aload_n 0, 1) := by decide +kernel
theorem dX2_costNow_2 : decode cX2_costNow 2 = .ok (.getfield 40, 3) := by decide +kernel
theorem dX2_costNow_5 : decode cX2_costNow 5 = .ok (.if_icmp .ne 17, 3) := by decide +kernel
theorem dX2_costNow_8 : decode cX2_costNow 8 = .ok (.aload_n 0, 1) := by decide +kernel
theorem dX2_costNow_9 : decode cX2_costNow 9 = .ok (.getfield 11, 3) := by decide +kernel
theorem dX2_costNow_12 : decode cX2_costNow 12 = .ok (.iload_n 1, 1) := by decide +kernel
theorem dX2_costNow_13 : decode cX2_costNow 13 = .ok (.aaload, 1) := by decide +kernel
theorem dX2_costNow_14 : decode cX2_costNow 14 = .ok (.getfield 104, 3) := by decide +kernel
theorem dX2_costNow_17 : decode cX2_costNow 17 = .ok (.iconst 1, 1) := by decide +kernel
theorem dX2_costNow_18 : decode cX2_costNow 18 = .ok (.isub, 1) := by decide +kernel
theorem dX2_costNow_19 : decode cX2_costNow 19 = .ok (.goto 12, 3) := by decide +kernel
theorem dX2_costNow_22 : decode cX2_costNow 22 = .ok (.aload_n 0, 1) := by decide +kernel
theorem dX2_costNow_23 : decode cX2_costNow 23 = .ok (.getfield 11, 3) := by decide +kernel
theorem dX2_costNow_26 : decode cX2_costNow 26 = .ok (.iload_n 1, 1) := by decide +kernel
theorem dX2_costNow_27 : decode cX2_costNow 27 = .ok (.aaload, 1) := by decide +kernel
theorem dX2_costNow_28 : decode cX2_costNow 28 = .ok (.getfield 104, 3) := by decide +kernel
theorem dX2_costNow_31 : decode cX2_costNow 31 = .ok (.ireturn, 1) := by decide +kernel
theorem dX2_goOn_0 : decode cX2_goOn 0 = .ok (.aload_n 0, 1) := by decide +kernel
theorem dX2_goOn_1 : decode cX2_goOn 1 = .ok (.getfield 58, 3) := by decide +kernel
theorem dX2_goOn_4 : decode cX2_goOn 4 = .ok (.istore_n 2, 1) := by decide +kernel
theorem dX2_goOn_5 : decode cX2_goOn 5 = .ok (.iconst 0, 1) := by decide +kernel
theorem dX2_goOn_6 : decode cX2_goOn 6 = .ok (.istore_n 3, 1) := by decide +kernel
theorem dX2_goOn_7 : decode cX2_goOn 7 = .ok (.iload_n 3, 1) := by decide +kernel
theorem dX2_goOn_8 : decode cX2_goOn 8 = .ok (.iload_n 1, 1) := by decide +kernel
theorem dX2_goOn_9 : decode cX2_goOn 9 = .ok (.if_icmp .ge 13, 3) := by decide +kernel
theorem dX2_goOn_12 : decode cX2_goOn 12 = .ok (.aload_n 0, 1) := by decide +kernel
theorem dX2_goOn_13 : decode cX2_goOn 13 = .ok (.invokevirtual 107, 3) := by decide +kernel
theorem dX2_goOn_16 : decode cX2_goOn 16 = .ok (.iinc 3 1, 3) := by decide +kernel
theorem dX2_goOn_19 : decode cX2_goOn 19 = .ok (.goto (-12), 3) := by decide +kernel
theorem dX2_goOn_22 : decode cX2_goOn 22 = .ok (.aload_n 0, 1) := by decide +kernel
theorem dX2_goOn_23 : decode cX2_goOn 23 = .ok (.getfield 58, 3) := by decide +kernel
theorem dX2_goOn_26 : decode cX2_goOn 26 = .ok (.iload_n 2, 1) := by decide +kernel
theorem dX2_goOn_27 : decode cX2_goOn 27 = .ok (.isub, 1) := by decide +kernel
theorem dX2_goOn_28 : decode cX2_goOn 28 = .ok (.ireturn, 1) := by decide +kernel
theorem dX2_playRound_0 : decode cX2_playRound 0 = .ok (.aload_n 0, 1) := by decide +kernel
theorem dX2_playRound_1 : decode cX2_playRound 1 = .ok (.getfield 55, 3) := by decide +kernel
theorem dX2_playRound_4 : decode cX2_playRound 4 = .ok (.bipush 12, 2) := by decide +kernel
theorem dX2_playRound_6 : decode cX2_playRound 6 = .ok (.irem, 1) := by decide +kernel
theorem dX2_playRound_7 : decode cX2_playRound 7 = .ok (.ifCond .ne 7, 3) := by decide +kernel
theorem dX2_playRound_10 : decode cX2_playRound 10 = .ok (.aload_n 0, 1) := by decide +kernel
theorem dX2_playRound_11 : decode cX2_playRound 11 = .ok (.invokevirtual 110, 3) := by decide +kernel
theorem dX2_playRound_14 : decode cX2_playRound 14 = .ok (.iconst 0, 1) := by decide +kernel
theorem dX2_playRound_15 : decode cX2_playRound 15 = .ok (.istore_n 1, 1) := by decide +kernel
theorem dX2_playRound_16 : decode cX2_playRound 16 = .ok (.iload_n 1, 1) := by decide +kernel
theorem dX2_playRound_17 : decode cX2_playRound 17 = .ok (.aload_n 0, 1) := by decide +kernel
theorem dX2_playRound_18 : decode cX2_playRound 18 = .ok (.getfield 52, 3) := by decide +kernel
theorem dX2_playRound_21 : decode cX2_playRound 21 = .ok (.if_icmp .ge 26, 3) := by decide +kernel
theorem dX2_playRound_24 : decode cX2_playRound 24 = .ok (.aload_n 0, 1) := by decide +kernel
theorem dX2_playRound_25 : decode cX2_playRound 25 = .ok (.getfield 25, 3) := by decide +kernel
theorem dX2_playRound_28 : decode cX2_playRound 28 = .ok (.iload_n 1, 1) := by decide +kernel
theorem dX2_playRound_29 : decode cX2_playRound 29 = .ok (.aaload, 1) := by decide +kernel
theorem dX2_playRound_30 : decode cX2_playRound 30 = .ok (.invokevirtual 113, 3) := by decide +kernel
theorem dX2_playRound_33 : decode cX2_playRound 33 = .ok (.ifCond .eq 8, 3) := by decide +kernel
theorem dX2_playRound_36 : decode cX2_playRound 36 = .ok (.aload_n 0, 1) := by decide +kernel
theorem dX2_playRound_37 : decode cX2_playRound 37 = .ok (.iload_n 1, 1) := by decide +kernel
theorem dX2_playRound_38 : decode cX2_playRound 38 = .ok (.invokevirtual 117, 3) := by decide +kernel
theorem dX2_playRound_41 : decode cX2_playRound 41 = .ok (.iinc 1 1, 3) := by decide +kernel
theorem dX2_playRound_44 : decode cX2_playRound 44 = .ok (.goto (-28), 3) := by decide +kernel
theorem dX2_playRound_47 : decode cX2_playRound 47 = .ok (.iconst 0, 1) := by decide +kernel
theorem dX2_playRound_48 : decode cX2_playRound 48 = .ok (.istore_n 1, 1) := by decide +kernel
theorem dX2_playRound_49 : decode cX2_playRound 49 = .ok (.iload_n 1, 1) := by decide +kernel
theorem dX2_playRound_50 : decode cX2_playRound 50 = .ok (.aload_n 0, 1) := by decide +kernel
theorem dX2_playRound_51 : decode cX2_playRound 51 = .ok (.getfield 46, 3) := by decide +kernel
theorem dX2_playRound_54 : decode cX2_playRound 54 = .ok (.if_icmp .ge 26, 3) := by decide +kernel
theorem dX2_playRound_57 : decode cX2_playRound 57 = .ok (.aload_n 0, 1) := by decide +kernel
theorem dX2_playRound_58 : decode cX2_playRound 58 = .ok (.getfield 11, 3) := by decide +kernel
theorem dX2_playRound_61 : decode cX2_playRound 61 = .ok (.iload_n 1, 1) := by decide +kernel
theorem dX2_playRound_62 : decode cX2_playRound 62 = .ok (.aaload, 1) := by decide +kernel
theorem dX2_playRound_63 : decode cX2_playRound 63 = .ok (.invokevirtual 120, 3) := by decide +kernel
theorem dX2_playRound_66 : decode cX2_playRound 66 = .ok (.ifCond .eq 8, 3) := by decide +kernel
theorem dX2_playRound_69 : decode cX2_playRound 69 = .ok (.aload_n 0, 1) := by decide +kernel
theorem dX2_playRound_70 : decode cX2_playRound 70 = .ok (.iload_n 1, 1) := by decide +kernel
theorem dX2_playRound_71 : decode cX2_playRound 71 = .ok (.invokevirtual 123, 3) := by decide +kernel
theorem dX2_playRound_74 : decode cX2_playRound 74 = .ok (.iinc 1 1, 3) := by decide +kernel
theorem dX2_playRound_77 : decode cX2_playRound 77 = .ok (.goto (-28), 3) := by decide +kernel
theorem dX2_playRound_80 : decode cX2_playRound 80 = .ok (.iconst 0, 1) := by decide +kernel
theorem dX2_playRound_81 : decode cX2_playRound 81 = .ok (.istore_n 1, 1) := by decide +kernel
theorem dX2_playRound_82 : decode cX2_playRound 82 = .ok (.iload_n 1, 1) := by decide +kernel
theorem dX2_playRound_83 : decode cX2_playRound 83 = .ok (.aload_n 0, 1) := by decide +kernel
theorem dX2_playRound_84 : decode cX2_playRound 84 = .ok (.getfield 49, 3) := by decide +kernel
theorem dX2_playRound_87 : decode cX2_playRound 87 = .ok (.if_icmp .ge 14, 3) := by decide +kernel
theorem dX2_playRound_90 : decode cX2_playRound 90 = .ok (.aload_n 0, 1) := by decide +kernel
theorem dX2_playRound_91 : decode cX2_playRound 91 = .ok (.iload_n 1, 1) := by decide +kernel
theorem dX2_playRound_92 : decode cX2_playRound 92 = .ok (.invokevirtual 126, 3) := by decide +kernel
theorem dX2_playRound_95 : decode cX2_playRound 95 = .ok (.iinc 1 1, 3) := by decide +kernel
theorem dX2_playRound_98 : decode cX2_playRound 98 = .ok (.goto (-16), 3) := by decide +kernel
theorem dX2_playRound_101 : decode cX2_playRound 101 = .ok (.aload_n 0, 1) := by decide +kernel
theorem dX2_playRound_102 : decode cX2_playRound 102 = .ok (.getfield 55, 3) := by decide +kernel
theorem dX2_playRound_105 : decode cX2_playRound 105 = .ok (.bipush 12, 2) := by decide +kernel
theorem dX2_playRound_107 : decode cX2_playRound 107 = .ok (.irem, 1) := by decide +kernel
theorem dX2_playRound_108 : decode cX2_playRound 108 = .ok (.bipush 11, 2) := by decide +kernel
theorem dX2_playRound_110 : decode cX2_playRound 110 = .ok (.if_icmp .ne 7, 3) := by decide +kernel
theorem dX2_playRound_113 : decode cX2_playRound 113 = .ok (.aload_n 0, 1) := by decide +kernel
theorem dX2_playRound_114 : decode cX2_playRound 114 = .ok (.invokevirtual 129, 3) := by decide +kernel
theorem dX2_playRound_117 : decode cX2_playRound 117 = .ok (.aload_n 0, 1) := by decide +kernel
theorem dX2_playRound_118 : decode cX2_playRound 118 = .ok (.dup, 1) := by decide +kernel
theorem dX2_playRound_119 : decode cX2_playRound 119 = .ok (.getfield 55, 3) := by decide +kernel
theorem dX2_playRound_122 : decode cX2_playRound 122 = .ok (.iconst 1, 1) := by decide +kernel
theorem dX2_playRound_123 : decode cX2_playRound 123 = .ok (.iadd, 1) := by decide +kernel
theorem dX2_playRound_124 : decode cX2_playRound 124 = .ok (.putfield 55, 3) := by decide +kernel
theorem dX2_playRound_127 : decode cX2_playRound 127 = .ok (.return_, 1) := by decide +kernel
theorem dX2_throwDart_0 : decode cX2_throwDart 0 = .ok (.aload_n 0, 1) := by decide +kernel
theorem dX2_throwDart_1 : decode cX2_throwDart 1 = .ok (.aload_n 0, 1) := by decide +kernel
theorem dX2_throwDart_2 : decode cX2_throwDart 2 = .ok (.getfield 36, 3) := by decide +kernel
theorem dX2_throwDart_5 : decode cX2_throwDart 5 = .ok (.bipush 75, 2) := by decide +kernel
theorem dX2_throwDart_7 : decode cX2_throwDart 7 = .ok (.imul, 1) := by decide +kernel
theorem dX2_throwDart_8 : decode cX2_throwDart 8 = .ok (.bipush 74, 2) := by decide +kernel
theorem dX2_throwDart_10 : decode cX2_throwDart 10 = .ok (.iadd, 1) := by decide +kernel
theorem dX2_throwDart_11 : decode cX2_throwDart 11 = .ok (.ldc 132, 2) := by decide +kernel
theorem dX2_throwDart_13 : decode cX2_throwDart 13 = .ok (.irem, 1) := by decide +kernel
theorem dX2_throwDart_14 : decode cX2_throwDart 14 = .ok (.putfield 36, 3) := by decide +kernel
theorem dX2_throwDart_17 : decode cX2_throwDart 17 = .ok (.aload_n 0, 1) := by decide +kernel
theorem dX2_throwDart_18 : decode cX2_throwDart 18 = .ok (.aload_n 0, 1) := by decide +kernel
theorem dX2_throwDart_19 : decode cX2_throwDart 19 = .ok (.getfield 46, 3) := by decide +kernel
theorem dX2_throwDart_22 : decode cX2_throwDart 22 = .ok (.ifCond .le 15, 3) := by decide +kernel
theorem dX2_throwDart_25 : decode cX2_throwDart 25 = .ok (.aload_n 0, 1) := by decide +kernel
theorem dX2_throwDart_26 : decode cX2_throwDart 26 = .ok (.getfield 36, 3) := by decide +kernel
theorem dX2_throwDart_29 : decode cX2_throwDart 29 = .ok (.aload_n 0, 1) := by decide +kernel
theorem dX2_throwDart_30 : decode cX2_throwDart 30 = .ok (.getfield 46, 3) := by decide +kernel
theorem dX2_throwDart_33 : decode cX2_throwDart 33 = .ok (.irem, 1) := by decide +kernel
theorem dX2_throwDart_34 : decode cX2_throwDart 34 = .ok (.goto 4, 3) := by decide +kernel
theorem dX2_throwDart_37 : decode cX2_throwDart 37 = .ok (.iconst (-1), 1) := by decide +kernel
theorem dX2_throwDart_38 : decode cX2_throwDart 38 = .ok (.putfield 40, 3) := by decide +kernel
theorem dX2_throwDart_41 : decode cX2_throwDart 41 = .ok (.return_, 1) := by decide +kernel
theorem dX2_choose_0 : decode cX2_choose 0 = .ok (.aload_n 0, 1) := by decide +kernel
theorem dX2_choose_1 : decode cX2_choose 1 = .ok (.getfield 25, 3) := by decide +kernel
theorem dX2_choose_4 : decode cX2_choose 4 = .ok (.iload_n 1, 1) := by decide +kernel
theorem dX2_choose_5 : decode cX2_choose 5 = .ok (.aaload, 1) := by decide +kernel
theorem dX2_choose_6 : decode cX2_choose 6 = .ok (.astore_n 2, 1) := by decide +kernel
theorem dX2_choose_7 : decode cX2_choose 7 = .ok (.iconst (-1), 1) := by decide +kernel
theorem dX2_choose_8 : decode cX2_choose 8 = .ok (.istore_n 3, 1) := by decide +kernel
theorem dX2_choose_9 : decode cX2_choose 9 = .ok (.iconst 0, 1) := by decide +kernel
theorem dX2_choose_10 : decode cX2_choose 10 = .ok (.istore 4, 2) := by decide +kernel
theorem dX2_choose_12 : decode cX2_choose 12 = .ok (.iload 4, 2) := by decide +kernel
theorem dX2_choose_14 : decode cX2_choose 14 = .ok (.aload_n 0, 1) := by decide +kernel
theorem dX2_choose_15 : decode cX2_choose 15 = .ok (.getfield 46, 3) := by decide +kernel
theorem dX2_choose_18 : decode cX2_choose 18 = .ok (.if_icmp .ge 38, 3) := by decide +kernel
theorem dX2_choose_21 : decode cX2_choose 21 = .ok (.aload_n 0, 1) := by decide +kernel
theorem dX2_choose_22 : decode cX2_choose 22 = .ok (.iload 4, 2) := by decide +kernel
theorem dX2_choose_24 : decode cX2_choose 24 = .ok (.aload_n 2, 1) := by decide +kernel
theorem dX2_choose_25 : decode cX2_choose 25 = .ok (.invokevirtual 133, 3) := by decide +kernel
theorem dX2_choose_28 : decode cX2_choose 28 = .ok (.ifCond .eq 22, 3) := by decide +kernel
theorem dX2_choose_31 : decode cX2_choose 31 = .ok (.iload_n 3, 1) := by decide +kernel
theorem dX2_choose_32 : decode cX2_choose 32 = .ok (.iconst (-1), 1) := by decide +kernel
theorem dX2_choose_33 : decode cX2_choose 33 = .ok (.if_icmp .eq 14, 3) := by decide +kernel
theorem dX2_choose_36 : decode cX2_choose 36 = .ok (.aload_n 0, 1) := by decide +kernel
theorem dX2_choose_37 : decode cX2_choose 37 = .ok (.iload 4, 2) := by decide +kernel
theorem dX2_choose_39 : decode cX2_choose 39 = .ok (.iload_n 3, 1) := by decide +kernel
theorem dX2_choose_40 : decode cX2_choose 40 = .ok (.aload_n 2, 1) := by decide +kernel
theorem dX2_choose_41 : decode cX2_choose 41 = .ok (.invokevirtual 137, 3) := by decide +kernel
theorem dX2_choose_44 : decode cX2_choose 44 = .ok (.ifCond .eq 6, 3) := by decide +kernel
theorem dX2_choose_47 : decode cX2_choose 47 = .ok (.iload 4, 2) := by decide +kernel
theorem dX2_choose_49 : decode cX2_choose 49 = .ok (.istore_n 3, 1) := by decide +kernel
theorem dX2_choose_50 : decode cX2_choose 50 = .ok (.iinc 4 1, 3) := by decide +kernel
theorem dX2_choose_53 : decode cX2_choose 53 = .ok (.goto (-41), 3) := by decide +kernel
theorem dX2_choose_56 : decode cX2_choose 56 = .ok (.aload_n 0, 1) := by decide +kernel
theorem dX2_choose_57 : decode cX2_choose 57 = .ok (.iload_n 3, 1) := by decide +kernel
theorem dX2_choose_58 : decode cX2_choose 58 = .ok (.invokevirtual 90, 3) := by decide +kernel
theorem dX2_choose_61 : decode cX2_choose 61 = .ok (.ifCond .eq 24, 3) := by decide +kernel
theorem dX2_choose_64 : decode cX2_choose 64 = .ok (.aload_n 0, 1) := by decide +kernel
theorem dX2_choose_65 : decode cX2_choose 65 = .ok (.getfield 11, 3) := by decide +kernel
theorem dX2_choose_68 : decode cX2_choose 68 = .ok (.iload_n 3, 1) := by decide +kernel
theorem dX2_choose_69 : decode cX2_choose 69 = .ok (.aaload, 1) := by decide +kernel
theorem dX2_choose_70 : decode cX2_choose 70 = .ok (.iload_n 1, 1) := by decide +kernel
theorem dX2_choose_71 : decode cX2_choose 71 = .ok (.invokevirtual 141, 3) := by decide +kernel
theorem dX2_choose_74 : decode cX2_choose 74 = .ok (.ifCond .eq 23, 3) := by decide +kernel
theorem dX2_choose_77 : decode cX2_choose 77 = .ok (.aload_n 2, 1) := by decide +kernel
theorem dX2_choose_78 : decode cX2_choose 78 = .ok (.iload_n 3, 1) := by decide +kernel
theorem dX2_choose_79 : decode cX2_choose 79 = .ok (.putfield 99, 3) := by decide +kernel
theorem dX2_choose_82 : decode cX2_choose 82 = .ok (.goto 15, 3) := by decide +kernel
theorem dX2_choose_85 : decode cX2_choose 85 = .ok (.aload_n 2, 1) := by decide +kernel
theorem dX2_choose_86 : decode cX2_choose 86 = .ok (.getfield 144, 3) := by decide +kernel
theorem dX2_choose_89 : decode cX2_choose 89 = .ok (.ifCond .ne 8, 3) := by decide +kernel
theorem dX2_choose_92 : decode cX2_choose 92 = .ok (.aload_n 2, 1) := by decide +kernel
theorem dX2_choose_93 : decode cX2_choose 93 = .ok (.iconst 1, 1) := by decide +kernel
theorem dX2_choose_94 : decode cX2_choose 94 = .ok (.putfield 147, 3) := by decide +kernel
theorem dX2_choose_97 : decode cX2_choose 97 = .ok (.return_, 1) := by decide +kernel
theorem dX2_invites_0 : decode cX2_invites 0 = .ok (.aload_n 0, 1) := by decide +kernel
theorem dX2_invites_1 : decode cX2_invites 1 = .ok (.getfield 11, 3) := by decide +kernel
theorem dX2_invites_4 : decode cX2_invites 4 = .ok (.iload_n 1, 1) := by decide +kernel
theorem dX2_invites_5 : decode cX2_invites 5 = .ok (.aaload, 1) := by decide +kernel
theorem dX2_invites_6 : decode cX2_invites 6 = .ok (.astore_n 3, 1) := by decide +kernel
theorem dX2_invites_7 : decode cX2_invites 7 = .ok (.aload_n 3, 1) := by decide +kernel
theorem dX2_invites_8 : decode cX2_invites 8 = .ok (.invokevirtual 120, 3) := by decide +kernel
theorem dX2_invites_11 : decode cX2_invites 11 = .ok (.ifCond .eq 26, 3) := by decide +kernel
theorem dX2_invites_14 : decode cX2_invites 14 = .ok (.aload_n 3, 1) := by decide +kernel
theorem dX2_invites_15 : decode cX2_invites 15 = .ok (.getfield 151, 3) := by decide +kernel
theorem dX2_invites_18 : decode cX2_invites 18 = .ok (.ifCond .le 19, 3) := by decide +kernel
theorem dX2_invites_21 : decode cX2_invites 21 = .ok (.aload_n 0, 1) := by decide +kernel
theorem dX2_invites_22 : decode cX2_invites 22 = .ok (.iload_n 1, 1) := by decide +kernel
theorem dX2_invites_23 : decode cX2_invites 23 = .ok (.invokevirtual 154, 3) := by decide +kernel
theorem dX2_invites_26 : decode cX2_invites 26 = .ok (.aload_n 2, 1) := by decide +kernel
theorem dX2_invites_27 : decode cX2_invites 27 = .ok (.getfield 144, 3) := by decide +kernel
theorem dX2_invites_30 : decode cX2_invites 30 = .ok (.if_icmp .gt 7, 3) := by decide +kernel
theorem dX2_invites_33 : decode cX2_invites 33 = .ok (.iconst 1, 1) := by decide +kernel
theorem dX2_invites_34 : decode cX2_invites 34 = .ok (.goto 4, 3) := by decide +kernel
theorem dX2_invites_37 : decode cX2_invites 37 = .ok (.iconst 0, 1) := by decide +kernel
theorem dX2_invites_38 : decode cX2_invites 38 = .ok (.ireturn, 1) := by decide +kernel
theorem dX2_isBetter_0 : decode cX2_isBetter 0 = .ok (.aload_n 0, 1) := by decide +kernel
theorem dX2_isBetter_1 : decode cX2_isBetter 1 = .ok (.getfield 11, 3) := by decide +kernel
theorem dX2_isBetter_4 : decode cX2_isBetter 4 = .ok (.iload_n 2, 1) := by decide +kernel
theorem dX2_isBetter_5 : decode cX2_isBetter 5 = .ok (.aaload, 1) := by decide +kernel
theorem dX2_isBetter_6 : decode cX2_isBetter 6 = .ok (.getfield 158, 3) := by decide +kernel
theorem dX2_isBetter_9 : decode cX2_isBetter 9 = .ok (.aload_n 0, 1) := by decide +kernel
theorem dX2_isBetter_10 : decode cX2_isBetter 10 = .ok (.getfield 11, 3) := by decide +kernel
theorem dX2_isBetter_13 : decode cX2_isBetter 13 = .ok (.iload_n 1, 1) := by decide +kernel
theorem dX2_isBetter_14 : decode cX2_isBetter 14 = .ok (.aaload, 1) := by decide +kernel
theorem dX2_isBetter_15 : decode cX2_isBetter 15 = .ok (.getfield 158, 3) := by decide +kernel
theorem dX2_isBetter_18 : decode cX2_isBetter 18 = .ok (.isub, 1) := by decide +kernel
theorem dX2_isBetter_19 : decode cX2_isBetter 19 = .ok (.istore 4, 2) := by decide +kernel
theorem dX2_isBetter_21 : decode cX2_isBetter 21 = .ok (.iload 4, 2) := by decide +kernel
theorem dX2_isBetter_23 : decode cX2_isBetter 23 = .ok (.ifCond .eq 14, 3) := by decide +kernel
theorem dX2_isBetter_26 : decode cX2_isBetter 26 = .ok (.iload 4, 2) := by decide +kernel
theorem dX2_isBetter_28 : decode cX2_isBetter 28 = .ok (.ifCond .le 7, 3) := by decide +kernel
theorem dX2_isBetter_31 : decode cX2_isBetter 31 = .ok (.iconst 1, 1) := by decide +kernel
theorem dX2_isBetter_32 : decode cX2_isBetter 32 = .ok (.goto 4, 3) := by decide +kernel
theorem dX2_isBetter_35 : decode cX2_isBetter 35 = .ok (.iconst 0, 1) := by decide +kernel
theorem dX2_isBetter_36 : decode cX2_isBetter 36 = .ok (.ireturn, 1) := by decide +kernel
theorem dX2_isBetter_37 : decode cX2_isBetter 37 = .ok (.aload_n 3, 1) := by decide +kernel
theorem dX2_isBetter_38 : decode cX2_isBetter 38 = .ok (.getfield 161, 3) := by decide +kernel
theorem dX2_isBetter_41 : decode cX2_isBetter 41 = .ok (.iload_n 1, 1) := by decide +kernel
theorem dX2_isBetter_42 : decode cX2_isBetter 42 = .ok (.iaload, 1) := by decide +kernel
theorem dX2_isBetter_43 : decode cX2_isBetter 43 = .ok (.aload_n 3, 1) := by decide +kernel
theorem dX2_isBetter_44 : decode cX2_isBetter 44 = .ok (.getfield 161, 3) := by decide +kernel
theorem dX2_isBetter_47 : decode cX2_isBetter 47 = .ok (.iload_n 2, 1) := by decide +kernel
theorem dX2_isBetter_48 : decode cX2_isBetter 48 = .ok (.iaload, 1) := by decide +kernel
theorem dX2_isBetter_49 : decode cX2_isBetter 49 = .ok (.if_icmp .le 7, 3) := by decide +kernel
theorem dX2_isBetter_52 : decode cX2_isBetter 52 = .ok (.iconst 1, 1) := by decide +kernel
theorem dX2_isBetter_53 : decode cX2_isBetter 53 = .ok (.goto 4, 3) := by decide +kernel
theorem dX2_isBetter_56 : decode cX2_isBetter 56 = .ok (.iconst 0, 1) := by decide +kernel
theorem dX2_isBetter_57 : decode cX2_isBetter 57 = .ok (.ireturn, 1) := by decide +kernel
theorem dX2_serve_0 : decode cX2_serve 0 = .ok (.aload_n 0, 1) := by decide +kernel
theorem dX2_serve_1 : decode cX2_serve 1 = .ok (.getfield 11, 3) := by decide +kernel
theorem dX2_serve_4 : decode cX2_serve 4 = .ok (.iload_n 1, 1) := by decide +kernel
theorem dX2_serve_5 : decode cX2_serve 5 = .ok (.aaload, 1) := by decide +kernel
theorem dX2_serve_6 : decode cX2_serve 6 = .ok (.astore_n 2, 1) := by decide +kernel
theorem dX2_serve_7 : decode cX2_serve 7 = .ok (.aload_n 2, 1) := by decide +kernel
theorem dX2_serve_8 : decode cX2_serve 8 = .ok (.getfield 93, 3) := by decide +kernel
theorem dX2_serve_11 : decode cX2_serve 11 = .ok (.aload_n 2, 1) := by decide +kernel
theorem dX2_serve_12 : decode cX2_serve 12 = .ok (.getfield 158, 3) := by decide +kernel
theorem dX2_serve_15 : decode cX2_serve 15 = .ok (.invokestatic 165, 3) := by decide +kernel
theorem dX2_serve_18 : decode cX2_serve 18 = .ok (.istore_n 3, 1) := by decide +kernel
theorem dX2_serve_19 : decode cX2_serve 19 = .ok (.iconst 0, 1) := by decide +kernel
theorem dX2_serve_20 : decode cX2_serve 20 = .ok (.istore 4, 2) := by decide +kernel
theorem dX2_serve_22 : decode cX2_serve 22 = .ok (.iload 4, 2) := by decide +kernel
theorem dX2_serve_24 : decode cX2_serve 24 = .ok (.iload_n 3, 1) := by decide +kernel
theorem dX2_serve_25 : decode cX2_serve 25 = .ok (.if_icmp .ge 58, 3) := by decide +kernel
theorem dX2_serve_28 : decode cX2_serve 28 = .ok (.aload_n 2, 1) := by decide +kernel
theorem dX2_serve_29 : decode cX2_serve 29 = .ok (.getfield 171, 3) := by decide +kernel
theorem dX2_serve_32 : decode cX2_serve 32 = .ok (.iconst 0, 1) := by decide +kernel
theorem dX2_serve_33 : decode cX2_serve 33 = .ok (.iaload, 1) := by decide +kernel
theorem dX2_serve_34 : decode cX2_serve 34 = .ok (.istore 5, 2) := by decide +kernel
theorem dX2_serve_36 : decode cX2_serve 36 = .ok (.aload_n 0, 1) := by decide +kernel
theorem dX2_serve_37 : decode cX2_serve 37 = .ok (.iload 5, 2) := by decide +kernel
theorem dX2_serve_39 : decode cX2_serve 39 = .ok (.invokevirtual 174, 3) := by decide +kernel
theorem dX2_serve_42 : decode cX2_serve 42 = .ok (.pop, 1) := by decide +kernel
theorem dX2_serve_43 : decode cX2_serve 43 = .ok (.aload_n 0, 1) := by decide +kernel
theorem dX2_serve_44 : decode cX2_serve 44 = .ok (.iload 5, 2) := by decide +kernel
theorem dX2_serve_46 : decode cX2_serve 46 = .ok (.invokevirtual 96, 3) := by decide +kernel
theorem dX2_serve_49 : decode cX2_serve 49 = .ok (.ifCond .eq 28, 3) := by decide +kernel
theorem dX2_serve_52 : decode cX2_serve 52 = .ok (.aload_n 0, 1) := by decide +kernel
theorem dX2_serve_53 : decode cX2_serve 53 = .ok (.getfield 25, 3) := by decide +kernel
theorem dX2_serve_56 : decode cX2_serve 56 = .ok (.iload 5, 2) := by decide +kernel
theorem dX2_serve_58 : decode cX2_serve 58 = .ok (.aaload, 1) := by decide +kernel
theorem dX2_serve_59 : decode cX2_serve 59 = .ok (.getfield 144, 3) := by decide +kernel
theorem dX2_serve_62 : decode cX2_serve 62 = .ok (.aload_n 0, 1) := by decide +kernel
theorem dX2_serve_63 : decode cX2_serve 63 = .ok (.iload_n 1, 1) := by decide +kernel
theorem dX2_serve_64 : decode cX2_serve 64 = .ok (.invokevirtual 154, 3) := by decide +kernel
theorem dX2_serve_67 : decode cX2_serve 67 = .ok (.if_icmp .lt 10, 3) := by decide +kernel
theorem dX2_serve_70 : decode cX2_serve 70 = .ok (.aload_n 0, 1) := by decide +kernel
theorem dX2_serve_71 : decode cX2_serve 71 = .ok (.iload 5, 2) := by decide +kernel
theorem dX2_serve_73 : decode cX2_serve 73 = .ok (.iload_n 1, 1) := by decide +kernel
theorem dX2_serve_74 : decode cX2_serve 74 = .ok (.invokevirtual 177, 3) := by decide +kernel
theorem dX2_serve_77 : decode cX2_serve 77 = .ok (.iinc 4 1, 3) := by decide +kernel
theorem dX2_serve_80 : decode cX2_serve 80 = .ok (.goto (-58), 3) := by decide +kernel
theorem dX2_serve_83 : decode cX2_serve 83 = .ok (.return_, 1) := by decide +kernel
theorem dX2_play_0 : decode cX2_play 0 = .ok (.aload_n 0, 1) := by decide +kernel
theorem dX2_play_1 : decode cX2_play 1 = .ok (.getfield 25, 3) := by decide +kernel
theorem dX2_play_4 : decode cX2_play 4 = .ok (.iload_n 1, 1) := by decide +kernel
theorem dX2_play_5 : decode cX2_play 5 = .ok (.aaload, 1) := by decide +kernel
theorem dX2_play_6 : decode cX2_play 6 = .ok (.astore_n 3, 1) := by decide +kernel
theorem dX2_play_7 : decode cX2_play 7 = .ok (.aload_n 0, 1) := by decide +kernel
theorem dX2_play_8 : decode cX2_play 8 = .ok (.getfield 11, 3) := by decide +kernel
theorem dX2_play_11 : decode cX2_play 11 = .ok (.iload_n 2, 1) := by decide +kernel
theorem dX2_play_12 : decode cX2_play 12 = .ok (.aaload, 1) := by decide +kernel
theorem dX2_play_13 : decode cX2_play 13 = .ok (.astore 4, 2) := by decide +kernel
theorem dX2_play_15 : decode cX2_play 15 = .ok (.aload_n 0, 1) := by decide +kernel
theorem dX2_play_16 : decode cX2_play 16 = .ok (.iload_n 2, 1) := by decide +kernel
theorem dX2_play_17 : decode cX2_play 17 = .ok (.invokevirtual 154, 3) := by decide +kernel
theorem dX2_play_20 : decode cX2_play 20 = .ok (.istore 5, 2) := by decide +kernel
theorem dX2_play_22 : decode cX2_play 22 = .ok (.aload_n 3, 1) := by decide +kernel
theorem dX2_play_23 : decode cX2_play 23 = .ok (.dup, 1) := by decide +kernel
theorem dX2_play_24 : decode cX2_play 24 = .ok (.getfield 144, 3) := by decide +kernel
theorem dX2_play_27 : decode cX2_play 27 = .ok (.iload 5, 2) := by decide +kernel
theorem dX2_play_29 : decode cX2_play 29 = .ok (.isub, 1) := by decide +kernel
theorem dX2_play_30 : decode cX2_play 30 = .ok (.putfield 144, 3) := by decide +kernel
theorem dX2_play_33 : decode cX2_play 33 = .ok (.aload 4, 2) := by decide +kernel
theorem dX2_play_35 : decode cX2_play 35 = .ok (.dup, 1) := by decide +kernel
theorem dX2_play_36 : decode cX2_play 36 = .ok (.getfield 180, 3) := by decide +kernel
theorem dX2_play_39 : decode cX2_play 39 = .ok (.iload 5, 2) := by decide +kernel
theorem dX2_play_41 : decode cX2_play 41 = .ok (.iadd, 1) := by decide +kernel
theorem dX2_play_42 : decode cX2_play 42 = .ok (.putfield 180, 3) := by decide +kernel
theorem dX2_play_45 : decode cX2_play 45 = .ok (.aload_n 0, 1) := by decide +kernel
theorem dX2_play_46 : decode cX2_play 46 = .ok (.aload_n 3, 1) := by decide +kernel
theorem dX2_play_47 : decode cX2_play 47 = .ok (.iload_n 2, 1) := by decide +kernel
theorem dX2_play_48 : decode cX2_play 48 = .ok (.invokevirtual 183, 3) := by decide +kernel
theorem dX2_play_51 : decode cX2_play 51 = .ok (.istore 6, 2) := by decide +kernel
theorem dX2_play_53 : decode cX2_play 53 = .ok (.aload_n 0, 1) := by decide +kernel
theorem dX2_play_54 : decode cX2_play 54 = .ok (.getfield 32, 3) := by decide +kernel
theorem dX2_play_57 : decode cX2_play 57 = .ok (.iload_n 1, 1) := by decide +kernel
theorem dX2_play_58 : decode cX2_play 58 = .ok (.iload_n 2, 1) := by decide +kernel
theorem dX2_play_59 : decode cX2_play 59 = .ok (.iload 6, 2) := by decide +kernel
theorem dX2_play_61 : decode cX2_play 61 = .ok (.invokevirtual 187, 3) := by decide +kernel
theorem dX2_play_64 : decode cX2_play 64 = .ok (.aload_n 3, 1) := by decide +kernel
theorem dX2_play_65 : decode cX2_play 65 = .ok (.getfield 161, 3) := by decide +kernel
theorem dX2_play_68 : decode cX2_play 68 = .ok (.iload_n 2, 1) := by decide +kernel
theorem dX2_play_69 : decode cX2_play 69 = .ok (.aload_n 3, 1) := by decide +kernel
theorem dX2_play_70 : decode cX2_play 70 = .ok (.getfield 161, 3) := by decide +kernel
theorem dX2_play_73 : decode cX2_play 73 = .ok (.iload_n 2, 1) := by decide +kernel
theorem dX2_play_74 : decode cX2_play 74 = .ok (.iaload, 1) := by decide +kernel
theorem dX2_play_75 : decode cX2_play 75 = .ok (.iconst 1, 1) := by decide +kernel
theorem dX2_play_76 : decode cX2_play 76 = .ok (.iadd, 1) := by decide +kernel
theorem dX2_play_77 : decode cX2_play 77 = .ok (.bipush 9, 2) := by decide +kernel
theorem dX2_play_79 : decode cX2_play 79 = .ok (.invokestatic 165, 3) := by decide +kernel
theorem dX2_play_82 : decode cX2_play 82 = .ok (.iastore, 1) := by decide +kernel
theorem dX2_play_83 : decode cX2_play 83 = .ok (.aload_n 3, 1) := by decide +kernel
theorem dX2_play_84 : decode cX2_play 84 = .ok (.dup, 1) := by decide +kernel
theorem dX2_play_85 : decode cX2_play 85 = .ok (.getfield 191, 3) := by decide +kernel
theorem dX2_play_88 : decode cX2_play 88 = .ok (.iconst 1, 1) := by decide +kernel
theorem dX2_play_89 : decode cX2_play 89 = .ok (.iadd, 1) := by decide +kernel
theorem dX2_play_90 : decode cX2_play 90 = .ok (.putfield 191, 3) := by decide +kernel
theorem dX2_play_93 : decode cX2_play 93 = .ok (.aload 4, 2) := by decide +kernel
theorem dX2_play_95 : decode cX2_play 95 = .ok (.dup, 1) := by decide +kernel
theorem dX2_play_96 : decode cX2_play 96 = .ok (.getfield 194, 3) := by decide +kernel
theorem dX2_play_99 : decode cX2_play 99 = .ok (.iconst 1, 1) := by decide +kernel
theorem dX2_play_100 : decode cX2_play 100 = .ok (.iadd, 1) := by decide +kernel
theorem dX2_play_101 : decode cX2_play 101 = .ok (.putfield 194, 3) := by decide +kernel
theorem dX2_play_104 : decode cX2_play 104 = .ok (.aload_n 3, 1) := by decide +kernel
theorem dX2_play_105 : decode cX2_play 105 = .ok (.aload_n 3, 1) := by decide +kernel
theorem dX2_play_106 : decode cX2_play 106 = .ok (.getfield 195, 3) := by decide +kernel
theorem dX2_play_109 : decode cX2_play 109 = .ok (.iload 6, 2) := by decide +kernel
theorem dX2_play_111 : decode cX2_play 111 = .ok (.invokestatic 198, 3) := by decide +kernel
theorem dX2_play_114 : decode cX2_play 114 = .ok (.putfield 195, 3) := by decide +kernel
theorem dX2_play_117 : decode cX2_play 117 = .ok (.iload 6, 2) := by decide +kernel
theorem dX2_play_119 : decode cX2_play 119 = .ok (.aload 4, 2) := by decide +kernel
theorem dX2_play_121 : decode cX2_play 121 = .ok (.getfield 201, 3) := by decide +kernel
theorem dX2_play_124 : decode cX2_play 124 = .ok (.if_icmp .lt 42, 3) := by decide +kernel
theorem dX2_play_127 : decode cX2_play 127 = .ok (.aload 4, 2) := by decide +kernel
theorem dX2_play_129 : decode cX2_play 129 = .ok (.getfield 151, 3) := by decide +kernel
theorem dX2_play_132 : decode cX2_play 132 = .ok (.ifCond .le 34, 3) := by decide +kernel
theorem dX2_play_135 : decode cX2_play 135 = .ok (.aload 4, 2) := by decide +kernel
theorem dX2_play_137 : decode cX2_play 137 = .ok (.dup, 1) := by decide +kernel
theorem dX2_play_138 : decode cX2_play 138 = .ok (.getfield 151, 3) := by decide +kernel
theorem dX2_play_141 : decode cX2_play 141 = .ok (.iconst 1, 1) := by decide +kernel
theorem dX2_play_142 : decode cX2_play 142 = .ok (.isub, 1) := by decide +kernel
theorem dX2_play_143 : decode cX2_play 143 = .ok (.putfield 151, 3) := by decide +kernel
theorem dX2_play_146 : decode cX2_play 146 = .ok (.aload_n 3, 1) := by decide +kernel
theorem dX2_play_147 : decode cX2_play 147 = .ok (.dup, 1) := by decide +kernel
theorem dX2_play_148 : decode cX2_play 148 = .ok (.getfield 204, 3) := by decide +kernel
theorem dX2_play_151 : decode cX2_play 151 = .ok (.iconst 1, 1) := by decide +kernel
theorem dX2_play_152 : decode cX2_play 152 = .ok (.iadd, 1) := by decide +kernel
theorem dX2_play_153 : decode cX2_play 153 = .ok (.putfield 204, 3) := by decide +kernel
theorem dX2_play_156 : decode cX2_play 156 = .ok (.aload_n 0, 1) := by decide +kernel
theorem dX2_play_157 : decode cX2_play 157 = .ok (.dup, 1) := by decide +kernel
theorem dX2_play_158 : decode cX2_play 158 = .ok (.getfield 58, 3) := by decide +kernel
theorem dX2_play_161 : decode cX2_play 161 = .ok (.iconst 1, 1) := by decide +kernel
theorem dX2_play_162 : decode cX2_play 162 = .ok (.iadd, 1) := by decide +kernel
theorem dX2_play_163 : decode cX2_play 163 = .ok (.putfield 58, 3) := by decide +kernel
theorem dX2_play_166 : decode cX2_play 166 = .ok (.return_, 1) := by decide +kernel
theorem dX2_pointsOf_0 : decode cX2_pointsOf 0 = .ok (.aload_n 0, 1) := by decide +kernel
theorem dX2_pointsOf_1 : decode cX2_pointsOf 1 = .ok (.getfield 11, 3) := by decide +kernel
theorem dX2_pointsOf_4 : decode cX2_pointsOf 4 = .ok (.iload_n 2, 1) := by decide +kernel
theorem dX2_pointsOf_5 : decode cX2_pointsOf 5 = .ok (.aaload, 1) := by decide +kernel
theorem dX2_pointsOf_6 : decode cX2_pointsOf 6 = .ok (.astore_n 3, 1) := by decide +kernel
theorem dX2_pointsOf_7 : decode cX2_pointsOf 7 = .ok (.aload_n 1, 1) := by decide +kernel
theorem dX2_pointsOf_8 : decode cX2_pointsOf 8 = .ok (.getfield 205, 3) := by decide +kernel
theorem dX2_pointsOf_11 : decode cX2_pointsOf 11 = .ok (.iconst 3, 1) := by decide +kernel
theorem dX2_pointsOf_12 : decode cX2_pointsOf 12 = .ok (.aload_n 1, 1) := by decide +kernel
theorem dX2_pointsOf_13 : decode cX2_pointsOf 13 = .ok (.getfield 161, 3) := by decide +kernel
theorem dX2_pointsOf_16 : decode cX2_pointsOf 16 = .ok (.iload_n 2, 1) := by decide +kernel
theorem dX2_pointsOf_17 : decode cX2_pointsOf 17 = .ok (.iaload, 1) := by decide +kernel
theorem dX2_pointsOf_18 : decode cX2_pointsOf 18 = .ok (.imul, 1) := by decide +kernel
theorem dX2_pointsOf_19 : decode cX2_pointsOf 19 = .ok (.iadd, 1) := by decide +kernel
theorem dX2_pointsOf_20 : decode cX2_pointsOf 20 = .ok (.iconst 5, 1) := by decide +kernel
theorem dX2_pointsOf_21 : decode cX2_pointsOf 21 = .ok (.aload_n 3, 1) := by decide +kernel
theorem dX2_pointsOf_22 : decode cX2_pointsOf 22 = .ok (.getfield 93, 3) := by decide +kernel
theorem dX2_pointsOf_25 : decode cX2_pointsOf 25 = .ok (.aload_n 3, 1) := by decide +kernel
theorem dX2_pointsOf_26 : decode cX2_pointsOf 26 = .ok (.getfield 208, 3) := by decide +kernel
theorem dX2_pointsOf_29 : decode cX2_pointsOf 29 = .ok (.isub, 1) := by decide +kernel
theorem dX2_pointsOf_30 : decode cX2_pointsOf 30 = .ok (.imul, 1) := by decide +kernel
theorem dX2_pointsOf_31 : decode cX2_pointsOf 31 = .ok (.iadd, 1) := by decide +kernel
theorem dX2_pointsOf_32 : decode cX2_pointsOf 32 = .ok (.istore 4, 2) := by decide +kernel
theorem dX2_pointsOf_34 : decode cX2_pointsOf 34 = .ok (.iload_n 2, 1) := by decide +kernel
theorem dX2_pointsOf_35 : decode cX2_pointsOf 35 = .ok (.aload_n 0, 1) := by decide +kernel
theorem dX2_pointsOf_36 : decode cX2_pointsOf 36 = .ok (.getfield 40, 3) := by decide +kernel
theorem dX2_pointsOf_39 : decode cX2_pointsOf 39 = .ok (.if_icmp .ne 10, 3) := by decide +kernel
theorem dX2_pointsOf_42 : decode cX2_pointsOf 42 = .ok (.iconst 2, 1) := by decide +kernel
theorem dX2_pointsOf_43 : decode cX2_pointsOf 43 = .ok (.iload 4, 2) := by decide +kernel
theorem dX2_pointsOf_45 : decode cX2_pointsOf 45 = .ok (.imul, 1) := by decide +kernel
theorem dX2_pointsOf_46 : decode cX2_pointsOf 46 = .ok (.goto 5, 3) := by decide +kernel
theorem dX2_pointsOf_49 : decode cX2_pointsOf 49 = .ok (.iload 4, 2) := by decide +kernel
theorem dX2_pointsOf_51 : decode cX2_pointsOf 51 = .ok (.ireturn, 1) := by decide +kernel
theorem dX2_tireOrRest_0 : decode cX2_tireOrRest 0 = .ok (.aload_n 0, 1) := by decide +kernel
theorem dX2_tireOrRest_1 : decode cX2_tireOrRest 1 = .ok (.getfield 19, 3) := by decide +kernel
theorem dX2_tireOrRest_4 : decode cX2_tireOrRest 4 = .ok (.iload_n 1, 1) := by decide +kernel
theorem dX2_tireOrRest_5 : decode cX2_tireOrRest 5 = .ok (.aaload, 1) := by decide +kernel
theorem dX2_tireOrRest_6 : decode cX2_tireOrRest 6 = .ok (.astore_n 2, 1) := by decide +kernel
theorem dX2_tireOrRest_7 : decode cX2_tireOrRest 7 = .ok (.aload_n 2, 1) := by decide +kernel
theorem dX2_tireOrRest_8 : decode cX2_tireOrRest 8 = .ok (.getfield 87, 3) := by decide +kernel
theorem dX2_tireOrRest_11 : decode cX2_tireOrRest 11 = .ok (.iconst (-1), 1) := by decide +kernel
theorem dX2_tireOrRest_12 : decode cX2_tireOrRest 12 = .ok (.if_icmp .eq 37, 3) := by decide +kernel
theorem dX2_tireOrRest_15 : decode cX2_tireOrRest 15 = .ok (.aload_n 2, 1) := by decide +kernel
theorem dX2_tireOrRest_16 : decode cX2_tireOrRest 16 = .ok (.dup, 1) := by decide +kernel
theorem dX2_tireOrRest_17 : decode cX2_tireOrRest 17 = .ok (.getfield 211, 3) := by decide +kernel
theorem dX2_tireOrRest_20 : decode cX2_tireOrRest 20 = .ok (.iconst 1, 1) := by decide +kernel
theorem dX2_tireOrRest_21 : decode cX2_tireOrRest 21 = .ok (.iadd, 1) := by decide +kernel
theorem dX2_tireOrRest_22 : decode cX2_tireOrRest 22 = .ok (.putfield 211, 3) := by decide +kernel
theorem dX2_tireOrRest_25 : decode cX2_tireOrRest 25 = .ok (.aload_n 2, 1) := by decide +kernel
theorem dX2_tireOrRest_26 : decode cX2_tireOrRest 26 = .ok (.dup, 1) := by decide +kernel
theorem dX2_tireOrRest_27 : decode cX2_tireOrRest 27 = .ok (.getfield 214, 3) := by decide +kernel
theorem dX2_tireOrRest_30 : decode cX2_tireOrRest 30 = .ok (.iconst 1, 1) := by decide +kernel
theorem dX2_tireOrRest_31 : decode cX2_tireOrRest 31 = .ok (.isub, 1) := by decide +kernel
theorem dX2_tireOrRest_32 : decode cX2_tireOrRest 32 = .ok (.putfield 214, 3) := by decide +kernel
theorem dX2_tireOrRest_35 : decode cX2_tireOrRest 35 = .ok (.aload_n 2, 1) := by decide +kernel
theorem dX2_tireOrRest_36 : decode cX2_tireOrRest 36 = .ok (.getfield 214, 3) := by decide +kernel
theorem dX2_tireOrRest_39 : decode cX2_tireOrRest 39 = .ok (.ifCond .le 4, 3) := by decide +kernel
theorem dX2_tireOrRest_42 : decode cX2_tireOrRest 42 = .ok (.return_, 1) := by decide +kernel
theorem dX2_tireOrRest_43 : decode cX2_tireOrRest 43 = .ok (.aload_n 0, 1) := by decide +kernel
theorem dX2_tireOrRest_44 : decode cX2_tireOrRest 44 = .ok (.iload_n 1, 1) := by decide +kernel
theorem dX2_tireOrRest_45 : decode cX2_tireOrRest 45 = .ok (.iconst (-1), 1) := by decide +kernel
theorem dX2_tireOrRest_46 : decode cX2_tireOrRest 46 = .ok (.invokevirtual 217, 3) := by decide +kernel
theorem dX2_tireOrRest_49 : decode cX2_tireOrRest 49 = .ok (.aload_n 2, 1) := by decide +kernel
theorem dX2_tireOrRest_50 : decode cX2_tireOrRest 50 = .ok (.invokevirtual 220, 3) := by decide +kernel
theorem dX2_tireOrRest_53 : decode cX2_tireOrRest 53 = .ok (.return_, 1) := by decide +kernel
theorem dX2_endHour_0 : decode cX2_endHour 0 = .ok (.iconst 0, 1) := by decide +kernel
theorem dX2_endHour_1 : decode cX2_endHour 1 = .ok (.istore_n 1, 1) := by decide +kernel
theorem dX2_endHour_2 : decode cX2_endHour 2 = .ok (.iload_n 1, 1) := by decide +kernel
theorem dX2_endHour_3 : decode cX2_endHour 3 = .ok (.aload_n 0, 1) := by decide +kernel
theorem dX2_endHour_4 : decode cX2_endHour 4 = .ok (.getfield 32, 3) := by decide +kernel
theorem dX2_endHour_7 : decode cX2_endHour 7 = .ok (.getfield 223, 3) := by decide +kernel
theorem dX2_endHour_10 : decode cX2_endHour 10 = .ok (.if_icmp .ge 19, 3) := by decide +kernel
theorem dX2_endHour_13 : decode cX2_endHour 13 = .ok (.iload_n 1, 1) := by decide +kernel
theorem dX2_endHour_14 : decode cX2_endHour 14 = .ok (.iconst 3, 1) := by decide +kernel
theorem dX2_endHour_15 : decode cX2_endHour 15 = .ok (.if_icmp .ge 14, 3) := by decide +kernel
theorem dX2_endHour_18 : decode cX2_endHour 18 = .ok (.aload_n 0, 1) := by decide +kernel
theorem dX2_endHour_19 : decode cX2_endHour 19 = .ok (.iload_n 1, 1) := by decide +kernel
theorem dX2_endHour_20 : decode cX2_endHour 20 = .ok (.invokevirtual 226, 3) := by decide +kernel
theorem dX2_endHour_23 : decode cX2_endHour 23 = .ok (.iinc 1 1, 3) := by decide +kernel
theorem dX2_endHour_26 : decode cX2_endHour 26 = .ok (.goto (-24), 3) := by decide +kernel
theorem dX2_endHour_29 : decode cX2_endHour 29 = .ok (.aload_n 0, 1) := by decide +kernel
theorem dX2_endHour_30 : decode cX2_endHour 30 = .ok (.getfield 32, 3) := by decide +kernel
theorem dX2_endHour_33 : decode cX2_endHour 33 = .ok (.iconst 0, 1) := by decide +kernel
theorem dX2_endHour_34 : decode cX2_endHour 34 = .ok (.putfield 223, 3) := by decide +kernel
theorem dX2_endHour_37 : decode cX2_endHour 37 = .ok (.iconst 0, 1) := by decide +kernel
theorem dX2_endHour_38 : decode cX2_endHour 38 = .ok (.istore_n 1, 1) := by decide +kernel
theorem dX2_endHour_39 : decode cX2_endHour 39 = .ok (.iload_n 1, 1) := by decide +kernel
theorem dX2_endHour_40 : decode cX2_endHour 40 = .ok (.aload_n 0, 1) := by decide +kernel
theorem dX2_endHour_41 : decode cX2_endHour 41 = .ok (.getfield 52, 3) := by decide +kernel
theorem dX2_endHour_44 : decode cX2_endHour 44 = .ok (.if_icmp .ge 45, 3) := by decide +kernel
theorem dX2_endHour_47 : decode cX2_endHour 47 = .ok (.aload_n 0, 1) := by decide +kernel
theorem dX2_endHour_48 : decode cX2_endHour 48 = .ok (.getfield 25, 3) := by decide +kernel
theorem dX2_endHour_51 : decode cX2_endHour 51 = .ok (.iload_n 1, 1) := by decide +kernel
theorem dX2_endHour_52 : decode cX2_endHour 52 = .ok (.aaload, 1) := by decide +kernel
theorem dX2_endHour_53 : decode cX2_endHour 53 = .ok (.getfield 99, 3) := by decide +kernel
theorem dX2_endHour_56 : decode cX2_endHour 56 = .ok (.istore_n 2, 1) := by decide +kernel
theorem dX2_endHour_57 : decode cX2_endHour 57 = .ok (.aload_n 0, 1) := by decide +kernel
theorem dX2_endHour_58 : decode cX2_endHour 58 = .ok (.iload_n 2, 1) := by decide +kernel
theorem dX2_endHour_59 : decode cX2_endHour 59 = .ok (.invokevirtual 90, 3) := by decide +kernel
theorem dX2_endHour_62 : decode cX2_endHour 62 = .ok (.ifCond .eq 21, 3) := by decide +kernel
theorem dX2_endHour_65 : decode cX2_endHour 65 = .ok (.aload_n 0, 1) := by decide +kernel
theorem dX2_endHour_66 : decode cX2_endHour 66 = .ok (.getfield 11, 3) := by decide +kernel
theorem dX2_endHour_69 : decode cX2_endHour 69 = .ok (.iload_n 2, 1) := by decide +kernel
theorem dX2_endHour_70 : decode cX2_endHour 70 = .ok (.aaload, 1) := by decide +kernel
theorem dX2_endHour_71 : decode cX2_endHour 71 = .ok (.invokevirtual 120, 3) := by decide +kernel
theorem dX2_endHour_74 : decode cX2_endHour 74 = .ok (.ifCond .ne 9, 3) := by decide +kernel
theorem dX2_endHour_77 : decode cX2_endHour 77 = .ok (.aload_n 0, 1) := by decide +kernel
theorem dX2_endHour_78 : decode cX2_endHour 78 = .ok (.iload_n 1, 1) := by decide +kernel
theorem dX2_endHour_79 : decode cX2_endHour 79 = .ok (.invokevirtual 174, 3) := by decide +kernel
theorem dX2_endHour_82 : decode cX2_endHour 82 = .ok (.pop, 1) := by decide +kernel
theorem dX2_endHour_83 : decode cX2_endHour 83 = .ok (.iinc 1 1, 3) := by decide +kernel
theorem dX2_endHour_86 : decode cX2_endHour 86 = .ok (.goto (-47), 3) := by decide +kernel
theorem dX2_endHour_89 : decode cX2_endHour 89 = .ok (.return_, 1) := by decide +kernel
theorem dX2_rewardLine_0 : decode cX2_rewardLine 0 = .ok (.aload_n 0, 1) := by decide +kernel
theorem dX2_rewardLine_1 : decode cX2_rewardLine 1 = .ok (.getfield 32, 3) := by decide +kernel
theorem dX2_rewardLine_4 : decode cX2_rewardLine 4 = .ok (.getfield 229, 3) := by decide +kernel
theorem dX2_rewardLine_7 : decode cX2_rewardLine 7 = .ok (.iload_n 1, 1) := by decide +kernel
theorem dX2_rewardLine_8 : decode cX2_rewardLine 8 = .ok (.iaload, 1) := by decide +kernel
theorem dX2_rewardLine_9 : decode cX2_rewardLine 9 = .ok (.istore_n 2, 1) := by decide +kernel
theorem dX2_rewardLine_10 : decode cX2_rewardLine 10 = .ok (.aload_n 0, 1) := by decide +kernel
theorem dX2_rewardLine_11 : decode cX2_rewardLine 11 = .ok (.iload_n 2, 1) := by decide +kernel
theorem dX2_rewardLine_12 : decode cX2_rewardLine 12 = .ok (.invokevirtual 96, 3) := by decide +kernel
theorem dX2_rewardLine_15 : decode cX2_rewardLine 15 = .ok (.ifCond .ne 4, 3) := by decide +kernel
theorem dX2_rewardLine_18 : decode cX2_rewardLine 18 = .ok (.return_, 1) := by decide +kernel
theorem dX2_rewardLine_19 : decode cX2_rewardLine 19 = .ok (.aload_n 0, 1) := by decide +kernel
theorem dX2_rewardLine_20 : decode cX2_rewardLine 20 = .ok (.getfield 25, 3) := by decide +kernel
theorem dX2_rewardLine_23 : decode cX2_rewardLine 23 = .ok (.iload_n 2, 1) := by decide +kernel
theorem dX2_rewardLine_24 : decode cX2_rewardLine 24 = .ok (.aaload, 1) := by decide +kernel
theorem dX2_rewardLine_25 : decode cX2_rewardLine 25 = .ok (.dup, 1) := by decide +kernel
theorem dX2_rewardLine_26 : decode cX2_rewardLine 26 = .ok (.getfield 231, 3) := by decide +kernel
theorem dX2_rewardLine_29 : decode cX2_rewardLine 29 = .ok (.iconst 3, 1) := by decide +kernel
theorem dX2_rewardLine_30 : decode cX2_rewardLine 30 = .ok (.iload_n 1, 1) := by decide +kernel
theorem dX2_rewardLine_31 : decode cX2_rewardLine 31 = .ok (.isub, 1) := by decide +kernel
theorem dX2_rewardLine_32 : decode cX2_rewardLine 32 = .ok (.iadd, 1) := by decide +kernel
theorem dX2_rewardLine_33 : decode cX2_rewardLine 33 = .ok (.putfield 231, 3) := by decide +kernel
theorem dX2_rewardLine_36 : decode cX2_rewardLine 36 = .ok (.iload_n 1, 1) := by decide +kernel
theorem dX2_rewardLine_37 : decode cX2_rewardLine 37 = .ok (.ifCond .ne 18, 3) := by decide +kernel
theorem dX2_rewardLine_40 : decode cX2_rewardLine 40 = .ok (.aload_n 0, 1) := by decide +kernel
theorem dX2_rewardLine_41 : decode cX2_rewardLine 41 = .ok (.getfield 25, 3) := by decide +kernel
theorem dX2_rewardLine_44 : decode cX2_rewardLine 44 = .ok (.iload_n 2, 1) := by decide +kernel
theorem dX2_rewardLine_45 : decode cX2_rewardLine 45 = .ok (.aaload, 1) := by decide +kernel
theorem dX2_rewardLine_46 : decode cX2_rewardLine 46 = .ok (.dup, 1) := by decide +kernel
theorem dX2_rewardLine_47 : decode cX2_rewardLine 47 = .ok (.getfield 144, 3) := by decide +kernel
theorem dX2_rewardLine_50 : decode cX2_rewardLine 50 = .ok (.iconst 5, 1) := by decide +kernel
theorem dX2_rewardLine_51 : decode cX2_rewardLine 51 = .ok (.iadd, 1) := by decide +kernel
theorem dX2_rewardLine_52 : decode cX2_rewardLine 52 = .ok (.putfield 144, 3) := by decide +kernel
theorem dX2_rewardLine_55 : decode cX2_rewardLine 55 = .ok (.return_, 1) := by decide +kernel
theorem dX2_allPlays_0 : decode cX2_allPlays 0 = .ok (.iconst 0, 1) := by decide +kernel
theorem dX2_allPlays_1 : decode cX2_allPlays 1 = .ok (.istore_n 1, 1) := by decide +kernel
theorem dX2_allPlays_2 : decode cX2_allPlays 2 = .ok (.iconst 0, 1) := by decide +kernel
theorem dX2_allPlays_3 : decode cX2_allPlays 3 = .ok (.istore_n 2, 1) := by decide +kernel
theorem dX2_allPlays_4 : decode cX2_allPlays 4 = .ok (.iload_n 2, 1) := by decide +kernel
theorem dX2_allPlays_5 : decode cX2_allPlays 5 = .ok (.aload_n 0, 1) := by decide +kernel
theorem dX2_allPlays_6 : decode cX2_allPlays 6 = .ok (.getfield 46, 3) := by decide +kernel
theorem dX2_allPlays_9 : decode cX2_allPlays 9 = .ok (.if_icmp .ge 21, 3) := by decide +kernel
theorem dX2_allPlays_12 : decode cX2_allPlays 12 = .ok (.iload_n 1, 1) := by decide +kernel
theorem dX2_allPlays_13 : decode cX2_allPlays 13 = .ok (.aload_n 0, 1) := by decide +kernel
theorem dX2_allPlays_14 : decode cX2_allPlays 14 = .ok (.getfield 11, 3) := by decide +kernel
theorem dX2_allPlays_17 : decode cX2_allPlays 17 = .ok (.iload_n 2, 1) := by decide +kernel
theorem dX2_allPlays_18 : decode cX2_allPlays 18 = .ok (.aaload, 1) := by decide +kernel
theorem dX2_allPlays_19 : decode cX2_allPlays 19 = .ok (.getfield 194, 3) := by decide +kernel
theorem dX2_allPlays_22 : decode cX2_allPlays 22 = .ok (.iadd, 1) := by decide +kernel
theorem dX2_allPlays_23 : decode cX2_allPlays 23 = .ok (.istore_n 1, 1) := by decide +kernel
theorem dX2_allPlays_24 : decode cX2_allPlays 24 = .ok (.iinc 2 1, 3) := by decide +kernel
theorem dX2_allPlays_27 : decode cX2_allPlays 27 = .ok (.goto (-23), 3) := by decide +kernel
theorem dX2_allPlays_30 : decode cX2_allPlays 30 = .ok (.iload_n 1, 1) := by decide +kernel
theorem dX2_allPlays_31 : decode cX2_allPlays 31 = .ok (.ireturn, 1) := by decide +kernel
theorem dX2_boothFact_0 : decode cX2_boothFact 0 = .ok (.aload_n 0, 1) := by decide +kernel
theorem dX2_boothFact_1 : decode cX2_boothFact 1 = .ok (.getfield 11, 3) := by decide +kernel
theorem dX2_boothFact_4 : decode cX2_boothFact 4 = .ok (.iload_n 1, 1) := by decide +kernel
theorem dX2_boothFact_5 : decode cX2_boothFact 5 = .ok (.aaload, 1) := by decide +kernel
theorem dX2_boothFact_6 : decode cX2_boothFact 6 = .ok (.astore_n 3, 1) := by decide +kernel
theorem dX2_boothFact_7 : decode cX2_boothFact 7 = .ok (.iload_n 2, 1) := by decide +kernel
theorem dX2_boothFact_8 : decode cX2_boothFact 8 = .ok (.tableswitch 115 0 8 #[52, 58, 63, 68, 73, 78, 91, 105, 110], 52) := by decide +kernel
theorem dX2_boothFact_60 : decode cX2_boothFact 60 = .ok (.aload_n 0, 1) := by decide +kernel
theorem dX2_boothFact_61 : decode cX2_boothFact 61 = .ok (.iload_n 1, 1) := by decide +kernel
theorem dX2_boothFact_62 : decode cX2_boothFact 62 = .ok (.invokevirtual 154, 3) := by decide +kernel
theorem dX2_boothFact_65 : decode cX2_boothFact 65 = .ok (.ireturn, 1) := by decide +kernel
theorem dX2_boothFact_66 : decode cX2_boothFact 66 = .ok (.aload_n 3, 1) := by decide +kernel
theorem dX2_boothFact_67 : decode cX2_boothFact 67 = .ok (.getfield 201, 3) := by decide +kernel
theorem dX2_boothFact_70 : decode cX2_boothFact 70 = .ok (.ireturn, 1) := by decide +kernel
theorem dX2_boothFact_71 : decode cX2_boothFact 71 = .ok (.aload_n 3, 1) := by decide +kernel
theorem dX2_boothFact_72 : decode cX2_boothFact 72 = .ok (.getfield 151, 3) := by decide +kernel
theorem dX2_boothFact_75 : decode cX2_boothFact 75 = .ok (.ireturn, 1) := by decide +kernel
theorem dX2_boothFact_76 : decode cX2_boothFact 76 = .ok (.aload_n 3, 1) := by decide +kernel
theorem dX2_boothFact_77 : decode cX2_boothFact 77 = .ok (.getfield 208, 3) := by decide +kernel
theorem dX2_boothFact_80 : decode cX2_boothFact 80 = .ok (.ireturn, 1) := by decide +kernel
theorem dX2_boothFact_81 : decode cX2_boothFact 81 = .ok (.aload_n 3, 1) := by decide +kernel
theorem dX2_boothFact_82 : decode cX2_boothFact 82 = .ok (.getfield 93, 3) := by decide +kernel
theorem dX2_boothFact_85 : decode cX2_boothFact 85 = .ok (.ireturn, 1) := by decide +kernel
theorem dX2_boothFact_86 : decode cX2_boothFact 86 = .ok (.aload_n 3, 1) := by decide +kernel
theorem dX2_boothFact_87 : decode cX2_boothFact 87 = .ok (.invokevirtual 120, 3) := by decide +kernel
theorem dX2_boothFact_90 : decode cX2_boothFact 90 = .ok (.ifCond .eq 7, 3) := by decide +kernel
theorem dX2_boothFact_93 : decode cX2_boothFact 93 = .ok (.iconst 1, 1) := by decide +kernel
theorem dX2_boothFact_94 : decode cX2_boothFact 94 = .ok (.goto 4, 3) := by decide +kernel
theorem dX2_boothFact_97 : decode cX2_boothFact 97 = .ok (.iconst 0, 1) := by decide +kernel
theorem dX2_boothFact_98 : decode cX2_boothFact 98 = .ok (.ireturn, 1) := by decide +kernel
theorem dX2_boothFact_99 : decode cX2_boothFact 99 = .ok (.iload_n 1, 1) := by decide +kernel
theorem dX2_boothFact_100 : decode cX2_boothFact 100 = .ok (.aload_n 0, 1) := by decide +kernel
theorem dX2_boothFact_101 : decode cX2_boothFact 101 = .ok (.getfield 40, 3) := by decide +kernel
theorem dX2_boothFact_104 : decode cX2_boothFact 104 = .ok (.if_icmp .ne 7, 3) := by decide +kernel
theorem dX2_boothFact_107 : decode cX2_boothFact 107 = .ok (.iconst 1, 1) := by decide +kernel
theorem dX2_boothFact_108 : decode cX2_boothFact 108 = .ok (.goto 4, 3) := by decide +kernel
theorem dX2_boothFact_111 : decode cX2_boothFact 111 = .ok (.iconst 0, 1) := by decide +kernel
theorem dX2_boothFact_112 : decode cX2_boothFact 112 = .ok (.ireturn, 1) := by decide +kernel
theorem dX2_boothFact_113 : decode cX2_boothFact 113 = .ok (.aload_n 3, 1) := by decide +kernel
theorem dX2_boothFact_114 : decode cX2_boothFact 114 = .ok (.getfield 158, 3) := by decide +kernel
theorem dX2_boothFact_117 : decode cX2_boothFact 117 = .ok (.ireturn, 1) := by decide +kernel
theorem dX2_boothFact_118 : decode cX2_boothFact 118 = .ok (.aload_n 3, 1) := by decide +kernel
theorem dX2_boothFact_119 : decode cX2_boothFact 119 = .ok (.getfield 194, 3) := by decide +kernel
theorem dX2_boothFact_122 : decode cX2_boothFact 122 = .ok (.ireturn, 1) := by decide +kernel
theorem dX2_boothFact_123 : decode cX2_boothFact 123 = .ok (.aload_n 3, 1) := by decide +kernel
theorem dX2_boothFact_124 : decode cX2_boothFact 124 = .ok (.getfield 180, 3) := by decide +kernel
theorem dX2_boothFact_127 : decode cX2_boothFact 127 = .ok (.ireturn, 1) := by decide +kernel
theorem dX2_total_0 : decode cX2_total 0 = .ok (.iload_n 1, 1) := by decide +kernel
theorem dX2_total_1 : decode cX2_total 1 = .ok (.tableswitch 110 0 9 #[55, 60, 65, 70, 75, 80, 86, 92, 97, 102], 55) := by decide +kernel
theorem dX2_total_56 : decode cX2_total 56 = .ok (.aload_n 0, 1) := by decide +kernel
theorem dX2_total_57 : decode cX2_total 57 = .ok (.getfield 55, 3) := by decide +kernel
theorem dX2_total_60 : decode cX2_total 60 = .ok (.ireturn, 1) := by decide +kernel
theorem dX2_total_61 : decode cX2_total 61 = .ok (.aload_n 0, 1) := by decide +kernel
theorem dX2_total_62 : decode cX2_total 62 = .ok (.getfield 46, 3) := by decide +kernel
theorem dX2_total_65 : decode cX2_total 65 = .ok (.ireturn, 1) := by decide +kernel
theorem dX2_total_66 : decode cX2_total 66 = .ok (.aload_n 0, 1) := by decide +kernel
theorem dX2_total_67 : decode cX2_total 67 = .ok (.getfield 49, 3) := by decide +kernel
theorem dX2_total_70 : decode cX2_total 70 = .ok (.ireturn, 1) := by decide +kernel
theorem dX2_total_71 : decode cX2_total 71 = .ok (.aload_n 0, 1) := by decide +kernel
theorem dX2_total_72 : decode cX2_total 72 = .ok (.getfield 52, 3) := by decide +kernel
theorem dX2_total_75 : decode cX2_total 75 = .ok (.ireturn, 1) := by decide +kernel
theorem dX2_total_76 : decode cX2_total 76 = .ok (.aload_n 0, 1) := by decide +kernel
theorem dX2_total_77 : decode cX2_total 77 = .ok (.invokevirtual 234, 3) := by decide +kernel
theorem dX2_total_80 : decode cX2_total 80 = .ok (.ireturn, 1) := by decide +kernel
theorem dX2_total_81 : decode cX2_total 81 = .ok (.aload_n 0, 1) := by decide +kernel
theorem dX2_total_82 : decode cX2_total 82 = .ok (.iconst 1, 1) := by decide +kernel
theorem dX2_total_83 : decode cX2_total 83 = .ok (.invokevirtual 238, 3) := by decide +kernel
theorem dX2_total_86 : decode cX2_total 86 = .ok (.ireturn, 1) := by decide +kernel
theorem dX2_total_87 : decode cX2_total 87 = .ok (.aload_n 0, 1) := by decide +kernel
theorem dX2_total_88 : decode cX2_total 88 = .ok (.iconst 2, 1) := by decide +kernel
theorem dX2_total_89 : decode cX2_total 89 = .ok (.invokevirtual 238, 3) := by decide +kernel
theorem dX2_total_92 : decode cX2_total 92 = .ok (.ireturn, 1) := by decide +kernel
theorem dX2_total_93 : decode cX2_total 93 = .ok (.aload_n 0, 1) := by decide +kernel
theorem dX2_total_94 : decode cX2_total 94 = .ok (.invokevirtual 241, 3) := by decide +kernel
theorem dX2_total_97 : decode cX2_total 97 = .ok (.ireturn, 1) := by decide +kernel
theorem dX2_total_98 : decode cX2_total 98 = .ok (.aload_n 0, 1) := by decide +kernel
theorem dX2_total_99 : decode cX2_total 99 = .ok (.getfield 58, 3) := by decide +kernel
theorem dX2_total_102 : decode cX2_total 102 = .ok (.ireturn, 1) := by decide +kernel
theorem dX2_total_103 : decode cX2_total 103 = .ok (.aload_n 0, 1) := by decide +kernel
theorem dX2_total_104 : decode cX2_total 104 = .ok (.getfield 32, 3) := by decide +kernel
theorem dX2_total_107 : decode cX2_total 107 = .ok (.getfield 223, 3) := by decide +kernel
theorem dX2_total_110 : decode cX2_total 110 = .ok (.ireturn, 1) := by decide +kernel
theorem dX2_total_111 : decode cX2_total 111 = .ok (.aload_n 0, 1) := by decide +kernel
theorem dX2_total_112 : decode cX2_total 112 = .ok (.getfield 36, 3) := by decide +kernel
theorem dX2_total_115 : decode cX2_total 115 = .ok (.ireturn, 1) := by decide +kernel
theorem dX2_openBooths_0 : decode cX2_openBooths 0 = .ok (.iconst 0, 1) := by decide +kernel
theorem dX2_openBooths_1 : decode cX2_openBooths 1 = .ok (.istore_n 1, 1) := by decide +kernel
theorem dX2_openBooths_2 : decode cX2_openBooths 2 = .ok (.iconst 0, 1) := by decide +kernel
theorem dX2_openBooths_3 : decode cX2_openBooths 3 = .ok (.istore_n 2, 1) := by decide +kernel
theorem dX2_openBooths_4 : decode cX2_openBooths 4 = .ok (.iload_n 2, 1) := by decide +kernel
theorem dX2_openBooths_5 : decode cX2_openBooths 5 = .ok (.aload_n 0, 1) := by decide +kernel
theorem dX2_openBooths_6 : decode cX2_openBooths 6 = .ok (.getfield 46, 3) := by decide +kernel
theorem dX2_openBooths_9 : decode cX2_openBooths 9 = .ok (.if_icmp .ge 29, 3) := by decide +kernel
theorem dX2_openBooths_12 : decode cX2_openBooths 12 = .ok (.iload_n 1, 1) := by decide +kernel
theorem dX2_openBooths_13 : decode cX2_openBooths 13 = .ok (.aload_n 0, 1) := by decide +kernel
theorem dX2_openBooths_14 : decode cX2_openBooths 14 = .ok (.getfield 11, 3) := by decide +kernel
theorem dX2_openBooths_17 : decode cX2_openBooths 17 = .ok (.iload_n 2, 1) := by decide +kernel
theorem dX2_openBooths_18 : decode cX2_openBooths 18 = .ok (.aaload, 1) := by decide +kernel
theorem dX2_openBooths_19 : decode cX2_openBooths 19 = .ok (.invokevirtual 120, 3) := by decide +kernel
theorem dX2_openBooths_22 : decode cX2_openBooths 22 = .ok (.ifCond .eq 7, 3) := by decide +kernel
theorem dX2_openBooths_25 : decode cX2_openBooths 25 = .ok (.iconst 1, 1) := by decide +kernel
theorem dX2_openBooths_26 : decode cX2_openBooths 26 = .ok (.goto 4, 3) := by decide +kernel
theorem dX2_openBooths_29 : decode cX2_openBooths 29 = .ok (.iconst 0, 1) := by decide +kernel
theorem dX2_openBooths_30 : decode cX2_openBooths 30 = .ok (.iadd, 1) := by decide +kernel
theorem dX2_openBooths_31 : decode cX2_openBooths 31 = .ok (.istore_n 1, 1) := by decide +kernel
theorem dX2_openBooths_32 : decode cX2_openBooths 32 = .ok (.iinc 2 1, 3) := by decide +kernel
theorem dX2_openBooths_35 : decode cX2_openBooths 35 = .ok (.goto (-31), 3) := by decide +kernel
theorem dX2_openBooths_38 : decode cX2_openBooths 38 = .ok (.iload_n 1, 1) := by decide +kernel
theorem dX2_openBooths_39 : decode cX2_openBooths 39 = .ok (.ireturn, 1) := by decide +kernel
theorem dX2_visitorsIn_0 : decode cX2_visitorsIn 0 = .ok (.iconst 0, 1) := by decide +kernel
theorem dX2_visitorsIn_1 : decode cX2_visitorsIn 1 = .ok (.istore_n 2, 1) := by decide +kernel
theorem dX2_visitorsIn_2 : decode cX2_visitorsIn 2 = .ok (.iconst 0, 1) := by decide +kernel
theorem dX2_visitorsIn_3 : decode cX2_visitorsIn 3 = .ok (.istore_n 3, 1) := by decide +kernel
theorem dX2_visitorsIn_4 : decode cX2_visitorsIn 4 = .ok (.iload_n 3, 1) := by decide +kernel
theorem dX2_visitorsIn_5 : decode cX2_visitorsIn 5 = .ok (.aload_n 0, 1) := by decide +kernel
theorem dX2_visitorsIn_6 : decode cX2_visitorsIn 6 = .ok (.getfield 52, 3) := by decide +kernel
theorem dX2_visitorsIn_9 : decode cX2_visitorsIn 9 = .ok (.if_icmp .ge 30, 3) := by decide +kernel
theorem dX2_visitorsIn_12 : decode cX2_visitorsIn 12 = .ok (.iload_n 2, 1) := by decide +kernel
theorem dX2_visitorsIn_13 : decode cX2_visitorsIn 13 = .ok (.aload_n 0, 1) := by decide +kernel
theorem dX2_visitorsIn_14 : decode cX2_visitorsIn 14 = .ok (.getfield 25, 3) := by decide +kernel
theorem dX2_visitorsIn_17 : decode cX2_visitorsIn 17 = .ok (.iload_n 3, 1) := by decide +kernel
theorem dX2_visitorsIn_18 : decode cX2_visitorsIn 18 = .ok (.aaload, 1) := by decide +kernel
theorem dX2_visitorsIn_19 : decode cX2_visitorsIn 19 = .ok (.invokevirtual 244, 3) := by decide +kernel
theorem dX2_visitorsIn_22 : decode cX2_visitorsIn 22 = .ok (.iload_n 1, 1) := by decide +kernel
theorem dX2_visitorsIn_23 : decode cX2_visitorsIn 23 = .ok (.if_icmp .ne 7, 3) := by decide +kernel
theorem dX2_visitorsIn_26 : decode cX2_visitorsIn 26 = .ok (.iconst 1, 1) := by decide +kernel
theorem dX2_visitorsIn_27 : decode cX2_visitorsIn 27 = .ok (.goto 4, 3) := by decide +kernel
theorem dX2_visitorsIn_30 : decode cX2_visitorsIn 30 = .ok (.iconst 0, 1) := by decide +kernel
theorem dX2_visitorsIn_31 : decode cX2_visitorsIn 31 = .ok (.iadd, 1) := by decide +kernel
theorem dX2_visitorsIn_32 : decode cX2_visitorsIn 32 = .ok (.istore_n 2, 1) := by decide +kernel
theorem dX2_visitorsIn_33 : decode cX2_visitorsIn 33 = .ok (.iinc 3 1, 3) := by decide +kernel
theorem dX2_visitorsIn_36 : decode cX2_visitorsIn 36 = .ok (.goto (-32), 3) := by decide +kernel
theorem dX2_visitorsIn_39 : decode cX2_visitorsIn 39 = .ok (.iload_n 2, 1) := by decide +kernel
theorem dX2_visitorsIn_40 : decode cX2_visitorsIn 40 = .ok (.ireturn, 1) := by decide +kernel
theorem dX2_prizesLeft_0 : decode cX2_prizesLeft 0 = .ok (.iconst 0, 1) := by decide +kernel
theorem dX2_prizesLeft_1 : decode cX2_prizesLeft 1 = .ok (.istore_n 1, 1) := by decide +kernel
theorem dX2_prizesLeft_2 : decode cX2_prizesLeft 2 = .ok (.iconst 0, 1) := by decide +kernel
theorem dX2_prizesLeft_3 : decode cX2_prizesLeft 3 = .ok (.istore_n 2, 1) := by decide +kernel
theorem dX2_prizesLeft_4 : decode cX2_prizesLeft 4 = .ok (.iload_n 2, 1) := by decide +kernel
theorem dX2_prizesLeft_5 : decode cX2_prizesLeft 5 = .ok (.aload_n 0, 1) := by decide +kernel
theorem dX2_prizesLeft_6 : decode cX2_prizesLeft 6 = .ok (.getfield 46, 3) := by decide +kernel
theorem dX2_prizesLeft_9 : decode cX2_prizesLeft 9 = .ok (.if_icmp .ge 21, 3) := by decide +kernel
theorem dX2_prizesLeft_12 : decode cX2_prizesLeft 12 = .ok (.iload_n 1, 1) := by decide +kernel
theorem dX2_prizesLeft_13 : decode cX2_prizesLeft 13 = .ok (.aload_n 0, 1) := by decide +kernel
theorem dX2_prizesLeft_14 : decode cX2_prizesLeft 14 = .ok (.getfield 11, 3) := by decide +kernel
theorem dX2_prizesLeft_17 : decode cX2_prizesLeft 17 = .ok (.iload_n 2, 1) := by decide +kernel
theorem dX2_prizesLeft_18 : decode cX2_prizesLeft 18 = .ok (.aaload, 1) := by decide +kernel
theorem dX2_prizesLeft_19 : decode cX2_prizesLeft 19 = .ok (.getfield 151, 3) := by decide +kernel
theorem dX2_prizesLeft_22 : decode cX2_prizesLeft 22 = .ok (.iadd, 1) := by decide +kernel
theorem dX2_prizesLeft_23 : decode cX2_prizesLeft 23 = .ok (.istore_n 1, 1) := by decide +kernel
theorem dX2_prizesLeft_24 : decode cX2_prizesLeft 24 = .ok (.iinc 2 1, 3) := by decide +kernel
theorem dX2_prizesLeft_27 : decode cX2_prizesLeft 27 = .ok (.goto (-23), 3) := by decide +kernel
theorem dX2_prizesLeft_30 : decode cX2_prizesLeft 30 = .ok (.iload_n 1, 1) := by decide +kernel
theorem dX2_prizesLeft_31 : decode cX2_prizesLeft 31 = .ok (.ireturn, 1) := by decide +kernel
theorem dX3_init_0 : decode cX3_init 0 = .ok (.aload_n 0, 1) := by decide +kernel
theorem dX3_init_1 : decode cX3_init 1 = .ok (.invokespecial 3, 3) := by decide +kernel
theorem dX3_init_4 : decode cX3_init 4 = .ok (.return_, 1) := by decide +kernel
theorem dX3_begin_0 : decode cX3_begin 0 = .ok (.aload_n 0, 1) := by decide +kernel
theorem dX3_begin_1 : decode cX3_begin 1 = .ok (.bipush 24, 2) := by decide +kernel
theorem dX3_begin_3 : decode cX3_begin 3 = .ok (.putfield 9, 3) := by decide +kernel
theorem dX3_begin_6 : decode cX3_begin 6 = .ok (.aload_n 0, 1) := by decide +kernel
theorem dX3_begin_7 : decode cX3_begin 7 = .ok (.iconst (-1), 1) := by decide +kernel
theorem dX3_begin_8 : decode cX3_begin 8 = .ok (.putfield 15, 3) := by decide +kernel
theorem dX3_begin_11 : decode cX3_begin 11 = .ok (.return_, 1) := by decide +kernel
theorem dX3_copyFrom_0 : decode cX3_copyFrom 0 = .ok (.aload_n 0, 1) := by decide +kernel
theorem dX3_copyFrom_1 : decode cX3_copyFrom 1 = .ok (.aload_n 1, 1) := by decide +kernel
theorem dX3_copyFrom_2 : decode cX3_copyFrom 2 = .ok (.getfield 9, 3) := by decide +kernel
theorem dX3_copyFrom_5 : decode cX3_copyFrom 5 = .ok (.putfield 9, 3) := by decide +kernel
theorem dX3_copyFrom_8 : decode cX3_copyFrom 8 = .ok (.aload_n 0, 1) := by decide +kernel
theorem dX3_copyFrom_9 : decode cX3_copyFrom 9 = .ok (.aload_n 1, 1) := by decide +kernel
theorem dX3_copyFrom_10 : decode cX3_copyFrom 10 = .ok (.getfield 15, 3) := by decide +kernel
theorem dX3_copyFrom_13 : decode cX3_copyFrom 13 = .ok (.putfield 15, 3) := by decide +kernel
theorem dX3_copyFrom_16 : decode cX3_copyFrom 16 = .ok (.aload_n 0, 1) := by decide +kernel
theorem dX3_copyFrom_17 : decode cX3_copyFrom 17 = .ok (.aload_n 1, 1) := by decide +kernel
theorem dX3_copyFrom_18 : decode cX3_copyFrom 18 = .ok (.getfield 18, 3) := by decide +kernel
theorem dX3_copyFrom_21 : decode cX3_copyFrom 21 = .ok (.putfield 18, 3) := by decide +kernel
theorem dX3_copyFrom_24 : decode cX3_copyFrom 24 = .ok (.return_, 1) := by decide +kernel
theorem dX3_rest_0 : decode cX3_rest 0 = .ok (.aload_n 0, 1) := by decide +kernel
theorem dX3_rest_1 : decode cX3_rest 1 = .ok (.aload_n 0, 1) := by decide +kernel
theorem dX3_rest_2 : decode cX3_rest 2 = .ok (.getfield 9, 3) := by decide +kernel
theorem dX3_rest_5 : decode cX3_rest 5 = .ok (.iconst 2, 1) := by decide +kernel
theorem dX3_rest_6 : decode cX3_rest 6 = .ok (.iadd, 1) := by decide +kernel
theorem dX3_rest_7 : decode cX3_rest 7 = .ok (.bipush 24, 2) := by decide +kernel
theorem dX3_rest_9 : decode cX3_rest 9 = .ok (.invokestatic 21, 3) := by decide +kernel
theorem dX3_rest_12 : decode cX3_rest 12 = .ok (.putfield 9, 3) := by decide +kernel
theorem dX3_rest_15 : decode cX3_rest 15 = .ok (.return_, 1) := by decide +kernel
theorem dX3_fact_0 : decode cX3_fact 0 = .ok (.iload_n 1, 1) := by decide +kernel
theorem dX3_fact_1 : decode cX3_fact 1 = .ok (.lookupswitch 37 #[(0, 27), (1, 32)], 27) := by decide +kernel
theorem dX3_fact_28 : decode cX3_fact 28 = .ok (.aload_n 0, 1) := by decide +kernel
theorem dX3_fact_29 : decode cX3_fact 29 = .ok (.getfield 9, 3) := by decide +kernel
theorem dX3_fact_32 : decode cX3_fact 32 = .ok (.ireturn, 1) := by decide +kernel
theorem dX3_fact_33 : decode cX3_fact 33 = .ok (.aload_n 0, 1) := by decide +kernel
theorem dX3_fact_34 : decode cX3_fact 34 = .ok (.getfield 15, 3) := by decide +kernel
theorem dX3_fact_37 : decode cX3_fact 37 = .ok (.ireturn, 1) := by decide +kernel
theorem dX3_fact_38 : decode cX3_fact 38 = .ok (.aload_n 0, 1) := by decide +kernel
theorem dX3_fact_39 : decode cX3_fact 39 = .ok (.getfield 18, 3) := by decide +kernel
theorem dX3_fact_42 : decode cX3_fact 42 = .ok (.ireturn, 1) := by decide +kernel
theorem dX4_init_0 : decode cX4_init 0 = .ok (.aload_n 0, 1) := by decide +kernel
theorem dX4_init_1 : decode cX4_init 1 = .ok (.invokespecial 3, 3) := by decide +kernel
theorem dX4_init_4 : decode cX4_init 4 = .ok (.aload_n 0, 1) := by decide +kernel
theorem dX4_init_5 : decode cX4_init 5 = .ok (.bipush 8, 2) := by decide +kernel
theorem dX4_init_7 : decode cX4_init 7 = .ok (.newarray .int, 2) := by decide +kernel
theorem dX4_init_9 : decode cX4_init 9 = .ok (.putfield 9, 3) := by decide +kernel
theorem dX4_init_12 : decode cX4_init 12 = .ok (.return_, 1) := by decide +kernel
theorem dX4_begin_0 : decode cX4_begin 0 = .ok (.aload_n 0, 1) := by decide +kernel
theorem dX4_begin_1 : decode cX4_begin 1 = .ok (.iload_n 1, 1) := by decide +kernel
theorem dX4_begin_2 : decode cX4_begin 2 = .ok (.putfield 15, 3) := by decide +kernel
theorem dX4_begin_5 : decode cX4_begin 5 = .ok (.aload_n 0, 1) := by decide +kernel
theorem dX4_begin_6 : decode cX4_begin 6 = .ok (.iload_n 2, 1) := by decide +kernel
theorem dX4_begin_7 : decode cX4_begin 7 = .ok (.putfield 19, 3) := by decide +kernel
theorem dX4_begin_10 : decode cX4_begin 10 = .ok (.aload_n 0, 1) := by decide +kernel
theorem dX4_begin_11 : decode cX4_begin 11 = .ok (.iconst (-1), 1) := by decide +kernel
theorem dX4_begin_12 : decode cX4_begin 12 = .ok (.putfield 22, 3) := by decide +kernel
theorem dX4_begin_15 : decode cX4_begin 15 = .ok (.return_, 1) := by decide +kernel
theorem dX4_copyFrom_0 : decode cX4_copyFrom 0 = .ok (.aload_n 0, 1) := by decide +kernel
theorem dX4_copyFrom_1 : decode cX4_copyFrom 1 = .ok (.aload_n 1, 1) := by decide +kernel
theorem dX4_copyFrom_2 : decode cX4_copyFrom 2 = .ok (.getfield 15, 3) := by decide +kernel
theorem dX4_copyFrom_5 : decode cX4_copyFrom 5 = .ok (.putfield 15, 3) := by decide +kernel
theorem dX4_copyFrom_8 : decode cX4_copyFrom 8 = .ok (.aload_n 0, 1) := by decide +kernel
theorem dX4_copyFrom_9 : decode cX4_copyFrom 9 = .ok (.aload_n 1, 1) := by decide +kernel
theorem dX4_copyFrom_10 : decode cX4_copyFrom 10 = .ok (.getfield 19, 3) := by decide +kernel
theorem dX4_copyFrom_13 : decode cX4_copyFrom 13 = .ok (.putfield 19, 3) := by decide +kernel
theorem dX4_copyFrom_16 : decode cX4_copyFrom 16 = .ok (.aload_n 0, 1) := by decide +kernel
theorem dX4_copyFrom_17 : decode cX4_copyFrom 17 = .ok (.aload_n 1, 1) := by decide +kernel
theorem dX4_copyFrom_18 : decode cX4_copyFrom 18 = .ok (.getfield 25, 3) := by decide +kernel
theorem dX4_copyFrom_21 : decode cX4_copyFrom 21 = .ok (.putfield 25, 3) := by decide +kernel
theorem dX4_copyFrom_24 : decode cX4_copyFrom 24 = .ok (.aload_n 0, 1) := by decide +kernel
theorem dX4_copyFrom_25 : decode cX4_copyFrom 25 = .ok (.aload_n 1, 1) := by decide +kernel
theorem dX4_copyFrom_26 : decode cX4_copyFrom 26 = .ok (.getfield 22, 3) := by decide +kernel
theorem dX4_copyFrom_29 : decode cX4_copyFrom 29 = .ok (.putfield 22, 3) := by decide +kernel
theorem dX4_copyFrom_32 : decode cX4_copyFrom 32 = .ok (.aload_n 0, 1) := by decide +kernel
theorem dX4_copyFrom_33 : decode cX4_copyFrom 33 = .ok (.aload_n 1, 1) := by decide +kernel
theorem dX4_copyFrom_34 : decode cX4_copyFrom 34 = .ok (.getfield 29, 3) := by decide +kernel
theorem dX4_copyFrom_37 : decode cX4_copyFrom 37 = .ok (.putfield 29, 3) := by decide +kernel
theorem dX4_copyFrom_40 : decode cX4_copyFrom 40 = .ok (.aload_n 0, 1) := by decide +kernel
theorem dX4_copyFrom_41 : decode cX4_copyFrom 41 = .ok (.aload_n 1, 1) := by decide +kernel
theorem dX4_copyFrom_42 : decode cX4_copyFrom 42 = .ok (.getfield 32, 3) := by decide +kernel
theorem dX4_copyFrom_45 : decode cX4_copyFrom 45 = .ok (.putfield 32, 3) := by decide +kernel
theorem dX4_copyFrom_48 : decode cX4_copyFrom 48 = .ok (.aload_n 0, 1) := by decide +kernel
theorem dX4_copyFrom_49 : decode cX4_copyFrom 49 = .ok (.aload_n 1, 1) := by decide +kernel
theorem dX4_copyFrom_50 : decode cX4_copyFrom 50 = .ok (.getfield 35, 3) := by decide +kernel
theorem dX4_copyFrom_53 : decode cX4_copyFrom 53 = .ok (.putfield 35, 3) := by decide +kernel
theorem dX4_copyFrom_56 : decode cX4_copyFrom 56 = .ok (.aload_n 0, 1) := by decide +kernel
theorem dX4_copyFrom_57 : decode cX4_copyFrom 57 = .ok (.aload_n 1, 1) := by decide +kernel
theorem dX4_copyFrom_58 : decode cX4_copyFrom 58 = .ok (.getfield 38, 3) := by decide +kernel
theorem dX4_copyFrom_61 : decode cX4_copyFrom 61 = .ok (.putfield 38, 3) := by decide +kernel
theorem dX4_copyFrom_64 : decode cX4_copyFrom 64 = .ok (.iconst 0, 1) := by decide +kernel
theorem dX4_copyFrom_65 : decode cX4_copyFrom 65 = .ok (.istore_n 2, 1) := by decide +kernel
theorem dX4_copyFrom_66 : decode cX4_copyFrom 66 = .ok (.iload_n 2, 1) := by decide +kernel
theorem dX4_copyFrom_67 : decode cX4_copyFrom 67 = .ok (.bipush 8, 2) := by decide +kernel
theorem dX4_copyFrom_69 : decode cX4_copyFrom 69 = .ok (.if_icmp .ge 21, 3) := by decide +kernel
theorem dX4_copyFrom_72 : decode cX4_copyFrom 72 = .ok (.aload_n 0, 1) := by decide +kernel
theorem dX4_copyFrom_73 : decode cX4_copyFrom 73 = .ok (.getfield 9, 3) := by decide +kernel
theorem dX4_copyFrom_76 : decode cX4_copyFrom 76 = .ok (.iload_n 2, 1) := by decide +kernel
theorem dX4_copyFrom_77 : decode cX4_copyFrom 77 = .ok (.aload_n 1, 1) := by decide +kernel
theorem dX4_copyFrom_78 : decode cX4_copyFrom 78 = .ok (.getfield 9, 3) := by decide +kernel
theorem dX4_copyFrom_81 : decode cX4_copyFrom 81 = .ok (.iload_n 2, 1) := by decide +kernel
theorem dX4_copyFrom_82 : decode cX4_copyFrom 82 = .ok (.iaload, 1) := by decide +kernel
theorem dX4_copyFrom_83 : decode cX4_copyFrom 83 = .ok (.iastore, 1) := by decide +kernel
theorem dX4_copyFrom_84 : decode cX4_copyFrom 84 = .ok (.iinc 2 1, 3) := by decide +kernel
theorem dX4_copyFrom_87 : decode cX4_copyFrom 87 = .ok (.goto (-21), 3) := by decide +kernel
theorem dX4_copyFrom_90 : decode cX4_copyFrom 90 = .ok (.return_, 1) := by decide +kernel
theorem dX4_strolls_0 : decode cX4_strolls 0 = .ok (.aload_n 0, 1) := by decide +kernel
theorem dX4_strolls_1 : decode cX4_strolls 1 = .ok (.getfield 25, 3) := by decide +kernel
theorem dX4_strolls_4 : decode cX4_strolls 4 = .ok (.ifCond .ne 15, 3) := by decide +kernel
theorem dX4_strolls_7 : decode cX4_strolls 7 = .ok (.aload_n 0, 1) := by decide +kernel
theorem dX4_strolls_8 : decode cX4_strolls 8 = .ok (.getfield 22, 3) := by decide +kernel
theorem dX4_strolls_11 : decode cX4_strolls 11 = .ok (.iconst (-1), 1) := by decide +kernel
theorem dX4_strolls_12 : decode cX4_strolls 12 = .ok (.if_icmp .ne 7, 3) := by decide +kernel
theorem dX4_strolls_15 : decode cX4_strolls 15 = .ok (.iconst 1, 1) := by decide +kernel
theorem dX4_strolls_16 : decode cX4_strolls 16 = .ok (.goto 4, 3) := by decide +kernel
theorem dX4_strolls_19 : decode cX4_strolls 19 = .ok (.iconst 0, 1) := by decide +kernel
theorem dX4_strolls_20 : decode cX4_strolls 20 = .ok (.ireturn, 1) := by decide +kernel
theorem dX4_state_0 : decode cX4_state 0 = .ok (.aload_n 0, 1) := by decide +kernel
theorem dX4_state_1 : decode cX4_state 1 = .ok (.getfield 25, 3) := by decide +kernel
theorem dX4_state_4 : decode cX4_state 4 = .ok (.ifCond .eq 5, 3) := by decide +kernel
theorem dX4_state_7 : decode cX4_state 7 = .ok (.iconst 2, 1) := by decide +kernel
theorem dX4_state_8 : decode cX4_state 8 = .ok (.ireturn, 1) := by decide +kernel
theorem dX4_state_9 : decode cX4_state 9 = .ok (.aload_n 0, 1) := by decide +kernel
theorem dX4_state_10 : decode cX4_state 10 = .ok (.getfield 22, 3) := by decide +kernel
theorem dX4_state_13 : decode cX4_state 13 = .ok (.iconst (-1), 1) := by decide +kernel
theorem dX4_state_14 : decode cX4_state 14 = .ok (.if_icmp .ne 7, 3) := by decide +kernel
theorem dX4_state_17 : decode cX4_state 17 = .ok (.iconst 0, 1) := by decide +kernel
theorem dX4_state_18 : decode cX4_state 18 = .ok (.goto 4, 3) := by decide +kernel
theorem dX4_state_21 : decode cX4_state 21 = .ok (.iconst 1, 1) := by decide +kernel
theorem dX4_state_22 : decode cX4_state 22 = .ok (.ireturn, 1) := by decide +kernel
theorem dX4_fact_0 : decode cX4_fact 0 = .ok (.iload_n 1, 1) := by decide +kernel
theorem dX4_fact_1 : decode cX4_fact 1 = .ok (.tableswitch 78 0 6 #[43, 48, 53, 58, 63, 68, 73], 43) := by decide +kernel
theorem dX4_fact_44 : decode cX4_fact 44 = .ok (.aload_n 0, 1) := by decide +kernel
theorem dX4_fact_45 : decode cX4_fact 45 = .ok (.getfield 15, 3) := by decide +kernel
theorem dX4_fact_48 : decode cX4_fact 48 = .ok (.ireturn, 1) := by decide +kernel
theorem dX4_fact_49 : decode cX4_fact 49 = .ok (.aload_n 0, 1) := by decide +kernel
theorem dX4_fact_50 : decode cX4_fact 50 = .ok (.getfield 19, 3) := by decide +kernel
theorem dX4_fact_53 : decode cX4_fact 53 = .ok (.ireturn, 1) := by decide +kernel
theorem dX4_fact_54 : decode cX4_fact 54 = .ok (.aload_n 0, 1) := by decide +kernel
theorem dX4_fact_55 : decode cX4_fact 55 = .ok (.invokevirtual 41, 3) := by decide +kernel
theorem dX4_fact_58 : decode cX4_fact 58 = .ok (.ireturn, 1) := by decide +kernel
theorem dX4_fact_59 : decode cX4_fact 59 = .ok (.aload_n 0, 1) := by decide +kernel
theorem dX4_fact_60 : decode cX4_fact 60 = .ok (.getfield 22, 3) := by decide +kernel
theorem dX4_fact_63 : decode cX4_fact 63 = .ok (.ireturn, 1) := by decide +kernel
theorem dX4_fact_64 : decode cX4_fact 64 = .ok (.aload_n 0, 1) := by decide +kernel
theorem dX4_fact_65 : decode cX4_fact 65 = .ok (.getfield 29, 3) := by decide +kernel
theorem dX4_fact_68 : decode cX4_fact 68 = .ok (.ireturn, 1) := by decide +kernel
theorem dX4_fact_69 : decode cX4_fact 69 = .ok (.aload_n 0, 1) := by decide +kernel
theorem dX4_fact_70 : decode cX4_fact 70 = .ok (.getfield 32, 3) := by decide +kernel
theorem dX4_fact_73 : decode cX4_fact 73 = .ok (.ireturn, 1) := by decide +kernel
theorem dX4_fact_74 : decode cX4_fact 74 = .ok (.aload_n 0, 1) := by decide +kernel
theorem dX4_fact_75 : decode cX4_fact 75 = .ok (.getfield 35, 3) := by decide +kernel
theorem dX4_fact_78 : decode cX4_fact 78 = .ok (.ireturn, 1) := by decide +kernel
theorem dX4_fact_79 : decode cX4_fact 79 = .ok (.aload_n 0, 1) := by decide +kernel
theorem dX4_fact_80 : decode cX4_fact 80 = .ok (.getfield 38, 3) := by decide +kernel
theorem dX4_fact_83 : decode cX4_fact 83 = .ok (.ireturn, 1) := by decide +kernel
theorem dX4_foreseenFact_0 : decode cX4_foreseenFact 0 = .ok (.iload_n 1, 1) := by decide +kernel
theorem dX4_foreseenFact_1 : decode cX4_foreseenFact 1 = .ok (.lookupswitch 37 #[(0, 27), (1, 32)], 27) := by decide +kernel
theorem dX4_foreseenFact_28 : decode cX4_foreseenFact 28 = .ok (.aload_n 0, 1) := by decide +kernel
theorem dX4_foreseenFact_29 : decode cX4_foreseenFact 29 = .ok (.getfield 29, 3) := by decide +kernel
theorem dX4_foreseenFact_32 : decode cX4_foreseenFact 32 = .ok (.ireturn, 1) := by decide +kernel
theorem dX4_foreseenFact_33 : decode cX4_foreseenFact 33 = .ok (.aload_n 0, 1) := by decide +kernel
theorem dX4_foreseenFact_34 : decode cX4_foreseenFact 34 = .ok (.getfield 15, 3) := by decide +kernel
theorem dX4_foreseenFact_37 : decode cX4_foreseenFact 37 = .ok (.ireturn, 1) := by decide +kernel
theorem dX4_foreseenFact_38 : decode cX4_foreseenFact 38 = .ok (.aload_n 0, 1) := by decide +kernel
theorem dX4_foreseenFact_39 : decode cX4_foreseenFact 39 = .ok (.getfield 32, 3) := by decide +kernel
theorem dX4_foreseenFact_42 : decode cX4_foreseenFact 42 = .ok (.ireturn, 1) := by decide +kernel
theorem dX5_init_0 : decode cX5_init 0 = .ok (.aload_n 0, 1) := by decide +kernel
theorem dX5_init_1 : decode cX5_init 1 = .ok (.invokespecial 1, 3) := by decide +kernel
theorem dX5_init_4 : decode cX5_init 4 = .ok (.aload_n 0, 1) := by decide +kernel
theorem dX5_init_5 : decode cX5_init 5 = .ok (.new 7, 3) := by decide +kernel
theorem dX5_init_8 : decode cX5_init 8 = .ok (.dup, 1) := by decide +kernel
theorem dX5_init_9 : decode cX5_init 9 = .ok (.invokespecial 9, 3) := by decide +kernel
theorem dX5_init_12 : decode cX5_init 12 = .ok (.putfield 10, 3) := by decide +kernel
theorem dX5_init_15 : decode cX5_init 15 = .ok (.aload_n 0, 1) := by decide +kernel
theorem dX5_init_16 : decode cX5_init 16 = .ok (.new 7, 3) := by decide +kernel
theorem dX5_init_19 : decode cX5_init 19 = .ok (.dup, 1) := by decide +kernel
theorem dX5_init_20 : decode cX5_init 20 = .ok (.invokespecial 9, 3) := by decide +kernel
theorem dX5_init_23 : decode cX5_init 23 = .ok (.putfield 16, 3) := by decide +kernel
theorem dX5_init_26 : decode cX5_init 26 = .ok (.return_, 1) := by decide +kernel
theorem dX5_addBooth_0 : decode cX5_addBooth 0 = .ok (.iload_n 1, 1) := by decide +kernel
theorem dX5_addBooth_1 : decode cX5_addBooth 1 = .ok (.iconst 1, 1) := by decide +kernel
theorem dX5_addBooth_2 : decode cX5_addBooth 2 = .ok (.bipush 9, 2) := by decide +kernel
theorem dX5_addBooth_4 : decode cX5_addBooth 4 = .ok (.invokestatic 19, 3) := by decide +kernel
theorem dX5_addBooth_7 : decode cX5_addBooth 7 = .ok (.iload_n 2, 1) := by decide +kernel
theorem dX5_addBooth_8 : decode cX5_addBooth 8 = .ok (.iconst 0, 1) := by decide +kernel
theorem dX5_addBooth_9 : decode cX5_addBooth 9 = .ok (.bipush 60, 2) := by decide +kernel
theorem dX5_addBooth_11 : decode cX5_addBooth 11 = .ok (.invokestatic 19, 3) := by decide +kernel
theorem dX5_addBooth_14 : decode cX5_addBooth 14 = .ok (.iload_n 3, 1) := by decide +kernel
theorem dX5_addBooth_15 : decode cX5_addBooth 15 = .ok (.iconst 0, 1) := by decide +kernel
theorem dX5_addBooth_16 : decode cX5_addBooth 16 = .ok (.bipush 99, 2) := by decide +kernel
theorem dX5_addBooth_18 : decode cX5_addBooth 18 = .ok (.invokestatic 19, 3) := by decide +kernel
theorem dX5_addBooth_21 : decode cX5_addBooth 21 = .ok (.iload 4, 2) := by decide +kernel
theorem dX5_addBooth_23 : decode cX5_addBooth 23 = .ok (.iconst 1, 1) := by decide +kernel
theorem dX5_addBooth_24 : decode cX5_addBooth 24 = .ok (.iconst 3, 1) := by decide +kernel
theorem dX5_addBooth_25 : decode cX5_addBooth 25 = .ok (.invokestatic 19, 3) := by decide +kernel
theorem dX5_addBooth_28 : decode cX5_addBooth 28 = .ok (.aload_n 0, 1) := by decide +kernel
theorem dX5_addBooth_29 : decode cX5_addBooth 29 = .ok (.getfield 10, 3) := by decide +kernel
theorem dX5_addBooth_32 : decode cX5_addBooth 32 = .ok (.iload_n 1, 1) := by decide +kernel
theorem dX5_addBooth_33 : decode cX5_addBooth 33 = .ok (.iload_n 2, 1) := by decide +kernel
theorem dX5_addBooth_34 : decode cX5_addBooth 34 = .ok (.iload_n 3, 1) := by decide +kernel
theorem dX5_addBooth_35 : decode cX5_addBooth 35 = .ok (.iload 4, 2) := by decide +kernel
theorem dX5_addBooth_37 : decode cX5_addBooth 37 = .ok (.invokevirtual 23, 3) := by decide +kernel
theorem dX5_addBooth_40 : decode cX5_addBooth 40 = .ok (.istore 5, 2) := by decide +kernel
theorem dX5_addBooth_42 : decode cX5_addBooth 42 = .ok (.iload 5, 2) := by decide +kernel
theorem dX5_addBooth_44 : decode cX5_addBooth 44 = .ok (.iconst (-1), 1) := by decide +kernel
theorem dX5_addBooth_45 : decode cX5_addBooth 45 = .ok (.if_icmp .ne 13, 3) := by decide +kernel
theorem dX5_addBooth_48 : decode cX5_addBooth 48 = .ok (.new 27, 3) := by decide +kernel
theorem dX5_addBooth_51 : decode cX5_addBooth 51 = .ok (.dup, 1) := by decide +kernel
theorem dX5_addBooth_52 : decode cX5_addBooth 52 = .ok (.ldc 29, 2) := by decide +kernel
theorem dX5_addBooth_54 : decode cX5_addBooth 54 = .ok (.invokespecial 31, 3) := by decide +kernel
theorem dX5_addBooth_57 : decode cX5_addBooth 57 = .ok (.athrow, 1) := by decide +kernel
theorem dX5_addBooth_58 : decode cX5_addBooth 58 = .ok (.iload 5, 2) := by decide +kernel
theorem dX5_addBooth_60 : decode cX5_addBooth 60 = .ok (.ireturn, 1) := by decide +kernel
theorem dX5_addHelper_0 : decode cX5_addHelper 0 = .ok (.aload_n 0, 1) := by decide +kernel
theorem dX5_addHelper_1 : decode cX5_addHelper 1 = .ok (.getfield 10, 3) := by decide +kernel
theorem dX5_addHelper_4 : decode cX5_addHelper 4 = .ok (.invokevirtual 34, 3) := by decide +kernel
theorem dX5_addHelper_7 : decode cX5_addHelper 7 = .ok (.istore_n 1, 1) := by decide +kernel
theorem dX5_addHelper_8 : decode cX5_addHelper 8 = .ok (.iload_n 1, 1) := by decide +kernel
theorem dX5_addHelper_9 : decode cX5_addHelper 9 = .ok (.iconst (-1), 1) := by decide +kernel
theorem dX5_addHelper_10 : decode cX5_addHelper 10 = .ok (.if_icmp .ne 13, 3) := by decide +kernel
theorem dX5_addHelper_13 : decode cX5_addHelper 13 = .ok (.new 27, 3) := by decide +kernel
theorem dX5_addHelper_16 : decode cX5_addHelper 16 = .ok (.dup, 1) := by decide +kernel
theorem dX5_addHelper_17 : decode cX5_addHelper 17 = .ok (.ldc 38, 2) := by decide +kernel
theorem dX5_addHelper_19 : decode cX5_addHelper 19 = .ok (.invokespecial 31, 3) := by decide +kernel
theorem dX5_addHelper_22 : decode cX5_addHelper 22 = .ok (.athrow, 1) := by decide +kernel
theorem dX5_addHelper_23 : decode cX5_addHelper 23 = .ok (.iload_n 1, 1) := by decide +kernel
theorem dX5_addHelper_24 : decode cX5_addHelper 24 = .ok (.ireturn, 1) := by decide +kernel
theorem dX5_come_0 : decode cX5_come 0 = .ok (.iload_n 1, 1) := by decide +kernel
theorem dX5_come_1 : decode cX5_come 1 = .ok (.iconst 0, 1) := by decide +kernel
theorem dX5_come_2 : decode cX5_come 2 = .ok (.sipush 200, 3) := by decide +kernel
theorem dX5_come_5 : decode cX5_come 5 = .ok (.invokestatic 19, 3) := by decide +kernel
theorem dX5_come_8 : decode cX5_come 8 = .ok (.iload_n 2, 1) := by decide +kernel
theorem dX5_come_9 : decode cX5_come 9 = .ok (.iconst 0, 1) := by decide +kernel
theorem dX5_come_10 : decode cX5_come 10 = .ok (.bipush 30, 2) := by decide +kernel
theorem dX5_come_12 : decode cX5_come 12 = .ok (.invokestatic 19, 3) := by decide +kernel
theorem dX5_come_15 : decode cX5_come 15 = .ok (.aload_n 0, 1) := by decide +kernel
theorem dX5_come_16 : decode cX5_come 16 = .ok (.getfield 10, 3) := by decide +kernel
theorem dX5_come_19 : decode cX5_come 19 = .ok (.iload_n 1, 1) := by decide +kernel
theorem dX5_come_20 : decode cX5_come 20 = .ok (.iload_n 2, 1) := by decide +kernel
theorem dX5_come_21 : decode cX5_come 21 = .ok (.invokevirtual 40, 3) := by decide +kernel
theorem dX5_come_24 : decode cX5_come 24 = .ok (.istore_n 3, 1) := by decide +kernel
theorem dX5_come_25 : decode cX5_come 25 = .ok (.iload_n 3, 1) := by decide +kernel
theorem dX5_come_26 : decode cX5_come 26 = .ok (.iconst (-1), 1) := by decide +kernel
theorem dX5_come_27 : decode cX5_come 27 = .ok (.if_icmp .ne 13, 3) := by decide +kernel
theorem dX5_come_30 : decode cX5_come 30 = .ok (.new 27, 3) := by decide +kernel
theorem dX5_come_33 : decode cX5_come 33 = .ok (.dup, 1) := by decide +kernel
theorem dX5_come_34 : decode cX5_come 34 = .ok (.ldc 44, 2) := by decide +kernel
theorem dX5_come_36 : decode cX5_come 36 = .ok (.invokespecial 31, 3) := by decide +kernel
theorem dX5_come_39 : decode cX5_come 39 = .ok (.athrow, 1) := by decide +kernel
theorem dX5_come_40 : decode cX5_come 40 = .ok (.iload_n 3, 1) := by decide +kernel
theorem dX5_come_41 : decode cX5_come 41 = .ok (.ireturn, 1) := by decide +kernel
theorem dX5_setDart_0 : decode cX5_setDart 0 = .ok (.iload_n 1, 1) := by decide +kernel
theorem dX5_setDart_1 : decode cX5_setDart 1 = .ok (.iconst 1, 1) := by decide +kernel
theorem dX5_setDart_2 : decode cX5_setDart 2 = .ok (.ldc 46, 2) := by decide +kernel
theorem dX5_setDart_4 : decode cX5_setDart 4 = .ok (.invokestatic 19, 3) := by decide +kernel
theorem dX5_setDart_7 : decode cX5_setDart 7 = .ok (.aload_n 0, 1) := by decide +kernel
theorem dX5_setDart_8 : decode cX5_setDart 8 = .ok (.getfield 10, 3) := by decide +kernel
theorem dX5_setDart_11 : decode cX5_setDart 11 = .ok (.getfield 47, 3) := by decide +kernel
theorem dX5_setDart_14 : decode cX5_setDart 14 = .ok (.istore_n 2, 1) := by decide +kernel
theorem dX5_setDart_15 : decode cX5_setDart 15 = .ok (.aload_n 0, 1) := by decide +kernel
theorem dX5_setDart_16 : decode cX5_setDart 16 = .ok (.getfield 10, 3) := by decide +kernel
theorem dX5_setDart_19 : decode cX5_setDart 19 = .ok (.iload_n 1, 1) := by decide +kernel
theorem dX5_setDart_20 : decode cX5_setDart 20 = .ok (.putfield 47, 3) := by decide +kernel
theorem dX5_setDart_23 : decode cX5_setDart 23 = .ok (.iload_n 2, 1) := by decide +kernel
theorem dX5_setDart_24 : decode cX5_setDart 24 = .ok (.ireturn, 1) := by decide +kernel
theorem dX5_work_0 : decode cX5_work 0 = .ok (.aload_n 0, 1) := by decide +kernel
theorem dX5_work_1 : decode cX5_work 1 = .ok (.iload_n 1, 1) := by decide +kernel
theorem dX5_work_2 : decode cX5_work 2 = .ok (.invokevirtual 51, 3) := by decide +kernel
theorem dX5_work_5 : decode cX5_work 5 = .ok (.iload_n 2, 1) := by decide +kernel
theorem dX5_work_6 : decode cX5_work 6 = .ok (.iconst (-1), 1) := by decide +kernel
theorem dX5_work_7 : decode cX5_work 7 = .ok (.if_icmp .eq 8, 3) := by decide +kernel
theorem dX5_work_10 : decode cX5_work 10 = .ok (.aload_n 0, 1) := by decide +kernel
theorem dX5_work_11 : decode cX5_work 11 = .ok (.iload_n 2, 1) := by decide +kernel
theorem dX5_work_12 : decode cX5_work 12 = .ok (.invokevirtual 55, 3) := by decide +kernel
theorem dX5_work_15 : decode cX5_work 15 = .ok (.aload_n 0, 1) := by decide +kernel
theorem dX5_work_16 : decode cX5_work 16 = .ok (.getfield 10, 3) := by decide +kernel
theorem dX5_work_19 : decode cX5_work 19 = .ok (.getfield 58, 3) := by decide +kernel
theorem dX5_work_22 : decode cX5_work 22 = .ok (.iload_n 1, 1) := by decide +kernel
theorem dX5_work_23 : decode cX5_work 23 = .ok (.aaload, 1) := by decide +kernel
theorem dX5_work_24 : decode cX5_work 24 = .ok (.getfield 62, 3) := by decide +kernel
theorem dX5_work_27 : decode cX5_work 27 = .ok (.istore_n 3, 1) := by decide +kernel
theorem dX5_work_28 : decode cX5_work 28 = .ok (.aload_n 0, 1) := by decide +kernel
theorem dX5_work_29 : decode cX5_work 29 = .ok (.getfield 10, 3) := by decide +kernel
theorem dX5_work_32 : decode cX5_work 32 = .ok (.iload_n 1, 1) := by decide +kernel
theorem dX5_work_33 : decode cX5_work 33 = .ok (.iload_n 2, 1) := by decide +kernel
theorem dX5_work_34 : decode cX5_work 34 = .ok (.invokevirtual 67, 3) := by decide +kernel
theorem dX5_work_37 : decode cX5_work 37 = .ok (.iload_n 3, 1) := by decide +kernel
theorem dX5_work_38 : decode cX5_work 38 = .ok (.ireturn, 1) := by decide +kernel
theorem dX5_bring_0 : decode cX5_bring 0 = .ok (.aload_n 0, 1) := by decide +kernel
theorem dX5_bring_1 : decode cX5_bring 1 = .ok (.iload_n 1, 1) := by decide +kernel
theorem dX5_bring_2 : decode cX5_bring 2 = .ok (.invokevirtual 55, 3) := by decide +kernel
theorem dX5_bring_5 : decode cX5_bring 5 = .ok (.iload_n 2, 1) := by decide +kernel
theorem dX5_bring_6 : decode cX5_bring 6 = .ok (.iconst 1, 1) := by decide +kernel
theorem dX5_bring_7 : decode cX5_bring 7 = .ok (.bipush 99, 2) := by decide +kernel
theorem dX5_bring_9 : decode cX5_bring 9 = .ok (.invokestatic 19, 3) := by decide +kernel
theorem dX5_bring_12 : decode cX5_bring 12 = .ok (.aload_n 0, 1) := by decide +kernel
theorem dX5_bring_13 : decode cX5_bring 13 = .ok (.getfield 10, 3) := by decide +kernel
theorem dX5_bring_16 : decode cX5_bring 16 = .ok (.getfield 71, 3) := by decide +kernel
theorem dX5_bring_19 : decode cX5_bring 19 = .ok (.iload_n 1, 1) := by decide +kernel
theorem dX5_bring_20 : decode cX5_bring 20 = .ok (.aaload, 1) := by decide +kernel
theorem dX5_bring_21 : decode cX5_bring 21 = .ok (.astore_n 3, 1) := by decide +kernel
theorem dX5_bring_22 : decode cX5_bring 22 = .ok (.aload_n 3, 1) := by decide +kernel
theorem dX5_bring_23 : decode cX5_bring 23 = .ok (.getfield 75, 3) := by decide +kernel
theorem dX5_bring_26 : decode cX5_bring 26 = .ok (.iload_n 2, 1) := by decide +kernel
theorem dX5_bring_27 : decode cX5_bring 27 = .ok (.iadd, 1) := by decide +kernel
theorem dX5_bring_28 : decode cX5_bring 28 = .ok (.bipush 99, 2) := by decide +kernel
theorem dX5_bring_30 : decode cX5_bring 30 = .ok (.if_icmp .le 13, 3) := by decide +kernel
theorem dX5_bring_33 : decode cX5_bring 33 = .ok (.new 27, 3) := by decide +kernel
theorem dX5_bring_36 : decode cX5_bring 36 = .ok (.dup, 1) := by decide +kernel
theorem dX5_bring_37 : decode cX5_bring 37 = .ok (.ldc 80, 2) := by decide +kernel
theorem dX5_bring_39 : decode cX5_bring 39 = .ok (.invokespecial 31, 3) := by decide +kernel
theorem dX5_bring_42 : decode cX5_bring 42 = .ok (.athrow, 1) := by decide +kernel
theorem dX5_bring_43 : decode cX5_bring 43 = .ok (.aload_n 3, 1) := by decide +kernel
theorem dX5_bring_44 : decode cX5_bring 44 = .ok (.dup, 1) := by decide +kernel
theorem dX5_bring_45 : decode cX5_bring 45 = .ok (.getfield 75, 3) := by decide +kernel
theorem dX5_bring_48 : decode cX5_bring 48 = .ok (.iload_n 2, 1) := by decide +kernel
theorem dX5_bring_49 : decode cX5_bring 49 = .ok (.iadd, 1) := by decide +kernel
theorem dX5_bring_50 : decode cX5_bring 50 = .ok (.putfield 75, 3) := by decide +kernel
theorem dX5_bring_53 : decode cX5_bring 53 = .ok (.aload_n 3, 1) := by decide +kernel
theorem dX5_bring_54 : decode cX5_bring 54 = .ok (.getfield 75, 3) := by decide +kernel
theorem dX5_bring_57 : decode cX5_bring 57 = .ok (.ireturn, 1) := by decide +kernel
theorem dX5_sell_0 : decode cX5_sell 0 = .ok (.aload_n 0, 1) := by decide +kernel
theorem dX5_sell_1 : decode cX5_sell 1 = .ok (.iload_n 1, 1) := by decide +kernel
theorem dX5_sell_2 : decode cX5_sell 2 = .ok (.invokevirtual 82, 3) := by decide +kernel
theorem dX5_sell_5 : decode cX5_sell 5 = .ok (.iload_n 2, 1) := by decide +kernel
theorem dX5_sell_6 : decode cX5_sell 6 = .ok (.iconst 1, 1) := by decide +kernel
theorem dX5_sell_7 : decode cX5_sell 7 = .ok (.sipush 200, 3) := by decide +kernel
theorem dX5_sell_10 : decode cX5_sell 10 = .ok (.invokestatic 19, 3) := by decide +kernel
theorem dX5_sell_13 : decode cX5_sell 13 = .ok (.aload_n 0, 1) := by decide +kernel
theorem dX5_sell_14 : decode cX5_sell 14 = .ok (.getfield 10, 3) := by decide +kernel
theorem dX5_sell_17 : decode cX5_sell 17 = .ok (.getfield 85, 3) := by decide +kernel
theorem dX5_sell_20 : decode cX5_sell 20 = .ok (.iload_n 1, 1) := by decide +kernel
theorem dX5_sell_21 : decode cX5_sell 21 = .ok (.aaload, 1) := by decide +kernel
theorem dX5_sell_22 : decode cX5_sell 22 = .ok (.astore_n 3, 1) := by decide +kernel
theorem dX5_sell_23 : decode cX5_sell 23 = .ok (.aload_n 3, 1) := by decide +kernel
theorem dX5_sell_24 : decode cX5_sell 24 = .ok (.dup, 1) := by decide +kernel
theorem dX5_sell_25 : decode cX5_sell 25 = .ok (.getfield 89, 3) := by decide +kernel
theorem dX5_sell_28 : decode cX5_sell 28 = .ok (.iload_n 2, 1) := by decide +kernel
theorem dX5_sell_29 : decode cX5_sell 29 = .ok (.iadd, 1) := by decide +kernel
theorem dX5_sell_30 : decode cX5_sell 30 = .ok (.putfield 89, 3) := by decide +kernel
theorem dX5_sell_33 : decode cX5_sell 33 = .ok (.aload_n 3, 1) := by decide +kernel
theorem dX5_sell_34 : decode cX5_sell 34 = .ok (.iconst 0, 1) := by decide +kernel
theorem dX5_sell_35 : decode cX5_sell 35 = .ok (.putfield 94, 3) := by decide +kernel
theorem dX5_sell_38 : decode cX5_sell 38 = .ok (.aload_n 3, 1) := by decide +kernel
theorem dX5_sell_39 : decode cX5_sell 39 = .ok (.getfield 89, 3) := by decide +kernel
theorem dX5_sell_42 : decode cX5_sell 42 = .ok (.ireturn, 1) := by decide +kernel
theorem dX5_leave_0 : decode cX5_leave 0 = .ok (.aload_n 0, 1) := by decide +kernel
theorem dX5_leave_1 : decode cX5_leave 1 = .ok (.iload_n 1, 1) := by decide +kernel
theorem dX5_leave_2 : decode cX5_leave 2 = .ok (.invokevirtual 82, 3) := by decide +kernel
theorem dX5_leave_5 : decode cX5_leave 5 = .ok (.aload_n 0, 1) := by decide +kernel
theorem dX5_leave_6 : decode cX5_leave 6 = .ok (.getfield 10, 3) := by decide +kernel
theorem dX5_leave_9 : decode cX5_leave 9 = .ok (.iload_n 1, 1) := by decide +kernel
theorem dX5_leave_10 : decode cX5_leave 10 = .ok (.invokevirtual 98, 3) := by decide +kernel
theorem dX5_leave_13 : decode cX5_leave 13 = .ok (.ireturn, 1) := by decide +kernel
theorem dX5_booth_0 : decode cX5_booth 0 = .ok (.aload_n 0, 1) := by decide +kernel
theorem dX5_booth_1 : decode cX5_booth 1 = .ok (.iload_n 1, 1) := by decide +kernel
theorem dX5_booth_2 : decode cX5_booth 2 = .ok (.invokevirtual 55, 3) := by decide +kernel
theorem dX5_booth_5 : decode cX5_booth 5 = .ok (.iload_n 2, 1) := by decide +kernel
theorem dX5_booth_6 : decode cX5_booth 6 = .ok (.bipush 10, 2) := by decide +kernel
theorem dX5_booth_8 : decode cX5_booth 8 = .ok (.invokestatic 102, 3) := by decide +kernel
theorem dX5_booth_11 : decode cX5_booth 11 = .ok (.aload_n 0, 1) := by decide +kernel
theorem dX5_booth_12 : decode cX5_booth 12 = .ok (.getfield 10, 3) := by decide +kernel
theorem dX5_booth_15 : decode cX5_booth 15 = .ok (.iload_n 1, 1) := by decide +kernel
theorem dX5_booth_16 : decode cX5_booth 16 = .ok (.iload_n 2, 1) := by decide +kernel
theorem dX5_booth_17 : decode cX5_booth 17 = .ok (.invokevirtual 105, 3) := by decide +kernel
theorem dX5_booth_20 : decode cX5_booth 20 = .ok (.ireturn, 1) := by decide +kernel
theorem dX5_queue_0 : decode cX5_queue 0 = .ok (.aload_n 0, 1) := by decide +kernel
theorem dX5_queue_1 : decode cX5_queue 1 = .ok (.iload_n 1, 1) := by decide +kernel
theorem dX5_queue_2 : decode cX5_queue 2 = .ok (.invokevirtual 55, 3) := by decide +kernel
theorem dX5_queue_5 : decode cX5_queue 5 = .ok (.aload_n 0, 1) := by decide +kernel
theorem dX5_queue_6 : decode cX5_queue 6 = .ok (.getfield 10, 3) := by decide +kernel
theorem dX5_queue_9 : decode cX5_queue 9 = .ok (.getfield 71, 3) := by decide +kernel
theorem dX5_queue_12 : decode cX5_queue 12 = .ok (.iload_n 1, 1) := by decide +kernel
theorem dX5_queue_13 : decode cX5_queue 13 = .ok (.aaload, 1) := by decide +kernel
theorem dX5_queue_14 : decode cX5_queue 14 = .ok (.astore_n 3, 1) := by decide +kernel
theorem dX5_queue_15 : decode cX5_queue 15 = .ok (.iload_n 2, 1) := by decide +kernel
theorem dX5_queue_16 : decode cX5_queue 16 = .ok (.ifCond .lt 11, 3) := by decide +kernel
theorem dX5_queue_19 : decode cX5_queue 19 = .ok (.iload_n 2, 1) := by decide +kernel
theorem dX5_queue_20 : decode cX5_queue 20 = .ok (.aload_n 3, 1) := by decide +kernel
theorem dX5_queue_21 : decode cX5_queue 21 = .ok (.getfield 108, 3) := by decide +kernel
theorem dX5_queue_24 : decode cX5_queue 24 = .ok (.if_icmp .lt 13, 3) := by decide +kernel
theorem dX5_queue_27 : decode cX5_queue 27 = .ok (.new 111, 3) := by decide +kernel
theorem dX5_queue_30 : decode cX5_queue 30 = .ok (.dup, 1) := by decide +kernel
theorem dX5_queue_31 : decode cX5_queue 31 = .ok (.ldc 113, 2) := by decide +kernel
theorem dX5_queue_33 : decode cX5_queue 33 = .ok (.invokespecial 115, 3) := by decide +kernel
theorem dX5_queue_36 : decode cX5_queue 36 = .ok (.athrow, 1) := by decide +kernel
theorem dX5_queue_37 : decode cX5_queue 37 = .ok (.aload_n 3, 1) := by decide +kernel
theorem dX5_queue_38 : decode cX5_queue 38 = .ok (.getfield 116, 3) := by decide +kernel
theorem dX5_queue_41 : decode cX5_queue 41 = .ok (.iload_n 2, 1) := by decide +kernel
theorem dX5_queue_42 : decode cX5_queue 42 = .ok (.iaload, 1) := by decide +kernel
theorem dX5_queue_43 : decode cX5_queue 43 = .ok (.ireturn, 1) := by decide +kernel
theorem dX5_helper_0 : decode cX5_helper 0 = .ok (.aload_n 0, 1) := by decide +kernel
theorem dX5_helper_1 : decode cX5_helper 1 = .ok (.iload_n 1, 1) := by decide +kernel
theorem dX5_helper_2 : decode cX5_helper 2 = .ok (.invokevirtual 51, 3) := by decide +kernel
theorem dX5_helper_5 : decode cX5_helper 5 = .ok (.iload_n 2, 1) := by decide +kernel
theorem dX5_helper_6 : decode cX5_helper 6 = .ok (.iconst 3, 1) := by decide +kernel
theorem dX5_helper_7 : decode cX5_helper 7 = .ok (.invokestatic 102, 3) := by decide +kernel
theorem dX5_helper_10 : decode cX5_helper 10 = .ok (.aload_n 0, 1) := by decide +kernel
theorem dX5_helper_11 : decode cX5_helper 11 = .ok (.getfield 10, 3) := by decide +kernel
theorem dX5_helper_14 : decode cX5_helper 14 = .ok (.getfield 58, 3) := by decide +kernel
theorem dX5_helper_17 : decode cX5_helper 17 = .ok (.iload_n 1, 1) := by decide +kernel
theorem dX5_helper_18 : decode cX5_helper 18 = .ok (.aaload, 1) := by decide +kernel
theorem dX5_helper_19 : decode cX5_helper 19 = .ok (.iload_n 2, 1) := by decide +kernel
theorem dX5_helper_20 : decode cX5_helper 20 = .ok (.invokevirtual 120, 3) := by decide +kernel
theorem dX5_helper_23 : decode cX5_helper 23 = .ok (.ireturn, 1) := by decide +kernel
theorem dX5_visitor_0 : decode cX5_visitor 0 = .ok (.aload_n 0, 1) := by decide +kernel
theorem dX5_visitor_1 : decode cX5_visitor 1 = .ok (.iload_n 1, 1) := by decide +kernel
theorem dX5_visitor_2 : decode cX5_visitor 2 = .ok (.invokevirtual 82, 3) := by decide +kernel
theorem dX5_visitor_5 : decode cX5_visitor 5 = .ok (.iload_n 2, 1) := by decide +kernel
theorem dX5_visitor_6 : decode cX5_visitor 6 = .ok (.bipush 8, 2) := by decide +kernel
theorem dX5_visitor_8 : decode cX5_visitor 8 = .ok (.invokestatic 102, 3) := by decide +kernel
theorem dX5_visitor_11 : decode cX5_visitor 11 = .ok (.aload_n 0, 1) := by decide +kernel
theorem dX5_visitor_12 : decode cX5_visitor 12 = .ok (.getfield 10, 3) := by decide +kernel
theorem dX5_visitor_15 : decode cX5_visitor 15 = .ok (.getfield 85, 3) := by decide +kernel
theorem dX5_visitor_18 : decode cX5_visitor 18 = .ok (.iload_n 1, 1) := by decide +kernel
theorem dX5_visitor_19 : decode cX5_visitor 19 = .ok (.aaload, 1) := by decide +kernel
theorem dX5_visitor_20 : decode cX5_visitor 20 = .ok (.iload_n 2, 1) := by decide +kernel
theorem dX5_visitor_21 : decode cX5_visitor 21 = .ok (.invokevirtual 123, 3) := by decide +kernel
theorem dX5_visitor_24 : decode cX5_visitor 24 = .ok (.ireturn, 1) := by decide +kernel
theorem dX5_practice_0 : decode cX5_practice 0 = .ok (.aload_n 0, 1) := by decide +kernel
theorem dX5_practice_1 : decode cX5_practice 1 = .ok (.iload_n 1, 1) := by decide +kernel
theorem dX5_practice_2 : decode cX5_practice 2 = .ok (.invokevirtual 82, 3) := by decide +kernel
theorem dX5_practice_5 : decode cX5_practice 5 = .ok (.aload_n 0, 1) := by decide +kernel
theorem dX5_practice_6 : decode cX5_practice 6 = .ok (.iload_n 2, 1) := by decide +kernel
theorem dX5_practice_7 : decode cX5_practice 7 = .ok (.invokevirtual 55, 3) := by decide +kernel
theorem dX5_practice_10 : decode cX5_practice 10 = .ok (.aload_n 0, 1) := by decide +kernel
theorem dX5_practice_11 : decode cX5_practice 11 = .ok (.getfield 10, 3) := by decide +kernel
theorem dX5_practice_14 : decode cX5_practice 14 = .ok (.getfield 85, 3) := by decide +kernel
theorem dX5_practice_17 : decode cX5_practice 17 = .ok (.iload_n 1, 1) := by decide +kernel
theorem dX5_practice_18 : decode cX5_practice 18 = .ok (.aaload, 1) := by decide +kernel
theorem dX5_practice_19 : decode cX5_practice 19 = .ok (.getfield 124, 3) := by decide +kernel
theorem dX5_practice_22 : decode cX5_practice 22 = .ok (.iload_n 2, 1) := by decide +kernel
theorem dX5_practice_23 : decode cX5_practice 23 = .ok (.iaload, 1) := by decide +kernel
theorem dX5_practice_24 : decode cX5_practice 24 = .ok (.ireturn, 1) := by decide +kernel
theorem dX5_board_0 : decode cX5_board 0 = .ok (.iload_n 1, 1) := by decide +kernel
theorem dX5_board_1 : decode cX5_board 1 = .ok (.ifCond .lt 17, 3) := by decide +kernel
theorem dX5_board_4 : decode cX5_board 4 = .ok (.iload_n 1, 1) := by decide +kernel
theorem dX5_board_5 : decode cX5_board 5 = .ok (.aload_n 0, 1) := by decide +kernel
theorem dX5_board_6 : decode cX5_board 6 = .ok (.getfield 10, 3) := by decide +kernel
theorem dX5_board_9 : decode cX5_board 9 = .ok (.getfield 127, 3) := by decide +kernel
theorem dX5_board_12 : decode cX5_board 12 = .ok (.getfield 131, 3) := by decide +kernel
theorem dX5_board_15 : decode cX5_board 15 = .ok (.if_icmp .lt 13, 3) := by decide +kernel
theorem dX5_board_18 : decode cX5_board 18 = .ok (.new 111, 3) := by decide +kernel
theorem dX5_board_21 : decode cX5_board 21 = .ok (.dup, 1) := by decide +kernel
theorem dX5_board_22 : decode cX5_board 22 = .ok (.ldc 136, 2) := by decide +kernel
theorem dX5_board_24 : decode cX5_board 24 = .ok (.invokespecial 115, 3) := by decide +kernel
theorem dX5_board_27 : decode cX5_board 27 = .ok (.athrow, 1) := by decide +kernel
theorem dX5_board_28 : decode cX5_board 28 = .ok (.iload_n 2, 1) := by decide +kernel
theorem dX5_board_29 : decode cX5_board 29 = .ok (.iconst 3, 1) := by decide +kernel
theorem dX5_board_30 : decode cX5_board 30 = .ok (.invokestatic 102, 3) := by decide +kernel
theorem dX5_board_33 : decode cX5_board 33 = .ok (.aload_n 0, 1) := by decide +kernel
theorem dX5_board_34 : decode cX5_board 34 = .ok (.getfield 10, 3) := by decide +kernel
theorem dX5_board_37 : decode cX5_board 37 = .ok (.getfield 127, 3) := by decide +kernel
theorem dX5_board_40 : decode cX5_board 40 = .ok (.iload_n 1, 1) := by decide +kernel
theorem dX5_board_41 : decode cX5_board 41 = .ok (.iload_n 2, 1) := by decide +kernel
theorem dX5_board_42 : decode cX5_board 42 = .ok (.invokevirtual 138, 3) := by decide +kernel
theorem dX5_board_45 : decode cX5_board 45 = .ok (.ireturn, 1) := by decide +kernel
theorem dX5_pass_0 : decode cX5_pass 0 = .ok (.iload_n 1, 1) := by decide +kernel
theorem dX5_pass_1 : decode cX5_pass 1 = .ok (.iconst 1, 1) := by decide +kernel
theorem dX5_pass_2 : decode cX5_pass 2 = .ok (.sipush 200, 3) := by decide +kernel
theorem dX5_pass_5 : decode cX5_pass 5 = .ok (.invokestatic 19, 3) := by decide +kernel
theorem dX5_pass_8 : decode cX5_pass 8 = .ok (.aload_n 0, 1) := by decide +kernel
theorem dX5_pass_9 : decode cX5_pass 9 = .ok (.getfield 10, 3) := by decide +kernel
theorem dX5_pass_12 : decode cX5_pass 12 = .ok (.iload_n 1, 1) := by decide +kernel
theorem dX5_pass_13 : decode cX5_pass 13 = .ok (.invokevirtual 140, 3) := by decide +kernel
theorem dX5_pass_16 : decode cX5_pass 16 = .ok (.ireturn, 1) := by decide +kernel
theorem dX5_count_0 : decode cX5_count 0 = .ok (.iload_n 1, 1) := by decide +kernel
theorem dX5_count_1 : decode cX5_count 1 = .ok (.bipush 11, 2) := by decide +kernel
theorem dX5_count_3 : decode cX5_count 3 = .ok (.invokestatic 102, 3) := by decide +kernel
theorem dX5_count_6 : decode cX5_count 6 = .ok (.aload_n 0, 1) := by decide +kernel
theorem dX5_count_7 : decode cX5_count 7 = .ok (.getfield 10, 3) := by decide +kernel
theorem dX5_count_10 : decode cX5_count 10 = .ok (.iload_n 1, 1) := by decide +kernel
theorem dX5_count_11 : decode cX5_count 11 = .ok (.invokevirtual 143, 3) := by decide +kernel
theorem dX5_count_14 : decode cX5_count 14 = .ok (.ireturn, 1) := by decide +kernel
theorem dX5_foresee_0 : decode cX5_foresee 0 = .ok (.aload_n 0, 1) := by decide +kernel
theorem dX5_foresee_1 : decode cX5_foresee 1 = .ok (.iload_n 1, 1) := by decide +kernel
theorem dX5_foresee_2 : decode cX5_foresee 2 = .ok (.invokevirtual 82, 3) := by decide +kernel
theorem dX5_foresee_5 : decode cX5_foresee 5 = .ok (.iload_n 3, 1) := by decide +kernel
theorem dX5_foresee_6 : decode cX5_foresee 6 = .ok (.iconst 3, 1) := by decide +kernel
theorem dX5_foresee_7 : decode cX5_foresee 7 = .ok (.invokestatic 102, 3) := by decide +kernel
theorem dX5_foresee_10 : decode cX5_foresee 10 = .ok (.iload_n 2, 1) := by decide +kernel
theorem dX5_foresee_11 : decode cX5_foresee 11 = .ok (.iconst 1, 1) := by decide +kernel
theorem dX5_foresee_12 : decode cX5_foresee 12 = .ok (.bipush 100, 2) := by decide +kernel
theorem dX5_foresee_14 : decode cX5_foresee 14 = .ok (.invokestatic 19, 3) := by decide +kernel
theorem dX5_foresee_17 : decode cX5_foresee 17 = .ok (.aload_n 0, 1) := by decide +kernel
theorem dX5_foresee_18 : decode cX5_foresee 18 = .ok (.getfield 16, 3) := by decide +kernel
theorem dX5_foresee_21 : decode cX5_foresee 21 = .ok (.aload_n 0, 1) := by decide +kernel
theorem dX5_foresee_22 : decode cX5_foresee 22 = .ok (.getfield 10, 3) := by decide +kernel
theorem dX5_foresee_25 : decode cX5_foresee 25 = .ok (.invokevirtual 146, 3) := by decide +kernel
theorem dX5_foresee_28 : decode cX5_foresee 28 = .ok (.aload_n 0, 1) := by decide +kernel
theorem dX5_foresee_29 : decode cX5_foresee 29 = .ok (.getfield 16, 3) := by decide +kernel
theorem dX5_foresee_32 : decode cX5_foresee 32 = .ok (.iload_n 2, 1) := by decide +kernel
theorem dX5_foresee_33 : decode cX5_foresee 33 = .ok (.invokevirtual 140, 3) := by decide +kernel
theorem dX5_foresee_36 : decode cX5_foresee 36 = .ok (.pop, 1) := by decide +kernel
theorem dX5_foresee_37 : decode cX5_foresee 37 = .ok (.aload_n 0, 1) := by decide +kernel
theorem dX5_foresee_38 : decode cX5_foresee 38 = .ok (.getfield 16, 3) := by decide +kernel
theorem dX5_foresee_41 : decode cX5_foresee 41 = .ok (.getfield 85, 3) := by decide +kernel
theorem dX5_foresee_44 : decode cX5_foresee 44 = .ok (.iload_n 1, 1) := by decide +kernel
theorem dX5_foresee_45 : decode cX5_foresee 45 = .ok (.aaload, 1) := by decide +kernel
theorem dX5_foresee_46 : decode cX5_foresee 46 = .ok (.iload_n 3, 1) := by decide +kernel
theorem dX5_foresee_47 : decode cX5_foresee 47 = .ok (.invokevirtual 150, 3) := by decide +kernel
theorem dX5_foresee_50 : decode cX5_foresee 50 = .ok (.ireturn, 1) := by decide +kernel
theorem dX5_closes_0 : decode cX5_closes 0 = .ok (.aload_n 0, 1) := by decide +kernel
theorem dX5_closes_1 : decode cX5_closes 1 = .ok (.iload_n 1, 1) := by decide +kernel
theorem dX5_closes_2 : decode cX5_closes 2 = .ok (.invokevirtual 55, 3) := by decide +kernel
theorem dX5_closes_5 : decode cX5_closes 5 = .ok (.aload_n 0, 1) := by decide +kernel
theorem dX5_closes_6 : decode cX5_closes 6 = .ok (.getfield 16, 3) := by decide +kernel
theorem dX5_closes_9 : decode cX5_closes 9 = .ok (.aload_n 0, 1) := by decide +kernel
theorem dX5_closes_10 : decode cX5_closes 10 = .ok (.getfield 10, 3) := by decide +kernel
theorem dX5_closes_13 : decode cX5_closes 13 = .ok (.invokevirtual 146, 3) := by decide +kernel
theorem dX5_closes_16 : decode cX5_closes 16 = .ok (.iconst 0, 1) := by decide +kernel
theorem dX5_closes_17 : decode cX5_closes 17 = .ok (.istore_n 2, 1) := by decide +kernel
theorem dX5_closes_18 : decode cX5_closes 18 = .ok (.iload_n 2, 1) := by decide +kernel
theorem dX5_closes_19 : decode cX5_closes 19 = .ok (.bipush 100, 2) := by decide +kernel
theorem dX5_closes_21 : decode cX5_closes 21 = .ok (.if_icmp .gt 33, 3) := by decide +kernel
theorem dX5_closes_24 : decode cX5_closes 24 = .ok (.aload_n 0, 1) := by decide +kernel
theorem dX5_closes_25 : decode cX5_closes 25 = .ok (.getfield 16, 3) := by decide +kernel
theorem dX5_closes_28 : decode cX5_closes 28 = .ok (.getfield 71, 3) := by decide +kernel
theorem dX5_closes_31 : decode cX5_closes 31 = .ok (.iload_n 1, 1) := by decide +kernel
theorem dX5_closes_32 : decode cX5_closes 32 = .ok (.aaload, 1) := by decide +kernel
theorem dX5_closes_33 : decode cX5_closes 33 = .ok (.invokevirtual 153, 3) := by decide +kernel
theorem dX5_closes_36 : decode cX5_closes 36 = .ok (.ifCond .ne 5, 3) := by decide +kernel
theorem dX5_closes_39 : decode cX5_closes 39 = .ok (.iload_n 2, 1) := by decide +kernel
theorem dX5_closes_40 : decode cX5_closes 40 = .ok (.ireturn, 1) := by decide +kernel
theorem dX5_closes_41 : decode cX5_closes 41 = .ok (.aload_n 0, 1) := by decide +kernel
theorem dX5_closes_42 : decode cX5_closes 42 = .ok (.getfield 16, 3) := by decide +kernel
theorem dX5_closes_45 : decode cX5_closes 45 = .ok (.invokevirtual 157, 3) := by decide +kernel
theorem dX5_closes_48 : decode cX5_closes 48 = .ok (.iinc 2 1, 3) := by decide +kernel
end
section
theorem dX5_closes_51 : decode cX5_closes 51 = .ok (.goto (-33), 3) := by decide +kernel
theorem dX5_closes_54 : decode cX5_closes 54 = .ok (.iconst (-1), 1) := by decide +kernel
theorem dX5_closes_55 : decode cX5_closes 55 = .ok (.ireturn, 1) := by decide +kernel
theorem dX5_advise_0 : decode cX5_advise 0 = .ok (.aload_n 0, 1) := by decide +kernel
theorem dX5_advise_1 : decode cX5_advise 1 = .ok (.iload_n 1, 1) := by decide +kernel
theorem dX5_advise_2 : decode cX5_advise 2 = .ok (.invokevirtual 51, 3) := by decide +kernel
theorem dX5_advise_5 : decode cX5_advise 5 = .ok (.iload_n 2, 1) := by decide +kernel
theorem dX5_advise_6 : decode cX5_advise 6 = .ok (.iconst 1, 1) := by decide +kernel
theorem dX5_advise_7 : decode cX5_advise 7 = .ok (.bipush 60, 2) := by decide +kernel
theorem dX5_advise_9 : decode cX5_advise 9 = .ok (.invokestatic 19, 3) := by decide +kernel
theorem dX5_advise_12 : decode cX5_advise 12 = .ok (.iconst (-1), 1) := by decide +kernel
theorem dX5_advise_13 : decode cX5_advise 13 = .ok (.istore_n 3, 1) := by decide +kernel
theorem dX5_advise_14 : decode cX5_advise 14 = .ok (.aload_n 0, 1) := by decide +kernel
theorem dX5_advise_15 : decode cX5_advise 15 = .ok (.iload_n 1, 1) := by decide +kernel
theorem dX5_advise_16 : decode cX5_advise 16 = .ok (.iconst (-1), 1) := by decide +kernel
theorem dX5_advise_17 : decode cX5_advise 17 = .ok (.iload_n 2, 1) := by decide +kernel
theorem dX5_advise_18 : decode cX5_advise 18 = .ok (.invokevirtual 160, 3) := by decide +kernel
theorem dX5_advise_21 : decode cX5_advise 21 = .ok (.istore 4, 2) := by decide +kernel
theorem dX5_advise_23 : decode cX5_advise 23 = .ok (.iconst 0, 1) := by decide +kernel
theorem dX5_advise_24 : decode cX5_advise 24 = .ok (.istore 5, 2) := by decide +kernel
theorem dX5_advise_26 : decode cX5_advise 26 = .ok (.iload 5, 2) := by decide +kernel
theorem dX5_advise_28 : decode cX5_advise 28 = .ok (.aload_n 0, 1) := by decide +kernel
theorem dX5_advise_29 : decode cX5_advise 29 = .ok (.getfield 10, 3) := by decide +kernel
theorem dX5_advise_32 : decode cX5_advise 32 = .ok (.getfield 164, 3) := by decide +kernel
theorem dX5_advise_35 : decode cX5_advise 35 = .ok (.if_icmp .ge 33, 3) := by decide +kernel
theorem dX5_advise_38 : decode cX5_advise 38 = .ok (.aload_n 0, 1) := by decide +kernel
theorem dX5_advise_39 : decode cX5_advise 39 = .ok (.iload_n 1, 1) := by decide +kernel
theorem dX5_advise_40 : decode cX5_advise 40 = .ok (.iload 5, 2) := by decide +kernel
theorem dX5_advise_42 : decode cX5_advise 42 = .ok (.iload_n 2, 1) := by decide +kernel
theorem dX5_advise_43 : decode cX5_advise 43 = .ok (.invokevirtual 160, 3) := by decide +kernel
theorem dX5_advise_46 : decode cX5_advise 46 = .ok (.istore 6, 2) := by decide +kernel
theorem dX5_advise_48 : decode cX5_advise 48 = .ok (.iload 6, 2) := by decide +kernel
theorem dX5_advise_50 : decode cX5_advise 50 = .ok (.iload 4, 2) := by decide +kernel
theorem dX5_advise_52 : decode cX5_advise 52 = .ok (.if_icmp .le 10, 3) := by decide +kernel
theorem dX5_advise_55 : decode cX5_advise 55 = .ok (.iload 6, 2) := by decide +kernel
theorem dX5_advise_57 : decode cX5_advise 57 = .ok (.istore 4, 2) := by decide +kernel
theorem dX5_advise_59 : decode cX5_advise 59 = .ok (.iload 5, 2) := by decide +kernel
theorem dX5_advise_61 : decode cX5_advise 61 = .ok (.istore_n 3, 1) := by decide +kernel
theorem dX5_advise_62 : decode cX5_advise 62 = .ok (.iinc 5 1, 3) := by decide +kernel
theorem dX5_advise_65 : decode cX5_advise 65 = .ok (.goto (-39), 3) := by decide +kernel
theorem dX5_advise_68 : decode cX5_advise 68 = .ok (.iload_n 3, 1) := by decide +kernel
theorem dX5_advise_69 : decode cX5_advise 69 = .ok (.ireturn, 1) := by decide +kernel
theorem dX5_luck_0 : decode cX5_luck 0 = .ok (.aload_n 0, 1) := by decide +kernel
theorem dX5_luck_1 : decode cX5_luck 1 = .ok (.getfield 10, 3) := by decide +kernel
theorem dX5_luck_4 : decode cX5_luck 4 = .ok (.invokevirtual 167, 3) := by decide +kernel
theorem dX5_luck_7 : decode cX5_luck 7 = .ok (.istore_n 1, 1) := by decide +kernel
theorem dX5_luck_8 : decode cX5_luck 8 = .ok (.iload_n 1, 1) := by decide +kernel
theorem dX5_luck_9 : decode cX5_luck 9 = .ok (.ifCond .ne 5, 3) := by decide +kernel
theorem dX5_luck_12 : decode cX5_luck 12 = .ok (.dconst 0, 1) := by decide +kernel
theorem dX5_luck_13 : decode cX5_luck 13 = .ok (.dreturn, 1) := by decide +kernel
theorem dX5_luck_14 : decode cX5_luck 14 = .ok (.aload_n 0, 1) := by decide +kernel
theorem dX5_luck_15 : decode cX5_luck 15 = .ok (.getfield 10, 3) := by decide +kernel
theorem dX5_luck_18 : decode cX5_luck 18 = .ok (.getfield 170, 3) := by decide +kernel
theorem dX5_luck_21 : decode cX5_luck 21 = .ok (.i2d, 1) := by decide +kernel
theorem dX5_luck_22 : decode cX5_luck 22 = .ok (.iload_n 1, 1) := by decide +kernel
theorem dX5_luck_23 : decode cX5_luck 23 = .ok (.i2d, 1) := by decide +kernel
theorem dX5_luck_24 : decode cX5_luck 24 = .ok (.ddiv, 1) := by decide +kernel
theorem dX5_luck_25 : decode cX5_luck 25 = .ok (.dreturn, 1) := by decide +kernel
theorem dX5_digest_0 : decode cX5_digest 0 = .ok (.ldc2_w 173, 3) := by decide +kernel
theorem dX5_digest_3 : decode cX5_digest 3 = .ok (.lstore_n 1, 1) := by decide +kernel
theorem dX5_digest_4 : decode cX5_digest 4 = .ok (.iconst 0, 1) := by decide +kernel
theorem dX5_digest_5 : decode cX5_digest 5 = .ok (.istore_n 3, 1) := by decide +kernel
theorem dX5_digest_6 : decode cX5_digest 6 = .ok (.iload_n 3, 1) := by decide +kernel
theorem dX5_digest_7 : decode cX5_digest 7 = .ok (.bipush 11, 2) := by decide +kernel
theorem dX5_digest_9 : decode cX5_digest 9 = .ok (.if_icmp .ge 22, 3) := by decide +kernel
theorem dX5_digest_12 : decode cX5_digest 12 = .ok (.lload_n 1, 1) := by decide +kernel
theorem dX5_digest_13 : decode cX5_digest 13 = .ok (.aload_n 0, 1) := by decide +kernel
theorem dX5_digest_14 : decode cX5_digest 14 = .ok (.getfield 10, 3) := by decide +kernel
theorem dX5_digest_17 : decode cX5_digest 17 = .ok (.iload_n 3, 1) := by decide +kernel
theorem dX5_digest_18 : decode cX5_digest 18 = .ok (.invokevirtual 143, 3) := by decide +kernel
theorem dX5_digest_21 : decode cX5_digest 21 = .ok (.invokestatic 175, 3) := by decide +kernel
theorem dX5_digest_24 : decode cX5_digest 24 = .ok (.lstore_n 1, 1) := by decide +kernel
theorem dX5_digest_25 : decode cX5_digest 25 = .ok (.iinc 3 1, 3) := by decide +kernel
theorem dX5_digest_28 : decode cX5_digest 28 = .ok (.goto (-22), 3) := by decide +kernel
theorem dX5_digest_31 : decode cX5_digest 31 = .ok (.iconst 0, 1) := by decide +kernel
theorem dX5_digest_32 : decode cX5_digest 32 = .ok (.istore_n 3, 1) := by decide +kernel
theorem dX5_digest_33 : decode cX5_digest 33 = .ok (.iload_n 3, 1) := by decide +kernel
theorem dX5_digest_34 : decode cX5_digest 34 = .ok (.aload_n 0, 1) := by decide +kernel
theorem dX5_digest_35 : decode cX5_digest 35 = .ok (.getfield 10, 3) := by decide +kernel
theorem dX5_digest_38 : decode cX5_digest 38 = .ok (.getfield 164, 3) := by decide +kernel
theorem dX5_digest_41 : decode cX5_digest 41 = .ok (.if_icmp .ge 16, 3) := by decide +kernel
theorem dX5_digest_44 : decode cX5_digest 44 = .ok (.aload_n 0, 1) := by decide +kernel
theorem dX5_digest_45 : decode cX5_digest 45 = .ok (.lload_n 1, 1) := by decide +kernel
theorem dX5_digest_46 : decode cX5_digest 46 = .ok (.iload_n 3, 1) := by decide +kernel
theorem dX5_digest_47 : decode cX5_digest 47 = .ok (.invokevirtual 179, 3) := by decide +kernel
theorem dX5_digest_50 : decode cX5_digest 50 = .ok (.lstore_n 1, 1) := by decide +kernel
theorem dX5_digest_51 : decode cX5_digest 51 = .ok (.iinc 3 1, 3) := by decide +kernel
theorem dX5_digest_54 : decode cX5_digest 54 = .ok (.goto (-21), 3) := by decide +kernel
theorem dX5_digest_57 : decode cX5_digest 57 = .ok (.iconst 0, 1) := by decide +kernel
theorem dX5_digest_58 : decode cX5_digest 58 = .ok (.istore_n 3, 1) := by decide +kernel
theorem dX5_digest_59 : decode cX5_digest 59 = .ok (.iload_n 3, 1) := by decide +kernel
theorem dX5_digest_60 : decode cX5_digest 60 = .ok (.aload_n 0, 1) := by decide +kernel
theorem dX5_digest_61 : decode cX5_digest 61 = .ok (.getfield 10, 3) := by decide +kernel
theorem dX5_digest_64 : decode cX5_digest 64 = .ok (.getfield 182, 3) := by decide +kernel
theorem dX5_digest_67 : decode cX5_digest 67 = .ok (.if_icmp .ge 43, 3) := by decide +kernel
theorem dX5_digest_70 : decode cX5_digest 70 = .ok (.iconst 0, 1) := by decide +kernel
theorem dX5_digest_71 : decode cX5_digest 71 = .ok (.istore 4, 2) := by decide +kernel
theorem dX5_digest_73 : decode cX5_digest 73 = .ok (.iload 4, 2) := by decide +kernel
theorem dX5_digest_75 : decode cX5_digest 75 = .ok (.iconst 3, 1) := by decide +kernel
theorem dX5_digest_76 : decode cX5_digest 76 = .ok (.if_icmp .ge 28, 3) := by decide +kernel
theorem dX5_digest_79 : decode cX5_digest 79 = .ok (.lload_n 1, 1) := by decide +kernel
theorem dX5_digest_80 : decode cX5_digest 80 = .ok (.aload_n 0, 1) := by decide +kernel
theorem dX5_digest_81 : decode cX5_digest 81 = .ok (.getfield 10, 3) := by decide +kernel
theorem dX5_digest_84 : decode cX5_digest 84 = .ok (.getfield 58, 3) := by decide +kernel
theorem dX5_digest_87 : decode cX5_digest 87 = .ok (.iload_n 3, 1) := by decide +kernel
theorem dX5_digest_88 : decode cX5_digest 88 = .ok (.aaload, 1) := by decide +kernel
theorem dX5_digest_89 : decode cX5_digest 89 = .ok (.iload 4, 2) := by decide +kernel
theorem dX5_digest_91 : decode cX5_digest 91 = .ok (.invokevirtual 120, 3) := by decide +kernel
theorem dX5_digest_94 : decode cX5_digest 94 = .ok (.invokestatic 175, 3) := by decide +kernel
theorem dX5_digest_97 : decode cX5_digest 97 = .ok (.lstore_n 1, 1) := by decide +kernel
theorem dX5_digest_98 : decode cX5_digest 98 = .ok (.iinc 4 1, 3) := by decide +kernel
theorem dX5_digest_101 : decode cX5_digest 101 = .ok (.goto (-28), 3) := by decide +kernel
theorem dX5_digest_104 : decode cX5_digest 104 = .ok (.iinc 3 1, 3) := by decide +kernel
theorem dX5_digest_107 : decode cX5_digest 107 = .ok (.goto (-48), 3) := by decide +kernel
theorem dX5_digest_110 : decode cX5_digest 110 = .ok (.iconst 0, 1) := by decide +kernel
theorem dX5_digest_111 : decode cX5_digest 111 = .ok (.istore_n 3, 1) := by decide +kernel
theorem dX5_digest_112 : decode cX5_digest 112 = .ok (.iload_n 3, 1) := by decide +kernel
theorem dX5_digest_113 : decode cX5_digest 113 = .ok (.aload_n 0, 1) := by decide +kernel
theorem dX5_digest_114 : decode cX5_digest 114 = .ok (.getfield 10, 3) := by decide +kernel
theorem dX5_digest_117 : decode cX5_digest 117 = .ok (.getfield 185, 3) := by decide +kernel
theorem dX5_digest_120 : decode cX5_digest 120 = .ok (.if_icmp .ge 24, 3) := by decide +kernel
theorem dX5_digest_123 : decode cX5_digest 123 = .ok (.aload_n 0, 1) := by decide +kernel
theorem dX5_digest_124 : decode cX5_digest 124 = .ok (.lload_n 1, 1) := by decide +kernel
theorem dX5_digest_125 : decode cX5_digest 125 = .ok (.aload_n 0, 1) := by decide +kernel
theorem dX5_digest_126 : decode cX5_digest 126 = .ok (.getfield 10, 3) := by decide +kernel
theorem dX5_digest_129 : decode cX5_digest 129 = .ok (.getfield 85, 3) := by decide +kernel
theorem dX5_digest_132 : decode cX5_digest 132 = .ok (.iload_n 3, 1) := by decide +kernel
theorem dX5_digest_133 : decode cX5_digest 133 = .ok (.aaload, 1) := by decide +kernel
theorem dX5_digest_134 : decode cX5_digest 134 = .ok (.invokevirtual 188, 3) := by decide +kernel
theorem dX5_digest_137 : decode cX5_digest 137 = .ok (.lstore_n 1, 1) := by decide +kernel
theorem dX5_digest_138 : decode cX5_digest 138 = .ok (.iinc 3 1, 3) := by decide +kernel
theorem dX5_digest_141 : decode cX5_digest 141 = .ok (.goto (-29), 3) := by decide +kernel
theorem dX5_digest_144 : decode cX5_digest 144 = .ok (.iconst 0, 1) := by decide +kernel
theorem dX5_digest_145 : decode cX5_digest 145 = .ok (.istore_n 3, 1) := by decide +kernel
theorem dX5_digest_146 : decode cX5_digest 146 = .ok (.iload_n 3, 1) := by decide +kernel
theorem dX5_digest_147 : decode cX5_digest 147 = .ok (.aload_n 0, 1) := by decide +kernel
theorem dX5_digest_148 : decode cX5_digest 148 = .ok (.getfield 10, 3) := by decide +kernel
theorem dX5_digest_151 : decode cX5_digest 151 = .ok (.getfield 127, 3) := by decide +kernel
theorem dX5_digest_154 : decode cX5_digest 154 = .ok (.getfield 131, 3) := by decide +kernel
theorem dX5_digest_157 : decode cX5_digest 157 = .ok (.if_icmp .ge 42, 3) := by decide +kernel
theorem dX5_digest_160 : decode cX5_digest 160 = .ok (.iconst 0, 1) := by decide +kernel
theorem dX5_digest_161 : decode cX5_digest 161 = .ok (.istore 4, 2) := by decide +kernel
theorem dX5_digest_163 : decode cX5_digest 163 = .ok (.iload 4, 2) := by decide +kernel
theorem dX5_digest_165 : decode cX5_digest 165 = .ok (.iconst 3, 1) := by decide +kernel
theorem dX5_digest_166 : decode cX5_digest 166 = .ok (.if_icmp .ge 27, 3) := by decide +kernel
theorem dX5_digest_169 : decode cX5_digest 169 = .ok (.lload_n 1, 1) := by decide +kernel
theorem dX5_digest_170 : decode cX5_digest 170 = .ok (.aload_n 0, 1) := by decide +kernel
theorem dX5_digest_171 : decode cX5_digest 171 = .ok (.getfield 10, 3) := by decide +kernel
theorem dX5_digest_174 : decode cX5_digest 174 = .ok (.getfield 127, 3) := by decide +kernel
theorem dX5_digest_177 : decode cX5_digest 177 = .ok (.iload_n 3, 1) := by decide +kernel
theorem dX5_digest_178 : decode cX5_digest 178 = .ok (.iload 4, 2) := by decide +kernel
theorem dX5_digest_180 : decode cX5_digest 180 = .ok (.invokevirtual 138, 3) := by decide +kernel
theorem dX5_digest_183 : decode cX5_digest 183 = .ok (.invokestatic 175, 3) := by decide +kernel
theorem dX5_digest_186 : decode cX5_digest 186 = .ok (.lstore_n 1, 1) := by decide +kernel
theorem dX5_digest_187 : decode cX5_digest 187 = .ok (.iinc 4 1, 3) := by decide +kernel
theorem dX5_digest_190 : decode cX5_digest 190 = .ok (.goto (-27), 3) := by decide +kernel
theorem dX5_digest_193 : decode cX5_digest 193 = .ok (.iinc 3 1, 3) := by decide +kernel
theorem dX5_digest_196 : decode cX5_digest 196 = .ok (.goto (-50), 3) := by decide +kernel
theorem dX5_digest_199 : decode cX5_digest 199 = .ok (.lload_n 1, 1) := by decide +kernel
theorem dX5_digest_200 : decode cX5_digest 200 = .ok (.lreturn, 1) := by decide +kernel
theorem dX5_withBooth_0 : decode cX5_withBooth 0 = .ok (.lload_n 1, 1) := by decide +kernel
theorem dX5_withBooth_1 : decode cX5_withBooth 1 = .ok (.lstore 4, 2) := by decide +kernel
theorem dX5_withBooth_3 : decode cX5_withBooth 3 = .ok (.iconst 0, 1) := by decide +kernel
theorem dX5_withBooth_4 : decode cX5_withBooth 4 = .ok (.istore 6, 2) := by decide +kernel
theorem dX5_withBooth_6 : decode cX5_withBooth 6 = .ok (.iload 6, 2) := by decide +kernel
theorem dX5_withBooth_8 : decode cX5_withBooth 8 = .ok (.bipush 10, 2) := by decide +kernel
theorem dX5_withBooth_10 : decode cX5_withBooth 10 = .ok (.if_icmp .ge 26, 3) := by decide +kernel
theorem dX5_withBooth_13 : decode cX5_withBooth 13 = .ok (.lload 4, 2) := by decide +kernel
theorem dX5_withBooth_15 : decode cX5_withBooth 15 = .ok (.aload_n 0, 1) := by decide +kernel
theorem dX5_withBooth_16 : decode cX5_withBooth 16 = .ok (.getfield 10, 3) := by decide +kernel
theorem dX5_withBooth_19 : decode cX5_withBooth 19 = .ok (.iload_n 3, 1) := by decide +kernel
theorem dX5_withBooth_20 : decode cX5_withBooth 20 = .ok (.iload 6, 2) := by decide +kernel
theorem dX5_withBooth_22 : decode cX5_withBooth 22 = .ok (.invokevirtual 105, 3) := by decide +kernel
theorem dX5_withBooth_25 : decode cX5_withBooth 25 = .ok (.invokestatic 175, 3) := by decide +kernel
theorem dX5_withBooth_28 : decode cX5_withBooth 28 = .ok (.lstore 4, 2) := by decide +kernel
theorem dX5_withBooth_30 : decode cX5_withBooth 30 = .ok (.iinc 6 1, 3) := by decide +kernel
theorem dX5_withBooth_33 : decode cX5_withBooth 33 = .ok (.goto (-27), 3) := by decide +kernel
theorem dX5_withBooth_36 : decode cX5_withBooth 36 = .ok (.aload_n 0, 1) := by decide +kernel
theorem dX5_withBooth_37 : decode cX5_withBooth 37 = .ok (.getfield 10, 3) := by decide +kernel
theorem dX5_withBooth_40 : decode cX5_withBooth 40 = .ok (.getfield 71, 3) := by decide +kernel
theorem dX5_withBooth_43 : decode cX5_withBooth 43 = .ok (.iload_n 3, 1) := by decide +kernel
theorem dX5_withBooth_44 : decode cX5_withBooth 44 = .ok (.aaload, 1) := by decide +kernel
theorem dX5_withBooth_45 : decode cX5_withBooth 45 = .ok (.astore 6, 2) := by decide +kernel
theorem dX5_withBooth_47 : decode cX5_withBooth 47 = .ok (.iconst 0, 1) := by decide +kernel
theorem dX5_withBooth_48 : decode cX5_withBooth 48 = .ok (.istore 7, 2) := by decide +kernel
theorem dX5_withBooth_50 : decode cX5_withBooth 50 = .ok (.iload 7, 2) := by decide +kernel
theorem dX5_withBooth_52 : decode cX5_withBooth 52 = .ok (.aload 6, 2) := by decide +kernel
theorem dX5_withBooth_54 : decode cX5_withBooth 54 = .ok (.getfield 108, 3) := by decide +kernel
theorem dX5_withBooth_57 : decode cX5_withBooth 57 = .ok (.if_icmp .ge 24, 3) := by decide +kernel
theorem dX5_withBooth_60 : decode cX5_withBooth 60 = .ok (.lload 4, 2) := by decide +kernel
theorem dX5_withBooth_62 : decode cX5_withBooth 62 = .ok (.aload 6, 2) := by decide +kernel
theorem dX5_withBooth_64 : decode cX5_withBooth 64 = .ok (.getfield 116, 3) := by decide +kernel
theorem dX5_withBooth_67 : decode cX5_withBooth 67 = .ok (.iload 7, 2) := by decide +kernel
theorem dX5_withBooth_69 : decode cX5_withBooth 69 = .ok (.iaload, 1) := by decide +kernel
theorem dX5_withBooth_70 : decode cX5_withBooth 70 = .ok (.invokestatic 175, 3) := by decide +kernel
theorem dX5_withBooth_73 : decode cX5_withBooth 73 = .ok (.lstore 4, 2) := by decide +kernel
theorem dX5_withBooth_75 : decode cX5_withBooth 75 = .ok (.iinc 7 1, 3) := by decide +kernel
theorem dX5_withBooth_78 : decode cX5_withBooth 78 = .ok (.goto (-28), 3) := by decide +kernel
theorem dX5_withBooth_81 : decode cX5_withBooth 81 = .ok (.lload 4, 2) := by decide +kernel
theorem dX5_withBooth_83 : decode cX5_withBooth 83 = .ok (.lreturn, 1) := by decide +kernel
theorem dX5_withVisitor_0 : decode cX5_withVisitor 0 = .ok (.lload_n 1, 1) := by decide +kernel
theorem dX5_withVisitor_1 : decode cX5_withVisitor 1 = .ok (.lstore 4, 2) := by decide +kernel
theorem dX5_withVisitor_3 : decode cX5_withVisitor 3 = .ok (.iconst 0, 1) := by decide +kernel
theorem dX5_withVisitor_4 : decode cX5_withVisitor 4 = .ok (.istore 6, 2) := by decide +kernel
theorem dX5_withVisitor_6 : decode cX5_withVisitor 6 = .ok (.iload 6, 2) := by decide +kernel
theorem dX5_withVisitor_8 : decode cX5_withVisitor 8 = .ok (.bipush 8, 2) := by decide +kernel
theorem dX5_withVisitor_10 : decode cX5_withVisitor 10 = .ok (.if_icmp .ge 22, 3) := by decide +kernel
theorem dX5_withVisitor_13 : decode cX5_withVisitor 13 = .ok (.lload 4, 2) := by decide +kernel
theorem dX5_withVisitor_15 : decode cX5_withVisitor 15 = .ok (.aload_n 3, 1) := by decide +kernel
theorem dX5_withVisitor_16 : decode cX5_withVisitor 16 = .ok (.iload 6, 2) := by decide +kernel
theorem dX5_withVisitor_18 : decode cX5_withVisitor 18 = .ok (.invokevirtual 123, 3) := by decide +kernel
theorem dX5_withVisitor_21 : decode cX5_withVisitor 21 = .ok (.invokestatic 175, 3) := by decide +kernel
theorem dX5_withVisitor_24 : decode cX5_withVisitor 24 = .ok (.lstore 4, 2) := by decide +kernel
theorem dX5_withVisitor_26 : decode cX5_withVisitor 26 = .ok (.iinc 6 1, 3) := by decide +kernel
theorem dX5_withVisitor_29 : decode cX5_withVisitor 29 = .ok (.goto (-23), 3) := by decide +kernel
theorem dX5_withVisitor_32 : decode cX5_withVisitor 32 = .ok (.iconst 0, 1) := by decide +kernel
theorem dX5_withVisitor_33 : decode cX5_withVisitor 33 = .ok (.istore 6, 2) := by decide +kernel
theorem dX5_withVisitor_35 : decode cX5_withVisitor 35 = .ok (.iload 6, 2) := by decide +kernel
theorem dX5_withVisitor_37 : decode cX5_withVisitor 37 = .ok (.aload_n 0, 1) := by decide +kernel
theorem dX5_withVisitor_38 : decode cX5_withVisitor 38 = .ok (.getfield 10, 3) := by decide +kernel
theorem dX5_withVisitor_41 : decode cX5_withVisitor 41 = .ok (.getfield 164, 3) := by decide +kernel
theorem dX5_withVisitor_44 : decode cX5_withVisitor 44 = .ok (.if_icmp .ge 23, 3) := by decide +kernel
theorem dX5_withVisitor_47 : decode cX5_withVisitor 47 = .ok (.lload 4, 2) := by decide +kernel
theorem dX5_withVisitor_49 : decode cX5_withVisitor 49 = .ok (.aload_n 3, 1) := by decide +kernel
theorem dX5_withVisitor_50 : decode cX5_withVisitor 50 = .ok (.getfield 124, 3) := by decide +kernel
theorem dX5_withVisitor_53 : decode cX5_withVisitor 53 = .ok (.iload 6, 2) := by decide +kernel
theorem dX5_withVisitor_55 : decode cX5_withVisitor 55 = .ok (.iaload, 1) := by decide +kernel
theorem dX5_withVisitor_56 : decode cX5_withVisitor 56 = .ok (.invokestatic 175, 3) := by decide +kernel
theorem dX5_withVisitor_59 : decode cX5_withVisitor 59 = .ok (.lstore 4, 2) := by decide +kernel
theorem dX5_withVisitor_61 : decode cX5_withVisitor 61 = .ok (.iinc 6 1, 3) := by decide +kernel
theorem dX5_withVisitor_64 : decode cX5_withVisitor 64 = .ok (.goto (-29), 3) := by decide +kernel
theorem dX5_withVisitor_67 : decode cX5_withVisitor 67 = .ok (.lload 4, 2) := by decide +kernel
theorem dX5_withVisitor_69 : decode cX5_withVisitor 69 = .ok (.lreturn, 1) := by decide +kernel
theorem dX5_mixed_0 : decode cX5_mixed 0 = .ok (.lload_n 0, 1) := by decide +kernel
theorem dX5_mixed_1 : decode cX5_mixed 1 = .ok (.ldc2_w 192, 3) := by decide +kernel
theorem dX5_mixed_4 : decode cX5_mixed 4 = .ok (.lmul, 1) := by decide +kernel
theorem dX5_mixed_5 : decode cX5_mixed 5 = .ok (.iload_n 2, 1) := by decide +kernel
theorem dX5_mixed_6 : decode cX5_mixed 6 = .ok (.i2l, 1) := by decide +kernel
theorem dX5_mixed_7 : decode cX5_mixed 7 = .ok (.ladd, 1) := by decide +kernel
theorem dX5_mixed_8 : decode cX5_mixed 8 = .ok (.lreturn, 1) := by decide +kernel
theorem dX5_prizesWonWith_0 : decode cX5_prizesWonWith 0 = .ok (.aload_n 0, 1) := by decide +kernel
theorem dX5_prizesWonWith_1 : decode cX5_prizesWonWith 1 = .ok (.getfield 16, 3) := by decide +kernel
theorem dX5_prizesWonWith_4 : decode cX5_prizesWonWith 4 = .ok (.aload_n 0, 1) := by decide +kernel
theorem dX5_prizesWonWith_5 : decode cX5_prizesWonWith 5 = .ok (.getfield 10, 3) := by decide +kernel
theorem dX5_prizesWonWith_8 : decode cX5_prizesWonWith 8 = .ok (.invokevirtual 146, 3) := by decide +kernel
theorem dX5_prizesWonWith_11 : decode cX5_prizesWonWith 11 = .ok (.aload_n 0, 1) := by decide +kernel
theorem dX5_prizesWonWith_12 : decode cX5_prizesWonWith 12 = .ok (.getfield 16, 3) := by decide +kernel
theorem dX5_prizesWonWith_15 : decode cX5_prizesWonWith 15 = .ok (.iload_n 1, 1) := by decide +kernel
theorem dX5_prizesWonWith_16 : decode cX5_prizesWonWith 16 = .ok (.iload_n 2, 1) := by decide +kernel
theorem dX5_prizesWonWith_17 : decode cX5_prizesWonWith 17 = .ok (.invokevirtual 67, 3) := by decide +kernel
theorem dX5_prizesWonWith_20 : decode cX5_prizesWonWith 20 = .ok (.aload_n 0, 1) := by decide +kernel
theorem dX5_prizesWonWith_21 : decode cX5_prizesWonWith 21 = .ok (.getfield 16, 3) := by decide +kernel
theorem dX5_prizesWonWith_24 : decode cX5_prizesWonWith 24 = .ok (.iload_n 3, 1) := by decide +kernel
theorem dX5_prizesWonWith_25 : decode cX5_prizesWonWith 25 = .ok (.invokevirtual 140, 3) := by decide +kernel
theorem dX5_prizesWonWith_28 : decode cX5_prizesWonWith 28 = .ok (.ireturn, 1) := by decide +kernel
theorem dX5_requireBooth_0 : decode cX5_requireBooth 0 = .ok (.aload_n 0, 1) := by decide +kernel
theorem dX5_requireBooth_1 : decode cX5_requireBooth 1 = .ok (.getfield 10, 3) := by decide +kernel
theorem dX5_requireBooth_4 : decode cX5_requireBooth 4 = .ok (.iload_n 1, 1) := by decide +kernel
theorem dX5_requireBooth_5 : decode cX5_requireBooth 5 = .ok (.invokevirtual 194, 3) := by decide +kernel
theorem dX5_requireBooth_8 : decode cX5_requireBooth 8 = .ok (.ifCond .ne 13, 3) := by decide +kernel
theorem dX5_requireBooth_11 : decode cX5_requireBooth 11 = .ok (.new 111, 3) := by decide +kernel
theorem dX5_requireBooth_14 : decode cX5_requireBooth 14 = .ok (.dup, 1) := by decide +kernel
theorem dX5_requireBooth_15 : decode cX5_requireBooth 15 = .ok (.ldc 198, 2) := by decide +kernel
theorem dX5_requireBooth_17 : decode cX5_requireBooth 17 = .ok (.invokespecial 115, 3) := by decide +kernel
theorem dX5_requireBooth_20 : decode cX5_requireBooth 20 = .ok (.athrow, 1) := by decide +kernel
theorem dX5_requireBooth_21 : decode cX5_requireBooth 21 = .ok (.return_, 1) := by decide +kernel
theorem dX5_requireHelper_0 : decode cX5_requireHelper 0 = .ok (.aload_n 0, 1) := by decide +kernel
theorem dX5_requireHelper_1 : decode cX5_requireHelper 1 = .ok (.getfield 10, 3) := by decide +kernel
theorem dX5_requireHelper_4 : decode cX5_requireHelper 4 = .ok (.iload_n 1, 1) := by decide +kernel
theorem dX5_requireHelper_5 : decode cX5_requireHelper 5 = .ok (.invokevirtual 200, 3) := by decide +kernel
theorem dX5_requireHelper_8 : decode cX5_requireHelper 8 = .ok (.ifCond .ne 13, 3) := by decide +kernel
theorem dX5_requireHelper_11 : decode cX5_requireHelper 11 = .ok (.new 111, 3) := by decide +kernel
theorem dX5_requireHelper_14 : decode cX5_requireHelper 14 = .ok (.dup, 1) := by decide +kernel
theorem dX5_requireHelper_15 : decode cX5_requireHelper 15 = .ok (.ldc 203, 2) := by decide +kernel
theorem dX5_requireHelper_17 : decode cX5_requireHelper 17 = .ok (.invokespecial 115, 3) := by decide +kernel
theorem dX5_requireHelper_20 : decode cX5_requireHelper 20 = .ok (.athrow, 1) := by decide +kernel
theorem dX5_requireHelper_21 : decode cX5_requireHelper 21 = .ok (.return_, 1) := by decide +kernel
theorem dX5_requireVisitor_0 : decode cX5_requireVisitor 0 = .ok (.aload_n 0, 1) := by decide +kernel
theorem dX5_requireVisitor_1 : decode cX5_requireVisitor 1 = .ok (.getfield 10, 3) := by decide +kernel
theorem dX5_requireVisitor_4 : decode cX5_requireVisitor 4 = .ok (.iload_n 1, 1) := by decide +kernel
theorem dX5_requireVisitor_5 : decode cX5_requireVisitor 5 = .ok (.invokevirtual 205, 3) := by decide +kernel
theorem dX5_requireVisitor_8 : decode cX5_requireVisitor 8 = .ok (.ifCond .ne 13, 3) := by decide +kernel
theorem dX5_requireVisitor_11 : decode cX5_requireVisitor 11 = .ok (.new 111, 3) := by decide +kernel
theorem dX5_requireVisitor_14 : decode cX5_requireVisitor 14 = .ok (.dup, 1) := by decide +kernel
theorem dX5_requireVisitor_15 : decode cX5_requireVisitor 15 = .ok (.ldc 208, 2) := by decide +kernel
theorem dX5_requireVisitor_17 : decode cX5_requireVisitor 17 = .ok (.invokespecial 115, 3) := by decide +kernel
theorem dX5_requireVisitor_20 : decode cX5_requireVisitor 20 = .ok (.athrow, 1) := by decide +kernel
theorem dX5_requireVisitor_21 : decode cX5_requireVisitor 21 = .ok (.return_, 1) := by decide +kernel
theorem dX5_requireFact_0 : decode cX5_requireFact 0 = .ok (.iload_n 0, 1) := by decide +kernel
theorem dX5_requireFact_1 : decode cX5_requireFact 1 = .ok (.ifCond .lt 8, 3) := by decide +kernel
theorem dX5_requireFact_4 : decode cX5_requireFact 4 = .ok (.iload_n 0, 1) := by decide +kernel
theorem dX5_requireFact_5 : decode cX5_requireFact 5 = .ok (.iload_n 1, 1) := by decide +kernel
theorem dX5_requireFact_6 : decode cX5_requireFact 6 = .ok (.if_icmp .lt 13, 3) := by decide +kernel
theorem dX5_requireFact_9 : decode cX5_requireFact 9 = .ok (.new 111, 3) := by decide +kernel
theorem dX5_requireFact_12 : decode cX5_requireFact 12 = .ok (.dup, 1) := by decide +kernel
theorem dX5_requireFact_13 : decode cX5_requireFact 13 = .ok (.ldc 210, 2) := by decide +kernel
theorem dX5_requireFact_15 : decode cX5_requireFact 15 = .ok (.invokespecial 115, 3) := by decide +kernel
theorem dX5_requireFact_18 : decode cX5_requireFact 18 = .ok (.athrow, 1) := by decide +kernel
theorem dX5_requireFact_19 : decode cX5_requireFact 19 = .ok (.return_, 1) := by decide +kernel
theorem dX5_requireRange_0 : decode cX5_requireRange 0 = .ok (.iload_n 0, 1) := by decide +kernel
theorem dX5_requireRange_1 : decode cX5_requireRange 1 = .ok (.iload_n 1, 1) := by decide +kernel
theorem dX5_requireRange_2 : decode cX5_requireRange 2 = .ok (.if_icmp .lt 8, 3) := by decide +kernel
theorem dX5_requireRange_5 : decode cX5_requireRange 5 = .ok (.iload_n 0, 1) := by decide +kernel
theorem dX5_requireRange_6 : decode cX5_requireRange 6 = .ok (.iload_n 2, 1) := by decide +kernel
theorem dX5_requireRange_7 : decode cX5_requireRange 7 = .ok (.if_icmp .le 13, 3) := by decide +kernel
theorem dX5_requireRange_10 : decode cX5_requireRange 10 = .ok (.new 212, 3) := by decide +kernel
theorem dX5_requireRange_13 : decode cX5_requireRange 13 = .ok (.dup, 1) := by decide +kernel
theorem dX5_requireRange_14 : decode cX5_requireRange 14 = .ok (.ldc 214, 2) := by decide +kernel
theorem dX5_requireRange_16 : decode cX5_requireRange 16 = .ok (.invokespecial 216, 3) := by decide +kernel
theorem dX5_requireRange_19 : decode cX5_requireRange 19 = .ok (.athrow, 1) := by decide +kernel
theorem dX5_requireRange_20 : decode cX5_requireRange 20 = .ok (.return_, 1) := by decide +kernel
theorem dX6_init_0 : decode cX6_init 0 = .ok (.aload_n 0, 1) := by decide +kernel
theorem dX6_init_1 : decode cX6_init 1 = .ok (.invokespecial 1, 3) := by decide +kernel
theorem dX6_init_4 : decode cX6_init 4 = .ok (.aload_n 0, 1) := by decide +kernel
theorem dX6_init_5 : decode cX6_init 5 = .ok (.bipush 48, 2) := by decide +kernel
theorem dX6_init_7 : decode cX6_init 7 = .ok (.newarray .int, 2) := by decide +kernel
theorem dX6_init_9 : decode cX6_init 9 = .ok (.putfield 9, 3) := by decide +kernel
theorem dX6_init_12 : decode cX6_init 12 = .ok (.aload_n 0, 1) := by decide +kernel
theorem dX6_init_13 : decode cX6_init 13 = .ok (.bipush 36, 2) := by decide +kernel
theorem dX6_init_15 : decode cX6_init 15 = .ok (.newarray .int, 2) := by decide +kernel
theorem dX6_init_17 : decode cX6_init 17 = .ok (.putfield 13, 3) := by decide +kernel
theorem dX6_init_20 : decode cX6_init 20 = .ok (.aload_n 0, 1) := by decide +kernel
theorem dX6_init_21 : decode cX6_init 21 = .ok (.sipush 144, 3) := by decide +kernel
theorem dX6_init_24 : decode cX6_init 24 = .ok (.newarray .int, 2) := by decide +kernel
theorem dX6_init_26 : decode cX6_init 26 = .ok (.putfield 16, 3) := by decide +kernel
theorem dX6_init_29 : decode cX6_init 29 = .ok (.aload_n 0, 1) := by decide +kernel
theorem dX6_init_30 : decode cX6_init 30 = .ok (.sipush 128, 3) := by decide +kernel
theorem dX6_init_33 : decode cX6_init 33 = .ok (.newarray .int, 2) := by decide +kernel
theorem dX6_init_35 : decode cX6_init 35 = .ok (.putfield 19, 3) := by decide +kernel
theorem dX6_init_38 : decode cX6_init 38 = .ok (.aload_n 0, 1) := by decide +kernel
theorem dX6_init_39 : decode cX6_init 39 = .ok (.bipush 9, 2) := by decide +kernel
theorem dX6_init_41 : decode cX6_init 41 = .ok (.newarray .int, 2) := by decide +kernel
theorem dX6_init_43 : decode cX6_init 43 = .ok (.putfield 22, 3) := by decide +kernel
theorem dX6_init_46 : decode cX6_init 46 = .ok (.aload_n 0, 1) := by decide +kernel
theorem dX6_init_47 : decode cX6_init 47 = .ok (.iconst 5, 1) := by decide +kernel
theorem dX6_init_48 : decode cX6_init 48 = .ok (.newarray .int, 2) := by decide +kernel
theorem dX6_init_50 : decode cX6_init 50 = .ok (.dup, 1) := by decide +kernel
theorem dX6_init_51 : decode cX6_init 51 = .ok (.iconst 0, 1) := by decide +kernel
theorem dX6_init_52 : decode cX6_init 52 = .ok (.iconst 0, 1) := by decide +kernel
theorem dX6_init_53 : decode cX6_init 53 = .ok (.iastore, 1) := by decide +kernel
theorem dX6_init_54 : decode cX6_init 54 = .ok (.dup, 1) := by decide +kernel
theorem dX6_init_55 : decode cX6_init 55 = .ok (.iconst 1, 1) := by decide +kernel
theorem dX6_init_56 : decode cX6_init 56 = .ok (.iconst 1, 1) := by decide +kernel
theorem dX6_init_57 : decode cX6_init 57 = .ok (.iastore, 1) := by decide +kernel
theorem dX6_init_58 : decode cX6_init 58 = .ok (.dup, 1) := by decide +kernel
theorem dX6_init_59 : decode cX6_init 59 = .ok (.iconst 2, 1) := by decide +kernel
theorem dX6_init_60 : decode cX6_init 60 = .ok (.iconst (-1), 1) := by decide +kernel
theorem dX6_init_61 : decode cX6_init 61 = .ok (.iastore, 1) := by decide +kernel
theorem dX6_init_62 : decode cX6_init 62 = .ok (.dup, 1) := by decide +kernel
theorem dX6_init_63 : decode cX6_init 63 = .ok (.iconst 3, 1) := by decide +kernel
theorem dX6_init_64 : decode cX6_init 64 = .ok (.iconst 0, 1) := by decide +kernel
theorem dX6_init_65 : decode cX6_init 65 = .ok (.iastore, 1) := by decide +kernel
theorem dX6_init_66 : decode cX6_init 66 = .ok (.dup, 1) := by decide +kernel
theorem dX6_init_67 : decode cX6_init 67 = .ok (.iconst 4, 1) := by decide +kernel
theorem dX6_init_68 : decode cX6_init 68 = .ok (.iconst 0, 1) := by decide +kernel
theorem dX6_init_69 : decode cX6_init 69 = .ok (.iastore, 1) := by decide +kernel
theorem dX6_init_70 : decode cX6_init 70 = .ok (.putfield 25, 3) := by decide +kernel
theorem dX6_init_73 : decode cX6_init 73 = .ok (.return_, 1) := by decide +kernel
theorem dX6_thrown_0 : decode cX6_thrown 0 = .ok (.aload_n 0, 1) := by decide +kernel
theorem dX6_thrown_1 : decode cX6_thrown 1 = .ok (.getfield 28, 3) := by decide +kernel
theorem dX6_thrown_4 : decode cX6_thrown 4 = .ok (.ireturn, 1) := by decide +kernel
theorem dX6_fail_0 : decode cX6_fail 0 = .ok (.aload_n 0, 1) := by decide +kernel
theorem dX6_fail_1 : decode cX6_fail 1 = .ok (.iload_n 1, 1) := by decide +kernel
theorem dX6_fail_2 : decode cX6_fail 2 = .ok (.putfield 28, 3) := by decide +kernel
theorem dX6_fail_5 : decode cX6_fail 5 = .ok (.iconst 0, 1) := by decide +kernel
theorem dX6_fail_6 : decode cX6_fail 6 = .ok (.ireturn, 1) := by decide +kernel
theorem dX6_isIn_0 : decode cX6_isIn 0 = .ok (.iload_n 0, 1) := by decide +kernel
theorem dX6_isIn_1 : decode cX6_isIn 1 = .ok (.iload_n 1, 1) := by decide +kernel
theorem dX6_isIn_2 : decode cX6_isIn 2 = .ok (.if_icmp .lt 12, 3) := by decide +kernel
theorem dX6_isIn_5 : decode cX6_isIn 5 = .ok (.iload_n 0, 1) := by decide +kernel
theorem dX6_isIn_6 : decode cX6_isIn 6 = .ok (.iload_n 2, 1) := by decide +kernel
theorem dX6_isIn_7 : decode cX6_isIn 7 = .ok (.if_icmp .gt 7, 3) := by decide +kernel
theorem dX6_isIn_10 : decode cX6_isIn 10 = .ok (.iconst 1, 1) := by decide +kernel
theorem dX6_isIn_11 : decode cX6_isIn 11 = .ok (.goto 4, 3) := by decide +kernel
theorem dX6_isIn_14 : decode cX6_isIn 14 = .ok (.iconst 0, 1) := by decide +kernel
theorem dX6_isIn_15 : decode cX6_isIn 15 = .ok (.ireturn, 1) := by decide +kernel
theorem dX6_isBooth_0 : decode cX6_isBooth 0 = .ok (.iload_n 1, 1) := by decide +kernel
theorem dX6_isBooth_1 : decode cX6_isBooth 1 = .ok (.iconst 0, 1) := by decide +kernel
theorem dX6_isBooth_2 : decode cX6_isBooth 2 = .ok (.aload_n 0, 1) := by decide +kernel
theorem dX6_isBooth_3 : decode cX6_isBooth 3 = .ok (.getfield 32, 3) := by decide +kernel
theorem dX6_isBooth_6 : decode cX6_isBooth 6 = .ok (.iconst 1, 1) := by decide +kernel
theorem dX6_isBooth_7 : decode cX6_isBooth 7 = .ok (.isub, 1) := by decide +kernel
theorem dX6_isBooth_8 : decode cX6_isBooth 8 = .ok (.invokestatic 35, 3) := by decide +kernel
theorem dX6_isBooth_11 : decode cX6_isBooth 11 = .ok (.ireturn, 1) := by decide +kernel
theorem dX6_isHelper_0 : decode cX6_isHelper 0 = .ok (.iload_n 1, 1) := by decide +kernel
theorem dX6_isHelper_1 : decode cX6_isHelper 1 = .ok (.iconst 0, 1) := by decide +kernel
theorem dX6_isHelper_2 : decode cX6_isHelper 2 = .ok (.aload_n 0, 1) := by decide +kernel
theorem dX6_isHelper_3 : decode cX6_isHelper 3 = .ok (.getfield 39, 3) := by decide +kernel
theorem dX6_isHelper_6 : decode cX6_isHelper 6 = .ok (.iconst 1, 1) := by decide +kernel
theorem dX6_isHelper_7 : decode cX6_isHelper 7 = .ok (.isub, 1) := by decide +kernel
theorem dX6_isHelper_8 : decode cX6_isHelper 8 = .ok (.invokestatic 35, 3) := by decide +kernel
theorem dX6_isHelper_11 : decode cX6_isHelper 11 = .ok (.ireturn, 1) := by decide +kernel
theorem dX6_isVisitor_0 : decode cX6_isVisitor 0 = .ok (.iload_n 1, 1) := by decide +kernel
theorem dX6_isVisitor_1 : decode cX6_isVisitor 1 = .ok (.iconst 0, 1) := by decide +kernel
theorem dX6_isVisitor_2 : decode cX6_isVisitor 2 = .ok (.aload_n 0, 1) := by decide +kernel
theorem dX6_isVisitor_3 : decode cX6_isVisitor 3 = .ok (.getfield 42, 3) := by decide +kernel
theorem dX6_isVisitor_6 : decode cX6_isVisitor 6 = .ok (.iconst 1, 1) := by decide +kernel
theorem dX6_isVisitor_7 : decode cX6_isVisitor 7 = .ok (.isub, 1) := by decide +kernel
theorem dX6_isVisitor_8 : decode cX6_isVisitor 8 = .ok (.invokestatic 35, 3) := by decide +kernel
theorem dX6_isVisitor_11 : decode cX6_isVisitor 11 = .ok (.ireturn, 1) := by decide +kernel
theorem dX6_bo_0 : decode cX6_bo 0 = .ok (.aload_n 0, 1) := by decide +kernel
theorem dX6_bo_1 : decode cX6_bo 1 = .ok (.getfield 9, 3) := by decide +kernel
theorem dX6_bo_4 : decode cX6_bo 4 = .ok (.bipush 6, 2) := by decide +kernel
theorem dX6_bo_6 : decode cX6_bo 6 = .ok (.iload_n 1, 1) := by decide +kernel
theorem dX6_bo_7 : decode cX6_bo 7 = .ok (.imul, 1) := by decide +kernel
theorem dX6_bo_8 : decode cX6_bo 8 = .ok (.iload_n 2, 1) := by decide +kernel
theorem dX6_bo_9 : decode cX6_bo 9 = .ok (.iadd, 1) := by decide +kernel
theorem dX6_bo_10 : decode cX6_bo 10 = .ok (.iaload, 1) := by decide +kernel
theorem dX6_bo_11 : decode cX6_bo 11 = .ok (.ireturn, 1) := by decide +kernel
theorem dX6_setBo_0 : decode cX6_setBo 0 = .ok (.aload_n 0, 1) := by decide +kernel
theorem dX6_setBo_1 : decode cX6_setBo 1 = .ok (.getfield 9, 3) := by decide +kernel
theorem dX6_setBo_4 : decode cX6_setBo 4 = .ok (.bipush 6, 2) := by decide +kernel
theorem dX6_setBo_6 : decode cX6_setBo 6 = .ok (.iload_n 1, 1) := by decide +kernel
theorem dX6_setBo_7 : decode cX6_setBo 7 = .ok (.imul, 1) := by decide +kernel
theorem dX6_setBo_8 : decode cX6_setBo 8 = .ok (.iload_n 2, 1) := by decide +kernel
theorem dX6_setBo_9 : decode cX6_setBo 9 = .ok (.iadd, 1) := by decide +kernel
theorem dX6_setBo_10 : decode cX6_setBo 10 = .ok (.iload_n 3, 1) := by decide +kernel
theorem dX6_setBo_11 : decode cX6_setBo 11 = .ok (.iastore, 1) := by decide +kernel
theorem dX6_setBo_12 : decode cX6_setBo 12 = .ok (.return_, 1) := by decide +kernel
theorem dX6_he_0 : decode cX6_he 0 = .ok (.aload_n 0, 1) := by decide +kernel
theorem dX6_he_1 : decode cX6_he 1 = .ok (.getfield 13, 3) := by decide +kernel
theorem dX6_he_4 : decode cX6_he 4 = .ok (.iconst 3, 1) := by decide +kernel
theorem dX6_he_5 : decode cX6_he 5 = .ok (.iload_n 1, 1) := by decide +kernel
theorem dX6_he_6 : decode cX6_he 6 = .ok (.imul, 1) := by decide +kernel
theorem dX6_he_7 : decode cX6_he 7 = .ok (.iload_n 2, 1) := by decide +kernel
theorem dX6_he_8 : decode cX6_he 8 = .ok (.iadd, 1) := by decide +kernel
theorem dX6_he_9 : decode cX6_he 9 = .ok (.iaload, 1) := by decide +kernel
theorem dX6_he_10 : decode cX6_he 10 = .ok (.ireturn, 1) := by decide +kernel
theorem dX6_setHe_0 : decode cX6_setHe 0 = .ok (.aload_n 0, 1) := by decide +kernel
theorem dX6_setHe_1 : decode cX6_setHe 1 = .ok (.getfield 13, 3) := by decide +kernel
theorem dX6_setHe_4 : decode cX6_setHe 4 = .ok (.iconst 3, 1) := by decide +kernel
theorem dX6_setHe_5 : decode cX6_setHe 5 = .ok (.iload_n 1, 1) := by decide +kernel
theorem dX6_setHe_6 : decode cX6_setHe 6 = .ok (.imul, 1) := by decide +kernel
theorem dX6_setHe_7 : decode cX6_setHe 7 = .ok (.iload_n 2, 1) := by decide +kernel
theorem dX6_setHe_8 : decode cX6_setHe 8 = .ok (.iadd, 1) := by decide +kernel
theorem dX6_setHe_9 : decode cX6_setHe 9 = .ok (.iload_n 3, 1) := by decide +kernel
theorem dX6_setHe_10 : decode cX6_setHe 10 = .ok (.iastore, 1) := by decide +kernel
theorem dX6_setHe_11 : decode cX6_setHe 11 = .ok (.return_, 1) := by decide +kernel
theorem dX6_vi_0 : decode cX6_vi 0 = .ok (.aload_n 0, 1) := by decide +kernel
theorem dX6_vi_1 : decode cX6_vi 1 = .ok (.getfield 16, 3) := by decide +kernel
theorem dX6_vi_4 : decode cX6_vi 4 = .ok (.bipush 9, 2) := by decide +kernel
theorem dX6_vi_6 : decode cX6_vi 6 = .ok (.iload_n 1, 1) := by decide +kernel
theorem dX6_vi_7 : decode cX6_vi 7 = .ok (.imul, 1) := by decide +kernel
theorem dX6_vi_8 : decode cX6_vi 8 = .ok (.iload_n 2, 1) := by decide +kernel
theorem dX6_vi_9 : decode cX6_vi 9 = .ok (.iadd, 1) := by decide +kernel
theorem dX6_vi_10 : decode cX6_vi 10 = .ok (.iaload, 1) := by decide +kernel
theorem dX6_vi_11 : decode cX6_vi 11 = .ok (.ireturn, 1) := by decide +kernel
theorem dX6_setVi_0 : decode cX6_setVi 0 = .ok (.aload_n 0, 1) := by decide +kernel
theorem dX6_setVi_1 : decode cX6_setVi 1 = .ok (.getfield 16, 3) := by decide +kernel
theorem dX6_setVi_4 : decode cX6_setVi 4 = .ok (.bipush 9, 2) := by decide +kernel
theorem dX6_setVi_6 : decode cX6_setVi 6 = .ok (.iload_n 1, 1) := by decide +kernel
theorem dX6_setVi_7 : decode cX6_setVi 7 = .ok (.imul, 1) := by decide +kernel
theorem dX6_setVi_8 : decode cX6_setVi 8 = .ok (.iload_n 2, 1) := by decide +kernel
theorem dX6_setVi_9 : decode cX6_setVi 9 = .ok (.iadd, 1) := by decide +kernel
theorem dX6_setVi_10 : decode cX6_setVi 10 = .ok (.iload_n 3, 1) := by decide +kernel
theorem dX6_setVi_11 : decode cX6_setVi 11 = .ok (.iastore, 1) := by decide +kernel
theorem dX6_setVi_12 : decode cX6_setVi 12 = .ok (.return_, 1) := by decide +kernel
theorem dX6_addBooth_0 : decode cX6_addBooth 0 = .ok (.aload_n 0, 1) := by decide +kernel
theorem dX6_addBooth_1 : decode cX6_addBooth 1 = .ok (.iconst 0, 1) := by decide +kernel
theorem dX6_addBooth_2 : decode cX6_addBooth 2 = .ok (.putfield 28, 3) := by decide +kernel
theorem dX6_addBooth_5 : decode cX6_addBooth 5 = .ok (.iload_n 1, 1) := by decide +kernel
theorem dX6_addBooth_6 : decode cX6_addBooth 6 = .ok (.iconst 1, 1) := by decide +kernel
theorem dX6_addBooth_7 : decode cX6_addBooth 7 = .ok (.bipush 9, 2) := by decide +kernel
theorem dX6_addBooth_9 : decode cX6_addBooth 9 = .ok (.invokestatic 35, 3) := by decide +kernel
theorem dX6_addBooth_12 : decode cX6_addBooth 12 = .ok (.ifCond .eq 33, 3) := by decide +kernel
theorem dX6_addBooth_15 : decode cX6_addBooth 15 = .ok (.iload_n 2, 1) := by decide +kernel
theorem dX6_addBooth_16 : decode cX6_addBooth 16 = .ok (.iconst 0, 1) := by decide +kernel
theorem dX6_addBooth_17 : decode cX6_addBooth 17 = .ok (.bipush 60, 2) := by decide +kernel
theorem dX6_addBooth_19 : decode cX6_addBooth 19 = .ok (.invokestatic 35, 3) := by decide +kernel
theorem dX6_addBooth_22 : decode cX6_addBooth 22 = .ok (.ifCond .eq 23, 3) := by decide +kernel
theorem dX6_addBooth_25 : decode cX6_addBooth 25 = .ok (.iload_n 3, 1) := by decide +kernel
theorem dX6_addBooth_26 : decode cX6_addBooth 26 = .ok (.iconst 0, 1) := by decide +kernel
theorem dX6_addBooth_27 : decode cX6_addBooth 27 = .ok (.bipush 99, 2) := by decide +kernel
theorem dX6_addBooth_29 : decode cX6_addBooth 29 = .ok (.invokestatic 35, 3) := by decide +kernel
theorem dX6_addBooth_32 : decode cX6_addBooth 32 = .ok (.ifCond .eq 13, 3) := by decide +kernel
theorem dX6_addBooth_35 : decode cX6_addBooth 35 = .ok (.iload 4, 2) := by decide +kernel
theorem dX6_addBooth_37 : decode cX6_addBooth 37 = .ok (.iconst 1, 1) := by decide +kernel
theorem dX6_addBooth_38 : decode cX6_addBooth 38 = .ok (.iconst 3, 1) := by decide +kernel
theorem dX6_addBooth_39 : decode cX6_addBooth 39 = .ok (.invokestatic 35, 3) := by decide +kernel
theorem dX6_addBooth_42 : decode cX6_addBooth 42 = .ok (.ifCond .ne 9, 3) := by decide +kernel
theorem dX6_addBooth_45 : decode cX6_addBooth 45 = .ok (.aload_n 0, 1) := by decide +kernel
theorem dX6_addBooth_46 : decode cX6_addBooth 46 = .ok (.iconst 1, 1) := by decide +kernel
theorem dX6_addBooth_47 : decode cX6_addBooth 47 = .ok (.invokevirtual 45, 3) := by decide +kernel
theorem dX6_addBooth_50 : decode cX6_addBooth 50 = .ok (.ireturn, 1) := by decide +kernel
theorem dX6_addBooth_51 : decode cX6_addBooth 51 = .ok (.aload_n 0, 1) := by decide +kernel
theorem dX6_addBooth_52 : decode cX6_addBooth 52 = .ok (.getfield 32, 3) := by decide +kernel
theorem dX6_addBooth_55 : decode cX6_addBooth 55 = .ok (.bipush 8, 2) := by decide +kernel
theorem dX6_addBooth_57 : decode cX6_addBooth 57 = .ok (.if_icmp .ne 9, 3) := by decide +kernel
theorem dX6_addBooth_60 : decode cX6_addBooth 60 = .ok (.aload_n 0, 1) := by decide +kernel
theorem dX6_addBooth_61 : decode cX6_addBooth 61 = .ok (.iconst 2, 1) := by decide +kernel
theorem dX6_addBooth_62 : decode cX6_addBooth 62 = .ok (.invokevirtual 45, 3) := by decide +kernel
theorem dX6_addBooth_65 : decode cX6_addBooth 65 = .ok (.ireturn, 1) := by decide +kernel
theorem dX6_addBooth_66 : decode cX6_addBooth 66 = .ok (.bipush 6, 2) := by decide +kernel
theorem dX6_addBooth_68 : decode cX6_addBooth 68 = .ok (.newarray .int, 2) := by decide +kernel
theorem dX6_addBooth_70 : decode cX6_addBooth 70 = .ok (.dup, 1) := by decide +kernel
theorem dX6_addBooth_71 : decode cX6_addBooth 71 = .ok (.iconst 0, 1) := by decide +kernel
theorem dX6_addBooth_72 : decode cX6_addBooth 72 = .ok (.iload_n 1, 1) := by decide +kernel
theorem dX6_addBooth_73 : decode cX6_addBooth 73 = .ok (.iastore, 1) := by decide +kernel
theorem dX6_addBooth_74 : decode cX6_addBooth 74 = .ok (.dup, 1) := by decide +kernel
theorem dX6_addBooth_75 : decode cX6_addBooth 75 = .ok (.iconst 1, 1) := by decide +kernel
theorem dX6_addBooth_76 : decode cX6_addBooth 76 = .ok (.iload_n 2, 1) := by decide +kernel
theorem dX6_addBooth_77 : decode cX6_addBooth 77 = .ok (.iastore, 1) := by decide +kernel
theorem dX6_addBooth_78 : decode cX6_addBooth 78 = .ok (.dup, 1) := by decide +kernel
theorem dX6_addBooth_79 : decode cX6_addBooth 79 = .ok (.iconst 2, 1) := by decide +kernel
theorem dX6_addBooth_80 : decode cX6_addBooth 80 = .ok (.iload_n 3, 1) := by decide +kernel
theorem dX6_addBooth_81 : decode cX6_addBooth 81 = .ok (.iastore, 1) := by decide +kernel
theorem dX6_addBooth_82 : decode cX6_addBooth 82 = .ok (.dup, 1) := by decide +kernel
theorem dX6_addBooth_83 : decode cX6_addBooth 83 = .ok (.iconst 3, 1) := by decide +kernel
theorem dX6_addBooth_84 : decode cX6_addBooth 84 = .ok (.iload 4, 2) := by decide +kernel
theorem dX6_addBooth_86 : decode cX6_addBooth 86 = .ok (.iastore, 1) := by decide +kernel
theorem dX6_addBooth_87 : decode cX6_addBooth 87 = .ok (.dup, 1) := by decide +kernel
theorem dX6_addBooth_88 : decode cX6_addBooth 88 = .ok (.iconst 4, 1) := by decide +kernel
theorem dX6_addBooth_89 : decode cX6_addBooth 89 = .ok (.iconst 0, 1) := by decide +kernel
theorem dX6_addBooth_90 : decode cX6_addBooth 90 = .ok (.iastore, 1) := by decide +kernel
theorem dX6_addBooth_91 : decode cX6_addBooth 91 = .ok (.dup, 1) := by decide +kernel
theorem dX6_addBooth_92 : decode cX6_addBooth 92 = .ok (.iconst 5, 1) := by decide +kernel
theorem dX6_addBooth_93 : decode cX6_addBooth 93 = .ok (.iconst 0, 1) := by decide +kernel
theorem dX6_addBooth_94 : decode cX6_addBooth 94 = .ok (.iastore, 1) := by decide +kernel
theorem dX6_addBooth_95 : decode cX6_addBooth 95 = .ok (.astore 5, 2) := by decide +kernel
theorem dX6_addBooth_97 : decode cX6_addBooth 97 = .ok (.aload 5, 2) := by decide +kernel
theorem dX6_addBooth_99 : decode cX6_addBooth 99 = .ok (.iconst 0, 1) := by decide +kernel
theorem dX6_addBooth_100 : decode cX6_addBooth 100 = .ok (.aload_n 0, 1) := by decide +kernel
theorem dX6_addBooth_101 : decode cX6_addBooth 101 = .ok (.getfield 9, 3) := by decide +kernel
theorem dX6_addBooth_104 : decode cX6_addBooth 104 = .ok (.bipush 6, 2) := by decide +kernel
theorem dX6_addBooth_106 : decode cX6_addBooth 106 = .ok (.aload_n 0, 1) := by decide +kernel
theorem dX6_addBooth_107 : decode cX6_addBooth 107 = .ok (.getfield 32, 3) := by decide +kernel
theorem dX6_addBooth_110 : decode cX6_addBooth 110 = .ok (.imul, 1) := by decide +kernel
theorem dX6_addBooth_111 : decode cX6_addBooth 111 = .ok (.bipush 6, 2) := by decide +kernel
theorem dX6_addBooth_113 : decode cX6_addBooth 113 = .ok (.invokestatic 49, 3) := by decide +kernel
theorem dX6_addBooth_116 : decode cX6_addBooth 116 = .ok (.aload_n 0, 1) := by decide +kernel
theorem dX6_addBooth_117 : decode cX6_addBooth 117 = .ok (.dup, 1) := by decide +kernel
theorem dX6_addBooth_118 : decode cX6_addBooth 118 = .ok (.getfield 32, 3) := by decide +kernel
theorem dX6_addBooth_121 : decode cX6_addBooth 121 = .ok (.iconst 1, 1) := by decide +kernel
theorem dX6_addBooth_122 : decode cX6_addBooth 122 = .ok (.iadd, 1) := by decide +kernel
theorem dX6_addBooth_123 : decode cX6_addBooth 123 = .ok (.putfield 32, 3) := by decide +kernel
theorem dX6_addBooth_126 : decode cX6_addBooth 126 = .ok (.aload_n 0, 1) := by decide +kernel
theorem dX6_addBooth_127 : decode cX6_addBooth 127 = .ok (.getfield 32, 3) := by decide +kernel
theorem dX6_addBooth_130 : decode cX6_addBooth 130 = .ok (.iconst 1, 1) := by decide +kernel
theorem dX6_addBooth_131 : decode cX6_addBooth 131 = .ok (.isub, 1) := by decide +kernel
theorem dX6_addBooth_132 : decode cX6_addBooth 132 = .ok (.ireturn, 1) := by decide +kernel
theorem dX6_addHelper_0 : decode cX6_addHelper 0 = .ok (.aload_n 0, 1) := by decide +kernel
theorem dX6_addHelper_1 : decode cX6_addHelper 1 = .ok (.iconst 0, 1) := by decide +kernel
theorem dX6_addHelper_2 : decode cX6_addHelper 2 = .ok (.putfield 28, 3) := by decide +kernel
theorem dX6_addHelper_5 : decode cX6_addHelper 5 = .ok (.aload_n 0, 1) := by decide +kernel
theorem dX6_addHelper_6 : decode cX6_addHelper 6 = .ok (.getfield 39, 3) := by decide +kernel
theorem dX6_addHelper_9 : decode cX6_addHelper 9 = .ok (.bipush 12, 2) := by decide +kernel
theorem dX6_addHelper_11 : decode cX6_addHelper 11 = .ok (.if_icmp .ne 9, 3) := by decide +kernel
theorem dX6_addHelper_14 : decode cX6_addHelper 14 = .ok (.aload_n 0, 1) := by decide +kernel
theorem dX6_addHelper_15 : decode cX6_addHelper 15 = .ok (.iconst 1, 1) := by decide +kernel
theorem dX6_addHelper_16 : decode cX6_addHelper 16 = .ok (.invokevirtual 45, 3) := by decide +kernel
theorem dX6_addHelper_19 : decode cX6_addHelper 19 = .ok (.ireturn, 1) := by decide +kernel
theorem dX6_addHelper_20 : decode cX6_addHelper 20 = .ok (.iconst 3, 1) := by decide +kernel
theorem dX6_addHelper_21 : decode cX6_addHelper 21 = .ok (.newarray .int, 2) := by decide +kernel
theorem dX6_addHelper_23 : decode cX6_addHelper 23 = .ok (.dup, 1) := by decide +kernel
theorem dX6_addHelper_24 : decode cX6_addHelper 24 = .ok (.iconst 0, 1) := by decide +kernel
theorem dX6_addHelper_25 : decode cX6_addHelper 25 = .ok (.bipush 24, 2) := by decide +kernel
theorem dX6_addHelper_27 : decode cX6_addHelper 27 = .ok (.iastore, 1) := by decide +kernel
theorem dX6_addHelper_28 : decode cX6_addHelper 28 = .ok (.dup, 1) := by decide +kernel
theorem dX6_addHelper_29 : decode cX6_addHelper 29 = .ok (.iconst 1, 1) := by decide +kernel
theorem dX6_addHelper_30 : decode cX6_addHelper 30 = .ok (.iconst (-1), 1) := by decide +kernel
theorem dX6_addHelper_31 : decode cX6_addHelper 31 = .ok (.iastore, 1) := by decide +kernel
theorem dX6_addHelper_32 : decode cX6_addHelper 32 = .ok (.dup, 1) := by decide +kernel
theorem dX6_addHelper_33 : decode cX6_addHelper 33 = .ok (.iconst 2, 1) := by decide +kernel
theorem dX6_addHelper_34 : decode cX6_addHelper 34 = .ok (.iconst 0, 1) := by decide +kernel
theorem dX6_addHelper_35 : decode cX6_addHelper 35 = .ok (.iastore, 1) := by decide +kernel
theorem dX6_addHelper_36 : decode cX6_addHelper 36 = .ok (.astore_n 1, 1) := by decide +kernel
theorem dX6_addHelper_37 : decode cX6_addHelper 37 = .ok (.aload_n 1, 1) := by decide +kernel
theorem dX6_addHelper_38 : decode cX6_addHelper 38 = .ok (.iconst 0, 1) := by decide +kernel
theorem dX6_addHelper_39 : decode cX6_addHelper 39 = .ok (.aload_n 0, 1) := by decide +kernel
theorem dX6_addHelper_40 : decode cX6_addHelper 40 = .ok (.getfield 13, 3) := by decide +kernel
theorem dX6_addHelper_43 : decode cX6_addHelper 43 = .ok (.iconst 3, 1) := by decide +kernel
theorem dX6_addHelper_44 : decode cX6_addHelper 44 = .ok (.aload_n 0, 1) := by decide +kernel
theorem dX6_addHelper_45 : decode cX6_addHelper 45 = .ok (.getfield 39, 3) := by decide +kernel
theorem dX6_addHelper_48 : decode cX6_addHelper 48 = .ok (.imul, 1) := by decide +kernel
theorem dX6_addHelper_49 : decode cX6_addHelper 49 = .ok (.iconst 3, 1) := by decide +kernel
theorem dX6_addHelper_50 : decode cX6_addHelper 50 = .ok (.invokestatic 49, 3) := by decide +kernel
theorem dX6_addHelper_53 : decode cX6_addHelper 53 = .ok (.aload_n 0, 1) := by decide +kernel
theorem dX6_addHelper_54 : decode cX6_addHelper 54 = .ok (.dup, 1) := by decide +kernel
theorem dX6_addHelper_55 : decode cX6_addHelper 55 = .ok (.getfield 39, 3) := by decide +kernel
theorem dX6_addHelper_58 : decode cX6_addHelper 58 = .ok (.iconst 1, 1) := by decide +kernel
theorem dX6_addHelper_59 : decode cX6_addHelper 59 = .ok (.iadd, 1) := by decide +kernel
theorem dX6_addHelper_60 : decode cX6_addHelper 60 = .ok (.putfield 39, 3) := by decide +kernel
theorem dX6_addHelper_63 : decode cX6_addHelper 63 = .ok (.aload_n 0, 1) := by decide +kernel
theorem dX6_addHelper_64 : decode cX6_addHelper 64 = .ok (.getfield 39, 3) := by decide +kernel
theorem dX6_addHelper_67 : decode cX6_addHelper 67 = .ok (.iconst 1, 1) := by decide +kernel
theorem dX6_addHelper_68 : decode cX6_addHelper 68 = .ok (.isub, 1) := by decide +kernel
theorem dX6_addHelper_69 : decode cX6_addHelper 69 = .ok (.ireturn, 1) := by decide +kernel
theorem dX6_come_0 : decode cX6_come 0 = .ok (.aload_n 0, 1) := by decide +kernel
theorem dX6_come_1 : decode cX6_come 1 = .ok (.iconst 0, 1) := by decide +kernel
theorem dX6_come_2 : decode cX6_come 2 = .ok (.putfield 28, 3) := by decide +kernel
theorem dX6_come_5 : decode cX6_come 5 = .ok (.iload_n 1, 1) := by decide +kernel
theorem dX6_come_6 : decode cX6_come 6 = .ok (.iconst 0, 1) := by decide +kernel
theorem dX6_come_7 : decode cX6_come 7 = .ok (.sipush 200, 3) := by decide +kernel
theorem dX6_come_10 : decode cX6_come 10 = .ok (.invokestatic 35, 3) := by decide +kernel
theorem dX6_come_13 : decode cX6_come 13 = .ok (.ifCond .eq 13, 3) := by decide +kernel
theorem dX6_come_16 : decode cX6_come 16 = .ok (.iload_n 2, 1) := by decide +kernel
theorem dX6_come_17 : decode cX6_come 17 = .ok (.iconst 0, 1) := by decide +kernel
theorem dX6_come_18 : decode cX6_come 18 = .ok (.bipush 30, 2) := by decide +kernel
theorem dX6_come_20 : decode cX6_come 20 = .ok (.invokestatic 35, 3) := by decide +kernel
theorem dX6_come_23 : decode cX6_come 23 = .ok (.ifCond .ne 9, 3) := by decide +kernel
theorem dX6_come_26 : decode cX6_come 26 = .ok (.aload_n 0, 1) := by decide +kernel
theorem dX6_come_27 : decode cX6_come 27 = .ok (.iconst 1, 1) := by decide +kernel
theorem dX6_come_28 : decode cX6_come 28 = .ok (.invokevirtual 45, 3) := by decide +kernel
theorem dX6_come_31 : decode cX6_come 31 = .ok (.ireturn, 1) := by decide +kernel
theorem dX6_come_32 : decode cX6_come 32 = .ok (.aload_n 0, 1) := by decide +kernel
theorem dX6_come_33 : decode cX6_come 33 = .ok (.getfield 42, 3) := by decide +kernel
theorem dX6_come_36 : decode cX6_come 36 = .ok (.bipush 16, 2) := by decide +kernel
theorem dX6_come_38 : decode cX6_come 38 = .ok (.if_icmp .ne 9, 3) := by decide +kernel
theorem dX6_come_41 : decode cX6_come 41 = .ok (.aload_n 0, 1) := by decide +kernel
theorem dX6_come_42 : decode cX6_come 42 = .ok (.iconst 2, 1) := by decide +kernel
theorem dX6_come_43 : decode cX6_come 43 = .ok (.invokevirtual 45, 3) := by decide +kernel
theorem dX6_come_46 : decode cX6_come 46 = .ok (.ireturn, 1) := by decide +kernel
theorem dX6_come_47 : decode cX6_come 47 = .ok (.bipush 9, 2) := by decide +kernel
theorem dX6_come_49 : decode cX6_come 49 = .ok (.newarray .int, 2) := by decide +kernel
theorem dX6_come_51 : decode cX6_come 51 = .ok (.dup, 1) := by decide +kernel
theorem dX6_come_52 : decode cX6_come 52 = .ok (.iconst 0, 1) := by decide +kernel
theorem dX6_come_53 : decode cX6_come 53 = .ok (.iload_n 1, 1) := by decide +kernel
theorem dX6_come_54 : decode cX6_come 54 = .ok (.iastore, 1) := by decide +kernel
theorem dX6_come_55 : decode cX6_come 55 = .ok (.dup, 1) := by decide +kernel
theorem dX6_come_56 : decode cX6_come 56 = .ok (.iconst 1, 1) := by decide +kernel
theorem dX6_come_57 : decode cX6_come 57 = .ok (.iload_n 2, 1) := by decide +kernel
theorem dX6_come_58 : decode cX6_come 58 = .ok (.iastore, 1) := by decide +kernel
theorem dX6_come_59 : decode cX6_come 59 = .ok (.dup, 1) := by decide +kernel
theorem dX6_come_60 : decode cX6_come 60 = .ok (.iconst 2, 1) := by decide +kernel
theorem dX6_come_61 : decode cX6_come 61 = .ok (.iconst 0, 1) := by decide +kernel
theorem dX6_come_62 : decode cX6_come 62 = .ok (.iastore, 1) := by decide +kernel
theorem dX6_come_63 : decode cX6_come 63 = .ok (.dup, 1) := by decide +kernel
theorem dX6_come_64 : decode cX6_come 64 = .ok (.iconst 3, 1) := by decide +kernel
theorem dX6_come_65 : decode cX6_come 65 = .ok (.iconst (-1), 1) := by decide +kernel
theorem dX6_come_66 : decode cX6_come 66 = .ok (.iastore, 1) := by decide +kernel
theorem dX6_come_67 : decode cX6_come 67 = .ok (.dup, 1) := by decide +kernel
theorem dX6_come_68 : decode cX6_come 68 = .ok (.iconst 4, 1) := by decide +kernel
theorem dX6_come_69 : decode cX6_come 69 = .ok (.iconst 0, 1) := by decide +kernel
theorem dX6_come_70 : decode cX6_come 70 = .ok (.iastore, 1) := by decide +kernel
theorem dX6_come_71 : decode cX6_come 71 = .ok (.dup, 1) := by decide +kernel
theorem dX6_come_72 : decode cX6_come 72 = .ok (.iconst 5, 1) := by decide +kernel
theorem dX6_come_73 : decode cX6_come 73 = .ok (.iconst 0, 1) := by decide +kernel
theorem dX6_come_74 : decode cX6_come 74 = .ok (.iastore, 1) := by decide +kernel
theorem dX6_come_75 : decode cX6_come 75 = .ok (.dup, 1) := by decide +kernel
theorem dX6_come_76 : decode cX6_come 76 = .ok (.bipush 6, 2) := by decide +kernel
theorem dX6_come_78 : decode cX6_come 78 = .ok (.iconst 0, 1) := by decide +kernel
theorem dX6_come_79 : decode cX6_come 79 = .ok (.iastore, 1) := by decide +kernel
theorem dX6_come_80 : decode cX6_come 80 = .ok (.dup, 1) := by decide +kernel
theorem dX6_come_81 : decode cX6_come 81 = .ok (.bipush 7, 2) := by decide +kernel
theorem dX6_come_83 : decode cX6_come 83 = .ok (.iconst 0, 1) := by decide +kernel
theorem dX6_come_84 : decode cX6_come 84 = .ok (.iastore, 1) := by decide +kernel
theorem dX6_come_85 : decode cX6_come 85 = .ok (.dup, 1) := by decide +kernel
theorem dX6_come_86 : decode cX6_come 86 = .ok (.bipush 8, 2) := by decide +kernel
theorem dX6_come_88 : decode cX6_come 88 = .ok (.iconst 0, 1) := by decide +kernel
theorem dX6_come_89 : decode cX6_come 89 = .ok (.iastore, 1) := by decide +kernel
theorem dX6_come_90 : decode cX6_come 90 = .ok (.astore_n 3, 1) := by decide +kernel
theorem dX6_come_91 : decode cX6_come 91 = .ok (.aload_n 3, 1) := by decide +kernel
theorem dX6_come_92 : decode cX6_come 92 = .ok (.iconst 0, 1) := by decide +kernel
theorem dX6_come_93 : decode cX6_come 93 = .ok (.aload_n 0, 1) := by decide +kernel
theorem dX6_come_94 : decode cX6_come 94 = .ok (.getfield 16, 3) := by decide +kernel
theorem dX6_come_97 : decode cX6_come 97 = .ok (.bipush 9, 2) := by decide +kernel
theorem dX6_come_99 : decode cX6_come 99 = .ok (.aload_n 0, 1) := by decide +kernel
theorem dX6_come_100 : decode cX6_come 100 = .ok (.getfield 42, 3) := by decide +kernel
theorem dX6_come_103 : decode cX6_come 103 = .ok (.imul, 1) := by decide +kernel
theorem dX6_come_104 : decode cX6_come 104 = .ok (.bipush 9, 2) := by decide +kernel
theorem dX6_come_106 : decode cX6_come 106 = .ok (.invokestatic 49, 3) := by decide +kernel
theorem dX6_come_109 : decode cX6_come 109 = .ok (.aload_n 0, 1) := by decide +kernel
theorem dX6_come_110 : decode cX6_come 110 = .ok (.dup, 1) := by decide +kernel
theorem dX6_come_111 : decode cX6_come 111 = .ok (.getfield 42, 3) := by decide +kernel
theorem dX6_come_114 : decode cX6_come 114 = .ok (.iconst 1, 1) := by decide +kernel
theorem dX6_come_115 : decode cX6_come 115 = .ok (.iadd, 1) := by decide +kernel
theorem dX6_come_116 : decode cX6_come 116 = .ok (.putfield 42, 3) := by decide +kernel
theorem dX6_come_119 : decode cX6_come 119 = .ok (.aload_n 0, 1) := by decide +kernel
theorem dX6_come_120 : decode cX6_come 120 = .ok (.getfield 42, 3) := by decide +kernel
theorem dX6_come_123 : decode cX6_come 123 = .ok (.iconst 1, 1) := by decide +kernel
theorem dX6_come_124 : decode cX6_come 124 = .ok (.isub, 1) := by decide +kernel
theorem dX6_come_125 : decode cX6_come 125 = .ok (.ireturn, 1) := by decide +kernel
theorem dX6_setDart_0 : decode cX6_setDart 0 = .ok (.aload_n 0, 1) := by decide +kernel
theorem dX6_setDart_1 : decode cX6_setDart 1 = .ok (.iconst 0, 1) := by decide +kernel
theorem dX6_setDart_2 : decode cX6_setDart 2 = .ok (.putfield 28, 3) := by decide +kernel
theorem dX6_setDart_5 : decode cX6_setDart 5 = .ok (.iload_n 1, 1) := by decide +kernel
theorem dX6_setDart_6 : decode cX6_setDart 6 = .ok (.iconst 1, 1) := by decide +kernel
theorem dX6_setDart_7 : decode cX6_setDart 7 = .ok (.ldc 55, 2) := by decide +kernel
theorem dX6_setDart_9 : decode cX6_setDart 9 = .ok (.invokestatic 35, 3) := by decide +kernel
theorem dX6_setDart_12 : decode cX6_setDart 12 = .ok (.ifCond .ne 9, 3) := by decide +kernel
theorem dX6_setDart_15 : decode cX6_setDart 15 = .ok (.aload_n 0, 1) := by decide +kernel
theorem dX6_setDart_16 : decode cX6_setDart 16 = .ok (.iconst 1, 1) := by decide +kernel
theorem dX6_setDart_17 : decode cX6_setDart 17 = .ok (.invokevirtual 45, 3) := by decide +kernel
theorem dX6_setDart_20 : decode cX6_setDart 20 = .ok (.ireturn, 1) := by decide +kernel
theorem dX6_setDart_21 : decode cX6_setDart 21 = .ok (.aload_n 0, 1) := by decide +kernel
theorem dX6_setDart_22 : decode cX6_setDart 22 = .ok (.getfield 25, 3) := by decide +kernel
theorem dX6_setDart_25 : decode cX6_setDart 25 = .ok (.iconst 1, 1) := by decide +kernel
theorem dX6_setDart_26 : decode cX6_setDart 26 = .ok (.iaload, 1) := by decide +kernel
theorem dX6_setDart_27 : decode cX6_setDart 27 = .ok (.istore_n 2, 1) := by decide +kernel
theorem dX6_setDart_28 : decode cX6_setDart 28 = .ok (.aload_n 0, 1) := by decide +kernel
theorem dX6_setDart_29 : decode cX6_setDart 29 = .ok (.getfield 25, 3) := by decide +kernel
theorem dX6_setDart_32 : decode cX6_setDart 32 = .ok (.iconst 1, 1) := by decide +kernel
theorem dX6_setDart_33 : decode cX6_setDart 33 = .ok (.iload_n 1, 1) := by decide +kernel
theorem dX6_setDart_34 : decode cX6_setDart 34 = .ok (.iastore, 1) := by decide +kernel
theorem dX6_setDart_35 : decode cX6_setDart 35 = .ok (.iload_n 2, 1) := by decide +kernel
theorem dX6_setDart_36 : decode cX6_setDart 36 = .ok (.ireturn, 1) := by decide +kernel
theorem dX6_work_0 : decode cX6_work 0 = .ok (.aload_n 0, 1) := by decide +kernel
theorem dX6_work_1 : decode cX6_work 1 = .ok (.iconst 0, 1) := by decide +kernel
theorem dX6_work_2 : decode cX6_work 2 = .ok (.putfield 28, 3) := by decide +kernel
theorem dX6_work_5 : decode cX6_work 5 = .ok (.aload_n 0, 1) := by decide +kernel
theorem dX6_work_6 : decode cX6_work 6 = .ok (.iload_n 1, 1) := by decide +kernel
theorem dX6_work_7 : decode cX6_work 7 = .ok (.invokevirtual 56, 3) := by decide +kernel
theorem dX6_work_10 : decode cX6_work 10 = .ok (.ifCond .eq 16, 3) := by decide +kernel
theorem dX6_work_13 : decode cX6_work 13 = .ok (.iload_n 2, 1) := by decide +kernel
theorem dX6_work_14 : decode cX6_work 14 = .ok (.iconst (-1), 1) := by decide +kernel
theorem dX6_work_15 : decode cX6_work 15 = .ok (.if_icmp .eq 17, 3) := by decide +kernel
theorem dX6_work_18 : decode cX6_work 18 = .ok (.aload_n 0, 1) := by decide +kernel
theorem dX6_work_19 : decode cX6_work 19 = .ok (.iload_n 2, 1) := by decide +kernel
theorem dX6_work_20 : decode cX6_work 20 = .ok (.invokevirtual 60, 3) := by decide +kernel
theorem dX6_work_23 : decode cX6_work 23 = .ok (.ifCond .ne 9, 3) := by decide +kernel
theorem dX6_work_26 : decode cX6_work 26 = .ok (.aload_n 0, 1) := by decide +kernel
theorem dX6_work_27 : decode cX6_work 27 = .ok (.iconst 1, 1) := by decide +kernel
theorem dX6_work_28 : decode cX6_work 28 = .ok (.invokevirtual 45, 3) := by decide +kernel
theorem dX6_work_31 : decode cX6_work 31 = .ok (.ireturn, 1) := by decide +kernel
theorem dX6_work_32 : decode cX6_work 32 = .ok (.aload_n 0, 1) := by decide +kernel
theorem dX6_work_33 : decode cX6_work 33 = .ok (.iload_n 1, 1) := by decide +kernel
theorem dX6_work_34 : decode cX6_work 34 = .ok (.iconst 1, 1) := by decide +kernel
theorem dX6_work_35 : decode cX6_work 35 = .ok (.invokevirtual 63, 3) := by decide +kernel
theorem dX6_work_38 : decode cX6_work 38 = .ok (.istore_n 3, 1) := by decide +kernel
theorem dX6_work_39 : decode cX6_work 39 = .ok (.aload_n 0, 1) := by decide +kernel
theorem dX6_work_40 : decode cX6_work 40 = .ok (.iload_n 1, 1) := by decide +kernel
theorem dX6_work_41 : decode cX6_work 41 = .ok (.iconst 1, 1) := by decide +kernel
theorem dX6_work_42 : decode cX6_work 42 = .ok (.iload_n 2, 1) := by decide +kernel
theorem dX6_work_43 : decode cX6_work 43 = .ok (.invokevirtual 67, 3) := by decide +kernel
theorem dX6_work_46 : decode cX6_work 46 = .ok (.iload_n 3, 1) := by decide +kernel
theorem dX6_work_47 : decode cX6_work 47 = .ok (.ireturn, 1) := by decide +kernel
theorem dX6_bring_0 : decode cX6_bring 0 = .ok (.aload_n 0, 1) := by decide +kernel
theorem dX6_bring_1 : decode cX6_bring 1 = .ok (.iconst 0, 1) := by decide +kernel
theorem dX6_bring_2 : decode cX6_bring 2 = .ok (.putfield 28, 3) := by decide +kernel
theorem dX6_bring_5 : decode cX6_bring 5 = .ok (.aload_n 0, 1) := by decide +kernel
theorem dX6_bring_6 : decode cX6_bring 6 = .ok (.iload_n 1, 1) := by decide +kernel
theorem dX6_bring_7 : decode cX6_bring 7 = .ok (.invokevirtual 60, 3) := by decide +kernel
theorem dX6_bring_10 : decode cX6_bring 10 = .ok (.ifCond .ne 9, 3) := by decide +kernel
theorem dX6_bring_13 : decode cX6_bring 13 = .ok (.aload_n 0, 1) := by decide +kernel
theorem dX6_bring_14 : decode cX6_bring 14 = .ok (.iconst 1, 1) := by decide +kernel
theorem dX6_bring_15 : decode cX6_bring 15 = .ok (.invokevirtual 45, 3) := by decide +kernel
theorem dX6_bring_18 : decode cX6_bring 18 = .ok (.ireturn, 1) := by decide +kernel
theorem dX6_bring_19 : decode cX6_bring 19 = .ok (.iload_n 2, 1) := by decide +kernel
theorem dX6_bring_20 : decode cX6_bring 20 = .ok (.iconst 1, 1) := by decide +kernel
theorem dX6_bring_21 : decode cX6_bring 21 = .ok (.bipush 99, 2) := by decide +kernel
theorem dX6_bring_23 : decode cX6_bring 23 = .ok (.invokestatic 35, 3) := by decide +kernel
theorem dX6_bring_26 : decode cX6_bring 26 = .ok (.ifCond .ne 9, 3) := by decide +kernel
theorem dX6_bring_29 : decode cX6_bring 29 = .ok (.aload_n 0, 1) := by decide +kernel
theorem dX6_bring_30 : decode cX6_bring 30 = .ok (.iconst 2, 1) := by decide +kernel
theorem dX6_bring_31 : decode cX6_bring 31 = .ok (.invokevirtual 45, 3) := by decide +kernel
theorem dX6_bring_34 : decode cX6_bring 34 = .ok (.ireturn, 1) := by decide +kernel
theorem dX6_bring_35 : decode cX6_bring 35 = .ok (.aload_n 0, 1) := by decide +kernel
theorem dX6_bring_36 : decode cX6_bring 36 = .ok (.iload_n 1, 1) := by decide +kernel
theorem dX6_bring_37 : decode cX6_bring 37 = .ok (.iconst 2, 1) := by decide +kernel
theorem dX6_bring_38 : decode cX6_bring 38 = .ok (.invokevirtual 71, 3) := by decide +kernel
theorem dX6_bring_41 : decode cX6_bring 41 = .ok (.iload_n 2, 1) := by decide +kernel
theorem dX6_bring_42 : decode cX6_bring 42 = .ok (.iadd, 1) := by decide +kernel
theorem dX6_bring_43 : decode cX6_bring 43 = .ok (.bipush 99, 2) := by decide +kernel
theorem dX6_bring_45 : decode cX6_bring 45 = .ok (.if_icmp .le 9, 3) := by decide +kernel
theorem dX6_bring_48 : decode cX6_bring 48 = .ok (.aload_n 0, 1) := by decide +kernel
theorem dX6_bring_49 : decode cX6_bring 49 = .ok (.iconst 3, 1) := by decide +kernel
theorem dX6_bring_50 : decode cX6_bring 50 = .ok (.invokevirtual 45, 3) := by decide +kernel
theorem dX6_bring_53 : decode cX6_bring 53 = .ok (.ireturn, 1) := by decide +kernel
theorem dX6_bring_54 : decode cX6_bring 54 = .ok (.aload_n 0, 1) := by decide +kernel
theorem dX6_bring_55 : decode cX6_bring 55 = .ok (.iload_n 1, 1) := by decide +kernel
theorem dX6_bring_56 : decode cX6_bring 56 = .ok (.iconst 2, 1) := by decide +kernel
theorem dX6_bring_57 : decode cX6_bring 57 = .ok (.aload_n 0, 1) := by decide +kernel
theorem dX6_bring_58 : decode cX6_bring 58 = .ok (.iload_n 1, 1) := by decide +kernel
theorem dX6_bring_59 : decode cX6_bring 59 = .ok (.iconst 2, 1) := by decide +kernel
theorem dX6_bring_60 : decode cX6_bring 60 = .ok (.invokevirtual 71, 3) := by decide +kernel
theorem dX6_bring_63 : decode cX6_bring 63 = .ok (.iload_n 2, 1) := by decide +kernel
theorem dX6_bring_64 : decode cX6_bring 64 = .ok (.iadd, 1) := by decide +kernel
theorem dX6_bring_65 : decode cX6_bring 65 = .ok (.invokevirtual 74, 3) := by decide +kernel
theorem dX6_bring_68 : decode cX6_bring 68 = .ok (.aload_n 0, 1) := by decide +kernel
theorem dX6_bring_69 : decode cX6_bring 69 = .ok (.iload_n 1, 1) := by decide +kernel
theorem dX6_bring_70 : decode cX6_bring 70 = .ok (.iconst 2, 1) := by decide +kernel
theorem dX6_bring_71 : decode cX6_bring 71 = .ok (.invokevirtual 71, 3) := by decide +kernel
theorem dX6_bring_74 : decode cX6_bring 74 = .ok (.ireturn, 1) := by decide +kernel
theorem dX6_sell_0 : decode cX6_sell 0 = .ok (.aload_n 0, 1) := by decide +kernel
theorem dX6_sell_1 : decode cX6_sell 1 = .ok (.iconst 0, 1) := by decide +kernel
theorem dX6_sell_2 : decode cX6_sell 2 = .ok (.putfield 28, 3) := by decide +kernel
theorem dX6_sell_5 : decode cX6_sell 5 = .ok (.aload_n 0, 1) := by decide +kernel
theorem dX6_sell_6 : decode cX6_sell 6 = .ok (.iload_n 1, 1) := by decide +kernel
theorem dX6_sell_7 : decode cX6_sell 7 = .ok (.invokevirtual 77, 3) := by decide +kernel
theorem dX6_sell_10 : decode cX6_sell 10 = .ok (.ifCond .ne 9, 3) := by decide +kernel
theorem dX6_sell_13 : decode cX6_sell 13 = .ok (.aload_n 0, 1) := by decide +kernel
theorem dX6_sell_14 : decode cX6_sell 14 = .ok (.iconst 1, 1) := by decide +kernel
theorem dX6_sell_15 : decode cX6_sell 15 = .ok (.invokevirtual 45, 3) := by decide +kernel
theorem dX6_sell_18 : decode cX6_sell 18 = .ok (.ireturn, 1) := by decide +kernel
theorem dX6_sell_19 : decode cX6_sell 19 = .ok (.iload_n 2, 1) := by decide +kernel
theorem dX6_sell_20 : decode cX6_sell 20 = .ok (.iconst 1, 1) := by decide +kernel
theorem dX6_sell_21 : decode cX6_sell 21 = .ok (.sipush 200, 3) := by decide +kernel
theorem dX6_sell_24 : decode cX6_sell 24 = .ok (.invokestatic 35, 3) := by decide +kernel
theorem dX6_sell_27 : decode cX6_sell 27 = .ok (.ifCond .ne 9, 3) := by decide +kernel
theorem dX6_sell_30 : decode cX6_sell 30 = .ok (.aload_n 0, 1) := by decide +kernel
theorem dX6_sell_31 : decode cX6_sell 31 = .ok (.iconst 2, 1) := by decide +kernel
theorem dX6_sell_32 : decode cX6_sell 32 = .ok (.invokevirtual 45, 3) := by decide +kernel
theorem dX6_sell_35 : decode cX6_sell 35 = .ok (.ireturn, 1) := by decide +kernel
theorem dX6_sell_36 : decode cX6_sell 36 = .ok (.aload_n 0, 1) := by decide +kernel
theorem dX6_sell_37 : decode cX6_sell 37 = .ok (.iload_n 1, 1) := by decide +kernel
theorem dX6_sell_38 : decode cX6_sell 38 = .ok (.iconst 0, 1) := by decide +kernel
theorem dX6_sell_39 : decode cX6_sell 39 = .ok (.aload_n 0, 1) := by decide +kernel
theorem dX6_sell_40 : decode cX6_sell 40 = .ok (.iload_n 1, 1) := by decide +kernel
theorem dX6_sell_41 : decode cX6_sell 41 = .ok (.iconst 0, 1) := by decide +kernel
theorem dX6_sell_42 : decode cX6_sell 42 = .ok (.invokevirtual 80, 3) := by decide +kernel
theorem dX6_sell_45 : decode cX6_sell 45 = .ok (.iload_n 2, 1) := by decide +kernel
theorem dX6_sell_46 : decode cX6_sell 46 = .ok (.iadd, 1) := by decide +kernel
theorem dX6_sell_47 : decode cX6_sell 47 = .ok (.invokevirtual 83, 3) := by decide +kernel
theorem dX6_sell_50 : decode cX6_sell 50 = .ok (.aload_n 0, 1) := by decide +kernel
theorem dX6_sell_51 : decode cX6_sell 51 = .ok (.iload_n 1, 1) := by decide +kernel
theorem dX6_sell_52 : decode cX6_sell 52 = .ok (.iconst 2, 1) := by decide +kernel
theorem dX6_sell_53 : decode cX6_sell 53 = .ok (.invokevirtual 80, 3) := by decide +kernel
theorem dX6_sell_56 : decode cX6_sell 56 = .ok (.iconst 2, 1) := by decide +kernel
theorem dX6_sell_57 : decode cX6_sell 57 = .ok (.if_icmp .ne 10, 3) := by decide +kernel
theorem dX6_sell_60 : decode cX6_sell 60 = .ok (.aload_n 0, 1) := by decide +kernel
theorem dX6_sell_61 : decode cX6_sell 61 = .ok (.iload_n 1, 1) := by decide +kernel
theorem dX6_sell_62 : decode cX6_sell 62 = .ok (.iconst 2, 1) := by decide +kernel
theorem dX6_sell_63 : decode cX6_sell 63 = .ok (.iconst 0, 1) := by decide +kernel
theorem dX6_sell_64 : decode cX6_sell 64 = .ok (.invokevirtual 83, 3) := by decide +kernel
theorem dX6_sell_67 : decode cX6_sell 67 = .ok (.aload_n 0, 1) := by decide +kernel
theorem dX6_sell_68 : decode cX6_sell 68 = .ok (.iload_n 1, 1) := by decide +kernel
theorem dX6_sell_69 : decode cX6_sell 69 = .ok (.iconst 0, 1) := by decide +kernel
theorem dX6_sell_70 : decode cX6_sell 70 = .ok (.invokevirtual 80, 3) := by decide +kernel
theorem dX6_sell_73 : decode cX6_sell 73 = .ok (.ireturn, 1) := by decide +kernel
theorem dX6_stroll_0 : decode cX6_stroll 0 = .ok (.iconst 0, 1) := by decide +kernel
theorem dX6_stroll_1 : decode cX6_stroll 1 = .ok (.istore_n 2, 1) := by decide +kernel
theorem dX6_stroll_2 : decode cX6_stroll 2 = .ok (.iload_n 2, 1) := by decide +kernel
theorem dX6_stroll_3 : decode cX6_stroll 3 = .ok (.aload_n 0, 1) := by decide +kernel
theorem dX6_stroll_4 : decode cX6_stroll 4 = .ok (.getfield 42, 3) := by decide +kernel
theorem dX6_stroll_7 : decode cX6_stroll 7 = .ok (.if_icmp .ge 53, 3) := by decide +kernel
theorem dX6_stroll_10 : decode cX6_stroll 10 = .ok (.aload_n 0, 1) := by decide +kernel
theorem dX6_stroll_11 : decode cX6_stroll 11 = .ok (.iload_n 2, 1) := by decide +kernel
theorem dX6_stroll_12 : decode cX6_stroll 12 = .ok (.iconst 3, 1) := by decide +kernel
theorem dX6_stroll_13 : decode cX6_stroll 13 = .ok (.invokevirtual 80, 3) := by decide +kernel
theorem dX6_stroll_16 : decode cX6_stroll 16 = .ok (.aload_n 0, 1) := by decide +kernel
theorem dX6_stroll_17 : decode cX6_stroll 17 = .ok (.iload_n 1, 1) := by decide +kernel
theorem dX6_stroll_18 : decode cX6_stroll 18 = .ok (.iconst 3, 1) := by decide +kernel
theorem dX6_stroll_19 : decode cX6_stroll 19 = .ok (.invokevirtual 80, 3) := by decide +kernel
theorem dX6_stroll_22 : decode cX6_stroll 22 = .ok (.if_icmp .ne 32, 3) := by decide +kernel
theorem dX6_stroll_25 : decode cX6_stroll 25 = .ok (.aload_n 0, 1) := by decide +kernel
theorem dX6_stroll_26 : decode cX6_stroll 26 = .ok (.iload_n 2, 1) := by decide +kernel
theorem dX6_stroll_27 : decode cX6_stroll 27 = .ok (.iconst 4, 1) := by decide +kernel
theorem dX6_stroll_28 : decode cX6_stroll 28 = .ok (.invokevirtual 80, 3) := by decide +kernel
theorem dX6_stroll_31 : decode cX6_stroll 31 = .ok (.aload_n 0, 1) := by decide +kernel
theorem dX6_stroll_32 : decode cX6_stroll 32 = .ok (.iload_n 1, 1) := by decide +kernel
theorem dX6_stroll_33 : decode cX6_stroll 33 = .ok (.iconst 4, 1) := by decide +kernel
theorem dX6_stroll_34 : decode cX6_stroll 34 = .ok (.invokevirtual 80, 3) := by decide +kernel
theorem dX6_stroll_37 : decode cX6_stroll 37 = .ok (.if_icmp .le 17, 3) := by decide +kernel
theorem dX6_stroll_40 : decode cX6_stroll 40 = .ok (.aload_n 0, 1) := by decide +kernel
theorem dX6_stroll_41 : decode cX6_stroll 41 = .ok (.iload_n 2, 1) := by decide +kernel
theorem dX6_stroll_42 : decode cX6_stroll 42 = .ok (.iconst 4, 1) := by decide +kernel
theorem dX6_stroll_43 : decode cX6_stroll 43 = .ok (.aload_n 0, 1) := by decide +kernel
theorem dX6_stroll_44 : decode cX6_stroll 44 = .ok (.iload_n 2, 1) := by decide +kernel
theorem dX6_stroll_45 : decode cX6_stroll 45 = .ok (.iconst 4, 1) := by decide +kernel
theorem dX6_stroll_46 : decode cX6_stroll 46 = .ok (.invokevirtual 80, 3) := by decide +kernel
theorem dX6_stroll_49 : decode cX6_stroll 49 = .ok (.iconst 1, 1) := by decide +kernel
theorem dX6_stroll_50 : decode cX6_stroll 50 = .ok (.isub, 1) := by decide +kernel
theorem dX6_stroll_51 : decode cX6_stroll 51 = .ok (.invokevirtual 83, 3) := by decide +kernel
theorem dX6_stroll_54 : decode cX6_stroll 54 = .ok (.iinc 2 1, 3) := by decide +kernel
theorem dX6_stroll_57 : decode cX6_stroll 57 = .ok (.goto (-55), 3) := by decide +kernel
theorem dX6_stroll_60 : decode cX6_stroll 60 = .ok (.aload_n 0, 1) := by decide +kernel
theorem dX6_stroll_61 : decode cX6_stroll 61 = .ok (.iload_n 1, 1) := by decide +kernel
theorem dX6_stroll_62 : decode cX6_stroll 62 = .ok (.iconst 2, 1) := by decide +kernel
theorem dX6_stroll_63 : decode cX6_stroll 63 = .ok (.iconst 0, 1) := by decide +kernel
theorem dX6_stroll_64 : decode cX6_stroll 64 = .ok (.invokevirtual 83, 3) := by decide +kernel
theorem dX6_stroll_67 : decode cX6_stroll 67 = .ok (.aload_n 0, 1) := by decide +kernel
theorem dX6_stroll_68 : decode cX6_stroll 68 = .ok (.iload_n 1, 1) := by decide +kernel
theorem dX6_stroll_69 : decode cX6_stroll 69 = .ok (.iconst 3, 1) := by decide +kernel
theorem dX6_stroll_70 : decode cX6_stroll 70 = .ok (.iconst (-1), 1) := by decide +kernel
theorem dX6_stroll_71 : decode cX6_stroll 71 = .ok (.invokevirtual 83, 3) := by decide +kernel
theorem dX6_stroll_74 : decode cX6_stroll 74 = .ok (.return_, 1) := by decide +kernel
theorem dX6_leave_0 : decode cX6_leave 0 = .ok (.aload_n 0, 1) := by decide +kernel
theorem dX6_leave_1 : decode cX6_leave 1 = .ok (.iconst 0, 1) := by decide +kernel
theorem dX6_leave_2 : decode cX6_leave 2 = .ok (.putfield 28, 3) := by decide +kernel
theorem dX6_leave_5 : decode cX6_leave 5 = .ok (.aload_n 0, 1) := by decide +kernel
theorem dX6_leave_6 : decode cX6_leave 6 = .ok (.iload_n 1, 1) := by decide +kernel
theorem dX6_leave_7 : decode cX6_leave 7 = .ok (.invokevirtual 77, 3) := by decide +kernel
theorem dX6_leave_10 : decode cX6_leave 10 = .ok (.ifCond .ne 9, 3) := by decide +kernel
theorem dX6_leave_13 : decode cX6_leave 13 = .ok (.aload_n 0, 1) := by decide +kernel
theorem dX6_leave_14 : decode cX6_leave 14 = .ok (.iconst 1, 1) := by decide +kernel
theorem dX6_leave_15 : decode cX6_leave 15 = .ok (.invokevirtual 45, 3) := by decide +kernel
theorem dX6_leave_18 : decode cX6_leave 18 = .ok (.ireturn, 1) := by decide +kernel
theorem dX6_leave_19 : decode cX6_leave 19 = .ok (.aload_n 0, 1) := by decide +kernel
theorem dX6_leave_20 : decode cX6_leave 20 = .ok (.iload_n 1, 1) := by decide +kernel
theorem dX6_leave_21 : decode cX6_leave 21 = .ok (.iconst 3, 1) := by decide +kernel
theorem dX6_leave_22 : decode cX6_leave 22 = .ok (.invokevirtual 80, 3) := by decide +kernel
theorem dX6_leave_25 : decode cX6_leave 25 = .ok (.istore_n 2, 1) := by decide +kernel
theorem dX6_leave_26 : decode cX6_leave 26 = .ok (.iload_n 2, 1) := by decide +kernel
theorem dX6_leave_27 : decode cX6_leave 27 = .ok (.iconst (-1), 1) := by decide +kernel
theorem dX6_leave_28 : decode cX6_leave 28 = .ok (.if_icmp .eq 8, 3) := by decide +kernel
theorem dX6_leave_31 : decode cX6_leave 31 = .ok (.aload_n 0, 1) := by decide +kernel
theorem dX6_leave_32 : decode cX6_leave 32 = .ok (.iload_n 1, 1) := by decide +kernel
theorem dX6_leave_33 : decode cX6_leave 33 = .ok (.invokevirtual 86, 3) := by decide +kernel
theorem dX6_leave_36 : decode cX6_leave 36 = .ok (.iload_n 2, 1) := by decide +kernel
theorem dX6_leave_37 : decode cX6_leave 37 = .ok (.ireturn, 1) := by decide +kernel
theorem dX6_working_0 : decode cX6_working 0 = .ok (.iconst 0, 1) := by decide +kernel
theorem dX6_working_1 : decode cX6_working 1 = .ok (.istore_n 2, 1) := by decide +kernel
theorem dX6_working_2 : decode cX6_working 2 = .ok (.iconst 0, 1) := by decide +kernel
theorem dX6_working_3 : decode cX6_working 3 = .ok (.istore_n 3, 1) := by decide +kernel
theorem dX6_working_4 : decode cX6_working 4 = .ok (.iload_n 3, 1) := by decide +kernel
theorem dX6_working_5 : decode cX6_working 5 = .ok (.aload_n 0, 1) := by decide +kernel
theorem dX6_working_6 : decode cX6_working 6 = .ok (.getfield 39, 3) := by decide +kernel
theorem dX6_working_9 : decode cX6_working 9 = .ok (.if_icmp .ge 27, 3) := by decide +kernel
theorem dX6_working_12 : decode cX6_working 12 = .ok (.iload_n 2, 1) := by decide +kernel
theorem dX6_working_13 : decode cX6_working 13 = .ok (.aload_n 0, 1) := by decide +kernel
theorem dX6_working_14 : decode cX6_working 14 = .ok (.iload_n 3, 1) := by decide +kernel
theorem dX6_working_15 : decode cX6_working 15 = .ok (.iconst 1, 1) := by decide +kernel
theorem dX6_working_16 : decode cX6_working 16 = .ok (.invokevirtual 63, 3) := by decide +kernel
theorem dX6_working_19 : decode cX6_working 19 = .ok (.iload_n 1, 1) := by decide +kernel
theorem dX6_working_20 : decode cX6_working 20 = .ok (.if_icmp .ne 7, 3) := by decide +kernel
theorem dX6_working_23 : decode cX6_working 23 = .ok (.iconst 1, 1) := by decide +kernel
theorem dX6_working_24 : decode cX6_working 24 = .ok (.goto 4, 3) := by decide +kernel
theorem dX6_working_27 : decode cX6_working 27 = .ok (.iconst 0, 1) := by decide +kernel
theorem dX6_working_28 : decode cX6_working 28 = .ok (.iadd, 1) := by decide +kernel
theorem dX6_working_29 : decode cX6_working 29 = .ok (.istore_n 2, 1) := by decide +kernel
theorem dX6_working_30 : decode cX6_working 30 = .ok (.iinc 3 1, 3) := by decide +kernel
theorem dX6_working_33 : decode cX6_working 33 = .ok (.goto (-29), 3) := by decide +kernel
theorem dX6_working_36 : decode cX6_working 36 = .ok (.iload_n 2, 1) := by decide +kernel
theorem dX6_working_37 : decode cX6_working 37 = .ok (.ireturn, 1) := by decide +kernel
theorem dX6_isOpen_0 : decode cX6_isOpen 0 = .ok (.aload_n 0, 1) := by decide +kernel
theorem dX6_isOpen_1 : decode cX6_isOpen 1 = .ok (.iload_n 1, 1) := by decide +kernel
theorem dX6_isOpen_2 : decode cX6_isOpen 2 = .ok (.invokevirtual 90, 3) := by decide +kernel
theorem dX6_isOpen_5 : decode cX6_isOpen 5 = .ok (.aload_n 0, 1) := by decide +kernel
theorem dX6_isOpen_6 : decode cX6_isOpen 6 = .ok (.iload_n 1, 1) := by decide +kernel
theorem dX6_isOpen_7 : decode cX6_isOpen 7 = .ok (.iconst 3, 1) := by decide +kernel
theorem dX6_isOpen_8 : decode cX6_isOpen 8 = .ok (.invokevirtual 71, 3) := by decide +kernel
theorem dX6_isOpen_11 : decode cX6_isOpen 11 = .ok (.if_icmp .lt 7, 3) := by decide +kernel
theorem dX6_isOpen_14 : decode cX6_isOpen 14 = .ok (.iconst 1, 1) := by decide +kernel
theorem dX6_isOpen_15 : decode cX6_isOpen 15 = .ok (.goto 4, 3) := by decide +kernel
theorem dX6_isOpen_18 : decode cX6_isOpen 18 = .ok (.iconst 0, 1) := by decide +kernel
theorem dX6_isOpen_19 : decode cX6_isOpen 19 = .ok (.ireturn, 1) := by decide +kernel
theorem dX6_length_0 : decode cX6_length 0 = .ok (.iconst 0, 1) := by decide +kernel
theorem dX6_length_1 : decode cX6_length 1 = .ok (.istore_n 2, 1) := by decide +kernel
theorem dX6_length_2 : decode cX6_length 2 = .ok (.iconst 0, 1) := by decide +kernel
theorem dX6_length_3 : decode cX6_length 3 = .ok (.istore_n 3, 1) := by decide +kernel
theorem dX6_length_4 : decode cX6_length 4 = .ok (.iload_n 3, 1) := by decide +kernel
theorem dX6_length_5 : decode cX6_length 5 = .ok (.aload_n 0, 1) := by decide +kernel
theorem dX6_length_6 : decode cX6_length 6 = .ok (.getfield 42, 3) := by decide +kernel
theorem dX6_length_9 : decode cX6_length 9 = .ok (.if_icmp .ge 27, 3) := by decide +kernel
theorem dX6_length_12 : decode cX6_length 12 = .ok (.iload_n 2, 1) := by decide +kernel
theorem dX6_length_13 : decode cX6_length 13 = .ok (.aload_n 0, 1) := by decide +kernel
theorem dX6_length_14 : decode cX6_length 14 = .ok (.iload_n 3, 1) := by decide +kernel
theorem dX6_length_15 : decode cX6_length 15 = .ok (.iconst 3, 1) := by decide +kernel
theorem dX6_length_16 : decode cX6_length 16 = .ok (.invokevirtual 80, 3) := by decide +kernel
theorem dX6_length_19 : decode cX6_length 19 = .ok (.iload_n 1, 1) := by decide +kernel
theorem dX6_length_20 : decode cX6_length 20 = .ok (.if_icmp .ne 7, 3) := by decide +kernel
theorem dX6_length_23 : decode cX6_length 23 = .ok (.iconst 1, 1) := by decide +kernel
theorem dX6_length_24 : decode cX6_length 24 = .ok (.goto 4, 3) := by decide +kernel
theorem dX6_length_27 : decode cX6_length 27 = .ok (.iconst 0, 1) := by decide +kernel
theorem dX6_length_28 : decode cX6_length 28 = .ok (.iadd, 1) := by decide +kernel
theorem dX6_length_29 : decode cX6_length 29 = .ok (.istore_n 2, 1) := by decide +kernel
theorem dX6_length_30 : decode cX6_length 30 = .ok (.iinc 3 1, 3) := by decide +kernel
theorem dX6_length_33 : decode cX6_length 33 = .ok (.goto (-29), 3) := by decide +kernel
theorem dX6_length_36 : decode cX6_length 36 = .ok (.iload_n 2, 1) := by decide +kernel
theorem dX6_length_37 : decode cX6_length 37 = .ok (.ireturn, 1) := by decide +kernel
theorem dX6_at_0 : decode cX6_at 0 = .ok (.iconst 0, 1) := by decide +kernel
theorem dX6_at_1 : decode cX6_at 1 = .ok (.istore_n 3, 1) := by decide +kernel
theorem dX6_at_2 : decode cX6_at 2 = .ok (.iload_n 3, 1) := by decide +kernel
theorem dX6_at_3 : decode cX6_at 3 = .ok (.aload_n 0, 1) := by decide +kernel
theorem dX6_at_4 : decode cX6_at 4 = .ok (.getfield 42, 3) := by decide +kernel
theorem dX6_at_7 : decode cX6_at 7 = .ok (.if_icmp .ge 31, 3) := by decide +kernel
theorem dX6_at_10 : decode cX6_at 10 = .ok (.aload_n 0, 1) := by decide +kernel
theorem dX6_at_11 : decode cX6_at 11 = .ok (.iload_n 3, 1) := by decide +kernel
theorem dX6_at_12 : decode cX6_at 12 = .ok (.iconst 3, 1) := by decide +kernel
theorem dX6_at_13 : decode cX6_at 13 = .ok (.invokevirtual 80, 3) := by decide +kernel
theorem dX6_at_16 : decode cX6_at 16 = .ok (.iload_n 1, 1) := by decide +kernel
theorem dX6_at_17 : decode cX6_at 17 = .ok (.if_icmp .ne 15, 3) := by decide +kernel
theorem dX6_at_20 : decode cX6_at 20 = .ok (.aload_n 0, 1) := by decide +kernel
theorem dX6_at_21 : decode cX6_at 21 = .ok (.iload_n 3, 1) := by decide +kernel
theorem dX6_at_22 : decode cX6_at 22 = .ok (.iconst 4, 1) := by decide +kernel
theorem dX6_at_23 : decode cX6_at 23 = .ok (.invokevirtual 80, 3) := by decide +kernel
theorem dX6_at_26 : decode cX6_at 26 = .ok (.iload_n 2, 1) := by decide +kernel
theorem dX6_at_27 : decode cX6_at 27 = .ok (.if_icmp .ne 5, 3) := by decide +kernel
theorem dX6_at_30 : decode cX6_at 30 = .ok (.iload_n 3, 1) := by decide +kernel
theorem dX6_at_31 : decode cX6_at 31 = .ok (.ireturn, 1) := by decide +kernel
theorem dX6_at_32 : decode cX6_at 32 = .ok (.iinc 3 1, 3) := by decide +kernel
theorem dX6_at_35 : decode cX6_at 35 = .ok (.goto (-33), 3) := by decide +kernel
theorem dX6_at_38 : decode cX6_at 38 = .ok (.iconst (-1), 1) := by decide +kernel
theorem dX6_at_39 : decode cX6_at 39 = .ok (.ireturn, 1) := by decide +kernel
theorem dX6_cost_0 : decode cX6_cost 0 = .ok (.aload_n 0, 1) := by decide +kernel
theorem dX6_cost_1 : decode cX6_cost 1 = .ok (.iload_n 1, 1) := by decide +kernel
theorem dX6_cost_2 : decode cX6_cost 2 = .ok (.iconst 0, 1) := by decide +kernel
theorem dX6_cost_3 : decode cX6_cost 3 = .ok (.invokevirtual 71, 3) := by decide +kernel
theorem dX6_cost_6 : decode cX6_cost 6 = .ok (.aload_n 0, 1) := by decide +kernel
theorem dX6_cost_7 : decode cX6_cost 7 = .ok (.getfield 25, 3) := by decide +kernel
theorem dX6_cost_10 : decode cX6_cost 10 = .ok (.iconst 2, 1) := by decide +kernel
theorem dX6_cost_11 : decode cX6_cost 11 = .ok (.iaload, 1) := by decide +kernel
theorem dX6_cost_12 : decode cX6_cost 12 = .ok (.iload_n 1, 1) := by decide +kernel
theorem dX6_cost_13 : decode cX6_cost 13 = .ok (.if_icmp .ne 7, 3) := by decide +kernel
theorem dX6_cost_16 : decode cX6_cost 16 = .ok (.iconst 1, 1) := by decide +kernel
theorem dX6_cost_17 : decode cX6_cost 17 = .ok (.goto 4, 3) := by decide +kernel
theorem dX6_cost_20 : decode cX6_cost 20 = .ok (.iconst 0, 1) := by decide +kernel
theorem dX6_cost_21 : decode cX6_cost 21 = .ok (.isub, 1) := by decide +kernel
theorem dX6_cost_22 : decode cX6_cost 22 = .ok (.ireturn, 1) := by decide +kernel
theorem dX6_boothTold_0 : decode cX6_boothTold 0 = .ok (.iload_n 2, 1) := by decide +kernel
theorem dX6_boothTold_1 : decode cX6_boothTold 1 = .ok (.tableswitch 117 0 9 #[55, 117, 117, 117, 61, 67, 81, 97, 103, 110], 55) := by decide +kernel
theorem dX6_boothTold_56 : decode cX6_boothTold 56 = .ok (.aload_n 0, 1) := by decide +kernel
theorem dX6_boothTold_57 : decode cX6_boothTold 57 = .ok (.iload_n 1, 1) := by decide +kernel
theorem dX6_boothTold_58 : decode cX6_boothTold 58 = .ok (.invokevirtual 93, 3) := by decide +kernel
theorem dX6_boothTold_61 : decode cX6_boothTold 61 = .ok (.ireturn, 1) := by decide +kernel
theorem dX6_boothTold_62 : decode cX6_boothTold 62 = .ok (.aload_n 0, 1) := by decide +kernel
theorem dX6_boothTold_63 : decode cX6_boothTold 63 = .ok (.iload_n 1, 1) := by decide +kernel
theorem dX6_boothTold_64 : decode cX6_boothTold 64 = .ok (.invokevirtual 90, 3) := by decide +kernel
theorem dX6_boothTold_67 : decode cX6_boothTold 67 = .ok (.ireturn, 1) := by decide +kernel
theorem dX6_boothTold_68 : decode cX6_boothTold 68 = .ok (.aload_n 0, 1) := by decide +kernel
theorem dX6_boothTold_69 : decode cX6_boothTold 69 = .ok (.iload_n 1, 1) := by decide +kernel
theorem dX6_boothTold_70 : decode cX6_boothTold 70 = .ok (.invokevirtual 96, 3) := by decide +kernel
theorem dX6_boothTold_73 : decode cX6_boothTold 73 = .ok (.ifCond .eq 7, 3) := by decide +kernel
theorem dX6_boothTold_76 : decode cX6_boothTold 76 = .ok (.iconst 1, 1) := by decide +kernel
theorem dX6_boothTold_77 : decode cX6_boothTold 77 = .ok (.goto 4, 3) := by decide +kernel
theorem dX6_boothTold_80 : decode cX6_boothTold 80 = .ok (.iconst 0, 1) := by decide +kernel
theorem dX6_boothTold_81 : decode cX6_boothTold 81 = .ok (.ireturn, 1) := by decide +kernel
theorem dX6_boothTold_82 : decode cX6_boothTold 82 = .ok (.aload_n 0, 1) := by decide +kernel
theorem dX6_boothTold_83 : decode cX6_boothTold 83 = .ok (.getfield 25, 3) := by decide +kernel
theorem dX6_boothTold_86 : decode cX6_boothTold 86 = .ok (.iconst 2, 1) := by decide +kernel
theorem dX6_boothTold_87 : decode cX6_boothTold 87 = .ok (.iaload, 1) := by decide +kernel
theorem dX6_boothTold_88 : decode cX6_boothTold 88 = .ok (.iload_n 1, 1) := by decide +kernel
theorem dX6_boothTold_89 : decode cX6_boothTold 89 = .ok (.if_icmp .ne 7, 3) := by decide +kernel
theorem dX6_boothTold_92 : decode cX6_boothTold 92 = .ok (.iconst 1, 1) := by decide +kernel
theorem dX6_boothTold_93 : decode cX6_boothTold 93 = .ok (.goto 4, 3) := by decide +kernel
theorem dX6_boothTold_96 : decode cX6_boothTold 96 = .ok (.iconst 0, 1) := by decide +kernel
theorem dX6_boothTold_97 : decode cX6_boothTold 97 = .ok (.ireturn, 1) := by decide +kernel
theorem dX6_boothTold_98 : decode cX6_boothTold 98 = .ok (.aload_n 0, 1) := by decide +kernel
theorem dX6_boothTold_99 : decode cX6_boothTold 99 = .ok (.iload_n 1, 1) := by decide +kernel
theorem dX6_boothTold_100 : decode cX6_boothTold 100 = .ok (.invokevirtual 99, 3) := by decide +kernel
theorem dX6_boothTold_103 : decode cX6_boothTold 103 = .ok (.ireturn, 1) := by decide +kernel
theorem dX6_boothTold_104 : decode cX6_boothTold 104 = .ok (.aload_n 0, 1) := by decide +kernel
theorem dX6_boothTold_105 : decode cX6_boothTold 105 = .ok (.iload_n 1, 1) := by decide +kernel
theorem dX6_boothTold_106 : decode cX6_boothTold 106 = .ok (.iconst 4, 1) := by decide +kernel
theorem dX6_boothTold_107 : decode cX6_boothTold 107 = .ok (.invokevirtual 71, 3) := by decide +kernel
theorem dX6_boothTold_110 : decode cX6_boothTold 110 = .ok (.ireturn, 1) := by decide +kernel
theorem dX6_boothTold_111 : decode cX6_boothTold 111 = .ok (.aload_n 0, 1) := by decide +kernel
theorem dX6_boothTold_112 : decode cX6_boothTold 112 = .ok (.iload_n 1, 1) := by decide +kernel
theorem dX6_boothTold_113 : decode cX6_boothTold 113 = .ok (.iconst 5, 1) := by decide +kernel
theorem dX6_boothTold_114 : decode cX6_boothTold 114 = .ok (.invokevirtual 71, 3) := by decide +kernel
theorem dX6_boothTold_117 : decode cX6_boothTold 117 = .ok (.ireturn, 1) := by decide +kernel
theorem dX6_boothTold_118 : decode cX6_boothTold 118 = .ok (.aload_n 0, 1) := by decide +kernel
theorem dX6_boothTold_119 : decode cX6_boothTold 119 = .ok (.iload_n 1, 1) := by decide +kernel
theorem dX6_boothTold_120 : decode cX6_boothTold 120 = .ok (.iload_n 2, 1) := by decide +kernel
theorem dX6_boothTold_121 : decode cX6_boothTold 121 = .ok (.invokevirtual 71, 3) := by decide +kernel
theorem dX6_boothTold_124 : decode cX6_boothTold 124 = .ok (.ireturn, 1) := by decide +kernel
theorem dX6_booth_0 : decode cX6_booth 0 = .ok (.aload_n 0, 1) := by decide +kernel
theorem dX6_booth_1 : decode cX6_booth 1 = .ok (.iconst 0, 1) := by decide +kernel
theorem dX6_booth_2 : decode cX6_booth 2 = .ok (.putfield 28, 3) := by decide +kernel
theorem dX6_booth_5 : decode cX6_booth 5 = .ok (.aload_n 0, 1) := by decide +kernel
theorem dX6_booth_6 : decode cX6_booth 6 = .ok (.iload_n 1, 1) := by decide +kernel
theorem dX6_booth_7 : decode cX6_booth 7 = .ok (.invokevirtual 60, 3) := by decide +kernel
theorem dX6_booth_10 : decode cX6_booth 10 = .ok (.ifCond .eq 22, 3) := by decide +kernel
theorem dX6_booth_13 : decode cX6_booth 13 = .ok (.iload_n 2, 1) := by decide +kernel
theorem dX6_booth_14 : decode cX6_booth 14 = .ok (.iconst 0, 1) := by decide +kernel
theorem dX6_booth_15 : decode cX6_booth 15 = .ok (.bipush 9, 2) := by decide +kernel
theorem dX6_booth_17 : decode cX6_booth 17 = .ok (.invokestatic 35, 3) := by decide +kernel
theorem dX6_booth_20 : decode cX6_booth 20 = .ok (.ifCond .eq 12, 3) := by decide +kernel
theorem dX6_booth_23 : decode cX6_booth 23 = .ok (.aload_n 0, 1) := by decide +kernel
theorem dX6_booth_24 : decode cX6_booth 24 = .ok (.iload_n 1, 1) := by decide +kernel
theorem dX6_booth_25 : decode cX6_booth 25 = .ok (.iload_n 2, 1) := by decide +kernel
theorem dX6_booth_26 : decode cX6_booth 26 = .ok (.invokevirtual 102, 3) := by decide +kernel
theorem dX6_booth_29 : decode cX6_booth 29 = .ok (.goto 8, 3) := by decide +kernel
theorem dX6_booth_32 : decode cX6_booth 32 = .ok (.aload_n 0, 1) := by decide +kernel
theorem dX6_booth_33 : decode cX6_booth 33 = .ok (.iconst 1, 1) := by decide +kernel
theorem dX6_booth_34 : decode cX6_booth 34 = .ok (.invokevirtual 45, 3) := by decide +kernel
theorem dX6_booth_37 : decode cX6_booth 37 = .ok (.ireturn, 1) := by decide +kernel
theorem dX6_queue_0 : decode cX6_queue 0 = .ok (.aload_n 0, 1) := by decide +kernel
theorem dX6_queue_1 : decode cX6_queue 1 = .ok (.iconst 0, 1) := by decide +kernel
theorem dX6_queue_2 : decode cX6_queue 2 = .ok (.putfield 28, 3) := by decide +kernel
theorem dX6_queue_5 : decode cX6_queue 5 = .ok (.aload_n 0, 1) := by decide +kernel
theorem dX6_queue_6 : decode cX6_queue 6 = .ok (.iload_n 1, 1) := by decide +kernel
theorem dX6_queue_7 : decode cX6_queue 7 = .ok (.invokevirtual 60, 3) := by decide +kernel
theorem dX6_queue_10 : decode cX6_queue 10 = .ok (.ifCond .eq 27, 3) := by decide +kernel
theorem dX6_queue_13 : decode cX6_queue 13 = .ok (.iload_n 2, 1) := by decide +kernel
theorem dX6_queue_14 : decode cX6_queue 14 = .ok (.iconst 0, 1) := by decide +kernel
theorem dX6_queue_15 : decode cX6_queue 15 = .ok (.aload_n 0, 1) := by decide +kernel
theorem dX6_queue_16 : decode cX6_queue 16 = .ok (.iload_n 1, 1) := by decide +kernel
theorem dX6_queue_17 : decode cX6_queue 17 = .ok (.invokevirtual 99, 3) := by decide +kernel
theorem dX6_queue_20 : decode cX6_queue 20 = .ok (.iconst 1, 1) := by decide +kernel
theorem dX6_queue_21 : decode cX6_queue 21 = .ok (.isub, 1) := by decide +kernel
theorem dX6_queue_22 : decode cX6_queue 22 = .ok (.invokestatic 35, 3) := by decide +kernel
theorem dX6_queue_25 : decode cX6_queue 25 = .ok (.ifCond .eq 12, 3) := by decide +kernel
theorem dX6_queue_28 : decode cX6_queue 28 = .ok (.aload_n 0, 1) := by decide +kernel
theorem dX6_queue_29 : decode cX6_queue 29 = .ok (.iload_n 1, 1) := by decide +kernel
theorem dX6_queue_30 : decode cX6_queue 30 = .ok (.iload_n 2, 1) := by decide +kernel
theorem dX6_queue_31 : decode cX6_queue 31 = .ok (.invokevirtual 105, 3) := by decide +kernel
theorem dX6_queue_34 : decode cX6_queue 34 = .ok (.goto 8, 3) := by decide +kernel
theorem dX6_queue_37 : decode cX6_queue 37 = .ok (.aload_n 0, 1) := by decide +kernel
theorem dX6_queue_38 : decode cX6_queue 38 = .ok (.iconst 1, 1) := by decide +kernel
theorem dX6_queue_39 : decode cX6_queue 39 = .ok (.invokevirtual 45, 3) := by decide +kernel
theorem dX6_queue_42 : decode cX6_queue 42 = .ok (.ireturn, 1) := by decide +kernel
theorem dX6_helper_0 : decode cX6_helper 0 = .ok (.aload_n 0, 1) := by decide +kernel
theorem dX6_helper_1 : decode cX6_helper 1 = .ok (.iconst 0, 1) := by decide +kernel
theorem dX6_helper_2 : decode cX6_helper 2 = .ok (.putfield 28, 3) := by decide +kernel
theorem dX6_helper_5 : decode cX6_helper 5 = .ok (.aload_n 0, 1) := by decide +kernel
theorem dX6_helper_6 : decode cX6_helper 6 = .ok (.iload_n 1, 1) := by decide +kernel
theorem dX6_helper_7 : decode cX6_helper 7 = .ok (.invokevirtual 56, 3) := by decide +kernel
theorem dX6_helper_10 : decode cX6_helper 10 = .ok (.ifCond .eq 21, 3) := by decide +kernel
theorem dX6_helper_13 : decode cX6_helper 13 = .ok (.iload_n 2, 1) := by decide +kernel
theorem dX6_helper_14 : decode cX6_helper 14 = .ok (.iconst 0, 1) := by decide +kernel
theorem dX6_helper_15 : decode cX6_helper 15 = .ok (.iconst 2, 1) := by decide +kernel
theorem dX6_helper_16 : decode cX6_helper 16 = .ok (.invokestatic 35, 3) := by decide +kernel
theorem dX6_helper_19 : decode cX6_helper 19 = .ok (.ifCond .eq 12, 3) := by decide +kernel
theorem dX6_helper_22 : decode cX6_helper 22 = .ok (.aload_n 0, 1) := by decide +kernel
theorem dX6_helper_23 : decode cX6_helper 23 = .ok (.iload_n 1, 1) := by decide +kernel
theorem dX6_helper_24 : decode cX6_helper 24 = .ok (.iload_n 2, 1) := by decide +kernel
theorem dX6_helper_25 : decode cX6_helper 25 = .ok (.invokevirtual 63, 3) := by decide +kernel
theorem dX6_helper_28 : decode cX6_helper 28 = .ok (.goto 8, 3) := by decide +kernel
theorem dX6_helper_31 : decode cX6_helper 31 = .ok (.aload_n 0, 1) := by decide +kernel
theorem dX6_helper_32 : decode cX6_helper 32 = .ok (.iconst 1, 1) := by decide +kernel
theorem dX6_helper_33 : decode cX6_helper 33 = .ok (.invokevirtual 45, 3) := by decide +kernel
theorem dX6_helper_36 : decode cX6_helper 36 = .ok (.ireturn, 1) := by decide +kernel
theorem dX6_visitorTold_0 : decode cX6_visitorTold 0 = .ok (.aload_n 0, 1) := by decide +kernel
theorem dX6_visitorTold_1 : decode cX6_visitorTold 1 = .ok (.iload_n 1, 1) := by decide +kernel
theorem dX6_visitorTold_2 : decode cX6_visitorTold 2 = .ok (.iload_n 2, 1) := by decide +kernel
theorem dX6_visitorTold_3 : decode cX6_visitorTold 3 = .ok (.iconst 4, 1) := by decide +kernel
theorem dX6_visitorTold_4 : decode cX6_visitorTold 4 = .ok (.if_icmp .ge 7, 3) := by decide +kernel
theorem dX6_visitorTold_7 : decode cX6_visitorTold 7 = .ok (.iload_n 2, 1) := by decide +kernel
theorem dX6_visitorTold_8 : decode cX6_visitorTold 8 = .ok (.goto 6, 3) := by decide +kernel
theorem dX6_visitorTold_11 : decode cX6_visitorTold 11 = .ok (.iload_n 2, 1) := by decide +kernel
theorem dX6_visitorTold_12 : decode cX6_visitorTold 12 = .ok (.iconst 1, 1) := by decide +kernel
theorem dX6_visitorTold_13 : decode cX6_visitorTold 13 = .ok (.iadd, 1) := by decide +kernel
theorem dX6_visitorTold_14 : decode cX6_visitorTold 14 = .ok (.invokevirtual 80, 3) := by decide +kernel
theorem dX6_visitorTold_17 : decode cX6_visitorTold 17 = .ok (.ireturn, 1) := by decide +kernel
theorem dX6_visitor_0 : decode cX6_visitor 0 = .ok (.aload_n 0, 1) := by decide +kernel
theorem dX6_visitor_1 : decode cX6_visitor 1 = .ok (.iconst 0, 1) := by decide +kernel
theorem dX6_visitor_2 : decode cX6_visitor 2 = .ok (.putfield 28, 3) := by decide +kernel
theorem dX6_visitor_5 : decode cX6_visitor 5 = .ok (.aload_n 0, 1) := by decide +kernel
theorem dX6_visitor_6 : decode cX6_visitor 6 = .ok (.iload_n 1, 1) := by decide +kernel
theorem dX6_visitor_7 : decode cX6_visitor 7 = .ok (.invokevirtual 77, 3) := by decide +kernel
theorem dX6_visitor_10 : decode cX6_visitor 10 = .ok (.ifCond .eq 22, 3) := by decide +kernel
theorem dX6_visitor_13 : decode cX6_visitor 13 = .ok (.iload_n 2, 1) := by decide +kernel
theorem dX6_visitor_14 : decode cX6_visitor 14 = .ok (.iconst 0, 1) := by decide +kernel
theorem dX6_visitor_15 : decode cX6_visitor 15 = .ok (.bipush 7, 2) := by decide +kernel
theorem dX6_visitor_17 : decode cX6_visitor 17 = .ok (.invokestatic 35, 3) := by decide +kernel
theorem dX6_visitor_20 : decode cX6_visitor 20 = .ok (.ifCond .eq 12, 3) := by decide +kernel
theorem dX6_visitor_23 : decode cX6_visitor 23 = .ok (.aload_n 0, 1) := by decide +kernel
theorem dX6_visitor_24 : decode cX6_visitor 24 = .ok (.iload_n 1, 1) := by decide +kernel
theorem dX6_visitor_25 : decode cX6_visitor 25 = .ok (.iload_n 2, 1) := by decide +kernel
theorem dX6_visitor_26 : decode cX6_visitor 26 = .ok (.invokevirtual 108, 3) := by decide +kernel
theorem dX6_visitor_29 : decode cX6_visitor 29 = .ok (.goto 8, 3) := by decide +kernel
theorem dX6_visitor_32 : decode cX6_visitor 32 = .ok (.aload_n 0, 1) := by decide +kernel
theorem dX6_visitor_33 : decode cX6_visitor 33 = .ok (.iconst 1, 1) := by decide +kernel
theorem dX6_visitor_34 : decode cX6_visitor 34 = .ok (.invokevirtual 45, 3) := by decide +kernel
theorem dX6_visitor_37 : decode cX6_visitor 37 = .ok (.ireturn, 1) := by decide +kernel
theorem dX6_practice_0 : decode cX6_practice 0 = .ok (.aload_n 0, 1) := by decide +kernel
theorem dX6_practice_1 : decode cX6_practice 1 = .ok (.iconst 0, 1) := by decide +kernel
theorem dX6_practice_2 : decode cX6_practice 2 = .ok (.putfield 28, 3) := by decide +kernel
theorem dX6_practice_5 : decode cX6_practice 5 = .ok (.aload_n 0, 1) := by decide +kernel
theorem dX6_practice_6 : decode cX6_practice 6 = .ok (.iload_n 1, 1) := by decide +kernel
theorem dX6_practice_7 : decode cX6_practice 7 = .ok (.invokevirtual 77, 3) := by decide +kernel
theorem dX6_practice_10 : decode cX6_practice 10 = .ok (.ifCond .eq 25, 3) := by decide +kernel
theorem dX6_practice_13 : decode cX6_practice 13 = .ok (.aload_n 0, 1) := by decide +kernel
theorem dX6_practice_14 : decode cX6_practice 14 = .ok (.iload_n 2, 1) := by decide +kernel
theorem dX6_practice_15 : decode cX6_practice 15 = .ok (.invokevirtual 60, 3) := by decide +kernel
theorem dX6_practice_18 : decode cX6_practice 18 = .ok (.ifCond .eq 17, 3) := by decide +kernel
theorem dX6_practice_21 : decode cX6_practice 21 = .ok (.aload_n 0, 1) := by decide +kernel
theorem dX6_practice_22 : decode cX6_practice 22 = .ok (.getfield 19, 3) := by decide +kernel
theorem dX6_practice_25 : decode cX6_practice 25 = .ok (.bipush 8, 2) := by decide +kernel
theorem dX6_practice_27 : decode cX6_practice 27 = .ok (.iload_n 1, 1) := by decide +kernel
theorem dX6_practice_28 : decode cX6_practice 28 = .ok (.imul, 1) := by decide +kernel
theorem dX6_practice_29 : decode cX6_practice 29 = .ok (.iload_n 2, 1) := by decide +kernel
theorem dX6_practice_30 : decode cX6_practice 30 = .ok (.iadd, 1) := by decide +kernel
theorem dX6_practice_31 : decode cX6_practice 31 = .ok (.iaload, 1) := by decide +kernel
theorem dX6_practice_32 : decode cX6_practice 32 = .ok (.goto 8, 3) := by decide +kernel
theorem dX6_practice_35 : decode cX6_practice 35 = .ok (.aload_n 0, 1) := by decide +kernel
theorem dX6_practice_36 : decode cX6_practice 36 = .ok (.iconst 1, 1) := by decide +kernel
theorem dX6_practice_37 : decode cX6_practice 37 = .ok (.invokevirtual 45, 3) := by decide +kernel
theorem dX6_practice_40 : decode cX6_practice 40 = .ok (.ireturn, 1) := by decide +kernel
theorem dX6_board_0 : decode cX6_board 0 = .ok (.aload_n 0, 1) := by decide +kernel
theorem dX6_board_1 : decode cX6_board 1 = .ok (.iconst 0, 1) := by decide +kernel
theorem dX6_board_2 : decode cX6_board 2 = .ok (.putfield 28, 3) := by decide +kernel
theorem dX6_board_5 : decode cX6_board 5 = .ok (.iload_n 1, 1) := by decide +kernel
theorem dX6_board_6 : decode cX6_board 6 = .ok (.iconst 0, 1) := by decide +kernel
theorem dX6_board_7 : decode cX6_board 7 = .ok (.aload_n 0, 1) := by decide +kernel
theorem dX6_board_8 : decode cX6_board 8 = .ok (.getfield 25, 3) := by decide +kernel
theorem dX6_board_11 : decode cX6_board 11 = .ok (.iconst 4, 1) := by decide +kernel
theorem dX6_board_12 : decode cX6_board 12 = .ok (.iaload, 1) := by decide +kernel
theorem dX6_board_13 : decode cX6_board 13 = .ok (.iconst 1, 1) := by decide +kernel
theorem dX6_board_14 : decode cX6_board 14 = .ok (.isub, 1) := by decide +kernel
theorem dX6_board_15 : decode cX6_board 15 = .ok (.invokestatic 35, 3) := by decide +kernel
theorem dX6_board_18 : decode cX6_board 18 = .ok (.ifCond .eq 25, 3) := by decide +kernel
theorem dX6_board_21 : decode cX6_board 21 = .ok (.iload_n 2, 1) := by decide +kernel
theorem dX6_board_22 : decode cX6_board 22 = .ok (.iconst 0, 1) := by decide +kernel
theorem dX6_board_23 : decode cX6_board 23 = .ok (.iconst 2, 1) := by decide +kernel
theorem dX6_board_24 : decode cX6_board 24 = .ok (.invokestatic 35, 3) := by decide +kernel
theorem dX6_board_27 : decode cX6_board 27 = .ok (.ifCond .eq 16, 3) := by decide +kernel
theorem dX6_board_30 : decode cX6_board 30 = .ok (.aload_n 0, 1) := by decide +kernel
theorem dX6_board_31 : decode cX6_board 31 = .ok (.getfield 22, 3) := by decide +kernel
theorem dX6_board_34 : decode cX6_board 34 = .ok (.iconst 3, 1) := by decide +kernel
theorem dX6_board_35 : decode cX6_board 35 = .ok (.iload_n 1, 1) := by decide +kernel
theorem dX6_board_36 : decode cX6_board 36 = .ok (.imul, 1) := by decide +kernel
theorem dX6_board_37 : decode cX6_board 37 = .ok (.iload_n 2, 1) := by decide +kernel
theorem dX6_board_38 : decode cX6_board 38 = .ok (.iadd, 1) := by decide +kernel
theorem dX6_board_39 : decode cX6_board 39 = .ok (.iaload, 1) := by decide +kernel
theorem dX6_board_40 : decode cX6_board 40 = .ok (.goto 8, 3) := by decide +kernel
theorem dX6_board_43 : decode cX6_board 43 = .ok (.aload_n 0, 1) := by decide +kernel
theorem dX6_board_44 : decode cX6_board 44 = .ok (.iconst 1, 1) := by decide +kernel
theorem dX6_board_45 : decode cX6_board 45 = .ok (.invokevirtual 45, 3) := by decide +kernel
theorem dX6_board_48 : decode cX6_board 48 = .ok (.ireturn, 1) := by decide +kernel
theorem dX6_dart_0 : decode cX6_dart 0 = .ok (.aload_n 0, 1) := by decide +kernel
theorem dX6_dart_1 : decode cX6_dart 1 = .ok (.getfield 25, 3) := by decide +kernel
theorem dX6_dart_4 : decode cX6_dart 4 = .ok (.iconst 1, 1) := by decide +kernel
theorem dX6_dart_5 : decode cX6_dart 5 = .ok (.aload_n 0, 1) := by decide +kernel
theorem dX6_dart_6 : decode cX6_dart 6 = .ok (.getfield 25, 3) := by decide +kernel
theorem dX6_dart_9 : decode cX6_dart 9 = .ok (.iconst 1, 1) := by decide +kernel
theorem dX6_dart_10 : decode cX6_dart 10 = .ok (.iaload, 1) := by decide +kernel
theorem dX6_dart_11 : decode cX6_dart 11 = .ok (.bipush 75, 2) := by decide +kernel
theorem dX6_dart_13 : decode cX6_dart 13 = .ok (.imul, 1) := by decide +kernel
theorem dX6_dart_14 : decode cX6_dart 14 = .ok (.bipush 74, 2) := by decide +kernel
theorem dX6_dart_16 : decode cX6_dart 16 = .ok (.iadd, 1) := by decide +kernel
theorem dX6_dart_17 : decode cX6_dart 17 = .ok (.ldc 111, 2) := by decide +kernel
theorem dX6_dart_19 : decode cX6_dart 19 = .ok (.irem, 1) := by decide +kernel
theorem dX6_dart_20 : decode cX6_dart 20 = .ok (.iastore, 1) := by decide +kernel
theorem dX6_dart_21 : decode cX6_dart 21 = .ok (.aload_n 0, 1) := by decide +kernel
theorem dX6_dart_22 : decode cX6_dart 22 = .ok (.getfield 25, 3) := by decide +kernel
theorem dX6_dart_25 : decode cX6_dart 25 = .ok (.iconst 2, 1) := by decide +kernel
theorem dX6_dart_26 : decode cX6_dart 26 = .ok (.aload_n 0, 1) := by decide +kernel
theorem dX6_dart_27 : decode cX6_dart 27 = .ok (.getfield 32, 3) := by decide +kernel
theorem dX6_dart_30 : decode cX6_dart 30 = .ok (.ifCond .ne 7, 3) := by decide +kernel
theorem dX6_dart_33 : decode cX6_dart 33 = .ok (.iconst (-1), 1) := by decide +kernel
theorem dX6_dart_34 : decode cX6_dart 34 = .ok (.goto 14, 3) := by decide +kernel
theorem dX6_dart_37 : decode cX6_dart 37 = .ok (.aload_n 0, 1) := by decide +kernel
theorem dX6_dart_38 : decode cX6_dart 38 = .ok (.getfield 25, 3) := by decide +kernel
theorem dX6_dart_41 : decode cX6_dart 41 = .ok (.iconst 1, 1) := by decide +kernel
theorem dX6_dart_42 : decode cX6_dart 42 = .ok (.iaload, 1) := by decide +kernel
theorem dX6_dart_43 : decode cX6_dart 43 = .ok (.aload_n 0, 1) := by decide +kernel
theorem dX6_dart_44 : decode cX6_dart 44 = .ok (.getfield 32, 3) := by decide +kernel
theorem dX6_dart_47 : decode cX6_dart 47 = .ok (.irem, 1) := by decide +kernel
theorem dX6_dart_48 : decode cX6_dart 48 = .ok (.iastore, 1) := by decide +kernel
theorem dX6_dart_49 : decode cX6_dart 49 = .ok (.return_, 1) := by decide +kernel
theorem dX6_choose_0 : decode cX6_choose 0 = .ok (.iconst (-1), 1) := by decide +kernel
theorem dX6_choose_1 : decode cX6_choose 1 = .ok (.istore_n 2, 1) := by decide +kernel
theorem dX6_choose_2 : decode cX6_choose 2 = .ok (.iconst 0, 1) := by decide +kernel
theorem dX6_choose_3 : decode cX6_choose 3 = .ok (.istore_n 3, 1) := by decide +kernel
theorem dX6_choose_4 : decode cX6_choose 4 = .ok (.iload_n 3, 1) := by decide +kernel
theorem dX6_choose_5 : decode cX6_choose 5 = .ok (.aload_n 0, 1) := by decide +kernel
theorem dX6_choose_6 : decode cX6_choose 6 = .ok (.getfield 32, 3) := by decide +kernel
theorem dX6_choose_9 : decode cX6_choose 9 = .ok (.if_icmp .ge 102, 3) := by decide +kernel
theorem dX6_choose_12 : decode cX6_choose 12 = .ok (.aload_n 0, 1) := by decide +kernel
theorem dX6_choose_13 : decode cX6_choose 13 = .ok (.iload_n 3, 1) := by decide +kernel
theorem dX6_choose_14 : decode cX6_choose 14 = .ok (.invokevirtual 96, 3) := by decide +kernel
theorem dX6_choose_17 : decode cX6_choose 17 = .ok (.ifCond .eq 88, 3) := by decide +kernel
theorem dX6_choose_20 : decode cX6_choose 20 = .ok (.aload_n 0, 1) := by decide +kernel
theorem dX6_choose_21 : decode cX6_choose 21 = .ok (.iload_n 3, 1) := by decide +kernel
theorem dX6_choose_22 : decode cX6_choose 22 = .ok (.iconst 2, 1) := by decide +kernel
theorem dX6_choose_23 : decode cX6_choose 23 = .ok (.invokevirtual 71, 3) := by decide +kernel
theorem dX6_choose_26 : decode cX6_choose 26 = .ok (.ifCond .eq 79, 3) := by decide +kernel
theorem dX6_choose_29 : decode cX6_choose 29 = .ok (.aload_n 0, 1) := by decide +kernel
theorem dX6_choose_30 : decode cX6_choose 30 = .ok (.iload_n 3, 1) := by decide +kernel
theorem dX6_choose_31 : decode cX6_choose 31 = .ok (.invokevirtual 93, 3) := by decide +kernel
theorem dX6_choose_34 : decode cX6_choose 34 = .ok (.aload_n 0, 1) := by decide +kernel
theorem dX6_choose_35 : decode cX6_choose 35 = .ok (.iload_n 1, 1) := by decide +kernel
theorem dX6_choose_36 : decode cX6_choose 36 = .ok (.iconst 0, 1) := by decide +kernel
theorem dX6_choose_37 : decode cX6_choose 37 = .ok (.invokevirtual 80, 3) := by decide +kernel
theorem dX6_choose_40 : decode cX6_choose 40 = .ok (.if_icmp .le 6, 3) := by decide +kernel
theorem dX6_choose_43 : decode cX6_choose 43 = .ok (.goto 62, 3) := by decide +kernel
theorem dX6_choose_46 : decode cX6_choose 46 = .ok (.iload_n 2, 1) := by decide +kernel
theorem dX6_choose_47 : decode cX6_choose 47 = .ok (.iconst (-1), 1) := by decide +kernel
theorem dX6_choose_48 : decode cX6_choose 48 = .ok (.if_icmp .ne 7, 3) := by decide +kernel
theorem dX6_choose_51 : decode cX6_choose 51 = .ok (.iconst (-1), 1) := by decide +kernel
theorem dX6_choose_52 : decode cX6_choose 52 = .ok (.goto 14, 3) := by decide +kernel
theorem dX6_choose_55 : decode cX6_choose 55 = .ok (.aload_n 0, 1) := by decide +kernel
theorem dX6_choose_56 : decode cX6_choose 56 = .ok (.iload_n 3, 1) := by decide +kernel
theorem dX6_choose_57 : decode cX6_choose 57 = .ok (.invokevirtual 99, 3) := by decide +kernel
theorem dX6_choose_60 : decode cX6_choose 60 = .ok (.aload_n 0, 1) := by decide +kernel
theorem dX6_choose_61 : decode cX6_choose 61 = .ok (.iload_n 2, 1) := by decide +kernel
theorem dX6_choose_62 : decode cX6_choose 62 = .ok (.invokevirtual 99, 3) := by decide +kernel
theorem dX6_choose_65 : decode cX6_choose 65 = .ok (.isub, 1) := by decide +kernel
theorem dX6_choose_66 : decode cX6_choose 66 = .ok (.istore 4, 2) := by decide +kernel
theorem dX6_choose_68 : decode cX6_choose 68 = .ok (.iload 4, 2) := by decide +kernel
theorem dX6_choose_70 : decode cX6_choose 70 = .ok (.ifCond .ne 28, 3) := by decide +kernel
theorem dX6_choose_73 : decode cX6_choose 73 = .ok (.aload_n 0, 1) := by decide +kernel
theorem dX6_choose_74 : decode cX6_choose 74 = .ok (.getfield 19, 3) := by decide +kernel
theorem dX6_choose_77 : decode cX6_choose 77 = .ok (.bipush 8, 2) := by decide +kernel
theorem dX6_choose_79 : decode cX6_choose 79 = .ok (.iload_n 1, 1) := by decide +kernel
theorem dX6_choose_80 : decode cX6_choose 80 = .ok (.imul, 1) := by decide +kernel
theorem dX6_choose_81 : decode cX6_choose 81 = .ok (.iload_n 2, 1) := by decide +kernel
theorem dX6_choose_82 : decode cX6_choose 82 = .ok (.iadd, 1) := by decide +kernel
theorem dX6_choose_83 : decode cX6_choose 83 = .ok (.iaload, 1) := by decide +kernel
theorem dX6_choose_84 : decode cX6_choose 84 = .ok (.aload_n 0, 1) := by decide +kernel
theorem dX6_choose_85 : decode cX6_choose 85 = .ok (.getfield 19, 3) := by decide +kernel
theorem dX6_choose_88 : decode cX6_choose 88 = .ok (.bipush 8, 2) := by decide +kernel
theorem dX6_choose_90 : decode cX6_choose 90 = .ok (.iload_n 1, 1) := by decide +kernel
theorem dX6_choose_91 : decode cX6_choose 91 = .ok (.imul, 1) := by decide +kernel
theorem dX6_choose_92 : decode cX6_choose 92 = .ok (.iload_n 3, 1) := by decide +kernel
theorem dX6_choose_93 : decode cX6_choose 93 = .ok (.iadd, 1) := by decide +kernel
theorem dX6_choose_94 : decode cX6_choose 94 = .ok (.iaload, 1) := by decide +kernel
theorem dX6_choose_95 : decode cX6_choose 95 = .ok (.isub, 1) := by decide +kernel
theorem dX6_choose_96 : decode cX6_choose 96 = .ok (.istore 4, 2) := by decide +kernel
theorem dX6_choose_98 : decode cX6_choose 98 = .ok (.iload 4, 2) := by decide +kernel
theorem dX6_choose_100 : decode cX6_choose 100 = .ok (.ifCond .ge 5, 3) := by decide +kernel
theorem dX6_choose_103 : decode cX6_choose 103 = .ok (.iload_n 3, 1) := by decide +kernel
theorem dX6_choose_104 : decode cX6_choose 104 = .ok (.istore_n 2, 1) := by decide +kernel
theorem dX6_choose_105 : decode cX6_choose 105 = .ok (.iinc 3 1, 3) := by decide +kernel
theorem dX6_choose_108 : decode cX6_choose 108 = .ok (.goto (-104), 3) := by decide +kernel
theorem dX6_choose_111 : decode cX6_choose 111 = .ok (.iload_n 2, 1) := by decide +kernel
theorem dX6_choose_112 : decode cX6_choose 112 = .ok (.iconst (-1), 1) := by decide +kernel
theorem dX6_choose_113 : decode cX6_choose 113 = .ok (.if_icmp .eq 31, 3) := by decide +kernel
theorem dX6_choose_116 : decode cX6_choose 116 = .ok (.aload_n 0, 1) := by decide +kernel
theorem dX6_choose_117 : decode cX6_choose 117 = .ok (.iload_n 1, 1) := by decide +kernel
theorem dX6_choose_118 : decode cX6_choose 118 = .ok (.iconst 4, 1) := by decide +kernel
theorem dX6_choose_119 : decode cX6_choose 119 = .ok (.aload_n 0, 1) := by decide +kernel
theorem dX6_choose_120 : decode cX6_choose 120 = .ok (.iload_n 2, 1) := by decide +kernel
theorem dX6_choose_121 : decode cX6_choose 121 = .ok (.invokevirtual 99, 3) := by decide +kernel
theorem dX6_choose_124 : decode cX6_choose 124 = .ok (.invokevirtual 83, 3) := by decide +kernel
theorem dX6_choose_127 : decode cX6_choose 127 = .ok (.aload_n 0, 1) := by decide +kernel
theorem dX6_choose_128 : decode cX6_choose 128 = .ok (.iload_n 1, 1) := by decide +kernel
theorem dX6_choose_129 : decode cX6_choose 129 = .ok (.iconst 3, 1) := by decide +kernel
theorem dX6_choose_130 : decode cX6_choose 130 = .ok (.iload_n 2, 1) := by decide +kernel
theorem dX6_choose_131 : decode cX6_choose 131 = .ok (.invokevirtual 83, 3) := by decide +kernel
theorem dX6_choose_134 : decode cX6_choose 134 = .ok (.aload_n 0, 1) := by decide +kernel
theorem dX6_choose_135 : decode cX6_choose 135 = .ok (.iload_n 1, 1) := by decide +kernel
theorem dX6_choose_136 : decode cX6_choose 136 = .ok (.iconst 2, 1) := by decide +kernel
theorem dX6_choose_137 : decode cX6_choose 137 = .ok (.iconst 1, 1) := by decide +kernel
theorem dX6_choose_138 : decode cX6_choose 138 = .ok (.invokevirtual 83, 3) := by decide +kernel
theorem dX6_choose_141 : decode cX6_choose 141 = .ok (.goto 19, 3) := by decide +kernel
theorem dX6_choose_144 : decode cX6_choose 144 = .ok (.aload_n 0, 1) := by decide +kernel
theorem dX6_choose_145 : decode cX6_choose 145 = .ok (.iload_n 1, 1) := by decide +kernel
theorem dX6_choose_146 : decode cX6_choose 146 = .ok (.iconst 0, 1) := by decide +kernel
theorem dX6_choose_147 : decode cX6_choose 147 = .ok (.invokevirtual 80, 3) := by decide +kernel
theorem dX6_choose_150 : decode cX6_choose 150 = .ok (.ifCond .ne 10, 3) := by decide +kernel
theorem dX6_choose_153 : decode cX6_choose 153 = .ok (.aload_n 0, 1) := by decide +kernel
theorem dX6_choose_154 : decode cX6_choose 154 = .ok (.iload_n 1, 1) := by decide +kernel
theorem dX6_choose_155 : decode cX6_choose 155 = .ok (.iconst 2, 1) := by decide +kernel
theorem dX6_choose_156 : decode cX6_choose 156 = .ok (.iconst 2, 1) := by decide +kernel
theorem dX6_choose_157 : decode cX6_choose 157 = .ok (.invokevirtual 83, 3) := by decide +kernel
theorem dX6_choose_160 : decode cX6_choose 160 = .ok (.return_, 1) := by decide +kernel
theorem dX6_write_0 : decode cX6_write 0 = .ok (.iconst 0, 1) := by decide +kernel
theorem dX6_write_1 : decode cX6_write 1 = .ok (.istore 4, 2) := by decide +kernel
theorem dX6_write_3 : decode cX6_write 3 = .ok (.iload 4, 2) := by decide +kernel
theorem dX6_write_5 : decode cX6_write 5 = .ok (.aload_n 0, 1) := by decide +kernel
theorem dX6_write_6 : decode cX6_write 6 = .ok (.getfield 25, 3) := by decide +kernel
theorem dX6_write_9 : decode cX6_write 9 = .ok (.iconst 4, 1) := by decide +kernel
theorem dX6_write_10 : decode cX6_write 10 = .ok (.iaload, 1) := by decide +kernel
theorem dX6_write_11 : decode cX6_write 11 = .ok (.if_icmp .ge 24, 3) := by decide +kernel
theorem dX6_write_14 : decode cX6_write 14 = .ok (.aload_n 0, 1) := by decide +kernel
theorem dX6_write_15 : decode cX6_write 15 = .ok (.getfield 22, 3) := by decide +kernel
theorem dX6_write_18 : decode cX6_write 18 = .ok (.iconst 3, 1) := by decide +kernel
theorem dX6_write_19 : decode cX6_write 19 = .ok (.iload 4, 2) := by decide +kernel
theorem dX6_write_21 : decode cX6_write 21 = .ok (.imul, 1) := by decide +kernel
theorem dX6_write_22 : decode cX6_write 22 = .ok (.iconst 2, 1) := by decide +kernel
theorem dX6_write_23 : decode cX6_write 23 = .ok (.iadd, 1) := by decide +kernel
theorem dX6_write_24 : decode cX6_write 24 = .ok (.iaload, 1) := by decide +kernel
theorem dX6_write_25 : decode cX6_write 25 = .ok (.iload_n 3, 1) := by decide +kernel
theorem dX6_write_26 : decode cX6_write 26 = .ok (.if_icmp .lt 9, 3) := by decide +kernel
theorem dX6_write_29 : decode cX6_write 29 = .ok (.iinc 4 1, 3) := by decide +kernel
theorem dX6_write_32 : decode cX6_write 32 = .ok (.goto (-29), 3) := by decide +kernel
theorem dX6_write_35 : decode cX6_write 35 = .ok (.iload 4, 2) := by decide +kernel
theorem dX6_write_37 : decode cX6_write 37 = .ok (.iconst 3, 1) := by decide +kernel
theorem dX6_write_38 : decode cX6_write 38 = .ok (.if_icmp .ne 4, 3) := by decide +kernel
theorem dX6_write_41 : decode cX6_write 41 = .ok (.return_, 1) := by decide +kernel
theorem dX6_write_42 : decode cX6_write 42 = .ok (.bipush 8, 2) := by decide +kernel
theorem dX6_write_44 : decode cX6_write 44 = .ok (.istore 5, 2) := by decide +kernel
theorem dX6_write_46 : decode cX6_write 46 = .ok (.iload 5, 2) := by decide +kernel
theorem dX6_write_48 : decode cX6_write 48 = .ok (.iconst 3, 1) := by decide +kernel
theorem dX6_write_49 : decode cX6_write 49 = .ok (.iload 4, 2) := by decide +kernel
theorem dX6_write_51 : decode cX6_write 51 = .ok (.imul, 1) := by decide +kernel
theorem dX6_write_52 : decode cX6_write 52 = .ok (.iconst 3, 1) := by decide +kernel
theorem dX6_write_53 : decode cX6_write 53 = .ok (.iadd, 1) := by decide +kernel
theorem dX6_write_54 : decode cX6_write 54 = .ok (.if_icmp .lt 25, 3) := by decide +kernel
theorem dX6_write_57 : decode cX6_write 57 = .ok (.aload_n 0, 1) := by decide +kernel
theorem dX6_write_58 : decode cX6_write 58 = .ok (.getfield 22, 3) := by decide +kernel
theorem dX6_write_61 : decode cX6_write 61 = .ok (.iload 5, 2) := by decide +kernel
theorem dX6_write_63 : decode cX6_write 63 = .ok (.aload_n 0, 1) := by decide +kernel
theorem dX6_write_64 : decode cX6_write 64 = .ok (.getfield 22, 3) := by decide +kernel
theorem dX6_write_67 : decode cX6_write 67 = .ok (.iload 5, 2) := by decide +kernel
theorem dX6_write_69 : decode cX6_write 69 = .ok (.iconst 3, 1) := by decide +kernel
theorem dX6_write_70 : decode cX6_write 70 = .ok (.isub, 1) := by decide +kernel
theorem dX6_write_71 : decode cX6_write 71 = .ok (.iaload, 1) := by decide +kernel
theorem dX6_write_72 : decode cX6_write 72 = .ok (.iastore, 1) := by decide +kernel
theorem dX6_write_73 : decode cX6_write 73 = .ok (.iinc 5 (-1), 3) := by decide +kernel
theorem dX6_write_76 : decode cX6_write 76 = .ok (.goto (-30), 3) := by decide +kernel
theorem dX6_write_79 : decode cX6_write 79 = .ok (.aload_n 0, 1) := by decide +kernel
theorem dX6_write_80 : decode cX6_write 80 = .ok (.getfield 22, 3) := by decide +kernel
theorem dX6_write_83 : decode cX6_write 83 = .ok (.iconst 3, 1) := by decide +kernel
theorem dX6_write_84 : decode cX6_write 84 = .ok (.iload 4, 2) := by decide +kernel
theorem dX6_write_86 : decode cX6_write 86 = .ok (.imul, 1) := by decide +kernel
theorem dX6_write_87 : decode cX6_write 87 = .ok (.iconst 0, 1) := by decide +kernel
theorem dX6_write_88 : decode cX6_write 88 = .ok (.iadd, 1) := by decide +kernel
theorem dX6_write_89 : decode cX6_write 89 = .ok (.iload_n 1, 1) := by decide +kernel
theorem dX6_write_90 : decode cX6_write 90 = .ok (.iastore, 1) := by decide +kernel
theorem dX6_write_91 : decode cX6_write 91 = .ok (.aload_n 0, 1) := by decide +kernel
theorem dX6_write_92 : decode cX6_write 92 = .ok (.getfield 22, 3) := by decide +kernel
theorem dX6_write_95 : decode cX6_write 95 = .ok (.iconst 3, 1) := by decide +kernel
theorem dX6_write_96 : decode cX6_write 96 = .ok (.iload 4, 2) := by decide +kernel
theorem dX6_write_98 : decode cX6_write 98 = .ok (.imul, 1) := by decide +kernel
theorem dX6_write_99 : decode cX6_write 99 = .ok (.iconst 1, 1) := by decide +kernel
theorem dX6_write_100 : decode cX6_write 100 = .ok (.iadd, 1) := by decide +kernel
theorem dX6_write_101 : decode cX6_write 101 = .ok (.iload_n 2, 1) := by decide +kernel
theorem dX6_write_102 : decode cX6_write 102 = .ok (.iastore, 1) := by decide +kernel
theorem dX6_write_103 : decode cX6_write 103 = .ok (.aload_n 0, 1) := by decide +kernel
theorem dX6_write_104 : decode cX6_write 104 = .ok (.getfield 22, 3) := by decide +kernel
theorem dX6_write_107 : decode cX6_write 107 = .ok (.iconst 3, 1) := by decide +kernel
theorem dX6_write_108 : decode cX6_write 108 = .ok (.iload 4, 2) := by decide +kernel
theorem dX6_write_110 : decode cX6_write 110 = .ok (.imul, 1) := by decide +kernel
theorem dX6_write_111 : decode cX6_write 111 = .ok (.iconst 2, 1) := by decide +kernel
theorem dX6_write_112 : decode cX6_write 112 = .ok (.iadd, 1) := by decide +kernel
theorem dX6_write_113 : decode cX6_write 113 = .ok (.iload_n 3, 1) := by decide +kernel
theorem dX6_write_114 : decode cX6_write 114 = .ok (.iastore, 1) := by decide +kernel
theorem dX6_write_115 : decode cX6_write 115 = .ok (.aload_n 0, 1) := by decide +kernel
theorem dX6_write_116 : decode cX6_write 116 = .ok (.getfield 25, 3) := by decide +kernel
theorem dX6_write_119 : decode cX6_write 119 = .ok (.iconst 4, 1) := by decide +kernel
theorem dX6_write_120 : decode cX6_write 120 = .ok (.iconst 3, 1) := by decide +kernel
theorem dX6_write_121 : decode cX6_write 121 = .ok (.aload_n 0, 1) := by decide +kernel
theorem dX6_write_122 : decode cX6_write 122 = .ok (.getfield 25, 3) := by decide +kernel
theorem dX6_write_125 : decode cX6_write 125 = .ok (.iconst 4, 1) := by decide +kernel
theorem dX6_write_126 : decode cX6_write 126 = .ok (.iaload, 1) := by decide +kernel
theorem dX6_write_127 : decode cX6_write 127 = .ok (.iconst 1, 1) := by decide +kernel
theorem dX6_write_128 : decode cX6_write 128 = .ok (.iadd, 1) := by decide +kernel
theorem dX6_write_129 : decode cX6_write 129 = .ok (.invokestatic 112, 3) := by decide +kernel
theorem dX6_write_132 : decode cX6_write 132 = .ok (.iastore, 1) := by decide +kernel
theorem dX6_write_133 : decode cX6_write 133 = .ok (.return_, 1) := by decide +kernel
theorem dX6_play_0 : decode cX6_play 0 = .ok (.aload_n 0, 1) := by decide +kernel
theorem dX6_play_1 : decode cX6_play 1 = .ok (.iload_n 1, 1) := by decide +kernel
theorem dX6_play_2 : decode cX6_play 2 = .ok (.invokevirtual 86, 3) := by decide +kernel
theorem dX6_play_5 : decode cX6_play 5 = .ok (.aload_n 0, 1) := by decide +kernel
theorem dX6_play_6 : decode cX6_play 6 = .ok (.iload_n 1, 1) := by decide +kernel
theorem dX6_play_7 : decode cX6_play 7 = .ok (.iconst 0, 1) := by decide +kernel
theorem dX6_play_8 : decode cX6_play 8 = .ok (.invokevirtual 80, 3) := by decide +kernel
theorem dX6_play_11 : decode cX6_play 11 = .ok (.aload_n 0, 1) := by decide +kernel
theorem dX6_play_12 : decode cX6_play 12 = .ok (.iload_n 2, 1) := by decide +kernel
theorem dX6_play_13 : decode cX6_play 13 = .ok (.invokevirtual 93, 3) := by decide +kernel
theorem dX6_play_16 : decode cX6_play 16 = .ok (.if_icmp .ge 5, 3) := by decide +kernel
theorem dX6_play_19 : decode cX6_play 19 = .ok (.iconst 0, 1) := by decide +kernel
theorem dX6_play_20 : decode cX6_play 20 = .ok (.ireturn, 1) := by decide +kernel
theorem dX6_play_21 : decode cX6_play 21 = .ok (.aload_n 0, 1) := by decide +kernel
theorem dX6_play_22 : decode cX6_play 22 = .ok (.iload_n 1, 1) := by decide +kernel
theorem dX6_play_23 : decode cX6_play 23 = .ok (.iconst 0, 1) := by decide +kernel
theorem dX6_play_24 : decode cX6_play 24 = .ok (.aload_n 0, 1) := by decide +kernel
theorem dX6_play_25 : decode cX6_play 25 = .ok (.iload_n 1, 1) := by decide +kernel
theorem dX6_play_26 : decode cX6_play 26 = .ok (.iconst 0, 1) := by decide +kernel
theorem dX6_play_27 : decode cX6_play 27 = .ok (.invokevirtual 80, 3) := by decide +kernel
theorem dX6_play_30 : decode cX6_play 30 = .ok (.aload_n 0, 1) := by decide +kernel
theorem dX6_play_31 : decode cX6_play 31 = .ok (.iload_n 2, 1) := by decide +kernel
theorem dX6_play_32 : decode cX6_play 32 = .ok (.invokevirtual 93, 3) := by decide +kernel
theorem dX6_play_35 : decode cX6_play 35 = .ok (.isub, 1) := by decide +kernel
theorem dX6_play_36 : decode cX6_play 36 = .ok (.invokevirtual 83, 3) := by decide +kernel
theorem dX6_play_39 : decode cX6_play 39 = .ok (.aload_n 0, 1) := by decide +kernel
theorem dX6_play_40 : decode cX6_play 40 = .ok (.iload_n 2, 1) := by decide +kernel
theorem dX6_play_41 : decode cX6_play 41 = .ok (.iconst 5, 1) := by decide +kernel
theorem dX6_play_42 : decode cX6_play 42 = .ok (.aload_n 0, 1) := by decide +kernel
theorem dX6_play_43 : decode cX6_play 43 = .ok (.iload_n 2, 1) := by decide +kernel
theorem dX6_play_44 : decode cX6_play 44 = .ok (.iconst 5, 1) := by decide +kernel
theorem dX6_play_45 : decode cX6_play 45 = .ok (.invokevirtual 71, 3) := by decide +kernel
theorem dX6_play_48 : decode cX6_play 48 = .ok (.aload_n 0, 1) := by decide +kernel
theorem dX6_play_49 : decode cX6_play 49 = .ok (.iload_n 2, 1) := by decide +kernel
theorem dX6_play_50 : decode cX6_play 50 = .ok (.invokevirtual 93, 3) := by decide +kernel
theorem dX6_play_53 : decode cX6_play 53 = .ok (.iadd, 1) := by decide +kernel
theorem dX6_play_54 : decode cX6_play 54 = .ok (.invokevirtual 74, 3) := by decide +kernel
theorem dX6_play_57 : decode cX6_play 57 = .ok (.aload_n 0, 1) := by decide +kernel
theorem dX6_play_58 : decode cX6_play 58 = .ok (.iload_n 2, 1) := by decide +kernel
theorem dX6_play_59 : decode cX6_play 59 = .ok (.iconst 4, 1) := by decide +kernel
theorem dX6_play_60 : decode cX6_play 60 = .ok (.aload_n 0, 1) := by decide +kernel
theorem dX6_play_61 : decode cX6_play 61 = .ok (.iload_n 2, 1) := by decide +kernel
theorem dX6_play_62 : decode cX6_play 62 = .ok (.iconst 4, 1) := by decide +kernel
theorem dX6_play_63 : decode cX6_play 63 = .ok (.invokevirtual 71, 3) := by decide +kernel
theorem dX6_play_66 : decode cX6_play 66 = .ok (.iconst 1, 1) := by decide +kernel
theorem dX6_play_67 : decode cX6_play 67 = .ok (.iadd, 1) := by decide +kernel
theorem dX6_play_68 : decode cX6_play 68 = .ok (.invokevirtual 74, 3) := by decide +kernel
theorem dX6_play_71 : decode cX6_play 71 = .ok (.aload_n 0, 1) := by decide +kernel
theorem dX6_play_72 : decode cX6_play 72 = .ok (.iload_n 1, 1) := by decide +kernel
theorem dX6_play_73 : decode cX6_play 73 = .ok (.iconst 1, 1) := by decide +kernel
theorem dX6_play_74 : decode cX6_play 74 = .ok (.invokevirtual 80, 3) := by decide +kernel
theorem dX6_play_77 : decode cX6_play 77 = .ok (.iconst 3, 1) := by decide +kernel
theorem dX6_play_78 : decode cX6_play 78 = .ok (.aload_n 0, 1) := by decide +kernel
theorem dX6_play_79 : decode cX6_play 79 = .ok (.getfield 19, 3) := by decide +kernel
theorem dX6_play_82 : decode cX6_play 82 = .ok (.bipush 8, 2) := by decide +kernel
theorem dX6_play_84 : decode cX6_play 84 = .ok (.iload_n 1, 1) := by decide +kernel
theorem dX6_play_85 : decode cX6_play 85 = .ok (.imul, 1) := by decide +kernel
theorem dX6_play_86 : decode cX6_play 86 = .ok (.iload_n 2, 1) := by decide +kernel
theorem dX6_play_87 : decode cX6_play 87 = .ok (.iadd, 1) := by decide +kernel
theorem dX6_play_88 : decode cX6_play 88 = .ok (.iaload, 1) := by decide +kernel
theorem dX6_play_89 : decode cX6_play 89 = .ok (.imul, 1) := by decide +kernel
theorem dX6_play_90 : decode cX6_play 90 = .ok (.iadd, 1) := by decide +kernel
theorem dX6_play_91 : decode cX6_play 91 = .ok (.iconst 5, 1) := by decide +kernel
theorem dX6_play_92 : decode cX6_play 92 = .ok (.aload_n 0, 1) := by decide +kernel
theorem dX6_play_93 : decode cX6_play 93 = .ok (.iload_n 2, 1) := by decide +kernel
theorem dX6_play_94 : decode cX6_play 94 = .ok (.invokevirtual 90, 3) := by decide +kernel
theorem dX6_play_97 : decode cX6_play 97 = .ok (.aload_n 0, 1) := by decide +kernel
theorem dX6_play_98 : decode cX6_play 98 = .ok (.iload_n 2, 1) := by decide +kernel
theorem dX6_play_99 : decode cX6_play 99 = .ok (.iconst 3, 1) := by decide +kernel
theorem dX6_play_100 : decode cX6_play 100 = .ok (.invokevirtual 71, 3) := by decide +kernel
theorem dX6_play_103 : decode cX6_play 103 = .ok (.isub, 1) := by decide +kernel
theorem dX6_play_104 : decode cX6_play 104 = .ok (.imul, 1) := by decide +kernel
theorem dX6_play_105 : decode cX6_play 105 = .ok (.iadd, 1) := by decide +kernel
theorem dX6_play_106 : decode cX6_play 106 = .ok (.istore_n 3, 1) := by decide +kernel
theorem dX6_play_107 : decode cX6_play 107 = .ok (.aload_n 0, 1) := by decide +kernel
theorem dX6_play_108 : decode cX6_play 108 = .ok (.getfield 25, 3) := by decide +kernel
theorem dX6_play_111 : decode cX6_play 111 = .ok (.iconst 2, 1) := by decide +kernel
theorem dX6_play_112 : decode cX6_play 112 = .ok (.iaload, 1) := by decide +kernel
theorem dX6_play_113 : decode cX6_play 113 = .ok (.iload_n 2, 1) := by decide +kernel
theorem dX6_play_114 : decode cX6_play 114 = .ok (.if_icmp .ne 7, 3) := by decide +kernel
theorem dX6_play_117 : decode cX6_play 117 = .ok (.iload_n 3, 1) := by decide +kernel
theorem dX6_play_118 : decode cX6_play 118 = .ok (.iconst 2, 1) := by decide +kernel
theorem dX6_play_119 : decode cX6_play 119 = .ok (.imul, 1) := by decide +kernel
theorem dX6_play_120 : decode cX6_play 120 = .ok (.istore_n 3, 1) := by decide +kernel
theorem dX6_play_121 : decode cX6_play 121 = .ok (.aload_n 0, 1) := by decide +kernel
theorem dX6_play_122 : decode cX6_play 122 = .ok (.iload_n 1, 1) := by decide +kernel
theorem dX6_play_123 : decode cX6_play 123 = .ok (.iload_n 2, 1) := by decide +kernel
theorem dX6_play_124 : decode cX6_play 124 = .ok (.iload_n 3, 1) := by decide +kernel
theorem dX6_play_125 : decode cX6_play 125 = .ok (.invokevirtual 117, 3) := by decide +kernel
theorem dX6_play_128 : decode cX6_play 128 = .ok (.aload_n 0, 1) := by decide +kernel
theorem dX6_play_129 : decode cX6_play 129 = .ok (.getfield 19, 3) := by decide +kernel
theorem dX6_play_132 : decode cX6_play 132 = .ok (.bipush 8, 2) := by decide +kernel
theorem dX6_play_134 : decode cX6_play 134 = .ok (.iload_n 1, 1) := by decide +kernel
theorem dX6_play_135 : decode cX6_play 135 = .ok (.imul, 1) := by decide +kernel
theorem dX6_play_136 : decode cX6_play 136 = .ok (.iload_n 2, 1) := by decide +kernel
theorem dX6_play_137 : decode cX6_play 137 = .ok (.iadd, 1) := by decide +kernel
theorem dX6_play_138 : decode cX6_play 138 = .ok (.bipush 9, 2) := by decide +kernel
theorem dX6_play_140 : decode cX6_play 140 = .ok (.aload_n 0, 1) := by decide +kernel
theorem dX6_play_141 : decode cX6_play 141 = .ok (.getfield 19, 3) := by decide +kernel
theorem dX6_play_144 : decode cX6_play 144 = .ok (.bipush 8, 2) := by decide +kernel
theorem dX6_play_146 : decode cX6_play 146 = .ok (.iload_n 1, 1) := by decide +kernel
theorem dX6_play_147 : decode cX6_play 147 = .ok (.imul, 1) := by decide +kernel
theorem dX6_play_148 : decode cX6_play 148 = .ok (.iload_n 2, 1) := by decide +kernel
theorem dX6_play_149 : decode cX6_play 149 = .ok (.iadd, 1) := by decide +kernel
theorem dX6_play_150 : decode cX6_play 150 = .ok (.iaload, 1) := by decide +kernel
theorem dX6_play_151 : decode cX6_play 151 = .ok (.iconst 1, 1) := by decide +kernel
theorem dX6_play_152 : decode cX6_play 152 = .ok (.iadd, 1) := by decide +kernel
theorem dX6_play_153 : decode cX6_play 153 = .ok (.invokestatic 112, 3) := by decide +kernel
theorem dX6_play_156 : decode cX6_play 156 = .ok (.iastore, 1) := by decide +kernel
theorem dX6_play_157 : decode cX6_play 157 = .ok (.aload_n 0, 1) := by decide +kernel
theorem dX6_play_158 : decode cX6_play 158 = .ok (.iload_n 1, 1) := by decide +kernel
theorem dX6_play_159 : decode cX6_play 159 = .ok (.bipush 7, 2) := by decide +kernel
theorem dX6_play_161 : decode cX6_play 161 = .ok (.aload_n 0, 1) := by decide +kernel
theorem dX6_play_162 : decode cX6_play 162 = .ok (.iload_n 1, 1) := by decide +kernel
theorem dX6_play_163 : decode cX6_play 163 = .ok (.bipush 7, 2) := by decide +kernel
theorem dX6_play_165 : decode cX6_play 165 = .ok (.invokevirtual 80, 3) := by decide +kernel
theorem dX6_play_168 : decode cX6_play 168 = .ok (.iconst 1, 1) := by decide +kernel
theorem dX6_play_169 : decode cX6_play 169 = .ok (.iadd, 1) := by decide +kernel
theorem dX6_play_170 : decode cX6_play 170 = .ok (.invokevirtual 83, 3) := by decide +kernel
theorem dX6_play_173 : decode cX6_play 173 = .ok (.aload_n 0, 1) := by decide +kernel
theorem dX6_play_174 : decode cX6_play 174 = .ok (.iload_n 1, 1) := by decide +kernel
theorem dX6_play_175 : decode cX6_play 175 = .ok (.bipush 8, 2) := by decide +kernel
theorem dX6_play_177 : decode cX6_play 177 = .ok (.aload_n 0, 1) := by decide +kernel
theorem dX6_play_178 : decode cX6_play 178 = .ok (.iload_n 1, 1) := by decide +kernel
theorem dX6_play_179 : decode cX6_play 179 = .ok (.bipush 8, 2) := by decide +kernel
theorem dX6_play_181 : decode cX6_play 181 = .ok (.invokevirtual 80, 3) := by decide +kernel
theorem dX6_play_184 : decode cX6_play 184 = .ok (.iload_n 3, 1) := by decide +kernel
theorem dX6_play_185 : decode cX6_play 185 = .ok (.invokestatic 120, 3) := by decide +kernel
theorem dX6_play_188 : decode cX6_play 188 = .ok (.invokevirtual 83, 3) := by decide +kernel
theorem dX6_play_191 : decode cX6_play 191 = .ok (.iload_n 3, 1) := by decide +kernel
theorem dX6_play_192 : decode cX6_play 192 = .ok (.aload_n 0, 1) := by decide +kernel
theorem dX6_play_193 : decode cX6_play 193 = .ok (.iload_n 2, 1) := by decide +kernel
theorem dX6_play_194 : decode cX6_play 194 = .ok (.iconst 1, 1) := by decide +kernel
theorem dX6_play_195 : decode cX6_play 195 = .ok (.invokevirtual 71, 3) := by decide +kernel
theorem dX6_play_198 : decode cX6_play 198 = .ok (.if_icmp .lt 12, 3) := by decide +kernel
theorem dX6_play_201 : decode cX6_play 201 = .ok (.aload_n 0, 1) := by decide +kernel
theorem dX6_play_202 : decode cX6_play 202 = .ok (.iload_n 2, 1) := by decide +kernel
theorem dX6_play_203 : decode cX6_play 203 = .ok (.iconst 2, 1) := by decide +kernel
theorem dX6_play_204 : decode cX6_play 204 = .ok (.invokevirtual 71, 3) := by decide +kernel
theorem dX6_play_207 : decode cX6_play 207 = .ok (.ifCond .ne 5, 3) := by decide +kernel
theorem dX6_play_210 : decode cX6_play 210 = .ok (.iconst 0, 1) := by decide +kernel
theorem dX6_play_211 : decode cX6_play 211 = .ok (.ireturn, 1) := by decide +kernel
theorem dX6_play_212 : decode cX6_play 212 = .ok (.aload_n 0, 1) := by decide +kernel
theorem dX6_play_213 : decode cX6_play 213 = .ok (.iload_n 2, 1) := by decide +kernel
theorem dX6_play_214 : decode cX6_play 214 = .ok (.iconst 2, 1) := by decide +kernel
theorem dX6_play_215 : decode cX6_play 215 = .ok (.aload_n 0, 1) := by decide +kernel
theorem dX6_play_216 : decode cX6_play 216 = .ok (.iload_n 2, 1) := by decide +kernel
theorem dX6_play_217 : decode cX6_play 217 = .ok (.iconst 2, 1) := by decide +kernel
theorem dX6_play_218 : decode cX6_play 218 = .ok (.invokevirtual 71, 3) := by decide +kernel
theorem dX6_play_221 : decode cX6_play 221 = .ok (.iconst 1, 1) := by decide +kernel
theorem dX6_play_222 : decode cX6_play 222 = .ok (.isub, 1) := by decide +kernel
theorem dX6_play_223 : decode cX6_play 223 = .ok (.invokevirtual 74, 3) := by decide +kernel
theorem dX6_play_226 : decode cX6_play 226 = .ok (.aload_n 0, 1) := by decide +kernel
theorem dX6_play_227 : decode cX6_play 227 = .ok (.iload_n 1, 1) := by decide +kernel
theorem dX6_play_228 : decode cX6_play 228 = .ok (.iconst 5, 1) := by decide +kernel
theorem dX6_play_229 : decode cX6_play 229 = .ok (.aload_n 0, 1) := by decide +kernel
theorem dX6_play_230 : decode cX6_play 230 = .ok (.iload_n 1, 1) := by decide +kernel
theorem dX6_play_231 : decode cX6_play 231 = .ok (.iconst 5, 1) := by decide +kernel
theorem dX6_play_232 : decode cX6_play 232 = .ok (.invokevirtual 80, 3) := by decide +kernel
theorem dX6_play_235 : decode cX6_play 235 = .ok (.iconst 1, 1) := by decide +kernel
theorem dX6_play_236 : decode cX6_play 236 = .ok (.iadd, 1) := by decide +kernel
theorem dX6_play_237 : decode cX6_play 237 = .ok (.invokevirtual 83, 3) := by decide +kernel
theorem dX6_play_240 : decode cX6_play 240 = .ok (.iconst 1, 1) := by decide +kernel
theorem dX6_play_241 : decode cX6_play 241 = .ok (.ireturn, 1) := by decide +kernel
theorem dX6_endHour_0 : decode cX6_endHour 0 = .ok (.iconst 0, 1) := by decide +kernel
theorem dX6_endHour_1 : decode cX6_endHour 1 = .ok (.istore_n 1, 1) := by decide +kernel
theorem dX6_endHour_2 : decode cX6_endHour 2 = .ok (.iload_n 1, 1) := by decide +kernel
theorem dX6_endHour_3 : decode cX6_endHour 3 = .ok (.aload_n 0, 1) := by decide +kernel
theorem dX6_endHour_4 : decode cX6_endHour 4 = .ok (.getfield 25, 3) := by decide +kernel
theorem dX6_endHour_7 : decode cX6_endHour 7 = .ok (.iconst 4, 1) := by decide +kernel
theorem dX6_endHour_8 : decode cX6_endHour 8 = .ok (.iaload, 1) := by decide +kernel
theorem dX6_endHour_9 : decode cX6_endHour 9 = .ok (.if_icmp .ge 56, 3) := by decide +kernel
theorem dX6_endHour_12 : decode cX6_endHour 12 = .ok (.aload_n 0, 1) := by decide +kernel
theorem dX6_endHour_13 : decode cX6_endHour 13 = .ok (.getfield 22, 3) := by decide +kernel
theorem dX6_endHour_16 : decode cX6_endHour 16 = .ok (.iconst 3, 1) := by decide +kernel
theorem dX6_endHour_17 : decode cX6_endHour 17 = .ok (.iload_n 1, 1) := by decide +kernel
theorem dX6_endHour_18 : decode cX6_endHour 18 = .ok (.imul, 1) := by decide +kernel
theorem dX6_endHour_19 : decode cX6_endHour 19 = .ok (.iconst 0, 1) := by decide +kernel
theorem dX6_endHour_20 : decode cX6_endHour 20 = .ok (.iadd, 1) := by decide +kernel
theorem dX6_endHour_21 : decode cX6_endHour 21 = .ok (.iaload, 1) := by decide +kernel
theorem dX6_endHour_22 : decode cX6_endHour 22 = .ok (.istore_n 2, 1) := by decide +kernel
theorem dX6_endHour_23 : decode cX6_endHour 23 = .ok (.aload_n 0, 1) := by decide +kernel
theorem dX6_endHour_24 : decode cX6_endHour 24 = .ok (.iload_n 2, 1) := by decide +kernel
theorem dX6_endHour_25 : decode cX6_endHour 25 = .ok (.bipush 6, 2) := by decide +kernel
theorem dX6_endHour_27 : decode cX6_endHour 27 = .ok (.aload_n 0, 1) := by decide +kernel
theorem dX6_endHour_28 : decode cX6_endHour 28 = .ok (.iload_n 2, 1) := by decide +kernel
theorem dX6_endHour_29 : decode cX6_endHour 29 = .ok (.bipush 6, 2) := by decide +kernel
theorem dX6_endHour_31 : decode cX6_endHour 31 = .ok (.invokevirtual 80, 3) := by decide +kernel
theorem dX6_endHour_34 : decode cX6_endHour 34 = .ok (.iconst 3, 1) := by decide +kernel
theorem dX6_endHour_35 : decode cX6_endHour 35 = .ok (.iadd, 1) := by decide +kernel
theorem dX6_endHour_36 : decode cX6_endHour 36 = .ok (.iload_n 1, 1) := by decide +kernel
theorem dX6_endHour_37 : decode cX6_endHour 37 = .ok (.isub, 1) := by decide +kernel
theorem dX6_endHour_38 : decode cX6_endHour 38 = .ok (.invokevirtual 83, 3) := by decide +kernel
theorem dX6_endHour_41 : decode cX6_endHour 41 = .ok (.iload_n 1, 1) := by decide +kernel
theorem dX6_endHour_42 : decode cX6_endHour 42 = .ok (.ifCond .ne 17, 3) := by decide +kernel
theorem dX6_endHour_45 : decode cX6_endHour 45 = .ok (.aload_n 0, 1) := by decide +kernel
theorem dX6_endHour_46 : decode cX6_endHour 46 = .ok (.iload_n 2, 1) := by decide +kernel
theorem dX6_endHour_47 : decode cX6_endHour 47 = .ok (.iconst 0, 1) := by decide +kernel
theorem dX6_endHour_48 : decode cX6_endHour 48 = .ok (.aload_n 0, 1) := by decide +kernel
theorem dX6_endHour_49 : decode cX6_endHour 49 = .ok (.iload_n 2, 1) := by decide +kernel
theorem dX6_endHour_50 : decode cX6_endHour 50 = .ok (.iconst 0, 1) := by decide +kernel
theorem dX6_endHour_51 : decode cX6_endHour 51 = .ok (.invokevirtual 80, 3) := by decide +kernel
theorem dX6_endHour_54 : decode cX6_endHour 54 = .ok (.iconst 5, 1) := by decide +kernel
theorem dX6_endHour_55 : decode cX6_endHour 55 = .ok (.iadd, 1) := by decide +kernel
theorem dX6_endHour_56 : decode cX6_endHour 56 = .ok (.invokevirtual 83, 3) := by decide +kernel
theorem dX6_endHour_59 : decode cX6_endHour 59 = .ok (.iinc 1 1, 3) := by decide +kernel
theorem dX6_endHour_62 : decode cX6_endHour 62 = .ok (.goto (-60), 3) := by decide +kernel
theorem dX6_endHour_65 : decode cX6_endHour 65 = .ok (.aload_n 0, 1) := by decide +kernel
theorem dX6_endHour_66 : decode cX6_endHour 66 = .ok (.getfield 25, 3) := by decide +kernel
theorem dX6_endHour_69 : decode cX6_endHour 69 = .ok (.iconst 4, 1) := by decide +kernel
theorem dX6_endHour_70 : decode cX6_endHour 70 = .ok (.iconst 0, 1) := by decide +kernel
theorem dX6_endHour_71 : decode cX6_endHour 71 = .ok (.iastore, 1) := by decide +kernel
theorem dX6_endHour_72 : decode cX6_endHour 72 = .ok (.iconst 0, 1) := by decide +kernel
theorem dX6_endHour_73 : decode cX6_endHour 73 = .ok (.istore_n 1, 1) := by decide +kernel
theorem dX6_endHour_74 : decode cX6_endHour 74 = .ok (.iload_n 1, 1) := by decide +kernel
theorem dX6_endHour_75 : decode cX6_endHour 75 = .ok (.aload_n 0, 1) := by decide +kernel
theorem dX6_endHour_76 : decode cX6_endHour 76 = .ok (.getfield 32, 3) := by decide +kernel
theorem dX6_endHour_79 : decode cX6_endHour 79 = .ok (.if_icmp .ge 38, 3) := by decide +kernel
theorem dX6_endHour_82 : decode cX6_endHour 82 = .ok (.aload_n 0, 1) := by decide +kernel
theorem dX6_endHour_83 : decode cX6_endHour 83 = .ok (.iload_n 1, 1) := by decide +kernel
theorem dX6_endHour_84 : decode cX6_endHour 84 = .ok (.invokevirtual 96, 3) := by decide +kernel
theorem dX6_endHour_87 : decode cX6_endHour 87 = .ok (.ifCond .ne 24, 3) := by decide +kernel
theorem dX6_endHour_90 : decode cX6_endHour 90 = .ok (.aload_n 0, 1) := by decide +kernel
theorem dX6_endHour_91 : decode cX6_endHour 91 = .ok (.iload_n 1, 1) := by decide +kernel
theorem dX6_endHour_92 : decode cX6_endHour 92 = .ok (.invokevirtual 99, 3) := by decide +kernel
theorem dX6_endHour_95 : decode cX6_endHour 95 = .ok (.ifCond .le 16, 3) := by decide +kernel
theorem dX6_endHour_98 : decode cX6_endHour 98 = .ok (.aload_n 0, 1) := by decide +kernel
theorem dX6_endHour_99 : decode cX6_endHour 99 = .ok (.aload_n 0, 1) := by decide +kernel
theorem dX6_endHour_100 : decode cX6_endHour 100 = .ok (.iload_n 1, 1) := by decide +kernel
theorem dX6_endHour_101 : decode cX6_endHour 101 = .ok (.iconst 0, 1) := by decide +kernel
theorem dX6_endHour_102 : decode cX6_endHour 102 = .ok (.invokevirtual 105, 3) := by decide +kernel
theorem dX6_endHour_105 : decode cX6_endHour 105 = .ok (.invokevirtual 86, 3) := by decide +kernel
theorem dX6_endHour_108 : decode cX6_endHour 108 = .ok (.goto (-26), 3) := by decide +kernel
theorem dX6_endHour_111 : decode cX6_endHour 111 = .ok (.iinc 1 1, 3) := by decide +kernel
theorem dX6_endHour_114 : decode cX6_endHour 114 = .ok (.goto (-40), 3) := by decide +kernel
theorem dX6_endHour_117 : decode cX6_endHour 117 = .ok (.return_, 1) := by decide +kernel
theorem dX6_roundOn_0 : decode cX6_roundOn 0 = .ok (.iconst 0, 1) := by decide +kernel
theorem dX6_roundOn_1 : decode cX6_roundOn 1 = .ok (.istore_n 1, 1) := by decide +kernel
theorem dX6_roundOn_2 : decode cX6_roundOn 2 = .ok (.aload_n 0, 1) := by decide +kernel
theorem dX6_roundOn_3 : decode cX6_roundOn 3 = .ok (.getfield 25, 3) := by decide +kernel
theorem dX6_roundOn_6 : decode cX6_roundOn 6 = .ok (.iconst 0, 1) := by decide +kernel
theorem dX6_roundOn_7 : decode cX6_roundOn 7 = .ok (.iaload, 1) := by decide +kernel
theorem dX6_roundOn_8 : decode cX6_roundOn 8 = .ok (.bipush 12, 2) := by decide +kernel
theorem dX6_roundOn_10 : decode cX6_roundOn 10 = .ok (.irem, 1) := by decide +kernel
theorem dX6_roundOn_11 : decode cX6_roundOn 11 = .ok (.ifCond .ne 7, 3) := by decide +kernel
theorem dX6_roundOn_14 : decode cX6_roundOn 14 = .ok (.aload_n 0, 1) := by decide +kernel
theorem dX6_roundOn_15 : decode cX6_roundOn 15 = .ok (.invokevirtual 123, 3) := by decide +kernel
theorem dX6_roundOn_18 : decode cX6_roundOn 18 = .ok (.iconst 0, 1) := by decide +kernel
theorem dX6_roundOn_19 : decode cX6_roundOn 19 = .ok (.istore_n 2, 1) := by decide +kernel
theorem dX6_roundOn_20 : decode cX6_roundOn 20 = .ok (.iload_n 2, 1) := by decide +kernel
theorem dX6_roundOn_21 : decode cX6_roundOn 21 = .ok (.aload_n 0, 1) := by decide +kernel
theorem dX6_roundOn_22 : decode cX6_roundOn 22 = .ok (.getfield 42, 3) := by decide +kernel
theorem dX6_roundOn_25 : decode cX6_roundOn 25 = .ok (.if_icmp .ge 23, 3) := by decide +kernel
theorem dX6_roundOn_28 : decode cX6_roundOn 28 = .ok (.aload_n 0, 1) := by decide +kernel
theorem dX6_roundOn_29 : decode cX6_roundOn 29 = .ok (.iload_n 2, 1) := by decide +kernel
theorem dX6_roundOn_30 : decode cX6_roundOn 30 = .ok (.iconst 2, 1) := by decide +kernel
theorem dX6_roundOn_31 : decode cX6_roundOn 31 = .ok (.invokevirtual 80, 3) := by decide +kernel
theorem dX6_roundOn_34 : decode cX6_roundOn 34 = .ok (.ifCond .ne 8, 3) := by decide +kernel
theorem dX6_roundOn_37 : decode cX6_roundOn 37 = .ok (.aload_n 0, 1) := by decide +kernel
theorem dX6_roundOn_38 : decode cX6_roundOn 38 = .ok (.iload_n 2, 1) := by decide +kernel
theorem dX6_roundOn_39 : decode cX6_roundOn 39 = .ok (.invokevirtual 126, 3) := by decide +kernel
theorem dX6_roundOn_42 : decode cX6_roundOn 42 = .ok (.iinc 2 1, 3) := by decide +kernel
theorem dX6_roundOn_45 : decode cX6_roundOn 45 = .ok (.goto (-25), 3) := by decide +kernel
theorem dX6_roundOn_48 : decode cX6_roundOn 48 = .ok (.iconst 0, 1) := by decide +kernel
theorem dX6_roundOn_49 : decode cX6_roundOn 49 = .ok (.istore_n 2, 1) := by decide +kernel
theorem dX6_roundOn_50 : decode cX6_roundOn 50 = .ok (.iload_n 2, 1) := by decide +kernel
theorem dX6_roundOn_51 : decode cX6_roundOn 51 = .ok (.aload_n 0, 1) := by decide +kernel
theorem dX6_roundOn_52 : decode cX6_roundOn 52 = .ok (.getfield 32, 3) := by decide +kernel
theorem dX6_roundOn_55 : decode cX6_roundOn 55 = .ok (.if_icmp .ge 66, 3) := by decide +kernel
theorem dX6_roundOn_58 : decode cX6_roundOn 58 = .ok (.aload_n 0, 1) := by decide +kernel
theorem dX6_roundOn_59 : decode cX6_roundOn 59 = .ok (.iload_n 2, 1) := by decide +kernel
theorem dX6_roundOn_60 : decode cX6_roundOn 60 = .ok (.invokevirtual 96, 3) := by decide +kernel
theorem dX6_roundOn_63 : decode cX6_roundOn 63 = .ok (.ifCond .ne 6, 3) := by decide +kernel
theorem dX6_roundOn_66 : decode cX6_roundOn 66 = .ok (.goto 49, 3) := by decide +kernel
theorem dX6_roundOn_69 : decode cX6_roundOn 69 = .ok (.aload_n 0, 1) := by decide +kernel
theorem dX6_roundOn_70 : decode cX6_roundOn 70 = .ok (.iload_n 2, 1) := by decide +kernel
theorem dX6_roundOn_71 : decode cX6_roundOn 71 = .ok (.invokevirtual 90, 3) := by decide +kernel
theorem dX6_roundOn_74 : decode cX6_roundOn 74 = .ok (.istore_n 3, 1) := by decide +kernel
theorem dX6_roundOn_75 : decode cX6_roundOn 75 = .ok (.iload_n 3, 1) := by decide +kernel
theorem dX6_roundOn_76 : decode cX6_roundOn 76 = .ok (.ifCond .le 39, 3) := by decide +kernel
theorem dX6_roundOn_79 : decode cX6_roundOn 79 = .ok (.aload_n 0, 1) := by decide +kernel
theorem dX6_roundOn_80 : decode cX6_roundOn 80 = .ok (.iload_n 2, 1) := by decide +kernel
theorem dX6_roundOn_81 : decode cX6_roundOn 81 = .ok (.invokevirtual 99, 3) := by decide +kernel
theorem dX6_roundOn_84 : decode cX6_roundOn 84 = .ok (.ifCond .le 31, 3) := by decide +kernel
theorem dX6_roundOn_87 : decode cX6_roundOn 87 = .ok (.iload_n 1, 1) := by decide +kernel
theorem dX6_roundOn_88 : decode cX6_roundOn 88 = .ok (.aload_n 0, 1) := by decide +kernel
theorem dX6_roundOn_89 : decode cX6_roundOn 89 = .ok (.aload_n 0, 1) := by decide +kernel
theorem dX6_roundOn_90 : decode cX6_roundOn 90 = .ok (.iload_n 2, 1) := by decide +kernel
theorem dX6_roundOn_91 : decode cX6_roundOn 91 = .ok (.iconst 0, 1) := by decide +kernel
theorem dX6_roundOn_92 : decode cX6_roundOn 92 = .ok (.invokevirtual 105, 3) := by decide +kernel
theorem dX6_roundOn_95 : decode cX6_roundOn 95 = .ok (.iload_n 2, 1) := by decide +kernel
theorem dX6_roundOn_96 : decode cX6_roundOn 96 = .ok (.invokevirtual 129, 3) := by decide +kernel
theorem dX6_roundOn_99 : decode cX6_roundOn 99 = .ok (.ifCond .eq 7, 3) := by decide +kernel
theorem dX6_roundOn_102 : decode cX6_roundOn 102 = .ok (.iconst 1, 1) := by decide +kernel
theorem dX6_roundOn_103 : decode cX6_roundOn 103 = .ok (.goto 4, 3) := by decide +kernel
theorem dX6_roundOn_106 : decode cX6_roundOn 106 = .ok (.iconst 0, 1) := by decide +kernel
theorem dX6_roundOn_107 : decode cX6_roundOn 107 = .ok (.iadd, 1) := by decide +kernel
theorem dX6_roundOn_108 : decode cX6_roundOn 108 = .ok (.istore_n 1, 1) := by decide +kernel
theorem dX6_roundOn_109 : decode cX6_roundOn 109 = .ok (.iinc 3 (-1), 3) := by decide +kernel
theorem dX6_roundOn_112 : decode cX6_roundOn 112 = .ok (.goto (-37), 3) := by decide +kernel
theorem dX6_roundOn_115 : decode cX6_roundOn 115 = .ok (.iinc 2 1, 3) := by decide +kernel
theorem dX6_roundOn_118 : decode cX6_roundOn 118 = .ok (.goto (-68), 3) := by decide +kernel
theorem dX6_roundOn_121 : decode cX6_roundOn 121 = .ok (.iconst 0, 1) := by decide +kernel
theorem dX6_roundOn_122 : decode cX6_roundOn 122 = .ok (.istore_n 2, 1) := by decide +kernel
theorem dX6_roundOn_123 : decode cX6_roundOn 123 = .ok (.iload_n 2, 1) := by decide +kernel
theorem dX6_roundOn_124 : decode cX6_roundOn 124 = .ok (.aload_n 0, 1) := by decide +kernel
theorem dX6_roundOn_125 : decode cX6_roundOn 125 = .ok (.getfield 39, 3) := by decide +kernel
theorem dX6_roundOn_128 : decode cX6_roundOn 128 = .ok (.if_icmp .ge 92, 3) := by decide +kernel
theorem dX6_roundOn_131 : decode cX6_roundOn 131 = .ok (.aload_n 0, 1) := by decide +kernel
theorem dX6_roundOn_132 : decode cX6_roundOn 132 = .ok (.iload_n 2, 1) := by decide +kernel
theorem dX6_roundOn_133 : decode cX6_roundOn 133 = .ok (.iconst 1, 1) := by decide +kernel
theorem dX6_roundOn_134 : decode cX6_roundOn 134 = .ok (.invokevirtual 63, 3) := by decide +kernel
theorem dX6_roundOn_137 : decode cX6_roundOn 137 = .ok (.iconst (-1), 1) := by decide +kernel
theorem dX6_roundOn_138 : decode cX6_roundOn 138 = .ok (.if_icmp .eq 47, 3) := by decide +kernel
theorem dX6_roundOn_141 : decode cX6_roundOn 141 = .ok (.aload_n 0, 1) := by decide +kernel
theorem dX6_roundOn_142 : decode cX6_roundOn 142 = .ok (.iload_n 2, 1) := by decide +kernel
theorem dX6_roundOn_143 : decode cX6_roundOn 143 = .ok (.iconst 0, 1) := by decide +kernel
theorem dX6_roundOn_144 : decode cX6_roundOn 144 = .ok (.aload_n 0, 1) := by decide +kernel
theorem dX6_roundOn_145 : decode cX6_roundOn 145 = .ok (.iload_n 2, 1) := by decide +kernel
theorem dX6_roundOn_146 : decode cX6_roundOn 146 = .ok (.iconst 0, 1) := by decide +kernel
theorem dX6_roundOn_147 : decode cX6_roundOn 147 = .ok (.invokevirtual 63, 3) := by decide +kernel
theorem dX6_roundOn_150 : decode cX6_roundOn 150 = .ok (.iconst 1, 1) := by decide +kernel
theorem dX6_roundOn_151 : decode cX6_roundOn 151 = .ok (.isub, 1) := by decide +kernel
theorem dX6_roundOn_152 : decode cX6_roundOn 152 = .ok (.invokevirtual 67, 3) := by decide +kernel
theorem dX6_roundOn_155 : decode cX6_roundOn 155 = .ok (.aload_n 0, 1) := by decide +kernel
theorem dX6_roundOn_156 : decode cX6_roundOn 156 = .ok (.iload_n 2, 1) := by decide +kernel
theorem dX6_roundOn_157 : decode cX6_roundOn 157 = .ok (.iconst 2, 1) := by decide +kernel
theorem dX6_roundOn_158 : decode cX6_roundOn 158 = .ok (.aload_n 0, 1) := by decide +kernel
theorem dX6_roundOn_159 : decode cX6_roundOn 159 = .ok (.iload_n 2, 1) := by decide +kernel
theorem dX6_roundOn_160 : decode cX6_roundOn 160 = .ok (.iconst 2, 1) := by decide +kernel
theorem dX6_roundOn_161 : decode cX6_roundOn 161 = .ok (.invokevirtual 63, 3) := by decide +kernel
theorem dX6_roundOn_164 : decode cX6_roundOn 164 = .ok (.iconst 1, 1) := by decide +kernel
theorem dX6_roundOn_165 : decode cX6_roundOn 165 = .ok (.iadd, 1) := by decide +kernel
theorem dX6_roundOn_166 : decode cX6_roundOn 166 = .ok (.invokevirtual 67, 3) := by decide +kernel
theorem dX6_roundOn_169 : decode cX6_roundOn 169 = .ok (.aload_n 0, 1) := by decide +kernel
theorem dX6_roundOn_170 : decode cX6_roundOn 170 = .ok (.iload_n 2, 1) := by decide +kernel
theorem dX6_roundOn_171 : decode cX6_roundOn 171 = .ok (.iconst 0, 1) := by decide +kernel
theorem dX6_roundOn_172 : decode cX6_roundOn 172 = .ok (.invokevirtual 63, 3) := by decide +kernel
theorem dX6_roundOn_175 : decode cX6_roundOn 175 = .ok (.ifCond .ne 10, 3) := by decide +kernel
theorem dX6_roundOn_178 : decode cX6_roundOn 178 = .ok (.aload_n 0, 1) := by decide +kernel
theorem dX6_roundOn_179 : decode cX6_roundOn 179 = .ok (.iload_n 2, 1) := by decide +kernel
theorem dX6_roundOn_180 : decode cX6_roundOn 180 = .ok (.iconst 1, 1) := by decide +kernel
theorem dX6_roundOn_181 : decode cX6_roundOn 181 = .ok (.iconst (-1), 1) := by decide +kernel
theorem dX6_roundOn_182 : decode cX6_roundOn 182 = .ok (.invokevirtual 67, 3) := by decide +kernel
theorem dX6_roundOn_185 : decode cX6_roundOn 185 = .ok (.aload_n 0, 1) := by decide +kernel
theorem dX6_roundOn_186 : decode cX6_roundOn 186 = .ok (.iload_n 2, 1) := by decide +kernel
theorem dX6_roundOn_187 : decode cX6_roundOn 187 = .ok (.iconst 1, 1) := by decide +kernel
theorem dX6_roundOn_188 : decode cX6_roundOn 188 = .ok (.invokevirtual 63, 3) := by decide +kernel
theorem dX6_roundOn_191 : decode cX6_roundOn 191 = .ok (.iconst (-1), 1) := by decide +kernel
theorem dX6_roundOn_192 : decode cX6_roundOn 192 = .ok (.if_icmp .ne 22, 3) := by decide +kernel
theorem dX6_roundOn_195 : decode cX6_roundOn 195 = .ok (.aload_n 0, 1) := by decide +kernel
theorem dX6_roundOn_196 : decode cX6_roundOn 196 = .ok (.iload_n 2, 1) := by decide +kernel
theorem dX6_roundOn_197 : decode cX6_roundOn 197 = .ok (.iconst 0, 1) := by decide +kernel
theorem dX6_roundOn_198 : decode cX6_roundOn 198 = .ok (.bipush 24, 2) := by decide +kernel
theorem dX6_roundOn_200 : decode cX6_roundOn 200 = .ok (.aload_n 0, 1) := by decide +kernel
theorem dX6_roundOn_201 : decode cX6_roundOn 201 = .ok (.iload_n 2, 1) := by decide +kernel
theorem dX6_roundOn_202 : decode cX6_roundOn 202 = .ok (.iconst 0, 1) := by decide +kernel
theorem dX6_roundOn_203 : decode cX6_roundOn 203 = .ok (.invokevirtual 63, 3) := by decide +kernel
theorem dX6_roundOn_206 : decode cX6_roundOn 206 = .ok (.iconst 2, 1) := by decide +kernel
theorem dX6_roundOn_207 : decode cX6_roundOn 207 = .ok (.iadd, 1) := by decide +kernel
theorem dX6_roundOn_208 : decode cX6_roundOn 208 = .ok (.invokestatic 112, 3) := by decide +kernel
theorem dX6_roundOn_211 : decode cX6_roundOn 211 = .ok (.invokevirtual 67, 3) := by decide +kernel
theorem dX6_roundOn_214 : decode cX6_roundOn 214 = .ok (.iinc 2 1, 3) := by decide +kernel
theorem dX6_roundOn_217 : decode cX6_roundOn 217 = .ok (.goto (-94), 3) := by decide +kernel
theorem dX6_roundOn_220 : decode cX6_roundOn 220 = .ok (.aload_n 0, 1) := by decide +kernel
theorem dX6_roundOn_221 : decode cX6_roundOn 221 = .ok (.getfield 25, 3) := by decide +kernel
theorem dX6_roundOn_224 : decode cX6_roundOn 224 = .ok (.iconst 0, 1) := by decide +kernel
theorem dX6_roundOn_225 : decode cX6_roundOn 225 = .ok (.iaload, 1) := by decide +kernel
theorem dX6_roundOn_226 : decode cX6_roundOn 226 = .ok (.bipush 12, 2) := by decide +kernel
theorem dX6_roundOn_228 : decode cX6_roundOn 228 = .ok (.irem, 1) := by decide +kernel
theorem dX6_roundOn_229 : decode cX6_roundOn 229 = .ok (.bipush 11, 2) := by decide +kernel
theorem dX6_roundOn_231 : decode cX6_roundOn 231 = .ok (.if_icmp .ne 7, 3) := by decide +kernel
theorem dX6_roundOn_234 : decode cX6_roundOn 234 = .ok (.aload_n 0, 1) := by decide +kernel
theorem dX6_roundOn_235 : decode cX6_roundOn 235 = .ok (.invokevirtual 133, 3) := by decide +kernel
theorem dX6_roundOn_238 : decode cX6_roundOn 238 = .ok (.aload_n 0, 1) := by decide +kernel
theorem dX6_roundOn_239 : decode cX6_roundOn 239 = .ok (.getfield 25, 3) := by decide +kernel
theorem dX6_roundOn_242 : decode cX6_roundOn 242 = .ok (.iconst 0, 1) := by decide +kernel
theorem dX6_roundOn_243 : decode cX6_roundOn 243 = .ok (.dup2, 1) := by decide +kernel
theorem dX6_roundOn_244 : decode cX6_roundOn 244 = .ok (.iaload, 1) := by decide +kernel
theorem dX6_roundOn_245 : decode cX6_roundOn 245 = .ok (.iconst 1, 1) := by decide +kernel
theorem dX6_roundOn_246 : decode cX6_roundOn 246 = .ok (.iadd, 1) := by decide +kernel
theorem dX6_roundOn_247 : decode cX6_roundOn 247 = .ok (.iastore, 1) := by decide +kernel
theorem dX6_roundOn_248 : decode cX6_roundOn 248 = .ok (.aload_n 0, 1) := by decide +kernel
theorem dX6_roundOn_249 : decode cX6_roundOn 249 = .ok (.getfield 25, 3) := by decide +kernel
theorem dX6_roundOn_252 : decode cX6_roundOn 252 = .ok (.iconst 3, 1) := by decide +kernel
theorem dX6_roundOn_253 : decode cX6_roundOn 253 = .ok (.dup2, 1) := by decide +kernel
theorem dX6_roundOn_254 : decode cX6_roundOn 254 = .ok (.iaload, 1) := by decide +kernel
theorem dX6_roundOn_255 : decode cX6_roundOn 255 = .ok (.iload_n 1, 1) := by decide +kernel
theorem dX6_roundOn_256 : decode cX6_roundOn 256 = .ok (.iadd, 1) := by decide +kernel
theorem dX6_roundOn_257 : decode cX6_roundOn 257 = .ok (.iastore, 1) := by decide +kernel
theorem dX6_roundOn_258 : decode cX6_roundOn 258 = .ok (.iload_n 1, 1) := by decide +kernel
theorem dX6_roundOn_259 : decode cX6_roundOn 259 = .ok (.ireturn, 1) := by decide +kernel
theorem dX6_roundsOn_0 : decode cX6_roundsOn 0 = .ok (.iconst 0, 1) := by decide +kernel
theorem dX6_roundsOn_1 : decode cX6_roundsOn 1 = .ok (.istore_n 2, 1) := by decide +kernel
theorem dX6_roundsOn_2 : decode cX6_roundsOn 2 = .ok (.iconst 0, 1) := by decide +kernel
theorem dX6_roundsOn_3 : decode cX6_roundsOn 3 = .ok (.istore_n 3, 1) := by decide +kernel
theorem dX6_roundsOn_4 : decode cX6_roundsOn 4 = .ok (.iload_n 3, 1) := by decide +kernel
theorem dX6_roundsOn_5 : decode cX6_roundsOn 5 = .ok (.iload_n 1, 1) := by decide +kernel
theorem dX6_roundsOn_6 : decode cX6_roundsOn 6 = .ok (.if_icmp .ge 16, 3) := by decide +kernel
theorem dX6_roundsOn_9 : decode cX6_roundsOn 9 = .ok (.iload_n 2, 1) := by decide +kernel
theorem dX6_roundsOn_10 : decode cX6_roundsOn 10 = .ok (.aload_n 0, 1) := by decide +kernel
theorem dX6_roundsOn_11 : decode cX6_roundsOn 11 = .ok (.invokevirtual 136, 3) := by decide +kernel
theorem dX6_roundsOn_14 : decode cX6_roundsOn 14 = .ok (.iadd, 1) := by decide +kernel
theorem dX6_roundsOn_15 : decode cX6_roundsOn 15 = .ok (.istore_n 2, 1) := by decide +kernel
theorem dX6_roundsOn_16 : decode cX6_roundsOn 16 = .ok (.iinc 3 1, 3) := by decide +kernel
theorem dX6_roundsOn_19 : decode cX6_roundsOn 19 = .ok (.goto (-15), 3) := by decide +kernel
theorem dX6_roundsOn_22 : decode cX6_roundsOn 22 = .ok (.iload_n 2, 1) := by decide +kernel
theorem dX6_roundsOn_23 : decode cX6_roundsOn 23 = .ok (.ireturn, 1) := by decide +kernel
theorem dX6_pass_0 : decode cX6_pass 0 = .ok (.aload_n 0, 1) := by decide +kernel
theorem dX6_pass_1 : decode cX6_pass 1 = .ok (.iconst 0, 1) := by decide +kernel
theorem dX6_pass_2 : decode cX6_pass 2 = .ok (.putfield 28, 3) := by decide +kernel
theorem dX6_pass_5 : decode cX6_pass 5 = .ok (.iload_n 1, 1) := by decide +kernel
theorem dX6_pass_6 : decode cX6_pass 6 = .ok (.iconst 1, 1) := by decide +kernel
theorem dX6_pass_7 : decode cX6_pass 7 = .ok (.sipush 200, 3) := by decide +kernel
theorem dX6_pass_10 : decode cX6_pass 10 = .ok (.invokestatic 35, 3) := by decide +kernel
theorem dX6_pass_13 : decode cX6_pass 13 = .ok (.ifCond .eq 11, 3) := by decide +kernel
theorem dX6_pass_16 : decode cX6_pass 16 = .ok (.aload_n 0, 1) := by decide +kernel
theorem dX6_pass_17 : decode cX6_pass 17 = .ok (.iload_n 1, 1) := by decide +kernel
theorem dX6_pass_18 : decode cX6_pass 18 = .ok (.invokevirtual 140, 3) := by decide +kernel
theorem dX6_pass_21 : decode cX6_pass 21 = .ok (.goto 8, 3) := by decide +kernel
theorem dX6_pass_24 : decode cX6_pass 24 = .ok (.aload_n 0, 1) := by decide +kernel
theorem dX6_pass_25 : decode cX6_pass 25 = .ok (.iconst 1, 1) := by decide +kernel
theorem dX6_pass_26 : decode cX6_pass 26 = .ok (.invokevirtual 45, 3) := by decide +kernel
theorem dX6_pass_29 : decode cX6_pass 29 = .ok (.ireturn, 1) := by decide +kernel
theorem dX6_with_0 : decode cX6_with 0 = .ok (.iconst 0, 1) := by decide +kernel
theorem dX6_with_1 : decode cX6_with 1 = .ok (.istore_n 2, 1) := by decide +kernel
theorem dX6_with_2 : decode cX6_with 2 = .ok (.iconst 0, 1) := by decide +kernel
theorem dX6_with_3 : decode cX6_with 3 = .ok (.istore_n 3, 1) := by decide +kernel
theorem dX6_with_4 : decode cX6_with 4 = .ok (.iload_n 3, 1) := by decide +kernel
theorem dX6_with_5 : decode cX6_with 5 = .ok (.aload_n 0, 1) := by decide +kernel
theorem dX6_with_6 : decode cX6_with 6 = .ok (.getfield 42, 3) := by decide +kernel
theorem dX6_with_9 : decode cX6_with 9 = .ok (.if_icmp .ge 27, 3) := by decide +kernel
theorem dX6_with_12 : decode cX6_with 12 = .ok (.iload_n 2, 1) := by decide +kernel
theorem dX6_with_13 : decode cX6_with 13 = .ok (.aload_n 0, 1) := by decide +kernel
theorem dX6_with_14 : decode cX6_with 14 = .ok (.iload_n 3, 1) := by decide +kernel
theorem dX6_with_15 : decode cX6_with 15 = .ok (.iconst 2, 1) := by decide +kernel
theorem dX6_with_16 : decode cX6_with 16 = .ok (.invokevirtual 80, 3) := by decide +kernel
theorem dX6_with_19 : decode cX6_with 19 = .ok (.iload_n 1, 1) := by decide +kernel
theorem dX6_with_20 : decode cX6_with 20 = .ok (.if_icmp .ne 7, 3) := by decide +kernel
theorem dX6_with_23 : decode cX6_with 23 = .ok (.iconst 1, 1) := by decide +kernel
theorem dX6_with_24 : decode cX6_with 24 = .ok (.goto 4, 3) := by decide +kernel
theorem dX6_with_27 : decode cX6_with 27 = .ok (.iconst 0, 1) := by decide +kernel
theorem dX6_with_28 : decode cX6_with 28 = .ok (.iadd, 1) := by decide +kernel
theorem dX6_with_29 : decode cX6_with 29 = .ok (.istore_n 2, 1) := by decide +kernel
theorem dX6_with_30 : decode cX6_with 30 = .ok (.iinc 3 1, 3) := by decide +kernel
theorem dX6_with_33 : decode cX6_with 33 = .ok (.goto (-29), 3) := by decide +kernel
end
section
theorem dX6_with_36 : decode cX6_with 36 = .ok (.iload_n 2, 1) := by decide +kernel
theorem dX6_with_37 : decode cX6_with 37 = .ok (.ireturn, 1) := by decide +kernel
theorem dX6_counted_0 : decode cX6_counted 0 = .ok (.iconst 0, 1) := by decide +kernel
theorem dX6_counted_1 : decode cX6_counted 1 = .ok (.istore_n 2, 1) := by decide +kernel
theorem dX6_counted_2 : decode cX6_counted 2 = .ok (.iload_n 1, 1) := by decide +kernel
theorem dX6_counted_3 : decode cX6_counted 3 = .ok (.tableswitch 146 0 9 #[53, 60, 65, 70, 75, 124, 124, 75, 132, 139], 53) := by decide +kernel
theorem dX6_counted_56 : decode cX6_counted 56 = .ok (.aload_n 0, 1) := by decide +kernel
theorem dX6_counted_57 : decode cX6_counted 57 = .ok (.getfield 25, 3) := by decide +kernel
theorem dX6_counted_60 : decode cX6_counted 60 = .ok (.iconst 0, 1) := by decide +kernel
theorem dX6_counted_61 : decode cX6_counted 61 = .ok (.iaload, 1) := by decide +kernel
theorem dX6_counted_62 : decode cX6_counted 62 = .ok (.ireturn, 1) := by decide +kernel
theorem dX6_counted_63 : decode cX6_counted 63 = .ok (.aload_n 0, 1) := by decide +kernel
theorem dX6_counted_64 : decode cX6_counted 64 = .ok (.getfield 32, 3) := by decide +kernel
theorem dX6_counted_67 : decode cX6_counted 67 = .ok (.ireturn, 1) := by decide +kernel
theorem dX6_counted_68 : decode cX6_counted 68 = .ok (.aload_n 0, 1) := by decide +kernel
theorem dX6_counted_69 : decode cX6_counted 69 = .ok (.getfield 39, 3) := by decide +kernel
theorem dX6_counted_72 : decode cX6_counted 72 = .ok (.ireturn, 1) := by decide +kernel
theorem dX6_counted_73 : decode cX6_counted 73 = .ok (.aload_n 0, 1) := by decide +kernel
theorem dX6_counted_74 : decode cX6_counted 74 = .ok (.getfield 42, 3) := by decide +kernel
theorem dX6_counted_77 : decode cX6_counted 77 = .ok (.ireturn, 1) := by decide +kernel
theorem dX6_counted_78 : decode cX6_counted 78 = .ok (.iconst 0, 1) := by decide +kernel
theorem dX6_counted_79 : decode cX6_counted 79 = .ok (.istore_n 3, 1) := by decide +kernel
theorem dX6_counted_80 : decode cX6_counted 80 = .ok (.iload_n 3, 1) := by decide +kernel
theorem dX6_counted_81 : decode cX6_counted 81 = .ok (.aload_n 0, 1) := by decide +kernel
theorem dX6_counted_82 : decode cX6_counted 82 = .ok (.getfield 32, 3) := by decide +kernel
theorem dX6_counted_85 : decode cX6_counted 85 = .ok (.if_icmp .ge 40, 3) := by decide +kernel
theorem dX6_counted_88 : decode cX6_counted 88 = .ok (.iload_n 2, 1) := by decide +kernel
theorem dX6_counted_89 : decode cX6_counted 89 = .ok (.iload_n 1, 1) := by decide +kernel
theorem dX6_counted_90 : decode cX6_counted 90 = .ok (.bipush 7, 2) := by decide +kernel
theorem dX6_counted_92 : decode cX6_counted 92 = .ok (.if_icmp .ne 12, 3) := by decide +kernel
theorem dX6_counted_95 : decode cX6_counted 95 = .ok (.aload_n 0, 1) := by decide +kernel
theorem dX6_counted_96 : decode cX6_counted 96 = .ok (.iload_n 3, 1) := by decide +kernel
theorem dX6_counted_97 : decode cX6_counted 97 = .ok (.iconst 2, 1) := by decide +kernel
theorem dX6_counted_98 : decode cX6_counted 98 = .ok (.invokevirtual 71, 3) := by decide +kernel
theorem dX6_counted_101 : decode cX6_counted 101 = .ok (.goto 16, 3) := by decide +kernel
theorem dX6_counted_104 : decode cX6_counted 104 = .ok (.aload_n 0, 1) := by decide +kernel
theorem dX6_counted_105 : decode cX6_counted 105 = .ok (.iload_n 3, 1) := by decide +kernel
theorem dX6_counted_106 : decode cX6_counted 106 = .ok (.invokevirtual 96, 3) := by decide +kernel
theorem dX6_counted_109 : decode cX6_counted 109 = .ok (.ifCond .eq 7, 3) := by decide +kernel
theorem dX6_counted_112 : decode cX6_counted 112 = .ok (.iconst 1, 1) := by decide +kernel
theorem dX6_counted_113 : decode cX6_counted 113 = .ok (.goto 4, 3) := by decide +kernel
theorem dX6_counted_116 : decode cX6_counted 116 = .ok (.iconst 0, 1) := by decide +kernel
theorem dX6_counted_117 : decode cX6_counted 117 = .ok (.iadd, 1) := by decide +kernel
theorem dX6_counted_118 : decode cX6_counted 118 = .ok (.istore_n 2, 1) := by decide +kernel
theorem dX6_counted_119 : decode cX6_counted 119 = .ok (.iinc 3 1, 3) := by decide +kernel
theorem dX6_counted_122 : decode cX6_counted 122 = .ok (.goto (-42), 3) := by decide +kernel
theorem dX6_counted_125 : decode cX6_counted 125 = .ok (.iload_n 2, 1) := by decide +kernel
theorem dX6_counted_126 : decode cX6_counted 126 = .ok (.ireturn, 1) := by decide +kernel
theorem dX6_counted_127 : decode cX6_counted 127 = .ok (.aload_n 0, 1) := by decide +kernel
theorem dX6_counted_128 : decode cX6_counted 128 = .ok (.iload_n 1, 1) := by decide +kernel
theorem dX6_counted_129 : decode cX6_counted 129 = .ok (.iconst 4, 1) := by decide +kernel
theorem dX6_counted_130 : decode cX6_counted 130 = .ok (.isub, 1) := by decide +kernel
theorem dX6_counted_131 : decode cX6_counted 131 = .ok (.invokevirtual 143, 3) := by decide +kernel
theorem dX6_counted_134 : decode cX6_counted 134 = .ok (.ireturn, 1) := by decide +kernel
theorem dX6_counted_135 : decode cX6_counted 135 = .ok (.aload_n 0, 1) := by decide +kernel
theorem dX6_counted_136 : decode cX6_counted 136 = .ok (.getfield 25, 3) := by decide +kernel
theorem dX6_counted_139 : decode cX6_counted 139 = .ok (.iconst 3, 1) := by decide +kernel
theorem dX6_counted_140 : decode cX6_counted 140 = .ok (.iaload, 1) := by decide +kernel
theorem dX6_counted_141 : decode cX6_counted 141 = .ok (.ireturn, 1) := by decide +kernel
theorem dX6_counted_142 : decode cX6_counted 142 = .ok (.aload_n 0, 1) := by decide +kernel
theorem dX6_counted_143 : decode cX6_counted 143 = .ok (.getfield 25, 3) := by decide +kernel
theorem dX6_counted_146 : decode cX6_counted 146 = .ok (.iconst 4, 1) := by decide +kernel
theorem dX6_counted_147 : decode cX6_counted 147 = .ok (.iaload, 1) := by decide +kernel
theorem dX6_counted_148 : decode cX6_counted 148 = .ok (.ireturn, 1) := by decide +kernel
theorem dX6_counted_149 : decode cX6_counted 149 = .ok (.aload_n 0, 1) := by decide +kernel
theorem dX6_counted_150 : decode cX6_counted 150 = .ok (.getfield 25, 3) := by decide +kernel
theorem dX6_counted_153 : decode cX6_counted 153 = .ok (.iconst 1, 1) := by decide +kernel
theorem dX6_counted_154 : decode cX6_counted 154 = .ok (.iaload, 1) := by decide +kernel
theorem dX6_counted_155 : decode cX6_counted 155 = .ok (.ireturn, 1) := by decide +kernel
theorem dX6_count_0 : decode cX6_count 0 = .ok (.aload_n 0, 1) := by decide +kernel
theorem dX6_count_1 : decode cX6_count 1 = .ok (.iconst 0, 1) := by decide +kernel
theorem dX6_count_2 : decode cX6_count 2 = .ok (.putfield 28, 3) := by decide +kernel
theorem dX6_count_5 : decode cX6_count 5 = .ok (.iload_n 1, 1) := by decide +kernel
theorem dX6_count_6 : decode cX6_count 6 = .ok (.iconst 0, 1) := by decide +kernel
theorem dX6_count_7 : decode cX6_count 7 = .ok (.bipush 10, 2) := by decide +kernel
theorem dX6_count_9 : decode cX6_count 9 = .ok (.invokestatic 35, 3) := by decide +kernel
theorem dX6_count_12 : decode cX6_count 12 = .ok (.ifCond .eq 11, 3) := by decide +kernel
theorem dX6_count_15 : decode cX6_count 15 = .ok (.aload_n 0, 1) := by decide +kernel
theorem dX6_count_16 : decode cX6_count 16 = .ok (.iload_n 1, 1) := by decide +kernel
theorem dX6_count_17 : decode cX6_count 17 = .ok (.invokevirtual 146, 3) := by decide +kernel
theorem dX6_count_20 : decode cX6_count 20 = .ok (.goto 8, 3) := by decide +kernel
theorem dX6_count_23 : decode cX6_count 23 = .ok (.aload_n 0, 1) := by decide +kernel
theorem dX6_count_24 : decode cX6_count 24 = .ok (.iconst 1, 1) := by decide +kernel
theorem dX6_count_25 : decode cX6_count 25 = .ok (.invokevirtual 45, 3) := by decide +kernel
theorem dX6_count_28 : decode cX6_count 28 = .ok (.ireturn, 1) := by decide +kernel
theorem dX6_kept_0 : decode cX6_kept 0 = .ok (.bipush 6, 2) := by decide +kernel
theorem dX6_kept_2 : decode cX6_kept 2 = .ok (.anewarray 149, 3) := by decide +kernel
theorem dX6_kept_5 : decode cX6_kept 5 = .ok (.dup, 1) := by decide +kernel
theorem dX6_kept_6 : decode cX6_kept 6 = .ok (.iconst 0, 1) := by decide +kernel
theorem dX6_kept_7 : decode cX6_kept 7 = .ok (.aload_n 0, 1) := by decide +kernel
theorem dX6_kept_8 : decode cX6_kept 8 = .ok (.getfield 9, 3) := by decide +kernel
theorem dX6_kept_11 : decode cX6_kept 11 = .ok (.invokevirtual 150, 3) := by decide +kernel
theorem dX6_kept_14 : decode cX6_kept 14 = .ok (.checkcast 149, 3) := by decide +kernel
theorem dX6_kept_17 : decode cX6_kept 17 = .ok (.aastore, 1) := by decide +kernel
theorem dX6_kept_18 : decode cX6_kept 18 = .ok (.dup, 1) := by decide +kernel
theorem dX6_kept_19 : decode cX6_kept 19 = .ok (.iconst 1, 1) := by decide +kernel
theorem dX6_kept_20 : decode cX6_kept 20 = .ok (.aload_n 0, 1) := by decide +kernel
theorem dX6_kept_21 : decode cX6_kept 21 = .ok (.getfield 13, 3) := by decide +kernel
theorem dX6_kept_24 : decode cX6_kept 24 = .ok (.invokevirtual 150, 3) := by decide +kernel
theorem dX6_kept_27 : decode cX6_kept 27 = .ok (.checkcast 149, 3) := by decide +kernel
theorem dX6_kept_30 : decode cX6_kept 30 = .ok (.aastore, 1) := by decide +kernel
theorem dX6_kept_31 : decode cX6_kept 31 = .ok (.dup, 1) := by decide +kernel
theorem dX6_kept_32 : decode cX6_kept 32 = .ok (.iconst 2, 1) := by decide +kernel
theorem dX6_kept_33 : decode cX6_kept 33 = .ok (.aload_n 0, 1) := by decide +kernel
theorem dX6_kept_34 : decode cX6_kept 34 = .ok (.getfield 16, 3) := by decide +kernel
theorem dX6_kept_37 : decode cX6_kept 37 = .ok (.invokevirtual 150, 3) := by decide +kernel
theorem dX6_kept_40 : decode cX6_kept 40 = .ok (.checkcast 149, 3) := by decide +kernel
theorem dX6_kept_43 : decode cX6_kept 43 = .ok (.aastore, 1) := by decide +kernel
theorem dX6_kept_44 : decode cX6_kept 44 = .ok (.dup, 1) := by decide +kernel
theorem dX6_kept_45 : decode cX6_kept 45 = .ok (.iconst 3, 1) := by decide +kernel
theorem dX6_kept_46 : decode cX6_kept 46 = .ok (.aload_n 0, 1) := by decide +kernel
theorem dX6_kept_47 : decode cX6_kept 47 = .ok (.getfield 19, 3) := by decide +kernel
theorem dX6_kept_50 : decode cX6_kept 50 = .ok (.invokevirtual 150, 3) := by decide +kernel
theorem dX6_kept_53 : decode cX6_kept 53 = .ok (.checkcast 149, 3) := by decide +kernel
theorem dX6_kept_56 : decode cX6_kept 56 = .ok (.aastore, 1) := by decide +kernel
theorem dX6_kept_57 : decode cX6_kept 57 = .ok (.dup, 1) := by decide +kernel
theorem dX6_kept_58 : decode cX6_kept 58 = .ok (.iconst 4, 1) := by decide +kernel
theorem dX6_kept_59 : decode cX6_kept 59 = .ok (.aload_n 0, 1) := by decide +kernel
theorem dX6_kept_60 : decode cX6_kept 60 = .ok (.getfield 22, 3) := by decide +kernel
theorem dX6_kept_63 : decode cX6_kept 63 = .ok (.invokevirtual 150, 3) := by decide +kernel
theorem dX6_kept_66 : decode cX6_kept 66 = .ok (.checkcast 149, 3) := by decide +kernel
theorem dX6_kept_69 : decode cX6_kept 69 = .ok (.aastore, 1) := by decide +kernel
theorem dX6_kept_70 : decode cX6_kept 70 = .ok (.dup, 1) := by decide +kernel
theorem dX6_kept_71 : decode cX6_kept 71 = .ok (.iconst 5, 1) := by decide +kernel
theorem dX6_kept_72 : decode cX6_kept 72 = .ok (.aload_n 0, 1) := by decide +kernel
theorem dX6_kept_73 : decode cX6_kept 73 = .ok (.getfield 25, 3) := by decide +kernel
theorem dX6_kept_76 : decode cX6_kept 76 = .ok (.invokevirtual 150, 3) := by decide +kernel
theorem dX6_kept_79 : decode cX6_kept 79 = .ok (.checkcast 149, 3) := by decide +kernel
theorem dX6_kept_82 : decode cX6_kept 82 = .ok (.aastore, 1) := by decide +kernel
theorem dX6_kept_83 : decode cX6_kept 83 = .ok (.areturn, 1) := by decide +kernel
theorem dX6_bringBack_0 : decode cX6_bringBack 0 = .ok (.bipush 6, 2) := by decide +kernel
theorem dX6_bringBack_2 : decode cX6_bringBack 2 = .ok (.anewarray 149, 3) := by decide +kernel
theorem dX6_bringBack_5 : decode cX6_bringBack 5 = .ok (.dup, 1) := by decide +kernel
theorem dX6_bringBack_6 : decode cX6_bringBack 6 = .ok (.iconst 0, 1) := by decide +kernel
theorem dX6_bringBack_7 : decode cX6_bringBack 7 = .ok (.aload_n 0, 1) := by decide +kernel
theorem dX6_bringBack_8 : decode cX6_bringBack 8 = .ok (.getfield 9, 3) := by decide +kernel
theorem dX6_bringBack_11 : decode cX6_bringBack 11 = .ok (.aastore, 1) := by decide +kernel
theorem dX6_bringBack_12 : decode cX6_bringBack 12 = .ok (.dup, 1) := by decide +kernel
theorem dX6_bringBack_13 : decode cX6_bringBack 13 = .ok (.iconst 1, 1) := by decide +kernel
theorem dX6_bringBack_14 : decode cX6_bringBack 14 = .ok (.aload_n 0, 1) := by decide +kernel
theorem dX6_bringBack_15 : decode cX6_bringBack 15 = .ok (.getfield 13, 3) := by decide +kernel
theorem dX6_bringBack_18 : decode cX6_bringBack 18 = .ok (.aastore, 1) := by decide +kernel
theorem dX6_bringBack_19 : decode cX6_bringBack 19 = .ok (.dup, 1) := by decide +kernel
theorem dX6_bringBack_20 : decode cX6_bringBack 20 = .ok (.iconst 2, 1) := by decide +kernel
theorem dX6_bringBack_21 : decode cX6_bringBack 21 = .ok (.aload_n 0, 1) := by decide +kernel
theorem dX6_bringBack_22 : decode cX6_bringBack 22 = .ok (.getfield 16, 3) := by decide +kernel
theorem dX6_bringBack_25 : decode cX6_bringBack 25 = .ok (.aastore, 1) := by decide +kernel
theorem dX6_bringBack_26 : decode cX6_bringBack 26 = .ok (.dup, 1) := by decide +kernel
theorem dX6_bringBack_27 : decode cX6_bringBack 27 = .ok (.iconst 3, 1) := by decide +kernel
theorem dX6_bringBack_28 : decode cX6_bringBack 28 = .ok (.aload_n 0, 1) := by decide +kernel
theorem dX6_bringBack_29 : decode cX6_bringBack 29 = .ok (.getfield 19, 3) := by decide +kernel
theorem dX6_bringBack_32 : decode cX6_bringBack 32 = .ok (.aastore, 1) := by decide +kernel
theorem dX6_bringBack_33 : decode cX6_bringBack 33 = .ok (.dup, 1) := by decide +kernel
theorem dX6_bringBack_34 : decode cX6_bringBack 34 = .ok (.iconst 4, 1) := by decide +kernel
theorem dX6_bringBack_35 : decode cX6_bringBack 35 = .ok (.aload_n 0, 1) := by decide +kernel
theorem dX6_bringBack_36 : decode cX6_bringBack 36 = .ok (.getfield 22, 3) := by decide +kernel
theorem dX6_bringBack_39 : decode cX6_bringBack 39 = .ok (.aastore, 1) := by decide +kernel
theorem dX6_bringBack_40 : decode cX6_bringBack 40 = .ok (.dup, 1) := by decide +kernel
theorem dX6_bringBack_41 : decode cX6_bringBack 41 = .ok (.iconst 5, 1) := by decide +kernel
theorem dX6_bringBack_42 : decode cX6_bringBack 42 = .ok (.aload_n 0, 1) := by decide +kernel
theorem dX6_bringBack_43 : decode cX6_bringBack 43 = .ok (.getfield 25, 3) := by decide +kernel
theorem dX6_bringBack_46 : decode cX6_bringBack 46 = .ok (.aastore, 1) := by decide +kernel
theorem dX6_bringBack_47 : decode cX6_bringBack 47 = .ok (.astore_n 2, 1) := by decide +kernel
theorem dX6_bringBack_48 : decode cX6_bringBack 48 = .ok (.iconst 0, 1) := by decide +kernel
theorem dX6_bringBack_49 : decode cX6_bringBack 49 = .ok (.istore_n 3, 1) := by decide +kernel
theorem dX6_bringBack_50 : decode cX6_bringBack 50 = .ok (.iload_n 3, 1) := by decide +kernel
theorem dX6_bringBack_51 : decode cX6_bringBack 51 = .ok (.aload_n 2, 1) := by decide +kernel
theorem dX6_bringBack_52 : decode cX6_bringBack 52 = .ok (.arraylength, 1) := by decide +kernel
theorem dX6_bringBack_53 : decode cX6_bringBack 53 = .ok (.if_icmp .ge 24, 3) := by decide +kernel
theorem dX6_bringBack_56 : decode cX6_bringBack 56 = .ok (.aload_n 1, 1) := by decide +kernel
theorem dX6_bringBack_57 : decode cX6_bringBack 57 = .ok (.iload_n 3, 1) := by decide +kernel
theorem dX6_bringBack_58 : decode cX6_bringBack 58 = .ok (.aaload, 1) := by decide +kernel
theorem dX6_bringBack_59 : decode cX6_bringBack 59 = .ok (.iconst 0, 1) := by decide +kernel
theorem dX6_bringBack_60 : decode cX6_bringBack 60 = .ok (.aload_n 2, 1) := by decide +kernel
theorem dX6_bringBack_61 : decode cX6_bringBack 61 = .ok (.iload_n 3, 1) := by decide +kernel
theorem dX6_bringBack_62 : decode cX6_bringBack 62 = .ok (.aaload, 1) := by decide +kernel
theorem dX6_bringBack_63 : decode cX6_bringBack 63 = .ok (.iconst 0, 1) := by decide +kernel
theorem dX6_bringBack_64 : decode cX6_bringBack 64 = .ok (.aload_n 2, 1) := by decide +kernel
theorem dX6_bringBack_65 : decode cX6_bringBack 65 = .ok (.iload_n 3, 1) := by decide +kernel
theorem dX6_bringBack_66 : decode cX6_bringBack 66 = .ok (.aaload, 1) := by decide +kernel
theorem dX6_bringBack_67 : decode cX6_bringBack 67 = .ok (.arraylength, 1) := by decide +kernel
theorem dX6_bringBack_68 : decode cX6_bringBack 68 = .ok (.invokestatic 49, 3) := by decide +kernel
theorem dX6_bringBack_71 : decode cX6_bringBack 71 = .ok (.iinc 3 1, 3) := by decide +kernel
theorem dX6_bringBack_74 : decode cX6_bringBack 74 = .ok (.goto (-24), 3) := by decide +kernel
theorem dX6_bringBack_77 : decode cX6_bringBack 77 = .ok (.return_, 1) := by decide +kernel
theorem dX6_foresee_0 : decode cX6_foresee 0 = .ok (.aload_n 0, 1) := by decide +kernel
theorem dX6_foresee_1 : decode cX6_foresee 1 = .ok (.iconst 0, 1) := by decide +kernel
theorem dX6_foresee_2 : decode cX6_foresee 2 = .ok (.putfield 28, 3) := by decide +kernel
theorem dX6_foresee_5 : decode cX6_foresee 5 = .ok (.aload_n 0, 1) := by decide +kernel
theorem dX6_foresee_6 : decode cX6_foresee 6 = .ok (.iload_n 1, 1) := by decide +kernel
theorem dX6_foresee_7 : decode cX6_foresee 7 = .ok (.invokevirtual 77, 3) := by decide +kernel
theorem dX6_foresee_10 : decode cX6_foresee 10 = .ok (.ifCond .eq 12, 3) := by decide +kernel
theorem dX6_foresee_13 : decode cX6_foresee 13 = .ok (.iload_n 3, 1) := by decide +kernel
theorem dX6_foresee_14 : decode cX6_foresee 14 = .ok (.iconst 0, 1) := by decide +kernel
theorem dX6_foresee_15 : decode cX6_foresee 15 = .ok (.iconst 2, 1) := by decide +kernel
theorem dX6_foresee_16 : decode cX6_foresee 16 = .ok (.invokestatic 35, 3) := by decide +kernel
theorem dX6_foresee_19 : decode cX6_foresee 19 = .ok (.ifCond .ne 9, 3) := by decide +kernel
theorem dX6_foresee_22 : decode cX6_foresee 22 = .ok (.aload_n 0, 1) := by decide +kernel
theorem dX6_foresee_23 : decode cX6_foresee 23 = .ok (.iconst 1, 1) := by decide +kernel
theorem dX6_foresee_24 : decode cX6_foresee 24 = .ok (.invokevirtual 45, 3) := by decide +kernel
theorem dX6_foresee_27 : decode cX6_foresee 27 = .ok (.ireturn, 1) := by decide +kernel
theorem dX6_foresee_28 : decode cX6_foresee 28 = .ok (.iload_n 2, 1) := by decide +kernel
theorem dX6_foresee_29 : decode cX6_foresee 29 = .ok (.iconst 1, 1) := by decide +kernel
theorem dX6_foresee_30 : decode cX6_foresee 30 = .ok (.bipush 100, 2) := by decide +kernel
theorem dX6_foresee_32 : decode cX6_foresee 32 = .ok (.invokestatic 35, 3) := by decide +kernel
theorem dX6_foresee_35 : decode cX6_foresee 35 = .ok (.ifCond .ne 9, 3) := by decide +kernel
theorem dX6_foresee_38 : decode cX6_foresee 38 = .ok (.aload_n 0, 1) := by decide +kernel
theorem dX6_foresee_39 : decode cX6_foresee 39 = .ok (.iconst 2, 1) := by decide +kernel
theorem dX6_foresee_40 : decode cX6_foresee 40 = .ok (.invokevirtual 45, 3) := by decide +kernel
theorem dX6_foresee_43 : decode cX6_foresee 43 = .ok (.ireturn, 1) := by decide +kernel
theorem dX6_foresee_44 : decode cX6_foresee 44 = .ok (.aload_n 0, 1) := by decide +kernel
theorem dX6_foresee_45 : decode cX6_foresee 45 = .ok (.invokevirtual 154, 3) := by decide +kernel
theorem dX6_foresee_48 : decode cX6_foresee 48 = .ok (.astore 4, 2) := by decide +kernel
theorem dX6_foresee_50 : decode cX6_foresee 50 = .ok (.aload_n 0, 1) := by decide +kernel
theorem dX6_foresee_51 : decode cX6_foresee 51 = .ok (.iload_n 2, 1) := by decide +kernel
theorem dX6_foresee_52 : decode cX6_foresee 52 = .ok (.invokevirtual 140, 3) := by decide +kernel
theorem dX6_foresee_55 : decode cX6_foresee 55 = .ok (.pop, 1) := by decide +kernel
theorem dX6_foresee_56 : decode cX6_foresee 56 = .ok (.aload_n 0, 1) := by decide +kernel
theorem dX6_foresee_57 : decode cX6_foresee 57 = .ok (.iload_n 1, 1) := by decide +kernel
theorem dX6_foresee_58 : decode cX6_foresee 58 = .ok (.iload_n 3, 1) := by decide +kernel
theorem dX6_foresee_59 : decode cX6_foresee 59 = .ok (.ifCond .ne 7, 3) := by decide +kernel
theorem dX6_foresee_62 : decode cX6_foresee 62 = .ok (.iconst 5, 1) := by decide +kernel
theorem dX6_foresee_63 : decode cX6_foresee 63 = .ok (.goto 14, 3) := by decide +kernel
theorem dX6_foresee_66 : decode cX6_foresee 66 = .ok (.iload_n 3, 1) := by decide +kernel
theorem dX6_foresee_67 : decode cX6_foresee 67 = .ok (.iconst 1, 1) := by decide +kernel
theorem dX6_foresee_68 : decode cX6_foresee 68 = .ok (.if_icmp .ne 7, 3) := by decide +kernel
theorem dX6_foresee_71 : decode cX6_foresee 71 = .ok (.iconst 0, 1) := by decide +kernel
theorem dX6_foresee_72 : decode cX6_foresee 72 = .ok (.goto 5, 3) := by decide +kernel
theorem dX6_foresee_75 : decode cX6_foresee 75 = .ok (.bipush 6, 2) := by decide +kernel
theorem dX6_foresee_77 : decode cX6_foresee 77 = .ok (.invokevirtual 80, 3) := by decide +kernel
theorem dX6_foresee_80 : decode cX6_foresee 80 = .ok (.istore 5, 2) := by decide +kernel
theorem dX6_foresee_82 : decode cX6_foresee 82 = .ok (.aload_n 0, 1) := by decide +kernel
theorem dX6_foresee_83 : decode cX6_foresee 83 = .ok (.aload 4, 2) := by decide +kernel
theorem dX6_foresee_85 : decode cX6_foresee 85 = .ok (.invokevirtual 158, 3) := by decide +kernel
theorem dX6_foresee_88 : decode cX6_foresee 88 = .ok (.iload 5, 2) := by decide +kernel
theorem dX6_foresee_90 : decode cX6_foresee 90 = .ok (.ireturn, 1) := by decide +kernel
theorem dX6_closes_0 : decode cX6_closes 0 = .ok (.aload_n 0, 1) := by decide +kernel
theorem dX6_closes_1 : decode cX6_closes 1 = .ok (.iconst 0, 1) := by decide +kernel
theorem dX6_closes_2 : decode cX6_closes 2 = .ok (.putfield 28, 3) := by decide +kernel
theorem dX6_closes_5 : decode cX6_closes 5 = .ok (.aload_n 0, 1) := by decide +kernel
theorem dX6_closes_6 : decode cX6_closes 6 = .ok (.iload_n 1, 1) := by decide +kernel
theorem dX6_closes_7 : decode cX6_closes 7 = .ok (.invokevirtual 60, 3) := by decide +kernel
theorem dX6_closes_10 : decode cX6_closes 10 = .ok (.ifCond .ne 9, 3) := by decide +kernel
theorem dX6_closes_13 : decode cX6_closes 13 = .ok (.aload_n 0, 1) := by decide +kernel
theorem dX6_closes_14 : decode cX6_closes 14 = .ok (.iconst 1, 1) := by decide +kernel
theorem dX6_closes_15 : decode cX6_closes 15 = .ok (.invokevirtual 45, 3) := by decide +kernel
theorem dX6_closes_18 : decode cX6_closes 18 = .ok (.ireturn, 1) := by decide +kernel
theorem dX6_closes_19 : decode cX6_closes 19 = .ok (.aload_n 0, 1) := by decide +kernel
theorem dX6_closes_20 : decode cX6_closes 20 = .ok (.invokevirtual 154, 3) := by decide +kernel
theorem dX6_closes_23 : decode cX6_closes 23 = .ok (.astore_n 2, 1) := by decide +kernel
theorem dX6_closes_24 : decode cX6_closes 24 = .ok (.iconst 0, 1) := by decide +kernel
theorem dX6_closes_25 : decode cX6_closes 25 = .ok (.istore_n 3, 1) := by decide +kernel
theorem dX6_closes_26 : decode cX6_closes 26 = .ok (.iload_n 3, 1) := by decide +kernel
theorem dX6_closes_27 : decode cX6_closes 27 = .ok (.bipush 100, 2) := by decide +kernel
theorem dX6_closes_29 : decode cX6_closes 29 = .ok (.if_icmp .ge 22, 3) := by decide +kernel
theorem dX6_closes_32 : decode cX6_closes 32 = .ok (.aload_n 0, 1) := by decide +kernel
theorem dX6_closes_33 : decode cX6_closes 33 = .ok (.iload_n 1, 1) := by decide +kernel
theorem dX6_closes_34 : decode cX6_closes 34 = .ok (.invokevirtual 96, 3) := by decide +kernel
theorem dX6_closes_37 : decode cX6_closes 37 = .ok (.ifCond .eq 14, 3) := by decide +kernel
theorem dX6_closes_40 : decode cX6_closes 40 = .ok (.aload_n 0, 1) := by decide +kernel
theorem dX6_closes_41 : decode cX6_closes 41 = .ok (.invokevirtual 136, 3) := by decide +kernel
theorem dX6_closes_44 : decode cX6_closes 44 = .ok (.pop, 1) := by decide +kernel
theorem dX6_closes_45 : decode cX6_closes 45 = .ok (.iinc 3 1, 3) := by decide +kernel
theorem dX6_closes_48 : decode cX6_closes 48 = .ok (.goto (-22), 3) := by decide +kernel
theorem dX6_closes_51 : decode cX6_closes 51 = .ok (.aload_n 0, 1) := by decide +kernel
theorem dX6_closes_52 : decode cX6_closes 52 = .ok (.iload_n 1, 1) := by decide +kernel
theorem dX6_closes_53 : decode cX6_closes 53 = .ok (.invokevirtual 96, 3) := by decide +kernel
theorem dX6_closes_56 : decode cX6_closes 56 = .ok (.ifCond .eq 5, 3) := by decide +kernel
theorem dX6_closes_59 : decode cX6_closes 59 = .ok (.iconst (-1), 1) := by decide +kernel
theorem dX6_closes_60 : decode cX6_closes 60 = .ok (.istore_n 3, 1) := by decide +kernel
theorem dX6_closes_61 : decode cX6_closes 61 = .ok (.aload_n 0, 1) := by decide +kernel
theorem dX6_closes_62 : decode cX6_closes 62 = .ok (.aload_n 2, 1) := by decide +kernel
theorem dX6_closes_63 : decode cX6_closes 63 = .ok (.invokevirtual 158, 3) := by decide +kernel
theorem dX6_closes_66 : decode cX6_closes 66 = .ok (.iload_n 3, 1) := by decide +kernel
theorem dX6_closes_67 : decode cX6_closes 67 = .ok (.ireturn, 1) := by decide +kernel
theorem dX6_advise_0 : decode cX6_advise 0 = .ok (.aload_n 0, 1) := by decide +kernel
theorem dX6_advise_1 : decode cX6_advise 1 = .ok (.iconst 0, 1) := by decide +kernel
theorem dX6_advise_2 : decode cX6_advise 2 = .ok (.putfield 28, 3) := by decide +kernel
theorem dX6_advise_5 : decode cX6_advise 5 = .ok (.aload_n 0, 1) := by decide +kernel
theorem dX6_advise_6 : decode cX6_advise 6 = .ok (.iload_n 1, 1) := by decide +kernel
theorem dX6_advise_7 : decode cX6_advise 7 = .ok (.invokevirtual 56, 3) := by decide +kernel
theorem dX6_advise_10 : decode cX6_advise 10 = .ok (.ifCond .ne 9, 3) := by decide +kernel
theorem dX6_advise_13 : decode cX6_advise 13 = .ok (.aload_n 0, 1) := by decide +kernel
theorem dX6_advise_14 : decode cX6_advise 14 = .ok (.iconst 1, 1) := by decide +kernel
theorem dX6_advise_15 : decode cX6_advise 15 = .ok (.invokevirtual 45, 3) := by decide +kernel
theorem dX6_advise_18 : decode cX6_advise 18 = .ok (.ireturn, 1) := by decide +kernel
theorem dX6_advise_19 : decode cX6_advise 19 = .ok (.iload_n 2, 1) := by decide +kernel
theorem dX6_advise_20 : decode cX6_advise 20 = .ok (.iconst 1, 1) := by decide +kernel
theorem dX6_advise_21 : decode cX6_advise 21 = .ok (.bipush 60, 2) := by decide +kernel
theorem dX6_advise_23 : decode cX6_advise 23 = .ok (.invokestatic 35, 3) := by decide +kernel
theorem dX6_advise_26 : decode cX6_advise 26 = .ok (.ifCond .ne 9, 3) := by decide +kernel
theorem dX6_advise_29 : decode cX6_advise 29 = .ok (.aload_n 0, 1) := by decide +kernel
theorem dX6_advise_30 : decode cX6_advise 30 = .ok (.iconst 2, 1) := by decide +kernel
theorem dX6_advise_31 : decode cX6_advise 31 = .ok (.invokevirtual 45, 3) := by decide +kernel
theorem dX6_advise_34 : decode cX6_advise 34 = .ok (.ireturn, 1) := by decide +kernel
theorem dX6_advise_35 : decode cX6_advise 35 = .ok (.aload_n 0, 1) := by decide +kernel
theorem dX6_advise_36 : decode cX6_advise 36 = .ok (.invokevirtual 154, 3) := by decide +kernel
theorem dX6_advise_39 : decode cX6_advise 39 = .ok (.astore_n 3, 1) := by decide +kernel
theorem dX6_advise_40 : decode cX6_advise 40 = .ok (.iconst (-1), 1) := by decide +kernel
theorem dX6_advise_41 : decode cX6_advise 41 = .ok (.istore 4, 2) := by decide +kernel
theorem dX6_advise_43 : decode cX6_advise 43 = .ok (.iconst (-1), 1) := by decide +kernel
theorem dX6_advise_44 : decode cX6_advise 44 = .ok (.istore 5, 2) := by decide +kernel
theorem dX6_advise_46 : decode cX6_advise 46 = .ok (.iconst (-1), 1) := by decide +kernel
theorem dX6_advise_47 : decode cX6_advise 47 = .ok (.istore 6, 2) := by decide +kernel
theorem dX6_advise_49 : decode cX6_advise 49 = .ok (.iload 6, 2) := by decide +kernel
theorem dX6_advise_51 : decode cX6_advise 51 = .ok (.aload_n 0, 1) := by decide +kernel
theorem dX6_advise_52 : decode cX6_advise 52 = .ok (.getfield 32, 3) := by decide +kernel
theorem dX6_advise_55 : decode cX6_advise 55 = .ok (.if_icmp .ge 47, 3) := by decide +kernel
theorem dX6_advise_58 : decode cX6_advise 58 = .ok (.aload_n 0, 1) := by decide +kernel
theorem dX6_advise_59 : decode cX6_advise 59 = .ok (.iload_n 1, 1) := by decide +kernel
theorem dX6_advise_60 : decode cX6_advise 60 = .ok (.iconst 1, 1) := by decide +kernel
theorem dX6_advise_61 : decode cX6_advise 61 = .ok (.iload 6, 2) := by decide +kernel
theorem dX6_advise_63 : decode cX6_advise 63 = .ok (.invokevirtual 67, 3) := by decide +kernel
theorem dX6_advise_66 : decode cX6_advise 66 = .ok (.aload_n 0, 1) := by decide +kernel
theorem dX6_advise_67 : decode cX6_advise 67 = .ok (.iload_n 2, 1) := by decide +kernel
theorem dX6_advise_68 : decode cX6_advise 68 = .ok (.invokevirtual 140, 3) := by decide +kernel
theorem dX6_advise_71 : decode cX6_advise 71 = .ok (.istore 7, 2) := by decide +kernel
theorem dX6_advise_73 : decode cX6_advise 73 = .ok (.aload_n 0, 1) := by decide +kernel
theorem dX6_advise_74 : decode cX6_advise 74 = .ok (.aload_n 3, 1) := by decide +kernel
theorem dX6_advise_75 : decode cX6_advise 75 = .ok (.invokevirtual 158, 3) := by decide +kernel
theorem dX6_advise_78 : decode cX6_advise 78 = .ok (.iload 7, 2) := by decide +kernel
theorem dX6_advise_80 : decode cX6_advise 80 = .ok (.iload 5, 2) := by decide +kernel
theorem dX6_advise_82 : decode cX6_advise 82 = .ok (.if_icmp .gt 6, 3) := by decide +kernel
theorem dX6_advise_85 : decode cX6_advise 85 = .ok (.goto 11, 3) := by decide +kernel
theorem dX6_advise_88 : decode cX6_advise 88 = .ok (.iload 6, 2) := by decide +kernel
theorem dX6_advise_90 : decode cX6_advise 90 = .ok (.istore 4, 2) := by decide +kernel
theorem dX6_advise_92 : decode cX6_advise 92 = .ok (.iload 7, 2) := by decide +kernel
theorem dX6_advise_94 : decode cX6_advise 94 = .ok (.istore 5, 2) := by decide +kernel
theorem dX6_advise_96 : decode cX6_advise 96 = .ok (.iinc 6 1, 3) := by decide +kernel
theorem dX6_advise_99 : decode cX6_advise 99 = .ok (.goto (-50), 3) := by decide +kernel
theorem dX6_advise_102 : decode cX6_advise 102 = .ok (.iload 4, 2) := by decide +kernel
theorem dX6_advise_104 : decode cX6_advise 104 = .ok (.ireturn, 1) := by decide +kernel
theorem dX6_luck_0 : decode cX6_luck 0 = .ok (.aload_n 0, 1) := by decide +kernel
theorem dX6_luck_1 : decode cX6_luck 1 = .ok (.iconst 0, 1) := by decide +kernel
theorem dX6_luck_2 : decode cX6_luck 2 = .ok (.putfield 28, 3) := by decide +kernel
theorem dX6_luck_5 : decode cX6_luck 5 = .ok (.iconst 0, 1) := by decide +kernel
theorem dX6_luck_6 : decode cX6_luck 6 = .ok (.istore_n 1, 1) := by decide +kernel
theorem dX6_luck_7 : decode cX6_luck 7 = .ok (.iconst 0, 1) := by decide +kernel
theorem dX6_luck_8 : decode cX6_luck 8 = .ok (.istore_n 2, 1) := by decide +kernel
theorem dX6_luck_9 : decode cX6_luck 9 = .ok (.iload_n 2, 1) := by decide +kernel
theorem dX6_luck_10 : decode cX6_luck 10 = .ok (.aload_n 0, 1) := by decide +kernel
theorem dX6_luck_11 : decode cX6_luck 11 = .ok (.getfield 32, 3) := by decide +kernel
theorem dX6_luck_14 : decode cX6_luck 14 = .ok (.if_icmp .ge 18, 3) := by decide +kernel
theorem dX6_luck_17 : decode cX6_luck 17 = .ok (.iload_n 1, 1) := by decide +kernel
theorem dX6_luck_18 : decode cX6_luck 18 = .ok (.aload_n 0, 1) := by decide +kernel
theorem dX6_luck_19 : decode cX6_luck 19 = .ok (.iload_n 2, 1) := by decide +kernel
theorem dX6_luck_20 : decode cX6_luck 20 = .ok (.iconst 4, 1) := by decide +kernel
theorem dX6_luck_21 : decode cX6_luck 21 = .ok (.invokevirtual 71, 3) := by decide +kernel
theorem dX6_luck_24 : decode cX6_luck 24 = .ok (.iadd, 1) := by decide +kernel
theorem dX6_luck_25 : decode cX6_luck 25 = .ok (.istore_n 1, 1) := by decide +kernel
theorem dX6_luck_26 : decode cX6_luck 26 = .ok (.iinc 2 1, 3) := by decide +kernel
theorem dX6_luck_29 : decode cX6_luck 29 = .ok (.goto (-20), 3) := by decide +kernel
theorem dX6_luck_32 : decode cX6_luck 32 = .ok (.iload_n 1, 1) := by decide +kernel
theorem dX6_luck_33 : decode cX6_luck 33 = .ok (.ifCond .ne 7, 3) := by decide +kernel
theorem dX6_luck_36 : decode cX6_luck 36 = .ok (.dconst 0, 1) := by decide +kernel
theorem dX6_luck_37 : decode cX6_luck 37 = .ok (.goto 13, 3) := by decide +kernel
theorem dX6_luck_40 : decode cX6_luck 40 = .ok (.aload_n 0, 1) := by decide +kernel
theorem dX6_luck_41 : decode cX6_luck 41 = .ok (.getfield 25, 3) := by decide +kernel
theorem dX6_luck_44 : decode cX6_luck 44 = .ok (.iconst 3, 1) := by decide +kernel
theorem dX6_luck_45 : decode cX6_luck 45 = .ok (.iaload, 1) := by decide +kernel
theorem dX6_luck_46 : decode cX6_luck 46 = .ok (.i2d, 1) := by decide +kernel
theorem dX6_luck_47 : decode cX6_luck 47 = .ok (.iload_n 1, 1) := by decide +kernel
theorem dX6_luck_48 : decode cX6_luck 48 = .ok (.i2d, 1) := by decide +kernel
theorem dX6_luck_49 : decode cX6_luck 49 = .ok (.ddiv, 1) := by decide +kernel
theorem dX6_luck_50 : decode cX6_luck 50 = .ok (.dreturn, 1) := by decide +kernel
theorem dX6_digest_0 : decode cX6_digest 0 = .ok (.aload_n 0, 1) := by decide +kernel
theorem dX6_digest_1 : decode cX6_digest 1 = .ok (.iconst 0, 1) := by decide +kernel
theorem dX6_digest_2 : decode cX6_digest 2 = .ok (.putfield 28, 3) := by decide +kernel
theorem dX6_digest_5 : decode cX6_digest 5 = .ok (.ldc2_w 162, 3) := by decide +kernel
theorem dX6_digest_8 : decode cX6_digest 8 = .ok (.lstore_n 1, 1) := by decide +kernel
theorem dX6_digest_9 : decode cX6_digest 9 = .ok (.iconst 0, 1) := by decide +kernel
theorem dX6_digest_10 : decode cX6_digest 10 = .ok (.istore_n 3, 1) := by decide +kernel
theorem dX6_digest_11 : decode cX6_digest 11 = .ok (.iload_n 3, 1) := by decide +kernel
theorem dX6_digest_12 : decode cX6_digest 12 = .ok (.bipush 11, 2) := by decide +kernel
theorem dX6_digest_14 : decode cX6_digest 14 = .ok (.if_icmp .ge 22, 3) := by decide +kernel
theorem dX6_digest_17 : decode cX6_digest 17 = .ok (.lload_n 1, 1) := by decide +kernel
theorem dX6_digest_18 : decode cX6_digest 18 = .ok (.ldc2_w 164, 3) := by decide +kernel
theorem dX6_digest_21 : decode cX6_digest 21 = .ok (.lmul, 1) := by decide +kernel
theorem dX6_digest_22 : decode cX6_digest 22 = .ok (.aload_n 0, 1) := by decide +kernel
theorem dX6_digest_23 : decode cX6_digest 23 = .ok (.iload_n 3, 1) := by decide +kernel
theorem dX6_digest_24 : decode cX6_digest 24 = .ok (.invokevirtual 146, 3) := by decide +kernel
theorem dX6_digest_27 : decode cX6_digest 27 = .ok (.i2l, 1) := by decide +kernel
theorem dX6_digest_28 : decode cX6_digest 28 = .ok (.ladd, 1) := by decide +kernel
theorem dX6_digest_29 : decode cX6_digest 29 = .ok (.lstore_n 1, 1) := by decide +kernel
theorem dX6_digest_30 : decode cX6_digest 30 = .ok (.iinc 3 1, 3) := by decide +kernel
theorem dX6_digest_33 : decode cX6_digest 33 = .ok (.goto (-22), 3) := by decide +kernel
theorem dX6_digest_36 : decode cX6_digest 36 = .ok (.iconst 0, 1) := by decide +kernel
theorem dX6_digest_37 : decode cX6_digest 37 = .ok (.istore_n 3, 1) := by decide +kernel
theorem dX6_digest_38 : decode cX6_digest 38 = .ok (.iload_n 3, 1) := by decide +kernel
theorem dX6_digest_39 : decode cX6_digest 39 = .ok (.aload_n 0, 1) := by decide +kernel
theorem dX6_digest_40 : decode cX6_digest 40 = .ok (.getfield 32, 3) := by decide +kernel
theorem dX6_digest_43 : decode cX6_digest 43 = .ok (.if_icmp .ge 74, 3) := by decide +kernel
theorem dX6_digest_46 : decode cX6_digest 46 = .ok (.iconst 0, 1) := by decide +kernel
theorem dX6_digest_47 : decode cX6_digest 47 = .ok (.istore 4, 2) := by decide +kernel
theorem dX6_digest_49 : decode cX6_digest 49 = .ok (.iload 4, 2) := by decide +kernel
theorem dX6_digest_51 : decode cX6_digest 51 = .ok (.bipush 10, 2) := by decide +kernel
theorem dX6_digest_53 : decode cX6_digest 53 = .ok (.if_icmp .ge 24, 3) := by decide +kernel
theorem dX6_digest_56 : decode cX6_digest 56 = .ok (.lload_n 1, 1) := by decide +kernel
theorem dX6_digest_57 : decode cX6_digest 57 = .ok (.ldc2_w 164, 3) := by decide +kernel
theorem dX6_digest_60 : decode cX6_digest 60 = .ok (.lmul, 1) := by decide +kernel
theorem dX6_digest_61 : decode cX6_digest 61 = .ok (.aload_n 0, 1) := by decide +kernel
theorem dX6_digest_62 : decode cX6_digest 62 = .ok (.iload_n 3, 1) := by decide +kernel
theorem dX6_digest_63 : decode cX6_digest 63 = .ok (.iload 4, 2) := by decide +kernel
theorem dX6_digest_65 : decode cX6_digest 65 = .ok (.invokevirtual 102, 3) := by decide +kernel
theorem dX6_digest_68 : decode cX6_digest 68 = .ok (.i2l, 1) := by decide +kernel
theorem dX6_digest_69 : decode cX6_digest 69 = .ok (.ladd, 1) := by decide +kernel
theorem dX6_digest_70 : decode cX6_digest 70 = .ok (.lstore_n 1, 1) := by decide +kernel
theorem dX6_digest_71 : decode cX6_digest 71 = .ok (.iinc 4 1, 3) := by decide +kernel
theorem dX6_digest_74 : decode cX6_digest 74 = .ok (.goto (-25), 3) := by decide +kernel
theorem dX6_digest_77 : decode cX6_digest 77 = .ok (.iconst 0, 1) := by decide +kernel
theorem dX6_digest_78 : decode cX6_digest 78 = .ok (.istore 4, 2) := by decide +kernel
theorem dX6_digest_80 : decode cX6_digest 80 = .ok (.iload 4, 2) := by decide +kernel
theorem dX6_digest_82 : decode cX6_digest 82 = .ok (.aload_n 0, 1) := by decide +kernel
theorem dX6_digest_83 : decode cX6_digest 83 = .ok (.iload_n 3, 1) := by decide +kernel
theorem dX6_digest_84 : decode cX6_digest 84 = .ok (.invokevirtual 99, 3) := by decide +kernel
theorem dX6_digest_87 : decode cX6_digest 87 = .ok (.if_icmp .ge 24, 3) := by decide +kernel
theorem dX6_digest_90 : decode cX6_digest 90 = .ok (.lload_n 1, 1) := by decide +kernel
theorem dX6_digest_91 : decode cX6_digest 91 = .ok (.ldc2_w 164, 3) := by decide +kernel
theorem dX6_digest_94 : decode cX6_digest 94 = .ok (.lmul, 1) := by decide +kernel
theorem dX6_digest_95 : decode cX6_digest 95 = .ok (.aload_n 0, 1) := by decide +kernel
theorem dX6_digest_96 : decode cX6_digest 96 = .ok (.iload_n 3, 1) := by decide +kernel
theorem dX6_digest_97 : decode cX6_digest 97 = .ok (.iload 4, 2) := by decide +kernel
theorem dX6_digest_99 : decode cX6_digest 99 = .ok (.invokevirtual 105, 3) := by decide +kernel
theorem dX6_digest_102 : decode cX6_digest 102 = .ok (.i2l, 1) := by decide +kernel
theorem dX6_digest_103 : decode cX6_digest 103 = .ok (.ladd, 1) := by decide +kernel
theorem dX6_digest_104 : decode cX6_digest 104 = .ok (.lstore_n 1, 1) := by decide +kernel
theorem dX6_digest_105 : decode cX6_digest 105 = .ok (.iinc 4 1, 3) := by decide +kernel
theorem dX6_digest_108 : decode cX6_digest 108 = .ok (.goto (-28), 3) := by decide +kernel
theorem dX6_digest_111 : decode cX6_digest 111 = .ok (.iinc 3 1, 3) := by decide +kernel
theorem dX6_digest_114 : decode cX6_digest 114 = .ok (.goto (-76), 3) := by decide +kernel
theorem dX6_digest_117 : decode cX6_digest 117 = .ok (.iconst 0, 1) := by decide +kernel
theorem dX6_digest_118 : decode cX6_digest 118 = .ok (.istore_n 3, 1) := by decide +kernel
theorem dX6_digest_119 : decode cX6_digest 119 = .ok (.iload_n 3, 1) := by decide +kernel
theorem dX6_digest_120 : decode cX6_digest 120 = .ok (.aload_n 0, 1) := by decide +kernel
theorem dX6_digest_121 : decode cX6_digest 121 = .ok (.getfield 39, 3) := by decide +kernel
theorem dX6_digest_124 : decode cX6_digest 124 = .ok (.if_icmp .ge 39, 3) := by decide +kernel
theorem dX6_digest_127 : decode cX6_digest 127 = .ok (.iconst 0, 1) := by decide +kernel
theorem dX6_digest_128 : decode cX6_digest 128 = .ok (.istore 4, 2) := by decide +kernel
theorem dX6_digest_130 : decode cX6_digest 130 = .ok (.iload 4, 2) := by decide +kernel
theorem dX6_digest_132 : decode cX6_digest 132 = .ok (.iconst 3, 1) := by decide +kernel
theorem dX6_digest_133 : decode cX6_digest 133 = .ok (.if_icmp .ge 24, 3) := by decide +kernel
theorem dX6_digest_136 : decode cX6_digest 136 = .ok (.lload_n 1, 1) := by decide +kernel
theorem dX6_digest_137 : decode cX6_digest 137 = .ok (.ldc2_w 164, 3) := by decide +kernel
theorem dX6_digest_140 : decode cX6_digest 140 = .ok (.lmul, 1) := by decide +kernel
theorem dX6_digest_141 : decode cX6_digest 141 = .ok (.aload_n 0, 1) := by decide +kernel
theorem dX6_digest_142 : decode cX6_digest 142 = .ok (.iload_n 3, 1) := by decide +kernel
theorem dX6_digest_143 : decode cX6_digest 143 = .ok (.iload 4, 2) := by decide +kernel
theorem dX6_digest_145 : decode cX6_digest 145 = .ok (.invokevirtual 63, 3) := by decide +kernel
theorem dX6_digest_148 : decode cX6_digest 148 = .ok (.i2l, 1) := by decide +kernel
theorem dX6_digest_149 : decode cX6_digest 149 = .ok (.ladd, 1) := by decide +kernel
theorem dX6_digest_150 : decode cX6_digest 150 = .ok (.lstore_n 1, 1) := by decide +kernel
theorem dX6_digest_151 : decode cX6_digest 151 = .ok (.iinc 4 1, 3) := by decide +kernel
theorem dX6_digest_154 : decode cX6_digest 154 = .ok (.goto (-24), 3) := by decide +kernel
theorem dX6_digest_157 : decode cX6_digest 157 = .ok (.iinc 3 1, 3) := by decide +kernel
theorem dX6_digest_160 : decode cX6_digest 160 = .ok (.goto (-41), 3) := by decide +kernel
theorem dX6_digest_163 : decode cX6_digest 163 = .ok (.iconst 0, 1) := by decide +kernel
theorem dX6_digest_164 : decode cX6_digest 164 = .ok (.istore_n 3, 1) := by decide +kernel
theorem dX6_digest_165 : decode cX6_digest 165 = .ok (.iload_n 3, 1) := by decide +kernel
theorem dX6_digest_166 : decode cX6_digest 166 = .ok (.aload_n 0, 1) := by decide +kernel
theorem dX6_digest_167 : decode cX6_digest 167 = .ok (.getfield 42, 3) := by decide +kernel
theorem dX6_digest_170 : decode cX6_digest 170 = .ok (.if_icmp .ge 78, 3) := by decide +kernel
theorem dX6_digest_173 : decode cX6_digest 173 = .ok (.iconst 0, 1) := by decide +kernel
theorem dX6_digest_174 : decode cX6_digest 174 = .ok (.istore 4, 2) := by decide +kernel
theorem dX6_digest_176 : decode cX6_digest 176 = .ok (.iload 4, 2) := by decide +kernel
theorem dX6_digest_178 : decode cX6_digest 178 = .ok (.bipush 8, 2) := by decide +kernel
theorem dX6_digest_180 : decode cX6_digest 180 = .ok (.if_icmp .ge 24, 3) := by decide +kernel
theorem dX6_digest_183 : decode cX6_digest 183 = .ok (.lload_n 1, 1) := by decide +kernel
theorem dX6_digest_184 : decode cX6_digest 184 = .ok (.ldc2_w 164, 3) := by decide +kernel
theorem dX6_digest_187 : decode cX6_digest 187 = .ok (.lmul, 1) := by decide +kernel
theorem dX6_digest_188 : decode cX6_digest 188 = .ok (.aload_n 0, 1) := by decide +kernel
theorem dX6_digest_189 : decode cX6_digest 189 = .ok (.iload_n 3, 1) := by decide +kernel
theorem dX6_digest_190 : decode cX6_digest 190 = .ok (.iload 4, 2) := by decide +kernel
theorem dX6_digest_192 : decode cX6_digest 192 = .ok (.invokevirtual 108, 3) := by decide +kernel
theorem dX6_digest_195 : decode cX6_digest 195 = .ok (.i2l, 1) := by decide +kernel
theorem dX6_digest_196 : decode cX6_digest 196 = .ok (.ladd, 1) := by decide +kernel
theorem dX6_digest_197 : decode cX6_digest 197 = .ok (.lstore_n 1, 1) := by decide +kernel
theorem dX6_digest_198 : decode cX6_digest 198 = .ok (.iinc 4 1, 3) := by decide +kernel
theorem dX6_digest_201 : decode cX6_digest 201 = .ok (.goto (-25), 3) := by decide +kernel
theorem dX6_digest_204 : decode cX6_digest 204 = .ok (.iconst 0, 1) := by decide +kernel
theorem dX6_digest_205 : decode cX6_digest 205 = .ok (.istore 4, 2) := by decide +kernel
theorem dX6_digest_207 : decode cX6_digest 207 = .ok (.iload 4, 2) := by decide +kernel
theorem dX6_digest_209 : decode cX6_digest 209 = .ok (.aload_n 0, 1) := by decide +kernel
theorem dX6_digest_210 : decode cX6_digest 210 = .ok (.getfield 32, 3) := by decide +kernel
theorem dX6_digest_213 : decode cX6_digest 213 = .ok (.if_icmp .ge 29, 3) := by decide +kernel
theorem dX6_digest_216 : decode cX6_digest 216 = .ok (.lload_n 1, 1) := by decide +kernel
theorem dX6_digest_217 : decode cX6_digest 217 = .ok (.ldc2_w 164, 3) := by decide +kernel
theorem dX6_digest_220 : decode cX6_digest 220 = .ok (.lmul, 1) := by decide +kernel
theorem dX6_digest_221 : decode cX6_digest 221 = .ok (.aload_n 0, 1) := by decide +kernel
theorem dX6_digest_222 : decode cX6_digest 222 = .ok (.getfield 19, 3) := by decide +kernel
theorem dX6_digest_225 : decode cX6_digest 225 = .ok (.bipush 8, 2) := by decide +kernel
theorem dX6_digest_227 : decode cX6_digest 227 = .ok (.iload_n 3, 1) := by decide +kernel
theorem dX6_digest_228 : decode cX6_digest 228 = .ok (.imul, 1) := by decide +kernel
theorem dX6_digest_229 : decode cX6_digest 229 = .ok (.iload 4, 2) := by decide +kernel
theorem dX6_digest_231 : decode cX6_digest 231 = .ok (.iadd, 1) := by decide +kernel
theorem dX6_digest_232 : decode cX6_digest 232 = .ok (.iaload, 1) := by decide +kernel
theorem dX6_digest_233 : decode cX6_digest 233 = .ok (.i2l, 1) := by decide +kernel
theorem dX6_digest_234 : decode cX6_digest 234 = .ok (.ladd, 1) := by decide +kernel
theorem dX6_digest_235 : decode cX6_digest 235 = .ok (.lstore_n 1, 1) := by decide +kernel
theorem dX6_digest_236 : decode cX6_digest 236 = .ok (.iinc 4 1, 3) := by decide +kernel
theorem dX6_digest_239 : decode cX6_digest 239 = .ok (.goto (-32), 3) := by decide +kernel
theorem dX6_digest_242 : decode cX6_digest 242 = .ok (.iinc 3 1, 3) := by decide +kernel
theorem dX6_digest_245 : decode cX6_digest 245 = .ok (.goto (-80), 3) := by decide +kernel
theorem dX6_digest_248 : decode cX6_digest 248 = .ok (.iconst 0, 1) := by decide +kernel
theorem dX6_digest_249 : decode cX6_digest 249 = .ok (.istore_n 3, 1) := by decide +kernel
theorem dX6_digest_250 : decode cX6_digest 250 = .ok (.iload_n 3, 1) := by decide +kernel
theorem dX6_digest_251 : decode cX6_digest 251 = .ok (.iconst 3, 1) := by decide +kernel
theorem dX6_digest_252 : decode cX6_digest 252 = .ok (.aload_n 0, 1) := by decide +kernel
theorem dX6_digest_253 : decode cX6_digest 253 = .ok (.getfield 25, 3) := by decide +kernel
theorem dX6_digest_256 : decode cX6_digest 256 = .ok (.iconst 4, 1) := by decide +kernel
theorem dX6_digest_257 : decode cX6_digest 257 = .ok (.iaload, 1) := by decide +kernel
theorem dX6_digest_258 : decode cX6_digest 258 = .ok (.imul, 1) := by decide +kernel
theorem dX6_digest_259 : decode cX6_digest 259 = .ok (.if_icmp .ge 23, 3) := by decide +kernel
theorem dX6_digest_262 : decode cX6_digest 262 = .ok (.lload_n 1, 1) := by decide +kernel
theorem dX6_digest_263 : decode cX6_digest 263 = .ok (.ldc2_w 164, 3) := by decide +kernel
theorem dX6_digest_266 : decode cX6_digest 266 = .ok (.lmul, 1) := by decide +kernel
theorem dX6_digest_267 : decode cX6_digest 267 = .ok (.aload_n 0, 1) := by decide +kernel
theorem dX6_digest_268 : decode cX6_digest 268 = .ok (.getfield 22, 3) := by decide +kernel
theorem dX6_digest_271 : decode cX6_digest 271 = .ok (.iload_n 3, 1) := by decide +kernel
theorem dX6_digest_272 : decode cX6_digest 272 = .ok (.iaload, 1) := by decide +kernel
theorem dX6_digest_273 : decode cX6_digest 273 = .ok (.i2l, 1) := by decide +kernel
theorem dX6_digest_274 : decode cX6_digest 274 = .ok (.ladd, 1) := by decide +kernel
theorem dX6_digest_275 : decode cX6_digest 275 = .ok (.lstore_n 1, 1) := by decide +kernel
theorem dX6_digest_276 : decode cX6_digest 276 = .ok (.iinc 3 1, 3) := by decide +kernel
theorem dX6_digest_279 : decode cX6_digest 279 = .ok (.goto (-29), 3) := by decide +kernel
theorem dX6_digest_282 : decode cX6_digest 282 = .ok (.lload_n 1, 1) := by decide +kernel
theorem dX6_digest_283 : decode cX6_digest 283 = .ok (.lreturn, 1) := by decide +kernel
theorem dJ9_max_7cf53_0 : decode cJ9_max_7cf53 0 = .ok (.iload_n 0, 1) := by decide +kernel
theorem dJ9_max_7cf53_1 : decode cJ9_max_7cf53 1 = .ok (.iload_n 1, 1) := by decide +kernel
theorem dJ9_max_7cf53_2 : decode cJ9_max_7cf53 2 = .ok (.if_icmp .lt 7, 3) := by decide +kernel
theorem dJ9_max_7cf53_5 : decode cJ9_max_7cf53 5 = .ok (.iload_n 0, 1) := by decide +kernel
theorem dJ9_max_7cf53_6 : decode cJ9_max_7cf53 6 = .ok (.goto 4, 3) := by decide +kernel
theorem dJ9_max_7cf53_9 : decode cJ9_max_7cf53 9 = .ok (.iload_n 1, 1) := by decide +kernel
theorem dJ9_max_7cf53_10 : decode cJ9_max_7cf53 10 = .ok (.ireturn, 1) := by decide +kernel
theorem dJ9_min_7cf53_0 : decode cJ9_min_7cf53 0 = .ok (.iload_n 0, 1) := by decide +kernel
theorem dJ9_min_7cf53_1 : decode cJ9_min_7cf53 1 = .ok (.iload_n 1, 1) := by decide +kernel
theorem dJ9_min_7cf53_2 : decode cJ9_min_7cf53 2 = .ok (.if_icmp .gt 7, 3) := by decide +kernel
theorem dJ9_min_7cf53_5 : decode cJ9_min_7cf53 5 = .ok (.iload_n 0, 1) := by decide +kernel
theorem dJ9_min_7cf53_6 : decode cJ9_min_7cf53 6 = .ok (.goto 4, 3) := by decide +kernel
theorem dJ9_min_7cf53_9 : decode cJ9_min_7cf53 9 = .ok (.iload_n 1, 1) := by decide +kernel
theorem dJ9_min_7cf53_10 : decode cJ9_min_7cf53 10 = .ok (.ireturn, 1) := by decide +kernel
theorem dL_addBooth_0 : decode cL_addBooth 0 = .ok (.aload 5, 2) := by decide +kernel
theorem dL_addBooth_2 : decode cL_addBooth 2 = .ok (.iconst 0, 1) := by decide +kernel
theorem dL_addBooth_3 : decode cL_addBooth 3 = .ok (.aload_n 0, 1) := by decide +kernel
theorem dL_addBooth_4 : decode cL_addBooth 4 = .ok (.iload_n 1, 1) := by decide +kernel
theorem dL_addBooth_5 : decode cL_addBooth 5 = .ok (.iload_n 2, 1) := by decide +kernel
theorem dL_addBooth_6 : decode cL_addBooth 6 = .ok (.iload_n 3, 1) := by decide +kernel
theorem dL_addBooth_7 : decode cL_addBooth 7 = .ok (.iload 4, 2) := by decide +kernel
theorem dL_addBooth_9 : decode cL_addBooth 9 = .ok (.invokevirtual 7, 3) := by decide +kernel
theorem dL_addBooth_12 : decode cL_addBooth 12 = .ok (.i2l, 1) := by decide +kernel
theorem dL_addBooth_13 : decode cL_addBooth 13 = .ok (.lastore, 1) := by decide +kernel
theorem dL_addBooth_14 : decode cL_addBooth 14 = .ok (.goto 11, 3) := by decide +kernel
theorem dL_addBooth_17 : decode cL_addBooth 17 = .ok (.astore 6, 2) := by decide +kernel
theorem dL_addBooth_19 : decode cL_addBooth 19 = .ok (.iconst 1, 1) := by decide +kernel
theorem dL_addBooth_20 : decode cL_addBooth 20 = .ok (.ireturn, 1) := by decide +kernel
theorem dL_addBooth_21 : decode cL_addBooth 21 = .ok (.astore 6, 2) := by decide +kernel
theorem dL_addBooth_23 : decode cL_addBooth 23 = .ok (.iconst 2, 1) := by decide +kernel
theorem dL_addBooth_24 : decode cL_addBooth 24 = .ok (.ireturn, 1) := by decide +kernel
theorem dL_addBooth_25 : decode cL_addBooth 25 = .ok (.iconst 0, 1) := by decide +kernel
theorem dL_addBooth_26 : decode cL_addBooth 26 = .ok (.ireturn, 1) := by decide +kernel
theorem dL_addHelper_0 : decode cL_addHelper 0 = .ok (.aload_n 1, 1) := by decide +kernel
theorem dL_addHelper_1 : decode cL_addHelper 1 = .ok (.iconst 0, 1) := by decide +kernel
theorem dL_addHelper_2 : decode cL_addHelper 2 = .ok (.aload_n 0, 1) := by decide +kernel
theorem dL_addHelper_3 : decode cL_addHelper 3 = .ok (.invokevirtual 17, 3) := by decide +kernel
theorem dL_addHelper_6 : decode cL_addHelper 6 = .ok (.i2l, 1) := by decide +kernel
theorem dL_addHelper_7 : decode cL_addHelper 7 = .ok (.lastore, 1) := by decide +kernel
theorem dL_addHelper_8 : decode cL_addHelper 8 = .ok (.goto 6, 3) := by decide +kernel
theorem dL_addHelper_11 : decode cL_addHelper 11 = .ok (.astore_n 2, 1) := by decide +kernel
theorem dL_addHelper_12 : decode cL_addHelper 12 = .ok (.iconst 1, 1) := by decide +kernel
theorem dL_addHelper_13 : decode cL_addHelper 13 = .ok (.ireturn, 1) := by decide +kernel
theorem dL_addHelper_14 : decode cL_addHelper 14 = .ok (.iconst 0, 1) := by decide +kernel
theorem dL_addHelper_15 : decode cL_addHelper 15 = .ok (.ireturn, 1) := by decide +kernel
theorem dL_come_0 : decode cL_come 0 = .ok (.aload_n 3, 1) := by decide +kernel
theorem dL_come_1 : decode cL_come 1 = .ok (.iconst 0, 1) := by decide +kernel
theorem dL_come_2 : decode cL_come 2 = .ok (.aload_n 0, 1) := by decide +kernel
theorem dL_come_3 : decode cL_come 3 = .ok (.iload_n 1, 1) := by decide +kernel
theorem dL_come_4 : decode cL_come 4 = .ok (.iload_n 2, 1) := by decide +kernel
theorem dL_come_5 : decode cL_come 5 = .ok (.invokevirtual 21, 3) := by decide +kernel
theorem dL_come_8 : decode cL_come 8 = .ok (.i2l, 1) := by decide +kernel
theorem dL_come_9 : decode cL_come 9 = .ok (.lastore, 1) := by decide +kernel
theorem dL_come_10 : decode cL_come 10 = .ok (.goto 11, 3) := by decide +kernel
theorem dL_come_13 : decode cL_come 13 = .ok (.astore 4, 2) := by decide +kernel
theorem dL_come_15 : decode cL_come 15 = .ok (.iconst 1, 1) := by decide +kernel
theorem dL_come_16 : decode cL_come 16 = .ok (.ireturn, 1) := by decide +kernel
theorem dL_come_17 : decode cL_come 17 = .ok (.astore 4, 2) := by decide +kernel
theorem dL_come_19 : decode cL_come 19 = .ok (.iconst 2, 1) := by decide +kernel
theorem dL_come_20 : decode cL_come 20 = .ok (.ireturn, 1) := by decide +kernel
theorem dL_come_21 : decode cL_come 21 = .ok (.iconst 0, 1) := by decide +kernel
theorem dL_come_22 : decode cL_come 22 = .ok (.ireturn, 1) := by decide +kernel
theorem dL_setDart_0 : decode cL_setDart 0 = .ok (.aload_n 2, 1) := by decide +kernel
theorem dL_setDart_1 : decode cL_setDart 1 = .ok (.iconst 0, 1) := by decide +kernel
theorem dL_setDart_2 : decode cL_setDart 2 = .ok (.aload_n 0, 1) := by decide +kernel
theorem dL_setDart_3 : decode cL_setDart 3 = .ok (.iload_n 1, 1) := by decide +kernel
theorem dL_setDart_4 : decode cL_setDart 4 = .ok (.invokevirtual 25, 3) := by decide +kernel
theorem dL_setDart_7 : decode cL_setDart 7 = .ok (.i2l, 1) := by decide +kernel
theorem dL_setDart_8 : decode cL_setDart 8 = .ok (.lastore, 1) := by decide +kernel
theorem dL_setDart_9 : decode cL_setDart 9 = .ok (.goto 6, 3) := by decide +kernel
theorem dL_setDart_12 : decode cL_setDart 12 = .ok (.astore_n 3, 1) := by decide +kernel
theorem dL_setDart_13 : decode cL_setDart 13 = .ok (.iconst 1, 1) := by decide +kernel
theorem dL_setDart_14 : decode cL_setDart 14 = .ok (.ireturn, 1) := by decide +kernel
theorem dL_setDart_15 : decode cL_setDart 15 = .ok (.iconst 0, 1) := by decide +kernel
theorem dL_setDart_16 : decode cL_setDart 16 = .ok (.ireturn, 1) := by decide +kernel
theorem dL_work_0 : decode cL_work 0 = .ok (.aload_n 3, 1) := by decide +kernel
theorem dL_work_1 : decode cL_work 1 = .ok (.iconst 0, 1) := by decide +kernel
theorem dL_work_2 : decode cL_work 2 = .ok (.aload_n 0, 1) := by decide +kernel
theorem dL_work_3 : decode cL_work 3 = .ok (.iload_n 1, 1) := by decide +kernel
theorem dL_work_4 : decode cL_work 4 = .ok (.iload_n 2, 1) := by decide +kernel
theorem dL_work_5 : decode cL_work 5 = .ok (.invokevirtual 29, 3) := by decide +kernel
theorem dL_work_8 : decode cL_work 8 = .ok (.i2l, 1) := by decide +kernel
theorem dL_work_9 : decode cL_work 9 = .ok (.lastore, 1) := by decide +kernel
theorem dL_work_10 : decode cL_work 10 = .ok (.goto 7, 3) := by decide +kernel
theorem dL_work_13 : decode cL_work 13 = .ok (.astore 4, 2) := by decide +kernel
theorem dL_work_15 : decode cL_work 15 = .ok (.iconst 1, 1) := by decide +kernel
theorem dL_work_16 : decode cL_work 16 = .ok (.ireturn, 1) := by decide +kernel
theorem dL_work_17 : decode cL_work 17 = .ok (.iconst 0, 1) := by decide +kernel
theorem dL_work_18 : decode cL_work 18 = .ok (.ireturn, 1) := by decide +kernel
theorem dL_bring_0 : decode cL_bring 0 = .ok (.aload_n 3, 1) := by decide +kernel
theorem dL_bring_1 : decode cL_bring 1 = .ok (.iconst 0, 1) := by decide +kernel
theorem dL_bring_2 : decode cL_bring 2 = .ok (.aload_n 0, 1) := by decide +kernel
theorem dL_bring_3 : decode cL_bring 3 = .ok (.iload_n 1, 1) := by decide +kernel
theorem dL_bring_4 : decode cL_bring 4 = .ok (.iload_n 2, 1) := by decide +kernel
theorem dL_bring_5 : decode cL_bring 5 = .ok (.invokevirtual 34, 3) := by decide +kernel
theorem dL_bring_8 : decode cL_bring 8 = .ok (.i2l, 1) := by decide +kernel
theorem dL_bring_9 : decode cL_bring 9 = .ok (.lastore, 1) := by decide +kernel
theorem dL_bring_10 : decode cL_bring 10 = .ok (.goto 15, 3) := by decide +kernel
theorem dL_bring_13 : decode cL_bring 13 = .ok (.astore 4, 2) := by decide +kernel
theorem dL_bring_15 : decode cL_bring 15 = .ok (.iconst 1, 1) := by decide +kernel
theorem dL_bring_16 : decode cL_bring 16 = .ok (.ireturn, 1) := by decide +kernel
theorem dL_bring_17 : decode cL_bring 17 = .ok (.astore 4, 2) := by decide +kernel
theorem dL_bring_19 : decode cL_bring 19 = .ok (.iconst 2, 1) := by decide +kernel
theorem dL_bring_20 : decode cL_bring 20 = .ok (.ireturn, 1) := by decide +kernel
theorem dL_bring_21 : decode cL_bring 21 = .ok (.astore 4, 2) := by decide +kernel
theorem dL_bring_23 : decode cL_bring 23 = .ok (.iconst 3, 1) := by decide +kernel
theorem dL_bring_24 : decode cL_bring 24 = .ok (.ireturn, 1) := by decide +kernel
theorem dL_bring_25 : decode cL_bring 25 = .ok (.iconst 0, 1) := by decide +kernel
theorem dL_bring_26 : decode cL_bring 26 = .ok (.ireturn, 1) := by decide +kernel
theorem dL_sell_0 : decode cL_sell 0 = .ok (.aload_n 3, 1) := by decide +kernel
theorem dL_sell_1 : decode cL_sell 1 = .ok (.iconst 0, 1) := by decide +kernel
theorem dL_sell_2 : decode cL_sell 2 = .ok (.aload_n 0, 1) := by decide +kernel
theorem dL_sell_3 : decode cL_sell 3 = .ok (.iload_n 1, 1) := by decide +kernel
theorem dL_sell_4 : decode cL_sell 4 = .ok (.iload_n 2, 1) := by decide +kernel
theorem dL_sell_5 : decode cL_sell 5 = .ok (.invokevirtual 37, 3) := by decide +kernel
theorem dL_sell_8 : decode cL_sell 8 = .ok (.i2l, 1) := by decide +kernel
theorem dL_sell_9 : decode cL_sell 9 = .ok (.lastore, 1) := by decide +kernel
theorem dL_sell_10 : decode cL_sell 10 = .ok (.goto 11, 3) := by decide +kernel
theorem dL_sell_13 : decode cL_sell 13 = .ok (.astore 4, 2) := by decide +kernel
theorem dL_sell_15 : decode cL_sell 15 = .ok (.iconst 1, 1) := by decide +kernel
theorem dL_sell_16 : decode cL_sell 16 = .ok (.ireturn, 1) := by decide +kernel
theorem dL_sell_17 : decode cL_sell 17 = .ok (.astore 4, 2) := by decide +kernel
theorem dL_sell_19 : decode cL_sell 19 = .ok (.iconst 2, 1) := by decide +kernel
theorem dL_sell_20 : decode cL_sell 20 = .ok (.ireturn, 1) := by decide +kernel
theorem dL_sell_21 : decode cL_sell 21 = .ok (.iconst 0, 1) := by decide +kernel
theorem dL_sell_22 : decode cL_sell 22 = .ok (.ireturn, 1) := by decide +kernel
theorem dL_leave_0 : decode cL_leave 0 = .ok (.aload_n 2, 1) := by decide +kernel
theorem dL_leave_1 : decode cL_leave 1 = .ok (.iconst 0, 1) := by decide +kernel
theorem dL_leave_2 : decode cL_leave 2 = .ok (.aload_n 0, 1) := by decide +kernel
theorem dL_leave_3 : decode cL_leave 3 = .ok (.iload_n 1, 1) := by decide +kernel
theorem dL_leave_4 : decode cL_leave 4 = .ok (.invokevirtual 40, 3) := by decide +kernel
theorem dL_leave_7 : decode cL_leave 7 = .ok (.i2l, 1) := by decide +kernel
theorem dL_leave_8 : decode cL_leave 8 = .ok (.lastore, 1) := by decide +kernel
theorem dL_leave_9 : decode cL_leave 9 = .ok (.goto 6, 3) := by decide +kernel
theorem dL_leave_12 : decode cL_leave 12 = .ok (.astore_n 3, 1) := by decide +kernel
theorem dL_leave_13 : decode cL_leave 13 = .ok (.iconst 1, 1) := by decide +kernel
theorem dL_leave_14 : decode cL_leave 14 = .ok (.ireturn, 1) := by decide +kernel
theorem dL_leave_15 : decode cL_leave 15 = .ok (.iconst 0, 1) := by decide +kernel
theorem dL_leave_16 : decode cL_leave 16 = .ok (.ireturn, 1) := by decide +kernel
theorem dL_booth_0 : decode cL_booth 0 = .ok (.aload_n 3, 1) := by decide +kernel
theorem dL_booth_1 : decode cL_booth 1 = .ok (.iconst 0, 1) := by decide +kernel
theorem dL_booth_2 : decode cL_booth 2 = .ok (.aload_n 0, 1) := by decide +kernel
theorem dL_booth_3 : decode cL_booth 3 = .ok (.iload_n 1, 1) := by decide +kernel
theorem dL_booth_4 : decode cL_booth 4 = .ok (.iload_n 2, 1) := by decide +kernel
theorem dL_booth_5 : decode cL_booth 5 = .ok (.invokevirtual 43, 3) := by decide +kernel
theorem dL_booth_8 : decode cL_booth 8 = .ok (.i2l, 1) := by decide +kernel
theorem dL_booth_9 : decode cL_booth 9 = .ok (.lastore, 1) := by decide +kernel
theorem dL_booth_10 : decode cL_booth 10 = .ok (.goto 7, 3) := by decide +kernel
theorem dL_booth_13 : decode cL_booth 13 = .ok (.astore 4, 2) := by decide +kernel
theorem dL_booth_15 : decode cL_booth 15 = .ok (.iconst 1, 1) := by decide +kernel
theorem dL_booth_16 : decode cL_booth 16 = .ok (.ireturn, 1) := by decide +kernel
theorem dL_booth_17 : decode cL_booth 17 = .ok (.iconst 0, 1) := by decide +kernel
theorem dL_booth_18 : decode cL_booth 18 = .ok (.ireturn, 1) := by decide +kernel
theorem dL_queue_0 : decode cL_queue 0 = .ok (.aload_n 3, 1) := by decide +kernel
theorem dL_queue_1 : decode cL_queue 1 = .ok (.iconst 0, 1) := by decide +kernel
theorem dL_queue_2 : decode cL_queue 2 = .ok (.aload_n 0, 1) := by decide +kernel
theorem dL_queue_3 : decode cL_queue 3 = .ok (.iload_n 1, 1) := by decide +kernel
theorem dL_queue_4 : decode cL_queue 4 = .ok (.iload_n 2, 1) := by decide +kernel
theorem dL_queue_5 : decode cL_queue 5 = .ok (.invokevirtual 46, 3) := by decide +kernel
theorem dL_queue_8 : decode cL_queue 8 = .ok (.i2l, 1) := by decide +kernel
theorem dL_queue_9 : decode cL_queue 9 = .ok (.lastore, 1) := by decide +kernel
theorem dL_queue_10 : decode cL_queue 10 = .ok (.goto 7, 3) := by decide +kernel
theorem dL_queue_13 : decode cL_queue 13 = .ok (.astore 4, 2) := by decide +kernel
theorem dL_queue_15 : decode cL_queue 15 = .ok (.iconst 1, 1) := by decide +kernel
theorem dL_queue_16 : decode cL_queue 16 = .ok (.ireturn, 1) := by decide +kernel
theorem dL_queue_17 : decode cL_queue 17 = .ok (.iconst 0, 1) := by decide +kernel
theorem dL_queue_18 : decode cL_queue 18 = .ok (.ireturn, 1) := by decide +kernel
theorem dL_helper_0 : decode cL_helper 0 = .ok (.aload_n 3, 1) := by decide +kernel
theorem dL_helper_1 : decode cL_helper 1 = .ok (.iconst 0, 1) := by decide +kernel
theorem dL_helper_2 : decode cL_helper 2 = .ok (.aload_n 0, 1) := by decide +kernel
theorem dL_helper_3 : decode cL_helper 3 = .ok (.iload_n 1, 1) := by decide +kernel
theorem dL_helper_4 : decode cL_helper 4 = .ok (.iload_n 2, 1) := by decide +kernel
theorem dL_helper_5 : decode cL_helper 5 = .ok (.invokevirtual 49, 3) := by decide +kernel
theorem dL_helper_8 : decode cL_helper 8 = .ok (.i2l, 1) := by decide +kernel
theorem dL_helper_9 : decode cL_helper 9 = .ok (.lastore, 1) := by decide +kernel
theorem dL_helper_10 : decode cL_helper 10 = .ok (.goto 7, 3) := by decide +kernel
theorem dL_helper_13 : decode cL_helper 13 = .ok (.astore 4, 2) := by decide +kernel
theorem dL_helper_15 : decode cL_helper 15 = .ok (.iconst 1, 1) := by decide +kernel
theorem dL_helper_16 : decode cL_helper 16 = .ok (.ireturn, 1) := by decide +kernel
theorem dL_helper_17 : decode cL_helper 17 = .ok (.iconst 0, 1) := by decide +kernel
theorem dL_helper_18 : decode cL_helper 18 = .ok (.ireturn, 1) := by decide +kernel
theorem dL_visitor_0 : decode cL_visitor 0 = .ok (.aload_n 3, 1) := by decide +kernel
theorem dL_visitor_1 : decode cL_visitor 1 = .ok (.iconst 0, 1) := by decide +kernel
theorem dL_visitor_2 : decode cL_visitor 2 = .ok (.aload_n 0, 1) := by decide +kernel
theorem dL_visitor_3 : decode cL_visitor 3 = .ok (.iload_n 1, 1) := by decide +kernel
theorem dL_visitor_4 : decode cL_visitor 4 = .ok (.iload_n 2, 1) := by decide +kernel
theorem dL_visitor_5 : decode cL_visitor 5 = .ok (.invokevirtual 52, 3) := by decide +kernel
theorem dL_visitor_8 : decode cL_visitor 8 = .ok (.i2l, 1) := by decide +kernel
theorem dL_visitor_9 : decode cL_visitor 9 = .ok (.lastore, 1) := by decide +kernel
theorem dL_visitor_10 : decode cL_visitor 10 = .ok (.goto 7, 3) := by decide +kernel
theorem dL_visitor_13 : decode cL_visitor 13 = .ok (.astore 4, 2) := by decide +kernel
theorem dL_visitor_15 : decode cL_visitor 15 = .ok (.iconst 1, 1) := by decide +kernel
theorem dL_visitor_16 : decode cL_visitor 16 = .ok (.ireturn, 1) := by decide +kernel
theorem dL_visitor_17 : decode cL_visitor 17 = .ok (.iconst 0, 1) := by decide +kernel
theorem dL_visitor_18 : decode cL_visitor 18 = .ok (.ireturn, 1) := by decide +kernel
theorem dL_practice_0 : decode cL_practice 0 = .ok (.aload_n 3, 1) := by decide +kernel
theorem dL_practice_1 : decode cL_practice 1 = .ok (.iconst 0, 1) := by decide +kernel
theorem dL_practice_2 : decode cL_practice 2 = .ok (.aload_n 0, 1) := by decide +kernel
theorem dL_practice_3 : decode cL_practice 3 = .ok (.iload_n 1, 1) := by decide +kernel
theorem dL_practice_4 : decode cL_practice 4 = .ok (.iload_n 2, 1) := by decide +kernel
theorem dL_practice_5 : decode cL_practice 5 = .ok (.invokevirtual 55, 3) := by decide +kernel
theorem dL_practice_8 : decode cL_practice 8 = .ok (.i2l, 1) := by decide +kernel
theorem dL_practice_9 : decode cL_practice 9 = .ok (.lastore, 1) := by decide +kernel
theorem dL_practice_10 : decode cL_practice 10 = .ok (.goto 7, 3) := by decide +kernel
theorem dL_practice_13 : decode cL_practice 13 = .ok (.astore 4, 2) := by decide +kernel
theorem dL_practice_15 : decode cL_practice 15 = .ok (.iconst 1, 1) := by decide +kernel
theorem dL_practice_16 : decode cL_practice 16 = .ok (.ireturn, 1) := by decide +kernel
theorem dL_practice_17 : decode cL_practice 17 = .ok (.iconst 0, 1) := by decide +kernel
theorem dL_practice_18 : decode cL_practice 18 = .ok (.ireturn, 1) := by decide +kernel
theorem dL_board_0 : decode cL_board 0 = .ok (.aload_n 3, 1) := by decide +kernel
theorem dL_board_1 : decode cL_board 1 = .ok (.iconst 0, 1) := by decide +kernel
theorem dL_board_2 : decode cL_board 2 = .ok (.aload_n 0, 1) := by decide +kernel
theorem dL_board_3 : decode cL_board 3 = .ok (.iload_n 1, 1) := by decide +kernel
theorem dL_board_4 : decode cL_board 4 = .ok (.iload_n 2, 1) := by decide +kernel
theorem dL_board_5 : decode cL_board 5 = .ok (.invokevirtual 58, 3) := by decide +kernel
theorem dL_board_8 : decode cL_board 8 = .ok (.i2l, 1) := by decide +kernel
theorem dL_board_9 : decode cL_board 9 = .ok (.lastore, 1) := by decide +kernel
theorem dL_board_10 : decode cL_board 10 = .ok (.goto 7, 3) := by decide +kernel
theorem dL_board_13 : decode cL_board 13 = .ok (.astore 4, 2) := by decide +kernel
theorem dL_board_15 : decode cL_board 15 = .ok (.iconst 1, 1) := by decide +kernel
theorem dL_board_16 : decode cL_board 16 = .ok (.ireturn, 1) := by decide +kernel
theorem dL_board_17 : decode cL_board 17 = .ok (.iconst 0, 1) := by decide +kernel
theorem dL_board_18 : decode cL_board 18 = .ok (.ireturn, 1) := by decide +kernel
theorem dL_pass_0 : decode cL_pass 0 = .ok (.aload_n 2, 1) := by decide +kernel
theorem dL_pass_1 : decode cL_pass 1 = .ok (.iconst 0, 1) := by decide +kernel
theorem dL_pass_2 : decode cL_pass 2 = .ok (.aload_n 0, 1) := by decide +kernel
theorem dL_pass_3 : decode cL_pass 3 = .ok (.iload_n 1, 1) := by decide +kernel
theorem dL_pass_4 : decode cL_pass 4 = .ok (.invokevirtual 61, 3) := by decide +kernel
theorem dL_pass_7 : decode cL_pass 7 = .ok (.i2l, 1) := by decide +kernel
theorem dL_pass_8 : decode cL_pass 8 = .ok (.lastore, 1) := by decide +kernel
theorem dL_pass_9 : decode cL_pass 9 = .ok (.goto 6, 3) := by decide +kernel
theorem dL_pass_12 : decode cL_pass 12 = .ok (.astore_n 3, 1) := by decide +kernel
theorem dL_pass_13 : decode cL_pass 13 = .ok (.iconst 1, 1) := by decide +kernel
theorem dL_pass_14 : decode cL_pass 14 = .ok (.ireturn, 1) := by decide +kernel
theorem dL_pass_15 : decode cL_pass 15 = .ok (.iconst 0, 1) := by decide +kernel
theorem dL_pass_16 : decode cL_pass 16 = .ok (.ireturn, 1) := by decide +kernel
theorem dL_count_0 : decode cL_count 0 = .ok (.aload_n 2, 1) := by decide +kernel
theorem dL_count_1 : decode cL_count 1 = .ok (.iconst 0, 1) := by decide +kernel
theorem dL_count_2 : decode cL_count 2 = .ok (.aload_n 0, 1) := by decide +kernel
theorem dL_count_3 : decode cL_count 3 = .ok (.iload_n 1, 1) := by decide +kernel
theorem dL_count_4 : decode cL_count 4 = .ok (.invokevirtual 64, 3) := by decide +kernel
theorem dL_count_7 : decode cL_count 7 = .ok (.i2l, 1) := by decide +kernel
theorem dL_count_8 : decode cL_count 8 = .ok (.lastore, 1) := by decide +kernel
theorem dL_count_9 : decode cL_count 9 = .ok (.goto 6, 3) := by decide +kernel
theorem dL_count_12 : decode cL_count 12 = .ok (.astore_n 3, 1) := by decide +kernel
theorem dL_count_13 : decode cL_count 13 = .ok (.iconst 1, 1) := by decide +kernel
theorem dL_count_14 : decode cL_count 14 = .ok (.ireturn, 1) := by decide +kernel
theorem dL_count_15 : decode cL_count 15 = .ok (.iconst 0, 1) := by decide +kernel
theorem dL_count_16 : decode cL_count 16 = .ok (.ireturn, 1) := by decide +kernel
theorem dL_foresee_0 : decode cL_foresee 0 = .ok (.aload 4, 2) := by decide +kernel
theorem dL_foresee_2 : decode cL_foresee 2 = .ok (.iconst 0, 1) := by decide +kernel
theorem dL_foresee_3 : decode cL_foresee 3 = .ok (.aload_n 0, 1) := by decide +kernel
theorem dL_foresee_4 : decode cL_foresee 4 = .ok (.iload_n 1, 1) := by decide +kernel
theorem dL_foresee_5 : decode cL_foresee 5 = .ok (.iload_n 2, 1) := by decide +kernel
theorem dL_foresee_6 : decode cL_foresee 6 = .ok (.iload_n 3, 1) := by decide +kernel
theorem dL_foresee_7 : decode cL_foresee 7 = .ok (.invokevirtual 67, 3) := by decide +kernel
theorem dL_foresee_10 : decode cL_foresee 10 = .ok (.i2l, 1) := by decide +kernel
theorem dL_foresee_11 : decode cL_foresee 11 = .ok (.lastore, 1) := by decide +kernel
theorem dL_foresee_12 : decode cL_foresee 12 = .ok (.goto 11, 3) := by decide +kernel
theorem dL_foresee_15 : decode cL_foresee 15 = .ok (.astore 5, 2) := by decide +kernel
theorem dL_foresee_17 : decode cL_foresee 17 = .ok (.iconst 1, 1) := by decide +kernel
theorem dL_foresee_18 : decode cL_foresee 18 = .ok (.ireturn, 1) := by decide +kernel
theorem dL_foresee_19 : decode cL_foresee 19 = .ok (.astore 5, 2) := by decide +kernel
theorem dL_foresee_21 : decode cL_foresee 21 = .ok (.iconst 2, 1) := by decide +kernel
theorem dL_foresee_22 : decode cL_foresee 22 = .ok (.ireturn, 1) := by decide +kernel
theorem dL_foresee_23 : decode cL_foresee 23 = .ok (.iconst 0, 1) := by decide +kernel
theorem dL_foresee_24 : decode cL_foresee 24 = .ok (.ireturn, 1) := by decide +kernel
theorem dL_closes_0 : decode cL_closes 0 = .ok (.aload_n 2, 1) := by decide +kernel
theorem dL_closes_1 : decode cL_closes 1 = .ok (.iconst 0, 1) := by decide +kernel
theorem dL_closes_2 : decode cL_closes 2 = .ok (.aload_n 0, 1) := by decide +kernel
theorem dL_closes_3 : decode cL_closes 3 = .ok (.iload_n 1, 1) := by decide +kernel
theorem dL_closes_4 : decode cL_closes 4 = .ok (.invokevirtual 71, 3) := by decide +kernel
theorem dL_closes_7 : decode cL_closes 7 = .ok (.i2l, 1) := by decide +kernel
theorem dL_closes_8 : decode cL_closes 8 = .ok (.lastore, 1) := by decide +kernel
theorem dL_closes_9 : decode cL_closes 9 = .ok (.goto 6, 3) := by decide +kernel
theorem dL_closes_12 : decode cL_closes 12 = .ok (.astore_n 3, 1) := by decide +kernel
theorem dL_closes_13 : decode cL_closes 13 = .ok (.iconst 1, 1) := by decide +kernel
theorem dL_closes_14 : decode cL_closes 14 = .ok (.ireturn, 1) := by decide +kernel
theorem dL_closes_15 : decode cL_closes 15 = .ok (.iconst 0, 1) := by decide +kernel
theorem dL_closes_16 : decode cL_closes 16 = .ok (.ireturn, 1) := by decide +kernel
theorem dL_advise_0 : decode cL_advise 0 = .ok (.aload_n 3, 1) := by decide +kernel
theorem dL_advise_1 : decode cL_advise 1 = .ok (.iconst 0, 1) := by decide +kernel
theorem dL_advise_2 : decode cL_advise 2 = .ok (.aload_n 0, 1) := by decide +kernel
theorem dL_advise_3 : decode cL_advise 3 = .ok (.iload_n 1, 1) := by decide +kernel
theorem dL_advise_4 : decode cL_advise 4 = .ok (.iload_n 2, 1) := by decide +kernel
theorem dL_advise_5 : decode cL_advise 5 = .ok (.invokevirtual 74, 3) := by decide +kernel
theorem dL_advise_8 : decode cL_advise 8 = .ok (.i2l, 1) := by decide +kernel
theorem dL_advise_9 : decode cL_advise 9 = .ok (.lastore, 1) := by decide +kernel
theorem dL_advise_10 : decode cL_advise 10 = .ok (.goto 11, 3) := by decide +kernel
theorem dL_advise_13 : decode cL_advise 13 = .ok (.astore 4, 2) := by decide +kernel
theorem dL_advise_15 : decode cL_advise 15 = .ok (.iconst 1, 1) := by decide +kernel
theorem dL_advise_16 : decode cL_advise 16 = .ok (.ireturn, 1) := by decide +kernel
theorem dL_advise_17 : decode cL_advise 17 = .ok (.astore 4, 2) := by decide +kernel
theorem dL_advise_19 : decode cL_advise 19 = .ok (.iconst 2, 1) := by decide +kernel
theorem dL_advise_20 : decode cL_advise 20 = .ok (.ireturn, 1) := by decide +kernel
theorem dL_advise_21 : decode cL_advise 21 = .ok (.iconst 0, 1) := by decide +kernel
theorem dL_advise_22 : decode cL_advise 22 = .ok (.ireturn, 1) := by decide +kernel
theorem dL_law_0 : decode cL_law 0 = .ok (.new 8, 3) := by decide +kernel
theorem dL_law_3 : decode cL_law 3 = .ok (.dup, 1) := by decide +kernel
theorem dL_law_4 : decode cL_law 4 = .ok (.invokespecial 77, 3) := by decide +kernel
theorem dL_law_7 : decode cL_law 7 = .ok (.astore_n 1, 1) := by decide +kernel
theorem dL_law_8 : decode cL_law 8 = .ok (.new 78, 3) := by decide +kernel
theorem dL_law_11 : decode cL_law 11 = .ok (.dup, 1) := by decide +kernel
theorem dL_law_12 : decode cL_law 12 = .ok (.invokespecial 80, 3) := by decide +kernel
theorem dL_law_15 : decode cL_law 15 = .ok (.astore_n 2, 1) := by decide +kernel
theorem dL_law_16 : decode cL_law 16 = .ok (.iconst 1, 1) := by decide +kernel
theorem dL_law_17 : decode cL_law 17 = .ok (.newarray .long, 2) := by decide +kernel
theorem dL_law_19 : decode cL_law 19 = .ok (.astore_n 3, 1) := by decide +kernel
theorem dL_law_20 : decode cL_law 20 = .ok (.iconst 0, 1) := by decide +kernel
theorem dL_law_21 : decode cL_law 21 = .ok (.istore 4, 2) := by decide +kernel
theorem dL_law_23 : decode cL_law 23 = .ok (.iload 4, 2) := by decide +kernel
theorem dL_law_25 : decode cL_law 25 = .ok (.aload_n 0, 1) := by decide +kernel
theorem dL_law_26 : decode cL_law 26 = .ok (.arraylength, 1) := by decide +kernel
theorem dL_law_27 : decode cL_law 27 = .ok (.iconst 5, 1) := by decide +kernel
theorem dL_law_28 : decode cL_law 28 = .ok (.isub, 1) := by decide +kernel
theorem dL_law_29 : decode cL_law 29 = .ok (.if_icmp .gt 1412, 3) := by decide +kernel
theorem dL_law_32 : decode cL_law 32 = .ok (.aload_n 0, 1) := by decide +kernel
theorem dL_law_33 : decode cL_law 33 = .ok (.iload 4, 2) := by decide +kernel
theorem dL_law_35 : decode cL_law 35 = .ok (.iaload, 1) := by decide +kernel
theorem dL_law_36 : decode cL_law 36 = .ok (.bipush 31, 2) := by decide +kernel
theorem dL_law_38 : decode cL_law 38 = .ok (.iand, 1) := by decide +kernel
theorem dL_law_39 : decode cL_law 39 = .ok (.tableswitch 1396 0 20 #[97, 189, 233, 301, 357, 425, 493, 561, 617, 685, 753, 821, 889, 957, 1025, 1081, 1137, 1217, 1273, 1341, 1382], 97) := by decide +kernel
theorem dL_law_136 : decode cL_law 136 = .ok (.aload_n 1, 1) := by decide +kernel
theorem dL_law_137 : decode cL_law 137 = .ok (.aload_n 0, 1) := by decide +kernel
theorem dL_law_138 : decode cL_law 138 = .ok (.iload 4, 2) := by decide +kernel
theorem dL_law_140 : decode cL_law 140 = .ok (.iconst 1, 1) := by decide +kernel
theorem dL_law_141 : decode cL_law 141 = .ok (.iadd, 1) := by decide +kernel
theorem dL_law_142 : decode cL_law 142 = .ok (.iaload, 1) := by decide +kernel
theorem dL_law_143 : decode cL_law 143 = .ok (.aload_n 0, 1) := by decide +kernel
theorem dL_law_144 : decode cL_law 144 = .ok (.iload 4, 2) := by decide +kernel
theorem dL_law_146 : decode cL_law 146 = .ok (.iconst 2, 1) := by decide +kernel
theorem dL_law_147 : decode cL_law 147 = .ok (.iadd, 1) := by decide +kernel
theorem dL_law_148 : decode cL_law 148 = .ok (.iaload, 1) := by decide +kernel
theorem dL_law_149 : decode cL_law 149 = .ok (.aload_n 0, 1) := by decide +kernel
theorem dL_law_150 : decode cL_law 150 = .ok (.iload 4, 2) := by decide +kernel
theorem dL_law_152 : decode cL_law 152 = .ok (.iconst 3, 1) := by decide +kernel
theorem dL_law_153 : decode cL_law 153 = .ok (.iadd, 1) := by decide +kernel
theorem dL_law_154 : decode cL_law 154 = .ok (.iaload, 1) := by decide +kernel
theorem dL_law_155 : decode cL_law 155 = .ok (.aload_n 0, 1) := by decide +kernel
theorem dL_law_156 : decode cL_law 156 = .ok (.iload 4, 2) := by decide +kernel
theorem dL_law_158 : decode cL_law 158 = .ok (.iconst 4, 1) := by decide +kernel
theorem dL_law_159 : decode cL_law 159 = .ok (.iadd, 1) := by decide +kernel
theorem dL_law_160 : decode cL_law 160 = .ok (.iaload, 1) := by decide +kernel
theorem dL_law_161 : decode cL_law 161 = .ok (.aload_n 3, 1) := by decide +kernel
theorem dL_law_162 : decode cL_law 162 = .ok (.invokestatic 81, 3) := by decide +kernel
theorem dL_law_165 : decode cL_law 165 = .ok (.istore 5, 2) := by decide +kernel
theorem dL_law_167 : decode cL_law 167 = .ok (.aload_n 2, 1) := by decide +kernel
theorem dL_law_168 : decode cL_law 168 = .ok (.aload_n 0, 1) := by decide +kernel
theorem dL_law_169 : decode cL_law 169 = .ok (.iload 4, 2) := by decide +kernel
theorem dL_law_171 : decode cL_law 171 = .ok (.iconst 1, 1) := by decide +kernel
theorem dL_law_172 : decode cL_law 172 = .ok (.iadd, 1) := by decide +kernel
theorem dL_law_173 : decode cL_law 173 = .ok (.iaload, 1) := by decide +kernel
theorem dL_law_174 : decode cL_law 174 = .ok (.aload_n 0, 1) := by decide +kernel
theorem dL_law_175 : decode cL_law 175 = .ok (.iload 4, 2) := by decide +kernel
theorem dL_law_177 : decode cL_law 177 = .ok (.iconst 2, 1) := by decide +kernel
theorem dL_law_178 : decode cL_law 178 = .ok (.iadd, 1) := by decide +kernel
theorem dL_law_179 : decode cL_law 179 = .ok (.iaload, 1) := by decide +kernel
theorem dL_law_180 : decode cL_law 180 = .ok (.aload_n 0, 1) := by decide +kernel
theorem dL_law_181 : decode cL_law 181 = .ok (.iload 4, 2) := by decide +kernel
theorem dL_law_183 : decode cL_law 183 = .ok (.iconst 3, 1) := by decide +kernel
theorem dL_law_184 : decode cL_law 184 = .ok (.iadd, 1) := by decide +kernel
theorem dL_law_185 : decode cL_law 185 = .ok (.iaload, 1) := by decide +kernel
theorem dL_law_186 : decode cL_law 186 = .ok (.aload_n 0, 1) := by decide +kernel
theorem dL_law_187 : decode cL_law 187 = .ok (.iload 4, 2) := by decide +kernel
theorem dL_law_189 : decode cL_law 189 = .ok (.iconst 4, 1) := by decide +kernel
theorem dL_law_190 : decode cL_law 190 = .ok (.iadd, 1) := by decide +kernel
theorem dL_law_191 : decode cL_law 191 = .ok (.iaload, 1) := by decide +kernel
theorem dL_law_192 : decode cL_law 192 = .ok (.invokevirtual 86, 3) := by decide +kernel
theorem dL_law_195 : decode cL_law 195 = .ok (.istore 6, 2) := by decide +kernel
theorem dL_law_197 : decode cL_law 197 = .ok (.aload_n 2, 1) := by decide +kernel
theorem dL_law_198 : decode cL_law 198 = .ok (.invokevirtual 87, 3) := by decide +kernel
theorem dL_law_201 : decode cL_law 201 = .ok (.iload 5, 2) := by decide +kernel
theorem dL_law_203 : decode cL_law 203 = .ok (.if_icmp .eq 5, 3) := by decide +kernel
theorem dL_law_206 : decode cL_law 206 = .ok (.iconst 0, 1) := by decide +kernel
theorem dL_law_207 : decode cL_law 207 = .ok (.ireturn, 1) := by decide +kernel
theorem dL_law_208 : decode cL_law 208 = .ok (.iload 5, 2) := by decide +kernel
theorem dL_law_210 : decode cL_law 210 = .ok (.ifCond .ne 15, 3) := by decide +kernel
theorem dL_law_213 : decode cL_law 213 = .ok (.aload_n 3, 1) := by decide +kernel
theorem dL_law_214 : decode cL_law 214 = .ok (.iconst 0, 1) := by decide +kernel
theorem dL_law_215 : decode cL_law 215 = .ok (.laload, 1) := by decide +kernel
theorem dL_law_216 : decode cL_law 216 = .ok (.iload 6, 2) := by decide +kernel
theorem dL_law_218 : decode cL_law 218 = .ok (.i2l, 1) := by decide +kernel
theorem dL_law_219 : decode cL_law 219 = .ok (.lcmp, 1) := by decide +kernel
theorem dL_law_220 : decode cL_law 220 = .ok (.ifCond .eq 5, 3) := by decide +kernel
theorem dL_law_223 : decode cL_law 223 = .ok (.iconst 0, 1) := by decide +kernel
theorem dL_law_224 : decode cL_law 224 = .ok (.ireturn, 1) := by decide +kernel
theorem dL_law_225 : decode cL_law 225 = .ok (.goto 1210, 3) := by decide +kernel
theorem dL_law_228 : decode cL_law 228 = .ok (.aload_n 1, 1) := by decide +kernel
theorem dL_law_229 : decode cL_law 229 = .ok (.aload_n 3, 1) := by decide +kernel
theorem dL_law_230 : decode cL_law 230 = .ok (.invokestatic 90, 3) := by decide +kernel
theorem dL_law_233 : decode cL_law 233 = .ok (.istore 5, 2) := by decide +kernel
theorem dL_law_235 : decode cL_law 235 = .ok (.aload_n 2, 1) := by decide +kernel
theorem dL_law_236 : decode cL_law 236 = .ok (.invokevirtual 93, 3) := by decide +kernel
theorem dL_law_239 : decode cL_law 239 = .ok (.istore 6, 2) := by decide +kernel
theorem dL_law_241 : decode cL_law 241 = .ok (.aload_n 2, 1) := by decide +kernel
theorem dL_law_242 : decode cL_law 242 = .ok (.invokevirtual 87, 3) := by decide +kernel
theorem dL_law_245 : decode cL_law 245 = .ok (.iload 5, 2) := by decide +kernel
theorem dL_law_247 : decode cL_law 247 = .ok (.if_icmp .eq 5, 3) := by decide +kernel
theorem dL_law_250 : decode cL_law 250 = .ok (.iconst 0, 1) := by decide +kernel
theorem dL_law_251 : decode cL_law 251 = .ok (.ireturn, 1) := by decide +kernel
theorem dL_law_252 : decode cL_law 252 = .ok (.iload 5, 2) := by decide +kernel
theorem dL_law_254 : decode cL_law 254 = .ok (.ifCond .ne 15, 3) := by decide +kernel
theorem dL_law_257 : decode cL_law 257 = .ok (.aload_n 3, 1) := by decide +kernel
theorem dL_law_258 : decode cL_law 258 = .ok (.iconst 0, 1) := by decide +kernel
theorem dL_law_259 : decode cL_law 259 = .ok (.laload, 1) := by decide +kernel
theorem dL_law_260 : decode cL_law 260 = .ok (.iload 6, 2) := by decide +kernel
theorem dL_law_262 : decode cL_law 262 = .ok (.i2l, 1) := by decide +kernel
theorem dL_law_263 : decode cL_law 263 = .ok (.lcmp, 1) := by decide +kernel
theorem dL_law_264 : decode cL_law 264 = .ok (.ifCond .eq 5, 3) := by decide +kernel
theorem dL_law_267 : decode cL_law 267 = .ok (.iconst 0, 1) := by decide +kernel
theorem dL_law_268 : decode cL_law 268 = .ok (.ireturn, 1) := by decide +kernel
theorem dL_law_269 : decode cL_law 269 = .ok (.goto 1166, 3) := by decide +kernel
theorem dL_law_272 : decode cL_law 272 = .ok (.aload_n 1, 1) := by decide +kernel
theorem dL_law_273 : decode cL_law 273 = .ok (.aload_n 0, 1) := by decide +kernel
theorem dL_law_274 : decode cL_law 274 = .ok (.iload 4, 2) := by decide +kernel
theorem dL_law_276 : decode cL_law 276 = .ok (.iconst 1, 1) := by decide +kernel
theorem dL_law_277 : decode cL_law 277 = .ok (.iadd, 1) := by decide +kernel
theorem dL_law_278 : decode cL_law 278 = .ok (.iaload, 1) := by decide +kernel
theorem dL_law_279 : decode cL_law 279 = .ok (.aload_n 0, 1) := by decide +kernel
theorem dL_law_280 : decode cL_law 280 = .ok (.iload 4, 2) := by decide +kernel
theorem dL_law_282 : decode cL_law 282 = .ok (.iconst 2, 1) := by decide +kernel
theorem dL_law_283 : decode cL_law 283 = .ok (.iadd, 1) := by decide +kernel
theorem dL_law_284 : decode cL_law 284 = .ok (.iaload, 1) := by decide +kernel
theorem dL_law_285 : decode cL_law 285 = .ok (.aload_n 3, 1) := by decide +kernel
theorem dL_law_286 : decode cL_law 286 = .ok (.invokestatic 94, 3) := by decide +kernel
theorem dL_law_289 : decode cL_law 289 = .ok (.istore 5, 2) := by decide +kernel
theorem dL_law_291 : decode cL_law 291 = .ok (.aload_n 2, 1) := by decide +kernel
theorem dL_law_292 : decode cL_law 292 = .ok (.aload_n 0, 1) := by decide +kernel
theorem dL_law_293 : decode cL_law 293 = .ok (.iload 4, 2) := by decide +kernel
theorem dL_law_295 : decode cL_law 295 = .ok (.iconst 1, 1) := by decide +kernel
theorem dL_law_296 : decode cL_law 296 = .ok (.iadd, 1) := by decide +kernel
theorem dL_law_297 : decode cL_law 297 = .ok (.iaload, 1) := by decide +kernel
theorem dL_law_298 : decode cL_law 298 = .ok (.aload_n 0, 1) := by decide +kernel
theorem dL_law_299 : decode cL_law 299 = .ok (.iload 4, 2) := by decide +kernel
theorem dL_law_301 : decode cL_law 301 = .ok (.iconst 2, 1) := by decide +kernel
theorem dL_law_302 : decode cL_law 302 = .ok (.iadd, 1) := by decide +kernel
theorem dL_law_303 : decode cL_law 303 = .ok (.iaload, 1) := by decide +kernel
theorem dL_law_304 : decode cL_law 304 = .ok (.invokevirtual 97, 3) := by decide +kernel
theorem dL_law_307 : decode cL_law 307 = .ok (.istore 6, 2) := by decide +kernel
theorem dL_law_309 : decode cL_law 309 = .ok (.aload_n 2, 1) := by decide +kernel
theorem dL_law_310 : decode cL_law 310 = .ok (.invokevirtual 87, 3) := by decide +kernel
theorem dL_law_313 : decode cL_law 313 = .ok (.iload 5, 2) := by decide +kernel
theorem dL_law_315 : decode cL_law 315 = .ok (.if_icmp .eq 5, 3) := by decide +kernel
theorem dL_law_318 : decode cL_law 318 = .ok (.iconst 0, 1) := by decide +kernel
theorem dL_law_319 : decode cL_law 319 = .ok (.ireturn, 1) := by decide +kernel
theorem dL_law_320 : decode cL_law 320 = .ok (.iload 5, 2) := by decide +kernel
theorem dL_law_322 : decode cL_law 322 = .ok (.ifCond .ne 15, 3) := by decide +kernel
theorem dL_law_325 : decode cL_law 325 = .ok (.aload_n 3, 1) := by decide +kernel
theorem dL_law_326 : decode cL_law 326 = .ok (.iconst 0, 1) := by decide +kernel
theorem dL_law_327 : decode cL_law 327 = .ok (.laload, 1) := by decide +kernel
theorem dL_law_328 : decode cL_law 328 = .ok (.iload 6, 2) := by decide +kernel
theorem dL_law_330 : decode cL_law 330 = .ok (.i2l, 1) := by decide +kernel
theorem dL_law_331 : decode cL_law 331 = .ok (.lcmp, 1) := by decide +kernel
theorem dL_law_332 : decode cL_law 332 = .ok (.ifCond .eq 5, 3) := by decide +kernel
theorem dL_law_335 : decode cL_law 335 = .ok (.iconst 0, 1) := by decide +kernel
theorem dL_law_336 : decode cL_law 336 = .ok (.ireturn, 1) := by decide +kernel
theorem dL_law_337 : decode cL_law 337 = .ok (.goto 1098, 3) := by decide +kernel
theorem dL_law_340 : decode cL_law 340 = .ok (.aload_n 1, 1) := by decide +kernel
theorem dL_law_341 : decode cL_law 341 = .ok (.aload_n 0, 1) := by decide +kernel
theorem dL_law_342 : decode cL_law 342 = .ok (.iload 4, 2) := by decide +kernel
theorem dL_law_344 : decode cL_law 344 = .ok (.iconst 1, 1) := by decide +kernel
theorem dL_law_345 : decode cL_law 345 = .ok (.iadd, 1) := by decide +kernel
theorem dL_law_346 : decode cL_law 346 = .ok (.iaload, 1) := by decide +kernel
theorem dL_law_347 : decode cL_law 347 = .ok (.aload_n 3, 1) := by decide +kernel
theorem dL_law_348 : decode cL_law 348 = .ok (.invokestatic 98, 3) := by decide +kernel
theorem dL_law_351 : decode cL_law 351 = .ok (.istore 5, 2) := by decide +kernel
theorem dL_law_353 : decode cL_law 353 = .ok (.aload_n 2, 1) := by decide +kernel
theorem dL_law_354 : decode cL_law 354 = .ok (.aload_n 0, 1) := by decide +kernel
theorem dL_law_355 : decode cL_law 355 = .ok (.iload 4, 2) := by decide +kernel
theorem dL_law_357 : decode cL_law 357 = .ok (.iconst 1, 1) := by decide +kernel
theorem dL_law_358 : decode cL_law 358 = .ok (.iadd, 1) := by decide +kernel
theorem dL_law_359 : decode cL_law 359 = .ok (.iaload, 1) := by decide +kernel
theorem dL_law_360 : decode cL_law 360 = .ok (.invokevirtual 101, 3) := by decide +kernel
theorem dL_law_363 : decode cL_law 363 = .ok (.istore 6, 2) := by decide +kernel
theorem dL_law_365 : decode cL_law 365 = .ok (.aload_n 2, 1) := by decide +kernel
theorem dL_law_366 : decode cL_law 366 = .ok (.invokevirtual 87, 3) := by decide +kernel
theorem dL_law_369 : decode cL_law 369 = .ok (.iload 5, 2) := by decide +kernel
theorem dL_law_371 : decode cL_law 371 = .ok (.if_icmp .eq 5, 3) := by decide +kernel
theorem dL_law_374 : decode cL_law 374 = .ok (.iconst 0, 1) := by decide +kernel
theorem dL_law_375 : decode cL_law 375 = .ok (.ireturn, 1) := by decide +kernel
theorem dL_law_376 : decode cL_law 376 = .ok (.iload 5, 2) := by decide +kernel
theorem dL_law_378 : decode cL_law 378 = .ok (.ifCond .ne 15, 3) := by decide +kernel
theorem dL_law_381 : decode cL_law 381 = .ok (.aload_n 3, 1) := by decide +kernel
theorem dL_law_382 : decode cL_law 382 = .ok (.iconst 0, 1) := by decide +kernel
theorem dL_law_383 : decode cL_law 383 = .ok (.laload, 1) := by decide +kernel
theorem dL_law_384 : decode cL_law 384 = .ok (.iload 6, 2) := by decide +kernel
theorem dL_law_386 : decode cL_law 386 = .ok (.i2l, 1) := by decide +kernel
theorem dL_law_387 : decode cL_law 387 = .ok (.lcmp, 1) := by decide +kernel
theorem dL_law_388 : decode cL_law 388 = .ok (.ifCond .eq 5, 3) := by decide +kernel
theorem dL_law_391 : decode cL_law 391 = .ok (.iconst 0, 1) := by decide +kernel
theorem dL_law_392 : decode cL_law 392 = .ok (.ireturn, 1) := by decide +kernel
theorem dL_law_393 : decode cL_law 393 = .ok (.goto 1042, 3) := by decide +kernel
theorem dL_law_396 : decode cL_law 396 = .ok (.aload_n 1, 1) := by decide +kernel
theorem dL_law_397 : decode cL_law 397 = .ok (.aload_n 0, 1) := by decide +kernel
theorem dL_law_398 : decode cL_law 398 = .ok (.iload 4, 2) := by decide +kernel
theorem dL_law_400 : decode cL_law 400 = .ok (.iconst 1, 1) := by decide +kernel
theorem dL_law_401 : decode cL_law 401 = .ok (.iadd, 1) := by decide +kernel
theorem dL_law_402 : decode cL_law 402 = .ok (.iaload, 1) := by decide +kernel
theorem dL_law_403 : decode cL_law 403 = .ok (.aload_n 0, 1) := by decide +kernel
theorem dL_law_404 : decode cL_law 404 = .ok (.iload 4, 2) := by decide +kernel
theorem dL_law_406 : decode cL_law 406 = .ok (.iconst 2, 1) := by decide +kernel
theorem dL_law_407 : decode cL_law 407 = .ok (.iadd, 1) := by decide +kernel
theorem dL_law_408 : decode cL_law 408 = .ok (.iaload, 1) := by decide +kernel
theorem dL_law_409 : decode cL_law 409 = .ok (.aload_n 3, 1) := by decide +kernel
theorem dL_law_410 : decode cL_law 410 = .ok (.invokestatic 102, 3) := by decide +kernel
theorem dL_law_413 : decode cL_law 413 = .ok (.istore 5, 2) := by decide +kernel
theorem dL_law_415 : decode cL_law 415 = .ok (.aload_n 2, 1) := by decide +kernel
theorem dL_law_416 : decode cL_law 416 = .ok (.aload_n 0, 1) := by decide +kernel
theorem dL_law_417 : decode cL_law 417 = .ok (.iload 4, 2) := by decide +kernel
theorem dL_law_419 : decode cL_law 419 = .ok (.iconst 1, 1) := by decide +kernel
theorem dL_law_420 : decode cL_law 420 = .ok (.iadd, 1) := by decide +kernel
theorem dL_law_421 : decode cL_law 421 = .ok (.iaload, 1) := by decide +kernel
theorem dL_law_422 : decode cL_law 422 = .ok (.aload_n 0, 1) := by decide +kernel
theorem dL_law_423 : decode cL_law 423 = .ok (.iload 4, 2) := by decide +kernel
theorem dL_law_425 : decode cL_law 425 = .ok (.iconst 2, 1) := by decide +kernel
theorem dL_law_426 : decode cL_law 426 = .ok (.iadd, 1) := by decide +kernel
theorem dL_law_427 : decode cL_law 427 = .ok (.iaload, 1) := by decide +kernel
theorem dL_law_428 : decode cL_law 428 = .ok (.invokevirtual 104, 3) := by decide +kernel
theorem dL_law_431 : decode cL_law 431 = .ok (.istore 6, 2) := by decide +kernel
theorem dL_law_433 : decode cL_law 433 = .ok (.aload_n 2, 1) := by decide +kernel
theorem dL_law_434 : decode cL_law 434 = .ok (.invokevirtual 87, 3) := by decide +kernel
theorem dL_law_437 : decode cL_law 437 = .ok (.iload 5, 2) := by decide +kernel
theorem dL_law_439 : decode cL_law 439 = .ok (.if_icmp .eq 5, 3) := by decide +kernel
theorem dL_law_442 : decode cL_law 442 = .ok (.iconst 0, 1) := by decide +kernel
theorem dL_law_443 : decode cL_law 443 = .ok (.ireturn, 1) := by decide +kernel
theorem dL_law_444 : decode cL_law 444 = .ok (.iload 5, 2) := by decide +kernel
theorem dL_law_446 : decode cL_law 446 = .ok (.ifCond .ne 15, 3) := by decide +kernel
theorem dL_law_449 : decode cL_law 449 = .ok (.aload_n 3, 1) := by decide +kernel
theorem dL_law_450 : decode cL_law 450 = .ok (.iconst 0, 1) := by decide +kernel
theorem dL_law_451 : decode cL_law 451 = .ok (.laload, 1) := by decide +kernel
theorem dL_law_452 : decode cL_law 452 = .ok (.iload 6, 2) := by decide +kernel
theorem dL_law_454 : decode cL_law 454 = .ok (.i2l, 1) := by decide +kernel
theorem dL_law_455 : decode cL_law 455 = .ok (.lcmp, 1) := by decide +kernel
theorem dL_law_456 : decode cL_law 456 = .ok (.ifCond .eq 5, 3) := by decide +kernel
theorem dL_law_459 : decode cL_law 459 = .ok (.iconst 0, 1) := by decide +kernel
theorem dL_law_460 : decode cL_law 460 = .ok (.ireturn, 1) := by decide +kernel
theorem dL_law_461 : decode cL_law 461 = .ok (.goto 974, 3) := by decide +kernel
theorem dL_law_464 : decode cL_law 464 = .ok (.aload_n 1, 1) := by decide +kernel
theorem dL_law_465 : decode cL_law 465 = .ok (.aload_n 0, 1) := by decide +kernel
theorem dL_law_466 : decode cL_law 466 = .ok (.iload 4, 2) := by decide +kernel
theorem dL_law_468 : decode cL_law 468 = .ok (.iconst 1, 1) := by decide +kernel
theorem dL_law_469 : decode cL_law 469 = .ok (.iadd, 1) := by decide +kernel
theorem dL_law_470 : decode cL_law 470 = .ok (.iaload, 1) := by decide +kernel
theorem dL_law_471 : decode cL_law 471 = .ok (.aload_n 0, 1) := by decide +kernel
theorem dL_law_472 : decode cL_law 472 = .ok (.iload 4, 2) := by decide +kernel
theorem dL_law_474 : decode cL_law 474 = .ok (.iconst 2, 1) := by decide +kernel
theorem dL_law_475 : decode cL_law 475 = .ok (.iadd, 1) := by decide +kernel
theorem dL_law_476 : decode cL_law 476 = .ok (.iaload, 1) := by decide +kernel
theorem dL_law_477 : decode cL_law 477 = .ok (.aload_n 3, 1) := by decide +kernel
theorem dL_law_478 : decode cL_law 478 = .ok (.invokestatic 105, 3) := by decide +kernel
theorem dL_law_481 : decode cL_law 481 = .ok (.istore 5, 2) := by decide +kernel
theorem dL_law_483 : decode cL_law 483 = .ok (.aload_n 2, 1) := by decide +kernel
theorem dL_law_484 : decode cL_law 484 = .ok (.aload_n 0, 1) := by decide +kernel
theorem dL_law_485 : decode cL_law 485 = .ok (.iload 4, 2) := by decide +kernel
theorem dL_law_487 : decode cL_law 487 = .ok (.iconst 1, 1) := by decide +kernel
theorem dL_law_488 : decode cL_law 488 = .ok (.iadd, 1) := by decide +kernel
theorem dL_law_489 : decode cL_law 489 = .ok (.iaload, 1) := by decide +kernel
theorem dL_law_490 : decode cL_law 490 = .ok (.aload_n 0, 1) := by decide +kernel
theorem dL_law_491 : decode cL_law 491 = .ok (.iload 4, 2) := by decide +kernel
theorem dL_law_493 : decode cL_law 493 = .ok (.iconst 2, 1) := by decide +kernel
theorem dL_law_494 : decode cL_law 494 = .ok (.iadd, 1) := by decide +kernel
theorem dL_law_495 : decode cL_law 495 = .ok (.iaload, 1) := by decide +kernel
theorem dL_law_496 : decode cL_law 496 = .ok (.invokevirtual 107, 3) := by decide +kernel
theorem dL_law_499 : decode cL_law 499 = .ok (.istore 6, 2) := by decide +kernel
theorem dL_law_501 : decode cL_law 501 = .ok (.aload_n 2, 1) := by decide +kernel
theorem dL_law_502 : decode cL_law 502 = .ok (.invokevirtual 87, 3) := by decide +kernel
theorem dL_law_505 : decode cL_law 505 = .ok (.iload 5, 2) := by decide +kernel
theorem dL_law_507 : decode cL_law 507 = .ok (.if_icmp .eq 5, 3) := by decide +kernel
theorem dL_law_510 : decode cL_law 510 = .ok (.iconst 0, 1) := by decide +kernel
theorem dL_law_511 : decode cL_law 511 = .ok (.ireturn, 1) := by decide +kernel
theorem dL_law_512 : decode cL_law 512 = .ok (.iload 5, 2) := by decide +kernel
theorem dL_law_514 : decode cL_law 514 = .ok (.ifCond .ne 15, 3) := by decide +kernel
theorem dL_law_517 : decode cL_law 517 = .ok (.aload_n 3, 1) := by decide +kernel
theorem dL_law_518 : decode cL_law 518 = .ok (.iconst 0, 1) := by decide +kernel
theorem dL_law_519 : decode cL_law 519 = .ok (.laload, 1) := by decide +kernel
theorem dL_law_520 : decode cL_law 520 = .ok (.iload 6, 2) := by decide +kernel
theorem dL_law_522 : decode cL_law 522 = .ok (.i2l, 1) := by decide +kernel
theorem dL_law_523 : decode cL_law 523 = .ok (.lcmp, 1) := by decide +kernel
theorem dL_law_524 : decode cL_law 524 = .ok (.ifCond .eq 5, 3) := by decide +kernel
theorem dL_law_527 : decode cL_law 527 = .ok (.iconst 0, 1) := by decide +kernel
theorem dL_law_528 : decode cL_law 528 = .ok (.ireturn, 1) := by decide +kernel
theorem dL_law_529 : decode cL_law 529 = .ok (.goto 906, 3) := by decide +kernel
theorem dL_law_532 : decode cL_law 532 = .ok (.aload_n 1, 1) := by decide +kernel
theorem dL_law_533 : decode cL_law 533 = .ok (.aload_n 0, 1) := by decide +kernel
theorem dL_law_534 : decode cL_law 534 = .ok (.iload 4, 2) := by decide +kernel
theorem dL_law_536 : decode cL_law 536 = .ok (.iconst 1, 1) := by decide +kernel
theorem dL_law_537 : decode cL_law 537 = .ok (.iadd, 1) := by decide +kernel
theorem dL_law_538 : decode cL_law 538 = .ok (.iaload, 1) := by decide +kernel
theorem dL_law_539 : decode cL_law 539 = .ok (.aload_n 0, 1) := by decide +kernel
theorem dL_law_540 : decode cL_law 540 = .ok (.iload 4, 2) := by decide +kernel
theorem dL_law_542 : decode cL_law 542 = .ok (.iconst 2, 1) := by decide +kernel
theorem dL_law_543 : decode cL_law 543 = .ok (.iadd, 1) := by decide +kernel
theorem dL_law_544 : decode cL_law 544 = .ok (.iaload, 1) := by decide +kernel
theorem dL_law_545 : decode cL_law 545 = .ok (.aload_n 3, 1) := by decide +kernel
theorem dL_law_546 : decode cL_law 546 = .ok (.invokestatic 108, 3) := by decide +kernel
theorem dL_law_549 : decode cL_law 549 = .ok (.istore 5, 2) := by decide +kernel
theorem dL_law_551 : decode cL_law 551 = .ok (.aload_n 2, 1) := by decide +kernel
theorem dL_law_552 : decode cL_law 552 = .ok (.aload_n 0, 1) := by decide +kernel
theorem dL_law_553 : decode cL_law 553 = .ok (.iload 4, 2) := by decide +kernel
theorem dL_law_555 : decode cL_law 555 = .ok (.iconst 1, 1) := by decide +kernel
theorem dL_law_556 : decode cL_law 556 = .ok (.iadd, 1) := by decide +kernel
theorem dL_law_557 : decode cL_law 557 = .ok (.iaload, 1) := by decide +kernel
theorem dL_law_558 : decode cL_law 558 = .ok (.aload_n 0, 1) := by decide +kernel
theorem dL_law_559 : decode cL_law 559 = .ok (.iload 4, 2) := by decide +kernel
theorem dL_law_561 : decode cL_law 561 = .ok (.iconst 2, 1) := by decide +kernel
theorem dL_law_562 : decode cL_law 562 = .ok (.iadd, 1) := by decide +kernel
theorem dL_law_563 : decode cL_law 563 = .ok (.iaload, 1) := by decide +kernel
theorem dL_law_564 : decode cL_law 564 = .ok (.invokevirtual 110, 3) := by decide +kernel
theorem dL_law_567 : decode cL_law 567 = .ok (.istore 6, 2) := by decide +kernel
theorem dL_law_569 : decode cL_law 569 = .ok (.aload_n 2, 1) := by decide +kernel
theorem dL_law_570 : decode cL_law 570 = .ok (.invokevirtual 87, 3) := by decide +kernel
theorem dL_law_573 : decode cL_law 573 = .ok (.iload 5, 2) := by decide +kernel
theorem dL_law_575 : decode cL_law 575 = .ok (.if_icmp .eq 5, 3) := by decide +kernel
theorem dL_law_578 : decode cL_law 578 = .ok (.iconst 0, 1) := by decide +kernel
theorem dL_law_579 : decode cL_law 579 = .ok (.ireturn, 1) := by decide +kernel
theorem dL_law_580 : decode cL_law 580 = .ok (.iload 5, 2) := by decide +kernel
theorem dL_law_582 : decode cL_law 582 = .ok (.ifCond .ne 15, 3) := by decide +kernel
theorem dL_law_585 : decode cL_law 585 = .ok (.aload_n 3, 1) := by decide +kernel
theorem dL_law_586 : decode cL_law 586 = .ok (.iconst 0, 1) := by decide +kernel
theorem dL_law_587 : decode cL_law 587 = .ok (.laload, 1) := by decide +kernel
theorem dL_law_588 : decode cL_law 588 = .ok (.iload 6, 2) := by decide +kernel
theorem dL_law_590 : decode cL_law 590 = .ok (.i2l, 1) := by decide +kernel
theorem dL_law_591 : decode cL_law 591 = .ok (.lcmp, 1) := by decide +kernel
theorem dL_law_592 : decode cL_law 592 = .ok (.ifCond .eq 5, 3) := by decide +kernel
theorem dL_law_595 : decode cL_law 595 = .ok (.iconst 0, 1) := by decide +kernel
theorem dL_law_596 : decode cL_law 596 = .ok (.ireturn, 1) := by decide +kernel
theorem dL_law_597 : decode cL_law 597 = .ok (.goto 838, 3) := by decide +kernel
theorem dL_law_600 : decode cL_law 600 = .ok (.aload_n 1, 1) := by decide +kernel
theorem dL_law_601 : decode cL_law 601 = .ok (.aload_n 0, 1) := by decide +kernel
theorem dL_law_602 : decode cL_law 602 = .ok (.iload 4, 2) := by decide +kernel
theorem dL_law_604 : decode cL_law 604 = .ok (.iconst 1, 1) := by decide +kernel
theorem dL_law_605 : decode cL_law 605 = .ok (.iadd, 1) := by decide +kernel
theorem dL_law_606 : decode cL_law 606 = .ok (.iaload, 1) := by decide +kernel
theorem dL_law_607 : decode cL_law 607 = .ok (.aload_n 3, 1) := by decide +kernel
theorem dL_law_608 : decode cL_law 608 = .ok (.invokestatic 111, 3) := by decide +kernel
theorem dL_law_611 : decode cL_law 611 = .ok (.istore 5, 2) := by decide +kernel
theorem dL_law_613 : decode cL_law 613 = .ok (.aload_n 2, 1) := by decide +kernel
theorem dL_law_614 : decode cL_law 614 = .ok (.aload_n 0, 1) := by decide +kernel
theorem dL_law_615 : decode cL_law 615 = .ok (.iload 4, 2) := by decide +kernel
theorem dL_law_617 : decode cL_law 617 = .ok (.iconst 1, 1) := by decide +kernel
theorem dL_law_618 : decode cL_law 618 = .ok (.iadd, 1) := by decide +kernel
theorem dL_law_619 : decode cL_law 619 = .ok (.iaload, 1) := by decide +kernel
theorem dL_law_620 : decode cL_law 620 = .ok (.invokevirtual 113, 3) := by decide +kernel
theorem dL_law_623 : decode cL_law 623 = .ok (.istore 6, 2) := by decide +kernel
theorem dL_law_625 : decode cL_law 625 = .ok (.aload_n 2, 1) := by decide +kernel
theorem dL_law_626 : decode cL_law 626 = .ok (.invokevirtual 87, 3) := by decide +kernel
theorem dL_law_629 : decode cL_law 629 = .ok (.iload 5, 2) := by decide +kernel
theorem dL_law_631 : decode cL_law 631 = .ok (.if_icmp .eq 5, 3) := by decide +kernel
theorem dL_law_634 : decode cL_law 634 = .ok (.iconst 0, 1) := by decide +kernel
theorem dL_law_635 : decode cL_law 635 = .ok (.ireturn, 1) := by decide +kernel
theorem dL_law_636 : decode cL_law 636 = .ok (.iload 5, 2) := by decide +kernel
theorem dL_law_638 : decode cL_law 638 = .ok (.ifCond .ne 15, 3) := by decide +kernel
theorem dL_law_641 : decode cL_law 641 = .ok (.aload_n 3, 1) := by decide +kernel
theorem dL_law_642 : decode cL_law 642 = .ok (.iconst 0, 1) := by decide +kernel
theorem dL_law_643 : decode cL_law 643 = .ok (.laload, 1) := by decide +kernel
theorem dL_law_644 : decode cL_law 644 = .ok (.iload 6, 2) := by decide +kernel
theorem dL_law_646 : decode cL_law 646 = .ok (.i2l, 1) := by decide +kernel
theorem dL_law_647 : decode cL_law 647 = .ok (.lcmp, 1) := by decide +kernel
theorem dL_law_648 : decode cL_law 648 = .ok (.ifCond .eq 5, 3) := by decide +kernel
theorem dL_law_651 : decode cL_law 651 = .ok (.iconst 0, 1) := by decide +kernel
theorem dL_law_652 : decode cL_law 652 = .ok (.ireturn, 1) := by decide +kernel
theorem dL_law_653 : decode cL_law 653 = .ok (.goto 782, 3) := by decide +kernel
theorem dL_law_656 : decode cL_law 656 = .ok (.aload_n 1, 1) := by decide +kernel
theorem dL_law_657 : decode cL_law 657 = .ok (.aload_n 0, 1) := by decide +kernel
theorem dL_law_658 : decode cL_law 658 = .ok (.iload 4, 2) := by decide +kernel
theorem dL_law_660 : decode cL_law 660 = .ok (.iconst 1, 1) := by decide +kernel
theorem dL_law_661 : decode cL_law 661 = .ok (.iadd, 1) := by decide +kernel
theorem dL_law_662 : decode cL_law 662 = .ok (.iaload, 1) := by decide +kernel
theorem dL_law_663 : decode cL_law 663 = .ok (.aload_n 0, 1) := by decide +kernel
theorem dL_law_664 : decode cL_law 664 = .ok (.iload 4, 2) := by decide +kernel
theorem dL_law_666 : decode cL_law 666 = .ok (.iconst 2, 1) := by decide +kernel
theorem dL_law_667 : decode cL_law 667 = .ok (.iadd, 1) := by decide +kernel
theorem dL_law_668 : decode cL_law 668 = .ok (.iaload, 1) := by decide +kernel
theorem dL_law_669 : decode cL_law 669 = .ok (.aload_n 3, 1) := by decide +kernel
theorem dL_law_670 : decode cL_law 670 = .ok (.invokestatic 114, 3) := by decide +kernel
theorem dL_law_673 : decode cL_law 673 = .ok (.istore 5, 2) := by decide +kernel
theorem dL_law_675 : decode cL_law 675 = .ok (.aload_n 2, 1) := by decide +kernel
theorem dL_law_676 : decode cL_law 676 = .ok (.aload_n 0, 1) := by decide +kernel
theorem dL_law_677 : decode cL_law 677 = .ok (.iload 4, 2) := by decide +kernel
theorem dL_law_679 : decode cL_law 679 = .ok (.iconst 1, 1) := by decide +kernel
theorem dL_law_680 : decode cL_law 680 = .ok (.iadd, 1) := by decide +kernel
theorem dL_law_681 : decode cL_law 681 = .ok (.iaload, 1) := by decide +kernel
theorem dL_law_682 : decode cL_law 682 = .ok (.aload_n 0, 1) := by decide +kernel
theorem dL_law_683 : decode cL_law 683 = .ok (.iload 4, 2) := by decide +kernel
theorem dL_law_685 : decode cL_law 685 = .ok (.iconst 2, 1) := by decide +kernel
theorem dL_law_686 : decode cL_law 686 = .ok (.iadd, 1) := by decide +kernel
theorem dL_law_687 : decode cL_law 687 = .ok (.iaload, 1) := by decide +kernel
theorem dL_law_688 : decode cL_law 688 = .ok (.invokevirtual 116, 3) := by decide +kernel
theorem dL_law_691 : decode cL_law 691 = .ok (.istore 6, 2) := by decide +kernel
theorem dL_law_693 : decode cL_law 693 = .ok (.aload_n 2, 1) := by decide +kernel
theorem dL_law_694 : decode cL_law 694 = .ok (.invokevirtual 87, 3) := by decide +kernel
theorem dL_law_697 : decode cL_law 697 = .ok (.iload 5, 2) := by decide +kernel
theorem dL_law_699 : decode cL_law 699 = .ok (.if_icmp .eq 5, 3) := by decide +kernel
theorem dL_law_702 : decode cL_law 702 = .ok (.iconst 0, 1) := by decide +kernel
theorem dL_law_703 : decode cL_law 703 = .ok (.ireturn, 1) := by decide +kernel
theorem dL_law_704 : decode cL_law 704 = .ok (.iload 5, 2) := by decide +kernel
theorem dL_law_706 : decode cL_law 706 = .ok (.ifCond .ne 15, 3) := by decide +kernel
theorem dL_law_709 : decode cL_law 709 = .ok (.aload_n 3, 1) := by decide +kernel
theorem dL_law_710 : decode cL_law 710 = .ok (.iconst 0, 1) := by decide +kernel
theorem dL_law_711 : decode cL_law 711 = .ok (.laload, 1) := by decide +kernel
theorem dL_law_712 : decode cL_law 712 = .ok (.iload 6, 2) := by decide +kernel
theorem dL_law_714 : decode cL_law 714 = .ok (.i2l, 1) := by decide +kernel
theorem dL_law_715 : decode cL_law 715 = .ok (.lcmp, 1) := by decide +kernel
theorem dL_law_716 : decode cL_law 716 = .ok (.ifCond .eq 5, 3) := by decide +kernel
theorem dL_law_719 : decode cL_law 719 = .ok (.iconst 0, 1) := by decide +kernel
theorem dL_law_720 : decode cL_law 720 = .ok (.ireturn, 1) := by decide +kernel
theorem dL_law_721 : decode cL_law 721 = .ok (.goto 714, 3) := by decide +kernel
theorem dL_law_724 : decode cL_law 724 = .ok (.aload_n 1, 1) := by decide +kernel
theorem dL_law_725 : decode cL_law 725 = .ok (.aload_n 0, 1) := by decide +kernel
theorem dL_law_726 : decode cL_law 726 = .ok (.iload 4, 2) := by decide +kernel
theorem dL_law_728 : decode cL_law 728 = .ok (.iconst 1, 1) := by decide +kernel
theorem dL_law_729 : decode cL_law 729 = .ok (.iadd, 1) := by decide +kernel
theorem dL_law_730 : decode cL_law 730 = .ok (.iaload, 1) := by decide +kernel
theorem dL_law_731 : decode cL_law 731 = .ok (.aload_n 0, 1) := by decide +kernel
theorem dL_law_732 : decode cL_law 732 = .ok (.iload 4, 2) := by decide +kernel
theorem dL_law_734 : decode cL_law 734 = .ok (.iconst 2, 1) := by decide +kernel
theorem dL_law_735 : decode cL_law 735 = .ok (.iadd, 1) := by decide +kernel
theorem dL_law_736 : decode cL_law 736 = .ok (.iaload, 1) := by decide +kernel
theorem dL_law_737 : decode cL_law 737 = .ok (.aload_n 3, 1) := by decide +kernel
theorem dL_law_738 : decode cL_law 738 = .ok (.invokestatic 117, 3) := by decide +kernel
theorem dL_law_741 : decode cL_law 741 = .ok (.istore 5, 2) := by decide +kernel
theorem dL_law_743 : decode cL_law 743 = .ok (.aload_n 2, 1) := by decide +kernel
theorem dL_law_744 : decode cL_law 744 = .ok (.aload_n 0, 1) := by decide +kernel
theorem dL_law_745 : decode cL_law 745 = .ok (.iload 4, 2) := by decide +kernel
theorem dL_law_747 : decode cL_law 747 = .ok (.iconst 1, 1) := by decide +kernel
theorem dL_law_748 : decode cL_law 748 = .ok (.iadd, 1) := by decide +kernel
theorem dL_law_749 : decode cL_law 749 = .ok (.iaload, 1) := by decide +kernel
theorem dL_law_750 : decode cL_law 750 = .ok (.aload_n 0, 1) := by decide +kernel
theorem dL_law_751 : decode cL_law 751 = .ok (.iload 4, 2) := by decide +kernel
theorem dL_law_753 : decode cL_law 753 = .ok (.iconst 2, 1) := by decide +kernel
theorem dL_law_754 : decode cL_law 754 = .ok (.iadd, 1) := by decide +kernel
theorem dL_law_755 : decode cL_law 755 = .ok (.iaload, 1) := by decide +kernel
theorem dL_law_756 : decode cL_law 756 = .ok (.invokevirtual 119, 3) := by decide +kernel
theorem dL_law_759 : decode cL_law 759 = .ok (.istore 6, 2) := by decide +kernel
theorem dL_law_761 : decode cL_law 761 = .ok (.aload_n 2, 1) := by decide +kernel
theorem dL_law_762 : decode cL_law 762 = .ok (.invokevirtual 87, 3) := by decide +kernel
theorem dL_law_765 : decode cL_law 765 = .ok (.iload 5, 2) := by decide +kernel
theorem dL_law_767 : decode cL_law 767 = .ok (.if_icmp .eq 5, 3) := by decide +kernel
theorem dL_law_770 : decode cL_law 770 = .ok (.iconst 0, 1) := by decide +kernel
theorem dL_law_771 : decode cL_law 771 = .ok (.ireturn, 1) := by decide +kernel
theorem dL_law_772 : decode cL_law 772 = .ok (.iload 5, 2) := by decide +kernel
theorem dL_law_774 : decode cL_law 774 = .ok (.ifCond .ne 15, 3) := by decide +kernel
theorem dL_law_777 : decode cL_law 777 = .ok (.aload_n 3, 1) := by decide +kernel
theorem dL_law_778 : decode cL_law 778 = .ok (.iconst 0, 1) := by decide +kernel
theorem dL_law_779 : decode cL_law 779 = .ok (.laload, 1) := by decide +kernel
theorem dL_law_780 : decode cL_law 780 = .ok (.iload 6, 2) := by decide +kernel
theorem dL_law_782 : decode cL_law 782 = .ok (.i2l, 1) := by decide +kernel
theorem dL_law_783 : decode cL_law 783 = .ok (.lcmp, 1) := by decide +kernel
theorem dL_law_784 : decode cL_law 784 = .ok (.ifCond .eq 5, 3) := by decide +kernel
theorem dL_law_787 : decode cL_law 787 = .ok (.iconst 0, 1) := by decide +kernel
theorem dL_law_788 : decode cL_law 788 = .ok (.ireturn, 1) := by decide +kernel
theorem dL_law_789 : decode cL_law 789 = .ok (.goto 646, 3) := by decide +kernel
theorem dL_law_792 : decode cL_law 792 = .ok (.aload_n 1, 1) := by decide +kernel
theorem dL_law_793 : decode cL_law 793 = .ok (.aload_n 0, 1) := by decide +kernel
theorem dL_law_794 : decode cL_law 794 = .ok (.iload 4, 2) := by decide +kernel
theorem dL_law_796 : decode cL_law 796 = .ok (.iconst 1, 1) := by decide +kernel
theorem dL_law_797 : decode cL_law 797 = .ok (.iadd, 1) := by decide +kernel
theorem dL_law_798 : decode cL_law 798 = .ok (.iaload, 1) := by decide +kernel
theorem dL_law_799 : decode cL_law 799 = .ok (.aload_n 0, 1) := by decide +kernel
theorem dL_law_800 : decode cL_law 800 = .ok (.iload 4, 2) := by decide +kernel
theorem dL_law_802 : decode cL_law 802 = .ok (.iconst 2, 1) := by decide +kernel
theorem dL_law_803 : decode cL_law 803 = .ok (.iadd, 1) := by decide +kernel
theorem dL_law_804 : decode cL_law 804 = .ok (.iaload, 1) := by decide +kernel
theorem dL_law_805 : decode cL_law 805 = .ok (.aload_n 3, 1) := by decide +kernel
theorem dL_law_806 : decode cL_law 806 = .ok (.invokestatic 120, 3) := by decide +kernel
theorem dL_law_809 : decode cL_law 809 = .ok (.istore 5, 2) := by decide +kernel
theorem dL_law_811 : decode cL_law 811 = .ok (.aload_n 2, 1) := by decide +kernel
theorem dL_law_812 : decode cL_law 812 = .ok (.aload_n 0, 1) := by decide +kernel
theorem dL_law_813 : decode cL_law 813 = .ok (.iload 4, 2) := by decide +kernel
theorem dL_law_815 : decode cL_law 815 = .ok (.iconst 1, 1) := by decide +kernel
theorem dL_law_816 : decode cL_law 816 = .ok (.iadd, 1) := by decide +kernel
theorem dL_law_817 : decode cL_law 817 = .ok (.iaload, 1) := by decide +kernel
theorem dL_law_818 : decode cL_law 818 = .ok (.aload_n 0, 1) := by decide +kernel
theorem dL_law_819 : decode cL_law 819 = .ok (.iload 4, 2) := by decide +kernel
theorem dL_law_821 : decode cL_law 821 = .ok (.iconst 2, 1) := by decide +kernel
theorem dL_law_822 : decode cL_law 822 = .ok (.iadd, 1) := by decide +kernel
theorem dL_law_823 : decode cL_law 823 = .ok (.iaload, 1) := by decide +kernel
theorem dL_law_824 : decode cL_law 824 = .ok (.invokevirtual 122, 3) := by decide +kernel
theorem dL_law_827 : decode cL_law 827 = .ok (.istore 6, 2) := by decide +kernel
theorem dL_law_829 : decode cL_law 829 = .ok (.aload_n 2, 1) := by decide +kernel
theorem dL_law_830 : decode cL_law 830 = .ok (.invokevirtual 87, 3) := by decide +kernel
theorem dL_law_833 : decode cL_law 833 = .ok (.iload 5, 2) := by decide +kernel
theorem dL_law_835 : decode cL_law 835 = .ok (.if_icmp .eq 5, 3) := by decide +kernel
theorem dL_law_838 : decode cL_law 838 = .ok (.iconst 0, 1) := by decide +kernel
theorem dL_law_839 : decode cL_law 839 = .ok (.ireturn, 1) := by decide +kernel
theorem dL_law_840 : decode cL_law 840 = .ok (.iload 5, 2) := by decide +kernel
theorem dL_law_842 : decode cL_law 842 = .ok (.ifCond .ne 15, 3) := by decide +kernel
theorem dL_law_845 : decode cL_law 845 = .ok (.aload_n 3, 1) := by decide +kernel
theorem dL_law_846 : decode cL_law 846 = .ok (.iconst 0, 1) := by decide +kernel
theorem dL_law_847 : decode cL_law 847 = .ok (.laload, 1) := by decide +kernel
theorem dL_law_848 : decode cL_law 848 = .ok (.iload 6, 2) := by decide +kernel
theorem dL_law_850 : decode cL_law 850 = .ok (.i2l, 1) := by decide +kernel
theorem dL_law_851 : decode cL_law 851 = .ok (.lcmp, 1) := by decide +kernel
theorem dL_law_852 : decode cL_law 852 = .ok (.ifCond .eq 5, 3) := by decide +kernel
theorem dL_law_855 : decode cL_law 855 = .ok (.iconst 0, 1) := by decide +kernel
theorem dL_law_856 : decode cL_law 856 = .ok (.ireturn, 1) := by decide +kernel
theorem dL_law_857 : decode cL_law 857 = .ok (.goto 578, 3) := by decide +kernel
theorem dL_law_860 : decode cL_law 860 = .ok (.aload_n 1, 1) := by decide +kernel
theorem dL_law_861 : decode cL_law 861 = .ok (.aload_n 0, 1) := by decide +kernel
theorem dL_law_862 : decode cL_law 862 = .ok (.iload 4, 2) := by decide +kernel
theorem dL_law_864 : decode cL_law 864 = .ok (.iconst 1, 1) := by decide +kernel
theorem dL_law_865 : decode cL_law 865 = .ok (.iadd, 1) := by decide +kernel
theorem dL_law_866 : decode cL_law 866 = .ok (.iaload, 1) := by decide +kernel
theorem dL_law_867 : decode cL_law 867 = .ok (.aload_n 0, 1) := by decide +kernel
theorem dL_law_868 : decode cL_law 868 = .ok (.iload 4, 2) := by decide +kernel
theorem dL_law_870 : decode cL_law 870 = .ok (.iconst 2, 1) := by decide +kernel
theorem dL_law_871 : decode cL_law 871 = .ok (.iadd, 1) := by decide +kernel
theorem dL_law_872 : decode cL_law 872 = .ok (.iaload, 1) := by decide +kernel
theorem dL_law_873 : decode cL_law 873 = .ok (.aload_n 3, 1) := by decide +kernel
theorem dL_law_874 : decode cL_law 874 = .ok (.invokestatic 123, 3) := by decide +kernel
theorem dL_law_877 : decode cL_law 877 = .ok (.istore 5, 2) := by decide +kernel
theorem dL_law_879 : decode cL_law 879 = .ok (.aload_n 2, 1) := by decide +kernel
theorem dL_law_880 : decode cL_law 880 = .ok (.aload_n 0, 1) := by decide +kernel
theorem dL_law_881 : decode cL_law 881 = .ok (.iload 4, 2) := by decide +kernel
theorem dL_law_883 : decode cL_law 883 = .ok (.iconst 1, 1) := by decide +kernel
theorem dL_law_884 : decode cL_law 884 = .ok (.iadd, 1) := by decide +kernel
theorem dL_law_885 : decode cL_law 885 = .ok (.iaload, 1) := by decide +kernel
theorem dL_law_886 : decode cL_law 886 = .ok (.aload_n 0, 1) := by decide +kernel
theorem dL_law_887 : decode cL_law 887 = .ok (.iload 4, 2) := by decide +kernel
theorem dL_law_889 : decode cL_law 889 = .ok (.iconst 2, 1) := by decide +kernel
theorem dL_law_890 : decode cL_law 890 = .ok (.iadd, 1) := by decide +kernel
theorem dL_law_891 : decode cL_law 891 = .ok (.iaload, 1) := by decide +kernel
theorem dL_law_892 : decode cL_law 892 = .ok (.invokevirtual 125, 3) := by decide +kernel
theorem dL_law_895 : decode cL_law 895 = .ok (.istore 6, 2) := by decide +kernel
theorem dL_law_897 : decode cL_law 897 = .ok (.aload_n 2, 1) := by decide +kernel
theorem dL_law_898 : decode cL_law 898 = .ok (.invokevirtual 87, 3) := by decide +kernel
theorem dL_law_901 : decode cL_law 901 = .ok (.iload 5, 2) := by decide +kernel
theorem dL_law_903 : decode cL_law 903 = .ok (.if_icmp .eq 5, 3) := by decide +kernel
theorem dL_law_906 : decode cL_law 906 = .ok (.iconst 0, 1) := by decide +kernel
theorem dL_law_907 : decode cL_law 907 = .ok (.ireturn, 1) := by decide +kernel
theorem dL_law_908 : decode cL_law 908 = .ok (.iload 5, 2) := by decide +kernel
theorem dL_law_910 : decode cL_law 910 = .ok (.ifCond .ne 15, 3) := by decide +kernel
theorem dL_law_913 : decode cL_law 913 = .ok (.aload_n 3, 1) := by decide +kernel
theorem dL_law_914 : decode cL_law 914 = .ok (.iconst 0, 1) := by decide +kernel
theorem dL_law_915 : decode cL_law 915 = .ok (.laload, 1) := by decide +kernel
theorem dL_law_916 : decode cL_law 916 = .ok (.iload 6, 2) := by decide +kernel
theorem dL_law_918 : decode cL_law 918 = .ok (.i2l, 1) := by decide +kernel
theorem dL_law_919 : decode cL_law 919 = .ok (.lcmp, 1) := by decide +kernel
theorem dL_law_920 : decode cL_law 920 = .ok (.ifCond .eq 5, 3) := by decide +kernel
theorem dL_law_923 : decode cL_law 923 = .ok (.iconst 0, 1) := by decide +kernel
theorem dL_law_924 : decode cL_law 924 = .ok (.ireturn, 1) := by decide +kernel
theorem dL_law_925 : decode cL_law 925 = .ok (.goto 510, 3) := by decide +kernel
theorem dL_law_928 : decode cL_law 928 = .ok (.aload_n 1, 1) := by decide +kernel
theorem dL_law_929 : decode cL_law 929 = .ok (.aload_n 0, 1) := by decide +kernel
theorem dL_law_930 : decode cL_law 930 = .ok (.iload 4, 2) := by decide +kernel
theorem dL_law_932 : decode cL_law 932 = .ok (.iconst 1, 1) := by decide +kernel
theorem dL_law_933 : decode cL_law 933 = .ok (.iadd, 1) := by decide +kernel
theorem dL_law_934 : decode cL_law 934 = .ok (.iaload, 1) := by decide +kernel
theorem dL_law_935 : decode cL_law 935 = .ok (.aload_n 0, 1) := by decide +kernel
theorem dL_law_936 : decode cL_law 936 = .ok (.iload 4, 2) := by decide +kernel
theorem dL_law_938 : decode cL_law 938 = .ok (.iconst 2, 1) := by decide +kernel
theorem dL_law_939 : decode cL_law 939 = .ok (.iadd, 1) := by decide +kernel
theorem dL_law_940 : decode cL_law 940 = .ok (.iaload, 1) := by decide +kernel
theorem dL_law_941 : decode cL_law 941 = .ok (.aload_n 3, 1) := by decide +kernel
theorem dL_law_942 : decode cL_law 942 = .ok (.invokestatic 126, 3) := by decide +kernel
theorem dL_law_945 : decode cL_law 945 = .ok (.istore 5, 2) := by decide +kernel
theorem dL_law_947 : decode cL_law 947 = .ok (.aload_n 2, 1) := by decide +kernel
theorem dL_law_948 : decode cL_law 948 = .ok (.aload_n 0, 1) := by decide +kernel
theorem dL_law_949 : decode cL_law 949 = .ok (.iload 4, 2) := by decide +kernel
theorem dL_law_951 : decode cL_law 951 = .ok (.iconst 1, 1) := by decide +kernel
theorem dL_law_952 : decode cL_law 952 = .ok (.iadd, 1) := by decide +kernel
theorem dL_law_953 : decode cL_law 953 = .ok (.iaload, 1) := by decide +kernel
theorem dL_law_954 : decode cL_law 954 = .ok (.aload_n 0, 1) := by decide +kernel
theorem dL_law_955 : decode cL_law 955 = .ok (.iload 4, 2) := by decide +kernel
theorem dL_law_957 : decode cL_law 957 = .ok (.iconst 2, 1) := by decide +kernel
theorem dL_law_958 : decode cL_law 958 = .ok (.iadd, 1) := by decide +kernel
theorem dL_law_959 : decode cL_law 959 = .ok (.iaload, 1) := by decide +kernel
theorem dL_law_960 : decode cL_law 960 = .ok (.invokevirtual 128, 3) := by decide +kernel
theorem dL_law_963 : decode cL_law 963 = .ok (.istore 6, 2) := by decide +kernel
theorem dL_law_965 : decode cL_law 965 = .ok (.aload_n 2, 1) := by decide +kernel
theorem dL_law_966 : decode cL_law 966 = .ok (.invokevirtual 87, 3) := by decide +kernel
theorem dL_law_969 : decode cL_law 969 = .ok (.iload 5, 2) := by decide +kernel
theorem dL_law_971 : decode cL_law 971 = .ok (.if_icmp .eq 5, 3) := by decide +kernel
theorem dL_law_974 : decode cL_law 974 = .ok (.iconst 0, 1) := by decide +kernel
theorem dL_law_975 : decode cL_law 975 = .ok (.ireturn, 1) := by decide +kernel
theorem dL_law_976 : decode cL_law 976 = .ok (.iload 5, 2) := by decide +kernel
theorem dL_law_978 : decode cL_law 978 = .ok (.ifCond .ne 15, 3) := by decide +kernel
theorem dL_law_981 : decode cL_law 981 = .ok (.aload_n 3, 1) := by decide +kernel
theorem dL_law_982 : decode cL_law 982 = .ok (.iconst 0, 1) := by decide +kernel
theorem dL_law_983 : decode cL_law 983 = .ok (.laload, 1) := by decide +kernel
theorem dL_law_984 : decode cL_law 984 = .ok (.iload 6, 2) := by decide +kernel
theorem dL_law_986 : decode cL_law 986 = .ok (.i2l, 1) := by decide +kernel
theorem dL_law_987 : decode cL_law 987 = .ok (.lcmp, 1) := by decide +kernel
theorem dL_law_988 : decode cL_law 988 = .ok (.ifCond .eq 5, 3) := by decide +kernel
theorem dL_law_991 : decode cL_law 991 = .ok (.iconst 0, 1) := by decide +kernel
theorem dL_law_992 : decode cL_law 992 = .ok (.ireturn, 1) := by decide +kernel
theorem dL_law_993 : decode cL_law 993 = .ok (.goto 442, 3) := by decide +kernel
theorem dL_law_996 : decode cL_law 996 = .ok (.aload_n 1, 1) := by decide +kernel
theorem dL_law_997 : decode cL_law 997 = .ok (.aload_n 0, 1) := by decide +kernel
theorem dL_law_998 : decode cL_law 998 = .ok (.iload 4, 2) := by decide +kernel
theorem dL_law_1000 : decode cL_law 1000 = .ok (.iconst 1, 1) := by decide +kernel
theorem dL_law_1001 : decode cL_law 1001 = .ok (.iadd, 1) := by decide +kernel
theorem dL_law_1002 : decode cL_law 1002 = .ok (.iaload, 1) := by decide +kernel
theorem dL_law_1003 : decode cL_law 1003 = .ok (.aload_n 0, 1) := by decide +kernel
theorem dL_law_1004 : decode cL_law 1004 = .ok (.iload 4, 2) := by decide +kernel
theorem dL_law_1006 : decode cL_law 1006 = .ok (.iconst 2, 1) := by decide +kernel
theorem dL_law_1007 : decode cL_law 1007 = .ok (.iadd, 1) := by decide +kernel
theorem dL_law_1008 : decode cL_law 1008 = .ok (.iaload, 1) := by decide +kernel
theorem dL_law_1009 : decode cL_law 1009 = .ok (.aload_n 3, 1) := by decide +kernel
theorem dL_law_1010 : decode cL_law 1010 = .ok (.invokestatic 129, 3) := by decide +kernel
theorem dL_law_1013 : decode cL_law 1013 = .ok (.istore 5, 2) := by decide +kernel
theorem dL_law_1015 : decode cL_law 1015 = .ok (.aload_n 2, 1) := by decide +kernel
theorem dL_law_1016 : decode cL_law 1016 = .ok (.aload_n 0, 1) := by decide +kernel
theorem dL_law_1017 : decode cL_law 1017 = .ok (.iload 4, 2) := by decide +kernel
theorem dL_law_1019 : decode cL_law 1019 = .ok (.iconst 1, 1) := by decide +kernel
theorem dL_law_1020 : decode cL_law 1020 = .ok (.iadd, 1) := by decide +kernel
theorem dL_law_1021 : decode cL_law 1021 = .ok (.iaload, 1) := by decide +kernel
theorem dL_law_1022 : decode cL_law 1022 = .ok (.aload_n 0, 1) := by decide +kernel
theorem dL_law_1023 : decode cL_law 1023 = .ok (.iload 4, 2) := by decide +kernel
theorem dL_law_1025 : decode cL_law 1025 = .ok (.iconst 2, 1) := by decide +kernel
theorem dL_law_1026 : decode cL_law 1026 = .ok (.iadd, 1) := by decide +kernel
theorem dL_law_1027 : decode cL_law 1027 = .ok (.iaload, 1) := by decide +kernel
theorem dL_law_1028 : decode cL_law 1028 = .ok (.invokevirtual 131, 3) := by decide +kernel
theorem dL_law_1031 : decode cL_law 1031 = .ok (.istore 6, 2) := by decide +kernel
theorem dL_law_1033 : decode cL_law 1033 = .ok (.aload_n 2, 1) := by decide +kernel
theorem dL_law_1034 : decode cL_law 1034 = .ok (.invokevirtual 87, 3) := by decide +kernel
theorem dL_law_1037 : decode cL_law 1037 = .ok (.iload 5, 2) := by decide +kernel
theorem dL_law_1039 : decode cL_law 1039 = .ok (.if_icmp .eq 5, 3) := by decide +kernel
theorem dL_law_1042 : decode cL_law 1042 = .ok (.iconst 0, 1) := by decide +kernel
theorem dL_law_1043 : decode cL_law 1043 = .ok (.ireturn, 1) := by decide +kernel
theorem dL_law_1044 : decode cL_law 1044 = .ok (.iload 5, 2) := by decide +kernel
theorem dL_law_1046 : decode cL_law 1046 = .ok (.ifCond .ne 15, 3) := by decide +kernel
theorem dL_law_1049 : decode cL_law 1049 = .ok (.aload_n 3, 1) := by decide +kernel
theorem dL_law_1050 : decode cL_law 1050 = .ok (.iconst 0, 1) := by decide +kernel
theorem dL_law_1051 : decode cL_law 1051 = .ok (.laload, 1) := by decide +kernel
theorem dL_law_1052 : decode cL_law 1052 = .ok (.iload 6, 2) := by decide +kernel
theorem dL_law_1054 : decode cL_law 1054 = .ok (.i2l, 1) := by decide +kernel
theorem dL_law_1055 : decode cL_law 1055 = .ok (.lcmp, 1) := by decide +kernel
theorem dL_law_1056 : decode cL_law 1056 = .ok (.ifCond .eq 5, 3) := by decide +kernel
theorem dL_law_1059 : decode cL_law 1059 = .ok (.iconst 0, 1) := by decide +kernel
theorem dL_law_1060 : decode cL_law 1060 = .ok (.ireturn, 1) := by decide +kernel
theorem dL_law_1061 : decode cL_law 1061 = .ok (.goto 374, 3) := by decide +kernel
theorem dL_law_1064 : decode cL_law 1064 = .ok (.aload_n 1, 1) := by decide +kernel
theorem dL_law_1065 : decode cL_law 1065 = .ok (.aload_n 0, 1) := by decide +kernel
theorem dL_law_1066 : decode cL_law 1066 = .ok (.iload 4, 2) := by decide +kernel
theorem dL_law_1068 : decode cL_law 1068 = .ok (.iconst 1, 1) := by decide +kernel
theorem dL_law_1069 : decode cL_law 1069 = .ok (.iadd, 1) := by decide +kernel
theorem dL_law_1070 : decode cL_law 1070 = .ok (.iaload, 1) := by decide +kernel
theorem dL_law_1071 : decode cL_law 1071 = .ok (.aload_n 3, 1) := by decide +kernel
theorem dL_law_1072 : decode cL_law 1072 = .ok (.invokestatic 132, 3) := by decide +kernel
theorem dL_law_1075 : decode cL_law 1075 = .ok (.istore 5, 2) := by decide +kernel
theorem dL_law_1077 : decode cL_law 1077 = .ok (.aload_n 2, 1) := by decide +kernel
theorem dL_law_1078 : decode cL_law 1078 = .ok (.aload_n 0, 1) := by decide +kernel
theorem dL_law_1079 : decode cL_law 1079 = .ok (.iload 4, 2) := by decide +kernel
theorem dL_law_1081 : decode cL_law 1081 = .ok (.iconst 1, 1) := by decide +kernel
theorem dL_law_1082 : decode cL_law 1082 = .ok (.iadd, 1) := by decide +kernel
theorem dL_law_1083 : decode cL_law 1083 = .ok (.iaload, 1) := by decide +kernel
theorem dL_law_1084 : decode cL_law 1084 = .ok (.invokevirtual 134, 3) := by decide +kernel
theorem dL_law_1087 : decode cL_law 1087 = .ok (.istore 6, 2) := by decide +kernel
theorem dL_law_1089 : decode cL_law 1089 = .ok (.aload_n 2, 1) := by decide +kernel
theorem dL_law_1090 : decode cL_law 1090 = .ok (.invokevirtual 87, 3) := by decide +kernel
theorem dL_law_1093 : decode cL_law 1093 = .ok (.iload 5, 2) := by decide +kernel
theorem dL_law_1095 : decode cL_law 1095 = .ok (.if_icmp .eq 5, 3) := by decide +kernel
theorem dL_law_1098 : decode cL_law 1098 = .ok (.iconst 0, 1) := by decide +kernel
theorem dL_law_1099 : decode cL_law 1099 = .ok (.ireturn, 1) := by decide +kernel
theorem dL_law_1100 : decode cL_law 1100 = .ok (.iload 5, 2) := by decide +kernel
theorem dL_law_1102 : decode cL_law 1102 = .ok (.ifCond .ne 15, 3) := by decide +kernel
theorem dL_law_1105 : decode cL_law 1105 = .ok (.aload_n 3, 1) := by decide +kernel
theorem dL_law_1106 : decode cL_law 1106 = .ok (.iconst 0, 1) := by decide +kernel
theorem dL_law_1107 : decode cL_law 1107 = .ok (.laload, 1) := by decide +kernel
theorem dL_law_1108 : decode cL_law 1108 = .ok (.iload 6, 2) := by decide +kernel
theorem dL_law_1110 : decode cL_law 1110 = .ok (.i2l, 1) := by decide +kernel
theorem dL_law_1111 : decode cL_law 1111 = .ok (.lcmp, 1) := by decide +kernel
theorem dL_law_1112 : decode cL_law 1112 = .ok (.ifCond .eq 5, 3) := by decide +kernel
theorem dL_law_1115 : decode cL_law 1115 = .ok (.iconst 0, 1) := by decide +kernel
theorem dL_law_1116 : decode cL_law 1116 = .ok (.ireturn, 1) := by decide +kernel
theorem dL_law_1117 : decode cL_law 1117 = .ok (.goto 318, 3) := by decide +kernel
theorem dL_law_1120 : decode cL_law 1120 = .ok (.aload_n 1, 1) := by decide +kernel
theorem dL_law_1121 : decode cL_law 1121 = .ok (.aload_n 0, 1) := by decide +kernel
theorem dL_law_1122 : decode cL_law 1122 = .ok (.iload 4, 2) := by decide +kernel
theorem dL_law_1124 : decode cL_law 1124 = .ok (.iconst 1, 1) := by decide +kernel
theorem dL_law_1125 : decode cL_law 1125 = .ok (.iadd, 1) := by decide +kernel
theorem dL_law_1126 : decode cL_law 1126 = .ok (.iaload, 1) := by decide +kernel
theorem dL_law_1127 : decode cL_law 1127 = .ok (.aload_n 3, 1) := by decide +kernel
theorem dL_law_1128 : decode cL_law 1128 = .ok (.invokestatic 135, 3) := by decide +kernel
theorem dL_law_1131 : decode cL_law 1131 = .ok (.istore 5, 2) := by decide +kernel
theorem dL_law_1133 : decode cL_law 1133 = .ok (.aload_n 2, 1) := by decide +kernel
theorem dL_law_1134 : decode cL_law 1134 = .ok (.aload_n 0, 1) := by decide +kernel
theorem dL_law_1135 : decode cL_law 1135 = .ok (.iload 4, 2) := by decide +kernel
theorem dL_law_1137 : decode cL_law 1137 = .ok (.iconst 1, 1) := by decide +kernel
theorem dL_law_1138 : decode cL_law 1138 = .ok (.iadd, 1) := by decide +kernel
theorem dL_law_1139 : decode cL_law 1139 = .ok (.iaload, 1) := by decide +kernel
theorem dL_law_1140 : decode cL_law 1140 = .ok (.invokevirtual 137, 3) := by decide +kernel
theorem dL_law_1143 : decode cL_law 1143 = .ok (.istore 6, 2) := by decide +kernel
theorem dL_law_1145 : decode cL_law 1145 = .ok (.aload_n 2, 1) := by decide +kernel
theorem dL_law_1146 : decode cL_law 1146 = .ok (.invokevirtual 87, 3) := by decide +kernel
theorem dL_law_1149 : decode cL_law 1149 = .ok (.iload 5, 2) := by decide +kernel
theorem dL_law_1151 : decode cL_law 1151 = .ok (.if_icmp .eq 5, 3) := by decide +kernel
theorem dL_law_1154 : decode cL_law 1154 = .ok (.iconst 0, 1) := by decide +kernel
theorem dL_law_1155 : decode cL_law 1155 = .ok (.ireturn, 1) := by decide +kernel
theorem dL_law_1156 : decode cL_law 1156 = .ok (.iload 5, 2) := by decide +kernel
theorem dL_law_1158 : decode cL_law 1158 = .ok (.ifCond .ne 15, 3) := by decide +kernel
theorem dL_law_1161 : decode cL_law 1161 = .ok (.aload_n 3, 1) := by decide +kernel
theorem dL_law_1162 : decode cL_law 1162 = .ok (.iconst 0, 1) := by decide +kernel
theorem dL_law_1163 : decode cL_law 1163 = .ok (.laload, 1) := by decide +kernel
theorem dL_law_1164 : decode cL_law 1164 = .ok (.iload 6, 2) := by decide +kernel
theorem dL_law_1166 : decode cL_law 1166 = .ok (.i2l, 1) := by decide +kernel
theorem dL_law_1167 : decode cL_law 1167 = .ok (.lcmp, 1) := by decide +kernel
theorem dL_law_1168 : decode cL_law 1168 = .ok (.ifCond .eq 5, 3) := by decide +kernel
theorem dL_law_1171 : decode cL_law 1171 = .ok (.iconst 0, 1) := by decide +kernel
theorem dL_law_1172 : decode cL_law 1172 = .ok (.ireturn, 1) := by decide +kernel
theorem dL_law_1173 : decode cL_law 1173 = .ok (.goto 262, 3) := by decide +kernel
theorem dL_law_1176 : decode cL_law 1176 = .ok (.aload_n 1, 1) := by decide +kernel
theorem dL_law_1177 : decode cL_law 1177 = .ok (.aload_n 0, 1) := by decide +kernel
theorem dL_law_1178 : decode cL_law 1178 = .ok (.iload 4, 2) := by decide +kernel
theorem dL_law_1180 : decode cL_law 1180 = .ok (.iconst 1, 1) := by decide +kernel
theorem dL_law_1181 : decode cL_law 1181 = .ok (.iadd, 1) := by decide +kernel
theorem dL_law_1182 : decode cL_law 1182 = .ok (.iaload, 1) := by decide +kernel
theorem dL_law_1183 : decode cL_law 1183 = .ok (.aload_n 0, 1) := by decide +kernel
theorem dL_law_1184 : decode cL_law 1184 = .ok (.iload 4, 2) := by decide +kernel
theorem dL_law_1186 : decode cL_law 1186 = .ok (.iconst 2, 1) := by decide +kernel
theorem dL_law_1187 : decode cL_law 1187 = .ok (.iadd, 1) := by decide +kernel
theorem dL_law_1188 : decode cL_law 1188 = .ok (.iaload, 1) := by decide +kernel
theorem dL_law_1189 : decode cL_law 1189 = .ok (.aload_n 0, 1) := by decide +kernel
theorem dL_law_1190 : decode cL_law 1190 = .ok (.iload 4, 2) := by decide +kernel
theorem dL_law_1192 : decode cL_law 1192 = .ok (.iconst 3, 1) := by decide +kernel
theorem dL_law_1193 : decode cL_law 1193 = .ok (.iadd, 1) := by decide +kernel
theorem dL_law_1194 : decode cL_law 1194 = .ok (.iaload, 1) := by decide +kernel
theorem dL_law_1195 : decode cL_law 1195 = .ok (.aload_n 3, 1) := by decide +kernel
theorem dL_law_1196 : decode cL_law 1196 = .ok (.invokestatic 138, 3) := by decide +kernel
theorem dL_law_1199 : decode cL_law 1199 = .ok (.istore 5, 2) := by decide +kernel
theorem dL_law_1201 : decode cL_law 1201 = .ok (.aload_n 2, 1) := by decide +kernel
theorem dL_law_1202 : decode cL_law 1202 = .ok (.aload_n 0, 1) := by decide +kernel
theorem dL_law_1203 : decode cL_law 1203 = .ok (.iload 4, 2) := by decide +kernel
theorem dL_law_1205 : decode cL_law 1205 = .ok (.iconst 1, 1) := by decide +kernel
theorem dL_law_1206 : decode cL_law 1206 = .ok (.iadd, 1) := by decide +kernel
theorem dL_law_1207 : decode cL_law 1207 = .ok (.iaload, 1) := by decide +kernel
theorem dL_law_1208 : decode cL_law 1208 = .ok (.aload_n 0, 1) := by decide +kernel
theorem dL_law_1209 : decode cL_law 1209 = .ok (.iload 4, 2) := by decide +kernel
theorem dL_law_1211 : decode cL_law 1211 = .ok (.iconst 2, 1) := by decide +kernel
theorem dL_law_1212 : decode cL_law 1212 = .ok (.iadd, 1) := by decide +kernel
theorem dL_law_1213 : decode cL_law 1213 = .ok (.iaload, 1) := by decide +kernel
theorem dL_law_1214 : decode cL_law 1214 = .ok (.aload_n 0, 1) := by decide +kernel
theorem dL_law_1215 : decode cL_law 1215 = .ok (.iload 4, 2) := by decide +kernel
theorem dL_law_1217 : decode cL_law 1217 = .ok (.iconst 3, 1) := by decide +kernel
theorem dL_law_1218 : decode cL_law 1218 = .ok (.iadd, 1) := by decide +kernel
theorem dL_law_1219 : decode cL_law 1219 = .ok (.iaload, 1) := by decide +kernel
theorem dL_law_1220 : decode cL_law 1220 = .ok (.invokevirtual 141, 3) := by decide +kernel
theorem dL_law_1223 : decode cL_law 1223 = .ok (.istore 6, 2) := by decide +kernel
theorem dL_law_1225 : decode cL_law 1225 = .ok (.aload_n 2, 1) := by decide +kernel
theorem dL_law_1226 : decode cL_law 1226 = .ok (.invokevirtual 87, 3) := by decide +kernel
theorem dL_law_1229 : decode cL_law 1229 = .ok (.iload 5, 2) := by decide +kernel
theorem dL_law_1231 : decode cL_law 1231 = .ok (.if_icmp .eq 5, 3) := by decide +kernel
theorem dL_law_1234 : decode cL_law 1234 = .ok (.iconst 0, 1) := by decide +kernel
theorem dL_law_1235 : decode cL_law 1235 = .ok (.ireturn, 1) := by decide +kernel
theorem dL_law_1236 : decode cL_law 1236 = .ok (.iload 5, 2) := by decide +kernel
theorem dL_law_1238 : decode cL_law 1238 = .ok (.ifCond .ne 15, 3) := by decide +kernel
theorem dL_law_1241 : decode cL_law 1241 = .ok (.aload_n 3, 1) := by decide +kernel
theorem dL_law_1242 : decode cL_law 1242 = .ok (.iconst 0, 1) := by decide +kernel
theorem dL_law_1243 : decode cL_law 1243 = .ok (.laload, 1) := by decide +kernel
theorem dL_law_1244 : decode cL_law 1244 = .ok (.iload 6, 2) := by decide +kernel
theorem dL_law_1246 : decode cL_law 1246 = .ok (.i2l, 1) := by decide +kernel
theorem dL_law_1247 : decode cL_law 1247 = .ok (.lcmp, 1) := by decide +kernel
theorem dL_law_1248 : decode cL_law 1248 = .ok (.ifCond .eq 5, 3) := by decide +kernel
theorem dL_law_1251 : decode cL_law 1251 = .ok (.iconst 0, 1) := by decide +kernel
theorem dL_law_1252 : decode cL_law 1252 = .ok (.ireturn, 1) := by decide +kernel
theorem dL_law_1253 : decode cL_law 1253 = .ok (.goto 182, 3) := by decide +kernel
theorem dL_law_1256 : decode cL_law 1256 = .ok (.aload_n 1, 1) := by decide +kernel
theorem dL_law_1257 : decode cL_law 1257 = .ok (.aload_n 0, 1) := by decide +kernel
theorem dL_law_1258 : decode cL_law 1258 = .ok (.iload 4, 2) := by decide +kernel
theorem dL_law_1260 : decode cL_law 1260 = .ok (.iconst 1, 1) := by decide +kernel
theorem dL_law_1261 : decode cL_law 1261 = .ok (.iadd, 1) := by decide +kernel
theorem dL_law_1262 : decode cL_law 1262 = .ok (.iaload, 1) := by decide +kernel
theorem dL_law_1263 : decode cL_law 1263 = .ok (.aload_n 3, 1) := by decide +kernel
theorem dL_law_1264 : decode cL_law 1264 = .ok (.invokestatic 142, 3) := by decide +kernel
theorem dL_law_1267 : decode cL_law 1267 = .ok (.istore 5, 2) := by decide +kernel
theorem dL_law_1269 : decode cL_law 1269 = .ok (.aload_n 2, 1) := by decide +kernel
theorem dL_law_1270 : decode cL_law 1270 = .ok (.aload_n 0, 1) := by decide +kernel
theorem dL_law_1271 : decode cL_law 1271 = .ok (.iload 4, 2) := by decide +kernel
theorem dL_law_1273 : decode cL_law 1273 = .ok (.iconst 1, 1) := by decide +kernel
theorem dL_law_1274 : decode cL_law 1274 = .ok (.iadd, 1) := by decide +kernel
theorem dL_law_1275 : decode cL_law 1275 = .ok (.iaload, 1) := by decide +kernel
theorem dL_law_1276 : decode cL_law 1276 = .ok (.invokevirtual 144, 3) := by decide +kernel
theorem dL_law_1279 : decode cL_law 1279 = .ok (.istore 6, 2) := by decide +kernel
theorem dL_law_1281 : decode cL_law 1281 = .ok (.aload_n 2, 1) := by decide +kernel
theorem dL_law_1282 : decode cL_law 1282 = .ok (.invokevirtual 87, 3) := by decide +kernel
theorem dL_law_1285 : decode cL_law 1285 = .ok (.iload 5, 2) := by decide +kernel
theorem dL_law_1287 : decode cL_law 1287 = .ok (.if_icmp .eq 5, 3) := by decide +kernel
theorem dL_law_1290 : decode cL_law 1290 = .ok (.iconst 0, 1) := by decide +kernel
theorem dL_law_1291 : decode cL_law 1291 = .ok (.ireturn, 1) := by decide +kernel
theorem dL_law_1292 : decode cL_law 1292 = .ok (.iload 5, 2) := by decide +kernel
theorem dL_law_1294 : decode cL_law 1294 = .ok (.ifCond .ne 15, 3) := by decide +kernel
theorem dL_law_1297 : decode cL_law 1297 = .ok (.aload_n 3, 1) := by decide +kernel
theorem dL_law_1298 : decode cL_law 1298 = .ok (.iconst 0, 1) := by decide +kernel
theorem dL_law_1299 : decode cL_law 1299 = .ok (.laload, 1) := by decide +kernel
theorem dL_law_1300 : decode cL_law 1300 = .ok (.iload 6, 2) := by decide +kernel
theorem dL_law_1302 : decode cL_law 1302 = .ok (.i2l, 1) := by decide +kernel
theorem dL_law_1303 : decode cL_law 1303 = .ok (.lcmp, 1) := by decide +kernel
theorem dL_law_1304 : decode cL_law 1304 = .ok (.ifCond .eq 5, 3) := by decide +kernel
theorem dL_law_1307 : decode cL_law 1307 = .ok (.iconst 0, 1) := by decide +kernel
theorem dL_law_1308 : decode cL_law 1308 = .ok (.ireturn, 1) := by decide +kernel
theorem dL_law_1309 : decode cL_law 1309 = .ok (.goto 126, 3) := by decide +kernel
theorem dL_law_1312 : decode cL_law 1312 = .ok (.aload_n 1, 1) := by decide +kernel
theorem dL_law_1313 : decode cL_law 1313 = .ok (.aload_n 0, 1) := by decide +kernel
theorem dL_law_1314 : decode cL_law 1314 = .ok (.iload 4, 2) := by decide +kernel
theorem dL_law_1316 : decode cL_law 1316 = .ok (.iconst 1, 1) := by decide +kernel
theorem dL_law_1317 : decode cL_law 1317 = .ok (.iadd, 1) := by decide +kernel
theorem dL_law_1318 : decode cL_law 1318 = .ok (.iaload, 1) := by decide +kernel
theorem dL_law_1319 : decode cL_law 1319 = .ok (.aload_n 0, 1) := by decide +kernel
theorem dL_law_1320 : decode cL_law 1320 = .ok (.iload 4, 2) := by decide +kernel
theorem dL_law_1322 : decode cL_law 1322 = .ok (.iconst 2, 1) := by decide +kernel
theorem dL_law_1323 : decode cL_law 1323 = .ok (.iadd, 1) := by decide +kernel
theorem dL_law_1324 : decode cL_law 1324 = .ok (.iaload, 1) := by decide +kernel
theorem dL_law_1325 : decode cL_law 1325 = .ok (.aload_n 3, 1) := by decide +kernel
theorem dL_law_1326 : decode cL_law 1326 = .ok (.invokestatic 145, 3) := by decide +kernel
theorem dL_law_1329 : decode cL_law 1329 = .ok (.istore 5, 2) := by decide +kernel
theorem dL_law_1331 : decode cL_law 1331 = .ok (.aload_n 2, 1) := by decide +kernel
theorem dL_law_1332 : decode cL_law 1332 = .ok (.aload_n 0, 1) := by decide +kernel
theorem dL_law_1333 : decode cL_law 1333 = .ok (.iload 4, 2) := by decide +kernel
theorem dL_law_1335 : decode cL_law 1335 = .ok (.iconst 1, 1) := by decide +kernel
theorem dL_law_1336 : decode cL_law 1336 = .ok (.iadd, 1) := by decide +kernel
theorem dL_law_1337 : decode cL_law 1337 = .ok (.iaload, 1) := by decide +kernel
theorem dL_law_1338 : decode cL_law 1338 = .ok (.aload_n 0, 1) := by decide +kernel
theorem dL_law_1339 : decode cL_law 1339 = .ok (.iload 4, 2) := by decide +kernel
theorem dL_law_1341 : decode cL_law 1341 = .ok (.iconst 2, 1) := by decide +kernel
theorem dL_law_1342 : decode cL_law 1342 = .ok (.iadd, 1) := by decide +kernel
theorem dL_law_1343 : decode cL_law 1343 = .ok (.iaload, 1) := by decide +kernel
theorem dL_law_1344 : decode cL_law 1344 = .ok (.invokevirtual 147, 3) := by decide +kernel
theorem dL_law_1347 : decode cL_law 1347 = .ok (.istore 6, 2) := by decide +kernel
theorem dL_law_1349 : decode cL_law 1349 = .ok (.aload_n 2, 1) := by decide +kernel
theorem dL_law_1350 : decode cL_law 1350 = .ok (.invokevirtual 87, 3) := by decide +kernel
theorem dL_law_1353 : decode cL_law 1353 = .ok (.iload 5, 2) := by decide +kernel
theorem dL_law_1355 : decode cL_law 1355 = .ok (.if_icmp .eq 5, 3) := by decide +kernel
theorem dL_law_1358 : decode cL_law 1358 = .ok (.iconst 0, 1) := by decide +kernel
theorem dL_law_1359 : decode cL_law 1359 = .ok (.ireturn, 1) := by decide +kernel
theorem dL_law_1360 : decode cL_law 1360 = .ok (.iload 5, 2) := by decide +kernel
theorem dL_law_1362 : decode cL_law 1362 = .ok (.ifCond .ne 15, 3) := by decide +kernel
theorem dL_law_1365 : decode cL_law 1365 = .ok (.aload_n 3, 1) := by decide +kernel
theorem dL_law_1366 : decode cL_law 1366 = .ok (.iconst 0, 1) := by decide +kernel
theorem dL_law_1367 : decode cL_law 1367 = .ok (.laload, 1) := by decide +kernel
theorem dL_law_1368 : decode cL_law 1368 = .ok (.iload 6, 2) := by decide +kernel
theorem dL_law_1370 : decode cL_law 1370 = .ok (.i2l, 1) := by decide +kernel
theorem dL_law_1371 : decode cL_law 1371 = .ok (.lcmp, 1) := by decide +kernel
theorem dL_law_1372 : decode cL_law 1372 = .ok (.ifCond .eq 5, 3) := by decide +kernel
theorem dL_law_1375 : decode cL_law 1375 = .ok (.iconst 0, 1) := by decide +kernel
theorem dL_law_1376 : decode cL_law 1376 = .ok (.ireturn, 1) := by decide +kernel
theorem dL_law_1377 : decode cL_law 1377 = .ok (.goto 58, 3) := by decide +kernel
theorem dL_law_1380 : decode cL_law 1380 = .ok (.aload_n 1, 1) := by decide +kernel
theorem dL_law_1381 : decode cL_law 1381 = .ok (.invokevirtual 148, 3) := by decide +kernel
theorem dL_law_1384 : decode cL_law 1384 = .ok (.dstore 5, 2) := by decide +kernel
theorem dL_law_1386 : decode cL_law 1386 = .ok (.aload_n 2, 1) := by decide +kernel
theorem dL_law_1387 : decode cL_law 1387 = .ok (.invokevirtual 152, 3) := by decide +kernel
theorem dL_law_1390 : decode cL_law 1390 = .ok (.dstore 7, 2) := by decide +kernel
theorem dL_law_1392 : decode cL_law 1392 = .ok (.dload 5, 2) := by decide +kernel
theorem dL_law_1394 : decode cL_law 1394 = .ok (.dload 7, 2) := by decide +kernel
theorem dL_law_1396 : decode cL_law 1396 = .ok (.dcmp .l, 1) := by decide +kernel
theorem dL_law_1397 : decode cL_law 1397 = .ok (.ifCond .eq 21, 3) := by decide +kernel
theorem dL_law_1400 : decode cL_law 1400 = .ok (.dload 5, 2) := by decide +kernel
theorem dL_law_1402 : decode cL_law 1402 = .ok (.dload 5, 2) := by decide +kernel
theorem dL_law_1404 : decode cL_law 1404 = .ok (.dcmp .l, 1) := by decide +kernel
theorem dL_law_1405 : decode cL_law 1405 = .ok (.ifCond .eq 11, 3) := by decide +kernel
theorem dL_law_1408 : decode cL_law 1408 = .ok (.dload 7, 2) := by decide +kernel
theorem dL_law_1410 : decode cL_law 1410 = .ok (.dload 7, 2) := by decide +kernel
theorem dL_law_1412 : decode cL_law 1412 = .ok (.dcmp .l, 1) := by decide +kernel
theorem dL_law_1413 : decode cL_law 1413 = .ok (.ifCond .ne 5, 3) := by decide +kernel
theorem dL_law_1416 : decode cL_law 1416 = .ok (.iconst 0, 1) := by decide +kernel
theorem dL_law_1417 : decode cL_law 1417 = .ok (.ireturn, 1) := by decide +kernel
theorem dL_law_1418 : decode cL_law 1418 = .ok (.goto 17, 3) := by decide +kernel
theorem dL_law_1421 : decode cL_law 1421 = .ok (.aload_n 1, 1) := by decide +kernel
theorem dL_law_1422 : decode cL_law 1422 = .ok (.invokevirtual 153, 3) := by decide +kernel
theorem dL_law_1425 : decode cL_law 1425 = .ok (.aload_n 2, 1) := by decide +kernel
theorem dL_law_1426 : decode cL_law 1426 = .ok (.invokevirtual 157, 3) := by decide +kernel
theorem dL_law_1429 : decode cL_law 1429 = .ok (.lcmp, 1) := by decide +kernel
theorem dL_law_1430 : decode cL_law 1430 = .ok (.ifCond .eq 5, 3) := by decide +kernel
theorem dL_law_1433 : decode cL_law 1433 = .ok (.iconst 0, 1) := by decide +kernel
theorem dL_law_1434 : decode cL_law 1434 = .ok (.ireturn, 1) := by decide +kernel
theorem dL_law_1435 : decode cL_law 1435 = .ok (.iinc 4 5, 3) := by decide +kernel
theorem dL_law_1438 : decode cL_law 1438 = .ok (.goto (-1415), 3) := by decide +kernel
theorem dL_law_1441 : decode cL_law 1441 = .ok (.iconst 1, 1) := by decide +kernel
theorem dL_law_1442 : decode cL_law 1442 = .ok (.ireturn, 1) := by decide +kernel
end
section
/-! ===== the pool: all objects of the class and of the reference that live on, by ids; which refers to which never changes, only ints do ===== -/
abbrev Pid : Type := Nat × Nat × Nat
abbrev Mem : Type := Pid → Nat → Int32
def up (M : Mem) (i : Pid) (k : Nat) (v : Int32) : Mem := fun j n => if j = i ∧ n = k then v else M j n
abbrev pInts (n : Nat) (f : Nat → Int32) : vp_A := (n, .inl f)
abbrev pRefs (n : Nat) (f : Nat → Option Nat) : vp_A := (n, .inr (.inr (.inr (.inr f))))
/-- kinds: 0 FeteBoard, 1 Fete, 2 Booth, 3 Helper, 4 Visitor, 5 Chalk, 6 7 8 the rows of booths, helpers, visitors, 9 a queue, 10 a practice row, 11 12 13 the chalk's rows, 14 the reference, 15 to 20 its rows -/
def celF (ad : Pid → Nat) (cy : Nat → ClassId) (M : Mem) : Pid → va_E
  | (0, _, _) => .inr (5, [.ref (ad (1, 0, 0)), .ref (ad (1, 1, 0))])
  | (1, f, x) => .inr (2, [.ref (ad (6, f, 0)), .int (M (1, f, x) 1), .ref (ad (7, f, 0)), .int (M (1, f, x) 3), .ref (ad (8, f, 0)), .int (M (1, f, x) 5), .ref (ad (5, f, 0)), .int (M (1, f, x) 7), .int (M (1, f, x) 8), .int (M (1, f, x) 9), .int (M (1, f, x) 10)])
  | (2, f, b) => .inr (0, [.int (M (2, f, b) 0), .int (M (2, f, b) 1), .int (M (2, f, b) 2), .int (M (2, f, b) 3), .int (M (2, f, b) 4), .int (M (2, f, b) 5), .int (M (2, f, b) 6), .int (M (2, f, b) 7), .ref (ad (9, f, b))])
  | (3, f, h) => .inr (3, [.int (M (3, f, h) 0), .int (M (3, f, h) 1), .int (M (3, f, h) 2)])
  | (4, f, v) => .inr (4, [.int (M (4, f, v) 0), .int (M (4, f, v) 1), .int (M (4, f, v) 2), .int (M (4, f, v) 3), .int (M (4, f, v) 4), .int (M (4, f, v) 5), .int (M (4, f, v) 6), .int (M (4, f, v) 7), .ref (ad (10, f, v))])
  | (5, f, x) => .inr (1, [.int (M (5, f, x) 0), .ref (ad (11, f, 0)), .ref (ad (12, f, 0)), .ref (ad (13, f, 0))])
  | (6, f, _) => .inl (cy 1, pRefs 8 (fun j => some (ad (2, f, j))))
  | (7, f, _) => .inl (cy 2, pRefs 12 (fun j => some (ad (3, f, j))))
  | (8, f, _) => .inl (cy 3, pRefs 16 (fun j => some (ad (4, f, j))))
  | (9, f, b) => .inl (cy 0, pInts 16 (M (9, f, b)))
  | (10, f, v) => .inl (cy 0, pInts 8 (M (10, f, v)))
  | (11, f, x) => .inl (cy 0, pInts 3 (M (11, f, x)))
  | (12, f, x) => .inl (cy 0, pInts 3 (M (12, f, x)))
  | (13, f, x) => .inl (cy 0, pInts 3 (M (13, f, x)))
  | (14, f, x) => .inr (6, [.int (M (14, f, x) 0), .int (M (14, f, x) 1), .int (M (14, f, x) 2), .int (M (14, f, x) 3), .ref (ad (15, 0, 0)), .ref (ad (16, 0, 0)), .ref (ad (17, 0, 0)), .ref (ad (18, 0, 0)), .ref (ad (19, 0, 0)), .ref (ad (20, 0, 0))])
  | (15, f, x) => .inl (cy 0, pInts 48 (M (15, f, x)))
  | (16, f, x) => .inl (cy 0, pInts 36 (M (16, f, x)))
  | (17, f, x) => .inl (cy 0, pInts 144 (M (17, f, x)))
  | (18, f, x) => .inl (cy 0, pInts 128 (M (18, f, x)))
  | (19, f, x) => .inl (cy 0, pInts 9 (M (19, f, x)))
  | (20, f, x) => .inl (cy 0, pInts 5 (M (20, f, x)))
  | _ => .inl (cy 0, pInts 0 (fun _ => 0))
def idsF (f : Nat) : List Pid := [(1, f, 0), (5, f, 0), (6, f, 0), (7, f, 0), (8, f, 0), (11, f, 0), (12, f, 0), (13, f, 0)] ++ ((List.range 8).map (fun b => (2, f, b)) ++ ((List.range 12).map (fun h => (3, f, h)) ++ ((List.range 16).map (fun v => (4, f, v)) ++ ((List.range 8).map (fun b => (9, f, b)) ++ (List.range 16).map (fun v => (10, f, v))))))
def idsC : List Pid := (0, 0, 0) :: (idsF 0 ++ idsF 1)
def idsR : List Pid := [(14, 0, 0), (15, 0, 0), (16, 0, 0), (17, 0, 0), (18, 0, 0), (19, 0, 0), (20, 0, 0)]
theorem idsC_nd : idsC.Nodup := by decide +kernel
theorem idsR_nd : idsR.Nodup := by decide +kernel
theorem mC0 : ((0, 0, 0) : Pid) ∈ idsC := by decide +kernel
theorem mC1 {f : Nat} (hf : f < 2) : ((1, f, 0) : Pid) ∈ idsC := (show ∀ f, f < 2 → ((1, f, 0) : Pid) ∈ idsC by decide +kernel) f hf
theorem mC5 {f : Nat} (hf : f < 2) : ((5, f, 0) : Pid) ∈ idsC := (show ∀ f, f < 2 → ((5, f, 0) : Pid) ∈ idsC by decide +kernel) f hf
theorem mC6 {f : Nat} (hf : f < 2) : ((6, f, 0) : Pid) ∈ idsC := (show ∀ f, f < 2 → ((6, f, 0) : Pid) ∈ idsC by decide +kernel) f hf
theorem mC7 {f : Nat} (hf : f < 2) : ((7, f, 0) : Pid) ∈ idsC := (show ∀ f, f < 2 → ((7, f, 0) : Pid) ∈ idsC by decide +kernel) f hf
theorem mC8 {f : Nat} (hf : f < 2) : ((8, f, 0) : Pid) ∈ idsC := (show ∀ f, f < 2 → ((8, f, 0) : Pid) ∈ idsC by decide +kernel) f hf
theorem mC11 {f : Nat} (hf : f < 2) : ((11, f, 0) : Pid) ∈ idsC := (show ∀ f, f < 2 → ((11, f, 0) : Pid) ∈ idsC by decide +kernel) f hf
theorem mC12 {f : Nat} (hf : f < 2) : ((12, f, 0) : Pid) ∈ idsC := (show ∀ f, f < 2 → ((12, f, 0) : Pid) ∈ idsC by decide +kernel) f hf
theorem mC13 {f : Nat} (hf : f < 2) : ((13, f, 0) : Pid) ∈ idsC := (show ∀ f, f < 2 → ((13, f, 0) : Pid) ∈ idsC by decide +kernel) f hf
theorem mC2 {f b : Nat} (hf : f < 2) (hb : b < 8) : ((2, f, b) : Pid) ∈ idsC := (show ∀ f, f < 2 → ∀ b, b < 8 → ((2, f, b) : Pid) ∈ idsC by decide +kernel) f hf b hb
theorem mC9 {f b : Nat} (hf : f < 2) (hb : b < 8) : ((9, f, b) : Pid) ∈ idsC := (show ∀ f, f < 2 → ∀ b, b < 8 → ((9, f, b) : Pid) ∈ idsC by decide +kernel) f hf b hb
theorem mC3 {f b : Nat} (hf : f < 2) (hb : b < 12) : ((3, f, b) : Pid) ∈ idsC := (show ∀ f, f < 2 → ∀ b, b < 12 → ((3, f, b) : Pid) ∈ idsC by decide +kernel) f hf b hb
theorem mC4 {f b : Nat} (hf : f < 2) (hb : b < 16) : ((4, f, b) : Pid) ∈ idsC := (show ∀ f, f < 2 → ∀ b, b < 16 → ((4, f, b) : Pid) ∈ idsC by decide +kernel) f hf b hb
theorem mC10 {f b : Nat} (hf : f < 2) (hb : b < 16) : ((10, f, b) : Pid) ∈ idsC := (show ∀ f, f < 2 → ∀ b, b < 16 → ((10, f, b) : Pid) ∈ idsC by decide +kernel) f hf b hb
theorem mR14 : ((14, 0, 0) : Pid) ∈ idsR := by decide +kernel
theorem mR15 : ((15, 0, 0) : Pid) ∈ idsR := by decide +kernel
theorem mR16 : ((16, 0, 0) : Pid) ∈ idsR := by decide +kernel
theorem mR17 : ((17, 0, 0) : Pid) ∈ idsR := by decide +kernel
theorem mR18 : ((18, 0, 0) : Pid) ∈ idsR := by decide +kernel
theorem mR19 : ((19, 0, 0) : Pid) ∈ idsR := by decide +kernel
theorem mR20 : ((20, 0, 0) : Pid) ∈ idsR := by decide +kernel
/-- the pool as a world -/
def PW (ids : List Pid) (ad : Pid → Nat) (c : Pid → va_E) : va_W := ids.map (fun i => (ad i, c i))
theorem PW_get {ids : List Pid} (ad : Pid → Nat) (c : Pid → va_E) (hn : ids.Nodup) {i : Pid} (hi : i ∈ ids) : ∃ k : Nat, (PW ids ad c)[k]? = some (ad i, c i) ∧ ∀ e c', c' i = e → (∀ j, j ≠ i → c' j = c j) → (PW ids ad c).set k (ad i, e) = PW ids ad c' := by
  obtain ⟨k, hk⟩ := List.getElem?_of_mem hi
  have hl : k < ids.length := (List.getElem?_eq_some_iff.mp hk).1
  refine ⟨k, by simp [PW, hk], fun e c' h1 h2 => ?_⟩
  apply List.ext_getElem?
  intro n
  by_cases hkn : n = k
  · subst hkn
    rw [List.getElem?_set_self (by simpa [PW] using hl)]
    simp [PW, hk, h1]
  · rw [List.getElem?_set_ne (Ne.symm hkn)]
    simp only [PW, List.getElem?_map]
    cases hj : ids[n]? with
    | none => rfl
    | some j =>
      have hne : j ≠ i := fun hji => by
        subst hji
        have hln : n < ids.length := (List.getElem?_eq_some_iff.mp hj).1
        have h3 := (List.getElem?_eq_some_iff.mp hj).2
        have h4 := (List.getElem?_eq_some_iff.mp hk).2
        rcases Nat.lt_or_gt_of_ne hkn with q | q
        · exact List.pairwise_iff_getElem.mp hn n k hln hl q (h3.trans h4.symm)
        · exact List.pairwise_iff_getElem.mp hn k n hl hln q (h4.trans h3.symm)
      simp [h2 j hne]
/-- what a launch, the tables and the pool are: the same for all contracts -/
abbrev EX : Type := Launch × va_G × (Pid → Nat) × (Nat → ClassId)
abbrev EX.l (E : EX) : Launch := E.1
abbrev EX.D (E : EX) : va_G := E.2.1
abbrev EX.ad (E : EX) : Pid → Nat := E.2.2.1
abbrev EX.cy (E : EX) : Nat → ClassId := E.2.2.2
abbrev EX.cel (E : EX) (M : Mem) : Pid → va_E := celF E.ad E.cy M
def tysF (cy : Nat → ClassId) : List (ClassId × FieldType) := [(cy 0, .int), (cy 1, .object RX0), (cy 2, .object RX3), (cy 3, .object RX4)]
def Rg (E : EX) (ids : List Pid) (sz : Nat) : Nat → Prop := fun q => (∃ i, i ∈ ids ∧ q = E.ad i) ∨ sz ≤ q
def Inj (E : EX) (ids : List Pid) : Prop := ∀ i, i ∈ ids → ∀ j, j ∈ ids → E.ad i = E.ad j → i = j
def Wd (E : EX) (ids : List Pid) (M : Mem) (U : State) : Prop := va_P E.D vwCl (PW ids E.ad (E.cel M)) U.heap ∧ va_K E.D vwCl (tysF E.cy) U ∧ Inj E ids
def ALL : List Cond := lw_tbl.filter goodWord
/-- a contract: from the memory M and these arguments the method answers v and leaves M', and P v M' -/
def Ret (E : EX) (ids : List Pid) (y : MethodName) (cc : ByteArray) (nL : Nat) (rt : Option FieldType) (fr lo : Nat) (args : List Value) (M : Mem) (P : Option Value → Mem → Prop) : Prop :=
  ∀ sz : Nat, Met E.l y (Cond.code y cc nL rt :: ALL) { frames := fr, cells := 0, slots := 0, locals := lo } (va_Pc args (fun U => U.heap.size = sz ∧ Wd E ids M U)) (fun _ st oc t => (∃ (v : Option Value) (M' : Mem), oc = .returned v ∧ P v M' ∧ Wd E ids M' t) ∧ va_F (Rg E ids sz) st t) 0 0 (Rg E ids sz)
/-- where a walk stands: program, launch, environment, room, start; method, arguments, frames below, its method and code; what is to be reached; the tables; which cells may change; the ids -/
abbrev KX : Type := (Program × EX × Env × Room × State) × (MethodId × Array Value × List Frame × Method × Code) × (State → Prop) × (Nat → Prop) × (Nat × Nat)
abbrev KX.p (κ : KX) : Program := κ.1.1
abbrev KX.E (κ : KX) : EX := κ.1.2.1
abbrev KX.e (κ : KX) : Env := κ.1.2.2.1
abbrev KX.R (κ : KX) : Room := κ.1.2.2.2.1
abbrev KX.s (κ : KX) : State := κ.1.2.2.2.2
abbrev KX.m (κ : KX) : MethodId := κ.2.1.1
abbrev KX.args (κ : KX) : Array Value := κ.2.1.2.1
abbrev KX.below (κ : KX) : List Frame := κ.2.1.2.2.1
abbrev KX.meth (κ : KX) : Method := κ.2.1.2.2.2.1
abbrev KX.c (κ : KX) : Code := κ.2.1.2.2.2.2
abbrev KX.Q (κ : KX) : State → Prop := κ.2.2.1
abbrev KX.A (κ : KX) : Nat → Prop := κ.2.2.2.1
abbrev KX.n (κ : KX) : Nat × Nat := κ.2.2.2.2
abbrev LSt : Type := List (Option Value)
def LV (ls : Array Slot) (nL : Nat) (l : LSt) : Prop := ∃ lv, lv_has ls nL lv ∧ l.length = nL ∧ ∀ i v, l[i]? = some (some v) → (i, v) ∈ lv
abbrev KX.Wk (κ : KX) (H : Heap) (locs : List Loc) (g : JFrame) : Prop := W κ.p κ.E.l κ.e κ.R κ.s κ.m κ.args κ.below κ.meth κ.c H locs κ.n.1 κ.n.2 κ.Q g
/-- the walk at pc with these locals, this stack, this memory, comes to its end -/
def V (κ : KX) (ids : List Pid) (nL : Nat) (M : Mem) (l : LSt) (st : List Value) (pc : Nat) : Prop :=
  ∀ (H : Heap) (locs : List Loc) (ls : Array Slot), va_P κ.E.D vwCl (PW ids κ.E.ad (κ.E.cel M)) H → va_S κ.A κ.s.heap H locs → LV ls nL l → κ.Wk H locs (F0 κ.m pc ls st)
def Good (κ : KX) (ids : List Pid) (cc : ByteArray) (nL : Nat) (own : String) (fr lo : Nat) : Prop :=
  κ.p.tables.exec = Jvm.exec ∧ κ.c.code = cc ∧ κ.c.maxLocals = nL ∧ κ.s.vm.findClass own = some κ.m.cls ∧ (∀ w ∈ ALL, w.before κ.args κ.s = true) ∧ va_K κ.E.D vwCl (tysF κ.E.cy) κ.s ∧ Inj κ.E ids ∧ ids.Nodup ∧ κ.A = Rg κ.E ids κ.s.heap.size ∧ κ.meth.locks = false ∧ fr ≤ κ.R.frames ∧ lo ≤ κ.R.locals ∧ κ.n.1 ≤ κ.R.cells ∧ κ.n.2 ≤ κ.R.slots
end
section
/-! ===== one row an instruction, over the pool ===== -/
section Steps
variable {κ : KX} {ids : List Pid} {cc : ByteArray} {nL fr lo : Nat} {own : String} {M : Mem} {l : LSt} {st : List Value} {pc : Nat}
theorem Good.hx (G : Good κ ids cc nL own fr lo) : κ.p.tables.exec = Jvm.exec := G.1
theorem Good.hb (G : Good κ ids cc nL own fr lo) : κ.c.code = cc := G.2.1
theorem Good.hml (G : Good κ ids cc nL own fr lo) : κ.c.maxLocals = nL := G.2.2.1
theorem Good.hown (G : Good κ ids cc nL own fr lo) : κ.s.vm.findClass own = some κ.m.cls := G.2.2.2.1
theorem Good.hw (G : Good κ ids cc nL own fr lo) : ∀ w ∈ ALL, w.before κ.args κ.s = true := G.2.2.2.2.1
theorem Good.hK (G : Good κ ids cc nL own fr lo) : va_K κ.E.D vwCl (tysF κ.E.cy) κ.s := G.2.2.2.2.2.1
theorem Good.hinj (G : Good κ ids cc nL own fr lo) : Inj κ.E ids := G.2.2.2.2.2.2.1
theorem Good.hnd (G : Good κ ids cc nL own fr lo) : ids.Nodup := G.2.2.2.2.2.2.2.1
theorem Good.hA (G : Good κ ids cc nL own fr lo) : κ.A = Rg κ.E ids κ.s.heap.size := G.2.2.2.2.2.2.2.2.1
theorem Good.hlk (G : Good κ ids cc nL own fr lo) : κ.meth.locks = false := G.2.2.2.2.2.2.2.2.2.1
theorem Good.hfr (G : Good κ ids cc nL own fr lo) : fr ≤ κ.R.frames := G.2.2.2.2.2.2.2.2.2.2.1
theorem Good.hlo (G : Good κ ids cc nL own fr lo) : lo ≤ κ.R.locals := G.2.2.2.2.2.2.2.2.2.2.2.1
theorem Good.hcs (G : Good κ ids cc nL own fr lo) : κ.n.1 ≤ κ.R.cells := G.2.2.2.2.2.2.2.2.2.2.2.2.1
theorem Good.hss (G : Good κ ids cc nL own fr lo) : κ.n.2 ≤ κ.R.slots := G.2.2.2.2.2.2.2.2.2.2.2.2.2
theorem PW_D {E : EX} {ids : List Pid} (c : Pid → va_E) (hn : ids.Nodup) (hi : Inj E ids) (sz : Nat) : va_D (Rg E ids sz) (PW ids E.ad c) := by
  refine ⟨fun i j p q h1 h2 h3 => ?_, fun k q h => ?_⟩
  · simp only [PW, List.getElem?_map] at h1 h2
    cases hi1 : ids[i]? with
    | none => rw [hi1] at h1; cases h1
    | some a =>
      cases hj1 : ids[j]? with
      | none => rw [hj1] at h2; cases h2
      | some b =>
        rw [hi1] at h1; rw [hj1] at h2
        cases h1; cases h2
        have hab := hi a (List.mem_of_getElem? hi1) b (List.mem_of_getElem? hj1) h3
        subst hab
        have l1 := (List.getElem?_eq_some_iff.mp hi1)
        have l2 := (List.getElem?_eq_some_iff.mp hj1)
        obtain ⟨a1, b1⟩ := l1
        obtain ⟨a2, b2⟩ := l2
        rcases Nat.lt_trichotomy i j with q | q | q
        · exact absurd (b1.trans b2.symm) (List.pairwise_iff_getElem.mp hn i j a1 a2 q)
        · exact q
        · exact absurd (b2.trans b1.symm) (List.pairwise_iff_getElem.mp hn j i a2 a1 q)
  · simp only [PW, List.getElem?_map] at h
    cases hi1 : ids[k]? with
    | none => rw [hi1] at h; cases h
    | some a =>
      rw [hi1] at h
      cases h
      exact Or.inl ⟨a, List.mem_of_getElem? hi1, rfl⟩
theorem LV.rd {ls : Array Slot} {i : Nat} {v : Value} (h : LV ls nL l) (hi : l[i]? = some (some v)) : ls[i]? = some (.val v) := by
  obtain ⟨lv, h1, -, h2⟩ := h
  exact h1.2.2 _ (h2 i v hi)
/-- no long or double just below the place i -/
def okSt (l : LSt) (i : Nat) : Bool := match i with
  | 0 => true
  | j + 1 => match l[j]? with
    | some (some (.long _)) => false
    | some (some (.double _)) => false
    | _ => true
theorem LV.wr {ls' : Array Slot} {i : Nat} {v : Value} {lv : List (Nat × Value)} (hn : l.length = nL) (h2 : ∀ i v, l[i]? = some (some v) → (i, v) ∈ lv) (hk : okSt l i = true) (h' : lv_has ls' nL ((i, v) :: lv.filter (fun q => !(q.1 == i) && !(q.1 + 1 == i && q.2.category == 2)))) : LV ls' nL (l.set i (some v)) := by
  refine ⟨_, h', by simpa using hn, fun j w hj => ?_⟩
  by_cases hji : j = i
  · subst hji
    have hl : j < l.length := by
      have := (List.getElem?_eq_some_iff.mp hj).1
      simpa using this
    rw [List.getElem?_set_self hl] at hj
    cases hj
    exact List.mem_cons_self
  · rw [List.getElem?_set_ne (Ne.symm hji)] at hj
    refine List.mem_cons_of_mem _ (List.mem_filter.mpr ⟨h2 j w hj, ?_⟩)
    have : (j == i) = false := by simpa using hji
    by_cases hj1 : j + 1 = i
    · subst hj1
      simp only [okSt, hj] at hk
      cases w <;> simp_all [Value.category]
    · have h3 : (j + 1 == i) = false := by simpa using hj1
      simp [this, h3]
theorem LV.wr2 {ls' : Array Slot} {i : Nat} {v : Value} {lv : List (Nat × Value)} (hn : l.length = nL) (h2 : ∀ i v, l[i]? = some (some v) → (i, v) ∈ lv) (hk : okSt l i = true) (h' : lv_has ls' nL ((i, v) :: lv.filter (fun q => !(q.1 == i) && (!(q.1 == i + 1) && !(q.1 + 1 == i && q.2.category == 2))))) : LV ls' nL ((l.set i (some v)).set (i + 1) none) := by
  refine ⟨_, h', by simpa using hn, fun j w hj => ?_⟩
  by_cases hj1 : j = i + 1
  · subst hj1
    exfalso
    have hl : i + 1 < ((l.set i (some v)).set (i + 1) none).length := (List.getElem?_eq_some_iff.mp hj).1
    rw [List.getElem?_set_self (by simpa using hl)] at hj
    cases hj
  rw [List.getElem?_set_ne (Ne.symm hj1)] at hj
  by_cases hji : j = i
  · subst hji
    have hl : j < l.length := by
      have := (List.getElem?_eq_some_iff.mp hj).1
      simpa using this
    rw [List.getElem?_set_self hl] at hj
    cases hj
    exact List.mem_cons_self
  · rw [List.getElem?_set_ne (Ne.symm hji)] at hj
    refine List.mem_cons_of_mem _ (List.mem_filter.mpr ⟨h2 j w hj, ?_⟩)
    have h0 : (j == i) = false := by simpa using hji
    have h4 : (j == i + 1) = false := by simpa using hj1
    by_cases hj2 : j + 1 = i
    · subst hj2
      simp only [okSt, hj] at hk
      cases w <;> simp_all [Value.category]
    · have h3 : (j + 1 == i) = false := by simpa using hj2
      simp [h0, h4, h3]
theorem s_aload_n (G : Good κ ids cc nL own fr lo) {k : Fin 4} {x : Nat} (d : decode cc pc = .ok (.aload_n k, 1)) (hi : l[(k : Nat)]? = some (some (.ref x))) (h : V κ ids nL M l (.ref x :: st) (pc + 1)) : V κ ids nL M l st pc := fun H locs ls hP hS hl => lv_aload_n G.hx G.hb d rfl (hl.rd hi) (h H locs ls hP hS hl)
theorem s_aload (G : Good κ ids cc nL own fr lo) {i : Nat} {x : Nat} (d : decode cc pc = .ok (.aload i, 2)) (hi : l[i]? = some (some (.ref x))) (h : V κ ids nL M l (.ref x :: st) (pc + 2)) : V κ ids nL M l st pc := fun H locs ls hP hS hl => lv_aload G.hx G.hb d (hl.rd hi) (h H locs ls hP hS hl)
theorem s_iload_n (G : Good κ ids cc nL own fr lo) {k : Fin 4} {x : Int32} (d : decode cc pc = .ok (.iload_n k, 1)) (hi : l[(k : Nat)]? = some (some (.int x))) (h : V κ ids nL M l (.int x :: st) (pc + 1)) : V κ ids nL M l st pc := fun H locs ls hP hS hl => lv_iload_n G.hx G.hb d rfl (hl.rd hi) (h H locs ls hP hS hl)
theorem s_iload (G : Good κ ids cc nL own fr lo) {i : Nat} {x : Int32} (d : decode cc pc = .ok (.iload i, 2)) (hi : l[i]? = some (some (.int x))) (h : V κ ids nL M l (.int x :: st) (pc + 2)) : V κ ids nL M l st pc := fun H locs ls hP hS hl => lv_iload G.hx G.hb d (hl.rd hi) (h H locs ls hP hS hl)
theorem s_lload_n (G : Good κ ids cc nL own fr lo) {k : Fin 4} {x : Int64} (d : decode cc pc = .ok (.lload_n k, 1)) (hi : l[(k : Nat)]? = some (some (.long x))) (h : V κ ids nL M l (.long x :: st) (pc + 1)) : V κ ids nL M l st pc := fun H locs ls hP hS hl => lv_lload_n G.hx G.hb d rfl (hl.rd hi) (h H locs ls hP hS hl)
theorem s_lload (G : Good κ ids cc nL own fr lo) {i : Nat} {x : Int64} (d : decode cc pc = .ok (.lload i, 2)) (hi : l[i]? = some (some (.long x))) (h : V κ ids nL M l (.long x :: st) (pc + 2)) : V κ ids nL M l st pc := fun H locs ls hP hS hl => lv_lload G.hx G.hb d (hl.rd hi) (h H locs ls hP hS hl)
theorem s_astore_n (G : Good κ ids cc nL own fr lo) {k : Fin 4} {x : Nat} (d : decode cc pc = .ok (.astore_n k, 1)) (hn : (k : Nat) < nL) (hk : okSt l (k : Nat) = true) (h : V κ ids nL M (l.set (k : Nat) (some (.ref x))) st (pc + 1)) : V κ ids nL M l (.ref x :: st) pc := fun H locs ls hP hS ⟨lv, h1, h2, h3⟩ => lv_astore_n G.hx G.hb d rfl h1 hn rfl (fun ls' h4 => h H locs ls' hP hS (LV.wr h2 h3 hk h4))
theorem s_astore (G : Good κ ids cc nL own fr lo) {i : Nat} {x : Nat} (d : decode cc pc = .ok (.astore i, 2)) (hn : i < nL) (hk : okSt l i = true) (h : V κ ids nL M (l.set i (some (.ref x))) st (pc + 2)) : V κ ids nL M l (.ref x :: st) pc := fun H locs ls hP hS ⟨lv, h1, h2, h3⟩ => lv_astore G.hx G.hb d h1 hn rfl (fun ls' h4 => h H locs ls' hP hS (LV.wr h2 h3 hk h4))
theorem s_istore_n (G : Good κ ids cc nL own fr lo) {k : Fin 4} {x : Int32} (d : decode cc pc = .ok (.istore_n k, 1)) (hn : (k : Nat) < nL) (hk : okSt l (k : Nat) = true) (h : V κ ids nL M (l.set (k : Nat) (some (.int x))) st (pc + 1)) : V κ ids nL M l (.int x :: st) pc := fun H locs ls hP hS ⟨lv, h1, h2, h3⟩ => lv_istore_n G.hx G.hb d rfl h1 hn rfl (fun ls' h4 => h H locs ls' hP hS (LV.wr h2 h3 hk h4))
theorem s_istore (G : Good κ ids cc nL own fr lo) {i : Nat} {x : Int32} (d : decode cc pc = .ok (.istore i, 2)) (hn : i < nL) (hk : okSt l i = true) (h : V κ ids nL M (l.set i (some (.int x))) st (pc + 2)) : V κ ids nL M l (.int x :: st) pc := fun H locs ls hP hS ⟨lv, h1, h2, h3⟩ => lv_istore G.hx G.hb d h1 hn rfl (fun ls' h4 => h H locs ls' hP hS (LV.wr h2 h3 hk h4))
theorem s_lstore_n (G : Good κ ids cc nL own fr lo) {k : Fin 4} {x : Int64} (d : decode cc pc = .ok (.lstore_n k, 1)) (hn : (k : Nat) + 1 < nL) (hk : okSt l (k : Nat) = true) (h : V κ ids nL M ((l.set (k : Nat) (some (.long x))).set ((k : Nat) + 1) none) st (pc + 1)) : V κ ids nL M l (.long x :: st) pc := fun H locs ls hP hS ⟨lv, h1, h2, h3⟩ => lv_lstore_n G.hx G.hb d rfl h1 hn rfl (fun ls' h4 => h H locs ls' hP hS (LV.wr2 h2 h3 hk h4))
theorem s_lstore (G : Good κ ids cc nL own fr lo) {i : Nat} {x : Int64} (d : decode cc pc = .ok (.lstore i, 2)) (hn : i + 1 < nL) (hk : okSt l i = true) (h : V κ ids nL M ((l.set i (some (.long x))).set (i + 1) none) st (pc + 2)) : V κ ids nL M l (.long x :: st) pc := fun H locs ls hP hS ⟨lv, h1, h2, h3⟩ => lv_lstore G.hx G.hb d h1 hn rfl (fun ls' h4 => h H locs ls' hP hS (LV.wr2 h2 h3 hk h4))
theorem s_iinc (G : Good κ ids cc nL own fr lo) {i : Nat} {n : Int} {x v : Int32} (d : decode cc pc = .ok (.iinc i n, 3)) (hi : l[i]? = some (some (.int x))) (hn : i < nL) (hk : okSt l i = true) (hv : x + Int32.ofInt n = v) (h : V κ ids nL M (l.set i (some (.int v))) st (pc + 3)) : V κ ids nL M l st pc := fun H locs ls hP hS ⟨lv, h1, h2, h3⟩ => by
  obtain ⟨k, hk9⟩ := List.getElem?_of_mem (h3 i _ hi)
  exact lv_iinc G.hx G.hb d h1 hk9 hv hn rfl (fun ls' h4 => h H locs ls' hP hS (LV.wr h2 h3 hk h4))
theorem s_iconst (G : Good κ ids cc nL own fr lo) {n : Int} {v : Int32} (d : decode cc pc = .ok (.iconst n, 1)) (hv : Int32.ofInt n = v) (h : V κ ids nL M l (.int v :: st) (pc + 1)) : V κ ids nL M l st pc := fun H locs ls hP hS hl => lv_iconst G.hx G.hb d hv (h H locs ls hP hS hl)
theorem s_bipush (G : Good κ ids cc nL own fr lo) {n : Int} {v : Int32} (d : decode cc pc = .ok (.bipush n, 2)) (hv : (Int8.ofInt n).toInt32 = v) (h : V κ ids nL M l (.int v :: st) (pc + 2)) : V κ ids nL M l st pc := fun H locs ls hP hS hl => lv_bipush G.hx G.hb d hv (h H locs ls hP hS hl)
theorem s_sipush (G : Good κ ids cc nL own fr lo) {n : Int} {v : Int32} (d : decode cc pc = .ok (.sipush n, 3)) (hv : (Int16.ofInt n).toInt32 = v) (h : V κ ids nL M l (.int v :: st) (pc + 3)) : V κ ids nL M l st pc := fun H locs ls hP hS hl => lv_sipush G.hx G.hb d hv (h H locs ls hP hS hl)
theorem s_ldc (G : Good κ ids cc nL own fr lo) {index : Nat} {v : Int32} (d : decode cc pc = .ok (.ldc index, 2)) (hc : Cond.constant own index v ∈ ALL) (h : V κ ids nL M l (.int v :: st) (pc + 2)) : V κ ids nL M l st pc := fun H locs ls hP hS hl => lv_ldc G.hx G.hb G.hown (G.hw _ hc) d (h H locs ls hP hS hl)
theorem s_ldc2 (G : Good κ ids cc nL own fr lo) {index : Nat} {v : Int64} (d : decode cc pc = .ok (.ldc2_w index, 3)) (hc : Cond.constantLong own index v ∈ ALL) (h : V κ ids nL M l (.long v :: st) (pc + 3)) : V κ ids nL M l st pc := fun H locs ls hP hS hl => lv_ldc2 G.hx G.hb G.hown (G.hw _ hc) d (h H locs ls hP hS hl)
theorem s_iadd (G : Good κ ids cc nL own fr lo) {x y : Int32} (d : decode cc pc = .ok (.iadd, 1)) (h : V κ ids nL M l (.int (x + y) :: st) (pc + 1)) : V κ ids nL M l (.int y :: .int x :: st) pc := fun H locs ls hP hS hl => lv_iadd G.hx G.hb d (h H locs ls hP hS hl)
theorem s_isub (G : Good κ ids cc nL own fr lo) {x y : Int32} (d : decode cc pc = .ok (.isub, 1)) (h : V κ ids nL M l (.int (x - y) :: st) (pc + 1)) : V κ ids nL M l (.int y :: .int x :: st) pc := fun H locs ls hP hS hl => lv_isub G.hx G.hb d (h H locs ls hP hS hl)
theorem s_imul (G : Good κ ids cc nL own fr lo) {x y : Int32} (d : decode cc pc = .ok (.imul, 1)) (h : V κ ids nL M l (.int (x * y) :: st) (pc + 1)) : V κ ids nL M l (.int y :: .int x :: st) pc := fun H locs ls hP hS hl => lv_imul G.hx G.hb d (h H locs ls hP hS hl)
theorem s_irem (G : Good κ ids cc nL own fr lo) {x y : Int32} (d : decode cc pc = .ok (.irem, 1)) (hne : ¬ y = 0) (h : V κ ids nL M l (.int (x - x / y * y) :: st) (pc + 1)) : V κ ids nL M l (.int y :: .int x :: st) pc := fun H locs ls hP hS hl => lv_irem G.hx G.hb d hne (h H locs ls hP hS hl)
theorem s_ladd (G : Good κ ids cc nL own fr lo) {x y : Int64} (d : decode cc pc = .ok (.ladd, 1)) (h : V κ ids nL M l (.long (x + y) :: st) (pc + 1)) : V κ ids nL M l (.long y :: .long x :: st) pc := fun H locs ls hP hS hl => lv_ladd G.hx G.hb d (h H locs ls hP hS hl)
theorem s_lmul (G : Good κ ids cc nL own fr lo) {x y : Int64} (d : decode cc pc = .ok (.lmul, 1)) (h : V κ ids nL M l (.long (x * y) :: st) (pc + 1)) : V κ ids nL M l (.long y :: .long x :: st) pc := fun H locs ls hP hS hl => lv_lmul G.hx G.hb d (h H locs ls hP hS hl)
theorem s_i2l (G : Good κ ids cc nL own fr lo) {x : Int32} (d : decode cc pc = .ok (.i2l, 1)) (h : V κ ids nL M l (.long x.toInt64 :: st) (pc + 1)) : V κ ids nL M l (.int x :: st) pc := fun H locs ls hP hS hl => lv_i2l G.hx G.hb d rfl (h H locs ls hP hS hl)
theorem s_dup (G : Good κ ids cc nL own fr lo) {a : Value} (d : decode cc pc = .ok (.dup, 1)) (hv : a.category = 1) (h : V κ ids nL M l (a :: a :: st) (pc + 1)) : V κ ids nL M l (a :: st) pc := fun H locs ls hP hS hl => lv_dup G.hx G.hb d hv (h H locs ls hP hS hl)
theorem s_dup2 (G : Good κ ids cc nL own fr lo) {a b : Value} (d : decode cc pc = .ok (.dup2, 1)) (hv : a.category = 1) (hv2 : b.category = 1) (h : V κ ids nL M l (a :: b :: a :: b :: st) (pc + 1)) : V κ ids nL M l (a :: b :: st) pc := fun H locs ls hP hS hl => lv_dup2_11 G.hx G.hb d hv hv2 (h H locs ls hP hS hl)
theorem s_pop (G : Good κ ids cc nL own fr lo) {a : Value} (d : decode cc pc = .ok (.pop, 1)) (hv : a.category = 1) (h : V κ ids nL M l st (pc + 1)) : V κ ids nL M l (a :: st) pc := fun H locs ls hP hS hl => lv_pop G.hx G.hb d hv (h H locs ls hP hS hl)
theorem s_goto (G : Good κ ids cc nL own fr lo) {off : Int} (tgt : Nat) (d : decode cc pc = .ok (.goto off, 3)) (ht : (pc : Int) + off = (tgt : Int)) (h : V κ ids nL M l st tgt) : V κ ids nL M l st pc := fun H locs ls hP hS hl => lv_goto G.hx G.hb d ht (h H locs ls hP hS hl)
theorem s_if_eq (G : Good κ ids cc nL own fr lo) {x : Int32} {off : Int} (tgt : Nat) (d : decode cc pc = .ok (.ifCond .eq off, 3)) (ht : (pc : Int) + off = (tgt : Int)) (kt : x = 0 → V κ ids nL M l st tgt) (kf : ¬ x = 0 → V κ ids nL M l st (pc + 3)) : V κ ids nL M l (.int x :: st) pc := fun H locs ls hP hS hl => lv_if_eq G.hx G.hb d ht (fun q => kt q H locs ls hP hS hl) (fun q => kf q H locs ls hP hS hl)
theorem s_icmp_eq (G : Good κ ids cc nL own fr lo) {x y : Int32} {off : Int} (tgt : Nat) (d : decode cc pc = .ok (.if_icmp .eq off, 3)) (ht : (pc : Int) + off = (tgt : Int)) (kt : x = y → V κ ids nL M l st tgt) (kf : ¬ x = y → V κ ids nL M l st (pc + 3)) : V κ ids nL M l (.int y :: .int x :: st) pc := fun H locs ls hP hS hl => lv_icmp_eq G.hx G.hb d ht (fun q => kt q H locs ls hP hS hl) (fun q => kf q H locs ls hP hS hl)
theorem s_if_ne (G : Good κ ids cc nL own fr lo) {x : Int32} {off : Int} (tgt : Nat) (d : decode cc pc = .ok (.ifCond .ne off, 3)) (ht : (pc : Int) + off = (tgt : Int)) (kt : ¬ x = 0 → V κ ids nL M l st tgt) (kf : x = 0 → V κ ids nL M l st (pc + 3)) : V κ ids nL M l (.int x :: st) pc := fun H locs ls hP hS hl => lv_if_ne G.hx G.hb d ht (fun q => kt q H locs ls hP hS hl) (fun q => kf q H locs ls hP hS hl)
theorem s_icmp_ne (G : Good κ ids cc nL own fr lo) {x y : Int32} {off : Int} (tgt : Nat) (d : decode cc pc = .ok (.if_icmp .ne off, 3)) (ht : (pc : Int) + off = (tgt : Int)) (kt : ¬ x = y → V κ ids nL M l st tgt) (kf : x = y → V κ ids nL M l st (pc + 3)) : V κ ids nL M l (.int y :: .int x :: st) pc := fun H locs ls hP hS hl => lv_icmp_ne G.hx G.hb d ht (fun q => kt q H locs ls hP hS hl) (fun q => kf q H locs ls hP hS hl)
theorem s_if_lt (G : Good κ ids cc nL own fr lo) {x : Int32} {off : Int} (tgt : Nat) (d : decode cc pc = .ok (.ifCond .lt off, 3)) (ht : (pc : Int) + off = (tgt : Int)) (kt : x < 0 → V κ ids nL M l st tgt) (kf : ¬ x < 0 → V κ ids nL M l st (pc + 3)) : V κ ids nL M l (.int x :: st) pc := fun H locs ls hP hS hl => lv_if_lt G.hx G.hb d ht (fun q => kt q H locs ls hP hS hl) (fun q => kf q H locs ls hP hS hl)
theorem s_icmp_lt (G : Good κ ids cc nL own fr lo) {x y : Int32} {off : Int} (tgt : Nat) (d : decode cc pc = .ok (.if_icmp .lt off, 3)) (ht : (pc : Int) + off = (tgt : Int)) (kt : x < y → V κ ids nL M l st tgt) (kf : ¬ x < y → V κ ids nL M l st (pc + 3)) : V κ ids nL M l (.int y :: .int x :: st) pc := fun H locs ls hP hS hl => lv_icmp_lt G.hx G.hb d ht (fun q => kt q H locs ls hP hS hl) (fun q => kf q H locs ls hP hS hl)
theorem s_if_ge (G : Good κ ids cc nL own fr lo) {x : Int32} {off : Int} (tgt : Nat) (d : decode cc pc = .ok (.ifCond .ge off, 3)) (ht : (pc : Int) + off = (tgt : Int)) (kt : 0 ≤ x → V κ ids nL M l st tgt) (kf : ¬ 0 ≤ x → V κ ids nL M l st (pc + 3)) : V κ ids nL M l (.int x :: st) pc := fun H locs ls hP hS hl => lv_if_ge G.hx G.hb d ht (fun q => kt q H locs ls hP hS hl) (fun q => kf q H locs ls hP hS hl)
theorem s_icmp_ge (G : Good κ ids cc nL own fr lo) {x y : Int32} {off : Int} (tgt : Nat) (d : decode cc pc = .ok (.if_icmp .ge off, 3)) (ht : (pc : Int) + off = (tgt : Int)) (kt : y ≤ x → V κ ids nL M l st tgt) (kf : ¬ y ≤ x → V κ ids nL M l st (pc + 3)) : V κ ids nL M l (.int y :: .int x :: st) pc := fun H locs ls hP hS hl => lv_icmp_ge G.hx G.hb d ht (fun q => kt q H locs ls hP hS hl) (fun q => kf q H locs ls hP hS hl)
theorem s_if_gt (G : Good κ ids cc nL own fr lo) {x : Int32} {off : Int} (tgt : Nat) (d : decode cc pc = .ok (.ifCond .gt off, 3)) (ht : (pc : Int) + off = (tgt : Int)) (kt : 0 < x → V κ ids nL M l st tgt) (kf : ¬ 0 < x → V κ ids nL M l st (pc + 3)) : V κ ids nL M l (.int x :: st) pc := fun H locs ls hP hS hl => lv_if_gt G.hx G.hb d ht (fun q => kt q H locs ls hP hS hl) (fun q => kf q H locs ls hP hS hl)
theorem s_icmp_gt (G : Good κ ids cc nL own fr lo) {x y : Int32} {off : Int} (tgt : Nat) (d : decode cc pc = .ok (.if_icmp .gt off, 3)) (ht : (pc : Int) + off = (tgt : Int)) (kt : y < x → V κ ids nL M l st tgt) (kf : ¬ y < x → V κ ids nL M l st (pc + 3)) : V κ ids nL M l (.int y :: .int x :: st) pc := fun H locs ls hP hS hl => lv_icmp_gt G.hx G.hb d ht (fun q => kt q H locs ls hP hS hl) (fun q => kf q H locs ls hP hS hl)
theorem s_if_le (G : Good κ ids cc nL own fr lo) {x : Int32} {off : Int} (tgt : Nat) (d : decode cc pc = .ok (.ifCond .le off, 3)) (ht : (pc : Int) + off = (tgt : Int)) (kt : x ≤ 0 → V κ ids nL M l st tgt) (kf : ¬ x ≤ 0 → V κ ids nL M l st (pc + 3)) : V κ ids nL M l (.int x :: st) pc := fun H locs ls hP hS hl => lv_if_le G.hx G.hb d ht (fun q => kt q H locs ls hP hS hl) (fun q => kf q H locs ls hP hS hl)
theorem s_icmp_le (G : Good κ ids cc nL own fr lo) {x y : Int32} {off : Int} (tgt : Nat) (d : decode cc pc = .ok (.if_icmp .le off, 3)) (ht : (pc : Int) + off = (tgt : Int)) (kt : x ≤ y → V κ ids nL M l st tgt) (kf : ¬ x ≤ y → V κ ids nL M l st (pc + 3)) : V κ ids nL M l (.int y :: .int x :: st) pc := fun H locs ls hP hS hl => lv_icmp_le G.hx G.hb d ht (fun q => kt q H locs ls hP hS hl) (fun q => kf q H locs ls hP hS hl)
theorem s_tableIn (G : Good κ ids cc nL own fr lo) {dflt lo9 hi9 : Int} {offs : Array Int} {len : Nat} {x : Int32} {off : Int} (tgt : Nat) (d : decode cc pc = .ok (.tableswitch dflt lo9 hi9 offs, len)) (h1 : ¬ x.toInt < lo9) (h2 : ¬ hi9 < x.toInt) (ho : offs[(x.toInt - lo9).toNat]? = some off) (ht : (pc : Int) + off = (tgt : Int)) (h : V κ ids nL M l st tgt) : V κ ids nL M l (.int x :: st) pc := fun H locs ls hP hS hl => lv_tableIn G.hx G.hb d h1 h2 ho ht (h H locs ls hP hS hl)
theorem s_tableOut (G : Good κ ids cc nL own fr lo) {dflt lo9 hi9 : Int} {offs : Array Int} {len : Nat} {x : Int32} (tgt : Nat) (d : decode cc pc = .ok (.tableswitch dflt lo9 hi9 offs, len)) (h1 : x.toInt < lo9 ∨ hi9 < x.toInt) (ht : (pc : Int) + dflt = (tgt : Int)) (h : V κ ids nL M l st tgt) : V κ ids nL M l (.int x :: st) pc := fun H locs ls hP hS hl => lv_tableOut G.hx G.hb d h1 ht (h H locs ls hP hS hl)
theorem s_lookup (G : Good κ ids cc nL own fr lo) {dflt : Int} {ps : Array (Int × Int)} {len : Nat} {x : Int32} {off : Int} (tgt : Nat) (d : decode cc pc = .ok (.lookupswitch dflt ps, len)) (hp : (ps.toList.zip (ps.toList.drop 1)).all (fun (a, next) => a.1 < next.1) = true) (ho : Op.lookupswitch.offset ps.toList dflt x.toInt = off) (ht : (pc : Int) + off = (tgt : Int)) (h : V κ ids nL M l st tgt) : V κ ids nL M l (.int x :: st) pc := fun H locs ls hP hS hl => lv_lookup G.hx G.hb d hp ho ht (h H locs ls hP hS hl)
theorem s_mmin (G : Good κ ids cc nL own fr lo) {index : Nat} {x y : Int32} (d : decode cc pc = .ok (.invokestatic index, 3)) (hm : Cond.methodLink own index Lib.Math.min.name ∈ ALL) (hf : 1 ≤ fr) (hlo : (st.map fun v => v.category).sum + 13 ≤ lo) (h : V κ ids nL M l (.int (if y < x then y else x) :: st) (pc + 3)) : V κ ids nL M l (.int y :: .int x :: st) pc := fun H locs ls hP hS hl => va_mmin G.hx G.hb (by obtain ⟨lv, h1, -⟩ := hl; rw [G.hml]; exact h1.1.symm) G.hown (G.hw _ hm) (G.hw _ (by decide +kernel)) (G.hw _ (by decide +kernel)) (G.hw _ (by decide +kernel)) (Nat.le_trans hf G.hfr) (Nat.le_trans hlo G.hlo) G.hcs G.hss d (h H locs ls hP hS hl)
theorem s_mmax (G : Good κ ids cc nL own fr lo) {index : Nat} {x y : Int32} (d : decode cc pc = .ok (.invokestatic index, 3)) (hm : Cond.methodLink own index Lib.Math.max.name ∈ ALL) (hf : 1 ≤ fr) (hlo : (st.map fun v => v.category).sum + 13 ≤ lo) (h : V κ ids nL M l (.int (if x < y then y else x) :: st) (pc + 3)) : V κ ids nL M l (.int y :: .int x :: st) pc := fun H locs ls hP hS hl => va_mmax G.hx G.hb (by obtain ⟨lv, h1, -⟩ := hl; rw [G.hml]; exact h1.1.symm) G.hown (G.hw _ hm) (G.hw _ (by decide +kernel)) (G.hw _ (by decide +kernel)) (G.hw _ (by decide +kernel)) (Nat.le_trans hf G.hfr) (Nat.le_trans hlo G.hlo) G.hcs G.hss d (h H locs ls hP hS hl)
/-- a field is read -/
theorem s_get (G : Good κ ids cc nL own fr lo) {i : Pid} {index ci N k : Nat} {C : String} {T : u_T} {fs : List Value} {v : Value} (hin : ∀ w ∈ u_ws C T N, w ∈ ALL) (hi : i ∈ ids) (he : κ.E.cel M i = .inr (ci, fs)) (hc : vwCl[ci]? = some (C, T, N)) (hk : k < N) (hlink : Cond.fieldLink own index (T k).1 (T k).2.1 (T k).2.2.1 ∈ ALL) (hv : fs[k]? = some v) (d : decode cc pc = .ok (.getfield index, 3)) (h : V κ ids nL M l (v :: st) (pc + 3)) : V κ ids nL M l (.ref (κ.E.ad i) :: st) pc := fun H locs ls hP hS hl => by
  obtain ⟨q0, h1, -⟩ := PW_get κ.E.ad (κ.E.cel M) G.hnd hi
  exact va_get G.hx G.hb G.hw hin G.hown G.hK hP q0 (h1.trans (by rw [he])) hc k hk (G.hw _ hlink) (fun x h => h) hv d (h H locs ls hP hS hl)
/-- a field is written -/
theorem s_put (G : Good κ ids cc nL own fr lo) {i : Pid} {index ci N k : Nat} {C : String} {T : u_T} {fs : List Value} {v : Value} {M' : Mem} {ty : FieldType} (hin : ∀ w ∈ u_ws C T N, w ∈ ALL) (ty0 : Nat → FieldType) (hty : ∀ k, k < N → parseFieldDescriptor (T k).2.2.1 = some (ty0 k)) (hnm : ∀ a, a < N → ∀ b, b < N → a ≠ b → (T a).2.1 ≠ (T b).2.1) (hi : i ∈ ids) (he : κ.E.cel M i = .inr (ci, fs)) (hc : vwCl[ci]? = some (C, T, N)) (hk : k < N) (hlink : Cond.fieldLink own index (T k).1 (T k).2.1 (T k).2.2.1 ∈ ALL) (hfin : (T k).2.2.2 = false) (hd : parseFieldDescriptor (T k).2.2.1 = some ty) (hn : narrow ty v = v) (hfit : fits ty v = true) (hl9 : k < fs.length) (hM : κ.E.cel M' i = .inr (ci, fs.set k v)) (hM2 : ∀ j, j ≠ i → κ.E.cel M' j = κ.E.cel M j) (d : decode cc pc = .ok (.putfield index, 3)) (h : V κ ids nL M' l st (pc + 3)) : V κ ids nL M l (v :: .ref (κ.E.ad i) :: st) pc := fun H locs ls hP hS hl => by
  obtain ⟨q0, h1, h2⟩ := PW_get κ.E.ad (κ.E.cel M) G.hnd hi
  have hD : va_D κ.A (PW ids κ.E.ad (κ.E.cel M)) := by rw [G.hA]; exact PW_D _ G.hnd G.hinj _
  refine va_put G.hx G.hb G.hw hin ty0 hty hnm G.hown G.hK hP hD hS q0 (h1.trans (by rw [he])) hc k hk (G.hw _ hlink) (fun x h => h) hfin hd hn hfit hl9 d (fun H1 locs1 hP1 _ hS1 => ?_)
  rw [h2 _ (κ.E.cel M') hM hM2] at hP1
  exact h H1 locs1 ls hP1 hS1 hl
theorem s_iald (G : Good κ ids cc nL own fr lo) {i : Pid} {n j : Nat} {f : Nat → Int32} {x : Int32} (hi : i ∈ ids) (he : κ.E.cel M i = .inl (κ.E.cy 0, pInts n f)) (hx : x = nI j) (hj : j < n) (hn : n < 2 ^ 31) (d : decode cc pc = .ok (.iaload, 1)) (h : V κ ids nL M l (.int (f j) :: st) (pc + 1)) : V κ ids nL M l (.int x :: .ref (κ.E.ad i) :: st) pc := fun H locs ls hP hS hl => by
  obtain ⟨q0, h1, -⟩ := PW_get κ.E.ad (κ.E.cel M) G.hnd hi
  subst hx
  refine va_iald (f := f) G.hx G.hb G.hK hP q0 0 (h1.trans (by rw [he])) rfl (vp_in_nI hj hn) d ?_
  rw [nI_clamp (by omega)]
  exact h H locs ls hP hS hl
theorem s_iast (G : Good κ ids cc nL own fr lo) {i : Pid} {n j : Nat} {f : Nat → Int32} {x v : Int32} {M' : Mem} (hi : i ∈ ids) (he : κ.E.cel M i = .inl (κ.E.cy 0, pInts n f)) (hx : x = nI j) (hj : j < n) (hn : n < 2 ^ 31) (hM : κ.E.cel M' i = .inl (κ.E.cy 0, pInts n (upd f j v))) (hM2 : ∀ j, j ≠ i → κ.E.cel M' j = κ.E.cel M j) (d : decode cc pc = .ok (.iastore, 1)) (h : V κ ids nL M' l st (pc + 1)) : V κ ids nL M l (.int v :: .int x :: .ref (κ.E.ad i) :: st) pc := fun H locs ls hP hS hl => by
  obtain ⟨q0, h1, h2⟩ := PW_get κ.E.ad (κ.E.cel M) G.hnd hi
  have hD : va_D κ.A (PW ids κ.E.ad (κ.E.cel M)) := by rw [G.hA]; exact PW_D _ G.hnd G.hinj _
  subst hx
  refine va_iast (f := f) G.hx G.hb G.hK hP hD hS q0 0 (h1.trans (by rw [he])) rfl (vp_in_nI hj hn) d (fun H1 locs1 hP1 _ hS1 => ?_)
  rw [nI_clamp (by omega)] at hP1
  rw [h2 _ (κ.E.cel M') hM hM2] at hP1
  exact h H1 locs1 ls hP1 hS1 hl
theorem s_aald (G : Good κ ids cc nL own fr lo) {i i2 : Pid} {n j t0 : Nat} {cA : ClassId} {C : String} {f : Nat → Option Nat} {x : Int32} (hi : i ∈ ids) (he : κ.E.cel M i = .inl (cA, pRefs n f)) (ht : (tysF κ.E.cy)[t0]? = some (cA, .object C)) (hx : x = nI j) (hj : j < n) (hn : n < 2 ^ 31) (hf : f j = some (κ.E.ad i2)) (d : decode cc pc = .ok (.aaload, 1)) (h : V κ ids nL M l (.ref (κ.E.ad i2) :: st) (pc + 1)) : V κ ids nL M l (.int x :: .ref (κ.E.ad i) :: st) pc := fun H locs ls hP hS hl => by
  obtain ⟨q0, h1, -⟩ := PW_get κ.E.ad (κ.E.cel M) G.hnd hi
  subst hx
  refine va_aldq (f := f) G.hx G.hb G.hK hP q0 t0 (h1.trans (by rw [he])) ht (vp_in_nI hj hn) d ?_
  rw [nI_clamp (by omega), hf]
  exact h H locs ls hP hS hl
/-- the end that a contract's walk has to reach -/
def Ends (κ : KX) (ids : List Pid) (P : Option Value → Mem → Prop) : Prop := κ.Q = MQ κ.below (fun _ st oc t => (∃ (v : Option Value) (M' : Mem), oc = .returned v ∧ P v M' ∧ Wd κ.E ids M' t) ∧ va_F (Rg κ.E ids κ.s.heap.size) st t) κ.args κ.s 0 0 (Rg κ.E ids κ.s.heap.size) ∧ κ.n = (0, 0)
theorem s_iret (G : Good κ ids cc nL own fr lo) {P : Option Value → Mem → Prop} (E9 : Ends κ ids P) (hr : κ.meth.sig.returnType = some .int) {v : Int32} (d : decode cc pc = .ok (.ireturn, 1)) (hp : P (some (.int v)) M) : V κ ids nL M l [.int v] pc := fun H locs ls hP hS hl => by
  obtain ⟨hQ, hn⟩ := E9
  show W _ _ _ _ _ _ _ _ _ _ _ _ κ.n.1 κ.n.2 κ.Q _
  rw [hQ, hn]
  have hS' := hS
  rw [G.hA] at hS'
  exact W.iret (v := v) G.hx G.hb hr (fun t ht hW => ⟨⟨some (.int v), M, rfl, hp, by rw [ht]; exact hP, va_K.moved hW.alike G.hK, G.hinj⟩, hS'.F ht⟩) hS'.2.2 d G.hlk
theorem s_zret (G : Good κ ids cc nL own fr lo) {P : Option Value → Mem → Prop} (E9 : Ends κ ids P) (hr : κ.meth.sig.returnType = some .boolean) {v : Int32} (hv : v = 0 ∨ v = 1) (d : decode cc pc = .ok (.ireturn, 1)) (hp : P (some (.int v)) M) : V κ ids nL M l [.int v] pc := fun H locs ls hP hS hl => by
  obtain ⟨hQ, hn⟩ := E9
  show W _ _ _ _ _ _ _ _ _ _ _ _ κ.n.1 κ.n.2 κ.Q _
  rw [hQ, hn]
  have hS' := hS
  rw [G.hA] at hS'
  exact W.zret (v := v) G.hx G.hb hr (by rcases hv with rfl | rfl <;> decide) (fun t ht hW => ⟨⟨some (.int v), M, rfl, hp, by rw [ht]; exact hP, va_K.moved hW.alike G.hK, G.hinj⟩, hS'.F ht⟩) hS'.2.2 d G.hlk
theorem s_lret (G : Good κ ids cc nL own fr lo) {P : Option Value → Mem → Prop} (E9 : Ends κ ids P) (hr : κ.meth.sig.returnType = some .long) {v : Int64} (d : decode cc pc = .ok (.lreturn, 1)) (hp : P (some (.long v)) M) : V κ ids nL M l [.long v] pc := fun H locs ls hP hS hl => by
  obtain ⟨hQ, hn⟩ := E9
  show W _ _ _ _ _ _ _ _ _ _ _ _ κ.n.1 κ.n.2 κ.Q _
  rw [hQ, hn]
  have hS' := hS
  rw [G.hA] at hS'
  exact W.lret (v := v) G.hx G.hb hr (fun t ht hW => ⟨⟨some (.long v), M, rfl, hp, by rw [ht]; exact hP, va_K.moved hW.alike G.hK, G.hinj⟩, hS'.F ht⟩) hS'.2.2 d G.hlk
theorem s_vret (G : Good κ ids cc nL own fr lo) {P : Option Value → Mem → Prop} (E9 : Ends κ ids P) (hr : κ.meth.sig.returnType = none) (d : decode cc pc = .ok (.return_, 1)) (hp : P none M) : V κ ids nL M l [] pc := fun H locs ls hP hS hl => by
  obtain ⟨hQ, hn⟩ := E9
  show W _ _ _ _ _ _ _ _ _ _ _ _ κ.n.1 κ.n.2 κ.Q _
  rw [hQ, hn]
  have hS' := hS
  rw [G.hA] at hS'
  exact W.vret G.hx G.hb hr (fun t ht hW => ⟨⟨none, M, rfl, hp, by rw [ht]; exact hP, va_K.moved hW.alike G.hK, G.hinj⟩, hS'.F ht⟩) hS'.2.2 d G.hlk
/-- locals that are not needed any more -/
theorem V.drop {l2 : LSt} (hn : l2.length = l.length) (hs : ∀ (i : Nat) (v : Value), l2[i]? = some (some v) → l[i]? = some (some v)) (h : V κ ids nL M l2 st pc) : V κ ids nL M l st pc := fun H locs ls hP hS ⟨lv, h1, h2, h3⟩ => h H locs ls hP hS ⟨lv, h1, hn.trans h2, fun i v q => h3 i v (hs i v q)⟩
theorem V.drop1 (i : Nat) (h : V κ ids nL M (l.set i none) st pc) : V κ ids nL M l st pc := by
  refine V.drop (by simp) (fun j v hj => ?_) h
  by_cases hji : j = i
  · subst hji
    have hl := (List.getElem?_eq_some_iff.mp hj).1
    rw [List.getElem?_set_self (by simpa using hl)] at hj
    cases hj
  · rwa [List.getElem?_set_ne (Ne.symm hji)] at hj
end Steps
end
section
/-! ===== calls, and how a walk gives a contract ===== -/
theorem ALL_good : ∀ w ∈ ALL, w ∈ ALL ∧ ((w.onTables && w.keeps) = true ∨ ∃ ty, w = .arrayClass ty) := fun w h => ⟨h, good_of_word (List.mem_filter.mp h).2⟩
theorem ALL_warm {args : Array Value} {s : State} (h : ∀ w ∈ ALL, w.before args s = true) : ∀ w ∈ ALL, ∀ (a' : Array Value) (U : State), s.WarmedH U.vm → w.before a' U = true := pay_in h ALL_good
theorem Rg.mono {E : EX} {ids : List Pid} {a b : Nat} (h : a ≤ b) : ∀ q, Rg E ids b q → Rg E ids a q := fun q hq => hq.elim Or.inl (fun h2 => Or.inr (Nat.le_trans h h2))
theorem PC_blind {E : EX} {ids : List Pid} {M : Mem} {sz : Nat} {av : List Value} : FrameBlind (va_Pc av (fun U => U.heap.size = sz ∧ Wd E ids M U)) := fun a U g mk q => by
  obtain ⟨q0, q1, qP, qK, qI⟩ := q
  exact ⟨q0, q1, qP, va_K.moved (u := U) (U := U.calling g mk a) (Vm.Alike.refl U.vm) qK, qI⟩
section Calls9
variable {κ : KX} {ids : List Pid} {cc : ByteArray} {nL fr lo : Nat} {own : String} {M : Mem} {l : LSt} {rest : List Value} {pc : Nat}
variable {y : MethodName} {bytes : ByteArray} {maxL fr2 lo2 n index : Nat} {rt : Option FieldType} {As stk : List Value} {P : Option Value → Mem → Prop}
theorem callB_all (G : Good κ ids cc nL own fr lo) (hm : Cond.methodLink own index y ∈ ALL) (hm4 : Cond.initialized y.cls ∈ ALL) (hm5 : Cond.code y bytes maxL rt ∈ ALL) (hy : y.cls ≠ "java/lang/invoke/MethodHandle" ∧ y.cls ≠ "java/lang/invoke/VarHandle" ∧ (parseMethodDescriptor y.desc).map (fun d => d.parameters.length) = some n) (hr : fr2 + 1 ≤ fr ∧ 8 + (maxL + 11) + lo2 ≤ lo) :
    CallB κ.R κ.s κ.args own index y bytes maxL rt (Cond.code y bytes maxL rt :: ALL) { frames := fr2, cells := 0, slots := 0, locals := lo2 } 0 0 n := by
  refine ⟨rfl, rfl, Nat.le_trans hr.1 G.hfr, Nat.le_trans hr.2 G.hlo, fun w hw a' U hW => ?_, List.mem_cons_self, G.hw _ hm5, G.hw _ hm4, ⟨hy.1, hy.2.1⟩, fun sig h => ?_, G.hw _ hm⟩
  · rcases List.mem_cons.mp hw with h | h
    · subst h
      exact ALL_warm G.hw _ hm5 a' U hW
    · exact ALL_warm G.hw _ h a' U hW
  · have h2 := hy.2.2
    rw [h] at h2
    exact (Option.some.inj h2).symm
theorem s_fin (G : Good κ ids cc nL own fr lo) {H : Heap} {locs : List Loc} {ls : Array Slot} {a : Array Value} (hP : va_P κ.E.D vwCl (PW ids κ.E.ad (κ.E.cel M)) H) (hS : va_S κ.A κ.s.heap H locs) (hl : LV ls nL l)
    (hr : va_Run κ.p κ.E.l κ.e κ.R κ.s κ.m κ.args κ.below κ.meth κ.c H locs κ.n.1 κ.n.2 0 0 (F0 κ.m pc ls stk) rest ((fun _ st oc t => (∃ (v : Option Value) (M' : Mem), oc = .returned v ∧ P v M' ∧ Wd κ.E ids M' t) ∧ va_F (Rg κ.E ids H.size) st t : Array Value → State → Outcome → State → Prop) a) (Rg κ.E ids H.size))
    (h : ∀ r M', P r M' → V κ ids nL M' l (r.toList ++ rest) (pc + 3)) : κ.Wk H locs (F0 κ.m pc ls stk) := by
  intro T hT X
  obtain ⟨v, st₀, t, T', L, h0, X', hL, e1, e2, ⟨⟨v2, M', hv, hp, hWP, hWK, -⟩, hF⟩, st9⟩ := hr T hT X
  cases hv
  have hA9 : ∀ q, Rg κ.E ids H.size q → κ.A q := fun q hq => by rw [G.hA]; exact Rg.mono hS.1 q hq
  obtain ⟨k1, k2, k3⟩ := vx_keep (A0 := κ.A) h0 e1 hS (fun q _ hq => hA9 q hq) (fun q hq => hA9 q hq) hL hF
  obtain ⟨t2, a1, b1⟩ := h v M' hp T'.heap (locs ++ L) ls (by rw [e1]; exact hWP) k3 hl T' rfl X'
  exact ⟨t2, st9 t2 a1, b1⟩
/-- a call by the receiver's class -/
theorem s_callV (G : Good κ ids cc nL own fr lo) {i : Pid} {ci N : Nat} {C : String} {T : u_T} {fs : List Value} (c : Ret κ.E ids y bytes maxL rt fr2 lo2 (.ref (κ.E.ad i) :: As) M P) (hi : i ∈ ids) (he : κ.E.cel M i = .inr (ci, fs)) (hc : vwCl[ci]? = some (C, T, N)) (hm : Cond.methodLink own index y ∈ ALL) (hm2 : Cond.instanceMethod y ∈ ALL) (hm3 : Cond.selects C y y ∈ ALL) (hm4 : Cond.initialized y.cls ∈ ALL) (hm5 : Cond.code y bytes maxL rt ∈ ALL) (hy : y.cls ≠ "java/lang/invoke/MethodHandle" ∧ y.cls ≠ "java/lang/invoke/VarHandle" ∧ (parseMethodDescriptor y.desc).map (fun d => d.parameters.length) = some n) (hr : fr2 + 1 ≤ fr ∧ 8 + (maxL + 11) + lo2 ≤ lo) (hn : As.length = n) (hw : (rest.map fun v => v.category).sum ≤ 8) (d : decode cc pc = .ok (.invokevirtual index, 3)) (hstk : stk = As.reverse ++ .ref (κ.E.ad i) :: rest) (h : ∀ r M', P r M' → V κ ids nL M' l (r.toList ++ rest) (pc + 3)) : V κ ids nL M l stk pc := by
  intro H locs ls hP hS hl
  obtain ⟨q0, h1, -⟩ := PW_get κ.E.ad (κ.E.cel M) G.hnd hi
  have hls : ls.size = nL := by obtain ⟨lv, h1, -⟩ := hl; exact h1.1
  exact s_fin (a := (Value.ref (κ.E.ad i) :: As).toArray) G hP hS hl (va_runV (C := C) (b := κ.E.ad i) (As := As) (rest := rest) ⟨G.hx, G.hb, G.hml, G.hown, G.hw⟩ (c H.size) ⟨callB_all G hm hm4 hm5 hy hr, G.hw _ hm2, G.hw _ hm3⟩ ⟨PC_blind, va_recv G.hK hP (ci := ci) (q0 := q0) hc (h1.trans (by rw [he])), fun U hU hW => ⟨rfl, by rw [hU], by rw [hU]; exact hP, va_K.moved hW.alike G.hK, G.hinj⟩⟩ rfl hn hls hstk (lv_room hw) d ⟨G.hcs, G.hss⟩) h
/-- a static call -/
theorem s_callS (G : Good κ ids cc nL own fr lo) (c : Ret κ.E ids y bytes maxL rt fr2 lo2 As M P) (hm : Cond.methodLink own index y ∈ ALL) (hm2 : Cond.static y ∈ ALL) (hm4 : Cond.initialized y.cls ∈ ALL) (hm5 : Cond.code y bytes maxL rt ∈ ALL) (hy : y.cls ≠ "java/lang/invoke/MethodHandle" ∧ y.cls ≠ "java/lang/invoke/VarHandle" ∧ (parseMethodDescriptor y.desc).map (fun d => d.parameters.length) = some n) (hr : fr2 + 1 ≤ fr ∧ 8 + (maxL + 11) + lo2 ≤ lo) (hn : As.length = n) (hw : (rest.map fun v => v.category).sum ≤ 8) (d : decode cc pc = .ok (.invokestatic index, 3)) (hstk : stk = As.reverse ++ rest) (h : ∀ r M', P r M' → V κ ids nL M' l (r.toList ++ rest) (pc + 3)) : V κ ids nL M l stk pc := by
  intro H locs ls hP hS hl
  have hls : ls.size = nL := by obtain ⟨lv, h1, -⟩ := hl; exact h1.1
  exact s_fin (a := As.toArray) G hP hS hl (va_runS (As := As) (rest := rest) ⟨G.hx, G.hb, G.hml, G.hown, G.hw⟩ (c H.size) ⟨callB_all G hm hm4 hm5 hy hr, G.hw _ hm2⟩ ⟨PC_blind, fun U hU hW => ⟨rfl, by rw [hU], by rw [hU]; exact hP, va_K.moved hW.alike G.hK, G.hinj⟩⟩ rfl hn hls hstk (lv_room hw) d ⟨G.hcs, G.hss⟩) h
end Calls9
def entA : List Value → LSt
  | [] => []
  | v :: vs => if v.category = 2 then some v :: none :: entA vs else some v :: entA vs
def entL (vs : List Value) (nL : Nat) : LSt := entA vs ++ List.replicate (nL - (entA vs).length) none
theorem entA_mem : ∀ (vs : List Value) (k i : Nat) (v : Value), (entA vs)[i]? = some (some v) → (k + i, v) ∈ lv_args k vs
  | [], k, i, v, h => by simp [entA] at h
  | w :: vs, k, i, v, h => by
    unfold entA at h
    unfold lv_args
    by_cases hc : w.category = 2
    · rw [if_pos hc] at h ⊢
      match i, h with
      | 0, h => simp at h; subst h; exact List.mem_cons_self
      | 1, h => simp at h
      | i + 2, h =>
        have := entA_mem vs (k + 2) i v (by simpa using h)
        refine List.mem_cons_of_mem _ ?_
        rw [show k + (i + 2) = k + 2 + i by omega]
        exact this
    · rw [if_neg hc] at h ⊢
      match i, h with
      | 0, h => simp at h; subst h; exact List.mem_cons_self
      | i + 1, h =>
        have := entA_mem vs (k + 1) i v (by simpa using h)
        refine List.mem_cons_of_mem _ ?_
        rw [show k + (i + 1) = k + 1 + i by omega]
        exact this
theorem entA_len : ∀ vs : List Value, (entA vs).length = (lg_sl vs).length
  | [] => rfl
  | v :: vs => by
    have ih := entA_len vs
    unfold entA
    rw [show lg_sl (v :: vs) = lg_sl [v] ++ lg_sl vs by simp [lg_sl]]
    cases v <;> simp [Value.category, lg_sl] at ih ⊢ <;> omega
theorem Ret_of_V {E : EX} {ids : List Pid} {y : MethodName} {cc : ByteArray} {nL : Nat} {rt : Option FieldType} {fr lo : Nat} {args : List Value} {M : Mem} {P : Option Value → Mem → Prop} (own : String) (hy : plainName y.cls = true) (ho : y.cls = own) (hnd : ids.Nodup) (l0 : LSt) (hl0 : entL args nL = l0) (hlen : (entA args).length ≤ nL)
    (body : ∀ κ : KX, κ.E = E → Good κ ids cc nL own fr lo → Ends κ ids P → κ.meth.sig.returnType = rt → V κ ids nL M l0 [] 0) : Ret E ids y cc nL rt fr lo args M P := by
  intro sz
  refine Met.ofW (cc := cc) (maxL := nL) (ret := rt) hy rfl ?_
  intro p e s m args9 below meth c s₁ B hml hv
  obtain ⟨rfl, hsz, hP, hK, hI⟩ := hv
  have hts := atoms_spec (ws := Cond.code y cc nL rt :: ALL) B.pre
  have hown : s.vm.findClass own = some m.cls := by rw [← ho]; exact findClass_of_methodNamed B.named
  subst hsz
  subst hl0
  have hlg : (lg_sl args).length ≤ nL := by rw [← entA_len]; exact hlen
  have hl := lv_entry args hlg
  rw [lg_entry_eq]
  generalize hls9 : (lg_sl args ++ List.replicate (nL - (lg_sl args).length) Slot.unset).toArray = ls at hl ⊢
  have hLV : LV ls nL (entL args nL) := by
    refine ⟨_, hl, ?_, fun i v hi => ?_⟩
    · simp only [entL, List.length_append, List.length_replicate]
      omega
    · simp only [entL] at hi
      by_cases hi9 : i < (entA args).length
      · rw [List.getElem?_append_left hi9] at hi
        have := entA_mem args 0 i v hi
        simpa using this
      · rw [List.getElem?_append_right (by omega)] at hi
        have := List.eq_of_mem_replicate (List.mem_of_getElem? hi)
        cases this
  have hb := body ((p, E, e, (headSpec (Cond.code y cc nL rt :: ALL) { frames := fr, cells := 0, slots := 0, locals := lo }).room, s), (m, args.toArray, below, meth, c), MQ below (fun _ st oc t => (∃ (v : Option Value) (M' : Mem), oc = .returned v ∧ P v M' ∧ Wd E ids M' t) ∧ va_F (Rg E ids s.heap.size) st t) args.toArray s 0 0 (Rg E ids s.heap.size), Rg E ids s.heap.size, (0, 0)) rfl
    ⟨B.exec, B.bytes, hml, hown, fun w hw => hts w (List.mem_cons_of_mem _ hw), hK, hI, hnd, rfl, B.notSynchronized, Nat.le_refl _, Nat.le_refl _, Nat.zero_le _, Nat.zero_le _⟩ ⟨rfl, rfl⟩ B.returns
  exact hb s.heap [] ls hP va_S.rf hLV
/-- a contract's end may say less -/
theorem Ret.weak {E : EX} {ids : List Pid} {y : MethodName} {cc : ByteArray} {nL : Nat} {rt : Option FieldType} {fr lo : Nat} {args : List Value} {M : Mem} {P P2 : Option Value → Mem → Prop} (h : Ret E ids y cc nL rt fr lo args M P) (hp : ∀ v M', P v M' → P2 v M') : Ret E ids y cc nL rt fr lo args M P2 := by
  intro sz p e ha hc hk s m args below hf h1 h2 h3
  obtain ⟨k, o, a1, a2, a3, ⟨⟨⟨v, M', b1, b2, b3⟩, b4⟩, b5⟩⟩ := h sz p e ha hc hk s m args below hf h1 h2 h3
  exact ⟨k, o, a1, a2, a3, ⟨⟨⟨v, M', b1, hp v M' b2, b3⟩, b4⟩, b5⟩⟩
end
section
/-! ===== rows for each field and each call, by the places in the constant pools (written by wip/whole/genlinks.py) ===== -/
theorem uX0 : ∀ w ∈ u_ws RX0 TX0 9, w ∈ ALL := by decide +kernel
theorem uX1 : ∀ w ∈ u_ws RX1 TX1 4, w ∈ ALL := by decide +kernel
theorem uX2 : ∀ w ∈ u_ws RX2 TX2 11, w ∈ ALL := by decide +kernel
theorem uX3 : ∀ w ∈ u_ws RX3 TX3 3, w ∈ ALL := by decide +kernel
theorem uX4 : ∀ w ∈ u_ws RX4 TX4 9, w ∈ ALL := by decide +kernel
theorem uX5 : ∀ w ∈ u_ws RX5 TX5 2, w ∈ ALL := by decide +kernel
theorem uX6 : ∀ w ∈ u_ws RX6 TX6 10, w ∈ ALL := by decide +kernel
theorem celF_congr {ad : Pid → Nat} {cy : Nat → ClassId} {M M' : Mem} {i : Pid} (h : M' i = M i) : celF ad cy M' i = celF ad cy M i := by
  unfold celF
  split <;> simp only [h]
theorem up_ne {M : Mem} {i j : Pid} {k : Nat} {v : Int32} (h : j ≠ i) : up M i k v j = M j := by
  funext n
  simp [up, h]
theorem up_at {M : Mem} {i : Pid} {k n : Nat} {v : Int32} : up M i k v i n = if n = k then v else M i n := by
  simp [up]
theorem up_row {M : Mem} {i : Pid} {k : Nat} {v : Int32} : up M i k v i = upd (M i) k v := by
  funext n
  simp [up, upd]
theorem cel_ne {E : EX} {M : Mem} {i j : Pid} {k : Nat} {v : Int32} (h : j ≠ i) : E.cel (up M i k v) j = E.cel M j := celF_congr (up_ne h)
section Links
variable {κ : KX} {cc : ByteArray} {nL fr lo : Nat} {M : Mem} {l : LSt} {st : List Value} {pc : Nat}
theorem gX0_9 (G : Good κ idsC cc nL RX0 fr lo) {f b : Nat} (hf : f < 2) (hb : b < 8) (d : decode cc pc = .ok (.getfield 9, 3)) (h : V κ idsC nL M l (.ref (κ.E.ad (9, f, b)) :: st) (pc + 3)) : V κ idsC nL M l (.ref (κ.E.ad (2, f, b)) :: st) pc := s_get (T := TX0) (k := 8) G uX0 (mC2 hf hb) rfl rfl (by decide) (by decide +kernel) rfl d h
theorem gX0_15 (G : Good κ idsC cc nL RX0 fr lo) {f b : Nat} (hf : f < 2) (hb : b < 8) (d : decode cc pc = .ok (.getfield 15, 3)) (h : V κ idsC nL M l (.int (M (2, f, b) 0) :: st) (pc + 3)) : V κ idsC nL M l (.ref (κ.E.ad (2, f, b)) :: st) pc := s_get (T := TX0) (k := 0) G uX0 (mC2 hf hb) rfl rfl (by decide) (by decide +kernel) rfl d h
theorem gX0_19 (G : Good κ idsC cc nL RX0 fr lo) {f b : Nat} (hf : f < 2) (hb : b < 8) (d : decode cc pc = .ok (.getfield 19, 3)) (h : V κ idsC nL M l (.int (M (2, f, b) 1) :: st) (pc + 3)) : V κ idsC nL M l (.ref (κ.E.ad (2, f, b)) :: st) pc := s_get (T := TX0) (k := 1) G uX0 (mC2 hf hb) rfl rfl (by decide) (by decide +kernel) rfl d h
theorem gX0_22 (G : Good κ idsC cc nL RX0 fr lo) {f b : Nat} (hf : f < 2) (hb : b < 8) (d : decode cc pc = .ok (.getfield 22, 3)) (h : V κ idsC nL M l (.int (M (2, f, b) 2) :: st) (pc + 3)) : V κ idsC nL M l (.ref (κ.E.ad (2, f, b)) :: st) pc := s_get (T := TX0) (k := 2) G uX0 (mC2 hf hb) rfl rfl (by decide) (by decide +kernel) rfl d h
theorem gX0_25 (G : Good κ idsC cc nL RX0 fr lo) {f b : Nat} (hf : f < 2) (hb : b < 8) (d : decode cc pc = .ok (.getfield 25, 3)) (h : V κ idsC nL M l (.int (M (2, f, b) 3) :: st) (pc + 3)) : V κ idsC nL M l (.ref (κ.E.ad (2, f, b)) :: st) pc := s_get (T := TX0) (k := 3) G uX0 (mC2 hf hb) rfl rfl (by decide) (by decide +kernel) rfl d h
theorem gX0_28 (G : Good κ idsC cc nL RX0 fr lo) {f b : Nat} (hf : f < 2) (hb : b < 8) (d : decode cc pc = .ok (.getfield 28, 3)) (h : V κ idsC nL M l (.int (M (2, f, b) 4) :: st) (pc + 3)) : V κ idsC nL M l (.ref (κ.E.ad (2, f, b)) :: st) pc := s_get (T := TX0) (k := 4) G uX0 (mC2 hf hb) rfl rfl (by decide) (by decide +kernel) rfl d h
theorem gX0_31 (G : Good κ idsC cc nL RX0 fr lo) {f b : Nat} (hf : f < 2) (hb : b < 8) (d : decode cc pc = .ok (.getfield 31, 3)) (h : V κ idsC nL M l (.int (M (2, f, b) 5) :: st) (pc + 3)) : V κ idsC nL M l (.ref (κ.E.ad (2, f, b)) :: st) pc := s_get (T := TX0) (k := 5) G uX0 (mC2 hf hb) rfl rfl (by decide) (by decide +kernel) rfl d h
theorem gX0_34 (G : Good κ idsC cc nL RX0 fr lo) {f b : Nat} (hf : f < 2) (hb : b < 8) (d : decode cc pc = .ok (.getfield 34, 3)) (h : V κ idsC nL M l (.int (M (2, f, b) 6) :: st) (pc + 3)) : V κ idsC nL M l (.ref (κ.E.ad (2, f, b)) :: st) pc := s_get (T := TX0) (k := 6) G uX0 (mC2 hf hb) rfl rfl (by decide) (by decide +kernel) rfl d h
theorem gX0_37 (G : Good κ idsC cc nL RX0 fr lo) {f b : Nat} (hf : f < 2) (hb : b < 8) (d : decode cc pc = .ok (.getfield 37, 3)) (h : V κ idsC nL M l (.int (M (2, f, b) 7) :: st) (pc + 3)) : V κ idsC nL M l (.ref (κ.E.ad (2, f, b)) :: st) pc := s_get (T := TX0) (k := 7) G uX0 (mC2 hf hb) rfl rfl (by decide) (by decide +kernel) rfl d h
theorem gX1_9 (G : Good κ idsC cc nL RX1 fr lo) {f : Nat} (hf : f < 2) (d : decode cc pc = .ok (.getfield 9, 3)) (h : V κ idsC nL M l (.ref (κ.E.ad (11, f, 0)) :: st) (pc + 3)) : V κ idsC nL M l (.ref (κ.E.ad (5, f, 0)) :: st) pc := s_get (T := TX1) (k := 1) G uX1 (mC5 hf) rfl rfl (by decide) (by decide +kernel) rfl d h
theorem gX1_15 (G : Good κ idsC cc nL RX1 fr lo) {f : Nat} (hf : f < 2) (d : decode cc pc = .ok (.getfield 15, 3)) (h : V κ idsC nL M l (.ref (κ.E.ad (12, f, 0)) :: st) (pc + 3)) : V κ idsC nL M l (.ref (κ.E.ad (5, f, 0)) :: st) pc := s_get (T := TX1) (k := 2) G uX1 (mC5 hf) rfl rfl (by decide) (by decide +kernel) rfl d h
theorem gX1_18 (G : Good κ idsC cc nL RX1 fr lo) {f : Nat} (hf : f < 2) (d : decode cc pc = .ok (.getfield 18, 3)) (h : V κ idsC nL M l (.ref (κ.E.ad (13, f, 0)) :: st) (pc + 3)) : V κ idsC nL M l (.ref (κ.E.ad (5, f, 0)) :: st) pc := s_get (T := TX1) (k := 3) G uX1 (mC5 hf) rfl rfl (by decide) (by decide +kernel) rfl d h
theorem gX1_21 (G : Good κ idsC cc nL RX1 fr lo) {f : Nat} (hf : f < 2) (d : decode cc pc = .ok (.getfield 21, 3)) (h : V κ idsC nL M l (.int (M (5, f, 0) 0) :: st) (pc + 3)) : V κ idsC nL M l (.ref (κ.E.ad (5, f, 0)) :: st) pc := s_get (T := TX1) (k := 0) G uX1 (mC5 hf) rfl rfl (by decide) (by decide +kernel) rfl d h
theorem gX2_11 (G : Good κ idsC cc nL RX2 fr lo) {f : Nat} (hf : f < 2) (d : decode cc pc = .ok (.getfield 11, 3)) (h : V κ idsC nL M l (.ref (κ.E.ad (6, f, 0)) :: st) (pc + 3)) : V κ idsC nL M l (.ref (κ.E.ad (1, f, 0)) :: st) pc := s_get (T := TX2) (k := 0) G uX2 (mC1 hf) rfl rfl (by decide) (by decide +kernel) rfl d h
theorem gX2_19 (G : Good κ idsC cc nL RX2 fr lo) {f : Nat} (hf : f < 2) (d : decode cc pc = .ok (.getfield 19, 3)) (h : V κ idsC nL M l (.ref (κ.E.ad (7, f, 0)) :: st) (pc + 3)) : V κ idsC nL M l (.ref (κ.E.ad (1, f, 0)) :: st) pc := s_get (T := TX2) (k := 2) G uX2 (mC1 hf) rfl rfl (by decide) (by decide +kernel) rfl d h
theorem gX2_25 (G : Good κ idsC cc nL RX2 fr lo) {f : Nat} (hf : f < 2) (d : decode cc pc = .ok (.getfield 25, 3)) (h : V κ idsC nL M l (.ref (κ.E.ad (8, f, 0)) :: st) (pc + 3)) : V κ idsC nL M l (.ref (κ.E.ad (1, f, 0)) :: st) pc := s_get (T := TX2) (k := 4) G uX2 (mC1 hf) rfl rfl (by decide) (by decide +kernel) rfl d h
theorem gX2_32 (G : Good κ idsC cc nL RX2 fr lo) {f : Nat} (hf : f < 2) (d : decode cc pc = .ok (.getfield 32, 3)) (h : V κ idsC nL M l (.ref (κ.E.ad (5, f, 0)) :: st) (pc + 3)) : V κ idsC nL M l (.ref (κ.E.ad (1, f, 0)) :: st) pc := s_get (T := TX2) (k := 6) G uX2 (mC1 hf) rfl rfl (by decide) (by decide +kernel) rfl d h
theorem gX2_36 (G : Good κ idsC cc nL RX2 fr lo) {f : Nat} (hf : f < 2) (d : decode cc pc = .ok (.getfield 36, 3)) (h : V κ idsC nL M l (.int (M (1, f, 0) 8) :: st) (pc + 3)) : V κ idsC nL M l (.ref (κ.E.ad (1, f, 0)) :: st) pc := s_get (T := TX2) (k := 8) G uX2 (mC1 hf) rfl rfl (by decide) (by decide +kernel) rfl d h
theorem gX2_40 (G : Good κ idsC cc nL RX2 fr lo) {f : Nat} (hf : f < 2) (d : decode cc pc = .ok (.getfield 40, 3)) (h : V κ idsC nL M l (.int (M (1, f, 0) 9) :: st) (pc + 3)) : V κ idsC nL M l (.ref (κ.E.ad (1, f, 0)) :: st) pc := s_get (T := TX2) (k := 9) G uX2 (mC1 hf) rfl rfl (by decide) (by decide +kernel) rfl d h
theorem gX2_46 (G : Good κ idsC cc nL RX2 fr lo) {f : Nat} (hf : f < 2) (d : decode cc pc = .ok (.getfield 46, 3)) (h : V κ idsC nL M l (.int (M (1, f, 0) 1) :: st) (pc + 3)) : V κ idsC nL M l (.ref (κ.E.ad (1, f, 0)) :: st) pc := s_get (T := TX2) (k := 1) G uX2 (mC1 hf) rfl rfl (by decide) (by decide +kernel) rfl d h
theorem gX2_49 (G : Good κ idsC cc nL RX2 fr lo) {f : Nat} (hf : f < 2) (d : decode cc pc = .ok (.getfield 49, 3)) (h : V κ idsC nL M l (.int (M (1, f, 0) 3) :: st) (pc + 3)) : V κ idsC nL M l (.ref (κ.E.ad (1, f, 0)) :: st) pc := s_get (T := TX2) (k := 3) G uX2 (mC1 hf) rfl rfl (by decide) (by decide +kernel) rfl d h
theorem gX2_52 (G : Good κ idsC cc nL RX2 fr lo) {f : Nat} (hf : f < 2) (d : decode cc pc = .ok (.getfield 52, 3)) (h : V κ idsC nL M l (.int (M (1, f, 0) 5) :: st) (pc + 3)) : V κ idsC nL M l (.ref (κ.E.ad (1, f, 0)) :: st) pc := s_get (T := TX2) (k := 5) G uX2 (mC1 hf) rfl rfl (by decide) (by decide +kernel) rfl d h
theorem gX2_55 (G : Good κ idsC cc nL RX2 fr lo) {f : Nat} (hf : f < 2) (d : decode cc pc = .ok (.getfield 55, 3)) (h : V κ idsC nL M l (.int (M (1, f, 0) 7) :: st) (pc + 3)) : V κ idsC nL M l (.ref (κ.E.ad (1, f, 0)) :: st) pc := s_get (T := TX2) (k := 7) G uX2 (mC1 hf) rfl rfl (by decide) (by decide +kernel) rfl d h
theorem gX2_58 (G : Good κ idsC cc nL RX2 fr lo) {f : Nat} (hf : f < 2) (d : decode cc pc = .ok (.getfield 58, 3)) (h : V κ idsC nL M l (.int (M (1, f, 0) 10) :: st) (pc + 3)) : V κ idsC nL M l (.ref (κ.E.ad (1, f, 0)) :: st) pc := s_get (T := TX2) (k := 10) G uX2 (mC1 hf) rfl rfl (by decide) (by decide +kernel) rfl d h
theorem gX2_87 (G : Good κ idsC cc nL RX2 fr lo) {f b : Nat} (hf : f < 2) (hb : b < 12) (d : decode cc pc = .ok (.getfield 87, 3)) (h : V κ idsC nL M l (.int (M (3, f, b) 1) :: st) (pc + 3)) : V κ idsC nL M l (.ref (κ.E.ad (3, f, b)) :: st) pc := s_get (T := TX3) (k := 1) G uX3 (mC3 hf hb) rfl rfl (by decide) (by decide +kernel) rfl d h
theorem gX2_93 (G : Good κ idsC cc nL RX2 fr lo) {f b : Nat} (hf : f < 2) (hb : b < 8) (d : decode cc pc = .ok (.getfield 93, 3)) (h : V κ idsC nL M l (.int (M (2, f, b) 4) :: st) (pc + 3)) : V κ idsC nL M l (.ref (κ.E.ad (2, f, b)) :: st) pc := s_get (T := TX0) (k := 4) G uX0 (mC2 hf hb) rfl rfl (by decide) (by decide +kernel) rfl d h
theorem gX2_99 (G : Good κ idsC cc nL RX2 fr lo) {f b : Nat} (hf : f < 2) (hb : b < 16) (d : decode cc pc = .ok (.getfield 99, 3)) (h : V κ idsC nL M l (.int (M (4, f, b) 3) :: st) (pc + 3)) : V κ idsC nL M l (.ref (κ.E.ad (4, f, b)) :: st) pc := s_get (T := TX4) (k := 3) G uX4 (mC4 hf hb) rfl rfl (by decide) (by decide +kernel) rfl d h
theorem gX2_104 (G : Good κ idsC cc nL RX2 fr lo) {f b : Nat} (hf : f < 2) (hb : b < 8) (d : decode cc pc = .ok (.getfield 104, 3)) (h : V κ idsC nL M l (.int (M (2, f, b) 0) :: st) (pc + 3)) : V κ idsC nL M l (.ref (κ.E.ad (2, f, b)) :: st) pc := s_get (T := TX0) (k := 0) G uX0 (mC2 hf hb) rfl rfl (by decide) (by decide +kernel) rfl d h
theorem gX2_144 (G : Good κ idsC cc nL RX2 fr lo) {f b : Nat} (hf : f < 2) (hb : b < 16) (d : decode cc pc = .ok (.getfield 144, 3)) (h : V κ idsC nL M l (.int (M (4, f, b) 0) :: st) (pc + 3)) : V κ idsC nL M l (.ref (κ.E.ad (4, f, b)) :: st) pc := s_get (T := TX4) (k := 0) G uX4 (mC4 hf hb) rfl rfl (by decide) (by decide +kernel) rfl d h
theorem gX2_151 (G : Good κ idsC cc nL RX2 fr lo) {f b : Nat} (hf : f < 2) (hb : b < 8) (d : decode cc pc = .ok (.getfield 151, 3)) (h : V κ idsC nL M l (.int (M (2, f, b) 2) :: st) (pc + 3)) : V κ idsC nL M l (.ref (κ.E.ad (2, f, b)) :: st) pc := s_get (T := TX0) (k := 2) G uX0 (mC2 hf hb) rfl rfl (by decide) (by decide +kernel) rfl d h
theorem gX2_158 (G : Good κ idsC cc nL RX2 fr lo) {f b : Nat} (hf : f < 2) (hb : b < 8) (d : decode cc pc = .ok (.getfield 158, 3)) (h : V κ idsC nL M l (.int (M (2, f, b) 7) :: st) (pc + 3)) : V κ idsC nL M l (.ref (κ.E.ad (2, f, b)) :: st) pc := s_get (T := TX0) (k := 7) G uX0 (mC2 hf hb) rfl rfl (by decide) (by decide +kernel) rfl d h
theorem gX2_161 (G : Good κ idsC cc nL RX2 fr lo) {f b : Nat} (hf : f < 2) (hb : b < 16) (d : decode cc pc = .ok (.getfield 161, 3)) (h : V κ idsC nL M l (.ref (κ.E.ad (10, f, b)) :: st) (pc + 3)) : V κ idsC nL M l (.ref (κ.E.ad (4, f, b)) :: st) pc := s_get (T := TX4) (k := 8) G uX4 (mC4 hf hb) rfl rfl (by decide) (by decide +kernel) rfl d h
theorem gX2_171 (G : Good κ idsC cc nL RX2 fr lo) {f b : Nat} (hf : f < 2) (hb : b < 8) (d : decode cc pc = .ok (.getfield 171, 3)) (h : V κ idsC nL M l (.ref (κ.E.ad (9, f, b)) :: st) (pc + 3)) : V κ idsC nL M l (.ref (κ.E.ad (2, f, b)) :: st) pc := s_get (T := TX0) (k := 8) G uX0 (mC2 hf hb) rfl rfl (by decide) (by decide +kernel) rfl d h
theorem gX2_180 (G : Good κ idsC cc nL RX2 fr lo) {f b : Nat} (hf : f < 2) (hb : b < 8) (d : decode cc pc = .ok (.getfield 180, 3)) (h : V κ idsC nL M l (.int (M (2, f, b) 6) :: st) (pc + 3)) : V κ idsC nL M l (.ref (κ.E.ad (2, f, b)) :: st) pc := s_get (T := TX0) (k := 6) G uX0 (mC2 hf hb) rfl rfl (by decide) (by decide +kernel) rfl d h
theorem gX2_191 (G : Good κ idsC cc nL RX2 fr lo) {f b : Nat} (hf : f < 2) (hb : b < 16) (d : decode cc pc = .ok (.getfield 191, 3)) (h : V κ idsC nL M l (.int (M (4, f, b) 6) :: st) (pc + 3)) : V κ idsC nL M l (.ref (κ.E.ad (4, f, b)) :: st) pc := s_get (T := TX4) (k := 6) G uX4 (mC4 hf hb) rfl rfl (by decide) (by decide +kernel) rfl d h
theorem gX2_194 (G : Good κ idsC cc nL RX2 fr lo) {f b : Nat} (hf : f < 2) (hb : b < 8) (d : decode cc pc = .ok (.getfield 194, 3)) (h : V κ idsC nL M l (.int (M (2, f, b) 5) :: st) (pc + 3)) : V κ idsC nL M l (.ref (κ.E.ad (2, f, b)) :: st) pc := s_get (T := TX0) (k := 5) G uX0 (mC2 hf hb) rfl rfl (by decide) (by decide +kernel) rfl d h
theorem gX2_195 (G : Good κ idsC cc nL RX2 fr lo) {f b : Nat} (hf : f < 2) (hb : b < 16) (d : decode cc pc = .ok (.getfield 195, 3)) (h : V κ idsC nL M l (.int (M (4, f, b) 7) :: st) (pc + 3)) : V κ idsC nL M l (.ref (κ.E.ad (4, f, b)) :: st) pc := s_get (T := TX4) (k := 7) G uX4 (mC4 hf hb) rfl rfl (by decide) (by decide +kernel) rfl d h
theorem gX2_201 (G : Good κ idsC cc nL RX2 fr lo) {f b : Nat} (hf : f < 2) (hb : b < 8) (d : decode cc pc = .ok (.getfield 201, 3)) (h : V κ idsC nL M l (.int (M (2, f, b) 1) :: st) (pc + 3)) : V κ idsC nL M l (.ref (κ.E.ad (2, f, b)) :: st) pc := s_get (T := TX0) (k := 1) G uX0 (mC2 hf hb) rfl rfl (by decide) (by decide +kernel) rfl d h
theorem gX2_204 (G : Good κ idsC cc nL RX2 fr lo) {f b : Nat} (hf : f < 2) (hb : b < 16) (d : decode cc pc = .ok (.getfield 204, 3)) (h : V κ idsC nL M l (.int (M (4, f, b) 4) :: st) (pc + 3)) : V κ idsC nL M l (.ref (κ.E.ad (4, f, b)) :: st) pc := s_get (T := TX4) (k := 4) G uX4 (mC4 hf hb) rfl rfl (by decide) (by decide +kernel) rfl d h
theorem gX2_205 (G : Good κ idsC cc nL RX2 fr lo) {f b : Nat} (hf : f < 2) (hb : b < 16) (d : decode cc pc = .ok (.getfield 205, 3)) (h : V κ idsC nL M l (.int (M (4, f, b) 1) :: st) (pc + 3)) : V κ idsC nL M l (.ref (κ.E.ad (4, f, b)) :: st) pc := s_get (T := TX4) (k := 1) G uX4 (mC4 hf hb) rfl rfl (by decide) (by decide +kernel) rfl d h
theorem gX2_208 (G : Good κ idsC cc nL RX2 fr lo) {f b : Nat} (hf : f < 2) (hb : b < 8) (d : decode cc pc = .ok (.getfield 208, 3)) (h : V κ idsC nL M l (.int (M (2, f, b) 3) :: st) (pc + 3)) : V κ idsC nL M l (.ref (κ.E.ad (2, f, b)) :: st) pc := s_get (T := TX0) (k := 3) G uX0 (mC2 hf hb) rfl rfl (by decide) (by decide +kernel) rfl d h
theorem gX2_211 (G : Good κ idsC cc nL RX2 fr lo) {f b : Nat} (hf : f < 2) (hb : b < 12) (d : decode cc pc = .ok (.getfield 211, 3)) (h : V κ idsC nL M l (.int (M (3, f, b) 2) :: st) (pc + 3)) : V κ idsC nL M l (.ref (κ.E.ad (3, f, b)) :: st) pc := s_get (T := TX3) (k := 2) G uX3 (mC3 hf hb) rfl rfl (by decide) (by decide +kernel) rfl d h
theorem gX2_214 (G : Good κ idsC cc nL RX2 fr lo) {f b : Nat} (hf : f < 2) (hb : b < 12) (d : decode cc pc = .ok (.getfield 214, 3)) (h : V κ idsC nL M l (.int (M (3, f, b) 0) :: st) (pc + 3)) : V κ idsC nL M l (.ref (κ.E.ad (3, f, b)) :: st) pc := s_get (T := TX3) (k := 0) G uX3 (mC3 hf hb) rfl rfl (by decide) (by decide +kernel) rfl d h
theorem gX2_223 (G : Good κ idsC cc nL RX2 fr lo) {f : Nat} (hf : f < 2) (d : decode cc pc = .ok (.getfield 223, 3)) (h : V κ idsC nL M l (.int (M (5, f, 0) 0) :: st) (pc + 3)) : V κ idsC nL M l (.ref (κ.E.ad (5, f, 0)) :: st) pc := s_get (T := TX1) (k := 0) G uX1 (mC5 hf) rfl rfl (by decide) (by decide +kernel) rfl d h
theorem gX2_229 (G : Good κ idsC cc nL RX2 fr lo) {f : Nat} (hf : f < 2) (d : decode cc pc = .ok (.getfield 229, 3)) (h : V κ idsC nL M l (.ref (κ.E.ad (11, f, 0)) :: st) (pc + 3)) : V κ idsC nL M l (.ref (κ.E.ad (5, f, 0)) :: st) pc := s_get (T := TX1) (k := 1) G uX1 (mC5 hf) rfl rfl (by decide) (by decide +kernel) rfl d h
theorem gX2_231 (G : Good κ idsC cc nL RX2 fr lo) {f b : Nat} (hf : f < 2) (hb : b < 16) (d : decode cc pc = .ok (.getfield 231, 3)) (h : V κ idsC nL M l (.int (M (4, f, b) 5) :: st) (pc + 3)) : V κ idsC nL M l (.ref (κ.E.ad (4, f, b)) :: st) pc := s_get (T := TX4) (k := 5) G uX4 (mC4 hf hb) rfl rfl (by decide) (by decide +kernel) rfl d h
theorem gX3_9 (G : Good κ idsC cc nL RX3 fr lo) {f b : Nat} (hf : f < 2) (hb : b < 12) (d : decode cc pc = .ok (.getfield 9, 3)) (h : V κ idsC nL M l (.int (M (3, f, b) 0) :: st) (pc + 3)) : V κ idsC nL M l (.ref (κ.E.ad (3, f, b)) :: st) pc := s_get (T := TX3) (k := 0) G uX3 (mC3 hf hb) rfl rfl (by decide) (by decide +kernel) rfl d h
theorem gX3_15 (G : Good κ idsC cc nL RX3 fr lo) {f b : Nat} (hf : f < 2) (hb : b < 12) (d : decode cc pc = .ok (.getfield 15, 3)) (h : V κ idsC nL M l (.int (M (3, f, b) 1) :: st) (pc + 3)) : V κ idsC nL M l (.ref (κ.E.ad (3, f, b)) :: st) pc := s_get (T := TX3) (k := 1) G uX3 (mC3 hf hb) rfl rfl (by decide) (by decide +kernel) rfl d h
theorem gX3_18 (G : Good κ idsC cc nL RX3 fr lo) {f b : Nat} (hf : f < 2) (hb : b < 12) (d : decode cc pc = .ok (.getfield 18, 3)) (h : V κ idsC nL M l (.int (M (3, f, b) 2) :: st) (pc + 3)) : V κ idsC nL M l (.ref (κ.E.ad (3, f, b)) :: st) pc := s_get (T := TX3) (k := 2) G uX3 (mC3 hf hb) rfl rfl (by decide) (by decide +kernel) rfl d h
theorem gX4_9 (G : Good κ idsC cc nL RX4 fr lo) {f b : Nat} (hf : f < 2) (hb : b < 16) (d : decode cc pc = .ok (.getfield 9, 3)) (h : V κ idsC nL M l (.ref (κ.E.ad (10, f, b)) :: st) (pc + 3)) : V κ idsC nL M l (.ref (κ.E.ad (4, f, b)) :: st) pc := s_get (T := TX4) (k := 8) G uX4 (mC4 hf hb) rfl rfl (by decide) (by decide +kernel) rfl d h
theorem gX4_15 (G : Good κ idsC cc nL RX4 fr lo) {f b : Nat} (hf : f < 2) (hb : b < 16) (d : decode cc pc = .ok (.getfield 15, 3)) (h : V κ idsC nL M l (.int (M (4, f, b) 0) :: st) (pc + 3)) : V κ idsC nL M l (.ref (κ.E.ad (4, f, b)) :: st) pc := s_get (T := TX4) (k := 0) G uX4 (mC4 hf hb) rfl rfl (by decide) (by decide +kernel) rfl d h
theorem gX4_19 (G : Good κ idsC cc nL RX4 fr lo) {f b : Nat} (hf : f < 2) (hb : b < 16) (d : decode cc pc = .ok (.getfield 19, 3)) (h : V κ idsC nL M l (.int (M (4, f, b) 1) :: st) (pc + 3)) : V κ idsC nL M l (.ref (κ.E.ad (4, f, b)) :: st) pc := s_get (T := TX4) (k := 1) G uX4 (mC4 hf hb) rfl rfl (by decide) (by decide +kernel) rfl d h
theorem gX4_22 (G : Good κ idsC cc nL RX4 fr lo) {f b : Nat} (hf : f < 2) (hb : b < 16) (d : decode cc pc = .ok (.getfield 22, 3)) (h : V κ idsC nL M l (.int (M (4, f, b) 3) :: st) (pc + 3)) : V κ idsC nL M l (.ref (κ.E.ad (4, f, b)) :: st) pc := s_get (T := TX4) (k := 3) G uX4 (mC4 hf hb) rfl rfl (by decide) (by decide +kernel) rfl d h
theorem gX4_25 (G : Good κ idsC cc nL RX4 fr lo) {f b : Nat} (hf : f < 2) (hb : b < 16) (d : decode cc pc = .ok (.getfield 25, 3)) (h : V κ idsC nL M l (.int (M (4, f, b) 2) :: st) (pc + 3)) : V κ idsC nL M l (.ref (κ.E.ad (4, f, b)) :: st) pc := s_get (T := TX4) (k := 2) G uX4 (mC4 hf hb) rfl rfl (by decide) (by decide +kernel) rfl d h
theorem gX4_29 (G : Good κ idsC cc nL RX4 fr lo) {f b : Nat} (hf : f < 2) (hb : b < 16) (d : decode cc pc = .ok (.getfield 29, 3)) (h : V κ idsC nL M l (.int (M (4, f, b) 4) :: st) (pc + 3)) : V κ idsC nL M l (.ref (κ.E.ad (4, f, b)) :: st) pc := s_get (T := TX4) (k := 4) G uX4 (mC4 hf hb) rfl rfl (by decide) (by decide +kernel) rfl d h
theorem gX4_32 (G : Good κ idsC cc nL RX4 fr lo) {f b : Nat} (hf : f < 2) (hb : b < 16) (d : decode cc pc = .ok (.getfield 32, 3)) (h : V κ idsC nL M l (.int (M (4, f, b) 5) :: st) (pc + 3)) : V κ idsC nL M l (.ref (κ.E.ad (4, f, b)) :: st) pc := s_get (T := TX4) (k := 5) G uX4 (mC4 hf hb) rfl rfl (by decide) (by decide +kernel) rfl d h
theorem gX4_35 (G : Good κ idsC cc nL RX4 fr lo) {f b : Nat} (hf : f < 2) (hb : b < 16) (d : decode cc pc = .ok (.getfield 35, 3)) (h : V κ idsC nL M l (.int (M (4, f, b) 6) :: st) (pc + 3)) : V κ idsC nL M l (.ref (κ.E.ad (4, f, b)) :: st) pc := s_get (T := TX4) (k := 6) G uX4 (mC4 hf hb) rfl rfl (by decide) (by decide +kernel) rfl d h
theorem gX4_38 (G : Good κ idsC cc nL RX4 fr lo) {f b : Nat} (hf : f < 2) (hb : b < 16) (d : decode cc pc = .ok (.getfield 38, 3)) (h : V κ idsC nL M l (.int (M (4, f, b) 7) :: st) (pc + 3)) : V κ idsC nL M l (.ref (κ.E.ad (4, f, b)) :: st) pc := s_get (T := TX4) (k := 7) G uX4 (mC4 hf hb) rfl rfl (by decide) (by decide +kernel) rfl d h
theorem gX5_10 (G : Good κ idsC cc nL RX5 fr lo)  (d : decode cc pc = .ok (.getfield 10, 3)) (h : V κ idsC nL M l (.ref (κ.E.ad (1, 0, 0)) :: st) (pc + 3)) : V κ idsC nL M l (.ref (κ.E.ad (0, 0, 0)) :: st) pc := s_get (T := TX5) (k := 0) G uX5 (mC0) rfl rfl (by decide) (by decide +kernel) rfl d h
theorem gX5_16 (G : Good κ idsC cc nL RX5 fr lo)  (d : decode cc pc = .ok (.getfield 16, 3)) (h : V κ idsC nL M l (.ref (κ.E.ad (1, 1, 0)) :: st) (pc + 3)) : V κ idsC nL M l (.ref (κ.E.ad (0, 0, 0)) :: st) pc := s_get (T := TX5) (k := 1) G uX5 (mC0) rfl rfl (by decide) (by decide +kernel) rfl d h
theorem gX5_47 (G : Good κ idsC cc nL RX5 fr lo) {f : Nat} (hf : f < 2) (d : decode cc pc = .ok (.getfield 47, 3)) (h : V κ idsC nL M l (.int (M (1, f, 0) 8) :: st) (pc + 3)) : V κ idsC nL M l (.ref (κ.E.ad (1, f, 0)) :: st) pc := s_get (T := TX2) (k := 8) G uX2 (mC1 hf) rfl rfl (by decide) (by decide +kernel) rfl d h
theorem gX5_58 (G : Good κ idsC cc nL RX5 fr lo) {f : Nat} (hf : f < 2) (d : decode cc pc = .ok (.getfield 58, 3)) (h : V κ idsC nL M l (.ref (κ.E.ad (7, f, 0)) :: st) (pc + 3)) : V κ idsC nL M l (.ref (κ.E.ad (1, f, 0)) :: st) pc := s_get (T := TX2) (k := 2) G uX2 (mC1 hf) rfl rfl (by decide) (by decide +kernel) rfl d h
theorem gX5_62 (G : Good κ idsC cc nL RX5 fr lo) {f b : Nat} (hf : f < 2) (hb : b < 12) (d : decode cc pc = .ok (.getfield 62, 3)) (h : V κ idsC nL M l (.int (M (3, f, b) 1) :: st) (pc + 3)) : V κ idsC nL M l (.ref (κ.E.ad (3, f, b)) :: st) pc := s_get (T := TX3) (k := 1) G uX3 (mC3 hf hb) rfl rfl (by decide) (by decide +kernel) rfl d h
theorem gX5_71 (G : Good κ idsC cc nL RX5 fr lo) {f : Nat} (hf : f < 2) (d : decode cc pc = .ok (.getfield 71, 3)) (h : V κ idsC nL M l (.ref (κ.E.ad (6, f, 0)) :: st) (pc + 3)) : V κ idsC nL M l (.ref (κ.E.ad (1, f, 0)) :: st) pc := s_get (T := TX2) (k := 0) G uX2 (mC1 hf) rfl rfl (by decide) (by decide +kernel) rfl d h
theorem gX5_75 (G : Good κ idsC cc nL RX5 fr lo) {f b : Nat} (hf : f < 2) (hb : b < 8) (d : decode cc pc = .ok (.getfield 75, 3)) (h : V κ idsC nL M l (.int (M (2, f, b) 2) :: st) (pc + 3)) : V κ idsC nL M l (.ref (κ.E.ad (2, f, b)) :: st) pc := s_get (T := TX0) (k := 2) G uX0 (mC2 hf hb) rfl rfl (by decide) (by decide +kernel) rfl d h
theorem gX5_85 (G : Good κ idsC cc nL RX5 fr lo) {f : Nat} (hf : f < 2) (d : decode cc pc = .ok (.getfield 85, 3)) (h : V κ idsC nL M l (.ref (κ.E.ad (8, f, 0)) :: st) (pc + 3)) : V κ idsC nL M l (.ref (κ.E.ad (1, f, 0)) :: st) pc := s_get (T := TX2) (k := 4) G uX2 (mC1 hf) rfl rfl (by decide) (by decide +kernel) rfl d h
theorem gX5_89 (G : Good κ idsC cc nL RX5 fr lo) {f b : Nat} (hf : f < 2) (hb : b < 16) (d : decode cc pc = .ok (.getfield 89, 3)) (h : V κ idsC nL M l (.int (M (4, f, b) 0) :: st) (pc + 3)) : V κ idsC nL M l (.ref (κ.E.ad (4, f, b)) :: st) pc := s_get (T := TX4) (k := 0) G uX4 (mC4 hf hb) rfl rfl (by decide) (by decide +kernel) rfl d h
theorem gX5_108 (G : Good κ idsC cc nL RX5 fr lo) {f b : Nat} (hf : f < 2) (hb : b < 8) (d : decode cc pc = .ok (.getfield 108, 3)) (h : V κ idsC nL M l (.int (M (2, f, b) 7) :: st) (pc + 3)) : V κ idsC nL M l (.ref (κ.E.ad (2, f, b)) :: st) pc := s_get (T := TX0) (k := 7) G uX0 (mC2 hf hb) rfl rfl (by decide) (by decide +kernel) rfl d h
theorem gX5_116 (G : Good κ idsC cc nL RX5 fr lo) {f b : Nat} (hf : f < 2) (hb : b < 8) (d : decode cc pc = .ok (.getfield 116, 3)) (h : V κ idsC nL M l (.ref (κ.E.ad (9, f, b)) :: st) (pc + 3)) : V κ idsC nL M l (.ref (κ.E.ad (2, f, b)) :: st) pc := s_get (T := TX0) (k := 8) G uX0 (mC2 hf hb) rfl rfl (by decide) (by decide +kernel) rfl d h
theorem gX5_124 (G : Good κ idsC cc nL RX5 fr lo) {f b : Nat} (hf : f < 2) (hb : b < 16) (d : decode cc pc = .ok (.getfield 124, 3)) (h : V κ idsC nL M l (.ref (κ.E.ad (10, f, b)) :: st) (pc + 3)) : V κ idsC nL M l (.ref (κ.E.ad (4, f, b)) :: st) pc := s_get (T := TX4) (k := 8) G uX4 (mC4 hf hb) rfl rfl (by decide) (by decide +kernel) rfl d h
theorem gX5_127 (G : Good κ idsC cc nL RX5 fr lo) {f : Nat} (hf : f < 2) (d : decode cc pc = .ok (.getfield 127, 3)) (h : V κ idsC nL M l (.ref (κ.E.ad (5, f, 0)) :: st) (pc + 3)) : V κ idsC nL M l (.ref (κ.E.ad (1, f, 0)) :: st) pc := s_get (T := TX2) (k := 6) G uX2 (mC1 hf) rfl rfl (by decide) (by decide +kernel) rfl d h
theorem gX5_131 (G : Good κ idsC cc nL RX5 fr lo) {f : Nat} (hf : f < 2) (d : decode cc pc = .ok (.getfield 131, 3)) (h : V κ idsC nL M l (.int (M (5, f, 0) 0) :: st) (pc + 3)) : V κ idsC nL M l (.ref (κ.E.ad (5, f, 0)) :: st) pc := s_get (T := TX1) (k := 0) G uX1 (mC5 hf) rfl rfl (by decide) (by decide +kernel) rfl d h
theorem gX5_164 (G : Good κ idsC cc nL RX5 fr lo) {f : Nat} (hf : f < 2) (d : decode cc pc = .ok (.getfield 164, 3)) (h : V κ idsC nL M l (.int (M (1, f, 0) 1) :: st) (pc + 3)) : V κ idsC nL M l (.ref (κ.E.ad (1, f, 0)) :: st) pc := s_get (T := TX2) (k := 1) G uX2 (mC1 hf) rfl rfl (by decide) (by decide +kernel) rfl d h
theorem gX5_170 (G : Good κ idsC cc nL RX5 fr lo) {f : Nat} (hf : f < 2) (d : decode cc pc = .ok (.getfield 170, 3)) (h : V κ idsC nL M l (.int (M (1, f, 0) 10) :: st) (pc + 3)) : V κ idsC nL M l (.ref (κ.E.ad (1, f, 0)) :: st) pc := s_get (T := TX2) (k := 10) G uX2 (mC1 hf) rfl rfl (by decide) (by decide +kernel) rfl d h
theorem gX5_182 (G : Good κ idsC cc nL RX5 fr lo) {f : Nat} (hf : f < 2) (d : decode cc pc = .ok (.getfield 182, 3)) (h : V κ idsC nL M l (.int (M (1, f, 0) 3) :: st) (pc + 3)) : V κ idsC nL M l (.ref (κ.E.ad (1, f, 0)) :: st) pc := s_get (T := TX2) (k := 3) G uX2 (mC1 hf) rfl rfl (by decide) (by decide +kernel) rfl d h
theorem gX5_185 (G : Good κ idsC cc nL RX5 fr lo) {f : Nat} (hf : f < 2) (d : decode cc pc = .ok (.getfield 185, 3)) (h : V κ idsC nL M l (.int (M (1, f, 0) 5) :: st) (pc + 3)) : V κ idsC nL M l (.ref (κ.E.ad (1, f, 0)) :: st) pc := s_get (T := TX2) (k := 5) G uX2 (mC1 hf) rfl rfl (by decide) (by decide +kernel) rfl d h
theorem gX6_9 (G : Good κ idsR cc nL RX6 fr lo)  (d : decode cc pc = .ok (.getfield 9, 3)) (h : V κ idsR nL M l (.ref (κ.E.ad (15, 0, 0)) :: st) (pc + 3)) : V κ idsR nL M l (.ref (κ.E.ad (14, 0, 0)) :: st) pc := s_get (T := TX6) (k := 4) G uX6 (mR14) rfl rfl (by decide) (by decide +kernel) rfl d h
theorem gX6_13 (G : Good κ idsR cc nL RX6 fr lo)  (d : decode cc pc = .ok (.getfield 13, 3)) (h : V κ idsR nL M l (.ref (κ.E.ad (16, 0, 0)) :: st) (pc + 3)) : V κ idsR nL M l (.ref (κ.E.ad (14, 0, 0)) :: st) pc := s_get (T := TX6) (k := 5) G uX6 (mR14) rfl rfl (by decide) (by decide +kernel) rfl d h
theorem gX6_16 (G : Good κ idsR cc nL RX6 fr lo)  (d : decode cc pc = .ok (.getfield 16, 3)) (h : V κ idsR nL M l (.ref (κ.E.ad (17, 0, 0)) :: st) (pc + 3)) : V κ idsR nL M l (.ref (κ.E.ad (14, 0, 0)) :: st) pc := s_get (T := TX6) (k := 6) G uX6 (mR14) rfl rfl (by decide) (by decide +kernel) rfl d h
theorem gX6_19 (G : Good κ idsR cc nL RX6 fr lo)  (d : decode cc pc = .ok (.getfield 19, 3)) (h : V κ idsR nL M l (.ref (κ.E.ad (18, 0, 0)) :: st) (pc + 3)) : V κ idsR nL M l (.ref (κ.E.ad (14, 0, 0)) :: st) pc := s_get (T := TX6) (k := 7) G uX6 (mR14) rfl rfl (by decide) (by decide +kernel) rfl d h
theorem gX6_22 (G : Good κ idsR cc nL RX6 fr lo)  (d : decode cc pc = .ok (.getfield 22, 3)) (h : V κ idsR nL M l (.ref (κ.E.ad (19, 0, 0)) :: st) (pc + 3)) : V κ idsR nL M l (.ref (κ.E.ad (14, 0, 0)) :: st) pc := s_get (T := TX6) (k := 8) G uX6 (mR14) rfl rfl (by decide) (by decide +kernel) rfl d h
theorem gX6_25 (G : Good κ idsR cc nL RX6 fr lo)  (d : decode cc pc = .ok (.getfield 25, 3)) (h : V κ idsR nL M l (.ref (κ.E.ad (20, 0, 0)) :: st) (pc + 3)) : V κ idsR nL M l (.ref (κ.E.ad (14, 0, 0)) :: st) pc := s_get (T := TX6) (k := 9) G uX6 (mR14) rfl rfl (by decide) (by decide +kernel) rfl d h
theorem gX6_28 (G : Good κ idsR cc nL RX6 fr lo)  (d : decode cc pc = .ok (.getfield 28, 3)) (h : V κ idsR nL M l (.int (M (14, 0, 0) 0) :: st) (pc + 3)) : V κ idsR nL M l (.ref (κ.E.ad (14, 0, 0)) :: st) pc := s_get (T := TX6) (k := 0) G uX6 (mR14) rfl rfl (by decide) (by decide +kernel) rfl d h
theorem gX6_32 (G : Good κ idsR cc nL RX6 fr lo)  (d : decode cc pc = .ok (.getfield 32, 3)) (h : V κ idsR nL M l (.int (M (14, 0, 0) 1) :: st) (pc + 3)) : V κ idsR nL M l (.ref (κ.E.ad (14, 0, 0)) :: st) pc := s_get (T := TX6) (k := 1) G uX6 (mR14) rfl rfl (by decide) (by decide +kernel) rfl d h
theorem gX6_39 (G : Good κ idsR cc nL RX6 fr lo)  (d : decode cc pc = .ok (.getfield 39, 3)) (h : V κ idsR nL M l (.int (M (14, 0, 0) 2) :: st) (pc + 3)) : V κ idsR nL M l (.ref (κ.E.ad (14, 0, 0)) :: st) pc := s_get (T := TX6) (k := 2) G uX6 (mR14) rfl rfl (by decide) (by decide +kernel) rfl d h
theorem gX6_42 (G : Good κ idsR cc nL RX6 fr lo)  (d : decode cc pc = .ok (.getfield 42, 3)) (h : V κ idsR nL M l (.int (M (14, 0, 0) 3) :: st) (pc + 3)) : V κ idsR nL M l (.ref (κ.E.ad (14, 0, 0)) :: st) pc := s_get (T := TX6) (k := 3) G uX6 (mR14) rfl rfl (by decide) (by decide +kernel) rfl d h
theorem pX0_15 (G : Good κ idsC cc nL RX0 fr lo) {f b : Nat} (hf : f < 2) (hb : b < 8) {v : Int32} (d : decode cc pc = .ok (.putfield 15, 3)) (h : V κ idsC nL (up M (2, f, b) 0 v) l st (pc + 3)) : V κ idsC nL M l (.int v :: .ref (κ.E.ad (2, f, b)) :: st) pc := s_put (T := TX0) (k := 0) (ty := .int) G uX0 tyX0 tyX0_ok nmX0 (mC2 hf hb) rfl rfl (by decide) (by decide +kernel) rfl (by decide +kernel) rfl rfl (Nat.le_of_ble_eq_true rfl) (by simp [celF, up]) (fun j hj => cel_ne hj) d h
theorem pX0_19 (G : Good κ idsC cc nL RX0 fr lo) {f b : Nat} (hf : f < 2) (hb : b < 8) {v : Int32} (d : decode cc pc = .ok (.putfield 19, 3)) (h : V κ idsC nL (up M (2, f, b) 1 v) l st (pc + 3)) : V κ idsC nL M l (.int v :: .ref (κ.E.ad (2, f, b)) :: st) pc := s_put (T := TX0) (k := 1) (ty := .int) G uX0 tyX0 tyX0_ok nmX0 (mC2 hf hb) rfl rfl (by decide) (by decide +kernel) rfl (by decide +kernel) rfl rfl (Nat.le_of_ble_eq_true rfl) (by simp [celF, up]) (fun j hj => cel_ne hj) d h
theorem pX0_22 (G : Good κ idsC cc nL RX0 fr lo) {f b : Nat} (hf : f < 2) (hb : b < 8) {v : Int32} (d : decode cc pc = .ok (.putfield 22, 3)) (h : V κ idsC nL (up M (2, f, b) 2 v) l st (pc + 3)) : V κ idsC nL M l (.int v :: .ref (κ.E.ad (2, f, b)) :: st) pc := s_put (T := TX0) (k := 2) (ty := .int) G uX0 tyX0 tyX0_ok nmX0 (mC2 hf hb) rfl rfl (by decide) (by decide +kernel) rfl (by decide +kernel) rfl rfl (Nat.le_of_ble_eq_true rfl) (by simp [celF, up]) (fun j hj => cel_ne hj) d h
theorem pX0_25 (G : Good κ idsC cc nL RX0 fr lo) {f b : Nat} (hf : f < 2) (hb : b < 8) {v : Int32} (d : decode cc pc = .ok (.putfield 25, 3)) (h : V κ idsC nL (up M (2, f, b) 3 v) l st (pc + 3)) : V κ idsC nL M l (.int v :: .ref (κ.E.ad (2, f, b)) :: st) pc := s_put (T := TX0) (k := 3) (ty := .int) G uX0 tyX0 tyX0_ok nmX0 (mC2 hf hb) rfl rfl (by decide) (by decide +kernel) rfl (by decide +kernel) rfl rfl (Nat.le_of_ble_eq_true rfl) (by simp [celF, up]) (fun j hj => cel_ne hj) d h
theorem pX0_28 (G : Good κ idsC cc nL RX0 fr lo) {f b : Nat} (hf : f < 2) (hb : b < 8) {v : Int32} (d : decode cc pc = .ok (.putfield 28, 3)) (h : V κ idsC nL (up M (2, f, b) 4 v) l st (pc + 3)) : V κ idsC nL M l (.int v :: .ref (κ.E.ad (2, f, b)) :: st) pc := s_put (T := TX0) (k := 4) (ty := .int) G uX0 tyX0 tyX0_ok nmX0 (mC2 hf hb) rfl rfl (by decide) (by decide +kernel) rfl (by decide +kernel) rfl rfl (Nat.le_of_ble_eq_true rfl) (by simp [celF, up]) (fun j hj => cel_ne hj) d h
theorem pX0_31 (G : Good κ idsC cc nL RX0 fr lo) {f b : Nat} (hf : f < 2) (hb : b < 8) {v : Int32} (d : decode cc pc = .ok (.putfield 31, 3)) (h : V κ idsC nL (up M (2, f, b) 5 v) l st (pc + 3)) : V κ idsC nL M l (.int v :: .ref (κ.E.ad (2, f, b)) :: st) pc := s_put (T := TX0) (k := 5) (ty := .int) G uX0 tyX0 tyX0_ok nmX0 (mC2 hf hb) rfl rfl (by decide) (by decide +kernel) rfl (by decide +kernel) rfl rfl (Nat.le_of_ble_eq_true rfl) (by simp [celF, up]) (fun j hj => cel_ne hj) d h
theorem pX0_34 (G : Good κ idsC cc nL RX0 fr lo) {f b : Nat} (hf : f < 2) (hb : b < 8) {v : Int32} (d : decode cc pc = .ok (.putfield 34, 3)) (h : V κ idsC nL (up M (2, f, b) 6 v) l st (pc + 3)) : V κ idsC nL M l (.int v :: .ref (κ.E.ad (2, f, b)) :: st) pc := s_put (T := TX0) (k := 6) (ty := .int) G uX0 tyX0 tyX0_ok nmX0 (mC2 hf hb) rfl rfl (by decide) (by decide +kernel) rfl (by decide +kernel) rfl rfl (Nat.le_of_ble_eq_true rfl) (by simp [celF, up]) (fun j hj => cel_ne hj) d h
theorem pX0_37 (G : Good κ idsC cc nL RX0 fr lo) {f b : Nat} (hf : f < 2) (hb : b < 8) {v : Int32} (d : decode cc pc = .ok (.putfield 37, 3)) (h : V κ idsC nL (up M (2, f, b) 7 v) l st (pc + 3)) : V κ idsC nL M l (.int v :: .ref (κ.E.ad (2, f, b)) :: st) pc := s_put (T := TX0) (k := 7) (ty := .int) G uX0 tyX0 tyX0_ok nmX0 (mC2 hf hb) rfl rfl (by decide) (by decide +kernel) rfl (by decide +kernel) rfl rfl (Nat.le_of_ble_eq_true rfl) (by simp [celF, up]) (fun j hj => cel_ne hj) d h
theorem pX1_21 (G : Good κ idsC cc nL RX1 fr lo) {f : Nat} (hf : f < 2) {v : Int32} (d : decode cc pc = .ok (.putfield 21, 3)) (h : V κ idsC nL (up M (5, f, 0) 0 v) l st (pc + 3)) : V κ idsC nL M l (.int v :: .ref (κ.E.ad (5, f, 0)) :: st) pc := s_put (T := TX1) (k := 0) (ty := .int) G uX1 tyX1 tyX1_ok nmX1 (mC5 hf) rfl rfl (by decide) (by decide +kernel) rfl (by decide +kernel) rfl rfl (Nat.le_of_ble_eq_true rfl) (by simp [celF, up]) (fun j hj => cel_ne hj) d h
theorem pX2_36 (G : Good κ idsC cc nL RX2 fr lo) {f : Nat} (hf : f < 2) {v : Int32} (d : decode cc pc = .ok (.putfield 36, 3)) (h : V κ idsC nL (up M (1, f, 0) 8 v) l st (pc + 3)) : V κ idsC nL M l (.int v :: .ref (κ.E.ad (1, f, 0)) :: st) pc := s_put (T := TX2) (k := 8) (ty := .int) G uX2 tyX2 tyX2_ok nmX2 (mC1 hf) rfl rfl (by decide) (by decide +kernel) rfl (by decide +kernel) rfl rfl (Nat.le_of_ble_eq_true rfl) (by simp [celF, up]) (fun j hj => cel_ne hj) d h
theorem pX2_40 (G : Good κ idsC cc nL RX2 fr lo) {f : Nat} (hf : f < 2) {v : Int32} (d : decode cc pc = .ok (.putfield 40, 3)) (h : V κ idsC nL (up M (1, f, 0) 9 v) l st (pc + 3)) : V κ idsC nL M l (.int v :: .ref (κ.E.ad (1, f, 0)) :: st) pc := s_put (T := TX2) (k := 9) (ty := .int) G uX2 tyX2 tyX2_ok nmX2 (mC1 hf) rfl rfl (by decide) (by decide +kernel) rfl (by decide +kernel) rfl rfl (Nat.le_of_ble_eq_true rfl) (by simp [celF, up]) (fun j hj => cel_ne hj) d h
theorem pX2_46 (G : Good κ idsC cc nL RX2 fr lo) {f : Nat} (hf : f < 2) {v : Int32} (d : decode cc pc = .ok (.putfield 46, 3)) (h : V κ idsC nL (up M (1, f, 0) 1 v) l st (pc + 3)) : V κ idsC nL M l (.int v :: .ref (κ.E.ad (1, f, 0)) :: st) pc := s_put (T := TX2) (k := 1) (ty := .int) G uX2 tyX2 tyX2_ok nmX2 (mC1 hf) rfl rfl (by decide) (by decide +kernel) rfl (by decide +kernel) rfl rfl (Nat.le_of_ble_eq_true rfl) (by simp [celF, up]) (fun j hj => cel_ne hj) d h
theorem pX2_49 (G : Good κ idsC cc nL RX2 fr lo) {f : Nat} (hf : f < 2) {v : Int32} (d : decode cc pc = .ok (.putfield 49, 3)) (h : V κ idsC nL (up M (1, f, 0) 3 v) l st (pc + 3)) : V κ idsC nL M l (.int v :: .ref (κ.E.ad (1, f, 0)) :: st) pc := s_put (T := TX2) (k := 3) (ty := .int) G uX2 tyX2 tyX2_ok nmX2 (mC1 hf) rfl rfl (by decide) (by decide +kernel) rfl (by decide +kernel) rfl rfl (Nat.le_of_ble_eq_true rfl) (by simp [celF, up]) (fun j hj => cel_ne hj) d h
theorem pX2_52 (G : Good κ idsC cc nL RX2 fr lo) {f : Nat} (hf : f < 2) {v : Int32} (d : decode cc pc = .ok (.putfield 52, 3)) (h : V κ idsC nL (up M (1, f, 0) 5 v) l st (pc + 3)) : V κ idsC nL M l (.int v :: .ref (κ.E.ad (1, f, 0)) :: st) pc := s_put (T := TX2) (k := 5) (ty := .int) G uX2 tyX2 tyX2_ok nmX2 (mC1 hf) rfl rfl (by decide) (by decide +kernel) rfl (by decide +kernel) rfl rfl (Nat.le_of_ble_eq_true rfl) (by simp [celF, up]) (fun j hj => cel_ne hj) d h
theorem pX2_55 (G : Good κ idsC cc nL RX2 fr lo) {f : Nat} (hf : f < 2) {v : Int32} (d : decode cc pc = .ok (.putfield 55, 3)) (h : V κ idsC nL (up M (1, f, 0) 7 v) l st (pc + 3)) : V κ idsC nL M l (.int v :: .ref (κ.E.ad (1, f, 0)) :: st) pc := s_put (T := TX2) (k := 7) (ty := .int) G uX2 tyX2 tyX2_ok nmX2 (mC1 hf) rfl rfl (by decide) (by decide +kernel) rfl (by decide +kernel) rfl rfl (Nat.le_of_ble_eq_true rfl) (by simp [celF, up]) (fun j hj => cel_ne hj) d h
theorem pX2_58 (G : Good κ idsC cc nL RX2 fr lo) {f : Nat} (hf : f < 2) {v : Int32} (d : decode cc pc = .ok (.putfield 58, 3)) (h : V κ idsC nL (up M (1, f, 0) 10 v) l st (pc + 3)) : V κ idsC nL M l (.int v :: .ref (κ.E.ad (1, f, 0)) :: st) pc := s_put (T := TX2) (k := 10) (ty := .int) G uX2 tyX2 tyX2_ok nmX2 (mC1 hf) rfl rfl (by decide) (by decide +kernel) rfl (by decide +kernel) rfl rfl (Nat.le_of_ble_eq_true rfl) (by simp [celF, up]) (fun j hj => cel_ne hj) d h
theorem pX2_87 (G : Good κ idsC cc nL RX2 fr lo) {f b : Nat} (hf : f < 2) (hb : b < 12) {v : Int32} (d : decode cc pc = .ok (.putfield 87, 3)) (h : V κ idsC nL (up M (3, f, b) 1 v) l st (pc + 3)) : V κ idsC nL M l (.int v :: .ref (κ.E.ad (3, f, b)) :: st) pc := s_put (T := TX3) (k := 1) (ty := .int) G uX3 tyX3 tyX3_ok nmX3 (mC3 hf hb) rfl rfl (by decide) (by decide +kernel) rfl (by decide +kernel) rfl rfl (Nat.le_of_ble_eq_true rfl) (by simp [celF, up]) (fun j hj => cel_ne hj) d h
theorem pX2_93 (G : Good κ idsC cc nL RX2 fr lo) {f b : Nat} (hf : f < 2) (hb : b < 8) {v : Int32} (d : decode cc pc = .ok (.putfield 93, 3)) (h : V κ idsC nL (up M (2, f, b) 4 v) l st (pc + 3)) : V κ idsC nL M l (.int v :: .ref (κ.E.ad (2, f, b)) :: st) pc := s_put (T := TX0) (k := 4) (ty := .int) G uX0 tyX0 tyX0_ok nmX0 (mC2 hf hb) rfl rfl (by decide) (by decide +kernel) rfl (by decide +kernel) rfl rfl (Nat.le_of_ble_eq_true rfl) (by simp [celF, up]) (fun j hj => cel_ne hj) d h
theorem pX2_99 (G : Good κ idsC cc nL RX2 fr lo) {f b : Nat} (hf : f < 2) (hb : b < 16) {v : Int32} (d : decode cc pc = .ok (.putfield 99, 3)) (h : V κ idsC nL (up M (4, f, b) 3 v) l st (pc + 3)) : V κ idsC nL M l (.int v :: .ref (κ.E.ad (4, f, b)) :: st) pc := s_put (T := TX4) (k := 3) (ty := .int) G uX4 tyX4 tyX4_ok nmX4 (mC4 hf hb) rfl rfl (by decide) (by decide +kernel) rfl (by decide +kernel) rfl rfl (Nat.le_of_ble_eq_true rfl) (by simp [celF, up]) (fun j hj => cel_ne hj) d h
theorem pX2_144 (G : Good κ idsC cc nL RX2 fr lo) {f b : Nat} (hf : f < 2) (hb : b < 16) {v : Int32} (d : decode cc pc = .ok (.putfield 144, 3)) (h : V κ idsC nL (up M (4, f, b) 0 v) l st (pc + 3)) : V κ idsC nL M l (.int v :: .ref (κ.E.ad (4, f, b)) :: st) pc := s_put (T := TX4) (k := 0) (ty := .int) G uX4 tyX4 tyX4_ok nmX4 (mC4 hf hb) rfl rfl (by decide) (by decide +kernel) rfl (by decide +kernel) rfl rfl (Nat.le_of_ble_eq_true rfl) (by simp [celF, up]) (fun j hj => cel_ne hj) d h
theorem pX2_147 (G : Good κ idsC cc nL RX2 fr lo) {f b : Nat} (hf : f < 2) (hb : b < 16) {v : Int32} (hv : v = 0 ∨ v = 1) (d : decode cc pc = .ok (.putfield 147, 3)) (h : V κ idsC nL (up M (4, f, b) 2 v) l st (pc + 3)) : V κ idsC nL M l (.int v :: .ref (κ.E.ad (4, f, b)) :: st) pc := s_put (T := TX4) (k := 2) (ty := .boolean) G uX4 tyX4 tyX4_ok nmX4 (mC4 hf hb) rfl rfl (by decide) (by decide +kernel) rfl (by decide +kernel) (by rcases hv with rfl | rfl <;> decide) (by rcases hv with rfl | rfl <;> decide) (Nat.le_of_ble_eq_true rfl) (by simp [celF, up]) (fun j hj => cel_ne hj) d h
theorem pX2_151 (G : Good κ idsC cc nL RX2 fr lo) {f b : Nat} (hf : f < 2) (hb : b < 8) {v : Int32} (d : decode cc pc = .ok (.putfield 151, 3)) (h : V κ idsC nL (up M (2, f, b) 2 v) l st (pc + 3)) : V κ idsC nL M l (.int v :: .ref (κ.E.ad (2, f, b)) :: st) pc := s_put (T := TX0) (k := 2) (ty := .int) G uX0 tyX0 tyX0_ok nmX0 (mC2 hf hb) rfl rfl (by decide) (by decide +kernel) rfl (by decide +kernel) rfl rfl (Nat.le_of_ble_eq_true rfl) (by simp [celF, up]) (fun j hj => cel_ne hj) d h
theorem pX2_180 (G : Good κ idsC cc nL RX2 fr lo) {f b : Nat} (hf : f < 2) (hb : b < 8) {v : Int32} (d : decode cc pc = .ok (.putfield 180, 3)) (h : V κ idsC nL (up M (2, f, b) 6 v) l st (pc + 3)) : V κ idsC nL M l (.int v :: .ref (κ.E.ad (2, f, b)) :: st) pc := s_put (T := TX0) (k := 6) (ty := .int) G uX0 tyX0 tyX0_ok nmX0 (mC2 hf hb) rfl rfl (by decide) (by decide +kernel) rfl (by decide +kernel) rfl rfl (Nat.le_of_ble_eq_true rfl) (by simp [celF, up]) (fun j hj => cel_ne hj) d h
theorem pX2_191 (G : Good κ idsC cc nL RX2 fr lo) {f b : Nat} (hf : f < 2) (hb : b < 16) {v : Int32} (d : decode cc pc = .ok (.putfield 191, 3)) (h : V κ idsC nL (up M (4, f, b) 6 v) l st (pc + 3)) : V κ idsC nL M l (.int v :: .ref (κ.E.ad (4, f, b)) :: st) pc := s_put (T := TX4) (k := 6) (ty := .int) G uX4 tyX4 tyX4_ok nmX4 (mC4 hf hb) rfl rfl (by decide) (by decide +kernel) rfl (by decide +kernel) rfl rfl (Nat.le_of_ble_eq_true rfl) (by simp [celF, up]) (fun j hj => cel_ne hj) d h
theorem pX2_194 (G : Good κ idsC cc nL RX2 fr lo) {f b : Nat} (hf : f < 2) (hb : b < 8) {v : Int32} (d : decode cc pc = .ok (.putfield 194, 3)) (h : V κ idsC nL (up M (2, f, b) 5 v) l st (pc + 3)) : V κ idsC nL M l (.int v :: .ref (κ.E.ad (2, f, b)) :: st) pc := s_put (T := TX0) (k := 5) (ty := .int) G uX0 tyX0 tyX0_ok nmX0 (mC2 hf hb) rfl rfl (by decide) (by decide +kernel) rfl (by decide +kernel) rfl rfl (Nat.le_of_ble_eq_true rfl) (by simp [celF, up]) (fun j hj => cel_ne hj) d h
theorem pX2_195 (G : Good κ idsC cc nL RX2 fr lo) {f b : Nat} (hf : f < 2) (hb : b < 16) {v : Int32} (d : decode cc pc = .ok (.putfield 195, 3)) (h : V κ idsC nL (up M (4, f, b) 7 v) l st (pc + 3)) : V κ idsC nL M l (.int v :: .ref (κ.E.ad (4, f, b)) :: st) pc := s_put (T := TX4) (k := 7) (ty := .int) G uX4 tyX4 tyX4_ok nmX4 (mC4 hf hb) rfl rfl (by decide) (by decide +kernel) rfl (by decide +kernel) rfl rfl (Nat.le_of_ble_eq_true rfl) (by simp [celF, up]) (fun j hj => cel_ne hj) d h
theorem pX2_204 (G : Good κ idsC cc nL RX2 fr lo) {f b : Nat} (hf : f < 2) (hb : b < 16) {v : Int32} (d : decode cc pc = .ok (.putfield 204, 3)) (h : V κ idsC nL (up M (4, f, b) 4 v) l st (pc + 3)) : V κ idsC nL M l (.int v :: .ref (κ.E.ad (4, f, b)) :: st) pc := s_put (T := TX4) (k := 4) (ty := .int) G uX4 tyX4 tyX4_ok nmX4 (mC4 hf hb) rfl rfl (by decide) (by decide +kernel) rfl (by decide +kernel) rfl rfl (Nat.le_of_ble_eq_true rfl) (by simp [celF, up]) (fun j hj => cel_ne hj) d h
theorem pX2_211 (G : Good κ idsC cc nL RX2 fr lo) {f b : Nat} (hf : f < 2) (hb : b < 12) {v : Int32} (d : decode cc pc = .ok (.putfield 211, 3)) (h : V κ idsC nL (up M (3, f, b) 2 v) l st (pc + 3)) : V κ idsC nL M l (.int v :: .ref (κ.E.ad (3, f, b)) :: st) pc := s_put (T := TX3) (k := 2) (ty := .int) G uX3 tyX3 tyX3_ok nmX3 (mC3 hf hb) rfl rfl (by decide) (by decide +kernel) rfl (by decide +kernel) rfl rfl (Nat.le_of_ble_eq_true rfl) (by simp [celF, up]) (fun j hj => cel_ne hj) d h
theorem pX2_214 (G : Good κ idsC cc nL RX2 fr lo) {f b : Nat} (hf : f < 2) (hb : b < 12) {v : Int32} (d : decode cc pc = .ok (.putfield 214, 3)) (h : V κ idsC nL (up M (3, f, b) 0 v) l st (pc + 3)) : V κ idsC nL M l (.int v :: .ref (κ.E.ad (3, f, b)) :: st) pc := s_put (T := TX3) (k := 0) (ty := .int) G uX3 tyX3 tyX3_ok nmX3 (mC3 hf hb) rfl rfl (by decide) (by decide +kernel) rfl (by decide +kernel) rfl rfl (Nat.le_of_ble_eq_true rfl) (by simp [celF, up]) (fun j hj => cel_ne hj) d h
theorem pX2_223 (G : Good κ idsC cc nL RX2 fr lo) {f : Nat} (hf : f < 2) {v : Int32} (d : decode cc pc = .ok (.putfield 223, 3)) (h : V κ idsC nL (up M (5, f, 0) 0 v) l st (pc + 3)) : V κ idsC nL M l (.int v :: .ref (κ.E.ad (5, f, 0)) :: st) pc := s_put (T := TX1) (k := 0) (ty := .int) G uX1 tyX1 tyX1_ok nmX1 (mC5 hf) rfl rfl (by decide) (by decide +kernel) rfl (by decide +kernel) rfl rfl (Nat.le_of_ble_eq_true rfl) (by simp [celF, up]) (fun j hj => cel_ne hj) d h
theorem pX2_231 (G : Good κ idsC cc nL RX2 fr lo) {f b : Nat} (hf : f < 2) (hb : b < 16) {v : Int32} (d : decode cc pc = .ok (.putfield 231, 3)) (h : V κ idsC nL (up M (4, f, b) 5 v) l st (pc + 3)) : V κ idsC nL M l (.int v :: .ref (κ.E.ad (4, f, b)) :: st) pc := s_put (T := TX4) (k := 5) (ty := .int) G uX4 tyX4 tyX4_ok nmX4 (mC4 hf hb) rfl rfl (by decide) (by decide +kernel) rfl (by decide +kernel) rfl rfl (Nat.le_of_ble_eq_true rfl) (by simp [celF, up]) (fun j hj => cel_ne hj) d h
theorem pX3_9 (G : Good κ idsC cc nL RX3 fr lo) {f b : Nat} (hf : f < 2) (hb : b < 12) {v : Int32} (d : decode cc pc = .ok (.putfield 9, 3)) (h : V κ idsC nL (up M (3, f, b) 0 v) l st (pc + 3)) : V κ idsC nL M l (.int v :: .ref (κ.E.ad (3, f, b)) :: st) pc := s_put (T := TX3) (k := 0) (ty := .int) G uX3 tyX3 tyX3_ok nmX3 (mC3 hf hb) rfl rfl (by decide) (by decide +kernel) rfl (by decide +kernel) rfl rfl (Nat.le_of_ble_eq_true rfl) (by simp [celF, up]) (fun j hj => cel_ne hj) d h
theorem pX3_15 (G : Good κ idsC cc nL RX3 fr lo) {f b : Nat} (hf : f < 2) (hb : b < 12) {v : Int32} (d : decode cc pc = .ok (.putfield 15, 3)) (h : V κ idsC nL (up M (3, f, b) 1 v) l st (pc + 3)) : V κ idsC nL M l (.int v :: .ref (κ.E.ad (3, f, b)) :: st) pc := s_put (T := TX3) (k := 1) (ty := .int) G uX3 tyX3 tyX3_ok nmX3 (mC3 hf hb) rfl rfl (by decide) (by decide +kernel) rfl (by decide +kernel) rfl rfl (Nat.le_of_ble_eq_true rfl) (by simp [celF, up]) (fun j hj => cel_ne hj) d h
theorem pX3_18 (G : Good κ idsC cc nL RX3 fr lo) {f b : Nat} (hf : f < 2) (hb : b < 12) {v : Int32} (d : decode cc pc = .ok (.putfield 18, 3)) (h : V κ idsC nL (up M (3, f, b) 2 v) l st (pc + 3)) : V κ idsC nL M l (.int v :: .ref (κ.E.ad (3, f, b)) :: st) pc := s_put (T := TX3) (k := 2) (ty := .int) G uX3 tyX3 tyX3_ok nmX3 (mC3 hf hb) rfl rfl (by decide) (by decide +kernel) rfl (by decide +kernel) rfl rfl (Nat.le_of_ble_eq_true rfl) (by simp [celF, up]) (fun j hj => cel_ne hj) d h
theorem pX4_15 (G : Good κ idsC cc nL RX4 fr lo) {f b : Nat} (hf : f < 2) (hb : b < 16) {v : Int32} (d : decode cc pc = .ok (.putfield 15, 3)) (h : V κ idsC nL (up M (4, f, b) 0 v) l st (pc + 3)) : V κ idsC nL M l (.int v :: .ref (κ.E.ad (4, f, b)) :: st) pc := s_put (T := TX4) (k := 0) (ty := .int) G uX4 tyX4 tyX4_ok nmX4 (mC4 hf hb) rfl rfl (by decide) (by decide +kernel) rfl (by decide +kernel) rfl rfl (Nat.le_of_ble_eq_true rfl) (by simp [celF, up]) (fun j hj => cel_ne hj) d h
theorem pX4_19 (G : Good κ idsC cc nL RX4 fr lo) {f b : Nat} (hf : f < 2) (hb : b < 16) {v : Int32} (d : decode cc pc = .ok (.putfield 19, 3)) (h : V κ idsC nL (up M (4, f, b) 1 v) l st (pc + 3)) : V κ idsC nL M l (.int v :: .ref (κ.E.ad (4, f, b)) :: st) pc := s_put (T := TX4) (k := 1) (ty := .int) G uX4 tyX4 tyX4_ok nmX4 (mC4 hf hb) rfl rfl (by decide) (by decide +kernel) rfl (by decide +kernel) rfl rfl (Nat.le_of_ble_eq_true rfl) (by simp [celF, up]) (fun j hj => cel_ne hj) d h
theorem pX4_22 (G : Good κ idsC cc nL RX4 fr lo) {f b : Nat} (hf : f < 2) (hb : b < 16) {v : Int32} (d : decode cc pc = .ok (.putfield 22, 3)) (h : V κ idsC nL (up M (4, f, b) 3 v) l st (pc + 3)) : V κ idsC nL M l (.int v :: .ref (κ.E.ad (4, f, b)) :: st) pc := s_put (T := TX4) (k := 3) (ty := .int) G uX4 tyX4 tyX4_ok nmX4 (mC4 hf hb) rfl rfl (by decide) (by decide +kernel) rfl (by decide +kernel) rfl rfl (Nat.le_of_ble_eq_true rfl) (by simp [celF, up]) (fun j hj => cel_ne hj) d h
theorem pX4_25 (G : Good κ idsC cc nL RX4 fr lo) {f b : Nat} (hf : f < 2) (hb : b < 16) {v : Int32} (hv : v = 0 ∨ v = 1) (d : decode cc pc = .ok (.putfield 25, 3)) (h : V κ idsC nL (up M (4, f, b) 2 v) l st (pc + 3)) : V κ idsC nL M l (.int v :: .ref (κ.E.ad (4, f, b)) :: st) pc := s_put (T := TX4) (k := 2) (ty := .boolean) G uX4 tyX4 tyX4_ok nmX4 (mC4 hf hb) rfl rfl (by decide) (by decide +kernel) rfl (by decide +kernel) (by rcases hv with rfl | rfl <;> decide) (by rcases hv with rfl | rfl <;> decide) (Nat.le_of_ble_eq_true rfl) (by simp [celF, up]) (fun j hj => cel_ne hj) d h
theorem pX4_29 (G : Good κ idsC cc nL RX4 fr lo) {f b : Nat} (hf : f < 2) (hb : b < 16) {v : Int32} (d : decode cc pc = .ok (.putfield 29, 3)) (h : V κ idsC nL (up M (4, f, b) 4 v) l st (pc + 3)) : V κ idsC nL M l (.int v :: .ref (κ.E.ad (4, f, b)) :: st) pc := s_put (T := TX4) (k := 4) (ty := .int) G uX4 tyX4 tyX4_ok nmX4 (mC4 hf hb) rfl rfl (by decide) (by decide +kernel) rfl (by decide +kernel) rfl rfl (Nat.le_of_ble_eq_true rfl) (by simp [celF, up]) (fun j hj => cel_ne hj) d h
theorem pX4_32 (G : Good κ idsC cc nL RX4 fr lo) {f b : Nat} (hf : f < 2) (hb : b < 16) {v : Int32} (d : decode cc pc = .ok (.putfield 32, 3)) (h : V κ idsC nL (up M (4, f, b) 5 v) l st (pc + 3)) : V κ idsC nL M l (.int v :: .ref (κ.E.ad (4, f, b)) :: st) pc := s_put (T := TX4) (k := 5) (ty := .int) G uX4 tyX4 tyX4_ok nmX4 (mC4 hf hb) rfl rfl (by decide) (by decide +kernel) rfl (by decide +kernel) rfl rfl (Nat.le_of_ble_eq_true rfl) (by simp [celF, up]) (fun j hj => cel_ne hj) d h
theorem pX4_35 (G : Good κ idsC cc nL RX4 fr lo) {f b : Nat} (hf : f < 2) (hb : b < 16) {v : Int32} (d : decode cc pc = .ok (.putfield 35, 3)) (h : V κ idsC nL (up M (4, f, b) 6 v) l st (pc + 3)) : V κ idsC nL M l (.int v :: .ref (κ.E.ad (4, f, b)) :: st) pc := s_put (T := TX4) (k := 6) (ty := .int) G uX4 tyX4 tyX4_ok nmX4 (mC4 hf hb) rfl rfl (by decide) (by decide +kernel) rfl (by decide +kernel) rfl rfl (Nat.le_of_ble_eq_true rfl) (by simp [celF, up]) (fun j hj => cel_ne hj) d h
theorem pX4_38 (G : Good κ idsC cc nL RX4 fr lo) {f b : Nat} (hf : f < 2) (hb : b < 16) {v : Int32} (d : decode cc pc = .ok (.putfield 38, 3)) (h : V κ idsC nL (up M (4, f, b) 7 v) l st (pc + 3)) : V κ idsC nL M l (.int v :: .ref (κ.E.ad (4, f, b)) :: st) pc := s_put (T := TX4) (k := 7) (ty := .int) G uX4 tyX4 tyX4_ok nmX4 (mC4 hf hb) rfl rfl (by decide) (by decide +kernel) rfl (by decide +kernel) rfl rfl (Nat.le_of_ble_eq_true rfl) (by simp [celF, up]) (fun j hj => cel_ne hj) d h
theorem pX5_47 (G : Good κ idsC cc nL RX5 fr lo) {f : Nat} (hf : f < 2) {v : Int32} (d : decode cc pc = .ok (.putfield 47, 3)) (h : V κ idsC nL (up M (1, f, 0) 8 v) l st (pc + 3)) : V κ idsC nL M l (.int v :: .ref (κ.E.ad (1, f, 0)) :: st) pc := s_put (T := TX2) (k := 8) (ty := .int) G uX2 tyX2 tyX2_ok nmX2 (mC1 hf) rfl rfl (by decide) (by decide +kernel) rfl (by decide +kernel) rfl rfl (Nat.le_of_ble_eq_true rfl) (by simp [celF, up]) (fun j hj => cel_ne hj) d h
theorem pX5_75 (G : Good κ idsC cc nL RX5 fr lo) {f b : Nat} (hf : f < 2) (hb : b < 8) {v : Int32} (d : decode cc pc = .ok (.putfield 75, 3)) (h : V κ idsC nL (up M (2, f, b) 2 v) l st (pc + 3)) : V κ idsC nL M l (.int v :: .ref (κ.E.ad (2, f, b)) :: st) pc := s_put (T := TX0) (k := 2) (ty := .int) G uX0 tyX0 tyX0_ok nmX0 (mC2 hf hb) rfl rfl (by decide) (by decide +kernel) rfl (by decide +kernel) rfl rfl (Nat.le_of_ble_eq_true rfl) (by simp [celF, up]) (fun j hj => cel_ne hj) d h
theorem pX5_89 (G : Good κ idsC cc nL RX5 fr lo) {f b : Nat} (hf : f < 2) (hb : b < 16) {v : Int32} (d : decode cc pc = .ok (.putfield 89, 3)) (h : V κ idsC nL (up M (4, f, b) 0 v) l st (pc + 3)) : V κ idsC nL M l (.int v :: .ref (κ.E.ad (4, f, b)) :: st) pc := s_put (T := TX4) (k := 0) (ty := .int) G uX4 tyX4 tyX4_ok nmX4 (mC4 hf hb) rfl rfl (by decide) (by decide +kernel) rfl (by decide +kernel) rfl rfl (Nat.le_of_ble_eq_true rfl) (by simp [celF, up]) (fun j hj => cel_ne hj) d h
theorem pX5_94 (G : Good κ idsC cc nL RX5 fr lo) {f b : Nat} (hf : f < 2) (hb : b < 16) {v : Int32} (hv : v = 0 ∨ v = 1) (d : decode cc pc = .ok (.putfield 94, 3)) (h : V κ idsC nL (up M (4, f, b) 2 v) l st (pc + 3)) : V κ idsC nL M l (.int v :: .ref (κ.E.ad (4, f, b)) :: st) pc := s_put (T := TX4) (k := 2) (ty := .boolean) G uX4 tyX4 tyX4_ok nmX4 (mC4 hf hb) rfl rfl (by decide) (by decide +kernel) rfl (by decide +kernel) (by rcases hv with rfl | rfl <;> decide) (by rcases hv with rfl | rfl <;> decide) (Nat.le_of_ble_eq_true rfl) (by simp [celF, up]) (fun j hj => cel_ne hj) d h
theorem pX6_28 (G : Good κ idsR cc nL RX6 fr lo)  {v : Int32} (d : decode cc pc = .ok (.putfield 28, 3)) (h : V κ idsR nL (up M (14, 0, 0) 0 v) l st (pc + 3)) : V κ idsR nL M l (.int v :: .ref (κ.E.ad (14, 0, 0)) :: st) pc := s_put (T := TX6) (k := 0) (ty := .int) G uX6 tyX6 tyX6_ok nmX6 (mR14) rfl rfl (by decide) (by decide +kernel) rfl (by decide +kernel) rfl rfl (Nat.le_of_ble_eq_true rfl) (by simp [celF, up]) (fun j hj => cel_ne hj) d h
theorem pX6_32 (G : Good κ idsR cc nL RX6 fr lo)  {v : Int32} (d : decode cc pc = .ok (.putfield 32, 3)) (h : V κ idsR nL (up M (14, 0, 0) 1 v) l st (pc + 3)) : V κ idsR nL M l (.int v :: .ref (κ.E.ad (14, 0, 0)) :: st) pc := s_put (T := TX6) (k := 1) (ty := .int) G uX6 tyX6 tyX6_ok nmX6 (mR14) rfl rfl (by decide) (by decide +kernel) rfl (by decide +kernel) rfl rfl (Nat.le_of_ble_eq_true rfl) (by simp [celF, up]) (fun j hj => cel_ne hj) d h
theorem pX6_39 (G : Good κ idsR cc nL RX6 fr lo)  {v : Int32} (d : decode cc pc = .ok (.putfield 39, 3)) (h : V κ idsR nL (up M (14, 0, 0) 2 v) l st (pc + 3)) : V κ idsR nL M l (.int v :: .ref (κ.E.ad (14, 0, 0)) :: st) pc := s_put (T := TX6) (k := 2) (ty := .int) G uX6 tyX6 tyX6_ok nmX6 (mR14) rfl rfl (by decide) (by decide +kernel) rfl (by decide +kernel) rfl rfl (Nat.le_of_ble_eq_true rfl) (by simp [celF, up]) (fun j hj => cel_ne hj) d h
theorem pX6_42 (G : Good κ idsR cc nL RX6 fr lo)  {v : Int32} (d : decode cc pc = .ok (.putfield 42, 3)) (h : V κ idsR nL (up M (14, 0, 0) 3 v) l st (pc + 3)) : V κ idsR nL M l (.int v :: .ref (κ.E.ad (14, 0, 0)) :: st) pc := s_put (T := TX6) (k := 3) (ty := .int) G uX6 tyX6 tyX6_ok nmX6 (mR14) rfl rfl (by decide) (by decide +kernel) rfl (by decide +kernel) rfl rfl (Nat.le_of_ble_eq_true rfl) (by simp [celF, up]) (fun j hj => cel_ne hj) d h
theorem al_9 {own : String} (G : Good κ idsC cc nL own fr lo) {f b : Nat} (hf : f < 2) (hb : b < 8) {j : Nat} {x : Int32} (hx : x = nI j) (hj : j < 16) (d : decode cc pc = .ok (.iaload, 1)) (h : V κ idsC nL M l (.int (M (9, f, b) j) :: st) (pc + 1)) : V κ idsC nL M l (.int x :: .ref (κ.E.ad (9, f, b)) :: st) pc := s_iald (f := M (9, f, b)) G (mC9 hf hb) rfl hx hj (by decide) d h
theorem as_9 {own : String} (G : Good κ idsC cc nL own fr lo) {f b : Nat} (hf : f < 2) (hb : b < 8) {j : Nat} {x v : Int32} (hx : x = nI j) (hj : j < 16) (d : decode cc pc = .ok (.iastore, 1)) (h : V κ idsC nL (up M (9, f, b) j v) l st (pc + 1)) : V κ idsC nL M l (.int v :: .int x :: .ref (κ.E.ad (9, f, b)) :: st) pc := s_iast (f := M (9, f, b)) G (mC9 hf hb) rfl hx hj (by decide) (by simp [celF, up_row]) (fun j hj => cel_ne hj) d h
theorem al_10 {own : String} (G : Good κ idsC cc nL own fr lo) {f b : Nat} (hf : f < 2) (hb : b < 16) {j : Nat} {x : Int32} (hx : x = nI j) (hj : j < 8) (d : decode cc pc = .ok (.iaload, 1)) (h : V κ idsC nL M l (.int (M (10, f, b) j) :: st) (pc + 1)) : V κ idsC nL M l (.int x :: .ref (κ.E.ad (10, f, b)) :: st) pc := s_iald (f := M (10, f, b)) G (mC10 hf hb) rfl hx hj (by decide) d h
theorem as_10 {own : String} (G : Good κ idsC cc nL own fr lo) {f b : Nat} (hf : f < 2) (hb : b < 16) {j : Nat} {x v : Int32} (hx : x = nI j) (hj : j < 8) (d : decode cc pc = .ok (.iastore, 1)) (h : V κ idsC nL (up M (10, f, b) j v) l st (pc + 1)) : V κ idsC nL M l (.int v :: .int x :: .ref (κ.E.ad (10, f, b)) :: st) pc := s_iast (f := M (10, f, b)) G (mC10 hf hb) rfl hx hj (by decide) (by simp [celF, up_row]) (fun j hj => cel_ne hj) d h
theorem al_11 {own : String} (G : Good κ idsC cc nL own fr lo) {f : Nat} (hf : f < 2) {j : Nat} {x : Int32} (hx : x = nI j) (hj : j < 3) (d : decode cc pc = .ok (.iaload, 1)) (h : V κ idsC nL M l (.int (M (11, f, 0) j) :: st) (pc + 1)) : V κ idsC nL M l (.int x :: .ref (κ.E.ad (11, f, 0)) :: st) pc := s_iald (f := M (11, f, 0)) G (mC11 hf) rfl hx hj (by decide) d h
theorem as_11 {own : String} (G : Good κ idsC cc nL own fr lo) {f : Nat} (hf : f < 2) {j : Nat} {x v : Int32} (hx : x = nI j) (hj : j < 3) (d : decode cc pc = .ok (.iastore, 1)) (h : V κ idsC nL (up M (11, f, 0) j v) l st (pc + 1)) : V κ idsC nL M l (.int v :: .int x :: .ref (κ.E.ad (11, f, 0)) :: st) pc := s_iast (f := M (11, f, 0)) G (mC11 hf) rfl hx hj (by decide) (by simp [celF, up_row]) (fun j hj => cel_ne hj) d h
theorem al_12 {own : String} (G : Good κ idsC cc nL own fr lo) {f : Nat} (hf : f < 2) {j : Nat} {x : Int32} (hx : x = nI j) (hj : j < 3) (d : decode cc pc = .ok (.iaload, 1)) (h : V κ idsC nL M l (.int (M (12, f, 0) j) :: st) (pc + 1)) : V κ idsC nL M l (.int x :: .ref (κ.E.ad (12, f, 0)) :: st) pc := s_iald (f := M (12, f, 0)) G (mC12 hf) rfl hx hj (by decide) d h
theorem as_12 {own : String} (G : Good κ idsC cc nL own fr lo) {f : Nat} (hf : f < 2) {j : Nat} {x v : Int32} (hx : x = nI j) (hj : j < 3) (d : decode cc pc = .ok (.iastore, 1)) (h : V κ idsC nL (up M (12, f, 0) j v) l st (pc + 1)) : V κ idsC nL M l (.int v :: .int x :: .ref (κ.E.ad (12, f, 0)) :: st) pc := s_iast (f := M (12, f, 0)) G (mC12 hf) rfl hx hj (by decide) (by simp [celF, up_row]) (fun j hj => cel_ne hj) d h
theorem al_13 {own : String} (G : Good κ idsC cc nL own fr lo) {f : Nat} (hf : f < 2) {j : Nat} {x : Int32} (hx : x = nI j) (hj : j < 3) (d : decode cc pc = .ok (.iaload, 1)) (h : V κ idsC nL M l (.int (M (13, f, 0) j) :: st) (pc + 1)) : V κ idsC nL M l (.int x :: .ref (κ.E.ad (13, f, 0)) :: st) pc := s_iald (f := M (13, f, 0)) G (mC13 hf) rfl hx hj (by decide) d h
theorem as_13 {own : String} (G : Good κ idsC cc nL own fr lo) {f : Nat} (hf : f < 2) {j : Nat} {x v : Int32} (hx : x = nI j) (hj : j < 3) (d : decode cc pc = .ok (.iastore, 1)) (h : V κ idsC nL (up M (13, f, 0) j v) l st (pc + 1)) : V κ idsC nL M l (.int v :: .int x :: .ref (κ.E.ad (13, f, 0)) :: st) pc := s_iast (f := M (13, f, 0)) G (mC13 hf) rfl hx hj (by decide) (by simp [celF, up_row]) (fun j hj => cel_ne hj) d h
theorem al_15 {own : String} (G : Good κ idsR cc nL own fr lo)  {j : Nat} {x : Int32} (hx : x = nI j) (hj : j < 48) (d : decode cc pc = .ok (.iaload, 1)) (h : V κ idsR nL M l (.int (M (15, 0, 0) j) :: st) (pc + 1)) : V κ idsR nL M l (.int x :: .ref (κ.E.ad (15, 0, 0)) :: st) pc := s_iald (f := M (15, 0, 0)) G (mR15) rfl hx hj (by decide) d h
theorem as_15 {own : String} (G : Good κ idsR cc nL own fr lo)  {j : Nat} {x v : Int32} (hx : x = nI j) (hj : j < 48) (d : decode cc pc = .ok (.iastore, 1)) (h : V κ idsR nL (up M (15, 0, 0) j v) l st (pc + 1)) : V κ idsR nL M l (.int v :: .int x :: .ref (κ.E.ad (15, 0, 0)) :: st) pc := s_iast (f := M (15, 0, 0)) G (mR15) rfl hx hj (by decide) (by simp [celF, up_row]) (fun j hj => cel_ne hj) d h
theorem al_16 {own : String} (G : Good κ idsR cc nL own fr lo)  {j : Nat} {x : Int32} (hx : x = nI j) (hj : j < 36) (d : decode cc pc = .ok (.iaload, 1)) (h : V κ idsR nL M l (.int (M (16, 0, 0) j) :: st) (pc + 1)) : V κ idsR nL M l (.int x :: .ref (κ.E.ad (16, 0, 0)) :: st) pc := s_iald (f := M (16, 0, 0)) G (mR16) rfl hx hj (by decide) d h
theorem as_16 {own : String} (G : Good κ idsR cc nL own fr lo)  {j : Nat} {x v : Int32} (hx : x = nI j) (hj : j < 36) (d : decode cc pc = .ok (.iastore, 1)) (h : V κ idsR nL (up M (16, 0, 0) j v) l st (pc + 1)) : V κ idsR nL M l (.int v :: .int x :: .ref (κ.E.ad (16, 0, 0)) :: st) pc := s_iast (f := M (16, 0, 0)) G (mR16) rfl hx hj (by decide) (by simp [celF, up_row]) (fun j hj => cel_ne hj) d h
theorem al_17 {own : String} (G : Good κ idsR cc nL own fr lo)  {j : Nat} {x : Int32} (hx : x = nI j) (hj : j < 144) (d : decode cc pc = .ok (.iaload, 1)) (h : V κ idsR nL M l (.int (M (17, 0, 0) j) :: st) (pc + 1)) : V κ idsR nL M l (.int x :: .ref (κ.E.ad (17, 0, 0)) :: st) pc := s_iald (f := M (17, 0, 0)) G (mR17) rfl hx hj (by decide) d h
theorem as_17 {own : String} (G : Good κ idsR cc nL own fr lo)  {j : Nat} {x v : Int32} (hx : x = nI j) (hj : j < 144) (d : decode cc pc = .ok (.iastore, 1)) (h : V κ idsR nL (up M (17, 0, 0) j v) l st (pc + 1)) : V κ idsR nL M l (.int v :: .int x :: .ref (κ.E.ad (17, 0, 0)) :: st) pc := s_iast (f := M (17, 0, 0)) G (mR17) rfl hx hj (by decide) (by simp [celF, up_row]) (fun j hj => cel_ne hj) d h
theorem al_18 {own : String} (G : Good κ idsR cc nL own fr lo)  {j : Nat} {x : Int32} (hx : x = nI j) (hj : j < 128) (d : decode cc pc = .ok (.iaload, 1)) (h : V κ idsR nL M l (.int (M (18, 0, 0) j) :: st) (pc + 1)) : V κ idsR nL M l (.int x :: .ref (κ.E.ad (18, 0, 0)) :: st) pc := s_iald (f := M (18, 0, 0)) G (mR18) rfl hx hj (by decide) d h
theorem as_18 {own : String} (G : Good κ idsR cc nL own fr lo)  {j : Nat} {x v : Int32} (hx : x = nI j) (hj : j < 128) (d : decode cc pc = .ok (.iastore, 1)) (h : V κ idsR nL (up M (18, 0, 0) j v) l st (pc + 1)) : V κ idsR nL M l (.int v :: .int x :: .ref (κ.E.ad (18, 0, 0)) :: st) pc := s_iast (f := M (18, 0, 0)) G (mR18) rfl hx hj (by decide) (by simp [celF, up_row]) (fun j hj => cel_ne hj) d h
theorem al_19 {own : String} (G : Good κ idsR cc nL own fr lo)  {j : Nat} {x : Int32} (hx : x = nI j) (hj : j < 9) (d : decode cc pc = .ok (.iaload, 1)) (h : V κ idsR nL M l (.int (M (19, 0, 0) j) :: st) (pc + 1)) : V κ idsR nL M l (.int x :: .ref (κ.E.ad (19, 0, 0)) :: st) pc := s_iald (f := M (19, 0, 0)) G (mR19) rfl hx hj (by decide) d h
theorem as_19 {own : String} (G : Good κ idsR cc nL own fr lo)  {j : Nat} {x v : Int32} (hx : x = nI j) (hj : j < 9) (d : decode cc pc = .ok (.iastore, 1)) (h : V κ idsR nL (up M (19, 0, 0) j v) l st (pc + 1)) : V κ idsR nL M l (.int v :: .int x :: .ref (κ.E.ad (19, 0, 0)) :: st) pc := s_iast (f := M (19, 0, 0)) G (mR19) rfl hx hj (by decide) (by simp [celF, up_row]) (fun j hj => cel_ne hj) d h
theorem al_20 {own : String} (G : Good κ idsR cc nL own fr lo)  {j : Nat} {x : Int32} (hx : x = nI j) (hj : j < 5) (d : decode cc pc = .ok (.iaload, 1)) (h : V κ idsR nL M l (.int (M (20, 0, 0) j) :: st) (pc + 1)) : V κ idsR nL M l (.int x :: .ref (κ.E.ad (20, 0, 0)) :: st) pc := s_iald (f := M (20, 0, 0)) G (mR20) rfl hx hj (by decide) d h
theorem as_20 {own : String} (G : Good κ idsR cc nL own fr lo)  {j : Nat} {x v : Int32} (hx : x = nI j) (hj : j < 5) (d : decode cc pc = .ok (.iastore, 1)) (h : V κ idsR nL (up M (20, 0, 0) j v) l st (pc + 1)) : V κ idsR nL M l (.int v :: .int x :: .ref (κ.E.ad (20, 0, 0)) :: st) pc := s_iast (f := M (20, 0, 0)) G (mR20) rfl hx hj (by decide) (by simp [celF, up_row]) (fun j hj => cel_ne hj) d h
theorem ar_6 {own : String} (G : Good κ idsC cc nL own fr lo) {f : Nat} (hf : f < 2) {j : Nat} {x : Int32} (hx : x = nI j) (hj : j < 8) (d : decode cc pc = .ok (.aaload, 1)) (h : V κ idsC nL M l (.ref (κ.E.ad (2, f, j)) :: st) (pc + 1)) : V κ idsC nL M l (.int x :: .ref (κ.E.ad (6, f, 0)) :: st) pc := s_aald (i2 := (2, f, j)) (t0 := 1) (f := fun j => some (κ.E.ad (2, f, j))) G (mC6 hf) rfl rfl hx hj (by decide) rfl d h
theorem ar_7 {own : String} (G : Good κ idsC cc nL own fr lo) {f : Nat} (hf : f < 2) {j : Nat} {x : Int32} (hx : x = nI j) (hj : j < 12) (d : decode cc pc = .ok (.aaload, 1)) (h : V κ idsC nL M l (.ref (κ.E.ad (3, f, j)) :: st) (pc + 1)) : V κ idsC nL M l (.int x :: .ref (κ.E.ad (7, f, 0)) :: st) pc := s_aald (i2 := (3, f, j)) (t0 := 2) (f := fun j => some (κ.E.ad (3, f, j))) G (mC7 hf) rfl rfl hx hj (by decide) rfl d h
theorem ar_8 {own : String} (G : Good κ idsC cc nL own fr lo) {f : Nat} (hf : f < 2) {j : Nat} {x : Int32} (hx : x = nI j) (hj : j < 16) (d : decode cc pc = .ok (.aaload, 1)) (h : V κ idsC nL M l (.ref (κ.E.ad (4, f, j)) :: st) (pc + 1)) : V κ idsC nL M l (.int x :: .ref (κ.E.ad (8, f, 0)) :: st) pc := s_aald (i2 := (4, f, j)) (t0 := 3) (f := fun j => some (κ.E.ad (4, f, j))) G (mC8 hf) rfl rfl hx hj (by decide) rfl d h
end Links
end
section
section Links2
variable {κ : KX} {cc : ByteArray} {nL fr lo : Nat} {M : Mem} {l : LSt} {st : List Value} {pc : Nat}
theorem iX1_25 (G : Good κ idsC cc nL RX1 fr lo) {x y : Int32} (d : decode cc pc = .ok (.invokestatic 25, 3)) (hf : 1 ≤ fr) (hlo : (st.map fun v => v.category).sum + 13 ≤ lo) (h : V κ idsC nL M l (.int (if y < x then y else x) :: st) (pc + 3)) : V κ idsC nL M l (.int y :: .int x :: st) pc := s_mmin G d (by decide +kernel) hf hlo h
theorem iX2_61 (G : Good κ idsC cc nL RX2 fr lo) {f b : Nat} (hf : f < 2) (hb : b < 8) {r0 : Pid} {P : Option Value → Mem → Prop} (c : Ret κ.E idsC yX0_copyFrom cX0_copyFrom 3 none 0 0 [.ref (κ.E.ad (2, f, b)), .ref (κ.E.ad r0)] M P) (hr : 0 + 1 ≤ fr ∧ 8 + (3 + 11) + 0 ≤ lo) (hw : (st.map fun v => v.category).sum ≤ 8) (d : decode cc pc = .ok (.invokevirtual 61, 3)) (h : ∀ r M', P r M' → V κ idsC nL M' l (r.toList ++ st) (pc + 3)) : V κ idsC nL M l (.ref (κ.E.ad r0) :: .ref (κ.E.ad (2, f, b)) :: st) pc := s_callV (n := 1) G c (mC2 hf hb) rfl rfl (by decide +kernel) (by decide +kernel) (by decide +kernel) (by decide +kernel) (by decide +kernel) (by decide +kernel) hr rfl hw d rfl h
theorem iX2_65 (G : Good κ idsC cc nL RX2 fr lo) {f b : Nat} (hf : f < 2) (hb : b < 12) {r0 : Pid} {P : Option Value → Mem → Prop} (c : Ret κ.E idsC yX3_copyFrom cX3_copyFrom 2 none 0 0 [.ref (κ.E.ad (3, f, b)), .ref (κ.E.ad r0)] M P) (hr : 0 + 1 ≤ fr ∧ 8 + (2 + 11) + 0 ≤ lo) (hw : (st.map fun v => v.category).sum ≤ 8) (d : decode cc pc = .ok (.invokevirtual 65, 3)) (h : ∀ r M', P r M' → V κ idsC nL M' l (r.toList ++ st) (pc + 3)) : V κ idsC nL M l (.ref (κ.E.ad r0) :: .ref (κ.E.ad (3, f, b)) :: st) pc := s_callV (n := 1) G c (mC3 hf hb) rfl rfl (by decide +kernel) (by decide +kernel) (by decide +kernel) (by decide +kernel) (by decide +kernel) (by decide +kernel) hr rfl hw d rfl h
theorem iX2_68 (G : Good κ idsC cc nL RX2 fr lo) {f b : Nat} (hf : f < 2) (hb : b < 16) {r0 : Pid} {P : Option Value → Mem → Prop} (c : Ret κ.E idsC yX4_copyFrom cX4_copyFrom 3 none 0 0 [.ref (κ.E.ad (4, f, b)), .ref (κ.E.ad r0)] M P) (hr : 0 + 1 ≤ fr ∧ 8 + (3 + 11) + 0 ≤ lo) (hw : (st.map fun v => v.category).sum ≤ 8) (d : decode cc pc = .ok (.invokevirtual 68, 3)) (h : ∀ r M', P r M' → V κ idsC nL M' l (r.toList ++ st) (pc + 3)) : V κ idsC nL M l (.ref (κ.E.ad r0) :: .ref (κ.E.ad (4, f, b)) :: st) pc := s_callV (n := 1) G c (mC4 hf hb) rfl rfl (by decide +kernel) (by decide +kernel) (by decide +kernel) (by decide +kernel) (by decide +kernel) (by decide +kernel) hr rfl hw d rfl h
theorem iX2_71 (G : Good κ idsC cc nL RX2 fr lo) {f : Nat} (hf : f < 2) {r0 : Pid} {P : Option Value → Mem → Prop} (c : Ret κ.E idsC yX1_copyFrom cX1_copyFrom 3 none 0 0 [.ref (κ.E.ad (5, f, 0)), .ref (κ.E.ad r0)] M P) (hr : 0 + 1 ≤ fr ∧ 8 + (3 + 11) + 0 ≤ lo) (hw : (st.map fun v => v.category).sum ≤ 8) (d : decode cc pc = .ok (.invokevirtual 71, 3)) (h : ∀ r M', P r M' → V κ idsC nL M' l (r.toList ++ st) (pc + 3)) : V κ idsC nL M l (.ref (κ.E.ad r0) :: .ref (κ.E.ad (5, f, 0)) :: st) pc := s_callV (n := 1) G c (mC5 hf) rfl rfl (by decide +kernel) (by decide +kernel) (by decide +kernel) (by decide +kernel) (by decide +kernel) (by decide +kernel) hr rfl hw d rfl h
theorem iX2_74 (G : Good κ idsC cc nL RX2 fr lo) {f b : Nat} (hf : f < 2) (hb : b < 8) {a0 : Int32} {a1 : Int32} {a2 : Int32} {a3 : Int32} {P : Option Value → Mem → Prop} (c : Ret κ.E idsC yX0_begin cX0_begin 5 none 0 0 [.ref (κ.E.ad (2, f, b)), .int a0, .int a1, .int a2, .int a3] M P) (hr : 0 + 1 ≤ fr ∧ 8 + (5 + 11) + 0 ≤ lo) (hw : (st.map fun v => v.category).sum ≤ 8) (d : decode cc pc = .ok (.invokevirtual 74, 3)) (h : ∀ r M', P r M' → V κ idsC nL M' l (r.toList ++ st) (pc + 3)) : V κ idsC nL M l (.int a3 :: .int a2 :: .int a1 :: .int a0 :: .ref (κ.E.ad (2, f, b)) :: st) pc := s_callV (n := 4) G c (mC2 hf hb) rfl rfl (by decide +kernel) (by decide +kernel) (by decide +kernel) (by decide +kernel) (by decide +kernel) (by decide +kernel) hr rfl hw d rfl h
theorem iX2_78 (G : Good κ idsC cc nL RX2 fr lo) {f b : Nat} (hf : f < 2) (hb : b < 12) {P : Option Value → Mem → Prop} (c : Ret κ.E idsC yX3_begin cX3_begin 1 none 0 0 [.ref (κ.E.ad (3, f, b))] M P) (hr : 0 + 1 ≤ fr ∧ 8 + (1 + 11) + 0 ≤ lo) (hw : (st.map fun v => v.category).sum ≤ 8) (d : decode cc pc = .ok (.invokevirtual 78, 3)) (h : ∀ r M', P r M' → V κ idsC nL M' l (r.toList ++ st) (pc + 3)) : V κ idsC nL M l (.ref (κ.E.ad (3, f, b)) :: st) pc := s_callV (n := 0) G c (mC3 hf hb) rfl rfl (by decide +kernel) (by decide +kernel) (by decide +kernel) (by decide +kernel) (by decide +kernel) (by decide +kernel) hr rfl hw d rfl h
theorem iX2_80 (G : Good κ idsC cc nL RX2 fr lo) {f b : Nat} (hf : f < 2) (hb : b < 16) {a0 : Int32} {a1 : Int32} {P : Option Value → Mem → Prop} (c : Ret κ.E idsC yX4_begin cX4_begin 3 none 0 0 [.ref (κ.E.ad (4, f, b)), .int a0, .int a1] M P) (hr : 0 + 1 ≤ fr ∧ 8 + (3 + 11) + 0 ≤ lo) (hw : (st.map fun v => v.category).sum ≤ 8) (d : decode cc pc = .ok (.invokevirtual 80, 3)) (h : ∀ r M', P r M' → V κ idsC nL M' l (r.toList ++ st) (pc + 3)) : V κ idsC nL M l (.int a1 :: .int a0 :: .ref (κ.E.ad (4, f, b)) :: st) pc := s_callV (n := 2) G c (mC4 hf hb) rfl rfl (by decide +kernel) (by decide +kernel) (by decide +kernel) (by decide +kernel) (by decide +kernel) (by decide +kernel) hr rfl hw d rfl h
theorem iX2_83 (G : Good κ idsC cc nL RX2 fr lo) {f : Nat} (hf : f < 2) {a0 : Int32} {P : Option Value → Mem → Prop} (c : Ret κ.E idsC yX2_isHelper cX2_isHelper 2 (some .boolean) 0 0 [.ref (κ.E.ad (1, f, 0)), .int a0] M P) (hr : 0 + 1 ≤ fr ∧ 8 + (2 + 11) + 0 ≤ lo) (hw : (st.map fun v => v.category).sum ≤ 8) (d : decode cc pc = .ok (.invokevirtual 83, 3)) (h : ∀ r M', P r M' → V κ idsC nL M' l (r.toList ++ st) (pc + 3)) : V κ idsC nL M l (.int a0 :: .ref (κ.E.ad (1, f, 0)) :: st) pc := s_callV (n := 1) G c (mC1 hf) rfl rfl (by decide +kernel) (by decide +kernel) (by decide +kernel) (by decide +kernel) (by decide +kernel) (by decide +kernel) hr rfl hw d rfl h
theorem iX2_90 (G : Good κ idsC cc nL RX2 fr lo) {f : Nat} (hf : f < 2) {a0 : Int32} {P : Option Value → Mem → Prop} (c : Ret κ.E idsC yX2_isBooth cX2_isBooth 2 (some .boolean) 0 0 [.ref (κ.E.ad (1, f, 0)), .int a0] M P) (hr : 0 + 1 ≤ fr ∧ 8 + (2 + 11) + 0 ≤ lo) (hw : (st.map fun v => v.category).sum ≤ 8) (d : decode cc pc = .ok (.invokevirtual 90, 3)) (h : ∀ r M', P r M' → V κ idsC nL M' l (r.toList ++ st) (pc + 3)) : V κ idsC nL M l (.int a0 :: .ref (κ.E.ad (1, f, 0)) :: st) pc := s_callV (n := 1) G c (mC1 hf) rfl rfl (by decide +kernel) (by decide +kernel) (by decide +kernel) (by decide +kernel) (by decide +kernel) (by decide +kernel) hr rfl hw d rfl h
theorem iX2_96 (G : Good κ idsC cc nL RX2 fr lo) {f : Nat} (hf : f < 2) {a0 : Int32} {P : Option Value → Mem → Prop} (c : Ret κ.E idsC yX2_isVisitor cX2_isVisitor 2 (some .boolean) 0 0 [.ref (κ.E.ad (1, f, 0)), .int a0] M P) (hr : 0 + 1 ≤ fr ∧ 8 + (2 + 11) + 0 ≤ lo) (hw : (st.map fun v => v.category).sum ≤ 8) (d : decode cc pc = .ok (.invokevirtual 96, 3)) (h : ∀ r M', P r M' → V κ idsC nL M' l (r.toList ++ st) (pc + 3)) : V κ idsC nL M l (.int a0 :: .ref (κ.E.ad (1, f, 0)) :: st) pc := s_callV (n := 1) G c (mC1 hf) rfl rfl (by decide +kernel) (by decide +kernel) (by decide +kernel) (by decide +kernel) (by decide +kernel) (by decide +kernel) hr rfl hw d rfl h
theorem iX2_100 (G : Good κ idsC cc nL RX2 fr lo) {f b : Nat} (hf : f < 2) (hb : b < 8) {a0 : Int32} {P : Option Value → Mem → Prop} (c : Ret κ.E idsC yX0_dequeue cX0_dequeue 4 none 0 0 [.ref (κ.E.ad (2, f, b)), .int a0] M P) (hr : 0 + 1 ≤ fr ∧ 8 + (4 + 11) + 0 ≤ lo) (hw : (st.map fun v => v.category).sum ≤ 8) (d : decode cc pc = .ok (.invokevirtual 100, 3)) (h : ∀ r M', P r M' → V κ idsC nL M' l (r.toList ++ st) (pc + 3)) : V κ idsC nL M l (.int a0 :: .ref (κ.E.ad (2, f, b)) :: st) pc := s_callV (n := 1) G c (mC2 hf hb) rfl rfl (by decide +kernel) (by decide +kernel) (by decide +kernel) (by decide +kernel) (by decide +kernel) (by decide +kernel) hr rfl hw d rfl h
theorem iX2_107 (G : Good κ idsC cc nL RX2 fr lo) {f : Nat} (hf : f < 2) {P : Option Value → Mem → Prop} (c : Ret κ.E idsC yX2_playRound cX2_playRound 2 none 4 97 [.ref (κ.E.ad (1, f, 0))] M P) (hr : 4 + 1 ≤ fr ∧ 8 + (2 + 11) + 97 ≤ lo) (hw : (st.map fun v => v.category).sum ≤ 8) (d : decode cc pc = .ok (.invokevirtual 107, 3)) (h : ∀ r M', P r M' → V κ idsC nL M' l (r.toList ++ st) (pc + 3)) : V κ idsC nL M l (.ref (κ.E.ad (1, f, 0)) :: st) pc := s_callV (n := 0) G c (mC1 hf) rfl rfl (by decide +kernel) (by decide +kernel) (by decide +kernel) (by decide +kernel) (by decide +kernel) (by decide +kernel) hr rfl hw d rfl h
theorem iX2_110 (G : Good κ idsC cc nL RX2 fr lo) {f : Nat} (hf : f < 2) {P : Option Value → Mem → Prop} (c : Ret κ.E idsC yX2_throwDart cX2_throwDart 1 none 0 0 [.ref (κ.E.ad (1, f, 0))] M P) (hr : 0 + 1 ≤ fr ∧ 8 + (1 + 11) + 0 ≤ lo) (hw : (st.map fun v => v.category).sum ≤ 8) (d : decode cc pc = .ok (.invokevirtual 110, 3)) (h : ∀ r M', P r M' → V κ idsC nL M' l (r.toList ++ st) (pc + 3)) : V κ idsC nL M l (.ref (κ.E.ad (1, f, 0)) :: st) pc := s_callV (n := 0) G c (mC1 hf) rfl rfl (by decide +kernel) (by decide +kernel) (by decide +kernel) (by decide +kernel) (by decide +kernel) (by decide +kernel) hr rfl hw d rfl h
theorem iX2_113 (G : Good κ idsC cc nL RX2 fr lo) {f b : Nat} (hf : f < 2) (hb : b < 16) {P : Option Value → Mem → Prop} (c : Ret κ.E idsC yX4_strolls cX4_strolls 1 (some .boolean) 0 0 [.ref (κ.E.ad (4, f, b))] M P) (hr : 0 + 1 ≤ fr ∧ 8 + (1 + 11) + 0 ≤ lo) (hw : (st.map fun v => v.category).sum ≤ 8) (d : decode cc pc = .ok (.invokevirtual 113, 3)) (h : ∀ r M', P r M' → V κ idsC nL M' l (r.toList ++ st) (pc + 3)) : V κ idsC nL M l (.ref (κ.E.ad (4, f, b)) :: st) pc := s_callV (n := 0) G c (mC4 hf hb) rfl rfl (by decide +kernel) (by decide +kernel) (by decide +kernel) (by decide +kernel) (by decide +kernel) (by decide +kernel) hr rfl hw d rfl h
theorem iX2_117 (G : Good κ idsC cc nL RX2 fr lo) {f : Nat} (hf : f < 2) {a0 : Int32} {P : Option Value → Mem → Prop} (c : Ret κ.E idsC yX2_choose cX2_choose 5 none 2 44 [.ref (κ.E.ad (1, f, 0)), .int a0] M P) (hr : 2 + 1 ≤ fr ∧ 8 + (5 + 11) + 44 ≤ lo) (hw : (st.map fun v => v.category).sum ≤ 8) (d : decode cc pc = .ok (.invokevirtual 117, 3)) (h : ∀ r M', P r M' → V κ idsC nL M' l (r.toList ++ st) (pc + 3)) : V κ idsC nL M l (.int a0 :: .ref (κ.E.ad (1, f, 0)) :: st) pc := s_callV (n := 1) G c (mC1 hf) rfl rfl (by decide +kernel) (by decide +kernel) (by decide +kernel) (by decide +kernel) (by decide +kernel) (by decide +kernel) hr rfl hw d rfl h
theorem iX2_120 (G : Good κ idsC cc nL RX2 fr lo) {f b : Nat} (hf : f < 2) (hb : b < 8) {P : Option Value → Mem → Prop} (c : Ret κ.E idsC yX0_isOpen cX0_isOpen 1 (some .boolean) 0 0 [.ref (κ.E.ad (2, f, b))] M P) (hr : 0 + 1 ≤ fr ∧ 8 + (1 + 11) + 0 ≤ lo) (hw : (st.map fun v => v.category).sum ≤ 8) (d : decode cc pc = .ok (.invokevirtual 120, 3)) (h : ∀ r M', P r M' → V κ idsC nL M' l (r.toList ++ st) (pc + 3)) : V κ idsC nL M l (.ref (κ.E.ad (2, f, b)) :: st) pc := s_callV (n := 0) G c (mC2 hf hb) rfl rfl (by decide +kernel) (by decide +kernel) (by decide +kernel) (by decide +kernel) (by decide +kernel) (by decide +kernel) hr rfl hw d rfl h
theorem iX2_123 (G : Good κ idsC cc nL RX2 fr lo) {f : Nat} (hf : f < 2) {a0 : Int32} {P : Option Value → Mem → Prop} (c : Ret κ.E idsC yX2_serve cX2_serve 6 none 3 72 [.ref (κ.E.ad (1, f, 0)), .int a0] M P) (hr : 3 + 1 ≤ fr ∧ 8 + (6 + 11) + 72 ≤ lo) (hw : (st.map fun v => v.category).sum ≤ 8) (d : decode cc pc = .ok (.invokevirtual 123, 3)) (h : ∀ r M', P r M' → V κ idsC nL M' l (r.toList ++ st) (pc + 3)) : V κ idsC nL M l (.int a0 :: .ref (κ.E.ad (1, f, 0)) :: st) pc := s_callV (n := 1) G c (mC1 hf) rfl rfl (by decide +kernel) (by decide +kernel) (by decide +kernel) (by decide +kernel) (by decide +kernel) (by decide +kernel) hr rfl hw d rfl h
theorem iX2_126 (G : Good κ idsC cc nL RX2 fr lo) {f : Nat} (hf : f < 2) {a0 : Int32} {P : Option Value → Mem → Prop} (c : Ret κ.E idsC yX2_tireOrRest cX2_tireOrRest 3 none 2 44 [.ref (κ.E.ad (1, f, 0)), .int a0] M P) (hr : 2 + 1 ≤ fr ∧ 8 + (3 + 11) + 44 ≤ lo) (hw : (st.map fun v => v.category).sum ≤ 8) (d : decode cc pc = .ok (.invokevirtual 126, 3)) (h : ∀ r M', P r M' → V κ idsC nL M' l (r.toList ++ st) (pc + 3)) : V κ idsC nL M l (.int a0 :: .ref (κ.E.ad (1, f, 0)) :: st) pc := s_callV (n := 1) G c (mC1 hf) rfl rfl (by decide +kernel) (by decide +kernel) (by decide +kernel) (by decide +kernel) (by decide +kernel) (by decide +kernel) hr rfl hw d rfl h
theorem iX2_129 (G : Good κ idsC cc nL RX2 fr lo) {f : Nat} (hf : f < 2) {P : Option Value → Mem → Prop} (c : Ret κ.E idsC yX2_endHour cX2_endHour 3 none 2 46 [.ref (κ.E.ad (1, f, 0))] M P) (hr : 2 + 1 ≤ fr ∧ 8 + (3 + 11) + 46 ≤ lo) (hw : (st.map fun v => v.category).sum ≤ 8) (d : decode cc pc = .ok (.invokevirtual 129, 3)) (h : ∀ r M', P r M' → V κ idsC nL M' l (r.toList ++ st) (pc + 3)) : V κ idsC nL M l (.ref (κ.E.ad (1, f, 0)) :: st) pc := s_callV (n := 0) G c (mC1 hf) rfl rfl (by decide +kernel) (by decide +kernel) (by decide +kernel) (by decide +kernel) (by decide +kernel) (by decide +kernel) hr rfl hw d rfl h
theorem iX2_133 (G : Good κ idsC cc nL RX2 fr lo) {f : Nat} (hf : f < 2) {a0 : Int32} {r1 : Pid} {P : Option Value → Mem → Prop} (c : Ret κ.E idsC yX2_invites cX2_invites 4 (some .boolean) 1 21 [.ref (κ.E.ad (1, f, 0)), .int a0, .ref (κ.E.ad r1)] M P) (hr : 1 + 1 ≤ fr ∧ 8 + (4 + 11) + 21 ≤ lo) (hw : (st.map fun v => v.category).sum ≤ 8) (d : decode cc pc = .ok (.invokevirtual 133, 3)) (h : ∀ r M', P r M' → V κ idsC nL M' l (r.toList ++ st) (pc + 3)) : V κ idsC nL M l (.ref (κ.E.ad r1) :: .int a0 :: .ref (κ.E.ad (1, f, 0)) :: st) pc := s_callV (n := 2) G c (mC1 hf) rfl rfl (by decide +kernel) (by decide +kernel) (by decide +kernel) (by decide +kernel) (by decide +kernel) (by decide +kernel) hr rfl hw d rfl h
theorem iX2_137 (G : Good κ idsC cc nL RX2 fr lo) {f : Nat} (hf : f < 2) {a0 : Int32} {a1 : Int32} {r2 : Pid} {P : Option Value → Mem → Prop} (c : Ret κ.E idsC yX2_isBetter cX2_isBetter 5 (some .boolean) 0 0 [.ref (κ.E.ad (1, f, 0)), .int a0, .int a1, .ref (κ.E.ad r2)] M P) (hr : 0 + 1 ≤ fr ∧ 8 + (5 + 11) + 0 ≤ lo) (hw : (st.map fun v => v.category).sum ≤ 8) (d : decode cc pc = .ok (.invokevirtual 137, 3)) (h : ∀ r M', P r M' → V κ idsC nL M' l (r.toList ++ st) (pc + 3)) : V κ idsC nL M l (.ref (κ.E.ad r2) :: .int a1 :: .int a0 :: .ref (κ.E.ad (1, f, 0)) :: st) pc := s_callV (n := 3) G c (mC1 hf) rfl rfl (by decide +kernel) (by decide +kernel) (by decide +kernel) (by decide +kernel) (by decide +kernel) (by decide +kernel) hr rfl hw d rfl h
theorem iX2_141 (G : Good κ idsC cc nL RX2 fr lo) {f b : Nat} (hf : f < 2) (hb : b < 8) {a0 : Int32} {P : Option Value → Mem → Prop} (c : Ret κ.E idsC yX0_enqueue cX0_enqueue 2 (some .boolean) 0 0 [.ref (κ.E.ad (2, f, b)), .int a0] M P) (hr : 0 + 1 ≤ fr ∧ 8 + (2 + 11) + 0 ≤ lo) (hw : (st.map fun v => v.category).sum ≤ 8) (d : decode cc pc = .ok (.invokevirtual 141, 3)) (h : ∀ r M', P r M' → V κ idsC nL M' l (r.toList ++ st) (pc + 3)) : V κ idsC nL M l (.int a0 :: .ref (κ.E.ad (2, f, b)) :: st) pc := s_callV (n := 1) G c (mC2 hf hb) rfl rfl (by decide +kernel) (by decide +kernel) (by decide +kernel) (by decide +kernel) (by decide +kernel) (by decide +kernel) hr rfl hw d rfl h
theorem iX2_154 (G : Good κ idsC cc nL RX2 fr lo) {f : Nat} (hf : f < 2) {a0 : Int32} {P : Option Value → Mem → Prop} (c : Ret κ.E idsC yX2_costNow cX2_costNow 2 (some .int) 0 0 [.ref (κ.E.ad (1, f, 0)), .int a0] M P) (hr : 0 + 1 ≤ fr ∧ 8 + (2 + 11) + 0 ≤ lo) (hw : (st.map fun v => v.category).sum ≤ 8) (d : decode cc pc = .ok (.invokevirtual 154, 3)) (h : ∀ r M', P r M' → V κ idsC nL M' l (r.toList ++ st) (pc + 3)) : V κ idsC nL M l (.int a0 :: .ref (κ.E.ad (1, f, 0)) :: st) pc := s_callV (n := 1) G c (mC1 hf) rfl rfl (by decide +kernel) (by decide +kernel) (by decide +kernel) (by decide +kernel) (by decide +kernel) (by decide +kernel) hr rfl hw d rfl h
theorem iX2_165 (G : Good κ idsC cc nL RX2 fr lo) {x y : Int32} (d : decode cc pc = .ok (.invokestatic 165, 3)) (hf : 1 ≤ fr) (hlo : (st.map fun v => v.category).sum + 13 ≤ lo) (h : V κ idsC nL M l (.int (if y < x then y else x) :: st) (pc + 3)) : V κ idsC nL M l (.int y :: .int x :: st) pc := s_mmin G d (by decide +kernel) hf hlo h
theorem iX2_174 (G : Good κ idsC cc nL RX2 fr lo) {f : Nat} (hf : f < 2) {a0 : Int32} {P : Option Value → Mem → Prop} (c : Ret κ.E idsC yX2_takeFromQueue cX2_takeFromQueue 4 (some .int) 1 23 [.ref (κ.E.ad (1, f, 0)), .int a0] M P) (hr : 1 + 1 ≤ fr ∧ 8 + (4 + 11) + 23 ≤ lo) (hw : (st.map fun v => v.category).sum ≤ 8) (d : decode cc pc = .ok (.invokevirtual 174, 3)) (h : ∀ r M', P r M' → V κ idsC nL M' l (r.toList ++ st) (pc + 3)) : V κ idsC nL M l (.int a0 :: .ref (κ.E.ad (1, f, 0)) :: st) pc := s_callV (n := 1) G c (mC1 hf) rfl rfl (by decide +kernel) (by decide +kernel) (by decide +kernel) (by decide +kernel) (by decide +kernel) (by decide +kernel) hr rfl hw d rfl h
theorem iX2_177 (G : Good κ idsC cc nL RX2 fr lo) {f : Nat} (hf : f < 2) {a0 : Int32} {a1 : Int32} {P : Option Value → Mem → Prop} (c : Ret κ.E idsC yX2_play cX2_play 7 none 2 46 [.ref (κ.E.ad (1, f, 0)), .int a0, .int a1] M P) (hr : 2 + 1 ≤ fr ∧ 8 + (7 + 11) + 46 ≤ lo) (hw : (st.map fun v => v.category).sum ≤ 8) (d : decode cc pc = .ok (.invokevirtual 177, 3)) (h : ∀ r M', P r M' → V κ idsC nL M' l (r.toList ++ st) (pc + 3)) : V κ idsC nL M l (.int a1 :: .int a0 :: .ref (κ.E.ad (1, f, 0)) :: st) pc := s_callV (n := 2) G c (mC1 hf) rfl rfl (by decide +kernel) (by decide +kernel) (by decide +kernel) (by decide +kernel) (by decide +kernel) (by decide +kernel) hr rfl hw d rfl h
theorem iX2_183 (G : Good κ idsC cc nL RX2 fr lo) {f : Nat} (hf : f < 2) {r0 : Pid} {a1 : Int32} {P : Option Value → Mem → Prop} (c : Ret κ.E idsC yX2_pointsOf cX2_pointsOf 5 (some .int) 0 0 [.ref (κ.E.ad (1, f, 0)), .ref (κ.E.ad r0), .int a1] M P) (hr : 0 + 1 ≤ fr ∧ 8 + (5 + 11) + 0 ≤ lo) (hw : (st.map fun v => v.category).sum ≤ 8) (d : decode cc pc = .ok (.invokevirtual 183, 3)) (h : ∀ r M', P r M' → V κ idsC nL M' l (r.toList ++ st) (pc + 3)) : V κ idsC nL M l (.int a1 :: .ref (κ.E.ad r0) :: .ref (κ.E.ad (1, f, 0)) :: st) pc := s_callV (n := 2) G c (mC1 hf) rfl rfl (by decide +kernel) (by decide +kernel) (by decide +kernel) (by decide +kernel) (by decide +kernel) (by decide +kernel) hr rfl hw d rfl h
theorem iX2_187 (G : Good κ idsC cc nL RX2 fr lo) {f : Nat} (hf : f < 2) {a0 : Int32} {a1 : Int32} {a2 : Int32} {P : Option Value → Mem → Prop} (c : Ret κ.E idsC yX1_write cX1_write 6 none 1 21 [.ref (κ.E.ad (5, f, 0)), .int a0, .int a1, .int a2] M P) (hr : 1 + 1 ≤ fr ∧ 8 + (6 + 11) + 21 ≤ lo) (hw : (st.map fun v => v.category).sum ≤ 8) (d : decode cc pc = .ok (.invokevirtual 187, 3)) (h : ∀ r M', P r M' → V κ idsC nL M' l (r.toList ++ st) (pc + 3)) : V κ idsC nL M l (.int a2 :: .int a1 :: .int a0 :: .ref (κ.E.ad (5, f, 0)) :: st) pc := s_callV (n := 3) G c (mC5 hf) rfl rfl (by decide +kernel) (by decide +kernel) (by decide +kernel) (by decide +kernel) (by decide +kernel) (by decide +kernel) hr rfl hw d rfl h
theorem iX2_198 (G : Good κ idsC cc nL RX2 fr lo) {x y : Int32} (d : decode cc pc = .ok (.invokestatic 198, 3)) (hf : 1 ≤ fr) (hlo : (st.map fun v => v.category).sum + 13 ≤ lo) (h : V κ idsC nL M l (.int (if x < y then y else x) :: st) (pc + 3)) : V κ idsC nL M l (.int y :: .int x :: st) pc := s_mmax G d (by decide +kernel) hf hlo h
theorem iX2_217 (G : Good κ idsC cc nL RX2 fr lo) {f : Nat} (hf : f < 2) {a0 : Int32} {a1 : Int32} {P : Option Value → Mem → Prop} (c : Ret κ.E idsC yX2_send cX2_send 4 none 1 21 [.ref (κ.E.ad (1, f, 0)), .int a0, .int a1] M P) (hr : 1 + 1 ≤ fr ∧ 8 + (4 + 11) + 21 ≤ lo) (hw : (st.map fun v => v.category).sum ≤ 8) (d : decode cc pc = .ok (.invokevirtual 217, 3)) (h : ∀ r M', P r M' → V κ idsC nL M' l (r.toList ++ st) (pc + 3)) : V κ idsC nL M l (.int a1 :: .int a0 :: .ref (κ.E.ad (1, f, 0)) :: st) pc := s_callV (n := 2) G c (mC1 hf) rfl rfl (by decide +kernel) (by decide +kernel) (by decide +kernel) (by decide +kernel) (by decide +kernel) (by decide +kernel) hr rfl hw d rfl h
theorem iX2_220 (G : Good κ idsC cc nL RX2 fr lo) {f b : Nat} (hf : f < 2) (hb : b < 12) {P : Option Value → Mem → Prop} (c : Ret κ.E idsC yX3_rest cX3_rest 1 none 1 21 [.ref (κ.E.ad (3, f, b))] M P) (hr : 1 + 1 ≤ fr ∧ 8 + (1 + 11) + 21 ≤ lo) (hw : (st.map fun v => v.category).sum ≤ 8) (d : decode cc pc = .ok (.invokevirtual 220, 3)) (h : ∀ r M', P r M' → V κ idsC nL M' l (r.toList ++ st) (pc + 3)) : V κ idsC nL M l (.ref (κ.E.ad (3, f, b)) :: st) pc := s_callV (n := 0) G c (mC3 hf hb) rfl rfl (by decide +kernel) (by decide +kernel) (by decide +kernel) (by decide +kernel) (by decide +kernel) (by decide +kernel) hr rfl hw d rfl h
theorem iX2_226 (G : Good κ idsC cc nL RX2 fr lo) {f : Nat} (hf : f < 2) {a0 : Int32} {P : Option Value → Mem → Prop} (c : Ret κ.E idsC yX2_rewardLine cX2_rewardLine 3 none 1 21 [.ref (κ.E.ad (1, f, 0)), .int a0] M P) (hr : 1 + 1 ≤ fr ∧ 8 + (3 + 11) + 21 ≤ lo) (hw : (st.map fun v => v.category).sum ≤ 8) (d : decode cc pc = .ok (.invokevirtual 226, 3)) (h : ∀ r M', P r M' → V κ idsC nL M' l (r.toList ++ st) (pc + 3)) : V κ idsC nL M l (.int a0 :: .ref (κ.E.ad (1, f, 0)) :: st) pc := s_callV (n := 1) G c (mC1 hf) rfl rfl (by decide +kernel) (by decide +kernel) (by decide +kernel) (by decide +kernel) (by decide +kernel) (by decide +kernel) hr rfl hw d rfl h
theorem iX2_234 (G : Good κ idsC cc nL RX2 fr lo) {f : Nat} (hf : f < 2) {P : Option Value → Mem → Prop} (c : Ret κ.E idsC yX2_openBooths cX2_openBooths 3 (some .int) 1 20 [.ref (κ.E.ad (1, f, 0))] M P) (hr : 1 + 1 ≤ fr ∧ 8 + (3 + 11) + 20 ≤ lo) (hw : (st.map fun v => v.category).sum ≤ 8) (d : decode cc pc = .ok (.invokevirtual 234, 3)) (h : ∀ r M', P r M' → V κ idsC nL M' l (r.toList ++ st) (pc + 3)) : V κ idsC nL M l (.ref (κ.E.ad (1, f, 0)) :: st) pc := s_callV (n := 0) G c (mC1 hf) rfl rfl (by decide +kernel) (by decide +kernel) (by decide +kernel) (by decide +kernel) (by decide +kernel) (by decide +kernel) hr rfl hw d rfl h
theorem iX2_238 (G : Good κ idsC cc nL RX2 fr lo) {f : Nat} (hf : f < 2) {a0 : Int32} {P : Option Value → Mem → Prop} (c : Ret κ.E idsC yX2_visitorsIn cX2_visitorsIn 4 (some .int) 1 20 [.ref (κ.E.ad (1, f, 0)), .int a0] M P) (hr : 1 + 1 ≤ fr ∧ 8 + (4 + 11) + 20 ≤ lo) (hw : (st.map fun v => v.category).sum ≤ 8) (d : decode cc pc = .ok (.invokevirtual 238, 3)) (h : ∀ r M', P r M' → V κ idsC nL M' l (r.toList ++ st) (pc + 3)) : V κ idsC nL M l (.int a0 :: .ref (κ.E.ad (1, f, 0)) :: st) pc := s_callV (n := 1) G c (mC1 hf) rfl rfl (by decide +kernel) (by decide +kernel) (by decide +kernel) (by decide +kernel) (by decide +kernel) (by decide +kernel) hr rfl hw d rfl h
theorem iX2_241 (G : Good κ idsC cc nL RX2 fr lo) {f : Nat} (hf : f < 2) {P : Option Value → Mem → Prop} (c : Ret κ.E idsC yX2_prizesLeft cX2_prizesLeft 3 (some .int) 0 0 [.ref (κ.E.ad (1, f, 0))] M P) (hr : 0 + 1 ≤ fr ∧ 8 + (3 + 11) + 0 ≤ lo) (hw : (st.map fun v => v.category).sum ≤ 8) (d : decode cc pc = .ok (.invokevirtual 241, 3)) (h : ∀ r M', P r M' → V κ idsC nL M' l (r.toList ++ st) (pc + 3)) : V κ idsC nL M l (.ref (κ.E.ad (1, f, 0)) :: st) pc := s_callV (n := 0) G c (mC1 hf) rfl rfl (by decide +kernel) (by decide +kernel) (by decide +kernel) (by decide +kernel) (by decide +kernel) (by decide +kernel) hr rfl hw d rfl h
theorem iX2_244 (G : Good κ idsC cc nL RX2 fr lo) {f b : Nat} (hf : f < 2) (hb : b < 16) {P : Option Value → Mem → Prop} (c : Ret κ.E idsC yX4_state cX4_state 1 (some .int) 0 0 [.ref (κ.E.ad (4, f, b))] M P) (hr : 0 + 1 ≤ fr ∧ 8 + (1 + 11) + 0 ≤ lo) (hw : (st.map fun v => v.category).sum ≤ 8) (d : decode cc pc = .ok (.invokevirtual 244, 3)) (h : ∀ r M', P r M' → V κ idsC nL M' l (r.toList ++ st) (pc + 3)) : V κ idsC nL M l (.ref (κ.E.ad (4, f, b)) :: st) pc := s_callV (n := 0) G c (mC4 hf hb) rfl rfl (by decide +kernel) (by decide +kernel) (by decide +kernel) (by decide +kernel) (by decide +kernel) (by decide +kernel) hr rfl hw d rfl h
theorem iX3_21 (G : Good κ idsC cc nL RX3 fr lo) {x y : Int32} (d : decode cc pc = .ok (.invokestatic 21, 3)) (hf : 1 ≤ fr) (hlo : (st.map fun v => v.category).sum + 13 ≤ lo) (h : V κ idsC nL M l (.int (if y < x then y else x) :: st) (pc + 3)) : V κ idsC nL M l (.int y :: .int x :: st) pc := s_mmin G d (by decide +kernel) hf hlo h
theorem iX4_41 (G : Good κ idsC cc nL RX4 fr lo) {f b : Nat} (hf : f < 2) (hb : b < 16) {P : Option Value → Mem → Prop} (c : Ret κ.E idsC yX4_state cX4_state 1 (some .int) 0 0 [.ref (κ.E.ad (4, f, b))] M P) (hr : 0 + 1 ≤ fr ∧ 8 + (1 + 11) + 0 ≤ lo) (hw : (st.map fun v => v.category).sum ≤ 8) (d : decode cc pc = .ok (.invokevirtual 41, 3)) (h : ∀ r M', P r M' → V κ idsC nL M' l (r.toList ++ st) (pc + 3)) : V κ idsC nL M l (.ref (κ.E.ad (4, f, b)) :: st) pc := s_callV (n := 0) G c (mC4 hf hb) rfl rfl (by decide +kernel) (by decide +kernel) (by decide +kernel) (by decide +kernel) (by decide +kernel) (by decide +kernel) hr rfl hw d rfl h
theorem iX5_19 (G : Good κ idsC cc nL RX5 fr lo) {a0 : Int32} {a1 : Int32} {a2 : Int32} {P : Option Value → Mem → Prop} (c : Ret κ.E idsC yX5_requireRange cX5_requireRange 3 none 0 0 [.int a0, .int a1, .int a2] M P) (hr : 0 + 1 ≤ fr ∧ 8 + (3 + 11) + 0 ≤ lo) (hw : (st.map fun v => v.category).sum ≤ 8) (d : decode cc pc = .ok (.invokestatic 19, 3)) (h : ∀ r M', P r M' → V κ idsC nL M' l (r.toList ++ st) (pc + 3)) : V κ idsC nL M l (.int a2 :: .int a1 :: .int a0 :: st) pc := s_callS (n := 3) G c (by decide +kernel) (by decide +kernel) (by decide +kernel) (by decide +kernel) (by decide +kernel) hr rfl hw d rfl h
theorem iX5_23 (G : Good κ idsC cc nL RX5 fr lo) {f : Nat} (hf : f < 2) {a0 : Int32} {a1 : Int32} {a2 : Int32} {a3 : Int32} {P : Option Value → Mem → Prop} (c : Ret κ.E idsC yX2_setUpBooth cX2_setUpBooth 5 (some .int) 1 24 [.ref (κ.E.ad (1, f, 0)), .int a0, .int a1, .int a2, .int a3] M P) (hr : 1 + 1 ≤ fr ∧ 8 + (5 + 11) + 24 ≤ lo) (hw : (st.map fun v => v.category).sum ≤ 8) (d : decode cc pc = .ok (.invokevirtual 23, 3)) (h : ∀ r M', P r M' → V κ idsC nL M' l (r.toList ++ st) (pc + 3)) : V κ idsC nL M l (.int a3 :: .int a2 :: .int a1 :: .int a0 :: .ref (κ.E.ad (1, f, 0)) :: st) pc := s_callV (n := 4) G c (mC1 hf) rfl rfl (by decide +kernel) (by decide +kernel) (by decide +kernel) (by decide +kernel) (by decide +kernel) (by decide +kernel) hr rfl hw d rfl h
theorem iX5_34 (G : Good κ idsC cc nL RX5 fr lo) {f : Nat} (hf : f < 2) {P : Option Value → Mem → Prop} (c : Ret κ.E idsC yX2_takeOnHelper cX2_takeOnHelper 1 (some .int) 1 20 [.ref (κ.E.ad (1, f, 0))] M P) (hr : 1 + 1 ≤ fr ∧ 8 + (1 + 11) + 20 ≤ lo) (hw : (st.map fun v => v.category).sum ≤ 8) (d : decode cc pc = .ok (.invokevirtual 34, 3)) (h : ∀ r M', P r M' → V κ idsC nL M' l (r.toList ++ st) (pc + 3)) : V κ idsC nL M l (.ref (κ.E.ad (1, f, 0)) :: st) pc := s_callV (n := 0) G c (mC1 hf) rfl rfl (by decide +kernel) (by decide +kernel) (by decide +kernel) (by decide +kernel) (by decide +kernel) (by decide +kernel) hr rfl hw d rfl h
theorem iX5_40 (G : Good κ idsC cc nL RX5 fr lo) {f : Nat} (hf : f < 2) {a0 : Int32} {a1 : Int32} {P : Option Value → Mem → Prop} (c : Ret κ.E idsC yX2_letIn cX2_letIn 3 (some .int) 1 22 [.ref (κ.E.ad (1, f, 0)), .int a0, .int a1] M P) (hr : 1 + 1 ≤ fr ∧ 8 + (3 + 11) + 22 ≤ lo) (hw : (st.map fun v => v.category).sum ≤ 8) (d : decode cc pc = .ok (.invokevirtual 40, 3)) (h : ∀ r M', P r M' → V κ idsC nL M' l (r.toList ++ st) (pc + 3)) : V κ idsC nL M l (.int a1 :: .int a0 :: .ref (κ.E.ad (1, f, 0)) :: st) pc := s_callV (n := 2) G c (mC1 hf) rfl rfl (by decide +kernel) (by decide +kernel) (by decide +kernel) (by decide +kernel) (by decide +kernel) (by decide +kernel) hr rfl hw d rfl h
theorem iX5_51 (G : Good κ idsC cc nL RX5 fr lo)  {a0 : Int32} {P : Option Value → Mem → Prop} (c : Ret κ.E idsC yX5_requireHelper cX5_requireHelper 2 none 1 21 [.ref (κ.E.ad (0, 0, 0)), .int a0] M P) (hr : 1 + 1 ≤ fr ∧ 8 + (2 + 11) + 21 ≤ lo) (hw : (st.map fun v => v.category).sum ≤ 8) (d : decode cc pc = .ok (.invokevirtual 51, 3)) (h : ∀ r M', P r M' → V κ idsC nL M' l (r.toList ++ st) (pc + 3)) : V κ idsC nL M l (.int a0 :: .ref (κ.E.ad (0, 0, 0)) :: st) pc := s_callV (n := 1) G c (mC0) rfl rfl (by decide +kernel) (by decide +kernel) (by decide +kernel) (by decide +kernel) (by decide +kernel) (by decide +kernel) hr rfl hw d rfl h
theorem iX5_55 (G : Good κ idsC cc nL RX5 fr lo)  {a0 : Int32} {P : Option Value → Mem → Prop} (c : Ret κ.E idsC yX5_requireBooth cX5_requireBooth 2 none 1 21 [.ref (κ.E.ad (0, 0, 0)), .int a0] M P) (hr : 1 + 1 ≤ fr ∧ 8 + (2 + 11) + 21 ≤ lo) (hw : (st.map fun v => v.category).sum ≤ 8) (d : decode cc pc = .ok (.invokevirtual 55, 3)) (h : ∀ r M', P r M' → V κ idsC nL M' l (r.toList ++ st) (pc + 3)) : V κ idsC nL M l (.int a0 :: .ref (κ.E.ad (0, 0, 0)) :: st) pc := s_callV (n := 1) G c (mC0) rfl rfl (by decide +kernel) (by decide +kernel) (by decide +kernel) (by decide +kernel) (by decide +kernel) (by decide +kernel) hr rfl hw d rfl h
theorem iX5_67 (G : Good κ idsC cc nL RX5 fr lo) {f : Nat} (hf : f < 2) {a0 : Int32} {a1 : Int32} {P : Option Value → Mem → Prop} (c : Ret κ.E idsC yX2_send cX2_send 4 none 1 21 [.ref (κ.E.ad (1, f, 0)), .int a0, .int a1] M P) (hr : 1 + 1 ≤ fr ∧ 8 + (4 + 11) + 21 ≤ lo) (hw : (st.map fun v => v.category).sum ≤ 8) (d : decode cc pc = .ok (.invokevirtual 67, 3)) (h : ∀ r M', P r M' → V κ idsC nL M' l (r.toList ++ st) (pc + 3)) : V κ idsC nL M l (.int a1 :: .int a0 :: .ref (κ.E.ad (1, f, 0)) :: st) pc := s_callV (n := 2) G c (mC1 hf) rfl rfl (by decide +kernel) (by decide +kernel) (by decide +kernel) (by decide +kernel) (by decide +kernel) (by decide +kernel) hr rfl hw d rfl h
theorem iX5_82 (G : Good κ idsC cc nL RX5 fr lo)  {a0 : Int32} {P : Option Value → Mem → Prop} (c : Ret κ.E idsC yX5_requireVisitor cX5_requireVisitor 2 none 1 21 [.ref (κ.E.ad (0, 0, 0)), .int a0] M P) (hr : 1 + 1 ≤ fr ∧ 8 + (2 + 11) + 21 ≤ lo) (hw : (st.map fun v => v.category).sum ≤ 8) (d : decode cc pc = .ok (.invokevirtual 82, 3)) (h : ∀ r M', P r M' → V κ idsC nL M' l (r.toList ++ st) (pc + 3)) : V κ idsC nL M l (.int a0 :: .ref (κ.E.ad (0, 0, 0)) :: st) pc := s_callV (n := 1) G c (mC0) rfl rfl (by decide +kernel) (by decide +kernel) (by decide +kernel) (by decide +kernel) (by decide +kernel) (by decide +kernel) hr rfl hw d rfl h
theorem iX5_98 (G : Good κ idsC cc nL RX5 fr lo) {f : Nat} (hf : f < 2) {a0 : Int32} {P : Option Value → Mem → Prop} (c : Ret κ.E idsC yX2_takeFromQueue cX2_takeFromQueue 4 (some .int) 1 23 [.ref (κ.E.ad (1, f, 0)), .int a0] M P) (hr : 1 + 1 ≤ fr ∧ 8 + (4 + 11) + 23 ≤ lo) (hw : (st.map fun v => v.category).sum ≤ 8) (d : decode cc pc = .ok (.invokevirtual 98, 3)) (h : ∀ r M', P r M' → V κ idsC nL M' l (r.toList ++ st) (pc + 3)) : V κ idsC nL M l (.int a0 :: .ref (κ.E.ad (1, f, 0)) :: st) pc := s_callV (n := 1) G c (mC1 hf) rfl rfl (by decide +kernel) (by decide +kernel) (by decide +kernel) (by decide +kernel) (by decide +kernel) (by decide +kernel) hr rfl hw d rfl h
theorem iX5_102 (G : Good κ idsC cc nL RX5 fr lo) {a0 : Int32} {a1 : Int32} {P : Option Value → Mem → Prop} (c : Ret κ.E idsC yX5_requireFact cX5_requireFact 2 none 0 0 [.int a0, .int a1] M P) (hr : 0 + 1 ≤ fr ∧ 8 + (2 + 11) + 0 ≤ lo) (hw : (st.map fun v => v.category).sum ≤ 8) (d : decode cc pc = .ok (.invokestatic 102, 3)) (h : ∀ r M', P r M' → V κ idsC nL M' l (r.toList ++ st) (pc + 3)) : V κ idsC nL M l (.int a1 :: .int a0 :: st) pc := s_callS (n := 2) G c (by decide +kernel) (by decide +kernel) (by decide +kernel) (by decide +kernel) (by decide +kernel) hr rfl hw d rfl h
theorem iX5_105 (G : Good κ idsC cc nL RX5 fr lo) {f : Nat} (hf : f < 2) {a0 : Int32} {a1 : Int32} {P : Option Value → Mem → Prop} (c : Ret κ.E idsC yX2_boothFact cX2_boothFact 4 (some .int) 1 21 [.ref (κ.E.ad (1, f, 0)), .int a0, .int a1] M P) (hr : 1 + 1 ≤ fr ∧ 8 + (4 + 11) + 21 ≤ lo) (hw : (st.map fun v => v.category).sum ≤ 8) (d : decode cc pc = .ok (.invokevirtual 105, 3)) (h : ∀ r M', P r M' → V κ idsC nL M' l (r.toList ++ st) (pc + 3)) : V κ idsC nL M l (.int a1 :: .int a0 :: .ref (κ.E.ad (1, f, 0)) :: st) pc := s_callV (n := 2) G c (mC1 hf) rfl rfl (by decide +kernel) (by decide +kernel) (by decide +kernel) (by decide +kernel) (by decide +kernel) (by decide +kernel) hr rfl hw d rfl h
theorem iX5_120 (G : Good κ idsC cc nL RX5 fr lo) {f b : Nat} (hf : f < 2) (hb : b < 12) {a0 : Int32} {P : Option Value → Mem → Prop} (c : Ret κ.E idsC yX3_fact cX3_fact 2 (some .int) 0 0 [.ref (κ.E.ad (3, f, b)), .int a0] M P) (hr : 0 + 1 ≤ fr ∧ 8 + (2 + 11) + 0 ≤ lo) (hw : (st.map fun v => v.category).sum ≤ 8) (d : decode cc pc = .ok (.invokevirtual 120, 3)) (h : ∀ r M', P r M' → V κ idsC nL M' l (r.toList ++ st) (pc + 3)) : V κ idsC nL M l (.int a0 :: .ref (κ.E.ad (3, f, b)) :: st) pc := s_callV (n := 1) G c (mC3 hf hb) rfl rfl (by decide +kernel) (by decide +kernel) (by decide +kernel) (by decide +kernel) (by decide +kernel) (by decide +kernel) hr rfl hw d rfl h
theorem iX5_123 (G : Good κ idsC cc nL RX5 fr lo) {f b : Nat} (hf : f < 2) (hb : b < 16) {a0 : Int32} {P : Option Value → Mem → Prop} (c : Ret κ.E idsC yX4_fact cX4_fact 2 (some .int) 1 20 [.ref (κ.E.ad (4, f, b)), .int a0] M P) (hr : 1 + 1 ≤ fr ∧ 8 + (2 + 11) + 20 ≤ lo) (hw : (st.map fun v => v.category).sum ≤ 8) (d : decode cc pc = .ok (.invokevirtual 123, 3)) (h : ∀ r M', P r M' → V κ idsC nL M' l (r.toList ++ st) (pc + 3)) : V κ idsC nL M l (.int a0 :: .ref (κ.E.ad (4, f, b)) :: st) pc := s_callV (n := 1) G c (mC4 hf hb) rfl rfl (by decide +kernel) (by decide +kernel) (by decide +kernel) (by decide +kernel) (by decide +kernel) (by decide +kernel) hr rfl hw d rfl h
theorem iX5_138 (G : Good κ idsC cc nL RX5 fr lo) {f : Nat} (hf : f < 2) {a0 : Int32} {a1 : Int32} {P : Option Value → Mem → Prop} (c : Ret κ.E idsC yX1_fact cX1_fact 3 (some .int) 0 0 [.ref (κ.E.ad (5, f, 0)), .int a0, .int a1] M P) (hr : 0 + 1 ≤ fr ∧ 8 + (3 + 11) + 0 ≤ lo) (hw : (st.map fun v => v.category).sum ≤ 8) (d : decode cc pc = .ok (.invokevirtual 138, 3)) (h : ∀ r M', P r M' → V κ idsC nL M' l (r.toList ++ st) (pc + 3)) : V κ idsC nL M l (.int a1 :: .int a0 :: .ref (κ.E.ad (5, f, 0)) :: st) pc := s_callV (n := 2) G c (mC5 hf) rfl rfl (by decide +kernel) (by decide +kernel) (by decide +kernel) (by decide +kernel) (by decide +kernel) (by decide +kernel) hr rfl hw d rfl h
theorem iX5_140 (G : Good κ idsC cc nL RX5 fr lo) {f : Nat} (hf : f < 2) {a0 : Int32} {P : Option Value → Mem → Prop} (c : Ret κ.E idsC yX2_goOn cX2_goOn 4 (some .int) 5 118 [.ref (κ.E.ad (1, f, 0)), .int a0] M P) (hr : 5 + 1 ≤ fr ∧ 8 + (4 + 11) + 118 ≤ lo) (hw : (st.map fun v => v.category).sum ≤ 8) (d : decode cc pc = .ok (.invokevirtual 140, 3)) (h : ∀ r M', P r M' → V κ idsC nL M' l (r.toList ++ st) (pc + 3)) : V κ idsC nL M l (.int a0 :: .ref (κ.E.ad (1, f, 0)) :: st) pc := s_callV (n := 1) G c (mC1 hf) rfl rfl (by decide +kernel) (by decide +kernel) (by decide +kernel) (by decide +kernel) (by decide +kernel) (by decide +kernel) hr rfl hw d rfl h
theorem iX5_143 (G : Good κ idsC cc nL RX5 fr lo) {f : Nat} (hf : f < 2) {a0 : Int32} {P : Option Value → Mem → Prop} (c : Ret κ.E idsC yX2_total cX2_total 2 (some .int) 2 43 [.ref (κ.E.ad (1, f, 0)), .int a0] M P) (hr : 2 + 1 ≤ fr ∧ 8 + (2 + 11) + 43 ≤ lo) (hw : (st.map fun v => v.category).sum ≤ 8) (d : decode cc pc = .ok (.invokevirtual 143, 3)) (h : ∀ r M', P r M' → V κ idsC nL M' l (r.toList ++ st) (pc + 3)) : V κ idsC nL M l (.int a0 :: .ref (κ.E.ad (1, f, 0)) :: st) pc := s_callV (n := 1) G c (mC1 hf) rfl rfl (by decide +kernel) (by decide +kernel) (by decide +kernel) (by decide +kernel) (by decide +kernel) (by decide +kernel) hr rfl hw d rfl h
theorem iX5_146 (G : Good κ idsC cc nL RX5 fr lo) {f : Nat} (hf : f < 2) {r0 : Pid} {P : Option Value → Mem → Prop} (c : Ret κ.E idsC yX2_copyFrom cX2_copyFrom 3 none 1 22 [.ref (κ.E.ad (1, f, 0)), .ref (κ.E.ad r0)] M P) (hr : 1 + 1 ≤ fr ∧ 8 + (3 + 11) + 22 ≤ lo) (hw : (st.map fun v => v.category).sum ≤ 8) (d : decode cc pc = .ok (.invokevirtual 146, 3)) (h : ∀ r M', P r M' → V κ idsC nL M' l (r.toList ++ st) (pc + 3)) : V κ idsC nL M l (.ref (κ.E.ad r0) :: .ref (κ.E.ad (1, f, 0)) :: st) pc := s_callV (n := 1) G c (mC1 hf) rfl rfl (by decide +kernel) (by decide +kernel) (by decide +kernel) (by decide +kernel) (by decide +kernel) (by decide +kernel) hr rfl hw d rfl h
theorem iX5_150 (G : Good κ idsC cc nL RX5 fr lo) {f b : Nat} (hf : f < 2) (hb : b < 16) {a0 : Int32} {P : Option Value → Mem → Prop} (c : Ret κ.E idsC yX4_foreseenFact cX4_foreseenFact 2 (some .int) 0 0 [.ref (κ.E.ad (4, f, b)), .int a0] M P) (hr : 0 + 1 ≤ fr ∧ 8 + (2 + 11) + 0 ≤ lo) (hw : (st.map fun v => v.category).sum ≤ 8) (d : decode cc pc = .ok (.invokevirtual 150, 3)) (h : ∀ r M', P r M' → V κ idsC nL M' l (r.toList ++ st) (pc + 3)) : V κ idsC nL M l (.int a0 :: .ref (κ.E.ad (4, f, b)) :: st) pc := s_callV (n := 1) G c (mC4 hf hb) rfl rfl (by decide +kernel) (by decide +kernel) (by decide +kernel) (by decide +kernel) (by decide +kernel) (by decide +kernel) hr rfl hw d rfl h
theorem iX5_153 (G : Good κ idsC cc nL RX5 fr lo) {f b : Nat} (hf : f < 2) (hb : b < 8) {P : Option Value → Mem → Prop} (c : Ret κ.E idsC yX0_isOpen cX0_isOpen 1 (some .boolean) 0 0 [.ref (κ.E.ad (2, f, b))] M P) (hr : 0 + 1 ≤ fr ∧ 8 + (1 + 11) + 0 ≤ lo) (hw : (st.map fun v => v.category).sum ≤ 8) (d : decode cc pc = .ok (.invokevirtual 153, 3)) (h : ∀ r M', P r M' → V κ idsC nL M' l (r.toList ++ st) (pc + 3)) : V κ idsC nL M l (.ref (κ.E.ad (2, f, b)) :: st) pc := s_callV (n := 0) G c (mC2 hf hb) rfl rfl (by decide +kernel) (by decide +kernel) (by decide +kernel) (by decide +kernel) (by decide +kernel) (by decide +kernel) hr rfl hw d rfl h
theorem iX5_157 (G : Good κ idsC cc nL RX5 fr lo) {f : Nat} (hf : f < 2) {P : Option Value → Mem → Prop} (c : Ret κ.E idsC yX2_playRound cX2_playRound 2 none 4 97 [.ref (κ.E.ad (1, f, 0))] M P) (hr : 4 + 1 ≤ fr ∧ 8 + (2 + 11) + 97 ≤ lo) (hw : (st.map fun v => v.category).sum ≤ 8) (d : decode cc pc = .ok (.invokevirtual 157, 3)) (h : ∀ r M', P r M' → V κ idsC nL M' l (r.toList ++ st) (pc + 3)) : V κ idsC nL M l (.ref (κ.E.ad (1, f, 0)) :: st) pc := s_callV (n := 0) G c (mC1 hf) rfl rfl (by decide +kernel) (by decide +kernel) (by decide +kernel) (by decide +kernel) (by decide +kernel) (by decide +kernel) hr rfl hw d rfl h
theorem iX5_160 (G : Good κ idsC cc nL RX5 fr lo)  {a0 : Int32} {a1 : Int32} {a2 : Int32} {P : Option Value → Mem → Prop} (c : Ret κ.E idsC yX5_prizesWonWith cX5_prizesWonWith 4 (some .int) 6 141 [.ref (κ.E.ad (0, 0, 0)), .int a0, .int a1, .int a2] M P) (hr : 6 + 1 ≤ fr ∧ 8 + (4 + 11) + 141 ≤ lo) (hw : (st.map fun v => v.category).sum ≤ 8) (d : decode cc pc = .ok (.invokevirtual 160, 3)) (h : ∀ r M', P r M' → V κ idsC nL M' l (r.toList ++ st) (pc + 3)) : V κ idsC nL M l (.int a2 :: .int a1 :: .int a0 :: .ref (κ.E.ad (0, 0, 0)) :: st) pc := s_callV (n := 3) G c (mC0) rfl rfl (by decide +kernel) (by decide +kernel) (by decide +kernel) (by decide +kernel) (by decide +kernel) (by decide +kernel) hr rfl hw d rfl h
theorem iX5_167 (G : Good κ idsC cc nL RX5 fr lo) {f : Nat} (hf : f < 2) {P : Option Value → Mem → Prop} (c : Ret κ.E idsC yX2_allPlays cX2_allPlays 3 (some .int) 0 0 [.ref (κ.E.ad (1, f, 0))] M P) (hr : 0 + 1 ≤ fr ∧ 8 + (3 + 11) + 0 ≤ lo) (hw : (st.map fun v => v.category).sum ≤ 8) (d : decode cc pc = .ok (.invokevirtual 167, 3)) (h : ∀ r M', P r M' → V κ idsC nL M' l (r.toList ++ st) (pc + 3)) : V κ idsC nL M l (.ref (κ.E.ad (1, f, 0)) :: st) pc := s_callV (n := 0) G c (mC1 hf) rfl rfl (by decide +kernel) (by decide +kernel) (by decide +kernel) (by decide +kernel) (by decide +kernel) (by decide +kernel) hr rfl hw d rfl h
theorem iX5_175 (G : Good κ idsC cc nL RX5 fr lo) {a0 : Int64} {a1 : Int32} {P : Option Value → Mem → Prop} (c : Ret κ.E idsC yX5_mixed cX5_mixed 3 (some .long) 0 0 [.long a0, .int a1] M P) (hr : 0 + 1 ≤ fr ∧ 8 + (3 + 11) + 0 ≤ lo) (hw : (st.map fun v => v.category).sum ≤ 8) (d : decode cc pc = .ok (.invokestatic 175, 3)) (h : ∀ r M', P r M' → V κ idsC nL M' l (r.toList ++ st) (pc + 3)) : V κ idsC nL M l (.int a1 :: .long a0 :: st) pc := s_callS (n := 2) G c (by decide +kernel) (by decide +kernel) (by decide +kernel) (by decide +kernel) (by decide +kernel) hr rfl hw d rfl h
theorem iX5_179 (G : Good κ idsC cc nL RX5 fr lo)  {a0 : Int64} {a1 : Int32} {P : Option Value → Mem → Prop} (c : Ret κ.E idsC yX5_withBooth cX5_withBooth 8 (some .long) 2 44 [.ref (κ.E.ad (0, 0, 0)), .long a0, .int a1] M P) (hr : 2 + 1 ≤ fr ∧ 8 + (8 + 11) + 44 ≤ lo) (hw : (st.map fun v => v.category).sum ≤ 8) (d : decode cc pc = .ok (.invokevirtual 179, 3)) (h : ∀ r M', P r M' → V κ idsC nL M' l (r.toList ++ st) (pc + 3)) : V κ idsC nL M l (.int a1 :: .long a0 :: .ref (κ.E.ad (0, 0, 0)) :: st) pc := s_callV (n := 2) G c (mC0) rfl rfl (by decide +kernel) (by decide +kernel) (by decide +kernel) (by decide +kernel) (by decide +kernel) (by decide +kernel) hr rfl hw d rfl h
theorem iX5_188 (G : Good κ idsC cc nL RX5 fr lo)  {a0 : Int64} {r1 : Pid} {P : Option Value → Mem → Prop} (c : Ret κ.E idsC yX5_withVisitor cX5_withVisitor 7 (some .long) 2 41 [.ref (κ.E.ad (0, 0, 0)), .long a0, .ref (κ.E.ad r1)] M P) (hr : 2 + 1 ≤ fr ∧ 8 + (7 + 11) + 41 ≤ lo) (hw : (st.map fun v => v.category).sum ≤ 8) (d : decode cc pc = .ok (.invokevirtual 188, 3)) (h : ∀ r M', P r M' → V κ idsC nL M' l (r.toList ++ st) (pc + 3)) : V κ idsC nL M l (.ref (κ.E.ad r1) :: .long a0 :: .ref (κ.E.ad (0, 0, 0)) :: st) pc := s_callV (n := 2) G c (mC0) rfl rfl (by decide +kernel) (by decide +kernel) (by decide +kernel) (by decide +kernel) (by decide +kernel) (by decide +kernel) hr rfl hw d rfl h
theorem iX5_194 (G : Good κ idsC cc nL RX5 fr lo) {f : Nat} (hf : f < 2) {a0 : Int32} {P : Option Value → Mem → Prop} (c : Ret κ.E idsC yX2_isBooth cX2_isBooth 2 (some .boolean) 0 0 [.ref (κ.E.ad (1, f, 0)), .int a0] M P) (hr : 0 + 1 ≤ fr ∧ 8 + (2 + 11) + 0 ≤ lo) (hw : (st.map fun v => v.category).sum ≤ 8) (d : decode cc pc = .ok (.invokevirtual 194, 3)) (h : ∀ r M', P r M' → V κ idsC nL M' l (r.toList ++ st) (pc + 3)) : V κ idsC nL M l (.int a0 :: .ref (κ.E.ad (1, f, 0)) :: st) pc := s_callV (n := 1) G c (mC1 hf) rfl rfl (by decide +kernel) (by decide +kernel) (by decide +kernel) (by decide +kernel) (by decide +kernel) (by decide +kernel) hr rfl hw d rfl h
theorem iX5_200 (G : Good κ idsC cc nL RX5 fr lo) {f : Nat} (hf : f < 2) {a0 : Int32} {P : Option Value → Mem → Prop} (c : Ret κ.E idsC yX2_isHelper cX2_isHelper 2 (some .boolean) 0 0 [.ref (κ.E.ad (1, f, 0)), .int a0] M P) (hr : 0 + 1 ≤ fr ∧ 8 + (2 + 11) + 0 ≤ lo) (hw : (st.map fun v => v.category).sum ≤ 8) (d : decode cc pc = .ok (.invokevirtual 200, 3)) (h : ∀ r M', P r M' → V κ idsC nL M' l (r.toList ++ st) (pc + 3)) : V κ idsC nL M l (.int a0 :: .ref (κ.E.ad (1, f, 0)) :: st) pc := s_callV (n := 1) G c (mC1 hf) rfl rfl (by decide +kernel) (by decide +kernel) (by decide +kernel) (by decide +kernel) (by decide +kernel) (by decide +kernel) hr rfl hw d rfl h
theorem iX5_205 (G : Good κ idsC cc nL RX5 fr lo) {f : Nat} (hf : f < 2) {a0 : Int32} {P : Option Value → Mem → Prop} (c : Ret κ.E idsC yX2_isVisitor cX2_isVisitor 2 (some .boolean) 0 0 [.ref (κ.E.ad (1, f, 0)), .int a0] M P) (hr : 0 + 1 ≤ fr ∧ 8 + (2 + 11) + 0 ≤ lo) (hw : (st.map fun v => v.category).sum ≤ 8) (d : decode cc pc = .ok (.invokevirtual 205, 3)) (h : ∀ r M', P r M' → V κ idsC nL M' l (r.toList ++ st) (pc + 3)) : V κ idsC nL M l (.int a0 :: .ref (κ.E.ad (1, f, 0)) :: st) pc := s_callV (n := 1) G c (mC1 hf) rfl rfl (by decide +kernel) (by decide +kernel) (by decide +kernel) (by decide +kernel) (by decide +kernel) (by decide +kernel) hr rfl hw d rfl h
theorem iX6_35 (G : Good κ idsR cc nL RX6 fr lo) {a0 : Int32} {a1 : Int32} {a2 : Int32} {P : Option Value → Mem → Prop} (c : Ret κ.E idsR yX6_isIn cX6_isIn 3 (some .boolean) 0 0 [.int a0, .int a1, .int a2] M P) (hr : 0 + 1 ≤ fr ∧ 8 + (3 + 11) + 0 ≤ lo) (hw : (st.map fun v => v.category).sum ≤ 8) (d : decode cc pc = .ok (.invokestatic 35, 3)) (h : ∀ r M', P r M' → V κ idsR nL M' l (r.toList ++ st) (pc + 3)) : V κ idsR nL M l (.int a2 :: .int a1 :: .int a0 :: st) pc := s_callS (n := 3) G c (by decide +kernel) (by decide +kernel) (by decide +kernel) (by decide +kernel) (by decide +kernel) hr rfl hw d rfl h
theorem iX6_45 (G : Good κ idsR cc nL RX6 fr lo)  {a0 : Int32} {P : Option Value → Mem → Prop} (c : Ret κ.E idsR yX6_fail cX6_fail 2 (some .int) 0 0 [.ref (κ.E.ad (14, 0, 0)), .int a0] M P) (hr : 0 + 1 ≤ fr ∧ 8 + (2 + 11) + 0 ≤ lo) (hw : (st.map fun v => v.category).sum ≤ 8) (d : decode cc pc = .ok (.invokevirtual 45, 3)) (h : ∀ r M', P r M' → V κ idsR nL M' l (r.toList ++ st) (pc + 3)) : V κ idsR nL M l (.int a0 :: .ref (κ.E.ad (14, 0, 0)) :: st) pc := s_callV (n := 1) G c (mR14) rfl rfl (by decide +kernel) (by decide +kernel) (by decide +kernel) (by decide +kernel) (by decide +kernel) (by decide +kernel) hr rfl hw d rfl h
theorem iX6_56 (G : Good κ idsR cc nL RX6 fr lo)  {a0 : Int32} {P : Option Value → Mem → Prop} (c : Ret κ.E idsR yX6_isHelper cX6_isHelper 2 (some .boolean) 1 22 [.ref (κ.E.ad (14, 0, 0)), .int a0] M P) (hr : 1 + 1 ≤ fr ∧ 8 + (2 + 11) + 22 ≤ lo) (hw : (st.map fun v => v.category).sum ≤ 8) (d : decode cc pc = .ok (.invokevirtual 56, 3)) (h : ∀ r M', P r M' → V κ idsR nL M' l (r.toList ++ st) (pc + 3)) : V κ idsR nL M l (.int a0 :: .ref (κ.E.ad (14, 0, 0)) :: st) pc := s_callV (n := 1) G c (mR14) rfl rfl (by decide +kernel) (by decide +kernel) (by decide +kernel) (by decide +kernel) (by decide +kernel) (by decide +kernel) hr rfl hw d rfl h
theorem iX6_60 (G : Good κ idsR cc nL RX6 fr lo)  {a0 : Int32} {P : Option Value → Mem → Prop} (c : Ret κ.E idsR yX6_isBooth cX6_isBooth 2 (some .boolean) 1 22 [.ref (κ.E.ad (14, 0, 0)), .int a0] M P) (hr : 1 + 1 ≤ fr ∧ 8 + (2 + 11) + 22 ≤ lo) (hw : (st.map fun v => v.category).sum ≤ 8) (d : decode cc pc = .ok (.invokevirtual 60, 3)) (h : ∀ r M', P r M' → V κ idsR nL M' l (r.toList ++ st) (pc + 3)) : V κ idsR nL M l (.int a0 :: .ref (κ.E.ad (14, 0, 0)) :: st) pc := s_callV (n := 1) G c (mR14) rfl rfl (by decide +kernel) (by decide +kernel) (by decide +kernel) (by decide +kernel) (by decide +kernel) (by decide +kernel) hr rfl hw d rfl h
theorem iX6_63 (G : Good κ idsR cc nL RX6 fr lo)  {a0 : Int32} {a1 : Int32} {P : Option Value → Mem → Prop} (c : Ret κ.E idsR yX6_he cX6_he 3 (some .int) 0 0 [.ref (κ.E.ad (14, 0, 0)), .int a0, .int a1] M P) (hr : 0 + 1 ≤ fr ∧ 8 + (3 + 11) + 0 ≤ lo) (hw : (st.map fun v => v.category).sum ≤ 8) (d : decode cc pc = .ok (.invokevirtual 63, 3)) (h : ∀ r M', P r M' → V κ idsR nL M' l (r.toList ++ st) (pc + 3)) : V κ idsR nL M l (.int a1 :: .int a0 :: .ref (κ.E.ad (14, 0, 0)) :: st) pc := s_callV (n := 2) G c (mR14) rfl rfl (by decide +kernel) (by decide +kernel) (by decide +kernel) (by decide +kernel) (by decide +kernel) (by decide +kernel) hr rfl hw d rfl h
theorem iX6_67 (G : Good κ idsR cc nL RX6 fr lo)  {a0 : Int32} {a1 : Int32} {a2 : Int32} {P : Option Value → Mem → Prop} (c : Ret κ.E idsR yX6_setHe cX6_setHe 4 none 0 0 [.ref (κ.E.ad (14, 0, 0)), .int a0, .int a1, .int a2] M P) (hr : 0 + 1 ≤ fr ∧ 8 + (4 + 11) + 0 ≤ lo) (hw : (st.map fun v => v.category).sum ≤ 8) (d : decode cc pc = .ok (.invokevirtual 67, 3)) (h : ∀ r M', P r M' → V κ idsR nL M' l (r.toList ++ st) (pc + 3)) : V κ idsR nL M l (.int a2 :: .int a1 :: .int a0 :: .ref (κ.E.ad (14, 0, 0)) :: st) pc := s_callV (n := 3) G c (mR14) rfl rfl (by decide +kernel) (by decide +kernel) (by decide +kernel) (by decide +kernel) (by decide +kernel) (by decide +kernel) hr rfl hw d rfl h
theorem iX6_71 (G : Good κ idsR cc nL RX6 fr lo)  {a0 : Int32} {a1 : Int32} {P : Option Value → Mem → Prop} (c : Ret κ.E idsR yX6_bo cX6_bo 3 (some .int) 0 0 [.ref (κ.E.ad (14, 0, 0)), .int a0, .int a1] M P) (hr : 0 + 1 ≤ fr ∧ 8 + (3 + 11) + 0 ≤ lo) (hw : (st.map fun v => v.category).sum ≤ 8) (d : decode cc pc = .ok (.invokevirtual 71, 3)) (h : ∀ r M', P r M' → V κ idsR nL M' l (r.toList ++ st) (pc + 3)) : V κ idsR nL M l (.int a1 :: .int a0 :: .ref (κ.E.ad (14, 0, 0)) :: st) pc := s_callV (n := 2) G c (mR14) rfl rfl (by decide +kernel) (by decide +kernel) (by decide +kernel) (by decide +kernel) (by decide +kernel) (by decide +kernel) hr rfl hw d rfl h
theorem iX6_74 (G : Good κ idsR cc nL RX6 fr lo)  {a0 : Int32} {a1 : Int32} {a2 : Int32} {P : Option Value → Mem → Prop} (c : Ret κ.E idsR yX6_setBo cX6_setBo 4 none 0 0 [.ref (κ.E.ad (14, 0, 0)), .int a0, .int a1, .int a2] M P) (hr : 0 + 1 ≤ fr ∧ 8 + (4 + 11) + 0 ≤ lo) (hw : (st.map fun v => v.category).sum ≤ 8) (d : decode cc pc = .ok (.invokevirtual 74, 3)) (h : ∀ r M', P r M' → V κ idsR nL M' l (r.toList ++ st) (pc + 3)) : V κ idsR nL M l (.int a2 :: .int a1 :: .int a0 :: .ref (κ.E.ad (14, 0, 0)) :: st) pc := s_callV (n := 3) G c (mR14) rfl rfl (by decide +kernel) (by decide +kernel) (by decide +kernel) (by decide +kernel) (by decide +kernel) (by decide +kernel) hr rfl hw d rfl h
theorem iX6_77 (G : Good κ idsR cc nL RX6 fr lo)  {a0 : Int32} {P : Option Value → Mem → Prop} (c : Ret κ.E idsR yX6_isVisitor cX6_isVisitor 2 (some .boolean) 1 22 [.ref (κ.E.ad (14, 0, 0)), .int a0] M P) (hr : 1 + 1 ≤ fr ∧ 8 + (2 + 11) + 22 ≤ lo) (hw : (st.map fun v => v.category).sum ≤ 8) (d : decode cc pc = .ok (.invokevirtual 77, 3)) (h : ∀ r M', P r M' → V κ idsR nL M' l (r.toList ++ st) (pc + 3)) : V κ idsR nL M l (.int a0 :: .ref (κ.E.ad (14, 0, 0)) :: st) pc := s_callV (n := 1) G c (mR14) rfl rfl (by decide +kernel) (by decide +kernel) (by decide +kernel) (by decide +kernel) (by decide +kernel) (by decide +kernel) hr rfl hw d rfl h
theorem iX6_80 (G : Good κ idsR cc nL RX6 fr lo)  {a0 : Int32} {a1 : Int32} {P : Option Value → Mem → Prop} (c : Ret κ.E idsR yX6_vi cX6_vi 3 (some .int) 0 0 [.ref (κ.E.ad (14, 0, 0)), .int a0, .int a1] M P) (hr : 0 + 1 ≤ fr ∧ 8 + (3 + 11) + 0 ≤ lo) (hw : (st.map fun v => v.category).sum ≤ 8) (d : decode cc pc = .ok (.invokevirtual 80, 3)) (h : ∀ r M', P r M' → V κ idsR nL M' l (r.toList ++ st) (pc + 3)) : V κ idsR nL M l (.int a1 :: .int a0 :: .ref (κ.E.ad (14, 0, 0)) :: st) pc := s_callV (n := 2) G c (mR14) rfl rfl (by decide +kernel) (by decide +kernel) (by decide +kernel) (by decide +kernel) (by decide +kernel) (by decide +kernel) hr rfl hw d rfl h
theorem iX6_83 (G : Good κ idsR cc nL RX6 fr lo)  {a0 : Int32} {a1 : Int32} {a2 : Int32} {P : Option Value → Mem → Prop} (c : Ret κ.E idsR yX6_setVi cX6_setVi 4 none 0 0 [.ref (κ.E.ad (14, 0, 0)), .int a0, .int a1, .int a2] M P) (hr : 0 + 1 ≤ fr ∧ 8 + (4 + 11) + 0 ≤ lo) (hw : (st.map fun v => v.category).sum ≤ 8) (d : decode cc pc = .ok (.invokevirtual 83, 3)) (h : ∀ r M', P r M' → V κ idsR nL M' l (r.toList ++ st) (pc + 3)) : V κ idsR nL M l (.int a2 :: .int a1 :: .int a0 :: .ref (κ.E.ad (14, 0, 0)) :: st) pc := s_callV (n := 3) G c (mR14) rfl rfl (by decide +kernel) (by decide +kernel) (by decide +kernel) (by decide +kernel) (by decide +kernel) (by decide +kernel) hr rfl hw d rfl h
theorem iX6_86 (G : Good κ idsR cc nL RX6 fr lo)  {a0 : Int32} {P : Option Value → Mem → Prop} (c : Ret κ.E idsR yX6_stroll cX6_stroll 3 none 1 23 [.ref (κ.E.ad (14, 0, 0)), .int a0] M P) (hr : 1 + 1 ≤ fr ∧ 8 + (3 + 11) + 23 ≤ lo) (hw : (st.map fun v => v.category).sum ≤ 8) (d : decode cc pc = .ok (.invokevirtual 86, 3)) (h : ∀ r M', P r M' → V κ idsR nL M' l (r.toList ++ st) (pc + 3)) : V κ idsR nL M l (.int a0 :: .ref (κ.E.ad (14, 0, 0)) :: st) pc := s_callV (n := 1) G c (mR14) rfl rfl (by decide +kernel) (by decide +kernel) (by decide +kernel) (by decide +kernel) (by decide +kernel) (by decide +kernel) hr rfl hw d rfl h
theorem iX6_90 (G : Good κ idsR cc nL RX6 fr lo)  {a0 : Int32} {P : Option Value → Mem → Prop} (c : Ret κ.E idsR yX6_working cX6_working 4 (some .int) 1 22 [.ref (κ.E.ad (14, 0, 0)), .int a0] M P) (hr : 1 + 1 ≤ fr ∧ 8 + (4 + 11) + 22 ≤ lo) (hw : (st.map fun v => v.category).sum ≤ 8) (d : decode cc pc = .ok (.invokevirtual 90, 3)) (h : ∀ r M', P r M' → V κ idsR nL M' l (r.toList ++ st) (pc + 3)) : V κ idsR nL M l (.int a0 :: .ref (κ.E.ad (14, 0, 0)) :: st) pc := s_callV (n := 1) G c (mR14) rfl rfl (by decide +kernel) (by decide +kernel) (by decide +kernel) (by decide +kernel) (by decide +kernel) (by decide +kernel) hr rfl hw d rfl h
theorem iX6_93 (G : Good κ idsR cc nL RX6 fr lo)  {a0 : Int32} {P : Option Value → Mem → Prop} (c : Ret κ.E idsR yX6_cost cX6_cost 2 (some .int) 1 22 [.ref (κ.E.ad (14, 0, 0)), .int a0] M P) (hr : 1 + 1 ≤ fr ∧ 8 + (2 + 11) + 22 ≤ lo) (hw : (st.map fun v => v.category).sum ≤ 8) (d : decode cc pc = .ok (.invokevirtual 93, 3)) (h : ∀ r M', P r M' → V κ idsR nL M' l (r.toList ++ st) (pc + 3)) : V κ idsR nL M l (.int a0 :: .ref (κ.E.ad (14, 0, 0)) :: st) pc := s_callV (n := 1) G c (mR14) rfl rfl (by decide +kernel) (by decide +kernel) (by decide +kernel) (by decide +kernel) (by decide +kernel) (by decide +kernel) hr rfl hw d rfl h
theorem iX6_96 (G : Good κ idsR cc nL RX6 fr lo)  {a0 : Int32} {P : Option Value → Mem → Prop} (c : Ret κ.E idsR yX6_isOpen cX6_isOpen 2 (some .boolean) 2 45 [.ref (κ.E.ad (14, 0, 0)), .int a0] M P) (hr : 2 + 1 ≤ fr ∧ 8 + (2 + 11) + 45 ≤ lo) (hw : (st.map fun v => v.category).sum ≤ 8) (d : decode cc pc = .ok (.invokevirtual 96, 3)) (h : ∀ r M', P r M' → V κ idsR nL M' l (r.toList ++ st) (pc + 3)) : V κ idsR nL M l (.int a0 :: .ref (κ.E.ad (14, 0, 0)) :: st) pc := s_callV (n := 1) G c (mR14) rfl rfl (by decide +kernel) (by decide +kernel) (by decide +kernel) (by decide +kernel) (by decide +kernel) (by decide +kernel) hr rfl hw d rfl h
theorem iX6_99 (G : Good κ idsR cc nL RX6 fr lo)  {a0 : Int32} {P : Option Value → Mem → Prop} (c : Ret κ.E idsR yX6_length cX6_length 4 (some .int) 1 22 [.ref (κ.E.ad (14, 0, 0)), .int a0] M P) (hr : 1 + 1 ≤ fr ∧ 8 + (4 + 11) + 22 ≤ lo) (hw : (st.map fun v => v.category).sum ≤ 8) (d : decode cc pc = .ok (.invokevirtual 99, 3)) (h : ∀ r M', P r M' → V κ idsR nL M' l (r.toList ++ st) (pc + 3)) : V κ idsR nL M l (.int a0 :: .ref (κ.E.ad (14, 0, 0)) :: st) pc := s_callV (n := 1) G c (mR14) rfl rfl (by decide +kernel) (by decide +kernel) (by decide +kernel) (by decide +kernel) (by decide +kernel) (by decide +kernel) hr rfl hw d rfl h
theorem iX6_102 (G : Good κ idsR cc nL RX6 fr lo)  {a0 : Int32} {a1 : Int32} {P : Option Value → Mem → Prop} (c : Ret κ.E idsR yX6_boothTold cX6_boothTold 3 (some .int) 3 66 [.ref (κ.E.ad (14, 0, 0)), .int a0, .int a1] M P) (hr : 3 + 1 ≤ fr ∧ 8 + (3 + 11) + 66 ≤ lo) (hw : (st.map fun v => v.category).sum ≤ 8) (d : decode cc pc = .ok (.invokevirtual 102, 3)) (h : ∀ r M', P r M' → V κ idsR nL M' l (r.toList ++ st) (pc + 3)) : V κ idsR nL M l (.int a1 :: .int a0 :: .ref (κ.E.ad (14, 0, 0)) :: st) pc := s_callV (n := 2) G c (mR14) rfl rfl (by decide +kernel) (by decide +kernel) (by decide +kernel) (by decide +kernel) (by decide +kernel) (by decide +kernel) hr rfl hw d rfl h
theorem iX6_105 (G : Good κ idsR cc nL RX6 fr lo)  {a0 : Int32} {a1 : Int32} {P : Option Value → Mem → Prop} (c : Ret κ.E idsR yX6_at cX6_at 4 (some .int) 1 22 [.ref (κ.E.ad (14, 0, 0)), .int a0, .int a1] M P) (hr : 1 + 1 ≤ fr ∧ 8 + (4 + 11) + 22 ≤ lo) (hw : (st.map fun v => v.category).sum ≤ 8) (d : decode cc pc = .ok (.invokevirtual 105, 3)) (h : ∀ r M', P r M' → V κ idsR nL M' l (r.toList ++ st) (pc + 3)) : V κ idsR nL M l (.int a1 :: .int a0 :: .ref (κ.E.ad (14, 0, 0)) :: st) pc := s_callV (n := 2) G c (mR14) rfl rfl (by decide +kernel) (by decide +kernel) (by decide +kernel) (by decide +kernel) (by decide +kernel) (by decide +kernel) hr rfl hw d rfl h
theorem iX6_108 (G : Good κ idsR cc nL RX6 fr lo)  {a0 : Int32} {a1 : Int32} {P : Option Value → Mem → Prop} (c : Ret κ.E idsR yX6_visitorTold cX6_visitorTold 3 (some .int) 1 22 [.ref (κ.E.ad (14, 0, 0)), .int a0, .int a1] M P) (hr : 1 + 1 ≤ fr ∧ 8 + (3 + 11) + 22 ≤ lo) (hw : (st.map fun v => v.category).sum ≤ 8) (d : decode cc pc = .ok (.invokevirtual 108, 3)) (h : ∀ r M', P r M' → V κ idsR nL M' l (r.toList ++ st) (pc + 3)) : V κ idsR nL M l (.int a1 :: .int a0 :: .ref (κ.E.ad (14, 0, 0)) :: st) pc := s_callV (n := 2) G c (mR14) rfl rfl (by decide +kernel) (by decide +kernel) (by decide +kernel) (by decide +kernel) (by decide +kernel) (by decide +kernel) hr rfl hw d rfl h
theorem iX6_112 (G : Good κ idsR cc nL RX6 fr lo) {x y : Int32} (d : decode cc pc = .ok (.invokestatic 112, 3)) (hf : 1 ≤ fr) (hlo : (st.map fun v => v.category).sum + 13 ≤ lo) (h : V κ idsR nL M l (.int (if y < x then y else x) :: st) (pc + 3)) : V κ idsR nL M l (.int y :: .int x :: st) pc := s_mmin G d (by decide +kernel) hf hlo h
theorem iX6_117 (G : Good κ idsR cc nL RX6 fr lo)  {a0 : Int32} {a1 : Int32} {a2 : Int32} {P : Option Value → Mem → Prop} (c : Ret κ.E idsR yX6_write cX6_write 6 none 1 21 [.ref (κ.E.ad (14, 0, 0)), .int a0, .int a1, .int a2] M P) (hr : 1 + 1 ≤ fr ∧ 8 + (6 + 11) + 21 ≤ lo) (hw : (st.map fun v => v.category).sum ≤ 8) (d : decode cc pc = .ok (.invokevirtual 117, 3)) (h : ∀ r M', P r M' → V κ idsR nL M' l (r.toList ++ st) (pc + 3)) : V κ idsR nL M l (.int a2 :: .int a1 :: .int a0 :: .ref (κ.E.ad (14, 0, 0)) :: st) pc := s_callV (n := 3) G c (mR14) rfl rfl (by decide +kernel) (by decide +kernel) (by decide +kernel) (by decide +kernel) (by decide +kernel) (by decide +kernel) hr rfl hw d rfl h
theorem iX6_120 (G : Good κ idsR cc nL RX6 fr lo) {x y : Int32} (d : decode cc pc = .ok (.invokestatic 120, 3)) (hf : 1 ≤ fr) (hlo : (st.map fun v => v.category).sum + 13 ≤ lo) (h : V κ idsR nL M l (.int (if x < y then y else x) :: st) (pc + 3)) : V κ idsR nL M l (.int y :: .int x :: st) pc := s_mmax G d (by decide +kernel) hf hlo h
theorem iX6_123 (G : Good κ idsR cc nL RX6 fr lo)  {P : Option Value → Mem → Prop} (c : Ret κ.E idsR yX6_dart cX6_dart 1 none 0 0 [.ref (κ.E.ad (14, 0, 0))] M P) (hr : 0 + 1 ≤ fr ∧ 8 + (1 + 11) + 0 ≤ lo) (hw : (st.map fun v => v.category).sum ≤ 8) (d : decode cc pc = .ok (.invokevirtual 123, 3)) (h : ∀ r M', P r M' → V κ idsR nL M' l (r.toList ++ st) (pc + 3)) : V κ idsR nL M l (.ref (κ.E.ad (14, 0, 0)) :: st) pc := s_callV (n := 0) G c (mR14) rfl rfl (by decide +kernel) (by decide +kernel) (by decide +kernel) (by decide +kernel) (by decide +kernel) (by decide +kernel) hr rfl hw d rfl h
theorem iX6_126 (G : Good κ idsR cc nL RX6 fr lo)  {a0 : Int32} {P : Option Value → Mem → Prop} (c : Ret κ.E idsR yX6_choose cX6_choose 5 none 3 66 [.ref (κ.E.ad (14, 0, 0)), .int a0] M P) (hr : 3 + 1 ≤ fr ∧ 8 + (5 + 11) + 66 ≤ lo) (hw : (st.map fun v => v.category).sum ≤ 8) (d : decode cc pc = .ok (.invokevirtual 126, 3)) (h : ∀ r M', P r M' → V κ idsR nL M' l (r.toList ++ st) (pc + 3)) : V κ idsR nL M l (.int a0 :: .ref (κ.E.ad (14, 0, 0)) :: st) pc := s_callV (n := 1) G c (mR14) rfl rfl (by decide +kernel) (by decide +kernel) (by decide +kernel) (by decide +kernel) (by decide +kernel) (by decide +kernel) hr rfl hw d rfl h
theorem iX6_129 (G : Good κ idsR cc nL RX6 fr lo)  {a0 : Int32} {a1 : Int32} {P : Option Value → Mem → Prop} (c : Ret κ.E idsR yX6_play cX6_play 4 (some .boolean) 2 46 [.ref (κ.E.ad (14, 0, 0)), .int a0, .int a1] M P) (hr : 2 + 1 ≤ fr ∧ 8 + (4 + 11) + 46 ≤ lo) (hw : (st.map fun v => v.category).sum ≤ 8) (d : decode cc pc = .ok (.invokevirtual 129, 3)) (h : ∀ r M', P r M' → V κ idsR nL M' l (r.toList ++ st) (pc + 3)) : V κ idsR nL M l (.int a1 :: .int a0 :: .ref (κ.E.ad (14, 0, 0)) :: st) pc := s_callV (n := 2) G c (mR14) rfl rfl (by decide +kernel) (by decide +kernel) (by decide +kernel) (by decide +kernel) (by decide +kernel) (by decide +kernel) hr rfl hw d rfl h
theorem iX6_133 (G : Good κ idsR cc nL RX6 fr lo)  {P : Option Value → Mem → Prop} (c : Ret κ.E idsR yX6_endHour cX6_endHour 3 none 3 66 [.ref (κ.E.ad (14, 0, 0))] M P) (hr : 3 + 1 ≤ fr ∧ 8 + (3 + 11) + 66 ≤ lo) (hw : (st.map fun v => v.category).sum ≤ 8) (d : decode cc pc = .ok (.invokevirtual 133, 3)) (h : ∀ r M', P r M' → V κ idsR nL M' l (r.toList ++ st) (pc + 3)) : V κ idsR nL M l (.ref (κ.E.ad (14, 0, 0)) :: st) pc := s_callV (n := 0) G c (mR14) rfl rfl (by decide +kernel) (by decide +kernel) (by decide +kernel) (by decide +kernel) (by decide +kernel) (by decide +kernel) hr rfl hw d rfl h
theorem iX6_136 (G : Good κ idsR cc nL RX6 fr lo)  {P : Option Value → Mem → Prop} (c : Ret κ.E idsR yX6_roundOn cX6_roundOn 4 (some .int) 4 90 [.ref (κ.E.ad (14, 0, 0))] M P) (hr : 4 + 1 ≤ fr ∧ 8 + (4 + 11) + 90 ≤ lo) (hw : (st.map fun v => v.category).sum ≤ 8) (d : decode cc pc = .ok (.invokevirtual 136, 3)) (h : ∀ r M', P r M' → V κ idsR nL M' l (r.toList ++ st) (pc + 3)) : V κ idsR nL M l (.ref (κ.E.ad (14, 0, 0)) :: st) pc := s_callV (n := 0) G c (mR14) rfl rfl (by decide +kernel) (by decide +kernel) (by decide +kernel) (by decide +kernel) (by decide +kernel) (by decide +kernel) hr rfl hw d rfl h
theorem iX6_140 (G : Good κ idsR cc nL RX6 fr lo)  {a0 : Int32} {P : Option Value → Mem → Prop} (c : Ret κ.E idsR yX6_roundsOn cX6_roundsOn 4 (some .int) 5 113 [.ref (κ.E.ad (14, 0, 0)), .int a0] M P) (hr : 5 + 1 ≤ fr ∧ 8 + (4 + 11) + 113 ≤ lo) (hw : (st.map fun v => v.category).sum ≤ 8) (d : decode cc pc = .ok (.invokevirtual 140, 3)) (h : ∀ r M', P r M' → V κ idsR nL M' l (r.toList ++ st) (pc + 3)) : V κ idsR nL M l (.int a0 :: .ref (κ.E.ad (14, 0, 0)) :: st) pc := s_callV (n := 1) G c (mR14) rfl rfl (by decide +kernel) (by decide +kernel) (by decide +kernel) (by decide +kernel) (by decide +kernel) (by decide +kernel) hr rfl hw d rfl h
theorem iX6_143 (G : Good κ idsR cc nL RX6 fr lo)  {a0 : Int32} {P : Option Value → Mem → Prop} (c : Ret κ.E idsR yX6_with cX6_with 4 (some .int) 1 22 [.ref (κ.E.ad (14, 0, 0)), .int a0] M P) (hr : 1 + 1 ≤ fr ∧ 8 + (4 + 11) + 22 ≤ lo) (hw : (st.map fun v => v.category).sum ≤ 8) (d : decode cc pc = .ok (.invokevirtual 143, 3)) (h : ∀ r M', P r M' → V κ idsR nL M' l (r.toList ++ st) (pc + 3)) : V κ idsR nL M l (.int a0 :: .ref (κ.E.ad (14, 0, 0)) :: st) pc := s_callV (n := 1) G c (mR14) rfl rfl (by decide +kernel) (by decide +kernel) (by decide +kernel) (by decide +kernel) (by decide +kernel) (by decide +kernel) hr rfl hw d rfl h
theorem iX6_146 (G : Good κ idsR cc nL RX6 fr lo)  {a0 : Int32} {P : Option Value → Mem → Prop} (c : Ret κ.E idsR yX6_counted cX6_counted 4 (some .int) 3 66 [.ref (κ.E.ad (14, 0, 0)), .int a0] M P) (hr : 3 + 1 ≤ fr ∧ 8 + (4 + 11) + 66 ≤ lo) (hw : (st.map fun v => v.category).sum ≤ 8) (d : decode cc pc = .ok (.invokevirtual 146, 3)) (h : ∀ r M', P r M' → V κ idsR nL M' l (r.toList ++ st) (pc + 3)) : V κ idsR nL M l (.int a0 :: .ref (κ.E.ad (14, 0, 0)) :: st) pc := s_callV (n := 1) G c (mR14) rfl rfl (by decide +kernel) (by decide +kernel) (by decide +kernel) (by decide +kernel) (by decide +kernel) (by decide +kernel) hr rfl hw d rfl h
theorem iX6_154 (G : Good κ idsR cc nL RX6 fr lo)  {P : Option Value → Mem → Prop} (c : Ret κ.E idsR yX6_kept cX6_kept 1 (some (.array (.array .int))) 0 0 [.ref (κ.E.ad (14, 0, 0))] M P) (hr : 0 + 1 ≤ fr ∧ 8 + (1 + 11) + 0 ≤ lo) (hw : (st.map fun v => v.category).sum ≤ 8) (d : decode cc pc = .ok (.invokevirtual 154, 3)) (h : ∀ r M', P r M' → V κ idsR nL M' l (r.toList ++ st) (pc + 3)) : V κ idsR nL M l (.ref (κ.E.ad (14, 0, 0)) :: st) pc := s_callV (n := 0) G c (mR14) rfl rfl (by decide +kernel) (by decide +kernel) (by decide +kernel) (by decide +kernel) (by decide +kernel) (by decide +kernel) hr rfl hw d rfl h
end Links2
end
section
/-! ===== the green as a mathematical value: ints by (kind, number, fact), queues as lists, counts, the board as a list ===== -/
abbrev GS : Type := (Nat → Nat → Nat → Int32) × (Nat → List Nat) × (Nat → Nat) × List (Nat × Nat × Int32)
def GS.i (g : GS) (kd a k : Nat) : Int32 := g.1 kd a k
def GS.q (g : GS) (b : Nat) : List Nat := g.2.1 b
def GS.nb (g : GS) : Nat := g.2.2.1 0
def GS.nh (g : GS) : Nat := g.2.2.1 1
def GS.nv (g : GS) : Nat := g.2.2.1 2
def GS.bd (g : GS) : List (Nat × Nat × Int32) := g.2.2.2
def GS.set (g : GS) (kd a k : Nat) (x : Int32) : GS := (fun p q r => if p = kd ∧ q = a ∧ r = k then x else g.1 p q r, g.2)
def GS.setq (g : GS) (f : Nat → List Nat) : GS := (g.1, f, g.2.2)
def GS.setbd (g : GS) (L : List (Nat × Nat × Int32)) : GS := (g.1, g.2.1, g.2.2.1, L)
def GS.setn (g : GS) (j n : Nat) : GS := (g.1, g.2.1, fun a => if a = j then n else g.2.2.1 a, g.2.2.2)
theorem gi_set {g : GS} {kd a k p q r : Nat} {x : Int32} : (g.set kd a k x).i p q r = if p = kd ∧ q = a ∧ r = k then x else g.i p q r := rfl
theorem gq_set {g : GS} {kd a k : Nat} {x : Int32} : (g.set kd a k x).q = g.q := rfl
theorem gnb_set {g : GS} {kd a k : Nat} {x : Int32} : (g.set kd a k x).nb = g.nb := rfl
theorem gnh_set {g : GS} {kd a k : Nat} {x : Int32} : (g.set kd a k x).nh = g.nh := rfl
theorem gnv_set {g : GS} {kd a k : Nat} {x : Int32} : (g.set kd a k x).nv = g.nv := rfl
theorem gbd_set {g : GS} {kd a k : Nat} {x : Int32} : (g.set kd a k x).bd = g.bd := rfl
theorem gi_setq {g : GS} {f : Nat → List Nat} : (g.setq f).i = g.i := rfl
theorem gq_setq {g : GS} {f : Nat → List Nat} : (g.setq f).q = f := rfl
theorem gnb_setq {g : GS} {f : Nat → List Nat} : (g.setq f).nb = g.nb := rfl
theorem gnh_setq {g : GS} {f : Nat → List Nat} : (g.setq f).nh = g.nh := rfl
theorem gnv_setq {g : GS} {f : Nat → List Nat} : (g.setq f).nv = g.nv := rfl
theorem gbd_setq {g : GS} {f : Nat → List Nat} : (g.setq f).bd = g.bd := rfl
theorem gi_setbd {g : GS} {L : List (Nat × Nat × Int32)} : (g.setbd L).i = g.i := rfl
theorem gq_setbd {g : GS} {L : List (Nat × Nat × Int32)} : (g.setbd L).q = g.q := rfl
theorem gnb_setbd {g : GS} {L : List (Nat × Nat × Int32)} : (g.setbd L).nb = g.nb := rfl
theorem gnh_setbd {g : GS} {L : List (Nat × Nat × Int32)} : (g.setbd L).nh = g.nh := rfl
theorem gnv_setbd {g : GS} {L : List (Nat × Nat × Int32)} : (g.setbd L).nv = g.nv := rfl
theorem gbd_setbd {g : GS} {L : List (Nat × Nat × Int32)} : (g.setbd L).bd = L := rfl
/-- the remainder, as the machine computes it -/
abbrev rm9 (x y : Int32) : Int32 := x - x / y * y
/-- how many of the first n helpers are at b -/
def wkN (g : GS) (b : Nat) : Nat → Nat
  | 0 => 0
  | n + 1 => wkN g b n + if g.i 3 n 1 = nI b then 1 else 0
def wk (g : GS) (b : Nat) : Nat := wkN g b g.nh
abbrev opn (g : GS) (b : Nat) : Prop := g.i 2 b 3 ≤ nI (wk g b)
def cst (g : GS) (b : Nat) : Int32 := if nI b = g.i 1 0 9 then g.i 2 b 0 - 1 else g.i 2 b 0
abbrev invites (g : GS) (v b : Nat) : Prop := opn g b ∧ 0 < g.i 2 b 2 ∧ cst g b ≤ g.i 4 v 0
abbrev better (g : GS) (v b o : Nat) : Prop := (g.q b).length < (g.q o).length ∨ ((g.q b).length = (g.q o).length ∧ g.i 10 v o < g.i 10 v b)
def takes (g : GS) (v b : Nat) : Option Nat → Bool
  | none => true
  | some o => decide (better g v b o)
def bestN (g : GS) (v : Nat) : Nat → Option Nat
  | 0 => none
  | b + 1 => if invites g v b ∧ takes g v b (bestN g v b) = true then some b else bestN g v b
def choose9 (g : GS) (v : Nat) : GS := match bestN g v g.nb with
  | some b => (g.set 4 v 3 (nI b)).setq (fun a => if a = b then g.q b ++ [v] else g.q a)
  | none => if g.i 4 v 0 = 0 then g.set 4 v 2 1 else g
/-- one leaves a queue and strolls -/
def leaveQ (g : GS) (v : Nat) : GS := (g.set 4 v 3 (-1)).setq (fun a => (g.q a).filter (fun u => u != v))
def pts (g : GS) (v b : Nat) : Int32 :=
  let p := g.i 4 v 1 + 3 * g.i 10 v b + 5 * (nI (wk g b) - g.i 2 b 3)
  if nI b = g.i 1 0 9 then 2 * p else p
/-- a play comes on the board -/
def bdIns (L : List (Nat × Nat × Int32)) (x : Nat × Nat × Int32) : List (Nat × Nat × Int32) :=
  ((L.takeWhile (fun y => decide (x.2.2 ≤ y.2.2))) ++ x :: L.dropWhile (fun y => decide (x.2.2 ≤ y.2.2))).take 3
def min9 (x y : Int32) : Int32 := if y < x then y else x
def max9 (x y : Int32) : Int32 := if x < y then y else x
def play9 (g : GS) (v b : Nat) : GS :=
  let c := cst g b
  let p := pts g v b
  let g1 := ((g.set 4 v 0 (g.i 4 v 0 - c)).set 2 b 6 (g.i 2 b 6 + c)).setbd (bdIns g.bd (v, b, p))
  let g2 := (((g1.set 10 v b (min9 (g.i 10 v b + 1) 9)).set 4 v 6 (g.i 4 v 6 + 1)).set 2 b 5 (g.i 2 b 5 + 1)).set 4 v 7 (max9 (g.i 4 v 7) p)
  if g.i 2 b 1 ≤ p ∧ 0 < g.i 2 b 2 then ((g2.set 2 b 2 (g.i 2 b 2 - 1)).set 4 v 4 (g.i 4 v 4 + 1)).set 1 0 10 (g.i 1 0 10 + 1) else g2
/-- the first of the queue at b leaves it, and plays if this one can pay -/
def serve1 (g : GS) (b : Nat) : GS := match g.q b with
  | [] => g
  | v :: _ => let g1 := leaveQ g v
    if cst g1 b ≤ g1.i 4 v 0 then play9 g1 v b else g1
def serveN (g : GS) (b : Nat) : Nat → GS
  | 0 => g
  | n + 1 => serveN (serve1 g b) b n
def serve9 (g : GS) (b : Nat) : GS := if opn g b then serveN g b (wk g b) else g
def rest9 (g : GS) (h : Nat) : GS := g.set 3 h 0 (min9 (g.i 3 h 0 + 2) 24)
def tire9 (g : GS) (h : Nat) : GS :=
  if g.i 3 h 1 = -1 then rest9 g h
  else
    let g1 := (g.set 3 h 2 (g.i 3 h 2 + 1)).set 3 h 0 (g.i 3 h 0 - 1)
    if 0 < g1.i 3 h 0 then g1 else rest9 (g1.set 3 h 1 (-1)) h
def dart9 (g : GS) : GS :=
  let d := rm9 (g.i 1 0 8 * 75 + 74) 65537
  (g.set 1 0 8 d).set 1 0 9 (if 0 < g.nb then rm9 d (nI g.nb) else -1)
/-- the board's marks: line k is its first -/
def markN (g : GS) (k : Nat) : List (Nat × Nat × Int32) → GS
  | [] => g
  | x :: L => markN ((g.set 4 x.1 5 (g.i 4 x.1 5 + (3 - nI k))).set 4 x.1 0 (if k = 0 then g.i 4 x.1 0 + 5 else g.i 4 x.1 0)) (k + 1) L
/-- all who wait at a booth that isn't open stroll -/
def clear9 (g : GS) : GS :=
  (fun p q r => if p = 4 ∧ r = 3 ∧ q < g.nv ∧ (∃ b, b < g.nb ∧ g.i 4 q 3 = nI b ∧ ¬ opn g b) then -1 else g.1 p q r, fun b => if b < g.nb ∧ ¬ opn g b then [] else g.q b, g.2.2)
def endHour9 (g : GS) : GS := clear9 ((markN g 0 g.bd).setbd [])
abbrev strl (g : GS) (v : Nat) : Prop := g.i 4 v 2 = 0 ∧ g.i 4 v 3 = -1
def chooseN (g : GS) : Nat → GS
  | 0 => g
  | n + 1 => let g1 := chooseN g n
    if strl g1 n then choose9 g1 n else g1
def servesN (g : GS) : Nat → GS
  | 0 => g
  | n + 1 => serve9 (servesN g n) n
def tiresN (g : GS) : Nat → GS
  | 0 => g
  | n + 1 => tire9 (tiresN g n) n
def round9 (g : GS) : GS :=
  let g1 := if rm9 (g.i 1 0 7) 12 = 0 then dart9 g else g
  let g2 := chooseN g1 g1.nv
  let g3 := servesN g2 g2.nb
  let g4 := tiresN g3 g3.nh
  let g5 := if rm9 (g4.i 1 0 7) 12 = 11 then endHour9 g4 else g4
  g5.set 1 0 7 (g5.i 1 0 7 + 1)
def rounds9 (g : GS) : Nat → GS
  | 0 => g
  | n + 1 => round9 (rounds9 g n)
end
section
/-! ===== the class's memory holds a green; what is always true of a green ===== -/
def SimC (f : Nat) (M : Mem) (g : GS) : Prop :=
  (M (1, f, 0) 1 = nI g.nb ∧ M (1, f, 0) 3 = nI g.nh ∧ M (1, f, 0) 5 = nI g.nv ∧ ∀ k, 7 ≤ k → k ≤ 10 → M (1, f, 0) k = g.i 1 0 k) ∧
  (∀ b, b < g.nb → (∀ k, k < 7 → k ≠ 4 → M (2, f, b) k = g.i 2 b k) ∧ M (2, f, b) 4 = nI (wk g b) ∧ M (2, f, b) 7 = nI (g.q b).length ∧ ∀ i u, (g.q b)[i]? = some u → M (9, f, b) i = nI u) ∧
  (∀ h, h < g.nh → ∀ k, k < 3 → M (3, f, h) k = g.i 3 h k) ∧
  (∀ v, v < g.nv → (∀ k, k < 8 → M (4, f, v) k = g.i 4 v k) ∧ ∀ b, b < 8 → M (10, f, v) b = g.i 10 v b) ∧
  M (5, f, 0) 0 = nI g.bd.length ∧ ∀ l x, g.bd[l]? = some x → M (11, f, 0) l = nI x.1 ∧ M (12, f, 0) l = nI x.2.1 ∧ M (13, f, 0) l = x.2.2
def Inv (g : GS) : Prop :=
  (g.nb ≤ 8 ∧ g.nh ≤ 12 ∧ g.nv ≤ 16) ∧
  (∀ h, h < g.nh → (g.i 3 h 1 = -1 ∨ ∃ b, b < g.nb ∧ g.i 3 h 1 = nI b) ∧ 0 < g.i 3 h 0 ∧ g.i 3 h 0 ≤ 24) ∧
  (∀ v, v < g.nv → (g.i 4 v 2 = 0 ∨ g.i 4 v 2 = 1) ∧ (g.i 4 v 3 = -1 ∨ ∃ b, b < g.nb ∧ g.i 4 v 3 = nI b) ∧ (g.i 4 v 2 = 1 → g.i 4 v 3 = -1) ∧ ∀ b, b < 8 → 0 ≤ g.i 10 v b ∧ g.i 10 v b ≤ 9) ∧
  (∀ b, b < g.nb → (g.q b).Nodup ∧ (∀ v, v ∈ g.q b ↔ v < g.nv ∧ g.i 4 v 3 = nI b) ∧ 0 ≤ g.i 2 b 2) ∧
  g.bd.length ≤ 3 ∧ (∀ x, x ∈ g.bd → x.1 < g.nv) ∧ g.bd.Pairwise (fun x y => y.2.2 ≤ x.2.2)
/-- what a method of the green f leaves as it was: other greens, and what is beyond the counts n -/
def oR (f : Nat) (n : Nat → Nat) (kd f' a : Nat) : Prop := f' ≠ f ∨ ((kd = 2 ∨ kd = 9) ∧ n 0 ≤ a) ∨ (kd = 3 ∧ n 1 ≤ a) ∨ ((kd = 4 ∨ kd = 10) ∧ n 2 ≤ a)
def Fr (f : Nat) (n : Nat → Nat) (M M' : Mem) : Prop := ∀ kd f' a, oR f n kd f' a → M' (kd, f', a) = M (kd, f', a)
section Frames
variable {f : Nat} {n : Nat → Nat} {M M' M2 : Mem} {a k : Nat} {v : Int32}
theorem Fr.rf : Fr f n M M := fun _ _ _ _ => Eq.refl _
theorem Fr.trans (h : Fr f n M M') (h2 : Fr f n M' M2) : Fr f n M M2 := fun kd f' a hf => (h2 kd f' a hf).trans (h kd f' a hf)
theorem Fr.b2 (h : Fr f n M M') (ha : a < n 0) : Fr f n M (up M' (2, f, a) k v) := fun kd f' a' hf => (up_ne (fun q => by cases q; unfold oR at hf; omega)).trans (h kd f' a' hf)
theorem Fr.q9 (h : Fr f n M M') (ha : a < n 0) : Fr f n M (up M' (9, f, a) k v) := fun kd f' a' hf => (up_ne (fun q => by cases q; unfold oR at hf; omega)).trans (h kd f' a' hf)
theorem Fr.h3 (h : Fr f n M M') (ha : a < n 1) : Fr f n M (up M' (3, f, a) k v) := fun kd f' a' hf => (up_ne (fun q => by cases q; unfold oR at hf; omega)).trans (h kd f' a' hf)
theorem Fr.v4 (h : Fr f n M M') (ha : a < n 2) : Fr f n M (up M' (4, f, a) k v) := fun kd f' a' hf => (up_ne (fun q => by cases q; unfold oR at hf; omega)).trans (h kd f' a' hf)
theorem Fr.p10 (h : Fr f n M M') (ha : a < n 2) : Fr f n M (up M' (10, f, a) k v) := fun kd f' a' hf => (up_ne (fun q => by cases q; unfold oR at hf; omega)).trans (h kd f' a' hf)
theorem Fr.f1 (h : Fr f n M M') : Fr f n M (up M' (1, f, a) k v) := fun kd f' a' hf => (up_ne (fun q => by cases q; unfold oR at hf; omega)).trans (h kd f' a' hf)
theorem Fr.c5 (h : Fr f n M M') : Fr f n M (up M' (5, f, a) k v) := fun kd f' a' hf => (up_ne (fun q => by cases q; unfold oR at hf; omega)).trans (h kd f' a' hf)
theorem Fr.c11 (h : Fr f n M M') : Fr f n M (up M' (11, f, a) k v) := fun kd f' a' hf => (up_ne (fun q => by cases q; unfold oR at hf; omega)).trans (h kd f' a' hf)
theorem Fr.c12 (h : Fr f n M M') : Fr f n M (up M' (12, f, a) k v) := fun kd f' a' hf => (up_ne (fun q => by cases q; unfold oR at hf; omega)).trans (h kd f' a' hf)
theorem Fr.c13 (h : Fr f n M M') : Fr f n M (up M' (13, f, a) k v) := fun kd f' a' hf => (up_ne (fun q => by cases q; unfold oR at hf; omega)).trans (h kd f' a' hf)
end Frames
theorem wkN_congr {g g' : GS} (b n : Nat) (h : ∀ a, a < n → g'.i 3 a 1 = g.i 3 a 1) : wkN g' b n = wkN g b n := by
  induction n with
  | zero => rfl
  | succ n ih =>
    unfold wkN
    rw [ih (fun a ha => h a (by omega)), h n (by omega)]
theorem wk_congr {g g' : GS} (b : Nat) (hn : g'.nh = g.nh) (h : ∀ a, a < g.nh → g'.i 3 a 1 = g.i 3 a 1) : wk g' b = wk g b := by
  unfold wk
  rw [hn]
  exact wkN_congr b _ h
theorem wk_set {g : GS} {kd a k : Nat} {x : Int32} (h : ¬ (kd = 3 ∧ k = 1)) (b : Nat) : wk (g.set kd a k x) b = wk g b :=
  wk_congr b rfl (fun c _ => by
    rw [gi_set]
    exact if_neg (fun q => h ⟨q.1.symm, q.2.2.symm⟩))
theorem wk_setq {g : GS} {F : Nat → List Nat} (b : Nat) : wk (g.setq F) b = wk g b := wk_congr b rfl (fun _ _ => rfl)
theorem wk_setbd {g : GS} {L : List (Nat × Nat × Int32)} (b : Nat) : wk (g.setbd L) b = wk g b := wk_congr b rfl (fun _ _ => rfl)
theorem wkN_le (g : GS) (b : Nat) : ∀ n, wkN g b n ≤ n
  | 0 => Nat.le_refl 0
  | n + 1 => by
    have := wkN_le g b n
    unfold wkN
    split <;> omega
theorem wk_le {g : GS} (hI : Inv g) (b : Nat) : wk g b ≤ 12 := Nat.le_trans (wkN_le g b g.nh) hI.1.2.1
section Keep
variable {f : Nat} {M : Mem} {g : GS} {x : Int32}
/-- a fact of a visitor is written -/
theorem SimC.v4 (h : SimC f M g) {v k : Nat} : SimC f (up M (4, f, v) k x) (g.set 4 v k x) := by
  obtain ⟨⟨h1, h2, h3, h4⟩, h5, h6, h7, h8, h9⟩ := h
  refine ⟨⟨by simpa [up, gi_set, gq_set, gnb_set, gnh_set, gnv_set, gbd_set] using h1, by simpa [up, gi_set, gq_set, gnb_set, gnh_set, gnv_set, gbd_set] using h2, by simpa [up, gi_set, gq_set, gnb_set, gnh_set, gnv_set, gbd_set] using h3, fun k2 a b => by simpa [up, gi_set, gq_set, gnb_set, gnh_set, gnv_set, gbd_set] using h4 k2 a b⟩, fun b hb => ?_, fun a ha k2 hk => by simpa [up, gi_set, gq_set, gnb_set, gnh_set, gnv_set, gbd_set] using h6 a ha k2 hk, fun a ha => ⟨fun k2 hk => ?_, fun b hb => by simpa [up, gi_set, gq_set, gnb_set, gnh_set, gnv_set, gbd_set] using (h7 a ha).2 b hb⟩, by simpa [up, gi_set, gq_set, gnb_set, gnh_set, gnv_set, gbd_set] using h8, fun l y hy => by simpa [up, gi_set, gq_set, gnb_set, gnh_set, gnv_set, gbd_set] using h9 l y hy⟩
  · obtain ⟨a1, a2, a3, a4⟩ := h5 b hb
    exact ⟨fun k2 c d => by simpa [up, gi_set, gq_set, gnb_set, gnh_set, gnv_set, gbd_set] using a1 k2 c d, by rw [wk_set (by omega)]; simpa [up, gi_set, gq_set, gnb_set, gnh_set, gnv_set, gbd_set] using a2, by simpa [up, gi_set, gq_set, gnb_set, gnh_set, gnv_set, gbd_set] using a3, fun i u hu => by simpa [up, gi_set, gq_set, gnb_set, gnh_set, gnv_set, gbd_set] using a4 i u hu⟩
  · simp only [up, gi_set, Prod.mk.injEq, true_and]
    split
    · rfl
    · exact (h7 a ha).1 k2 hk
/-- a fact of a booth, but its helpers and its queue -/
theorem SimC.b2 (h : SimC f M g) {v k : Nat} (hk1 : k < 7) (hk2 : k ≠ 4) : SimC f (up M (2, f, v) k x) (g.set 2 v k x) := by
  obtain ⟨⟨h1, h2, h3, h4⟩, h5, h6, h7, h8, h9⟩ := h
  refine ⟨⟨by simpa [up, gi_set, gq_set, gnb_set, gnh_set, gnv_set, gbd_set] using h1, by simpa [up, gi_set, gq_set, gnb_set, gnh_set, gnv_set, gbd_set] using h2, by simpa [up, gi_set, gq_set, gnb_set, gnh_set, gnv_set, gbd_set] using h3, fun k2 a b => by simpa [up, gi_set, gq_set, gnb_set, gnh_set, gnv_set, gbd_set] using h4 k2 a b⟩, fun b hb => ?_, fun a ha k2 hk => by simpa [up, gi_set, gq_set, gnb_set, gnh_set, gnv_set, gbd_set] using h6 a ha k2 hk, fun a ha => ⟨fun k2 hk => by simpa [up, gi_set, gq_set, gnb_set, gnh_set, gnv_set, gbd_set] using (h7 a ha).1 k2 hk, fun b hb => by simpa [up, gi_set, gq_set, gnb_set, gnh_set, gnv_set, gbd_set] using (h7 a ha).2 b hb⟩, by simpa [up, gi_set, gq_set, gnb_set, gnh_set, gnv_set, gbd_set] using h8, fun l y hy => by simpa [up, gi_set, gq_set, gnb_set, gnh_set, gnv_set, gbd_set] using h9 l y hy⟩
  obtain ⟨a1, a2, a3, a4⟩ := h5 b hb
  refine ⟨fun k2 c d => ?_, ?_, ?_, fun i u hu => by simpa [up, gi_set, gq_set, gnb_set, gnh_set, gnv_set, gbd_set] using a4 i u hu⟩
  · simp only [up, gi_set, Prod.mk.injEq, true_and]
    split
    · rfl
    · exact a1 k2 c d
  · rw [wk_set (by omega), ← a2]
    simp only [up]
    rw [if_neg (by rintro ⟨-, q⟩; exact hk2 q.symm)]
  · rw [gq_set, ← a3]
    simp only [up]
    rw [if_neg (by rintro ⟨-, q⟩; omega)]
/-- a fact of a helper, but where this one works -/
theorem SimC.h3 (h : SimC f M g) {v k : Nat} (hk1 : k ≠ 1) : SimC f (up M (3, f, v) k x) (g.set 3 v k x) := by
  obtain ⟨⟨h1, h2, h3, h4⟩, h5, h6, h7, h8, h9⟩ := h
  refine ⟨⟨by simpa [up, gi_set, gq_set, gnb_set, gnh_set, gnv_set, gbd_set] using h1, by simpa [up, gi_set, gq_set, gnb_set, gnh_set, gnv_set, gbd_set] using h2, by simpa [up, gi_set, gq_set, gnb_set, gnh_set, gnv_set, gbd_set] using h3, fun k2 a b => by simpa [up, gi_set, gq_set, gnb_set, gnh_set, gnv_set, gbd_set] using h4 k2 a b⟩, fun b hb => ?_, fun a ha k2 hk => ?_, fun a ha => ⟨fun k2 hk => by simpa [up, gi_set, gq_set, gnb_set, gnh_set, gnv_set, gbd_set] using (h7 a ha).1 k2 hk, fun b hb => by simpa [up, gi_set, gq_set, gnb_set, gnh_set, gnv_set, gbd_set] using (h7 a ha).2 b hb⟩, by simpa [up, gi_set, gq_set, gnb_set, gnh_set, gnv_set, gbd_set] using h8, fun l y hy => by simpa [up, gi_set, gq_set, gnb_set, gnh_set, gnv_set, gbd_set] using h9 l y hy⟩
  · obtain ⟨a1, a2, a3, a4⟩ := h5 b hb
    exact ⟨fun k2 c d => by simpa [up, gi_set, gq_set, gnb_set, gnh_set, gnv_set, gbd_set] using a1 k2 c d, by rw [wk_set (by omega)]; simpa [up, gi_set, gq_set, gnb_set, gnh_set, gnv_set, gbd_set] using a2, by simpa [up, gi_set, gq_set, gnb_set, gnh_set, gnv_set, gbd_set] using a3, fun i u hu => by simpa [up, gi_set, gq_set, gnb_set, gnh_set, gnv_set, gbd_set] using a4 i u hu⟩
  · simp only [up, gi_set, Prod.mk.injEq, true_and]
    split
    · rfl
    · exact h6 a ha k2 hk
/-- a practice -/
theorem SimC.p10 (h : SimC f M g) {v k : Nat} : SimC f (up M (10, f, v) k x) (g.set 10 v k x) := by
  obtain ⟨⟨h1, h2, h3, h4⟩, h5, h6, h7, h8, h9⟩ := h
  refine ⟨⟨by simpa [up, gi_set, gq_set, gnb_set, gnh_set, gnv_set, gbd_set] using h1, by simpa [up, gi_set, gq_set, gnb_set, gnh_set, gnv_set, gbd_set] using h2, by simpa [up, gi_set, gq_set, gnb_set, gnh_set, gnv_set, gbd_set] using h3, fun k2 a b => by simpa [up, gi_set, gq_set, gnb_set, gnh_set, gnv_set, gbd_set] using h4 k2 a b⟩, fun b hb => ?_, fun a ha k2 hk => by simpa [up, gi_set, gq_set, gnb_set, gnh_set, gnv_set, gbd_set] using h6 a ha k2 hk, fun a ha => ⟨fun k2 hk => by simpa [up, gi_set, gq_set, gnb_set, gnh_set, gnv_set, gbd_set] using (h7 a ha).1 k2 hk, fun b hb => ?_⟩, by simpa [up, gi_set, gq_set, gnb_set, gnh_set, gnv_set, gbd_set] using h8, fun l y hy => by simpa [up, gi_set, gq_set, gnb_set, gnh_set, gnv_set, gbd_set] using h9 l y hy⟩
  · obtain ⟨a1, a2, a3, a4⟩ := h5 b hb
    exact ⟨fun k2 c d => by simpa [up, gi_set, gq_set, gnb_set, gnh_set, gnv_set, gbd_set] using a1 k2 c d, by rw [wk_set (by omega)]; simpa [up, gi_set, gq_set, gnb_set, gnh_set, gnv_set, gbd_set] using a2, by simpa [up, gi_set, gq_set, gnb_set, gnh_set, gnv_set, gbd_set] using a3, fun i u hu => by simpa [up, gi_set, gq_set, gnb_set, gnh_set, gnv_set, gbd_set] using a4 i u hu⟩
  · simp only [up, gi_set, Prod.mk.injEq, true_and]
    split
    · rfl
    · exact (h7 a ha).2 b hb
/-- a number of the green itself, but the counts -/
theorem SimC.f1 (h : SimC f M g) {k : Nat} (hk1 : 7 ≤ k) : SimC f (up M (1, f, 0) k x) (g.set 1 0 k x) := by
  obtain ⟨⟨h1, h2, h3, h4⟩, h5, h6, h7, h8, h9⟩ := h
  refine ⟨⟨?_, ?_, ?_, fun k2 a b => ?_⟩, fun b hb => ?_, fun a ha k2 hk => by simpa [up, gi_set, gq_set, gnb_set, gnh_set, gnv_set, gbd_set] using h6 a ha k2 hk, fun a ha => ⟨fun k2 hk => by simpa [up, gi_set, gq_set, gnb_set, gnh_set, gnv_set, gbd_set] using (h7 a ha).1 k2 hk, fun b hb => by simpa [up, gi_set, gq_set, gnb_set, gnh_set, gnv_set, gbd_set] using (h7 a ha).2 b hb⟩, by simpa [up, gi_set, gq_set, gnb_set, gnh_set, gnv_set, gbd_set] using h8, fun l y hy => by simpa [up, gi_set, gq_set, gnb_set, gnh_set, gnv_set, gbd_set] using h9 l y hy⟩
  · simp only [up]; rw [if_neg (by rintro ⟨-, q⟩; omega)]; exact h1
  · simp only [up]; rw [if_neg (by rintro ⟨-, q⟩; omega)]; exact h2
  · simp only [up]; rw [if_neg (by rintro ⟨-, q⟩; omega)]; exact h3
  · simp only [up, gi_set, true_and]
    split
    · rfl
    · exact h4 k2 a b
  · obtain ⟨a1, a2, a3, a4⟩ := h5 b hb
    exact ⟨fun k2 c d => by simpa [up, gi_set, gq_set, gnb_set, gnh_set, gnv_set, gbd_set] using a1 k2 c d, by rw [wk_set (by omega)]; simpa [up, gi_set, gq_set, gnb_set, gnh_set, gnv_set, gbd_set] using a2, by simpa [up, gi_set, gq_set, gnb_set, gnh_set, gnv_set, gbd_set] using a3, fun i u hu => by simpa [up, gi_set, gq_set, gnb_set, gnh_set, gnv_set, gbd_set] using a4 i u hu⟩
end Keep
end
section
/-! ===== facts about greens, without the machine ===== -/
section Acc
variable {f : Nat} {M : Mem} {g : GS}
theorem SimC.nb (h : SimC f M g) : M (1, f, 0) 1 = nI g.nb := h.1.1
theorem SimC.nh (h : SimC f M g) : M (1, f, 0) 3 = nI g.nh := h.1.2.1
theorem SimC.nv (h : SimC f M g) : M (1, f, 0) 5 = nI g.nv := h.1.2.2.1
theorem SimC.num (h : SimC f M g) {k : Nat} (h1 : 7 ≤ k) (h2 : k ≤ 10) : M (1, f, 0) k = g.i 1 0 k := h.1.2.2.2 k h1 h2
theorem SimC.bo (h : SimC f M g) {b k : Nat} (hb : b < g.nb) (h1 : k < 7) (h2 : k ≠ 4) : M (2, f, b) k = g.i 2 b k := (h.2.1 b hb).1 k h1 h2
theorem SimC.wks (h : SimC f M g) {b : Nat} (hb : b < g.nb) : M (2, f, b) 4 = nI (wk g b) := (h.2.1 b hb).2.1
theorem SimC.ql (h : SimC f M g) {b : Nat} (hb : b < g.nb) : M (2, f, b) 7 = nI (g.q b).length := (h.2.1 b hb).2.2.1
theorem SimC.qe (h : SimC f M g) {b : Nat} (hb : b < g.nb) {i u : Nat} (hu : (g.q b)[i]? = some u) : M (9, f, b) i = nI u := (h.2.1 b hb).2.2.2 i u hu
theorem SimC.he (h : SimC f M g) {a k : Nat} (ha : a < g.nh) (h1 : k < 3) : M (3, f, a) k = g.i 3 a k := h.2.2.1 a ha k h1
theorem SimC.vi (h : SimC f M g) {v k : Nat} (hv : v < g.nv) (h1 : k < 8) : M (4, f, v) k = g.i 4 v k := (h.2.2.2.1 v hv).1 k h1
theorem SimC.pr (h : SimC f M g) {v b : Nat} (hv : v < g.nv) (h1 : b < 8) : M (10, f, v) b = g.i 10 v b := (h.2.2.2.1 v hv).2 b h1
theorem SimC.bdl (h : SimC f M g) : M (5, f, 0) 0 = nI g.bd.length := h.2.2.2.2.1
theorem SimC.bde (h : SimC f M g) {l : Nat} {x : Nat × Nat × Int32} (hx : g.bd[l]? = some x) : M (11, f, 0) l = nI x.1 ∧ M (12, f, 0) l = nI x.2.1 ∧ M (13, f, 0) l = x.2.2 := h.2.2.2.2.2 l x hx
theorem Inv.nb8 (h : Inv g) : g.nb ≤ 8 := h.1.1
theorem Inv.nh12 (h : Inv g) : g.nh ≤ 12 := h.1.2.1
theorem Inv.nv16 (h : Inv g) : g.nv ≤ 16 := h.1.2.2
theorem Inv.hat (h : Inv g) {a : Nat} (ha : a < g.nh) : g.i 3 a 1 = -1 ∨ ∃ b, b < g.nb ∧ g.i 3 a 1 = nI b := (h.2.1 a ha).1
theorem Inv.hst (h : Inv g) {a : Nat} (ha : a < g.nh) : 0 < g.i 3 a 0 ∧ g.i 3 a 0 ≤ 24 := (h.2.1 a ha).2
theorem Inv.vho (h : Inv g) {v : Nat} (hv : v < g.nv) : g.i 4 v 2 = 0 ∨ g.i 4 v 2 = 1 := (h.2.2.1 v hv).1
theorem Inv.vat (h : Inv g) {v : Nat} (hv : v < g.nv) : g.i 4 v 3 = -1 ∨ ∃ b, b < g.nb ∧ g.i 4 v 3 = nI b := (h.2.2.1 v hv).2.1
theorem Inv.vha (h : Inv g) {v : Nat} (hv : v < g.nv) (h1 : g.i 4 v 2 = 1) : g.i 4 v 3 = -1 := (h.2.2.1 v hv).2.2.1 h1
theorem Inv.vpr (h : Inv g) {v b : Nat} (hv : v < g.nv) (hb : b < 8) : 0 ≤ g.i 10 v b ∧ g.i 10 v b ≤ 9 := (h.2.2.1 v hv).2.2.2 b hb
theorem Inv.qnd (h : Inv g) {b : Nat} (hb : b < g.nb) : (g.q b).Nodup := (h.2.2.2.1 b hb).1
theorem Inv.qm (h : Inv g) {b v : Nat} (hb : b < g.nb) : v ∈ g.q b ↔ v < g.nv ∧ g.i 4 v 3 = nI b := (h.2.2.2.1 b hb).2.1 v
theorem Inv.bpz (h : Inv g) {b : Nat} (hb : b < g.nb) : 0 ≤ g.i 2 b 2 := (h.2.2.2.1 b hb).2.2
theorem Inv.bd3 (h : Inv g) : g.bd.length ≤ 3 := h.2.2.2.2.1
theorem Inv.bdv (h : Inv g) {x : Nat × Nat × Int32} (hx : x ∈ g.bd) : x.1 < g.nv := h.2.2.2.2.2.1 x hx
theorem Inv.bds (h : Inv g) : g.bd.Pairwise (fun x y => y.2.2 ≤ x.2.2) := h.2.2.2.2.2.2
end Acc
theorem nI_m1 {n : Nat} (h : n < 2 ^ 31) : nI n ≠ -1 := fun q => absurd (show nI n < 0 by rw [q]; decide) (nI_pos h)
theorem nI_inj {a b : Nat} (ha : a < 2 ^ 31) (hb : b < 2 ^ 31) (h : nI a = nI b) : a = b := (nI_eq ha hb).mp h
theorem nodup_len : ∀ (n : Nat) (L : List Nat), L.Nodup → (∀ u, u ∈ L → u < n) → L.length ≤ n
  | 0, L, _, h => by
    cases L with
    | nil => exact Nat.le_refl 0
    | cons a L => exact absurd (h a List.mem_cons_self) (by omega)
  | n + 1, L, hn, h => by
    by_cases hm : n ∈ L
    · have h1 := nodup_len n (L.erase n) (hn.erase n) (fun u hu => by
        have := (hn.mem_erase_iff).mp hu
        have := h u this.2
        omega)
      rw [List.length_erase_of_mem hm] at h1
      omega
    · have := nodup_len n L hn (fun u hu => by
        have h2 := h u hu
        have : u ≠ n := fun q => hm (q ▸ hu)
        omega)
      omega
theorem filter_id {L : List Nat} {v : Nat} (h : v ∉ L) : L.filter (fun u => u != v) = L := List.filter_eq_self.mpr (fun u hu => by simp; intro q; exact h (q ▸ hu))
theorem Inv.ql16 {g : GS} (h : Inv g) {b : Nat} (hb : b < g.nb) : (g.q b).length ≤ 16 := Nat.le_trans (nodup_len g.nv _ (h.qnd hb) (fun u hu => ((h.qm hb).mp hu).1)) h.nv16
/-- the count of helpers when one goes elsewhere -/
theorem wkN_set {g : GS} {h : Nat} {x : Int32} (b : Nat) : ∀ n, wkN (g.set 3 h 1 x) b n + (if h < n ∧ g.i 3 h 1 = nI b then 1 else 0) = wkN g b n + (if h < n ∧ x = nI b then 1 else 0)
  | 0 => by simp [wkN]
  | n + 1 => by
    have ih := wkN_set (g := g) (h := h) (x := x) b n
    unfold wkN
    by_cases hn : n = h
    · subst hn
      rw [gi_set]
      simp only [true_and, if_true, Nat.lt_irrefl, false_and, if_false, Nat.lt_succ_self] at ih ⊢
      split <;> split <;> omega
    · have e1 : (h < n + 1) ↔ (h < n) := by omega
      have e2 : (g.set 3 h 1 x).i 3 n 1 = g.i 3 n 1 := by rw [gi_set, if_neg (by omega)]
      simp only [e1, e2]
      omega
theorem wk_send {g : GS} {h : Nat} {x : Int32} (b : Nat) (hh : h < g.nh) : wk (g.set 3 h 1 x) b + (if g.i 3 h 1 = nI b then 1 else 0) = wk g b + (if x = nI b then 1 else 0) := by
  have := wkN_set (g := g) (h := h) (x := x) b g.nh
  simp only [hh, true_and] at this
  exact this
section Keep2
variable {f : Nat} {M M' : Mem} {g : GS}
theorem SimC.send (hS : SimC f M g) {h : Nat} {x : Int32} (hM : ∀ kd a k, ¬ (kd = 2 ∧ k = 4) → ¬ (kd = 3 ∧ a = h ∧ k = 1) → M' (kd, f, a) k = M (kd, f, a) k) (hx : M' (3, f, h) 1 = x) (hw : ∀ b, b < g.nb → M' (2, f, b) 4 = nI (wk (g.set 3 h 1 x) b)) : SimC f M' (g.set 3 h 1 x) := by
  obtain ⟨⟨h1, h2, h3, h4⟩, h5, h6, h7, h8, h9⟩ := hS
  refine ⟨⟨by rw [hM _ _ _ (by omega) (by omega)]; exact h1, by rw [hM _ _ _ (by omega) (by omega)]; exact h2, by rw [hM _ _ _ (by omega) (by omega)]; exact h3, fun k2 a b => ?_⟩, fun b hb => ?_, fun a ha k2 hk => ?_, fun a ha => ⟨fun k2 hk => ?_, fun b hb => ?_⟩, ?_, fun l y hy => ?_⟩
  · rw [hM _ _ _ (by omega) (by omega), gi_set, if_neg (by omega)]; exact h4 k2 a b
  · obtain ⟨a1, a2, a3, a4⟩ := h5 b hb
    refine ⟨fun k2 c d => ?_, hw b hb, ?_, fun i u hu => ?_⟩
    · rw [hM _ _ _ (by omega) (by omega), gi_set, if_neg (by omega)]; exact a1 k2 c d
    · rw [hM _ _ _ (by omega) (by omega)]; exact a3
    · rw [hM _ _ _ (by omega) (by omega)]; exact a4 i u hu
  · by_cases hc : a = h ∧ k2 = 1
    · obtain ⟨rfl, rfl⟩ := hc
      rw [gi_set, if_pos ⟨rfl, rfl, rfl⟩]; exact hx
    · rw [hM _ _ _ (by omega) (by omega), gi_set, if_neg (by omega)]; exact h6 a ha k2 hk
  · rw [hM _ _ _ (by omega) (by omega), gi_set, if_neg (by omega)]; exact (h7 a ha).1 k2 hk
  · rw [hM _ _ _ (by omega) (by omega), gi_set, if_neg (by omega)]; exact (h7 a ha).2 b hb
  · rw [hM _ _ _ (by omega) (by omega)]; exact h8
  · rw [hM _ _ _ (by omega) (by omega), hM _ _ _ (by omega) (by omega), hM _ _ _ (by omega) (by omega)]; exact h9 l y hy
/-- queues are others -/
theorem SimC.setq (hS : SimC f M g) {F : Nat → List Nat} (hM : ∀ kd a k, kd ≠ 9 → ¬ (kd = 2 ∧ k = 7) → M' (kd, f, a) k = M (kd, f, a) k) (hl : ∀ b, b < g.nb → M' (2, f, b) 7 = nI (F b).length ∧ ∀ i u, (F b)[i]? = some u → M' (9, f, b) i = nI u) : SimC f M' (g.setq F) := by
  obtain ⟨⟨h1, h2, h3, h4⟩, h5, h6, h7, h8, h9⟩ := hS
  refine ⟨⟨by rw [hM _ _ _ (by omega) (by omega)]; exact h1, by rw [hM _ _ _ (by omega) (by omega)]; exact h2, by rw [hM _ _ _ (by omega) (by omega)]; exact h3, fun k2 a b => ?_⟩, fun b hb => ?_, fun a ha k2 hk => ?_, fun a ha => ⟨fun k2 hk => ?_, fun b hb => ?_⟩, ?_, fun l y hy => ?_⟩
  · rw [hM _ _ _ (by omega) (by omega)]; exact h4 k2 a b
  · obtain ⟨a1, a2, a3, a4⟩ := h5 b hb
    refine ⟨fun k2 c d => ?_, ?_, (hl b hb).1, (hl b hb).2⟩
    · rw [hM _ _ _ (by omega) (by omega)]; exact a1 k2 c d
    · rw [hM _ _ _ (by omega) (by omega), wk_setq]; exact a2
  · rw [hM _ _ _ (by omega) (by omega)]; exact h6 a ha k2 hk
  · rw [hM _ _ _ (by omega) (by omega)]; exact (h7 a ha).1 k2 hk
  · rw [hM _ _ _ (by omega) (by omega)]; exact (h7 a ha).2 b hb
  · rw [hM _ _ _ (by omega) (by omega)]; exact h8
  · rw [hM _ _ _ (by omega) (by omega), hM _ _ _ (by omega) (by omega), hM _ _ _ (by omega) (by omega)]; exact h9 l y hy
/-- the board is another -/
theorem SimC.setbd (hS : SimC f M g) {L : List (Nat × Nat × Int32)} (hM : ∀ kd a k, kd ≠ 11 → kd ≠ 12 → kd ≠ 13 → ¬ (kd = 5 ∧ k = 0) → M' (kd, f, a) k = M (kd, f, a) k) (hl : M' (5, f, 0) 0 = nI L.length) (he : ∀ l x, L[l]? = some x → M' (11, f, 0) l = nI x.1 ∧ M' (12, f, 0) l = nI x.2.1 ∧ M' (13, f, 0) l = x.2.2) : SimC f M' (g.setbd L) := by
  obtain ⟨⟨h1, h2, h3, h4⟩, h5, h6, h7, h8, h9⟩ := hS
  refine ⟨⟨by rw [hM _ _ _ (by omega) (by omega) (by omega) (by omega)]; exact h1, by rw [hM _ _ _ (by omega) (by omega) (by omega) (by omega)]; exact h2, by rw [hM _ _ _ (by omega) (by omega) (by omega) (by omega)]; exact h3, fun k2 a b => ?_⟩, fun b hb => ?_, fun a ha k2 hk => ?_, fun a ha => ⟨fun k2 hk => ?_, fun b hb => ?_⟩, hl, he⟩
  · rw [hM _ _ _ (by omega) (by omega) (by omega) (by omega)]; exact h4 k2 a b
  · obtain ⟨a1, a2, a3, a4⟩ := h5 b hb
    refine ⟨fun k2 c d => ?_, ?_, ?_, fun i u hu => ?_⟩
    · rw [hM _ _ _ (by omega) (by omega) (by omega) (by omega)]; exact a1 k2 c d
    · rw [hM _ _ _ (by omega) (by omega) (by omega) (by omega), wk_setbd]; exact a2
    · rw [hM _ _ _ (by omega) (by omega) (by omega) (by omega)]; exact a3
    · rw [hM _ _ _ (by omega) (by omega) (by omega) (by omega)]; exact a4 i u hu
  · rw [hM _ _ _ (by omega) (by omega) (by omega) (by omega)]; exact h6 a ha k2 hk
  · rw [hM _ _ _ (by omega) (by omega) (by omega) (by omega)]; exact (h7 a ha).1 k2 hk
  · rw [hM _ _ _ (by omega) (by omega) (by omega) (by omega)]; exact (h7 a ha).2 b hb
end Keep2
theorem i_nlt {a b : Int32} : ¬ a < b ↔ b ≤ a := by rw [Int32.lt_iff_toInt_lt, Int32.le_iff_toInt_le]; omega
theorem i_nle {a b : Int32} : ¬ a ≤ b ↔ b < a := by rw [Int32.lt_iff_toInt_lt, Int32.le_iff_toInt_le]; omega
def enc : Option Nat → Int32
  | none => -1
  | some o => nI o
theorem bestN_lt {g : GS} {v o : Nat} : ∀ {n : Nat}, bestN g v n = some o → o < n
  | 0, h => by simp [bestN] at h
  | n + 1, h => by
    unfold bestN at h
    split at h
    · cases h; omega
    · have := bestN_lt h; omega
def upr (M : Mem) (i : Pid) (A : Nat → Int32) : Mem := fun j => if j = i then A else M j
theorem upr_at {M : Mem} {i : Pid} {A : Nat → Int32} : upr M i A i = A := by simp [upr]
theorem upr_ne {M : Mem} {i j : Pid} {A : Nat → Int32} (h : j ≠ i) : upr M i A j = M j := by simp [upr, h]
theorem up_upr {M : Mem} {i : Pid} {A : Nat → Int32} {k : Nat} {v : Int32} : up (upr M i A) i k v = upr M i (upd A k v) := by
  funext j n
  by_cases h : j = i
  · subst h; simp [up, upr, upd]
  · simp [up, upr, h]
theorem upr_self {M : Mem} {i : Pid} : upr M i (M i) = M := by
  funext j
  by_cases h : j = i
  · subst h; simp [upr]
  · simp [upr, h]
theorem Fr.r9 {f : Nat} {n : Nat → Nat} {M M' : Mem} {a : Nat} {A : Nat → Int32} (h : Fr f n M M') (ha : a < n 0) : Fr f n M (upr M' (9, f, a) A) := fun kd f' a' hf => (upr_ne (fun q => by cases q; unfold oR at hf; omega)).trans (h kd f' a' hf)
end
section
/-! ===== the small methods of the nested classes ===== -/
section Leaf
variable {E : EX} {M : Mem} {f b : Nat}
theorem c_isOpen (hf : f < 2) (hb : b < 8) : Ret E idsC yX0_isOpen cX0_isOpen 1 (some .boolean) 0 0 [.ref (E.ad (2, f, b))] M (fun r M' => r = some (.int (if M (2, f, b) 4 < M (2, f, b) 3 then 0 else 1)) ∧ M = M') := by
  refine Ret_of_V RX0 (by decide) rfl idsC_nd [some (.ref (E.ad (2, f, b)))] rfl (Nat.le_of_ble_eq_true rfl) (fun κ hE G E9 hr => ?_)
  subst hE
  refine s_aload_n G dX0_isOpen_0 rfl ?_
  refine gX0_28 G (by assumption) (by assumption) dX0_isOpen_1 ?_
  refine s_aload_n G dX0_isOpen_4 rfl ?_
  refine gX0_25 G (by assumption) (by assumption) dX0_isOpen_5 ?_
  refine s_icmp_lt G 15 dX0_isOpen_8 (by decide) (fun h8 => ?_) (fun h8 => ?_)
  · refine s_iconst (v := 0) G dX0_isOpen_15 (by decide) ?_
    exact s_zret G E9 hr (by first | exact Or.inl rfl | exact Or.inr rfl | assumption | (split <;> simp)) dX0_isOpen_16 (by simp [h8])
  · refine s_iconst (v := 1) G dX0_isOpen_11 (by decide) ?_
    refine s_goto G 16 dX0_isOpen_12 (by decide) ?_
    exact s_zret G E9 hr (by first | exact Or.inl rfl | exact Or.inr rfl | assumption | (split <;> simp)) dX0_isOpen_16 (by simp [h8])
theorem c_enqueue {q : Nat} (hf : f < 2) (hb : b < 8) (hq : q < 16) (hM : M (2, f, b) 7 = nI q) (v : Int32) : Ret E idsC yX0_enqueue cX0_enqueue 2 (some .boolean) 0 0 [.ref (E.ad (2, f, b)), .int v] M (fun r M' => r = some (.int 1) ∧ M' = up (up M (9, f, b) q v) (2, f, b) 7 (nI (q + 1))) := by
  refine Ret_of_V RX0 (by decide) rfl idsC_nd [some (.ref (E.ad (2, f, b))), some (.int v)] rfl (Nat.le_of_ble_eq_true rfl) (fun κ hE G E9 hr => ?_)
  subst hE
  refine s_aload_n G dX0_enqueue_0 rfl ?_
  refine gX0_37 G (by assumption) (by assumption) dX0_enqueue_1 ?_
  refine s_if_lt G 16 dX0_enqueue_4 (by decide) (fun h4 => ?_) (fun h4 => ?_)
  · rw [hM] at h4
    exact absurd h4 (nI_pos (by omega))
  refine s_aload_n G dX0_enqueue_7 rfl ?_
  refine gX0_37 G (by assumption) (by assumption) dX0_enqueue_8 ?_
  refine s_bipush (v := 16) G dX0_enqueue_11 (by decide) ?_
  refine s_icmp_lt G 18 dX0_enqueue_13 (by decide) (fun h13 => ?_) (fun h13 => ?_)
  · refine s_aload_n G dX0_enqueue_18 rfl ?_
    refine gX0_9 G (by assumption) (by assumption) dX0_enqueue_19 ?_
    refine s_aload_n G dX0_enqueue_22 rfl ?_
    refine gX0_37 G (by assumption) (by assumption) dX0_enqueue_23 ?_
    refine s_iload_n G dX0_enqueue_26 rfl ?_
    refine as_9 G (by assumption) (by assumption) hM hq dX0_enqueue_27 ?_
    refine s_aload_n G dX0_enqueue_28 rfl ?_
    refine s_dup G dX0_enqueue_29 rfl ?_
    refine gX0_37 G (by assumption) (by assumption) dX0_enqueue_30 ?_
    refine s_iconst (v := 1) G dX0_enqueue_33 (by decide) ?_
    refine s_iadd G dX0_enqueue_34 ?_
    refine pX0_37 G (by assumption) (by assumption) dX0_enqueue_35 ?_
    refine s_iconst (v := 1) G dX0_enqueue_38 (by decide) ?_
    refine s_zret G E9 hr (Or.inr rfl) dX0_enqueue_39 ⟨rfl, by simp [up_at, up_ne, hM, nI_1]⟩
  · rw [hM] at h13
    exact absurd (nI_lt (by omega : q < 16) (by decide)) h13
theorem c_rest (hf : f < 2) (hb : b < 12) : Ret E idsC yX3_rest cX3_rest 1 none 1 21 [.ref (E.ad (3, f, b))] M (fun r M' => r = none ∧ M' = up M (3, f, b) 0 (min9 (M (3, f, b) 0 + 2) 24)) := by
  refine Ret_of_V RX3 (by decide) rfl idsC_nd [some (.ref (E.ad (3, f, b)))] rfl (Nat.le_of_ble_eq_true rfl) (fun κ hE G E9 hr => ?_)
  subst hE
  refine s_aload_n G dX3_rest_0 rfl ?_
  refine s_aload_n G dX3_rest_1 rfl ?_
  refine gX3_9 G (by assumption) (by assumption) dX3_rest_2 ?_
  refine s_iconst (v := 2) G dX3_rest_5 (by decide) ?_
  refine s_iadd G dX3_rest_6 ?_
  refine s_bipush (v := 24) G dX3_rest_7 (by decide) ?_
  refine iX3_21 G dX3_rest_9 (by decide) (Nat.le_of_ble_eq_true rfl) ?_
  refine pX3_9 G (by assumption) (by assumption) dX3_rest_12 ?_
  exact s_vret G E9 hr dX3_rest_15 (by exact ⟨rfl, rfl⟩)
theorem c_begin3 (hf : f < 2) (hb : b < 12) : Ret E idsC yX3_begin cX3_begin 1 none 0 0 [.ref (E.ad (3, f, b))] M (fun r M' => r = none ∧ M' = up (up M (3, f, b) 0 24) (3, f, b) 1 (-1)) := by
  refine Ret_of_V RX3 (by decide) rfl idsC_nd [some (.ref (E.ad (3, f, b)))] rfl (Nat.le_of_ble_eq_true rfl) (fun κ hE G E9 hr => ?_)
  subst hE
  refine s_aload_n G dX3_begin_0 rfl ?_
  refine s_bipush (v := 24) G dX3_begin_1 (by decide) ?_
  refine pX3_9 G (by assumption) (by assumption) dX3_begin_3 ?_
  refine s_aload_n G dX3_begin_6 rfl ?_
  refine s_iconst (v := -1) G dX3_begin_7 (by decide) ?_
  refine pX3_15 G (by assumption) (by assumption) dX3_begin_8 ?_
  exact s_vret G E9 hr dX3_begin_11 (by exact ⟨rfl, rfl⟩)
theorem c_begin0 (hf : f < 2) (hb : b < 8) (a1 a2 a3 a4 : Int32) : Ret E idsC yX0_begin cX0_begin 5 none 0 0 [.ref (E.ad (2, f, b)), .int a1, .int a2, .int a3, .int a4] M (fun r M' => r = none ∧ M' = up (up (up (up M (2, f, b) 0 a1) (2, f, b) 1 a2) (2, f, b) 2 a3) (2, f, b) 3 a4) := by
  refine Ret_of_V RX0 (by decide) rfl idsC_nd [some (.ref (E.ad (2, f, b))), some (.int a1), some (.int a2), some (.int a3), some (.int a4)] rfl (Nat.le_of_ble_eq_true rfl) (fun κ hE G E9 hr => ?_)
  subst hE
  refine s_aload_n G dX0_begin_0 rfl ?_
  refine s_iload_n G dX0_begin_1 rfl ?_
  refine pX0_15 G (by assumption) (by assumption) dX0_begin_2 ?_
  refine s_aload_n G dX0_begin_5 rfl ?_
  refine s_iload_n G dX0_begin_6 rfl ?_
  refine pX0_19 G (by assumption) (by assumption) dX0_begin_7 ?_
  refine s_aload_n G dX0_begin_10 rfl ?_
  refine s_iload_n G dX0_begin_11 rfl ?_
  refine pX0_22 G (by assumption) (by assumption) dX0_begin_12 ?_
  refine s_aload_n G dX0_begin_15 rfl ?_
  refine s_iload G dX0_begin_16 rfl ?_
  refine pX0_25 G (by assumption) (by assumption) dX0_begin_18 ?_
  exact s_vret G E9 hr dX0_begin_21 (by exact ⟨rfl, rfl⟩)
theorem c_begin4 (hf : f < 2) (hb : b < 16) (a1 a2 : Int32) : Ret E idsC yX4_begin cX4_begin 3 none 0 0 [.ref (E.ad (4, f, b)), .int a1, .int a2] M (fun r M' => r = none ∧ M' = up (up (up M (4, f, b) 0 a1) (4, f, b) 1 a2) (4, f, b) 3 (-1)) := by
  refine Ret_of_V RX4 (by decide) rfl idsC_nd [some (.ref (E.ad (4, f, b))), some (.int a1), some (.int a2)] rfl (Nat.le_of_ble_eq_true rfl) (fun κ hE G E9 hr => ?_)
  subst hE
  refine s_aload_n G dX4_begin_0 rfl ?_
  refine s_iload_n G dX4_begin_1 rfl ?_
  refine pX4_15 G (by assumption) (by assumption) dX4_begin_2 ?_
  refine s_aload_n G dX4_begin_5 rfl ?_
  refine s_iload_n G dX4_begin_6 rfl ?_
  refine pX4_19 G (by assumption) (by assumption) dX4_begin_7 ?_
  refine s_aload_n G dX4_begin_10 rfl ?_
  refine s_iconst (v := -1) G dX4_begin_11 (by decide) ?_
  refine pX4_22 G (by assumption) (by assumption) dX4_begin_12 ?_
  exact s_vret G E9 hr dX4_begin_15 (by exact ⟨rfl, rfl⟩)
theorem c_fact3 {k : Nat} (hf : f < 2) (hb : b < 12) (hk : k < 3) : Ret E idsC yX3_fact cX3_fact 2 (some .int) 0 0 [.ref (E.ad (3, f, b)), .int (nI k)] M (fun r M' => r = some (.int (M (3, f, b) k)) ∧ M = M') := by
  refine Ret_of_V RX3 (by decide) rfl idsC_nd [some (.ref (E.ad (3, f, b))), some (.int (nI k))] rfl (Nat.le_of_ble_eq_true rfl) (fun κ hE G E9 hr => ?_)
  subst hE
  refine s_iload_n G dX3_fact_0 rfl ?_
  match k, hk with
  | 0, _ =>
    refine s_lookup (off := 27) G 28 dX3_fact_1 (by decide) (by decide) (by decide) ?_
    refine s_aload_n G dX3_fact_28 rfl ?_
    refine gX3_9 G (by assumption) (by assumption) dX3_fact_29 ?_
    exact s_iret G E9 hr dX3_fact_32 (by exact ⟨rfl, rfl⟩)
  | 1, _ =>
    refine s_lookup (off := 32) G 33 dX3_fact_1 (by decide) (by decide) (by decide) ?_
    refine s_aload_n G dX3_fact_33 rfl ?_
    refine gX3_15 G (by assumption) (by assumption) dX3_fact_34 ?_
    exact s_iret G E9 hr dX3_fact_37 (by exact ⟨rfl, rfl⟩)
  | 2, _ =>
    refine s_lookup (off := 37) G 38 dX3_fact_1 (by decide) (by decide) (by decide) ?_
    refine s_aload_n G dX3_fact_38 rfl ?_
    refine gX3_18 G (by assumption) (by assumption) dX3_fact_39 ?_
    exact s_iret G E9 hr dX3_fact_42 (by exact ⟨rfl, rfl⟩)
  | k + 3, h => omega
theorem c_strolls (hf : f < 2) (hb : b < 16) : Ret E idsC yX4_strolls cX4_strolls 1 (some .boolean) 0 0 [.ref (E.ad (4, f, b))] M (fun r M' => r = some (.int (if M (4, f, b) 2 = 0 ∧ M (4, f, b) 3 = -1 then 1 else 0)) ∧ M = M') := by
  refine Ret_of_V RX4 (by decide) rfl idsC_nd [some (.ref (E.ad (4, f, b)))] rfl (Nat.le_of_ble_eq_true rfl) (fun κ hE G E9 hr => ?_)
  subst hE
  refine s_aload_n G dX4_strolls_0 rfl ?_
  refine gX4_25 G (by assumption) (by assumption) dX4_strolls_1 ?_
  refine s_if_ne G 19 dX4_strolls_4 (by decide) (fun h4 => ?_) (fun h4 => ?_)
  · refine s_iconst (v := 0) G dX4_strolls_19 (by decide) ?_
    exact s_zret G E9 hr (by first | exact Or.inl rfl | exact Or.inr rfl | assumption | (split <;> simp)) dX4_strolls_20 (by first | exact ⟨by simp_all, rfl⟩ | exact ⟨by rw [if_pos (by first | exact ⟨h4, h12⟩ | exact ⟨by simpa using h4, by simpa using h12⟩)], rfl⟩)
  · refine s_aload_n G dX4_strolls_7 rfl ?_
    refine gX4_22 G (by assumption) (by assumption) dX4_strolls_8 ?_
    refine s_iconst (v := -1) G dX4_strolls_11 (by decide) ?_
    refine s_icmp_ne G 19 dX4_strolls_12 (by decide) (fun h12 => ?_) (fun h12 => ?_)
    · refine s_iconst (v := 0) G dX4_strolls_19 (by decide) ?_
      exact s_zret G E9 hr (by first | exact Or.inl rfl | exact Or.inr rfl | assumption | (split <;> simp)) dX4_strolls_20 (by first | exact ⟨by simp_all, rfl⟩ | exact ⟨by rw [if_pos (by first | exact ⟨h4, h12⟩ | exact ⟨by simpa using h4, by simpa using h12⟩)], rfl⟩)
    · refine s_iconst (v := 1) G dX4_strolls_15 (by decide) ?_
      refine s_goto G 20 dX4_strolls_16 (by decide) ?_
      exact s_zret G E9 hr (by first | exact Or.inl rfl | exact Or.inr rfl | assumption | (split <;> simp)) dX4_strolls_20 (by first | exact ⟨by simp_all, rfl⟩ | exact ⟨by rw [if_pos (by first | exact ⟨h4, h12⟩ | exact ⟨by simpa using h4, by simpa using h12⟩)], rfl⟩)
theorem c_state (hf : f < 2) (hb : b < 16) : Ret E idsC yX4_state cX4_state 1 (some .int) 0 0 [.ref (E.ad (4, f, b))] M (fun r M' => r = some (.int (if M (4, f, b) 2 = 0 then (if M (4, f, b) 3 = -1 then 0 else 1) else 2)) ∧ M = M') := by
  refine Ret_of_V RX4 (by decide) rfl idsC_nd [some (.ref (E.ad (4, f, b)))] rfl (Nat.le_of_ble_eq_true rfl) (fun κ hE G E9 hr => ?_)
  subst hE
  refine s_aload_n G dX4_state_0 rfl ?_
  refine gX4_25 G (by assumption) (by assumption) dX4_state_1 ?_
  refine s_if_eq G 9 dX4_state_4 (by decide) (fun h4 => ?_) (fun h4 => ?_)
  · refine s_aload_n G dX4_state_9 rfl ?_
    refine gX4_22 G (by assumption) (by assumption) dX4_state_10 ?_
    refine s_iconst (v := -1) G dX4_state_13 (by decide) ?_
    refine s_icmp_ne G 21 dX4_state_14 (by decide) (fun h14 => ?_) (fun h14 => ?_)
    · refine s_iconst (v := 1) G dX4_state_21 (by decide) ?_
      exact s_iret G E9 hr dX4_state_22 (by exact ⟨by simp_all, rfl⟩)
    · refine s_iconst (v := 0) G dX4_state_17 (by decide) ?_
      refine s_goto G 22 dX4_state_18 (by decide) ?_
      exact s_iret G E9 hr dX4_state_22 (by exact ⟨by simp_all, rfl⟩)
  · refine s_iconst (v := 2) G dX4_state_7 (by decide) ?_
    exact s_iret G E9 hr dX4_state_8 (by exact ⟨by simp_all, rfl⟩)
end Leaf
/-! ===== one leaves a queue ===== -/
theorem take_filter {L : List Nat} {i u : Nat} (p : Nat → Bool) (h : L[i]? = some u) : (L.take (i + 1)).filter p = (L.take i).filter p ++ (if p u = true then [u] else []) := by
  rw [List.take_succ, h, List.filter_append]
  by_cases hp : p u = true
  · simp [hp]
  · simp [hp]
theorem filter_take_le (L : List Nat) (i : Nat) (p : Nat → Bool) : ((L.take i).filter p).length ≤ i := Nat.le_trans (List.length_filter_le _ _) (by rw [List.length_take]; exact Nat.min_le_left _ _)
section Deq
variable {E : EX} {M : Mem} {f b : Nat}
theorem c_dequeue {L : List Nat} (hf : f < 2) (hb : b < 8) (hq : M (2, f, b) 7 = nI L.length) (hL : L.length ≤ 16) (hM : ∀ i u, L[i]? = some u → M (9, f, b) i = nI u) (hu : ∀ u, u ∈ L → u < 16) {v : Nat} (hv : v < 16) : Ret E idsC yX0_dequeue cX0_dequeue 4 none 0 0 [.ref (E.ad (2, f, b)), .int (nI v)] M (fun r M' => r = none ∧ ∃ A, M' = up (upr M (9, f, b) A) (2, f, b) 7 (nI (L.filter (fun u => u != v)).length) ∧ ∀ i u, (L.filter (fun u => u != v))[i]? = some u → A i = nI u) := by
  refine Ret_of_V RX0 (by decide) rfl idsC_nd [some (.ref (E.ad (2, f, b))), some (.int (nI v)), none, none] rfl (Nat.le_of_ble_eq_true rfl) (fun κ hE G E9 hr => ?_)
  subst hE
  have loop : ∀ n i, i + n = L.length → ∀ A : Nat → Int32, (∀ j u, ((L.take i).filter (fun u => u != v))[j]? = some u → A j = nI u) → (∀ j u, i ≤ j → L[j]? = some u → A j = nI u) → V κ idsC 4 (upr M (9, f, b) A) [some (.ref (κ.E.ad (2, f, b))), some (.int (nI v)), some (.int (nI ((L.take i).filter (fun u => u != v)).length)), some (.int (nI i))] [] 4 := by
    intro n
    induction n with
    | zero =>
      intro i hi A hA hB
      have hi : i = L.length := by omega
      subst hi
      refine s_iload_n G dX0_dequeue_4 rfl ?_
      refine s_aload_n G dX0_dequeue_5 rfl ?_
      refine gX0_37 G (by assumption) (by assumption) dX0_dequeue_6 ?_
      refine s_icmp_ge G 49 dX0_dequeue_9 (by decide) (fun h9 => ?_) (fun h9 => ?_)
      · refine s_aload_n G dX0_dequeue_49 rfl ?_
        refine s_iload_n G dX0_dequeue_50 rfl ?_
        refine pX0_37 G (by assumption) (by assumption) dX0_dequeue_51 ?_
        refine s_vret G E9 hr dX0_dequeue_54 ⟨rfl, A, by rw [List.take_length], fun i u h => hA i u (by rw [List.take_length]; exact h)⟩
      · rw [upr_ne (by simp), hq] at h9
        exact absurd (nI_le (Nat.le_refl _) (by omega)) h9
    | succ n ih =>
      intro i hi A hA hB
      have hil : i < L.length := by omega
      have hi16 : i < 16 := by omega
      have hui : L[i]? = some L[i] := List.getElem?_eq_getElem hil
      have hAi : A i = nI L[i] := hB i _ (Nat.le_refl _) hui
      have hu16 : L[i] < 16 := hu _ (List.getElem_mem hil)
      have hkept := filter_take_le L i (fun u => u != v)
      refine s_iload_n G dX0_dequeue_4 rfl ?_
      refine s_aload_n G dX0_dequeue_5 rfl ?_
      refine gX0_37 G (by assumption) (by assumption) dX0_dequeue_6 ?_
      refine s_icmp_ge G 49 dX0_dequeue_9 (by decide) (fun h9 => ?_) (fun h9 => ?_)
      · rw [upr_ne (by simp), hq] at h9
        exact absurd h9 (nI_ge hil (by omega))
      refine s_iload_n G dX0_dequeue_12 rfl ?_
      refine s_bipush (v := 16) G dX0_dequeue_13 (by decide) ?_
      refine s_icmp_ge G 49 dX0_dequeue_15 (by decide) (fun h15 => ?_) (fun h15 => ?_)
      · exact absurd h15 (nI_ge hi16 (by decide))
      refine s_aload_n G dX0_dequeue_18 rfl ?_
      refine gX0_9 G (by assumption) (by assumption) dX0_dequeue_19 ?_
      refine s_iload_n G dX0_dequeue_22 rfl ?_
      refine al_9 G (by assumption) (by assumption) rfl (by first | assumption | omega) dX0_dequeue_23 ?_
      refine s_iload_n G dX0_dequeue_24 rfl ?_
      refine s_icmp_eq G 43 dX0_dequeue_25 (by decide) (fun h25 => ?_) (fun h25 => ?_)
      · rw [upr_at, hAi] at h25
        have huv : L[i] = v := (nI_eq (by omega) (by omega)).mp h25
        refine s_iinc G dX0_dequeue_43 rfl (by decide) rfl (nI_1 i) ?_
        refine s_goto G 4 dX0_dequeue_46 (by decide) ?_
        have hk := take_filter (fun u => u != v) hui
        rw [if_neg (by simp [huv]), List.append_nil] at hk
        rw [← hk]
        exact ih (i + 1) (by omega) A (fun j u h => hA j u (by rw [hk] at h; exact h)) (fun j u h1 h2 => hB j u (by omega) h2)
      · rw [upr_at, hAi] at h25
        have huv : L[i] ≠ v := fun q => h25 (by rw [q])
        have hk := take_filter (fun u => u != v) hui
        rw [if_pos (by simp [huv])] at hk
        refine s_aload_n G dX0_dequeue_28 rfl ?_
        refine gX0_9 G (by assumption) (by assumption) dX0_dequeue_29 ?_
        refine s_iload_n G dX0_dequeue_32 rfl ?_
        refine s_aload_n G dX0_dequeue_33 rfl ?_
        refine gX0_9 G (by assumption) (by assumption) dX0_dequeue_34 ?_
        refine s_iload_n G dX0_dequeue_37 rfl ?_
        refine al_9 G (by assumption) (by assumption) rfl (by first | assumption | omega) dX0_dequeue_38 ?_
        refine as_9 G (by assumption) (by assumption) rfl (by omega) dX0_dequeue_39 ?_
        refine s_iinc G dX0_dequeue_40 rfl (by decide) rfl (nI_1 _) ?_
        refine s_iinc G dX0_dequeue_43 rfl (by decide) rfl (nI_1 i) ?_
        refine s_goto G 4 dX0_dequeue_46 (by decide) ?_
        rw [up_upr, upr_at]
        rw [show ((L.take i).filter (fun u => u != v)).length + 1 = ((L.take (i + 1)).filter (fun u => u != v)).length by rw [hk]; simp]
        refine ih (i + 1) (by omega) _ (fun j u h => ?_) (fun j u h1 h2 => ?_)
        · rw [hk] at h
          by_cases hj : j = ((L.take i).filter (fun u => u != v)).length
          · subst hj
            rw [List.getElem?_append_right (Nat.le_refl _), Nat.sub_self] at h
            cases h
            rw [pk_us]
            exact hAi
          · rw [pk_un hj]
            have hlt : j < ((L.take i).filter (fun u => u != v)).length := by
              have := (List.getElem?_eq_some_iff.mp h).1
              rw [List.length_append] at this
              simp only [List.length_cons, List.length_nil] at this
              omega
            rw [List.getElem?_append_left hlt] at h
            exact hA j u h
        · rw [pk_un (by omega)]
          exact hB j u (by omega) h2
  refine s_iconst (v := 0) G dX0_dequeue_0 (by decide) ?_
  refine s_istore_n G dX0_dequeue_1 (by decide) rfl ?_
  refine s_iconst (v := 0) G dX0_dequeue_2 (by decide) ?_
  refine s_istore_n G dX0_dequeue_3 (by decide) rfl ?_
  rw [← upr_self (M := M) (i := (9, f, b))]
  exact loop L.length 0 (by omega) (M (9, f, b)) (fun j u h => by simp at h) (fun j u _ h => hM j u h)
end Deq
end
section
/-! ===== the green of the class: its small methods ===== -/
theorem wkN_pos {g : GS} {h b : Nat} (hb : g.i 3 h 1 = nI b) : ∀ n, h < n → 1 ≤ wkN g b n
  | 0, q => by omega
  | n + 1, q => by
    unfold wkN
    by_cases hn : n = h
    · subst hn
      rw [if_pos hb]
      omega
    · have := wkN_pos hb n (by omega)
      omega
section Fete1
variable {E : EX} {M : Mem} {f : Nat} {g : GS}
theorem c_isBooth {n : Nat} (hf : f < 2) (hM : M (1, f, 0) 1 = nI n) (hn : n < 2 ^ 31) (x : Int32) : Ret E idsC yX2_isBooth cX2_isBooth 2 (some .boolean) 0 0 [.ref (E.ad (1, f, 0)), .int x] M (fun r M' => M = M' ∧ ((∃ b, b < n ∧ x = nI b ∧ r = some (.int 1)) ∨ ((∀ b, b < n → x ≠ nI b) ∧ r = some (.int 0)))) := by
  refine Ret_of_V RX2 (by decide) rfl idsC_nd [some (.ref (E.ad (1, f, 0))), some (.int x)] rfl (Nat.le_of_ble_eq_true rfl) (fun κ hE G E9 hr => ?_)
  subst hE
  refine s_iload_n G dX2_isBooth_0 rfl ?_
  refine s_if_lt G 16 dX2_isBooth_1 (by decide) (fun h1 => ?_) (fun h1 => ?_)
  · refine s_iconst (v := 0) G dX2_isBooth_16 (by decide) ?_
    refine s_zret G E9 hr (Or.inl rfl) dX2_isBooth_17 ⟨rfl, Or.inr ⟨fun b hb q => nI_pos (n := b) (by omega) (by rw [← q]; exact h1), rfl⟩⟩
  refine s_iload_n G dX2_isBooth_4 rfl ?_
  refine s_aload_n G dX2_isBooth_5 rfl ?_
  refine gX2_46 G (by assumption) dX2_isBooth_6 ?_
  refine s_icmp_ge G 16 dX2_isBooth_9 (by decide) (fun h9 => ?_) (fun h9 => ?_)
  · rw [hM] at h9
    refine s_iconst (v := 0) G dX2_isBooth_16 (by decide) ?_
    refine s_zret G E9 hr (Or.inl rfl) dX2_isBooth_17 ⟨rfl, Or.inr ⟨fun b hb q => nI_ge hb hn (by rw [← q]; exact h9), rfl⟩⟩
  · rw [hM] at h9
    refine s_iconst (v := 1) G dX2_isBooth_12 (by decide) ?_
    refine s_goto G 17 dX2_isBooth_13 (by decide) ?_
    obtain ⟨j, hj, hx⟩ : ∃ j, j < n ∧ x = nI j := by
      rcases pk_ix x hn with q | q | q
      · exact absurd q h1
      · exact absurd q h9
      · exact q
    refine s_zret G E9 hr (Or.inr rfl) dX2_isBooth_17 ⟨rfl, Or.inl ⟨j, hj, hx, rfl⟩⟩
theorem c_isHelper {n : Nat} (hf : f < 2) (hM : M (1, f, 0) 3 = nI n) (hn : n < 2 ^ 31) (x : Int32) : Ret E idsC yX2_isHelper cX2_isHelper 2 (some .boolean) 0 0 [.ref (E.ad (1, f, 0)), .int x] M (fun r M' => M = M' ∧ ((∃ b, b < n ∧ x = nI b ∧ r = some (.int 1)) ∨ ((∀ b, b < n → x ≠ nI b) ∧ r = some (.int 0)))) := by
  refine Ret_of_V RX2 (by decide) rfl idsC_nd [some (.ref (E.ad (1, f, 0))), some (.int x)] rfl (Nat.le_of_ble_eq_true rfl) (fun κ hE G E9 hr => ?_)
  subst hE
  refine s_iload_n G dX2_isHelper_0 rfl ?_
  refine s_if_lt G 16 dX2_isHelper_1 (by decide) (fun h1 => ?_) (fun h1 => ?_)
  · refine s_iconst (v := 0) G dX2_isHelper_16 (by decide) ?_
    refine s_zret G E9 hr (Or.inl rfl) dX2_isHelper_17 ⟨rfl, Or.inr ⟨fun b hb q => nI_pos (n := b) (by omega) (by rw [← q]; exact h1), rfl⟩⟩
  refine s_iload_n G dX2_isHelper_4 rfl ?_
  refine s_aload_n G dX2_isHelper_5 rfl ?_
  refine gX2_49 G (by assumption) dX2_isHelper_6 ?_
  refine s_icmp_ge G 16 dX2_isHelper_9 (by decide) (fun h9 => ?_) (fun h9 => ?_)
  · rw [hM] at h9
    refine s_iconst (v := 0) G dX2_isHelper_16 (by decide) ?_
    refine s_zret G E9 hr (Or.inl rfl) dX2_isHelper_17 ⟨rfl, Or.inr ⟨fun b hb q => nI_ge hb hn (by rw [← q]; exact h9), rfl⟩⟩
  · rw [hM] at h9
    refine s_iconst (v := 1) G dX2_isHelper_12 (by decide) ?_
    refine s_goto G 17 dX2_isHelper_13 (by decide) ?_
    obtain ⟨j, hj, hx⟩ : ∃ j, j < n ∧ x = nI j := by
      rcases pk_ix x hn with q | q | q
      · exact absurd q h1
      · exact absurd q h9
      · exact q
    refine s_zret G E9 hr (Or.inr rfl) dX2_isHelper_17 ⟨rfl, Or.inl ⟨j, hj, hx, rfl⟩⟩
theorem c_isVisitor {n : Nat} (hf : f < 2) (hM : M (1, f, 0) 5 = nI n) (hn : n < 2 ^ 31) (x : Int32) : Ret E idsC yX2_isVisitor cX2_isVisitor 2 (some .boolean) 0 0 [.ref (E.ad (1, f, 0)), .int x] M (fun r M' => M = M' ∧ ((∃ b, b < n ∧ x = nI b ∧ r = some (.int 1)) ∨ ((∀ b, b < n → x ≠ nI b) ∧ r = some (.int 0)))) := by
  refine Ret_of_V RX2 (by decide) rfl idsC_nd [some (.ref (E.ad (1, f, 0))), some (.int x)] rfl (Nat.le_of_ble_eq_true rfl) (fun κ hE G E9 hr => ?_)
  subst hE
  refine s_iload_n G dX2_isVisitor_0 rfl ?_
  refine s_if_lt G 16 dX2_isVisitor_1 (by decide) (fun h1 => ?_) (fun h1 => ?_)
  · refine s_iconst (v := 0) G dX2_isVisitor_16 (by decide) ?_
    refine s_zret G E9 hr (Or.inl rfl) dX2_isVisitor_17 ⟨rfl, Or.inr ⟨fun b hb q => nI_pos (n := b) (by omega) (by rw [← q]; exact h1), rfl⟩⟩
  refine s_iload_n G dX2_isVisitor_4 rfl ?_
  refine s_aload_n G dX2_isVisitor_5 rfl ?_
  refine gX2_52 G (by assumption) dX2_isVisitor_6 ?_
  refine s_icmp_ge G 16 dX2_isVisitor_9 (by decide) (fun h9 => ?_) (fun h9 => ?_)
  · rw [hM] at h9
    refine s_iconst (v := 0) G dX2_isVisitor_16 (by decide) ?_
    refine s_zret G E9 hr (Or.inl rfl) dX2_isVisitor_17 ⟨rfl, Or.inr ⟨fun b hb q => nI_ge hb hn (by rw [← q]; exact h9), rfl⟩⟩
  · rw [hM] at h9
    refine s_iconst (v := 1) G dX2_isVisitor_12 (by decide) ?_
    refine s_goto G 17 dX2_isVisitor_13 (by decide) ?_
    obtain ⟨j, hj, hx⟩ : ∃ j, j < n ∧ x = nI j := by
      rcases pk_ix x hn with q | q | q
      · exact absurd q h1
      · exact absurd q h9
      · exact q
    refine s_zret G E9 hr (Or.inr rfl) dX2_isVisitor_17 ⟨rfl, Or.inl ⟨j, hj, hx, rfl⟩⟩
theorem c_costNow {b : Nat} (hf : f < 2) (hS : SimC f M g) (hI : Inv g) (hb : b < g.nb) : Ret E idsC yX2_costNow cX2_costNow 2 (some .int) 0 0 [.ref (E.ad (1, f, 0)), .int (nI b)] M (fun r M' => r = some (.int (cst g b)) ∧ M = M') := by
  have hb8 : b < 8 := Nat.lt_of_lt_of_le hb hI.nb8
  have e1 := hS.num (k := 9) (by decide) (by decide)
  have e2 := hS.bo (k := 0) hb (by decide) (by decide)
  refine Ret_of_V RX2 (by decide) rfl idsC_nd [some (.ref (E.ad (1, f, 0))), some (.int (nI b))] rfl (Nat.le_of_ble_eq_true rfl) (fun κ hE G E9 hr => ?_)
  subst hE
  refine s_iload_n G dX2_costNow_0 rfl ?_
  refine s_aload_n G dX2_costNow_1 rfl ?_
  refine gX2_40 G (by assumption) dX2_costNow_2 ?_
  refine s_icmp_ne G 22 dX2_costNow_5 (by decide) (fun h5 => ?_) (fun h5 => ?_)
  · refine s_aload_n G dX2_costNow_22 rfl ?_
    refine gX2_11 G (by assumption) dX2_costNow_23 ?_
    refine s_iload_n G dX2_costNow_26 rfl ?_
    refine ar_6 G (by assumption) rfl (by first | assumption | omega) dX2_costNow_27 ?_
    refine gX2_104 G (by assumption) (by assumption) dX2_costNow_28 ?_
    exact s_iret G E9 hr dX2_costNow_31 (by rw [e1] at h5; simp [cst, h5, e2])
  · refine s_aload_n G dX2_costNow_8 rfl ?_
    refine gX2_11 G (by assumption) dX2_costNow_9 ?_
    refine s_iload_n G dX2_costNow_12 rfl ?_
    refine ar_6 G (by assumption) rfl (by first | assumption | omega) dX2_costNow_13 ?_
    refine gX2_104 G (by assumption) (by assumption) dX2_costNow_14 ?_
    refine s_iconst (v := 1) G dX2_costNow_17 (by decide) ?_
    refine s_isub G dX2_costNow_18 ?_
    refine s_goto G 31 dX2_costNow_19 (by decide) ?_
    exact s_iret G E9 hr dX2_costNow_31 (by rw [e1] at h5; simp [cst, h5, e2])
theorem c_send {h : Nat} {x : Int32} (hf : f < 2) (hS : SimC f M g) (hI : g.nb ≤ 8 ∧ g.nh ≤ 12) (hh : h < g.nh) (hx : x = -1 ∨ ∃ b, b < g.nb ∧ x = nI b) : Ret E idsC yX2_send cX2_send 4 none 1 21 [.ref (E.ad (1, f, 0)), .int (nI h), .int x] M (fun r M' => r = none ∧ SimC f M' (g.set 3 h 1 x) ∧ Fr f g.2.2.1 M M') := by
  have hb8 := hI.1
  have hh12 : h < 12 := Nat.lt_of_lt_of_le hh hI.2
  refine Ret_of_V RX2 (by decide) rfl idsC_nd [some (.ref (E.ad (1, f, 0))), some (.int (nI h)), some (.int x), none] rfl (Nat.le_of_ble_eq_true rfl) (fun κ hE G E9 hr => ?_)
  subst hE
  refine s_aload_n G dX2_send_0 rfl ?_
  refine s_iload_n G dX2_send_1 rfl ?_
  refine iX2_83 G (by assumption) (c_isHelper hf hS.nh (by have := hI.2; omega) (nI h)) (by decide) (Nat.le_of_ble_eq_true rfl) dX2_send_2 (fun r9 M9 hp9 => ?_)
  obtain ⟨rfl, ⟨j, hj, hjx, rfl⟩ | ⟨hno, rfl⟩⟩ := hp9
  rotate_left
  · exact absurd rfl (hno h hh)
  clear hjx hj
  refine s_if_ne G 9 dX2_send_5 (by decide) (fun h5 => ?_) (fun h5 => ?_)
  rotate_left
  · exact absurd h5 (by decide)
  refine s_aload_n G dX2_send_9 rfl ?_
  refine gX2_19 G (by assumption) dX2_send_10 ?_
  refine s_iload_n G dX2_send_13 rfl ?_
  refine ar_7 G (by assumption) rfl (by first | assumption | omega) dX2_send_14 ?_
  refine s_astore_n G dX2_send_15 (by decide) rfl ?_
  refine s_aload_n G dX2_send_16 rfl ?_
  refine s_aload_n G dX2_send_17 rfl ?_
  refine gX2_87 G (by assumption) (by assumption) dX2_send_18 ?_
  have ea := hS.he (k := 1) hh (by decide)
  rw [ea]
  have hw0 := fun b => wk_send (g := g) (h := h) (x := x) b hh
  have hwl : ∀ b, wk g b ≤ 12 := fun b => Nat.le_trans (wkN_le g b g.nh) hI.2
  have hwp : ∀ b, g.i 3 h 1 = nI b → 1 ≤ wk g b := fun b q => wkN_pos q g.nh hh
  have tail : ∀ M1 : Mem, (∀ kd a k, ¬ (kd = 2 ∧ k = 4) → M1 (kd, f, a) k = M (kd, f, a) k) → Fr f g.2.2.1 M M1 → (∀ b, b < g.nb → M1 (2, f, b) 4 = nI (wk g b - (if g.i 3 h 1 = nI b then 1 else 0))) → V κ idsC 4 M1 [some (.ref (κ.E.ad (1, f, 0))), some (.int (nI h)), some (.int x), some (.ref (κ.E.ad (3, f, h)))] [] 45 := by
    intro M1 hM1 hF1 hw1
    have hnb1 : M1 (1, f, 0) 1 = nI g.nb := by rw [hM1 _ _ _ (by omega)]; exact hS.nb
    have fin : ∀ M2 : Mem, M2 = up M1 (3, f, h) 1 x → V κ idsC 4 M2 [some (.ref (κ.E.ad (1, f, 0))), some (.int (nI h)), some (.int x), some (.ref (κ.E.ad (3, f, h)))] [] 62 := by
      rintro M2 rfl
      refine s_aload_n G dX2_send_62 rfl ?_
      refine s_aload_n G dX2_send_63 rfl ?_
      refine gX2_87 G (by assumption) (by assumption) dX2_send_64 ?_
      rw [up_at, if_pos rfl]
      refine iX2_90 G (by assumption) (c_isBooth (n := g.nb) hf (by rw [up_ne (by simp)]; exact hnb1) (by omega) x) (by decide) (Nat.le_of_ble_eq_true rfl) dX2_send_67 (fun r9 M9 hp9 => ?_)
      obtain ⟨rfl, ⟨b1, hb1, hbx, rfl⟩ | ⟨hno, rfl⟩⟩ := hp9
      · refine s_if_eq G 91 dX2_send_70 (by decide) (fun h70 => ?_) (fun h70 => ?_)
        · exact absurd h70 (by decide)
        have hb18 : b1 < 8 := by omega
        refine s_aload_n G dX2_send_73 rfl ?_
        refine gX2_11 G (by assumption) dX2_send_74 ?_
        refine s_aload_n G dX2_send_77 rfl ?_
        refine gX2_87 G (by assumption) (by assumption) dX2_send_78 ?_
        refine ar_6 G (by assumption) (by rw [up_at, if_pos rfl]; exact hbx) hb18 dX2_send_81 ?_
        refine s_dup G dX2_send_82 rfl ?_
        refine gX2_93 G (by assumption) (by assumption) dX2_send_83 ?_
        refine s_iconst (v := 1) G dX2_send_86 (by decide) ?_
        refine s_iadd G dX2_send_87 ?_
        refine pX2_93 G (by assumption) (by assumption) dX2_send_88 ?_
        refine s_vret G E9 hr dX2_send_91 ⟨rfl, hS.send (fun kd a k h1 h2 => ?_) ?_ (fun b hb => ?_), Fr.b2 (Fr.h3 hF1 hh) hb1⟩
        · have n1 : ¬ ((kd, f, a) = ((2, f, b1) : Pid) ∧ k = 4) := by rintro ⟨q, q2⟩; cases q; exact h1 ⟨rfl, q2⟩
          have n2 : ¬ ((kd, f, a) = ((3, f, h) : Pid) ∧ k = 1) := by rintro ⟨q, q2⟩; cases q; exact h2 ⟨rfl, rfl, q2⟩
          simp only [up]
          rw [if_neg n1, if_neg n2]
          exact hM1 _ _ _ h1
        · simp [up]
        · have e0 := hw0 b
          have e1 := hw1 b hb
          have e2 := hwl b
          by_cases hbb : b = b1
          · subst hbb
            rw [if_pos hbx] at e0
            have : up (up M1 (3, f, h) 1 x) (2, f, b) 4 (up M1 (3, f, h) 1 x (2, f, b) 4 + 1) (2, f, b) 4 = M1 (2, f, b) 4 + 1 := by simp [up]
            rw [this, e1, nI_1]
            congr 1
            have e3 := hwp b
            split at e0 <;> split <;> first | omega | contradiction | (have := e3 (by assumption); omega)
          · have hne : x ≠ nI b := fun q => hbb (nI_inj (by omega) (by omega) (q.symm.trans hbx))
            rw [if_neg hne] at e0
            have : up (up M1 (3, f, h) 1 x) (2, f, b1) 4 (up M1 (3, f, h) 1 x (2, f, b1) 4 + 1) (2, f, b) 4 = M1 (2, f, b) 4 := by simp [up, hbb]
            rw [this, e1]
            congr 1
            have e3 := hwp b
            split at e0 <;> split <;> first | omega | contradiction | (have := e3 (by assumption); omega)
      · refine s_if_eq G 91 dX2_send_70 (by decide) (fun h70 => ?_) (fun h70 => ?_)
        rotate_left
        · exact absurd rfl h70
        refine s_vret G E9 hr dX2_send_91 ⟨rfl, hS.send (fun kd a k h1 h2 => ?_) ?_ (fun b hb => ?_), Fr.h3 hF1 hh⟩
        · have n2 : ¬ ((kd, f, a) = ((3, f, h) : Pid) ∧ k = 1) := by rintro ⟨q, q2⟩; cases q; exact h2 ⟨rfl, rfl, q2⟩
          simp only [up]
          rw [if_neg n2]
          exact hM1 _ _ _ h1
        · simp [up]
        · have e0 := hw0 b
          have e1 := hw1 b hb
          have e2 := hwl b
          rw [if_neg (hno b hb)] at e0
          rw [up_ne (by simp), e1]
          congr 1
          have e3 := hwp b
          split at e0 <;> split <;> first | omega | contradiction | (have := e3 (by assumption); omega)
    refine s_aload_n G dX2_send_45 rfl ?_
    refine s_aload_n G dX2_send_46 rfl ?_
    refine s_iload_n G dX2_send_47 rfl ?_
    refine iX2_90 G (by assumption) (c_isBooth (n := g.nb) hf hnb1 (by omega) x) (by decide) (Nat.le_of_ble_eq_true rfl) dX2_send_48 (fun r9 M9 hp9 => ?_)
    obtain ⟨rfl, ⟨b1, hb1, hbx, rfl⟩ | ⟨hno, rfl⟩⟩ := hp9
    · refine s_if_eq G 58 dX2_send_51 (by decide) (fun h51 => ?_) (fun h51 => ?_)
      · exact absurd h51 (by decide)
      refine s_iload_n G dX2_send_54 rfl ?_
      refine s_goto G 59 dX2_send_55 (by decide) ?_
      refine pX2_87 G (by assumption) (by assumption) dX2_send_59 ?_
      exact fin _ rfl
    · refine s_if_eq G 58 dX2_send_51 (by decide) (fun h51 => ?_) (fun h51 => ?_)
      rotate_left
      · exact absurd rfl h51
      have hx1 : x = -1 := hx.resolve_right (fun ⟨b, hb, q⟩ => hno b hb q)
      refine s_iconst (v := -1) G dX2_send_58 (by decide) ?_
      refine pX2_87 G (by assumption) (by assumption) dX2_send_59 ?_
      exact fin _ (by rw [hx1])
  refine iX2_90 G (by assumption) (c_isBooth (n := g.nb) hf hS.nb (by omega) (g.i 3 h 1)) (by decide) (Nat.le_of_ble_eq_true rfl) dX2_send_21 (fun r9 M9 hp9 => ?_)
  obtain ⟨rfl, ⟨b0, hb0, hbx, rfl⟩ | ⟨hno, rfl⟩⟩ := hp9
  · refine s_if_eq G 45 dX2_send_24 (by decide) (fun h24 => ?_) (fun h24 => ?_)
    · exact absurd h24 (by decide)
    have hb08 : b0 < 8 := by omega
    refine s_aload_n G dX2_send_27 rfl ?_
    refine gX2_11 G (by assumption) dX2_send_28 ?_
    refine s_aload_n G dX2_send_31 rfl ?_
    refine gX2_87 G (by assumption) (by assumption) dX2_send_32 ?_
    refine ar_6 G (by assumption) (ea.trans hbx) hb08 dX2_send_35 ?_
    refine s_dup G dX2_send_36 rfl ?_
    refine gX2_93 G (by assumption) (by assumption) dX2_send_37 ?_
    refine s_iconst (v := 1) G dX2_send_40 (by decide) ?_
    refine s_isub G dX2_send_41 ?_
    refine pX2_93 G (by assumption) (by assumption) dX2_send_42 ?_
    refine tail _ (fun kd a k h1 => ?_) (Fr.b2 Fr.rf hb0) (fun b hb => ?_)
    · simp only [up]
      rw [if_neg (by rintro ⟨q, q2⟩; cases q; exact h1 ⟨rfl, q2⟩)]
    · have e0 := hw0 b
      by_cases hbb : b = b0
      · subst hbb
        rw [up_at, if_pos rfl, hS.wks hb, if_pos hbx]
        rw [if_pos hbx] at e0
        exact pk_sub (a := wk g b) (b := 1) (hwp b hbx)
      · have hne : ¬ g.i 3 h 1 = nI b := fun q => hbb (nI_inj (by omega) (by omega) (q.symm.trans hbx))
        rw [up_ne (by simp [hbb]), hS.wks hb, if_neg hne]
        rfl
  · refine s_if_eq G 45 dX2_send_24 (by decide) (fun h24 => ?_) (fun h24 => ?_)
    rotate_left
    · exact absurd rfl h24
    refine tail _ (fun _ _ _ _ => rfl) Fr.rf (fun b hb => ?_)
    rw [hS.wks hb, if_neg (hno b hb)]
    rfl
end Fete1
end
section
/-! ===== queues: leaving, choosing ===== -/
section Fete2
variable {E : EX} {M : Mem} {f : Nat} {g : GS}
theorem c_isOpenG {b : Nat} (hf : f < 2) (hS : SimC f M g) (hI : Inv g) (hb : b < g.nb) : Ret E idsC yX0_isOpen cX0_isOpen 1 (some .boolean) 0 0 [.ref (E.ad (2, f, b))] M (fun r M' => r = some (.int (if opn g b then 1 else 0)) ∧ M = M') := by
  refine (c_isOpen hf (Nat.lt_of_lt_of_le hb hI.nb8)).weak (fun v M' h => ⟨?_, h.2⟩)
  rw [h.1, hS.wks hb, hS.bo (k := 3) hb (by decide) (by decide)]
  by_cases ho : opn g b
  · rw [if_pos ho, if_neg (i_nlt.mpr ho)]
  · rw [if_neg ho, if_pos (i_nle.mp ho)]
theorem c_strollsG {v : Nat} (hf : f < 2) (hS : SimC f M g) (hI : Inv g) (hv : v < g.nv) : Ret E idsC yX4_strolls cX4_strolls 1 (some .boolean) 0 0 [.ref (E.ad (4, f, v))] M (fun r M' => r = some (.int (if strl g v then 1 else 0)) ∧ M = M') := by
  refine (c_strolls hf (Nat.lt_of_lt_of_le hv hI.nv16)).weak (fun w M' h => ⟨?_, h.2⟩)
  rw [h.1, hS.vi (k := 2) hv (by decide), hS.vi (k := 3) hv (by decide)]
theorem c_take {v : Nat} (hf : f < 2) (hS : SimC f M g) (hI : Inv g) (hv : v < g.nv) : Ret E idsC yX2_takeFromQueue cX2_takeFromQueue 4 (some .int) 1 23 [.ref (E.ad (1, f, 0)), .int (nI v)] M (fun r M' => r = some (.int (g.i 4 v 3)) ∧ SimC f M' (leaveQ g v) ∧ Fr f g.2.2.1 M M') := by
  have hb8 := hI.nb8
  have hv16 : v < 16 := Nat.lt_of_lt_of_le hv hI.nv16
  have ea := hS.vi (k := 3) hv (by decide)
  refine Ret_of_V RX2 (by decide) rfl idsC_nd [some (.ref (E.ad (1, f, 0))), some (.int (nI v)), none, none] rfl (Nat.le_of_ble_eq_true rfl) (fun κ hE G E9 hr => ?_)
  subst hE
  refine s_aload_n G dX2_takeFromQueue_0 rfl ?_
  refine s_iload_n G dX2_takeFromQueue_1 rfl ?_
  refine iX2_96 G (by assumption) (c_isVisitor hf hS.nv (by have := hI.nv16; omega) (nI v)) (by decide) (Nat.le_of_ble_eq_true rfl) dX2_takeFromQueue_2 (fun r9 M9 hp9 => ?_)
  obtain ⟨rfl, ⟨j, hj, hjx, rfl⟩ | ⟨hno, rfl⟩⟩ := hp9
  rotate_left
  · exact absurd rfl (hno v hv)
  clear hjx hj
  refine s_if_ne G 10 dX2_takeFromQueue_5 (by decide) (fun h5 => ?_) (fun h5 => ?_)
  rotate_left
  · exact absurd h5 (by decide)
  refine s_aload_n G dX2_takeFromQueue_10 rfl ?_
  refine gX2_25 G (by assumption) dX2_takeFromQueue_11 ?_
  refine s_iload_n G dX2_takeFromQueue_14 rfl ?_
  refine ar_8 G (by assumption) rfl (by first | assumption | omega) dX2_takeFromQueue_15 ?_
  refine s_astore_n G dX2_takeFromQueue_16 (by decide) rfl ?_
  refine s_aload_n G dX2_takeFromQueue_17 rfl ?_
  refine gX2_99 G (by assumption) (by assumption) dX2_takeFromQueue_18 ?_
  refine s_istore_n G dX2_takeFromQueue_21 (by decide) rfl ?_
  refine s_aload_n G dX2_takeFromQueue_22 rfl ?_
  refine s_iload_n G dX2_takeFromQueue_23 rfl ?_
  rw [ea]
  refine iX2_90 G (by assumption) (c_isBooth (n := g.nb) hf hS.nb (by omega) (g.i 4 v 3)) (by decide) (Nat.le_of_ble_eq_true rfl) dX2_takeFromQueue_24 (fun r9 M9 hp9 => ?_)
  obtain ⟨rfl, ⟨b0, hb0, hbx, rfl⟩ | ⟨hno, rfl⟩⟩ := hp9
  · refine s_if_eq G 40 dX2_takeFromQueue_27 (by decide) (fun h27 => ?_) (fun h27 => ?_)
    · exact absurd h27 (by decide)
    have hb08 : b0 < 8 := by omega
    refine s_aload_n G dX2_takeFromQueue_30 rfl ?_
    refine gX2_11 G (by assumption) dX2_takeFromQueue_31 ?_
    refine s_iload_n G dX2_takeFromQueue_34 rfl ?_
    refine ar_6 G (by assumption) hbx hb08 dX2_takeFromQueue_35 ?_
    refine s_iload_n G dX2_takeFromQueue_36 rfl ?_
    refine iX2_100 G (by assumption) (by assumption) (c_dequeue hf hb08 (hS.ql hb0) (hI.ql16 hb0) (fun i u hu => hS.qe hb0 hu) (fun u hu => Nat.lt_of_lt_of_le ((hI.qm hb0).mp hu).1 hI.nv16) hv16) (by decide) (Nat.le_of_ble_eq_true rfl) dX2_takeFromQueue_37 (fun r9 M9 hp9 => ?_)
    obtain ⟨rfl, A, rfl, hA⟩ := hp9
    refine s_aload_n G dX2_takeFromQueue_40 rfl ?_
    refine s_iconst (v := -1) G dX2_takeFromQueue_41 (by decide) ?_
    refine pX2_99 G (by assumption) (by assumption) dX2_takeFromQueue_42 ?_
    refine s_iload_n G dX2_takeFromQueue_45 rfl ?_
    refine s_iret G E9 hr dX2_takeFromQueue_46 ⟨rfl, ?_, Fr.v4 (Fr.b2 (Fr.r9 Fr.rf hb0) hb0) hv⟩
    show SimC f _ ((g.setq (fun a => (g.q a).filter (fun u => u != v))).set 4 v 3 (-1))
    refine SimC.v4 (hS.setq (fun kd a k h1 h2 => ?_) (fun b hb => ?_))
    · simp only [up]
      rw [if_neg (by rintro ⟨q, q2⟩; cases q; exact h2 ⟨rfl, q2⟩), upr_ne (by intro q; cases q; exact h1 rfl)]
    · by_cases hbb : b = b0
      · subst hbb
        refine ⟨by rw [up_at, if_pos rfl], fun i u hu => ?_⟩
        rw [up_ne (by simp), upr_at]
        exact hA i u hu
      · have hnm : v ∉ g.q b := fun q => hbb (nI_inj (by omega) (by omega) (((hI.qm hb).mp q).2.symm.trans hbx))
        rw [filter_id hnm]
        refine ⟨by rw [up_ne (by simp [hbb]), upr_ne (by simp)]; exact hS.ql hb, fun i u hu => ?_⟩
        rw [up_ne (by simp), upr_ne (by simp [hbb])]
        exact hS.qe hb hu
  · refine s_if_eq G 40 dX2_takeFromQueue_27 (by decide) (fun h27 => ?_) (fun h27 => ?_)
    rotate_left
    · exact absurd rfl h27
    refine s_aload_n G dX2_takeFromQueue_40 rfl ?_
    refine s_iconst (v := -1) G dX2_takeFromQueue_41 (by decide) ?_
    refine pX2_99 G (by assumption) (by assumption) dX2_takeFromQueue_42 ?_
    refine s_iload_n G dX2_takeFromQueue_45 rfl ?_
    refine s_iret G E9 hr dX2_takeFromQueue_46 ⟨rfl, ?_, Fr.v4 Fr.rf hv⟩
    show SimC f _ ((g.setq (fun a => (g.q a).filter (fun u => u != v))).set 4 v 3 (-1))
    refine SimC.v4 (hS.setq (fun kd a k h1 h2 => rfl) (fun b hb => ?_))
    have hnm : v ∉ g.q b := fun q => hno b hb ((hI.qm hb).mp q).2
    rw [filter_id hnm]
    exact ⟨hS.ql hb, fun i u hu => hS.qe hb hu⟩
theorem c_invites {v b : Nat} (hf : f < 2) (hS : SimC f M g) (hI : Inv g) (hv : v < g.nv) (hb : b < g.nb) : Ret E idsC yX2_invites cX2_invites 4 (some .boolean) 1 21 [.ref (E.ad (1, f, 0)), .int (nI b), .ref (E.ad (4, f, v))] M (fun r M' => r = some (.int (if invites g v b then 1 else 0)) ∧ M = M') := by
  have hb8 : b < 8 := Nat.lt_of_lt_of_le hb hI.nb8
  have hv16 : v < 16 := Nat.lt_of_lt_of_le hv hI.nv16
  have e1 := hS.bo (k := 2) hb (by decide) (by decide)
  have e2 := hS.vi (k := 0) hv (by decide)
  refine Ret_of_V RX2 (by decide) rfl idsC_nd [some (.ref (E.ad (1, f, 0))), some (.int (nI b)), some (.ref (E.ad (4, f, v))), none] rfl (Nat.le_of_ble_eq_true rfl) (fun κ hE G E9 hr => ?_)
  subst hE
  refine s_aload_n G dX2_invites_0 rfl ?_
  refine gX2_11 G (by assumption) dX2_invites_1 ?_
  refine s_iload_n G dX2_invites_4 rfl ?_
  refine ar_6 G (by assumption) rfl (by first | assumption | omega) dX2_invites_5 ?_
  refine s_astore_n G dX2_invites_6 (by decide) rfl ?_
  refine s_aload_n G dX2_invites_7 rfl ?_
  refine iX2_120 G (by assumption) (by assumption) (c_isOpenG hf hS hI hb) (by decide) (Nat.le_of_ble_eq_true rfl) dX2_invites_8 (fun r9 M9 hp9 => ?_)
  obtain ⟨rfl, rfl⟩ := hp9
  refine s_if_eq G 37 dX2_invites_11 (by decide) (fun h11 => ?_) (fun h11 => ?_)
  · refine s_iconst (v := 0) G dX2_invites_37 (by decide) ?_
    refine s_zret G E9 hr (Or.inl rfl) dX2_invites_38 ⟨by rw [if_neg (fun q => by rw [if_pos q.1] at h11; exact absurd h11 (by decide))], rfl⟩
  refine s_aload_n G dX2_invites_14 rfl ?_
  refine gX2_151 G (by assumption) (by assumption) dX2_invites_15 ?_
  refine s_if_le G 37 dX2_invites_18 (by decide) (fun h18 => ?_) (fun h18 => ?_)
  · refine s_iconst (v := 0) G dX2_invites_37 (by decide) ?_
    refine s_zret G E9 hr (Or.inl rfl) dX2_invites_38 ⟨by rw [if_neg (fun q => by rw [e1] at h18; exact i_nlt.mpr h18 q.2.1)], rfl⟩
  refine s_aload_n G dX2_invites_21 rfl ?_
  refine s_iload_n G dX2_invites_22 rfl ?_
  refine iX2_154 G (by assumption) (c_costNow hf hS hI hb) (by decide) (Nat.le_of_ble_eq_true rfl) dX2_invites_23 (fun r9 M9 hp9 => ?_)
  obtain ⟨rfl, rfl⟩ := hp9
  refine s_aload_n G dX2_invites_26 rfl ?_
  refine gX2_144 G (by assumption) (by assumption) dX2_invites_27 ?_
  refine s_icmp_gt G 37 dX2_invites_30 (by decide) (fun h30 => ?_) (fun h30 => ?_)
  · refine s_iconst (v := 0) G dX2_invites_37 (by decide) ?_
    refine s_zret G E9 hr (Or.inl rfl) dX2_invites_38 ⟨by rw [if_neg (fun q => by rw [e2] at h30; exact i_nle.mpr h30 q.2.2)], rfl⟩
  · refine s_iconst (v := 1) G dX2_invites_33 (by decide) ?_
    refine s_goto G 38 dX2_invites_34 (by decide) ?_
    refine s_zret G E9 hr (Or.inr rfl) dX2_invites_38 ⟨by rw [if_pos ⟨Decidable.byContradiction (fun q => h11 (by rw [if_neg q])), i_nle.mp (by rw [← e1]; exact h18), i_nlt.mp (by rw [← e2]; exact h30)⟩], rfl⟩
theorem c_isBetter {v b o : Nat} (hf : f < 2) (hS : SimC f M g) (hI : Inv g) (hv : v < g.nv) (hb : b < g.nb) (ho : o < g.nb) : Ret E idsC yX2_isBetter cX2_isBetter 5 (some .boolean) 0 0 [.ref (E.ad (1, f, 0)), .int (nI b), .int (nI o), .ref (E.ad (4, f, v))] M (fun r M' => r = some (.int (if better g v b o then 1 else 0)) ∧ M = M') := by
  have hb8 : b < 8 := Nat.lt_of_lt_of_le hb hI.nb8
  have ho8 : o < 8 := Nat.lt_of_lt_of_le ho hI.nb8
  have hv16 : v < 16 := Nat.lt_of_lt_of_le hv hI.nv16
  have l1 := hI.ql16 hb
  have l2 := hI.ql16 ho
  have e3 := hS.pr hv hb8
  have e4 := hS.pr hv ho8
  have ht : (nI (g.q o).length - nI (g.q b).length).toInt = ((g.q o).length : Int) - (g.q b).length := pk_sub_toInt (by omega) (by omega)
  refine Ret_of_V RX2 (by decide) rfl idsC_nd [some (.ref (E.ad (1, f, 0))), some (.int (nI b)), some (.int (nI o)), some (.ref (E.ad (4, f, v))), none] rfl (Nat.le_of_ble_eq_true rfl) (fun κ hE G E9 hr => ?_)
  subst hE
  refine s_aload_n G dX2_isBetter_0 rfl ?_
  refine gX2_11 G (by assumption) dX2_isBetter_1 ?_
  refine s_iload_n G dX2_isBetter_4 rfl ?_
  refine ar_6 G (by assumption) rfl ho8 dX2_isBetter_5 ?_
  refine gX2_158 G (by assumption) (by assumption) dX2_isBetter_6 ?_
  refine s_aload_n G dX2_isBetter_9 rfl ?_
  refine gX2_11 G (by assumption) dX2_isBetter_10 ?_
  refine s_iload_n G dX2_isBetter_13 rfl ?_
  refine ar_6 G (by assumption) rfl hb8 dX2_isBetter_14 ?_
  refine gX2_158 G (by assumption) (by assumption) dX2_isBetter_15 ?_
  rw [hS.ql hb, hS.ql ho]
  refine s_isub G dX2_isBetter_18 ?_
  refine s_istore G dX2_isBetter_19 (by decide) rfl ?_
  refine s_iload G dX2_isBetter_21 rfl ?_
  have z0 : (nI (g.q o).length - nI (g.q b).length) = 0 ↔ (g.q b).length = (g.q o).length := by
    constructor
    · intro q
      rw [q] at ht
      have : ((0 : Int32).toInt) = 0 := by decide
      omega
    · intro q
      rw [q]
      exact Int32.sub_self _
  refine s_if_eq G 37 dX2_isBetter_23 (by decide) (fun h23 => ?_) (fun h23 => ?_)
  · rw [z0] at h23
    refine s_aload_n G dX2_isBetter_37 rfl ?_
    refine gX2_161 G (by assumption) (by assumption) dX2_isBetter_38 ?_
    refine s_iload_n G dX2_isBetter_41 rfl ?_
    refine al_10 G (by assumption) (by assumption) rfl hb8 dX2_isBetter_42 ?_
    refine s_aload_n G dX2_isBetter_43 rfl ?_
    refine gX2_161 G (by assumption) (by assumption) dX2_isBetter_44 ?_
    refine s_iload_n G dX2_isBetter_47 rfl ?_
    refine al_10 G (by assumption) (by assumption) rfl ho8 dX2_isBetter_48 ?_
    rw [e3, e4]
    refine s_icmp_le G 56 dX2_isBetter_49 (by decide) (fun h49 => ?_) (fun h49 => ?_)
    · refine s_iconst (v := 0) G dX2_isBetter_56 (by decide) ?_
      refine s_zret G E9 hr (Or.inl rfl) dX2_isBetter_57 ⟨by rw [if_neg (fun q => q.elim (fun q => by omega) (fun q => i_nlt.mpr h49 q.2))], rfl⟩
    · refine s_iconst (v := 1) G dX2_isBetter_52 (by decide) ?_
      refine s_goto G 57 dX2_isBetter_53 (by decide) ?_
      refine s_zret G E9 hr (Or.inr rfl) dX2_isBetter_57 ⟨by rw [if_pos (Or.inr ⟨h23, i_nle.mp h49⟩)], rfl⟩
  · rw [z0] at h23
    refine s_iload G dX2_isBetter_26 rfl ?_
    refine s_if_le G 35 dX2_isBetter_28 (by decide) (fun h28 => ?_) (fun h28 => ?_)
    · refine s_iconst (v := 0) G dX2_isBetter_35 (by decide) ?_
      rw [Int32.le_iff_toInt_le, ht] at h28
      have : ((0 : Int32).toInt) = 0 := by decide
      refine s_zret G E9 hr (Or.inl rfl) dX2_isBetter_36 ⟨by rw [if_neg (fun q => q.elim (fun q => by omega) (fun q => h23 q.1))], rfl⟩
    · refine s_iconst (v := 1) G dX2_isBetter_31 (by decide) ?_
      refine s_goto G 36 dX2_isBetter_32 (by decide) ?_
      rw [Int32.le_iff_toInt_le, ht] at h28
      have : ((0 : Int32).toInt) = 0 := by decide
      refine s_zret G E9 hr (Or.inr rfl) dX2_isBetter_36 ⟨by rw [if_pos (Or.inl (by omega))], rfl⟩
theorem c_choose {v : Nat} (hf : f < 2) (hS : SimC f M g) (hI : Inv g) (hv : v < g.nv) (hat : g.i 4 v 3 = -1) : Ret E idsC yX2_choose cX2_choose 5 none 2 44 [.ref (E.ad (1, f, 0)), .int (nI v)] M (fun r M' => r = none ∧ SimC f M' (choose9 g v) ∧ Fr f g.2.2.1 M M') := by
  have hb8 := hI.nb8
  have hv16 : v < 16 := Nat.lt_of_lt_of_le hv hI.nv16
  refine Ret_of_V RX2 (by decide) rfl idsC_nd [some (.ref (E.ad (1, f, 0))), some (.int (nI v)), none, none, none] rfl (Nat.le_of_ble_eq_true rfl) (fun κ hE G E9 hr => ?_)
  subst hE
  have fin : V κ idsC 5 M [some (.ref (κ.E.ad (1, f, 0))), some (.int (nI v)), some (.ref (κ.E.ad (4, f, v))), some (.int (enc (bestN g v g.nb))), some (.int (nI g.nb))] [] 56 := by
    refine s_aload_n G dX2_choose_56 rfl ?_
    refine s_iload_n G dX2_choose_57 rfl ?_
    refine iX2_90 G (by assumption) (c_isBooth (n := g.nb) hf hS.nb (by omega) (enc (bestN g v g.nb))) (by decide) (Nat.le_of_ble_eq_true rfl) dX2_choose_58 (fun r9 M9 hp9 => ?_)
    obtain ⟨rfl, ⟨b, hb, hbx, rfl⟩ | ⟨hno, rfl⟩⟩ := hp9
    · refine s_if_eq G 85 dX2_choose_61 (by decide) (fun h61 => ?_) (fun h61 => ?_)
      · exact absurd h61 (by decide)
      have hbn : bestN g v g.nb = some b := by
        cases hq : bestN g v g.nb with
        | none => rw [hq] at hbx; exact absurd hbx.symm (nI_m1 (by omega))
        | some o =>
          have := bestN_lt hq
          rw [hq] at hbx
          rw [nI_inj (a := o) (b := b) (by omega) (by omega) hbx]
      have hb9 : b < 8 := by omega
      have hvn : v ∉ g.q b := fun q => absurd (((hI.qm hb).mp q).2.symm.trans hat) (nI_m1 (by omega))
      have hlen : (g.q b).length < 16 := by
        have := nodup_len g.nv (v :: g.q b) (List.nodup_cons.mpr ⟨hvn, hI.qnd hb⟩) (fun u hu => by
          rcases List.mem_cons.mp hu with q | q
          · rw [q]; exact hv
          · exact ((hI.qm hb).mp q).1)
        have h2 := hI.nv16
        simp only [List.length_cons] at this
        omega
      refine s_aload_n G dX2_choose_64 rfl ?_
      refine gX2_11 G (by assumption) dX2_choose_65 ?_
      refine s_iload_n G dX2_choose_68 rfl ?_
      refine ar_6 G (by assumption) hbx hb9 dX2_choose_69 ?_
      refine s_iload_n G dX2_choose_70 rfl ?_
      refine iX2_141 G (by assumption) (by assumption) (c_enqueue hf hb9 hlen (hS.ql hb) (nI v)) (by decide) (Nat.le_of_ble_eq_true rfl) dX2_choose_71 (fun r9 M9 hp9 => ?_)
      obtain ⟨rfl, rfl⟩ := hp9
      refine s_if_eq G 97 dX2_choose_74 (by decide) (fun h74 => ?_) (fun h74 => ?_)
      · exact absurd h74 (by decide)
      refine s_aload_n G dX2_choose_77 rfl ?_
      refine s_iload_n G dX2_choose_78 rfl ?_
      refine pX2_99 G (by assumption) (by assumption) dX2_choose_79 ?_
      refine s_goto G 97 dX2_choose_82 (by decide) ?_
      refine s_vret G E9 hr dX2_choose_97 ⟨rfl, ?_, Fr.v4 (Fr.b2 (Fr.q9 Fr.rf hb) hb) hv⟩
      have hc : choose9 g v = (g.setq (fun a => if a = b then g.q b ++ [v] else g.q a)).set 4 v 3 (nI b) := by
        unfold choose9
        rw [hbn]
        rfl
      rw [hc, hbx]
      refine SimC.v4 (hS.setq (fun kd a k h1 h2 => ?_) (fun a ha => ?_))
      · simp only [up]
        rw [if_neg (by rintro ⟨q, q2⟩; cases q; exact h2 ⟨rfl, q2⟩), if_neg (by rintro ⟨q, q2⟩; cases q; exact h1 rfl)]
      · by_cases hbb : a = b
        · subst hbb
          rw [if_pos rfl]
          refine ⟨by rw [up_at, if_pos rfl]; simp, fun i u hu => ?_⟩
          rw [up_ne (by simp), up_at]
          by_cases hi : i = (g.q a).length
          · subst hi
            rw [List.getElem?_append_right (Nat.le_refl _), Nat.sub_self] at hu
            cases hu
            rw [if_pos rfl]
          · rw [if_neg hi]
            have hlt : i < (g.q a).length := by
              have := (List.getElem?_eq_some_iff.mp hu).1
              simp only [List.length_append, List.length_cons, List.length_nil] at this
              omega
            rw [List.getElem?_append_left hlt] at hu
            exact hS.qe hb hu
        · rw [if_neg hbb]
          refine ⟨by rw [up_ne (by simp [hbb]), up_ne (by simp)]; exact hS.ql ha, fun i u hu => ?_⟩
          rw [up_ne (by simp), up_ne (by simp [hbb])]
          exact hS.qe ha hu
    · refine s_if_eq G 85 dX2_choose_61 (by decide) (fun h61 => ?_) (fun h61 => ?_)
      rotate_left
      · exact absurd rfl h61
      have hbn : bestN g v g.nb = none := by
        cases hq : bestN g v g.nb with
        | none => rfl
        | some o =>
          rw [hq] at hno
          exact absurd rfl (hno o (bestN_lt hq))
      refine s_aload_n G dX2_choose_85 rfl ?_
      refine gX2_144 G (by assumption) (by assumption) dX2_choose_86 ?_
      rw [hS.vi (k := 0) hv (by decide)]
      have hc : choose9 g v = if g.i 4 v 0 = 0 then g.set 4 v 2 1 else g := by
        unfold choose9
        rw [hbn]
      refine s_if_ne G 97 dX2_choose_89 (by decide) (fun h89 => ?_) (fun h89 => ?_)
      · refine s_vret G E9 hr dX2_choose_97 ⟨rfl, by rw [hc, if_neg h89]; exact hS, Fr.rf⟩
      · refine s_aload_n G dX2_choose_92 rfl ?_
        refine s_iconst (v := 1) G dX2_choose_93 (by decide) ?_
        refine pX2_147 G (by assumption) (by assumption) (by decide) dX2_choose_94 ?_
        refine s_vret G E9 hr dX2_choose_97 ⟨rfl, by rw [hc, if_pos h89]; exact hS.v4, Fr.v4 Fr.rf hv⟩
  have loop : ∀ n b, b + n = g.nb → V κ idsC 5 M [some (.ref (κ.E.ad (1, f, 0))), some (.int (nI v)), some (.ref (κ.E.ad (4, f, v))), some (.int (enc (bestN g v b))), some (.int (nI b))] [] 12 := by
    intro n
    induction n with
    | zero =>
      intro b hb
      have hb : b = g.nb := by omega
      subst hb
      refine s_iload G dX2_choose_12 rfl ?_
      refine s_aload_n G dX2_choose_14 rfl ?_
      refine gX2_46 G (by assumption) dX2_choose_15 ?_
      refine s_icmp_ge G 56 dX2_choose_18 (by decide) (fun h18 => ?_) (fun h18 => ?_)
      · exact fin
      · rw [hS.nb] at h18
        exact absurd (nI_le (Nat.le_refl _) (by omega)) h18
    | succ n ih =>
      intro b hbn
      have hb : b < g.nb := by omega
      refine s_iload G dX2_choose_12 rfl ?_
      refine s_aload_n G dX2_choose_14 rfl ?_
      refine gX2_46 G (by assumption) dX2_choose_15 ?_
      refine s_icmp_ge G 56 dX2_choose_18 (by decide) (fun h18 => ?_) (fun h18 => ?_)
      · rw [hS.nb] at h18
        exact absurd h18 (nI_ge hb (by omega))
      have next : ∀ x : Int32, x = enc (bestN g v (b + 1)) → V κ idsC 5 M [some (.ref (κ.E.ad (1, f, 0))), some (.int (nI v)), some (.ref (κ.E.ad (4, f, v))), some (.int x), some (.int (nI b))] [] 50 := by
        rintro x rfl
        refine s_iinc G dX2_choose_50 rfl (by decide) rfl (nI_1 b) ?_
        refine s_goto G 12 dX2_choose_53 (by decide) ?_
        exact ih (b + 1) (by omega)
      refine s_aload_n G dX2_choose_21 rfl ?_
      refine s_iload G dX2_choose_22 rfl ?_
      refine s_aload_n G dX2_choose_24 rfl ?_
      refine iX2_133 G (by assumption) (c_invites hf hS hI hv hb) (by decide) (Nat.le_of_ble_eq_true rfl) dX2_choose_25 (fun r9 M9 hp9 => ?_)
      obtain ⟨rfl, rfl⟩ := hp9
      refine s_if_eq G 50 dX2_choose_28 (by decide) (fun h28 => ?_) (fun h28 => ?_)
      · have hni : ¬ invites g v b := fun q => by rw [if_pos q] at h28; exact absurd h28 (by decide)
        exact next _ (by rw [bestN, if_neg (fun q => hni q.1)])
      have hin : invites g v b := Decidable.byContradiction (fun q => h28 (by rw [if_neg q]))
      have take : takes g v b (bestN g v b) = true → V κ idsC 5 M [some (.ref (κ.E.ad (1, f, 0))), some (.int (nI v)), some (.ref (κ.E.ad (4, f, v))), some (.int (enc (bestN g v b))), some (.int (nI b))] [] 47 := by
        intro ht
        refine s_iload G dX2_choose_47 rfl ?_
        refine s_istore_n G dX2_choose_49 (by decide) rfl ?_
        exact next _ (by rw [bestN, if_pos ⟨hin, ht⟩]; rfl)
      refine s_iload_n G dX2_choose_31 rfl ?_
      refine s_iconst (v := -1) G dX2_choose_32 (by decide) ?_
      cases hq : bestN g v b with
      | none =>
        refine s_icmp_eq G 47 dX2_choose_33 (by decide) (fun h33 => ?_) (fun h33 => ?_)
        · rw [hq] at take
          exact take rfl
        · exact absurd rfl h33
      | some o =>
        have ho : o < g.nb := by have := bestN_lt hq; omega
        refine s_icmp_eq G 47 dX2_choose_33 (by decide) (fun h33 => ?_) (fun h33 => ?_)
        · exact absurd h33 (nI_m1 (by omega))
        refine s_aload_n G dX2_choose_36 rfl ?_
        refine s_iload G dX2_choose_37 rfl ?_
        refine s_iload_n G dX2_choose_39 rfl ?_
        refine s_aload_n G dX2_choose_40 rfl ?_
        refine iX2_137 G (by assumption) (c_isBetter hf hS hI hv hb ho) (by decide) (Nat.le_of_ble_eq_true rfl) dX2_choose_41 (fun r9 M9 hp9 => ?_)
        obtain ⟨rfl, rfl⟩ := hp9
        refine s_if_eq G 50 dX2_choose_44 (by decide) (fun h44 => ?_) (fun h44 => ?_)
        · have hnb : ¬ better g v b o := fun q => by rw [if_pos q] at h44; exact absurd h44 (by decide)
          refine next _ ?_
          rw [bestN, if_neg (fun q => by rw [hq] at q; exact hnb (of_decide_eq_true q.2)), hq]
        · rw [hq] at take
          exact take (decide_eq_true (Decidable.byContradiction (fun q => h44 (by rw [if_neg q]))))
  refine s_aload_n G dX2_choose_0 rfl ?_
  refine gX2_25 G (by assumption) dX2_choose_1 ?_
  refine s_iload_n G dX2_choose_4 rfl ?_
  refine ar_8 G (by assumption) rfl (by first | assumption | omega) dX2_choose_5 ?_
  refine s_astore_n G dX2_choose_6 (by decide) rfl ?_
  refine s_iconst (v := -1) G dX2_choose_7 (by decide) ?_
  refine s_istore_n G dX2_choose_8 (by decide) rfl ?_
  refine s_iconst (v := 0) G dX2_choose_9 (by decide) ?_
  refine s_istore G dX2_choose_10 (by decide) rfl ?_
  exact loop g.nb 0 (by omega)
end Fete2
end
section
/-! ===== the board ===== -/
def ge9 (s : Int32) (y : Nat × Nat × Int32) : Bool := decide (s ≤ y.2.2)
theorem bdIns_eq (L : List (Nat × Nat × Int32)) (x : Nat × Nat × Int32) : bdIns L x = (L.takeWhile (ge9 x.2.2) ++ x :: L.dropWhile (ge9 x.2.2)).take 3 := rfl
theorem tw_le (L : List (Nat × Nat × Int32)) (s : Int32) : (L.takeWhile (ge9 s)).length ≤ L.length := by
  induction L with
  | nil => exact Nat.le_refl 0
  | cons a L ih =>
    rw [List.takeWhile_cons]
    split
    · simp only [List.length_cons]; omega
    · simp
theorem tw_lt {L : List (Nat × Nat × Int32)} {s : Int32} : ∀ {i : Nat} {y : Nat × Nat × Int32}, L.Pairwise (fun a b => b.2.2 ≤ a.2.2) → L[i]? = some y → (s ≤ y.2.2 ↔ i < (L.takeWhile (ge9 s)).length) := by
  induction L with
  | nil => intro i y _ h; simp at h
  | cons a L ih =>
    intro i y hp h
    rw [List.pairwise_cons] at hp
    rw [List.takeWhile_cons]
    by_cases ha : ge9 s a = true
    · rw [if_pos ha]
      cases i with
      | zero =>
        simp only [List.getElem?_cons_zero, Option.some.injEq] at h
        subst h
        exact ⟨fun _ => Nat.succ_pos _, fun _ => of_decide_eq_true ha⟩
      | succ i =>
        simp only [List.getElem?_cons_succ] at h
        rw [ih hp.2 h]
        simp only [List.length_cons]
        omega
    · rw [if_neg ha]
      have h9 : ¬ s ≤ a.2.2 := fun q => ha (decide_eq_true q)
      constructor
      · intro q
        exfalso
        cases i with
        | zero =>
          simp only [List.getElem?_cons_zero, Option.some.injEq] at h
          subst h
          exact h9 q
        | succ i =>
          simp only [List.getElem?_cons_succ] at h
          have := hp.1 y (List.mem_of_getElem? h)
          rw [Int32.le_iff_toInt_le] at q this h9
          omega
      · intro q
        exact absurd q (by simp)
theorem bdIns_len {L : List (Nat × Nat × Int32)} {x : Nat × Nat × Int32} : (bdIns L x).length = if L.length + 1 ≤ 3 then L.length + 1 else 3 := by
  rw [bdIns_eq, List.length_take, List.length_append, List.length_cons]
  have h := congrArg List.length (List.takeWhile_append_dropWhile (p := ge9 x.2.2) (l := L))
  rw [List.length_append] at h
  split <;> omega
theorem bdIns_at {L : List (Nat × Nat × Int32)} {x : Nat × Nat × Int32} {j : Nat} (hj : j < 3) : (bdIns L x)[j]? = if j < (L.takeWhile (ge9 x.2.2)).length then L[j]? else if j = (L.takeWhile (ge9 x.2.2)).length then some x else L[j - 1]? := by
  rw [bdIns_eq, List.getElem?_take_of_lt hj]
  have hs := List.takeWhile_append_dropWhile (p := ge9 x.2.2) (l := L)
  generalize hA : L.takeWhile (ge9 x.2.2) = A at hs ⊢
  generalize hB : L.dropWhile (ge9 x.2.2) = B at hs ⊢
  subst hs
  by_cases h1 : j < A.length
  · rw [if_pos h1, List.getElem?_append_left h1, List.getElem?_append_left h1]
  · rw [if_neg h1, List.getElem?_append_right (by omega)]
    by_cases h2 : j = A.length
    · rw [if_pos h2, h2, Nat.sub_self]
      rfl
    · rw [if_neg h2, List.getElem?_append_right (by omega)]
      have : j - A.length = (j - 1 - A.length) + 1 := by omega
      rw [this, List.getElem?_cons_succ]
section Wr
variable {E : EX} {M : Mem} {f : Nat}
/-- the memory but for the board -/
def noB (f : Nat) (M M' : Mem) : Prop := (∀ i : Pid, i ≠ (5, f, 0) → i ≠ (11, f, 0) → i ≠ (12, f, 0) → i ≠ (13, f, 0) → M' i = M i) ∧ ∀ k, k ≠ 0 → M' (5, f, 0) k = M (5, f, 0) k
theorem c_write {L : List (Nat × Nat × Int32)} (hf : f < 2) (hl : M (5, f, 0) 0 = nI L.length) (hL : L.length ≤ 3) (he : ∀ l x, L[l]? = some x → M (11, f, 0) l = nI x.1 ∧ M (12, f, 0) l = nI x.2.1 ∧ M (13, f, 0) l = x.2.2) (hs : L.Pairwise (fun a b => b.2.2 ≤ a.2.2)) (v b : Nat) (s : Int32) : Ret E idsC yX1_write cX1_write 6 none 1 21 [.ref (E.ad (5, f, 0)), .int (nI v), .int (nI b), .int s] M (fun r M' => r = none ∧ noB f M M' ∧ M' (5, f, 0) 0 = nI (bdIns L (v, b, s)).length ∧ ∀ l x, (bdIns L (v, b, s))[l]? = some x → M' (11, f, 0) l = nI x.1 ∧ M' (12, f, 0) l = nI x.2.1 ∧ M' (13, f, 0) l = x.2.2) := by
  have ht := tw_le L s
  generalize hT : (L.takeWhile (ge9 s)).length = t at ht
  refine Ret_of_V RX1 (by decide) rfl idsC_nd [some (.ref (E.ad (5, f, 0))), some (.int (nI v)), some (.int (nI b)), some (.int s), none, none] rfl (Nat.le_of_ble_eq_true rfl) (fun κ hE G E9 hr => ?_)
  subst hE
  -- behind the search: the place is t
  have fin : V κ idsC 6 M [some (.ref (κ.E.ad (5, f, 0))), some (.int (nI v)), some (.int (nI b)), some (.int s), some (.int (nI t)), some (.int (nI L.length))] [] 44 := by
    refine s_iload G dX1_write_44 rfl ?_
    refine s_iconst (v := 3) G dX1_write_46 (by decide) ?_
    refine s_icmp_lt G 51 dX1_write_47 (by decide) (fun h47 => ?_) (fun h47 => ?_)
    rotate_left
    · have ht3 : t = 3 := by
        have : ¬ t < 3 := fun q => h47 (nI_lt (b := 3) q (by decide))
        omega
      have hb9 : bdIns L (v, b, s) = L := by
        apply List.ext_getElem?
        intro j
        by_cases hj : j < 3
        · rw [bdIns_at hj, if_pos (by rw [hT]; omega)]
        · rw [List.getElem?_eq_none (by rw [bdIns_len]; split <;> omega), List.getElem?_eq_none (by omega)]
      refine s_vret G E9 hr dX1_write_50 ⟨rfl, ⟨fun _ _ _ _ _ => rfl, fun _ _ => rfl⟩, by rw [hb9]; exact hl, fun l x hx => he l x (by rw [hb9] at hx; exact hx)⟩
    have ht3 : t < 3 := (nI_ltI (b := 3) (by omega) (by decide)).mp h47
    refine s_aload_n G dX1_write_51 rfl ?_
    refine s_aload_n G dX1_write_52 rfl ?_
    refine gX1_21 G (by assumption) dX1_write_53 ?_
    refine s_iconst (v := 1) G dX1_write_56 (by decide) ?_
    refine s_iadd G dX1_write_57 ?_
    refine s_iconst (v := 3) G dX1_write_58 (by decide) ?_
    rw [hl]
    refine iX1_25 G dX1_write_59 (by decide) (Nat.le_of_ble_eq_true rfl) ?_
    refine pX1_21 G (by assumption) dX1_write_62 ?_
    generalize hn9 : (if L.length + 1 ≤ 3 then L.length + 1 else 3) = n9
    have hmin : (if (3 : Int32) < nI L.length + 1 then (3 : Int32) else nI L.length + 1) = nI n9 := by
      rw [nI_1, show (3 : Int32) = nI 3 from rfl]
      by_cases h3 : L.length + 1 ≤ 3
      · rw [if_neg (fun q => nI_nlt (a := 3) (b := L.length + 1) h3 (by decide) q), ← hn9, if_pos h3]
      · rw [if_pos (nI_lt (a := 3) (by omega) (by omega)), ← hn9, if_neg h3]
    rw [hmin]
    have hn1 : 1 ≤ n9 := by rw [← hn9]; split <;> omega
    have hn3 : n9 ≤ 3 := by rw [← hn9]; split <;> omega
    have htn : t < n9 := by rw [← hn9]; split <;> omega
    have hlen : (bdIns L (v, b, s)).length = n9 := by rw [bdIns_len, hn9]
    have shift : ∀ n c, c = t + n → c < n9 → ∀ M1 : Mem, noB f M M1 → M1 (5, f, 0) 0 = nI n9 → (∀ j, j ≤ c → M1 (11, f, 0) j = M (11, f, 0) j ∧ M1 (12, f, 0) j = M (12, f, 0) j ∧ M1 (13, f, 0) j = M (13, f, 0) j) → (∀ j, c < j → j < n9 → M1 (11, f, 0) j = M (11, f, 0) (j - 1) ∧ M1 (12, f, 0) j = M (12, f, 0) (j - 1) ∧ M1 (13, f, 0) j = M (13, f, 0) (j - 1)) → V κ idsC 6 M1 [some (.ref (κ.E.ad (5, f, 0))), some (.int (nI v)), some (.int (nI b)), some (.int s), some (.int (nI t)), some (.int (nI c))] [] 73 := by
      intro n
      induction n with
      | zero =>
        intro c hc hcn M1 hM1 hM2 hA hB
        have hc : c = t := by omega
        subst hc
        have hc3 : c < 3 := by omega
        refine s_iload G dX1_write_73 rfl ?_
        refine s_iload G dX1_write_75 rfl ?_
        refine s_icmp_le G 134 dX1_write_77 (by decide) (fun h77 => ?_) (fun h77 => ?_)
        rotate_left
        · exact absurd (show nI c ≤ nI c from Int32.le_refl _) h77
        refine s_aload_n G dX1_write_134 rfl ?_
        refine gX1_9 G (by assumption) dX1_write_135 ?_
        refine s_iload G dX1_write_138 rfl ?_
        refine s_iload_n G dX1_write_140 rfl ?_
        refine as_11 G (by assumption) rfl (by first | assumption | omega) dX1_write_141 ?_
        refine s_aload_n G dX1_write_142 rfl ?_
        refine gX1_15 G (by assumption) dX1_write_143 ?_
        refine s_iload G dX1_write_146 rfl ?_
        refine s_iload_n G dX1_write_148 rfl ?_
        refine as_12 G (by assumption) rfl (by first | assumption | omega) dX1_write_149 ?_
        refine s_aload_n G dX1_write_150 rfl ?_
        refine gX1_18 G (by assumption) dX1_write_151 ?_
        refine s_iload G dX1_write_154 rfl ?_
        refine s_iload_n G dX1_write_156 rfl ?_
        refine as_13 G (by assumption) rfl (by first | assumption | omega) dX1_write_157 ?_
        refine s_vret G E9 hr dX1_write_158 ⟨rfl, ⟨fun i h1 h2 h3 h4 => ?_, fun k hk => ?_⟩, ?_, fun l x hx => ?_⟩
        · rw [up_ne h4, up_ne h3, up_ne h2]; exact hM1.1 i h1 h2 h3 h4
        · rw [up_ne (by simp), up_ne (by simp), up_ne (by simp)]; exact hM1.2 k hk
        · rw [up_ne (by simp), up_ne (by simp), up_ne (by simp), hlen]; exact hM2
        · have hl3 : l < 3 := by
            have := (List.getElem?_eq_some_iff.mp hx).1
            omega
          have hln : l < n9 := by
            have := (List.getElem?_eq_some_iff.mp hx).1
            omega
          rw [bdIns_at hl3, hT] at hx
          have r1 : up (up (up M1 (11, f, 0) c (nI v)) (12, f, 0) c (nI b)) (13, f, 0) c s (11, f, 0) l = if l = c then nI v else M1 (11, f, 0) l := by simp [up]
          have r2 : up (up (up M1 (11, f, 0) c (nI v)) (12, f, 0) c (nI b)) (13, f, 0) c s (12, f, 0) l = if l = c then nI b else M1 (12, f, 0) l := by simp [up]
          have r3 : up (up (up M1 (11, f, 0) c (nI v)) (12, f, 0) c (nI b)) (13, f, 0) c s (13, f, 0) l = if l = c then s else M1 (13, f, 0) l := by simp [up]
          rw [r1, r2, r3]
          by_cases q1 : l < c
          · rw [if_pos q1] at hx
            rw [if_neg (by omega), if_neg (by omega), if_neg (by omega), (hA l (by omega)).1, (hA l (by omega)).2.1, (hA l (by omega)).2.2]
            exact he l x hx
          · rw [if_neg q1] at hx
            by_cases q2 : l = c
            · rw [if_pos q2] at hx
              cases hx
              rw [if_pos q2, if_pos q2, if_pos q2]
              exact ⟨rfl, rfl, rfl⟩
            · rw [if_neg q2] at hx
              rw [if_neg q2, if_neg q2, if_neg q2, (hB l (by omega) hln).1, (hB l (by omega) hln).2.1, (hB l (by omega) hln).2.2]
              exact he (l - 1) x hx
      | succ n ih =>
        intro c hc hcn M1 hM1 hM2 hA hB
        have hc3 : c < 3 := by omega
        obtain ⟨c, rfl⟩ : ∃ c', c = c' + 1 := ⟨c - 1, by omega⟩
        have hcc : c < 3 := by omega
        have e1 : nI (c + 1) - 1 = nI c := nI_pred c
        refine s_iload G dX1_write_73 rfl ?_
        refine s_iload G dX1_write_75 rfl ?_
        refine s_icmp_le G 134 dX1_write_77 (by decide) (fun h77 => ?_) (fun h77 => ?_)
        · exact absurd h77 (nI_ge (by omega) (by omega))
        refine s_aload_n G dX1_write_80 rfl ?_
        refine gX1_9 G (by assumption) dX1_write_81 ?_
        refine s_iload G dX1_write_84 rfl ?_
        refine s_aload_n G dX1_write_86 rfl ?_
        refine gX1_9 G (by assumption) dX1_write_87 ?_
        refine s_iload G dX1_write_90 rfl ?_
        refine s_iconst (v := 1) G dX1_write_92 (by decide) ?_
        refine s_isub G dX1_write_93 ?_
        refine al_11 G (by assumption) e1 hcc dX1_write_94 ?_
        refine as_11 G (by assumption) rfl (by first | assumption | omega) dX1_write_95 ?_
        refine s_aload_n G dX1_write_96 rfl ?_
        refine gX1_15 G (by assumption) dX1_write_97 ?_
        refine s_iload G dX1_write_100 rfl ?_
        refine s_aload_n G dX1_write_102 rfl ?_
        refine gX1_15 G (by assumption) dX1_write_103 ?_
        refine s_iload G dX1_write_106 rfl ?_
        refine s_iconst (v := 1) G dX1_write_108 (by decide) ?_
        refine s_isub G dX1_write_109 ?_
        refine al_12 G (by assumption) e1 hcc dX1_write_110 ?_
        refine as_12 G (by assumption) rfl (by first | assumption | omega) dX1_write_111 ?_
        refine s_aload_n G dX1_write_112 rfl ?_
        refine gX1_18 G (by assumption) dX1_write_113 ?_
        refine s_iload G dX1_write_116 rfl ?_
        refine s_aload_n G dX1_write_118 rfl ?_
        refine gX1_18 G (by assumption) dX1_write_119 ?_
        refine s_iload G dX1_write_122 rfl ?_
        refine s_iconst (v := 1) G dX1_write_124 (by decide) ?_
        refine s_isub G dX1_write_125 ?_
        refine al_13 G (by assumption) e1 hcc dX1_write_126 ?_
        refine as_13 G (by assumption) rfl (by first | assumption | omega) dX1_write_127 ?_
        refine s_iinc G dX1_write_128 rfl (by decide) rfl (pk_m1 c) ?_
        refine s_goto G 73 dX1_write_131 (by decide) ?_
        refine ih c (by omega) (by omega) _ ⟨fun i h1 h2 h3 h4 => ?_, fun k hk => ?_⟩ ?_ (fun j hj => ?_) (fun j h1 h2 => ?_)
        · rw [up_ne h4, up_ne h3, up_ne h2]; exact hM1.1 i h1 h2 h3 h4
        · rw [up_ne (by simp), up_ne (by simp), up_ne (by simp)]; exact hM1.2 k hk
        · rw [up_ne (by simp), up_ne (by simp), up_ne (by simp)]; exact hM2
        · have := hA j (by omega)
          simp only [up, Prod.mk.injEq]
          rw [if_neg (by omega), if_neg (by omega), if_neg (by omega), if_neg (by omega), if_neg (by omega), if_neg (by omega), if_neg (by omega), if_neg (by omega), if_neg (by omega)]
          exact this
        · by_cases hj : j = c + 1
          · subst hj
            have h3 := hA c (by omega)
            simp only [Nat.add_sub_cancel]
            refine ⟨?_, ?_, ?_⟩
            · rw [← h3.1]; simp [up]
            · rw [← h3.2.1]; simp [up]
            · rw [← h3.2.2]; simp [up]
          · have h3 := hB j (by omega) h2
            refine ⟨?_, ?_, ?_⟩
            · rw [← h3.1]; simp [up, hj]
            · rw [← h3.2.1]; simp [up, hj]
            · rw [← h3.2.2]; simp [up, hj]
    refine s_aload_n G dX1_write_65 rfl ?_
    refine gX1_21 G (by assumption) dX1_write_66 ?_
    refine s_iconst (v := 1) G dX1_write_69 (by decide) ?_
    rw [up_at, if_pos rfl]
    have e2 : nI n9 - 1 = nI (n9 - 1) := pk_sub (a := n9) (b := 1) hn1
    refine s_isub G dX1_write_70 ?_
    rw [e2]
    refine s_istore G dX1_write_71 (by decide) rfl ?_
    refine shift (n9 - 1 - t) (n9 - 1) (by omega) (by omega) _ ⟨fun i h1 h2 h3 h4 => up_ne h1, fun k hk => by rw [up_at, if_neg hk]⟩ (by rw [up_at, if_pos rfl]) (fun j hj => by rw [up_ne (by simp), up_ne (by simp), up_ne (by simp)]; exact ⟨rfl, rfl, rfl⟩) (fun j h1 h2 => by omega)
  have scan : ∀ n i, i + n = L.length → V κ idsC 6 M [some (.ref (κ.E.ad (5, f, 0))), some (.int (nI v)), some (.int (nI b)), some (.int s), some (.int (nI (if i < t then i else t))), some (.int (nI i))] [] 6 := by
    intro n
    induction n with
    | zero =>
      intro i hi
      have hi : i = L.length := by omega
      subst hi
      refine s_iload G dX1_write_6 rfl ?_
      refine s_aload_n G dX1_write_8 rfl ?_
      refine gX1_21 G (by assumption) dX1_write_9 ?_
      refine s_icmp_ge G 44 dX1_write_12 (by decide) (fun h12 => ?_) (fun h12 => ?_)
      · rw [if_neg (by omega)]
        exact fin
      · rw [hl] at h12
        exact absurd (Int32.le_refl _) h12
    | succ n ih =>
      intro i hi
      have hil : i < L.length := by omega
      have hi3 : i < 3 := by omega
      obtain ⟨y, hy⟩ : ∃ y, L[i]? = some y := ⟨_, List.getElem?_eq_getElem hil⟩
      have hk := tw_lt (s := s) hs hy
      rw [hT] at hk
      refine s_iload G dX1_write_6 rfl ?_
      refine s_aload_n G dX1_write_8 rfl ?_
      refine gX1_21 G (by assumption) dX1_write_9 ?_
      refine s_icmp_ge G 44 dX1_write_12 (by decide) (fun h12 => ?_) (fun h12 => ?_)
      · rw [hl] at h12
        exact absurd h12 (nI_ge hil (by omega))
      refine s_iload G dX1_write_15 rfl ?_
      refine s_iconst (v := 3) G dX1_write_17 (by decide) ?_
      refine s_icmp_ge G 44 dX1_write_18 (by decide) (fun h18 => ?_) (fun h18 => ?_)
      · exact absurd h18 (nI_ge (b := 3) hi3 (by decide))
      refine s_aload_n G dX1_write_21 rfl ?_
      refine gX1_18 G (by assumption) dX1_write_22 ?_
      refine s_iload G dX1_write_25 rfl ?_
      refine al_13 G (by assumption) rfl (by first | assumption | omega) dX1_write_27 ?_
      refine s_iload_n G dX1_write_28 rfl ?_
      rw [(he i y hy).2.2]
      refine s_icmp_lt G 38 dX1_write_29 (by decide) (fun h29 => ?_) (fun h29 => ?_)
      · have hit : ¬ i < t := fun q => i_nlt.mpr (hk.mpr q) h29
        rw [if_neg hit]
        refine s_iinc G dX1_write_38 rfl (by decide) rfl (nI_1 i) ?_
        refine s_goto G 6 dX1_write_41 (by decide) ?_
        have := ih (i + 1) (by omega)
        rw [if_neg (by omega)] at this
        exact this
      · have hit : i < t := hk.mp (i_nlt.mp h29)
        refine s_iload G dX1_write_32 rfl ?_
        refine s_iconst (v := 1) G dX1_write_34 (by decide) ?_
        refine s_iadd G dX1_write_35 ?_
        rw [nI_1]
        refine s_istore G dX1_write_36 (by decide) rfl ?_
        refine s_iinc G dX1_write_38 rfl (by decide) rfl (nI_1 i) ?_
        refine s_goto G 6 dX1_write_41 (by decide) ?_
        have := ih (i + 1) (by omega)
        have e3 : (if i + 1 < t then i + 1 else t) = i + 1 := by split <;> omega
        rw [e3] at this
        exact this
  refine s_iconst (v := 0) G dX1_write_0 (by decide) ?_
  refine s_istore G dX1_write_1 (by decide) rfl ?_
  refine s_iconst (v := 0) G dX1_write_3 (by decide) ?_
  refine s_istore G dX1_write_4 (by decide) rfl ?_
  have := scan L.length 0 (by omega)
  have e4 : (if 0 < t then 0 else t) = 0 := by split <;> omega
  rw [e4] at this
  exact this
end Wr
end
section
/-! ===== a play, a booth's turn, a helper's ===== -/
theorem V.abs {κ : KX} {ids : List Pid} {nL : Nat} {M : Mem} {l : LSt} {st : List Value} {pc : Nat} (h : ∀ M', M' = M → V κ ids nL M' l st pc) : V κ ids nL M l st pc := h M rfl
section InvKeep
variable {g : GS} {x : Int32}
theorem Inv.v4 (h : Inv g) {v k : Nat} (h2 : k ≠ 2) (h3 : k ≠ 3) : Inv (g.set 4 v k x) := by
  obtain ⟨a1, a2, a3, a4, a5, a6, a7⟩ := h
  refine ⟨a1, fun h hh => ?_, fun u hu => ?_, fun b hb => ?_, a5, a6, a7⟩
  · simpa [gi_set, gnb_set, gnv_set, gq_set] using a2 h hh
  · have e2 : (g.set 4 v k x).i 4 u 2 = g.i 4 u 2 := by rw [gi_set, if_neg (by omega)]
    have e3 : (g.set 4 v k x).i 4 u 3 = g.i 4 u 3 := by rw [gi_set, if_neg (by omega)]
    have e4 : ∀ b, (g.set 4 v k x).i 10 u b = g.i 10 u b := fun b => by rw [gi_set, if_neg (by omega)]
    rw [e2, e3]
    simp only [e4]
    exact a3 u hu
  · have e3 : ∀ u, (g.set 4 v k x).i 4 u 3 = g.i 4 u 3 := fun u => by rw [gi_set, if_neg (by omega)]
    have e5 : (g.set 4 v k x).i 2 b 2 = g.i 2 b 2 := by rw [gi_set, if_neg (by omega)]
    rw [e5]
    simp only [e3]
    exact a4 b hb
theorem Inv.b2 (h : Inv g) {v k : Nat} (h2 : k = 2 → 0 ≤ x) : Inv (g.set 2 v k x) := by
  obtain ⟨a1, a2, a3, a4, a5, a6, a7⟩ := h
  refine ⟨a1, fun h hh => ?_, fun u hu => ?_, fun b hb => ?_, a5, a6, a7⟩
  · simpa [gi_set, gnb_set, gnv_set, gq_set] using a2 h hh
  · simpa [gi_set, gnb_set, gnv_set, gq_set] using a3 u hu
  · have e3 : ∀ u, (g.set 2 v k x).i 4 u 3 = g.i 4 u 3 := fun u => by rw [gi_set, if_neg (by omega)]
    simp only [e3]
    refine ⟨(a4 b hb).1, (a4 b hb).2.1, ?_⟩
    rw [gi_set]
    split
    · rename_i q; exact h2 q.2.2.symm
    · exact (a4 b hb).2.2
theorem Inv.p10 (h : Inv g) {v k : Nat} (h1 : 0 ≤ x) (h2 : x ≤ 9) : Inv (g.set 10 v k x) := by
  obtain ⟨a1, a2, a3, a4, a5, a6, a7⟩ := h
  refine ⟨a1, fun h hh => ?_, fun u hu => ?_, fun b hb => ?_, a5, a6, a7⟩
  · simpa [gi_set, gnb_set, gnv_set, gq_set] using a2 h hh
  · have e2 : (g.set 10 v k x).i 4 u 2 = g.i 4 u 2 := by rw [gi_set, if_neg (by omega)]
    have e3 : (g.set 10 v k x).i 4 u 3 = g.i 4 u 3 := by rw [gi_set, if_neg (by omega)]
    rw [e2, e3]
    refine ⟨(a3 u hu).1, (a3 u hu).2.1, (a3 u hu).2.2.1, fun b hb => ?_⟩
    rw [gi_set]
    split
    · exact ⟨h1, h2⟩
    · exact (a3 u hu).2.2.2 b hb
  · have e3 : ∀ u, (g.set 10 v k x).i 4 u 3 = g.i 4 u 3 := fun u => by rw [gi_set, if_neg (by omega)]
    have e5 : (g.set 10 v k x).i 2 b 2 = g.i 2 b 2 := by rw [gi_set, if_neg (by omega)]
    rw [e5]
    simp only [e3]
    exact a4 b hb
theorem Inv.f1 (h : Inv g) {v k : Nat} : Inv (g.set 1 v k x) := by
  obtain ⟨a1, a2, a3, a4, a5, a6, a7⟩ := h
  exact ⟨a1, fun h hh => by simpa [gi_set, gnb_set, gnv_set, gq_set] using a2 h hh, fun u hu => by simpa [gi_set, gnb_set, gnv_set, gq_set] using a3 u hu, fun b hb => by simpa [gi_set, gnb_set, gnv_set, gq_set] using a4 b hb, a5, a6, a7⟩
theorem Inv.setbd (h : Inv g) {L : List (Nat × Nat × Int32)} (h1 : L.length ≤ 3) (h2 : ∀ x, x ∈ L → x.1 < g.nv) (h3 : L.Pairwise (fun x y => y.2.2 ≤ x.2.2)) : Inv (g.setbd L) := by
  obtain ⟨a1, a2, a3, a4, a5, a6, a7⟩ := h
  exact ⟨a1, a2, a3, a4, h1, h2, h3⟩
end InvKeep
section Pl
variable {E : EX} {M : Mem} {f : Nat} {g : GS}
theorem c_pointsOf {v b : Nat} (hf : f < 2) (hS : SimC f M g) (hI : Inv g) (hv : v < g.nv) (hb : b < g.nb) : Ret E idsC yX2_pointsOf cX2_pointsOf 5 (some .int) 0 0 [.ref (E.ad (1, f, 0)), .ref (E.ad (4, f, v)), .int (nI b)] M (fun r M' => r = some (.int (pts g v b)) ∧ M = M') := by
  have hb8 : b < 8 := Nat.lt_of_lt_of_le hb hI.nb8
  have hv16 : v < 16 := Nat.lt_of_lt_of_le hv hI.nv16
  have e1 := hS.num (k := 9) (by decide) (by decide)
  have e2 := hS.bo (k := 3) hb (by decide) (by decide)
  have e3 := hS.wks hb
  have e4 := hS.vi (k := 1) hv (by decide)
  have e5 := hS.pr hv hb8
  refine Ret_of_V RX2 (by decide) rfl idsC_nd [some (.ref (E.ad (1, f, 0))), some (.ref (E.ad (4, f, v))), some (.int (nI b)), none, none] rfl (Nat.le_of_ble_eq_true rfl) (fun κ hE G E9 hr => ?_)
  subst hE
  refine s_aload_n G dX2_pointsOf_0 rfl ?_
  refine gX2_11 G (by assumption) dX2_pointsOf_1 ?_
  refine s_iload_n G dX2_pointsOf_4 rfl ?_
  refine ar_6 G (by assumption) rfl (by first | assumption | omega) dX2_pointsOf_5 ?_
  refine s_astore_n G dX2_pointsOf_6 (by decide) rfl ?_
  refine s_aload_n G dX2_pointsOf_7 rfl ?_
  refine gX2_205 G (by assumption) (by assumption) dX2_pointsOf_8 ?_
  rw [e4]
  refine s_iconst (v := 3) G dX2_pointsOf_11 (by decide) ?_
  refine s_aload_n G dX2_pointsOf_12 rfl ?_
  refine gX2_161 G (by assumption) (by assumption) dX2_pointsOf_13 ?_
  refine s_iload_n G dX2_pointsOf_16 rfl ?_
  refine al_10 G (by assumption) (by assumption) rfl (by first | assumption | omega) dX2_pointsOf_17 ?_
  rw [e5]
  refine s_imul G dX2_pointsOf_18 ?_
  refine s_iadd G dX2_pointsOf_19 ?_
  refine s_iconst (v := 5) G dX2_pointsOf_20 (by decide) ?_
  refine s_aload_n G dX2_pointsOf_21 rfl ?_
  refine gX2_93 G (by assumption) (by assumption) dX2_pointsOf_22 ?_
  rw [e3]
  refine s_aload_n G dX2_pointsOf_25 rfl ?_
  refine gX2_208 G (by assumption) (by assumption) dX2_pointsOf_26 ?_
  rw [e2]
  refine s_isub G dX2_pointsOf_29 ?_
  refine s_imul G dX2_pointsOf_30 ?_
  refine s_iadd G dX2_pointsOf_31 ?_
  refine s_istore G dX2_pointsOf_32 (by decide) rfl ?_
  refine s_iload_n G dX2_pointsOf_34 rfl ?_
  refine s_aload_n G dX2_pointsOf_35 rfl ?_
  refine gX2_40 G (by assumption) dX2_pointsOf_36 ?_
  rw [e1]
  refine s_icmp_ne G 49 dX2_pointsOf_39 (by decide) (fun h39 => ?_) (fun h39 => ?_)
  · refine s_iload G dX2_pointsOf_49 rfl ?_
    refine s_iret G E9 hr dX2_pointsOf_51 ⟨by unfold pts; rw [if_neg h39], rfl⟩
  · refine s_iconst (v := 2) G dX2_pointsOf_42 (by decide) ?_
    refine s_iload G dX2_pointsOf_43 rfl ?_
    refine s_imul G dX2_pointsOf_45 ?_
    refine s_goto G 51 dX2_pointsOf_46 (by decide) ?_
    refine s_iret G E9 hr dX2_pointsOf_51 ⟨by unfold pts; rw [if_pos h39], rfl⟩
/-- a fact's set, seen from the others -/
theorem cst_congr {g g' : GS} (b : Nat) (h1 : g'.i 1 0 9 = g.i 1 0 9) (h2 : g'.i 2 b 0 = g.i 2 b 0) : cst g' b = cst g b := by
  unfold cst
  rw [h1, h2]
theorem pts_congr {g g' : GS} {v b : Nat} (h1 : g'.i 4 v 1 = g.i 4 v 1) (h2 : g'.i 10 v b = g.i 10 v b) (h3 : wk g' b = wk g b) (h4 : g'.i 2 b 3 = g.i 2 b 3) (h5 : g'.i 1 0 9 = g.i 1 0 9) : pts g' v b = pts g v b := by
  unfold pts
  rw [h1, h2, h3, h4, h5]
theorem c_play {v b : Nat} (hf : f < 2) (hS : SimC f M g) (hI : Inv g) (hv : v < g.nv) (hb : b < g.nb) : Ret E idsC yX2_play cX2_play 7 none 2 46 [.ref (E.ad (1, f, 0)), .int (nI v), .int (nI b)] M (fun r M' => r = none ∧ SimC f M' (play9 g v b) ∧ Fr f g.2.2.1 M M') := by
  have hb8 : b < 8 := Nat.lt_of_lt_of_le hb hI.nb8
  have hv16 : v < 16 := Nat.lt_of_lt_of_le hv hI.nv16
  refine Ret_of_V RX2 (by decide) rfl idsC_nd [some (.ref (E.ad (1, f, 0))), some (.int (nI v)), some (.int (nI b)), none, none, none, none] rfl (Nat.le_of_ble_eq_true rfl) (fun κ hE G E9 hr => ?_)
  subst hE
  refine s_aload_n G dX2_play_0 rfl ?_
  refine gX2_25 G (by assumption) dX2_play_1 ?_
  refine s_iload_n G dX2_play_4 rfl ?_
  refine ar_8 G (by assumption) rfl (by first | assumption | omega) dX2_play_5 ?_
  refine s_astore_n G dX2_play_6 (by decide) rfl ?_
  refine s_aload_n G dX2_play_7 rfl ?_
  refine gX2_11 G (by assumption) dX2_play_8 ?_
  refine s_iload_n G dX2_play_11 rfl ?_
  refine ar_6 G (by assumption) rfl (by first | assumption | omega) dX2_play_12 ?_
  refine s_astore G dX2_play_13 (by decide) rfl ?_
  refine s_aload_n G dX2_play_15 rfl ?_
  refine s_iload_n G dX2_play_16 rfl ?_
  refine iX2_154 G (by assumption) (c_costNow hf hS hI hb) (by decide) (Nat.le_of_ble_eq_true rfl) dX2_play_17 (fun r9 M9 hp9 => ?_)
  obtain ⟨rfl, rfl⟩ := hp9
  refine s_istore G dX2_play_20 (by decide) rfl ?_
  refine s_aload_n G dX2_play_22 rfl ?_
  refine s_dup G dX2_play_23 rfl ?_
  refine gX2_144 G (by assumption) (by assumption) dX2_play_24 ?_
  rw [hS.vi (k := 0) hv (by decide)]
  refine s_iload G dX2_play_27 rfl ?_
  refine s_isub G dX2_play_29 ?_
  refine pX2_144 G (by assumption) (by assumption) dX2_play_30 ?_
  refine V.abs (fun M1 hM1 => ?_)
  obtain ⟨g1, hg1⟩ : ∃ g1, g1 = g.set 4 v 0 (g.i 4 v 0 - cst g b) := ⟨_, rfl⟩
  have hS1 : SimC f M1 g1 := by rw [hM1, hg1]; exact hS.v4
  have hF1 : Fr f g.2.2.1 M M1 := by rw [hM1]; exact Fr.v4 Fr.rf hv
  have hI1 : Inv g1 := by rw [hg1]; exact hI.v4 (by decide) (by decide)
  have hn1 : g1.2.2.1 = g.2.2.1 := by rw [hg1]; rfl
  have hb1 : b < g1.nb := by rw [hg1]; exact hb
  have hv1 : v < g1.nv := by rw [hg1]; exact hv
  clear hM1
  refine s_aload G dX2_play_33 rfl ?_
  refine s_dup G dX2_play_35 rfl ?_
  refine gX2_180 G (by assumption) (by assumption) dX2_play_36 ?_
  rw [hS1.bo (k := 6) hb1 (by decide) (by decide), show g1.i 2 b 6 = g.i 2 b 6 by rw [hg1, gi_set, if_neg (by omega)]]
  refine s_iload G dX2_play_39 rfl ?_
  refine s_iadd G dX2_play_41 ?_
  refine pX2_180 G (by assumption) (by assumption) dX2_play_42 ?_
  refine V.abs (fun M2 hM2 => ?_)
  obtain ⟨g2, hg2⟩ : ∃ g2, g2 = g1.set 2 b 6 (g.i 2 b 6 + cst g b) := ⟨_, rfl⟩
  have hS2 : SimC f M2 g2 := by rw [hM2, hg2]; exact hS1.b2 (by decide) (by decide)
  have hF2 : Fr f g.2.2.1 M M2 := by rw [hM2]; exact Fr.b2 hF1 hb
  have hI2 : Inv g2 := by rw [hg2]; exact hI1.b2 (fun q => by cases q)
  have hb2 : b < g2.nb := by rw [hg2]; exact hb1
  have hv2 : v < g2.nv := by rw [hg2]; exact hv1
  clear hM2
  have hp : pts g2 v b = pts g v b := by
    apply pts_congr
    · rw [hg2, hg1]; simp [gi_set]
    · rw [hg2, hg1]; simp [gi_set]
    · rw [hg2, hg1, wk_set (by omega), wk_set (by omega)]
    · rw [hg2, hg1]; simp [gi_set]
    · rw [hg2, hg1]; simp [gi_set]
  have hbd2 : g2.bd = g.bd := by rw [hg2, hg1]; rfl
  refine s_aload_n G dX2_play_45 rfl ?_
  refine s_aload_n G dX2_play_46 rfl ?_
  refine s_iload_n G dX2_play_47 rfl ?_
  refine iX2_183 G (by assumption) (c_pointsOf hf hS2 hI2 hv2 hb2) (by decide) (Nat.le_of_ble_eq_true rfl) dX2_play_48 (fun r9 M9 hp9 => ?_)
  obtain ⟨rfl, rfl⟩ := hp9
  rw [hp]
  refine s_istore G dX2_play_51 (by decide) rfl ?_
  refine s_aload_n G dX2_play_53 rfl ?_
  refine gX2_32 G (by assumption) dX2_play_54 ?_
  refine s_iload_n G dX2_play_57 rfl ?_
  refine s_iload_n G dX2_play_58 rfl ?_
  refine s_iload G dX2_play_59 rfl ?_
  refine iX2_187 G (by assumption) (c_write hf hS2.bdl hI2.bd3 (fun l x hx => hS2.bde hx) hI2.bds v b (pts g v b)) (by decide) (Nat.le_of_ble_eq_true rfl) dX2_play_61 (fun r9 M9 hp9 => ?_)
  obtain ⟨rfl, hnb, hl3, he3⟩ := hp9
  rw [hbd2] at hl3 he3
  rename Mem => M3
  obtain ⟨g3, hg3⟩ : ∃ g3, g3 = g2.setbd (bdIns g.bd (v, b, pts g v b)) := ⟨_, rfl⟩
  have hS3 : SimC f M3 g3 := by
    rw [hg3]
    refine hS2.setbd (fun kd a k h1 h2 h3 h4 => ?_) hl3 he3
    by_cases h5 : kd = 5 ∧ a = 0
    · obtain ⟨rfl, rfl⟩ := h5
      exact hnb.2 k (fun q => h4 ⟨rfl, q⟩)
    · rw [hnb.1 _ (by simpa using h5) (by simp [h1]) (by simp [h2]) (by simp [h3])]
  have hF3 : Fr f g.2.2.1 M M3 := by
    refine hF2.trans (fun kd f' a hf' => hnb.1 _ ?_ ?_ ?_ ?_) <;> (intro q; cases q; unfold oR at hf'; omega)
  have hb3 : b < g3.nb := by rw [hg3]; exact hb2
  have hv3 : v < g3.nv := by rw [hg3]; exact hv2
  refine s_aload_n G dX2_play_64 rfl ?_
  refine gX2_161 G (by assumption) (by assumption) dX2_play_65 ?_
  refine s_iload_n G dX2_play_68 rfl ?_
  refine s_aload_n G dX2_play_69 rfl ?_
  refine gX2_161 G (by assumption) (by assumption) dX2_play_70 ?_
  refine s_iload_n G dX2_play_73 rfl ?_
  refine al_10 G (by assumption) (by assumption) rfl (by first | assumption | omega) dX2_play_74 ?_
  rw [hS3.pr hv3 hb8, show g3.i 10 v b = g.i 10 v b by rw [hg3, hg2, hg1]; simp [gi_set, gi_setbd]]
  refine s_iconst (v := 1) G dX2_play_75 (by decide) ?_
  refine s_iadd G dX2_play_76 ?_
  refine s_bipush (v := 9) G dX2_play_77 (by decide) ?_
  refine iX2_165 G dX2_play_79 (by decide) (Nat.le_of_ble_eq_true rfl) ?_
  refine as_10 G (by assumption) (by assumption) rfl (by first | assumption | omega) dX2_play_82 ?_
  refine V.abs (fun M4 hM4 => ?_)
  obtain ⟨g4, hg4⟩ : ∃ g4, g4 = g3.set 10 v b (min9 (g.i 10 v b + 1) 9) := ⟨_, rfl⟩
  have hS4 : SimC f M4 g4 := by rw [hM4, hg4]; exact hS3.p10
  have hF4 : Fr f g.2.2.1 M M4 := by rw [hM4]; exact Fr.p10 hF3 hv
  have hb4 : b < g4.nb := by rw [hg4]; exact hb3
  have hv4 : v < g4.nv := by rw [hg4]; exact hv3
  clear hM4
  refine s_aload_n G dX2_play_83 rfl ?_
  refine s_dup G dX2_play_84 rfl ?_
  refine gX2_191 G (by assumption) (by assumption) dX2_play_85 ?_
  rw [hS4.vi (k := 6) hv4 (by decide), show g4.i 4 v 6 = g.i 4 v 6 by rw [hg4, hg3, hg2, hg1]; simp [gi_set, gi_setbd]]
  refine s_iconst (v := 1) G dX2_play_88 (by decide) ?_
  refine s_iadd G dX2_play_89 ?_
  refine pX2_191 G (by assumption) (by assumption) dX2_play_90 ?_
  refine V.abs (fun M5 hM5 => ?_)
  obtain ⟨g5, hg5⟩ : ∃ g5, g5 = g4.set 4 v 6 (g.i 4 v 6 + 1) := ⟨_, rfl⟩
  have hS5 : SimC f M5 g5 := by rw [hM5, hg5]; exact hS4.v4
  have hF5 : Fr f g.2.2.1 M M5 := by rw [hM5]; exact Fr.v4 hF4 hv
  have hb5 : b < g5.nb := by rw [hg5]; exact hb4
  have hv5 : v < g5.nv := by rw [hg5]; exact hv4
  clear hM5
  refine s_aload G dX2_play_93 rfl ?_
  refine s_dup G dX2_play_95 rfl ?_
  refine gX2_194 G (by assumption) (by assumption) dX2_play_96 ?_
  rw [hS5.bo (k := 5) hb5 (by decide) (by decide), show g5.i 2 b 5 = g.i 2 b 5 by rw [hg5, hg4, hg3, hg2, hg1]; simp [gi_set, gi_setbd]]
  refine s_iconst (v := 1) G dX2_play_99 (by decide) ?_
  refine s_iadd G dX2_play_100 ?_
  refine pX2_194 G (by assumption) (by assumption) dX2_play_101 ?_
  refine V.abs (fun M6 hM6 => ?_)
  obtain ⟨g6, hg6⟩ : ∃ g6, g6 = g5.set 2 b 5 (g.i 2 b 5 + 1) := ⟨_, rfl⟩
  have hS6 : SimC f M6 g6 := by rw [hM6, hg6]; exact hS5.b2 (by decide) (by decide)
  have hF6 : Fr f g.2.2.1 M M6 := by rw [hM6]; exact Fr.b2 hF5 hb
  have hb6 : b < g6.nb := by rw [hg6]; exact hb5
  have hv6 : v < g6.nv := by rw [hg6]; exact hv5
  clear hM6
  refine s_aload_n G dX2_play_104 rfl ?_
  refine s_aload_n G dX2_play_105 rfl ?_
  refine gX2_195 G (by assumption) (by assumption) dX2_play_106 ?_
  rw [hS6.vi (k := 7) hv6 (by decide), show g6.i 4 v 7 = g.i 4 v 7 by rw [hg6, hg5, hg4, hg3, hg2, hg1]; simp [gi_set, gi_setbd]]
  refine s_iload G dX2_play_109 rfl ?_
  refine iX2_198 G dX2_play_111 (by decide) (Nat.le_of_ble_eq_true rfl) ?_
  refine pX2_195 G (by assumption) (by assumption) dX2_play_114 ?_
  refine V.abs (fun M7 hM7 => ?_)
  obtain ⟨g7, hg7⟩ : ∃ g7, g7 = g6.set 4 v 7 (max9 (g.i 4 v 7) (pts g v b)) := ⟨_, rfl⟩
  have hS7 : SimC f M7 g7 := by rw [hM7, hg7]; exact hS6.v4
  have hF7 : Fr f g.2.2.1 M M7 := by rw [hM7]; exact Fr.v4 hF6 hv
  have hb7 : b < g7.nb := by rw [hg7]; exact hb6
  have hv7 : v < g7.nv := by rw [hg7]; exact hv6
  clear hM7
  have hpl : play9 g v b = if g.i 2 b 1 ≤ pts g v b ∧ 0 < g.i 2 b 2 then ((g7.set 2 b 2 (g.i 2 b 2 - 1)).set 4 v 4 (g.i 4 v 4 + 1)).set 1 0 10 (g.i 1 0 10 + 1) else g7 := by
    rw [hg7, hg6, hg5, hg4, hg3, hg2, hg1]
    unfold play9
    simp only [gi_set, gi_setbd]
  refine s_iload G dX2_play_117 rfl ?_
  refine s_aload G dX2_play_119 rfl ?_
  refine gX2_201 G (by assumption) (by assumption) dX2_play_121 ?_
  rw [hS7.bo (k := 1) hb7 (by decide) (by decide), show g7.i 2 b 1 = g.i 2 b 1 by rw [hg7, hg6, hg5, hg4, hg3, hg2, hg1]; simp [gi_set, gi_setbd]]
  refine s_icmp_lt G 166 dX2_play_124 (by decide) (fun h124 => ?_) (fun h124 => ?_)
  · refine s_vret G E9 hr dX2_play_166 ⟨rfl, by rw [hpl, if_neg (fun q => i_nlt.mpr q.1 h124)]; exact hS7, hF7⟩
  refine s_aload G dX2_play_127 rfl ?_
  refine gX2_151 G (by assumption) (by assumption) dX2_play_129 ?_
  rw [hS7.bo (k := 2) hb7 (by decide) (by decide), show g7.i 2 b 2 = g.i 2 b 2 by rw [hg7, hg6, hg5, hg4, hg3, hg2, hg1]; simp [gi_set, gi_setbd]]
  refine s_if_le G 166 dX2_play_132 (by decide) (fun h132 => ?_) (fun h132 => ?_)
  · refine s_vret G E9 hr dX2_play_166 ⟨rfl, by rw [hpl, if_neg (fun q => i_nlt.mpr h132 q.2)]; exact hS7, hF7⟩
  refine s_aload G dX2_play_135 rfl ?_
  refine s_dup G dX2_play_137 rfl ?_
  refine gX2_151 G (by assumption) (by assumption) dX2_play_138 ?_
  rw [hS7.bo (k := 2) hb7 (by decide) (by decide), show g7.i 2 b 2 = g.i 2 b 2 by rw [hg7, hg6, hg5, hg4, hg3, hg2, hg1]; simp [gi_set, gi_setbd]]
  refine s_iconst (v := 1) G dX2_play_141 (by decide) ?_
  refine s_isub G dX2_play_142 ?_
  refine pX2_151 G (by assumption) (by assumption) dX2_play_143 ?_
  refine V.abs (fun M8 hM8 => ?_)
  have hS8 : SimC f M8 (g7.set 2 b 2 (g.i 2 b 2 - 1)) := by rw [hM8]; exact hS7.b2 (by decide) (by decide)
  have hF8 : Fr f g.2.2.1 M M8 := by rw [hM8]; exact Fr.b2 hF7 hb
  clear hM8
  refine s_aload_n G dX2_play_146 rfl ?_
  refine s_dup G dX2_play_147 rfl ?_
  refine gX2_204 G (by assumption) (by assumption) dX2_play_148 ?_
  rw [hS8.vi (k := 4) hv7 (by decide), show (g7.set 2 b 2 (g.i 2 b 2 - 1)).i 4 v 4 = g.i 4 v 4 by rw [hg7, hg6, hg5, hg4, hg3, hg2, hg1]; simp [gi_set, gi_setbd]]
  refine s_iconst (v := 1) G dX2_play_151 (by decide) ?_
  refine s_iadd G dX2_play_152 ?_
  refine pX2_204 G (by assumption) (by assumption) dX2_play_153 ?_
  refine V.abs (fun M10 hM10 => ?_)
  have hS10 : SimC f M10 ((g7.set 2 b 2 (g.i 2 b 2 - 1)).set 4 v 4 (g.i 4 v 4 + 1)) := by rw [hM10]; exact hS8.v4
  have hF10 : Fr f g.2.2.1 M M10 := by rw [hM10]; exact Fr.v4 hF8 hv
  clear hM10
  refine s_aload_n G dX2_play_156 rfl ?_
  refine s_dup G dX2_play_157 rfl ?_
  refine gX2_58 G (by assumption) dX2_play_158 ?_
  rw [hS10.num (k := 10) (by decide) (by decide), show ((g7.set 2 b 2 (g.i 2 b 2 - 1)).set 4 v 4 (g.i 4 v 4 + 1)).i 1 0 10 = g.i 1 0 10 by rw [hg7, hg6, hg5, hg4, hg3, hg2, hg1]; simp [gi_set, gi_setbd]]
  refine s_iconst (v := 1) G dX2_play_161 (by decide) ?_
  refine s_iadd G dX2_play_162 ?_
  refine pX2_58 G (by assumption) dX2_play_163 ?_
  refine s_vret G E9 hr dX2_play_166 ⟨rfl, by rw [hpl, if_pos ⟨i_nlt.mp h124, i_nle.mp h132⟩]; exact hS10.f1 (by decide), Fr.f1 hF10⟩
end Pl
end
section
/-! ===== what stays true; a booth's turn; a helper's turn; the dart ===== -/
section InvMore
variable {g : GS}
theorem Inv.leave (h : Inv g) {v : Nat} : Inv (leaveQ g v) := by
  obtain ⟨a1, a2, a3, a4, a5, a6, a7⟩ := h
  have e3 : ∀ u, (leaveQ g v).i 4 u 3 = if u = v then -1 else g.i 4 u 3 := fun u => by
    show (g.set 4 v 3 (-1)).i 4 u 3 = _
    rw [gi_set]
    by_cases q : u = v
    · rw [if_pos ⟨rfl, q, rfl⟩, if_pos q]
    · rw [if_neg (by omega), if_neg q]
  have ei : ∀ kd u k, ¬ (kd = 4 ∧ k = 3) → (leaveQ g v).i kd u k = g.i kd u k := fun kd u k q => by
    show (g.set 4 v 3 (-1)).i kd u k = _
    rw [gi_set, if_neg (by omega)]
  refine ⟨a1, fun h hh => ?_, fun u hu => ?_, fun b hb => ?_, a5, a6, a7⟩
  · rw [ei _ _ _ (by omega), ei _ _ _ (by omega)]; exact a2 h hh
  · obtain ⟨b1, b2, b3, b4⟩ := a3 u hu
    rw [ei _ _ _ (by omega), e3]
    refine ⟨b1, ?_, fun q => ?_, fun b hb => by rw [ei _ _ _ (by omega)]; exact b4 b hb⟩
    · by_cases q : u = v
      · rw [if_pos q]; exact Or.inl rfl
      · rw [if_neg q]; exact b2
    · by_cases q2 : u = v
      · rw [if_pos q2]
      · rw [if_neg q2]; exact b3 q
  · obtain ⟨b1, b2, b3⟩ := a4 b hb
    refine ⟨List.Pairwise.filter _ b1, fun u => ?_, by rw [ei _ _ _ (by omega)]; exact b3⟩
    show u ∈ (g.q b).filter (fun u => u != v) ↔ _
    rw [List.mem_filter, b2 u, e3]
    by_cases q : u = v
    · rw [if_pos q]
      constructor
      · rintro ⟨-, q2⟩; simp [q] at q2
      · rintro ⟨-, q2⟩
        have : b < g.nb := hb
        have := a1.1
        exact absurd q2.symm (nI_m1 (by omega))
    · rw [if_neg q]
      constructor
      · rintro ⟨q1, -⟩; exact q1
      · intro q1; exact ⟨q1, by simp [q]⟩
theorem bdIns_mem {L : List (Nat × Nat × Int32)} {x y : Nat × Nat × Int32} (h : y ∈ bdIns L x) : y = x ∨ y ∈ L := by
  have h2 := List.mem_of_mem_take h
  rcases List.mem_append.mp h2 with q | q
  · exact Or.inr ((List.takeWhile_sublist _).subset q)
  · rcases List.mem_cons.mp q with q | q
    · exact Or.inl q
    · exact Or.inr ((List.dropWhile_sublist _).subset q)
theorem bdIns_sorted {L : List (Nat × Nat × Int32)} {x : Nat × Nat × Int32} (h : L.Pairwise (fun a b => b.2.2 ≤ a.2.2)) : (bdIns L x).Pairwise (fun a b => b.2.2 ≤ a.2.2) := by
  rw [bdIns_eq]
  refine List.Pairwise.sublist (List.take_sublist _ _) ?_
  have hs := List.takeWhile_append_dropWhile (p := ge9 x.2.2) (l := L)
  have hd : ∀ y, y ∈ L.dropWhile (ge9 x.2.2) → ¬ x.2.2 ≤ y.2.2 := by
    intro y hy
    obtain ⟨j, hj⟩ := List.getElem?_of_mem hy
    have hL : (L.takeWhile (ge9 x.2.2) ++ L.dropWhile (ge9 x.2.2))[(L.takeWhile (ge9 x.2.2)).length + j]? = some y := by
      rw [List.getElem?_append_right (Nat.le_add_right _ _), Nat.add_sub_cancel_left]
      exact hj
    rw [hs] at hL
    intro q
    have := (tw_lt (s := x.2.2) h hL).mp q
    omega
  rw [List.pairwise_append]
  refine ⟨h.sublist (List.takeWhile_sublist _), ?_, fun a ha b hb => ?_⟩
  · rw [List.pairwise_cons]
    refine ⟨fun b hb => ?_, h.sublist (List.dropWhile_sublist _)⟩
    have := hd b hb
    rw [Int32.le_iff_toInt_le] at this ⊢
    omega
  · have h1 : x.2.2 ≤ a.2.2 := by
      obtain ⟨j, hj⟩ := List.getElem?_of_mem ha
      have hjl := (List.getElem?_eq_some_iff.mp hj).1
      have hL : (L.takeWhile (ge9 x.2.2) ++ L.dropWhile (ge9 x.2.2))[j]? = some a := by
        rw [List.getElem?_append_left hjl]
        exact hj
      rw [hs] at hL
      exact (tw_lt (s := x.2.2) h hL).mpr hjl
    rcases List.mem_cons.mp hb with q | q
    · rw [q]; exact h1
    · have := hd b q
      rw [Int32.le_iff_toInt_le] at this h1 ⊢
      omega
theorem min9_rng {x : Int32} (h : 0 ≤ x ∧ x ≤ 9) : 0 ≤ min9 (x + 1) 9 ∧ min9 (x + 1) 9 ≤ 9 := by
  unfold min9
  obtain ⟨h1, h2⟩ := h
  obtain ⟨j, hj, rfl⟩ := nI_of2 (M := 9) (n := 9) (by decide) (i_nlt.mpr h1) h2
  have : ∀ j, j ≤ 9 → (0 : Int32) ≤ (if 9 < nI j + 1 then 9 else nI j + 1) ∧ (if 9 < nI j + 1 then 9 else nI j + 1) ≤ (9 : Int32) := by decide
  exact this j hj
theorem play_n {v b : Nat} : (play9 g v b).2.2.1 = g.2.2.1 := by
  unfold play9
  simp only
  split <;> rfl
theorem play_q {v b : Nat} : (play9 g v b).q = g.q := by
  unfold play9
  simp only
  split <;> rfl
theorem play_h {v b a k : Nat} : (play9 g v b).i 3 a k = g.i 3 a k := by
  unfold play9
  simp only
  split <;> simp [gi_set, gi_setbd]
theorem Inv.play (h : Inv g) {v b : Nat} (hv : v < g.nv) (hb : b < g.nb) : Inv (play9 g v b) := by
  have hb8 : b < 8 := Nat.lt_of_lt_of_le hb h.nb8
  have h1 : Inv (((g.set 4 v 0 (g.i 4 v 0 - cst g b)).set 2 b 6 (g.i 2 b 6 + cst g b)).setbd (bdIns g.bd (v, b, pts g v b))) := by
    refine Inv.setbd ((h.v4 (by decide) (by decide)).b2 (fun q => by cases q)) ?_ (fun x hx => ?_) (bdIns_sorted h.bds)
    · rw [bdIns_len]; split <;> omega
    · rcases bdIns_mem hx with q | q
      · rw [q]; exact hv
      · exact h.bdv q
  have h2 := ((((h1.p10 (v := v) (k := b) (x := min9 (g.i 10 v b + 1) 9) (min9_rng (h.vpr hv hb8)).1 (min9_rng (h.vpr hv hb8)).2).v4 (v := v) (k := 6) (x := g.i 4 v 6 + 1) (by decide) (by decide)).b2 (v := b) (k := 5) (x := g.i 2 b 5 + 1) (fun q => by cases q)).v4 (v := v) (k := 7) (x := max9 (g.i 4 v 7) (pts g v b)) (by decide) (by decide))
  unfold play9
  simp only
  split
  · rename_i hc
    have hx : 0 ≤ g.i 2 b 2 - 1 := by
      have h9 := hc.2
      rw [Int32.lt_iff_toInt_lt] at h9
      rw [Int32.le_iff_toInt_le, Int32.toInt_sub]
      have z : ((0 : Int32).toInt) = 0 := by decide
      have o : ((1 : Int32).toInt) = 1 := by decide
      have hu := (g.i 2 b 2).toInt_lt
      rw [z] at h9 ⊢
      rw [o, Int.bmod_eq_of_le (by omega) (by omega)]
      omega
    exact ((h2.b2 (fun _ => hx)).v4 (by decide) (by decide)).f1
  · exact h2
theorem serve1_n {b : Nat} : (serve1 g b).2.2.1 = g.2.2.1 := by
  unfold serve1
  split
  · rfl
  · simp only
    split
    · rw [play_n]; rfl
    · rfl
theorem serve1_h {b a k : Nat} : (serve1 g b).i 3 a k = g.i 3 a k := by
  unfold serve1
  split
  · rfl
  · simp only
    split
    · rw [play_h]; simp [leaveQ, gi_set, gi_setq]
    · simp [leaveQ, gi_set, gi_setq]
theorem serve1_q {b v : Nat} {Q : List Nat} (hq : g.q b = v :: Q) (hn : (g.q b).Nodup) : (serve1 g b).q b = Q := by
  have h2 : (leaveQ g v).q b = Q := by
    show (g.q b).filter (fun u => u != v) = Q
    rw [hq] at hn ⊢
    rw [List.nodup_cons] at hn
    simp only [List.filter_cons, bne_self_eq_false, Bool.false_eq_true, if_false]
    exact filter_id hn.1
  unfold serve1
  rw [hq]
  simp only
  split
  · rw [play_q]; exact h2
  · exact h2
theorem Inv.srv1 (h : Inv g) {b : Nat} (hb : b < g.nb) : Inv (serve1 g b) := by
  unfold serve1
  split
  · exact h
  · rename_i v Q hq
    have hv : v < g.nv := ((h.qm hb).mp (by rw [hq]; exact List.mem_cons_self)).1
    simp only
    split
    · exact h.leave.play hv hb
    · exact h.leave
theorem serveN_nil {b : Nat} : ∀ (n : Nat) (g : GS), g.q b = [] → serveN g b n = g
  | 0, g, _ => rfl
  | n + 1, g, h => by
    have : serve1 g b = g := by
      unfold serve1
      rw [h]
    rw [serveN, this]
    exact serveN_nil n g h
theorem nb_of {g g' : GS} (h : g'.2.2.1 = g.2.2.1) : g'.nb = g.nb := congrFun h 0
theorem nh_of {g g' : GS} (h : g'.2.2.1 = g.2.2.1) : g'.nh = g.nh := congrFun h 1
theorem nv_of {g g' : GS} (h : g'.2.2.1 = g.2.2.1) : g'.nv = g.nv := congrFun h 2
theorem serveN_cut {b : Nat} : ∀ (n : Nat) (g : GS), Inv g → b < g.nb → (g.q b).length ≤ n → serveN g b n = serveN g b (g.q b).length
  | 0, g, _, _, h => by rw [show (g.q b).length = 0 by omega]
  | n + 1, g, hI, hb, h => by
    cases hq : g.q b with
    | nil => exact serveN_nil (n + 1) g hq
    | cons v Q =>
      have h2 := serve1_q hq (hI.qnd hb)
      rw [hq] at h
      simp only [List.length_cons] at h ⊢
      rw [serveN, serveN]
      have := serveN_cut n _ (hI.srv1 hb) (by rw [nb_of serve1_n]; exact hb) (by rw [h2]; omega)
      rw [this, h2]
end InvMore
section Sv
variable {E : EX} {M : Mem} {f : Nat} {g : GS}
theorem c_serve {b : Nat} (hf : f < 2) (hS : SimC f M g) (hI : Inv g) (hb : b < g.nb) : Ret E idsC yX2_serve cX2_serve 6 none 3 72 [.ref (E.ad (1, f, 0)), .int (nI b)] M (fun r M' => r = none ∧ SimC f M' (serveN g b (wk g b)) ∧ Fr f g.2.2.1 M M') := by
  have hb8 : b < 8 := Nat.lt_of_lt_of_le hb hI.nb8
  have hq16 := hI.ql16 hb
  have hw12 := wk_le hI b
  refine Ret_of_V RX2 (by decide) rfl idsC_nd [some (.ref (E.ad (1, f, 0))), some (.int (nI b)), none, none, none, none] rfl (Nat.le_of_ble_eq_true rfl) (fun κ hE G E9 hr => ?_)
  subst hE
  obtain ⟨T, hT⟩ : ∃ T, T = if (g.q b).length < wk g b then (g.q b).length else wk g b := ⟨_, rfl⟩
  have hfin : serveN g b T = serveN g b (wk g b) := by
    rw [hT]
    by_cases q : (g.q b).length < wk g b
    · rw [if_pos q]; exact (serveN_cut _ g hI hb (by omega)).symm
    · rw [if_neg q]
  have hTq : T ≤ (g.q b).length := by rw [hT]; split <;> omega
  have loop : ∀ n i (g1 : GS) (M1 : Mem), i + n = T → SimC f M1 g1 → Inv g1 → g1.2.2.1 = g.2.2.1 → n ≤ (g1.q b).length → Fr f g.2.2.1 M M1 → serveN g1 b n = serveN g b (wk g b) → V κ idsC 6 M1 [some (.ref (κ.E.ad (1, f, 0))), some (.int (nI b)), some (.ref (κ.E.ad (2, f, b))), some (.int (nI T)), some (.int (nI i)), none] [] 22 := by
    intro n
    induction n with
    | zero =>
      intro i g1 M1 hi hS1 hI1 hn1 hl1 hF1 hG
      have hi : i = T := by omega
      subst hi
      refine s_iload G dX2_serve_22 rfl ?_
      refine s_iload_n G dX2_serve_24 rfl ?_
      refine s_icmp_ge G 83 dX2_serve_25 (by decide) (fun h25 => ?_) (fun h25 => ?_)
      · refine s_vret G E9 hr dX2_serve_83 ⟨rfl, by rw [← hG]; exact hS1, hF1⟩
      · exact absurd (Int32.le_refl _) h25
    | succ n ih =>
      intro i g1 M1 hi hS1 hI1 hn1 hl1 hF1 hG
      have hb1 : b < g1.nb := by rw [nb_of hn1]; exact hb
      obtain ⟨v, Q, hq⟩ : ∃ v Q, g1.q b = v :: Q := by
        cases hq : g1.q b with
        | nil => rw [hq] at hl1; simp at hl1
        | cons v Q => exact ⟨v, Q, rfl⟩
      have hv : v < g1.nv := ((hI1.qm hb1).mp (by rw [hq]; exact List.mem_cons_self)).1
      have hv16 : v < 16 := Nat.lt_of_lt_of_le hv hI1.nv16
      have hsq := serve1_q hq (hI1.qnd hb1)
      have hiT : i < T := by omega
      refine s_iload G dX2_serve_22 rfl ?_
      refine s_iload_n G dX2_serve_24 rfl ?_
      refine s_icmp_ge G 83 dX2_serve_25 (by decide) (fun h25 => ?_) (fun h25 => ?_)
      · exact absurd h25 (nI_ge hiT (by omega))
      refine s_aload_n G dX2_serve_28 rfl ?_
      refine gX2_171 G (by assumption) (by assumption) dX2_serve_29 ?_
      refine s_iconst (v := 0) G dX2_serve_32 (by decide) ?_
      refine al_9 G (by assumption) (by assumption) rfl (by decide) dX2_serve_33 ?_
      rw [hS1.qe hb1 (i := 0) (u := v) (by rw [hq]; rfl)]
      refine s_istore G dX2_serve_34 (by decide) rfl ?_
      refine s_aload_n G dX2_serve_36 rfl ?_
      refine s_iload G dX2_serve_37 rfl ?_
      refine iX2_174 G (by assumption) (c_take hf hS1 hI1 hv) (by decide) (Nat.le_of_ble_eq_true rfl) dX2_serve_39 (fun r9 M9 hp9 => ?_)
      obtain ⟨rfl, hS2, hF2⟩ := hp9
      rename Mem => M2
      have hI2 : Inv (leaveQ g1 v) := hI1.leave
      have hF3 : Fr f g.2.2.1 M M2 := hF1.trans (by rw [← hn1]; exact hF2)
      have hv2 : v < (leaveQ g1 v).nv := hv
      have hb2 : b < (leaveQ g1 v).nb := hb1
      refine s_pop G dX2_serve_42 rfl ?_
      refine s_aload_n G dX2_serve_43 rfl ?_
      refine s_iload G dX2_serve_44 rfl ?_
      refine iX2_96 G (by assumption) (c_isVisitor (n := (leaveQ g1 v).nv) hf hS2.nv (by have := hI2.nv16; omega) (nI v)) (by decide) (Nat.le_of_ble_eq_true rfl) dX2_serve_46 (fun r9 M9 hp9 => ?_)
      obtain ⟨rfl, ⟨j, hj, hjx, rfl⟩ | ⟨hno, rfl⟩⟩ := hp9
      rotate_left
      · exact absurd rfl (hno v hv)
      clear hjx hj
      refine s_if_eq G 77 dX2_serve_49 (by decide) (fun h49 => ?_) (fun h49 => ?_)
      · exact absurd h49 (by decide)
      have go : ∀ M3 : Mem, SimC f M3 (serve1 g1 b) → Fr f g.2.2.1 M M3 → V κ idsC 6 M3 [some (.ref (κ.E.ad (1, f, 0))), some (.int (nI b)), some (.ref (κ.E.ad (2, f, b))), some (.int (nI T)), some (.int (nI i)), some (.int (nI v))] [] 77 := by
        intro M3 hS3 hF3
        refine s_iinc G dX2_serve_77 rfl (by decide) rfl (nI_1 i) ?_
        refine s_goto G 22 dX2_serve_80 (by decide) ?_
        refine V.drop1 5 ?_
        exact ih (i + 1) _ M3 (by omega) hS3 (hI1.srv1 hb1) (serve1_n.trans hn1) (by rw [hsq]; rw [hq] at hl1; simp only [List.length_cons] at hl1; omega) hF3 hG
      refine s_aload_n G dX2_serve_52 rfl ?_
      refine gX2_25 G (by assumption) dX2_serve_53 ?_
      refine s_iload G dX2_serve_56 rfl ?_
      refine ar_8 G (by assumption) rfl (by first | assumption | omega) dX2_serve_58 ?_
      refine gX2_144 G (by assumption) (by assumption) dX2_serve_59 ?_
      rw [hS2.vi (k := 0) hv2 (by decide)]
      refine s_aload_n G dX2_serve_62 rfl ?_
      refine s_iload_n G dX2_serve_63 rfl ?_
      refine iX2_154 G (by assumption) (c_costNow hf hS2 hI2 hb2) (by decide) (Nat.le_of_ble_eq_true rfl) dX2_serve_64 (fun r9 M9 hp9 => ?_)
      obtain ⟨rfl, rfl⟩ := hp9
      refine s_icmp_lt G 77 dX2_serve_67 (by decide) (fun h67 => ?_) (fun h67 => ?_)
      · refine go _ ?_ hF3
        have : serve1 g1 b = leaveQ g1 v := by
          unfold serve1
          rw [hq]
          simp only
          rw [if_neg (i_nle.mpr h67)]
        rw [this]
        exact hS2
      · refine s_aload_n G dX2_serve_70 rfl ?_
        refine s_iload G dX2_serve_71 rfl ?_
        refine s_iload_n G dX2_serve_73 rfl ?_
        refine iX2_177 G (by assumption) (c_play hf hS2 hI2 hv2 hb2) (by decide) (Nat.le_of_ble_eq_true rfl) dX2_serve_74 (fun r9 M9 hp9 => ?_)
        obtain ⟨rfl, hS3, hF4⟩ := hp9
        refine go _ ?_ (hF3.trans (by rw [← hn1]; exact hF4))
        have : serve1 g1 b = play9 (leaveQ g1 v) v b := by
          unfold serve1
          rw [hq]
          simp only
          rw [if_pos (i_nlt.mp h67)]
        rw [this]
        exact hS3
  refine s_aload_n G dX2_serve_0 rfl ?_
  refine gX2_11 G (by assumption) dX2_serve_1 ?_
  refine s_iload_n G dX2_serve_4 rfl ?_
  refine ar_6 G (by assumption) rfl (by first | assumption | omega) dX2_serve_5 ?_
  refine s_astore_n G dX2_serve_6 (by decide) rfl ?_
  refine s_aload_n G dX2_serve_7 rfl ?_
  refine gX2_93 G (by assumption) (by assumption) dX2_serve_8 ?_
  rw [hS.wks hb]
  refine s_aload_n G dX2_serve_11 rfl ?_
  refine gX2_158 G (by assumption) (by assumption) dX2_serve_12 ?_
  rw [hS.ql hb]
  refine iX2_165 G dX2_serve_15 (by decide) (Nat.le_of_ble_eq_true rfl) ?_
  have e1 : (if nI (g.q b).length < nI (wk g b) then nI (g.q b).length else nI (wk g b)) = nI T := by
    rw [hT]
    by_cases q : (g.q b).length < wk g b
    · rw [if_pos (nI_lt q (by omega)), if_pos q]
    · rw [if_neg (nI_nlt (by omega) (by omega)), if_neg q]
  rw [e1]
  refine s_istore_n G dX2_serve_18 (by decide) rfl ?_
  refine s_iconst (v := 0) G dX2_serve_19 (by decide) ?_
  refine s_istore G dX2_serve_20 (by decide) rfl ?_
  exact loop T 0 g M (by omega) hS hI rfl hTq Fr.rf hfin
theorem c_tire {h : Nat} (hf : f < 2) (hS : SimC f M g) (hI : Inv g) (hh : h < g.nh) : Ret E idsC yX2_tireOrRest cX2_tireOrRest 3 none 2 44 [.ref (E.ad (1, f, 0)), .int (nI h)] M (fun r M' => r = none ∧ SimC f M' (tire9 g h) ∧ Fr f g.2.2.1 M M') := by
  have hh12 : h < 12 := Nat.lt_of_lt_of_le hh hI.nh12
  refine Ret_of_V RX2 (by decide) rfl idsC_nd [some (.ref (E.ad (1, f, 0))), some (.int (nI h)), none] rfl (Nat.le_of_ble_eq_true rfl) (fun κ hE G E9 hr => ?_)
  subst hE
  have fin : ∀ (g1 : GS) (M1 : Mem), SimC f M1 g1 → g1.2.2.1 = g.2.2.1 → Fr f g.2.2.1 M M1 → tire9 g h = rest9 g1 h → V κ idsC 3 M1 [some (.ref (κ.E.ad (1, f, 0))), some (.int (nI h)), some (.ref (κ.E.ad (3, f, h)))] [] 49 := by
    intro g1 M1 hS1 hn1 hF1 hG
    have hh1 : h < g1.nh := by rw [nh_of hn1]; exact hh
    refine s_aload_n G dX2_tireOrRest_49 rfl ?_
    refine iX2_220 G (by assumption) (by assumption) (c_rest hf hh12) (by decide) (Nat.le_of_ble_eq_true rfl) dX2_tireOrRest_50 (fun r9 M9 hp9 => ?_)
    obtain ⟨rfl, rfl⟩ := hp9
    refine s_vret G E9 hr dX2_tireOrRest_53 ⟨rfl, ?_, Fr.h3 hF1 hh⟩
    rw [hG, hS1.he (k := 0) hh1 (by decide)]
    exact hS1.h3 (by decide)
  refine s_aload_n G dX2_tireOrRest_0 rfl ?_
  refine gX2_19 G (by assumption) dX2_tireOrRest_1 ?_
  refine s_iload_n G dX2_tireOrRest_4 rfl ?_
  refine ar_7 G (by assumption) rfl (by first | assumption | omega) dX2_tireOrRest_5 ?_
  refine s_astore_n G dX2_tireOrRest_6 (by decide) rfl ?_
  refine s_aload_n G dX2_tireOrRest_7 rfl ?_
  refine gX2_87 G (by assumption) (by assumption) dX2_tireOrRest_8 ?_
  rw [hS.he (k := 1) hh (by decide)]
  refine s_iconst (v := -1) G dX2_tireOrRest_11 (by decide) ?_
  refine s_icmp_eq G 49 dX2_tireOrRest_12 (by decide) (fun h12 => ?_) (fun h12 => ?_)
  · exact fin g M hS rfl Fr.rf (by unfold tire9; rw [if_pos h12])
  refine s_aload_n G dX2_tireOrRest_15 rfl ?_
  refine s_dup G dX2_tireOrRest_16 rfl ?_
  refine gX2_211 G (by assumption) (by assumption) dX2_tireOrRest_17 ?_
  rw [hS.he (k := 2) hh (by decide)]
  refine s_iconst (v := 1) G dX2_tireOrRest_20 (by decide) ?_
  refine s_iadd G dX2_tireOrRest_21 ?_
  refine pX2_211 G (by assumption) (by assumption) dX2_tireOrRest_22 ?_
  refine V.abs (fun M1 hM1 => ?_)
  obtain ⟨g1, hg1⟩ : ∃ g1, g1 = g.set 3 h 2 (g.i 3 h 2 + 1) := ⟨_, rfl⟩
  have hS1 : SimC f M1 g1 := by rw [hM1, hg1]; exact hS.h3 (by decide)
  have hF1 : Fr f g.2.2.1 M M1 := by rw [hM1]; exact Fr.h3 Fr.rf hh
  have hh1 : h < g1.nh := by rw [hg1]; exact hh
  clear hM1
  refine s_aload_n G dX2_tireOrRest_25 rfl ?_
  refine s_dup G dX2_tireOrRest_26 rfl ?_
  refine gX2_214 G (by assumption) (by assumption) dX2_tireOrRest_27 ?_
  rw [hS1.he (k := 0) hh1 (by decide), show g1.i 3 h 0 = g.i 3 h 0 by rw [hg1]; simp [gi_set]]
  refine s_iconst (v := 1) G dX2_tireOrRest_30 (by decide) ?_
  refine s_isub G dX2_tireOrRest_31 ?_
  refine pX2_214 G (by assumption) (by assumption) dX2_tireOrRest_32 ?_
  refine V.abs (fun M2 hM2 => ?_)
  obtain ⟨g2, hg2⟩ : ∃ g2, g2 = g1.set 3 h 0 (g.i 3 h 0 - 1) := ⟨_, rfl⟩
  have hS2 : SimC f M2 g2 := by rw [hM2, hg2]; exact hS1.h3 (by decide)
  have hF2 : Fr f g.2.2.1 M M2 := by rw [hM2]; exact Fr.h3 hF1 hh
  have hh2 : h < g2.nh := by rw [hg2]; exact hh1
  have hn2 : g2.2.2.1 = g.2.2.1 := by rw [hg2, hg1]; rfl
  clear hM2
  have ht : tire9 g h = if 0 < g2.i 3 h 0 then g2 else rest9 (g2.set 3 h 1 (-1)) h := by
    unfold tire9
    rw [if_neg h12, hg2, hg1]
  refine s_aload_n G dX2_tireOrRest_35 rfl ?_
  refine gX2_214 G (by assumption) (by assumption) dX2_tireOrRest_36 ?_
  rw [hS2.he (k := 0) hh2 (by decide)]
  refine s_if_le G 43 dX2_tireOrRest_39 (by decide) (fun h39 => ?_) (fun h39 => ?_)
  · refine s_aload_n G dX2_tireOrRest_43 rfl ?_
    refine s_iload_n G dX2_tireOrRest_44 rfl ?_
    refine s_iconst (v := -1) G dX2_tireOrRest_45 (by decide) ?_
    refine iX2_217 G (by assumption) (c_send hf hS2 ⟨by rw [nb_of hn2]; exact hI.nb8, by rw [nh_of hn2]; exact hI.nh12⟩ hh2 (Or.inl rfl)) (by decide) (Nat.le_of_ble_eq_true rfl) dX2_tireOrRest_46 (fun r9 M9 hp9 => ?_)
    obtain ⟨rfl, hS3, hF3⟩ := hp9
    exact fin _ _ hS3 hn2 (hF2.trans (by rw [← hn2]; exact hF3)) (by rw [ht, if_neg (i_nlt.mpr h39)])
  · refine s_vret G E9 hr dX2_tireOrRest_42 ⟨rfl, by rw [ht, if_pos (i_nle.mp h39)]; exact hS2, hF2⟩
theorem c_dart (hf : f < 2) (hS : SimC f M g) (hI : Inv g) : Ret E idsC yX2_throwDart cX2_throwDart 1 none 0 0 [.ref (E.ad (1, f, 0))] M (fun r M' => r = none ∧ SimC f M' (dart9 g) ∧ Fr f g.2.2.1 M M') := by
  have hb8 := hI.nb8
  refine Ret_of_V RX2 (by decide) rfl idsC_nd [some (.ref (E.ad (1, f, 0)))] rfl (Nat.le_of_ble_eq_true rfl) (fun κ hE G E9 hr => ?_)
  subst hE
  refine s_aload_n G dX2_throwDart_0 rfl ?_
  refine s_aload_n G dX2_throwDart_1 rfl ?_
  refine gX2_36 G (by assumption) dX2_throwDart_2 ?_
  rw [hS.num (k := 8) (by decide) (by decide)]
  refine s_bipush (v := 75) G dX2_throwDart_5 (by decide) ?_
  refine s_imul G dX2_throwDart_7 ?_
  refine s_bipush (v := 74) G dX2_throwDart_8 (by decide) ?_
  refine s_iadd G dX2_throwDart_10 ?_
  refine s_ldc (v := 65537) G dX2_throwDart_11 (by decide +kernel) ?_
  refine s_irem G dX2_throwDart_13 (by decide) ?_
  refine pX2_36 G (by assumption) dX2_throwDart_14 ?_
  refine V.abs (fun M1 hM1 => ?_)
  obtain ⟨g1, hg1⟩ : ∃ g1, g1 = g.set 1 0 8 (rm9 (g.i 1 0 8 * 75 + 74) 65537) := ⟨_, rfl⟩
  have hS1 : SimC f M1 g1 := by rw [hM1, hg1]; exact hS.f1 (by decide)
  have hF1 : Fr f g.2.2.1 M M1 := by rw [hM1]; exact Fr.f1 Fr.rf
  clear hM1
  have hn1 : g1.nb = g.nb := by rw [hg1]; rfl
  have hd : dart9 g = g1.set 1 0 9 (if 0 < g.nb then rm9 (rm9 (g.i 1 0 8 * 75 + 74) 65537) (nI g.nb) else -1) := by
    unfold dart9
    rw [hg1]
  refine s_aload_n G dX2_throwDart_17 rfl ?_
  refine s_aload_n G dX2_throwDart_18 rfl ?_
  refine gX2_46 G (by assumption) dX2_throwDart_19 ?_
  rw [hS1.nb, hn1]
  refine s_if_le G 37 dX2_throwDart_22 (by decide) (fun h22 => ?_) (fun h22 => ?_)
  · have h0 : ¬ 0 < g.nb := fun q => absurd (nI_lt (a := 0) q (by omega)) (i_nlt.mpr h22)
    refine s_iconst (v := -1) G dX2_throwDart_37 (by decide) ?_
    refine pX2_40 G (by assumption) dX2_throwDart_38 ?_
    refine s_vret G E9 hr dX2_throwDart_41 ⟨rfl, by rw [hd, if_neg h0]; exact hS1.f1 (by decide), Fr.f1 hF1⟩
  · have h0 : 0 < g.nb := by
      rcases Nat.eq_zero_or_pos g.nb with q | q
      · exact absurd (by rw [q]; decide) h22
      · exact q
    refine s_aload_n G dX2_throwDart_25 rfl ?_
    refine gX2_36 G (by assumption) dX2_throwDart_26 ?_
    rw [hS1.num (k := 8) (by decide) (by decide), show g1.i 1 0 8 = rm9 (g.i 1 0 8 * 75 + 74) 65537 by rw [hg1]; simp [gi_set]]
    refine s_aload_n G dX2_throwDart_29 rfl ?_
    refine gX2_46 G (by assumption) dX2_throwDart_30 ?_
    rw [hS1.nb, hn1]
    refine s_irem G dX2_throwDart_33 (nI_ne0 h0 (by omega)) ?_
    refine s_goto G 38 dX2_throwDart_34 (by decide) ?_
    refine pX2_40 G (by assumption) dX2_throwDart_38 ?_
    refine s_vret G E9 hr dX2_throwDart_41 ⟨rfl, by rw [hd, if_pos h0]; exact hS1.f1 (by decide), Fr.f1 hF1⟩
end Sv
end
section
/-! ===== the end of an hour, a round, rounds ===== -/
section Cg
variable {f : Nat} {M : Mem} {g g' : GS}
theorem SimC.congr (h : SimC f M g) (hn : g'.2.2 = g.2.2) (hi : ∀ kd a k, g'.i kd a k = g.i kd a k) (hq : ∀ b, b < g.nb → g'.q b = g.q b) : SimC f M g' := by
  have e0 : g'.nb = g.nb := congrFun (congrArg Prod.fst hn) 0
  have e1 : g'.nh = g.nh := congrFun (congrArg Prod.fst hn) 1
  have e2 : g'.nv = g.nv := congrFun (congrArg Prod.fst hn) 2
  have e3 : g'.bd = g.bd := congrArg Prod.snd hn
  have e4 : ∀ b, wk g' b = wk g b := fun b => wk_congr b e1 (fun a _ => hi _ _ _)
  obtain ⟨⟨h1, h2, h3, h4⟩, h5, h6, h7, h8, h9⟩ := h
  refine ⟨⟨by rw [e0]; exact h1, by rw [e1]; exact h2, by rw [e2]; exact h3, fun k a b => by rw [hi]; exact h4 k a b⟩, fun b hb => ?_, fun a ha k hk => ?_, fun a ha => ⟨fun k hk => ?_, fun b hb => ?_⟩, by rw [e3]; exact h8, fun l y hy => h9 l y (by rw [← e3]; exact hy)⟩
  · rw [e0] at hb
    obtain ⟨a1, a2, a3, a4⟩ := h5 b hb
    rw [hq b hb, e4]
    exact ⟨fun k c d => by rw [hi]; exact a1 k c d, a2, a3, a4⟩
  · rw [e1] at ha; rw [hi]; exact h6 a ha k hk
  · rw [e2] at ha; rw [hi]; exact (h7 a ha).1 k hk
  · rw [e2] at ha; rw [hi]; exact (h7 a ha).2 b hb
theorem Inv.congr (h : Inv g) (hn : g'.2.2 = g.2.2) (hi : ∀ kd a k, g'.i kd a k = g.i kd a k) (hq : ∀ b, b < g.nb → g'.q b = g.q b) : Inv g' := by
  have e0 : g'.nb = g.nb := congrFun (congrArg Prod.fst hn) 0
  have e1 : g'.nh = g.nh := congrFun (congrArg Prod.fst hn) 1
  have e2 : g'.nv = g.nv := congrFun (congrArg Prod.fst hn) 2
  have e3 : g'.bd = g.bd := congrArg Prod.snd hn
  obtain ⟨a1, a2, a3, a4, a5, a6, a7⟩ := h
  refine ⟨by rw [e0, e1, e2]; exact a1, fun h hh => ?_, fun u hu => ?_, fun b hb => ?_, by rw [e3]; exact a5, by rw [e3, e2]; exact a6, by rw [e3]; exact a7⟩
  · rw [e1] at hh; simp only [hi, e0]; exact a2 h hh
  · rw [e2] at hu; simp only [hi, e0]; exact a3 u hu
  · rw [e0] at hb; rw [hq b hb]; simp only [hi, e2]; exact a4 b hb
end Cg
def mark1 (g : GS) (k : Nat) (x : Nat × Nat × Int32) : GS := (g.set 4 x.1 5 (g.i 4 x.1 5 + (3 - nI k))).set 4 x.1 0 (if k = 0 then g.i 4 x.1 0 + 5 else g.i 4 x.1 0)
theorem Inv.mark1 {g : GS} (h : Inv g) {k : Nat} {x : Nat × Nat × Int32} : Inv (mark1 g k x) := (h.v4 (by decide) (by decide)).v4 (by decide) (by decide)
def closedAt (g : GS) (u : Nat) : Bool := decide (∃ b, b < g.nb ∧ g.i 4 u 3 = nI b ∧ ¬ opn g b)
def clrN (g : GS) (n : Nat) : GS := (fun p q r => if p = 4 ∧ r = 3 ∧ q < n ∧ closedAt g q = true then -1 else g.1 p q r, fun b => (g.q b).filter (fun u => !(decide (u < n) && closedAt g u)), g.2.2)
theorem clrN_i {g : GS} {n p q r : Nat} : (clrN g n).i p q r = if p = 4 ∧ r = 3 ∧ q < n ∧ closedAt g q = true then -1 else g.i p q r := rfl
theorem clrN_0 {g : GS} : clrN g 0 = g := by
  unfold clrN
  refine Prod.ext ?_ (Prod.ext ?_ rfl)
  · funext p q r
    simp
  · funext b
    simp [GS.q]
theorem clrN_s {g : GS} {n : Nat} : clrN g (n + 1) = if closedAt g n = true then leaveQ (clrN g n) n else clrN g n := by
  by_cases hc : closedAt g n = true
  · rw [if_pos hc]
    refine Prod.ext ?_ (Prod.ext ?_ rfl)
    · funext p q r
      show (if p = 4 ∧ r = 3 ∧ q < n + 1 ∧ closedAt g q = true then -1 else g.1 p q r) = (if p = 4 ∧ q = n ∧ r = 3 then -1 else (if p = 4 ∧ r = 3 ∧ q < n ∧ closedAt g q = true then -1 else g.1 p q r))
      by_cases hq : q = n
      · subst hq
        by_cases h4 : p = 4 ∧ r = 3
        · rw [if_pos ⟨h4.1, h4.2, Nat.lt_succ_self q, hc⟩, if_pos ⟨h4.1, rfl, h4.2⟩]
        · rw [if_neg (fun z => h4 ⟨z.1, z.2.1⟩), if_neg (fun z => h4 ⟨z.1, z.2.2⟩), if_neg (fun z => h4 ⟨z.1, z.2.1⟩)]
      · rw [if_neg (c := p = 4 ∧ q = n ∧ r = 3) (fun z => hq z.2.1)]
        have : (q < n + 1) ↔ (q < n) := by omega
        simp only [this]
    · funext b
      show (g.q b).filter (fun u => !(decide (u < n + 1) && closedAt g u)) = ((g.q b).filter (fun u => !(decide (u < n) && closedAt g u))).filter (fun u => u != n)
      rw [List.filter_filter]
      congr 1
      funext u
      by_cases hu : u = n
      · subst hu
        simp [hc]
      · have : (u < n + 1) ↔ (u < n) := by omega
        simp [this, hu]
  · rw [if_neg hc]
    have hc : closedAt g n = false := by simpa using hc
    refine Prod.ext ?_ (Prod.ext ?_ rfl)
    · funext p q r
      show (if p = 4 ∧ r = 3 ∧ q < n + 1 ∧ closedAt g q = true then -1 else g.1 p q r) = (if p = 4 ∧ r = 3 ∧ q < n ∧ closedAt g q = true then -1 else g.1 p q r)
      by_cases hq : q = n
      · subst hq
        simp [hc]
      · have : (q < n + 1) ↔ (q < n) := by omega
        simp only [this]
    · funext b
      show (g.q b).filter (fun u => !(decide (u < n + 1) && closedAt g u)) = (g.q b).filter (fun u => !(decide (u < n) && closedAt g u))
      congr 1
      funext u
      by_cases hu : u = n
      · subst hu
        simp [hc]
      · have : (u < n + 1) ↔ (u < n) := by omega
        simp [this]
theorem Inv.clrN {g : GS} (h : Inv g) : ∀ n, Inv (clrN g n)
  | 0 => by rw [clrN_0]; exact h
  | n + 1 => by
    rw [clrN_s]
    split
    · exact (Inv.clrN h n).leave
    · exact Inv.clrN h n
theorem clr_q {g : GS} (h : Inv g) (b : Nat) (hb : b < g.nb) : (clear9 g).q b = (clrN g g.nv).q b := by
  show (if b < g.nb ∧ ¬ opn g b then [] else g.q b) = (g.q b).filter (fun u => !(decide (u < g.nv) && closedAt g u))
  have h8 := h.nb8
  have key : ∀ u, u ∈ g.q b → (u < g.nv ∧ (closedAt g u = true ↔ ¬ opn g b)) := by
    intro u hu
    have h1 := (h.qm hb).mp hu
    refine ⟨h1.1, ?_⟩
    unfold closedAt
    rw [decide_eq_true_eq]
    constructor
    · rintro ⟨c, hc, e, ho⟩
      have : c = b := nI_inj (by omega) (by omega) (e.symm.trans h1.2)
      rw [← this]; exact ho
    · intro ho
      exact ⟨b, hb, h1.2, ho⟩
  by_cases ho : opn g b
  · rw [if_neg (fun z => z.2 ho)]
    symm
    rw [List.filter_eq_self]
    intro u hu
    have := key u hu
    have hcf : closedAt g u = false := by
      cases hc : closedAt g u with
      | false => rfl
      | true => exact absurd ho (this.2.mp hc)
    simp [hcf]
  · rw [if_pos ⟨hb, ho⟩]
    symm
    rw [List.filter_eq_nil_iff]
    intro u hu
    have := key u hu
    simp [this.1, this.2.mpr ho]
theorem clr_i {g : GS} (p q r : Nat) : (clear9 g).i p q r = (clrN g g.nv).i p q r := by
  show (if p = 4 ∧ r = 3 ∧ q < g.nv ∧ (∃ b, b < g.nb ∧ g.i 4 q 3 = nI b ∧ ¬ opn g b) then (-1 : Int32) else g.1 p q r) = (if p = 4 ∧ r = 3 ∧ q < g.nv ∧ closedAt g q = true then -1 else g.1 p q r)
  simp only [closedAt, decide_eq_true_eq]
theorem Inv.clear {g : GS} (h : Inv g) : Inv (clear9 g) := (h.clrN g.nv).congr rfl (fun p q r => clr_i p q r) (fun b hb => clr_q h b hb)
theorem markN_n : ∀ (L : List (Nat × Nat × Int32)) (g : GS) (k : Nat), (markN g k L).2 = g.2
  | [], g, k => rfl
  | x :: L, g, k => by
    rw [markN, markN_n L]
    rfl
theorem Inv.markN {g : GS} (h : Inv g) : ∀ (L : List (Nat × Nat × Int32)) (k : Nat), Inv (markN g k L)
  | [], k => h
  | x :: L, k => Inv.markN (g := Jvm.Pilot.CFeteBoardLaw_law_r8679_226777.mark1 g k x) h.mark1 L (k + 1)
theorem Inv.endHour {g : GS} (h : Inv g) : Inv (endHour9 g) := ((h.markN g.bd 0).setbd (by simp) (fun x hx => by cases hx) List.Pairwise.nil).clear
section Eh
variable {E : EX} {M : Mem} {f : Nat} {g : GS}
theorem c_reward {l : Nat} {x : Nat × Nat × Int32} (hf : f < 2) (hS : SimC f M g) (hI : Inv g) (hx : g.bd[l]? = some x) : Ret E idsC yX2_rewardLine cX2_rewardLine 3 none 1 21 [.ref (E.ad (1, f, 0)), .int (nI l)] M (fun r M' => r = none ∧ SimC f M' (mark1 g l x) ∧ Fr f g.2.2.1 M M') := by
  have hl3 : l < 3 := by have := (List.getElem?_eq_some_iff.mp hx).1; have := hI.bd3; omega
  have hv : x.1 < g.nv := hI.bdv (List.mem_of_getElem? hx)
  have hv16 : x.1 < 16 := Nat.lt_of_lt_of_le hv hI.nv16
  refine Ret_of_V RX2 (by decide) rfl idsC_nd [some (.ref (E.ad (1, f, 0))), some (.int (nI l)), none] rfl (Nat.le_of_ble_eq_true rfl) (fun κ hE G E9 hr => ?_)
  subst hE
  refine s_aload_n G dX2_rewardLine_0 rfl ?_
  refine gX2_32 G (by assumption) dX2_rewardLine_1 ?_
  refine gX2_229 G (by assumption) dX2_rewardLine_4 ?_
  refine s_iload_n G dX2_rewardLine_7 rfl ?_
  refine al_11 G (by assumption) rfl (by first | assumption | omega) dX2_rewardLine_8 ?_
  rw [(hS.bde hx).1]
  refine s_istore_n G dX2_rewardLine_9 (by decide) rfl ?_
  refine s_aload_n G dX2_rewardLine_10 rfl ?_
  refine s_iload_n G dX2_rewardLine_11 rfl ?_
  refine iX2_96 G (by assumption) (c_isVisitor (n := g.nv) hf hS.nv (by have := hI.nv16; omega) (nI x.1)) (by decide) (Nat.le_of_ble_eq_true rfl) dX2_rewardLine_12 (fun r9 M9 hp9 => ?_)
  obtain ⟨rfl, ⟨j, hj, hjx, rfl⟩ | ⟨hno, rfl⟩⟩ := hp9
  rotate_left
  · exact absurd rfl (hno x.1 hv)
  clear hjx hj
  refine s_if_ne G 19 dX2_rewardLine_15 (by decide) (fun h15 => ?_) (fun h15 => ?_)
  rotate_left
  · exact absurd h15 (by decide)
  refine s_aload_n G dX2_rewardLine_19 rfl ?_
  refine gX2_25 G (by assumption) dX2_rewardLine_20 ?_
  refine s_iload_n G dX2_rewardLine_23 rfl ?_
  refine ar_8 G (by assumption) rfl (by first | assumption | omega) dX2_rewardLine_24 ?_
  refine s_dup G dX2_rewardLine_25 rfl ?_
  refine gX2_231 G (by assumption) (by assumption) dX2_rewardLine_26 ?_
  rw [hS.vi (k := 5) hv (by decide)]
  refine s_iconst (v := 3) G dX2_rewardLine_29 (by decide) ?_
  refine s_iload_n G dX2_rewardLine_30 rfl ?_
  refine s_isub G dX2_rewardLine_31 ?_
  refine s_iadd G dX2_rewardLine_32 ?_
  refine pX2_231 G (by assumption) (by assumption) dX2_rewardLine_33 ?_
  refine V.abs (fun M1 hM1 => ?_)
  obtain ⟨g1, hg1⟩ : ∃ g1, g1 = g.set 4 x.1 5 (g.i 4 x.1 5 + (3 - nI l)) := ⟨_, rfl⟩
  have hS1 : SimC f M1 g1 := by rw [hM1, hg1]; exact hS.v4
  have hF1 : Fr f g.2.2.1 M M1 := by rw [hM1]; exact Fr.v4 Fr.rf hv
  have hv1 : x.1 < g1.nv := by rw [hg1]; exact hv
  have e0 : g1.i 4 x.1 0 = g.i 4 x.1 0 := by rw [hg1]; simp [gi_set]
  clear hM1
  have hm : mark1 g l x = g1.set 4 x.1 0 (if l = 0 then g.i 4 x.1 0 + 5 else g.i 4 x.1 0) := by rw [hg1]; rfl
  refine s_iload_n G dX2_rewardLine_36 rfl ?_
  refine s_if_ne G 55 dX2_rewardLine_37 (by decide) (fun h37 => ?_) (fun h37 => ?_)
  · have hl0 : l ≠ 0 := fun q => h37 (by rw [q]; rfl)
    refine s_vret G E9 hr dX2_rewardLine_55 ⟨rfl, ?_, hF1⟩
    rw [hm, if_neg hl0]
    refine hS1.congr rfl (fun kd a k => ?_) (fun b hb => rfl)
    rw [gi_set]
    split
    · rename_i q; obtain ⟨rfl, rfl, rfl⟩ := q; exact e0.symm
    · rfl
  · have hl0 : l = 0 := nI_inj (b := 0) (by omega) (by decide) h37
    refine s_aload_n G dX2_rewardLine_40 rfl ?_
    refine gX2_25 G (by assumption) dX2_rewardLine_41 ?_
    refine s_iload_n G dX2_rewardLine_44 rfl ?_
    refine ar_8 G (by assumption) rfl (by first | assumption | omega) dX2_rewardLine_45 ?_
    refine s_dup G dX2_rewardLine_46 rfl ?_
    refine gX2_144 G (by assumption) (by assumption) dX2_rewardLine_47 ?_
    rw [hS1.vi (k := 0) hv1 (by decide), e0]
    refine s_iconst (v := 5) G dX2_rewardLine_50 (by decide) ?_
    refine s_iadd G dX2_rewardLine_51 ?_
    refine pX2_144 G (by assumption) (by assumption) dX2_rewardLine_52 ?_
    refine s_vret G E9 hr dX2_rewardLine_55 ⟨rfl, by rw [hm, if_pos hl0]; exact hS1.v4, Fr.v4 hF1 hv⟩
theorem c_endHour (hf : f < 2) (hS : SimC f M g) (hI : Inv g) : Ret E idsC yX2_endHour cX2_endHour 3 none 2 46 [.ref (E.ad (1, f, 0))] M (fun r M' => r = none ∧ SimC f M' (endHour9 g) ∧ Fr f g.2.2.1 M M') := by
  have hb8 := hI.nb8
  have hv16 := hI.nv16
  have hbd := hI.bd3
  refine Ret_of_V RX2 (by decide) rfl idsC_nd [some (.ref (E.ad (1, f, 0))), none, none] rfl (Nat.le_of_ble_eq_true rfl) (fun κ hE G E9 hr => ?_)
  subst hE
  obtain ⟨Gh, hG⟩ : ∃ Gh, Gh = (markN g 0 g.bd).setbd [] := ⟨_, rfl⟩
  have hIG : Inv Gh := by rw [hG]; exact (hI.markN g.bd 0).setbd (by simp) (fun x hx => by cases hx) List.Pairwise.nil
  have hnG : Gh.2.2.1 = g.2.2.1 := by
    rw [hG]
    exact congrArg (fun z => z.2.1) (markN_n g.bd g 0)
  have hvG := nv_of hnG
  have hbG := nb_of hnG
  have clr : ∀ n v, v + n = Gh.nv → ∀ M1 : Mem, SimC f M1 (clrN Gh v) → Fr f g.2.2.1 M M1 → V κ idsC 3 M1 [some (.ref (κ.E.ad (1, f, 0))), some (.int (nI v)), none] [] 39 := by
    intro n
    induction n with
    | zero =>
      intro v hv M1 hS1 hF1
      have hv : v = Gh.nv := by omega
      subst hv
      refine s_iload_n G dX2_endHour_39 rfl ?_
      refine s_aload_n G dX2_endHour_40 rfl ?_
      refine gX2_52 G (by assumption) dX2_endHour_41 ?_
      refine s_icmp_ge G 89 dX2_endHour_44 (by decide) (fun h44 => ?_) (fun h44 => ?_)
      · refine s_vret G E9 hr dX2_endHour_89 ⟨rfl, ?_, hF1⟩
        show SimC f M1 (clear9 ((markN g 0 g.bd).setbd []))
        rw [← hG]
        exact hS1.congr rfl (fun p q r => clr_i p q r) (fun b hb => clr_q hIG b hb)
      · rw [hS1.nv] at h44
        exact absurd (Int32.le_refl _) h44
    | succ n ih =>
      intro v hvn M1 hS1 hF1
      have hv : v < Gh.nv := by omega
      have hvc : v < (clrN Gh v).nv := hv
      have hv9 : v < 16 := by omega
      have hIc := hIG.clrN v
      have go : ∀ M2 : Mem, SimC f M2 (clrN Gh (v + 1)) → Fr f g.2.2.1 M M2 → ∀ x9 : Int32, V κ idsC 3 M2 [some (.ref (κ.E.ad (1, f, 0))), some (.int (nI v)), some (.int x9)] [] 83 := by
        intro M2 hS2 hF2 x9
        refine s_iinc G dX2_endHour_83 rfl (by decide) rfl (nI_1 v) ?_
        refine s_goto G 39 dX2_endHour_86 (by decide) ?_
        refine V.drop1 2 ?_
        exact ih (v + 1) (by omega) M2 hS2 hF2
      refine s_iload_n G dX2_endHour_39 rfl ?_
      refine s_aload_n G dX2_endHour_40 rfl ?_
      refine gX2_52 G (by assumption) dX2_endHour_41 ?_
      refine s_icmp_ge G 89 dX2_endHour_44 (by decide) (fun h44 => ?_) (fun h44 => ?_)
      · rw [hS1.nv] at h44
        exact absurd h44 (nI_ge hv (by show Gh.nv < _; omega))
      refine s_aload_n G dX2_endHour_47 rfl ?_
      refine gX2_25 G (by assumption) dX2_endHour_48 ?_
      refine s_iload_n G dX2_endHour_51 rfl ?_
      refine ar_8 G (by assumption) rfl (by first | assumption | omega) dX2_endHour_52 ?_
      refine gX2_99 G (by assumption) (by assumption) dX2_endHour_53 ?_
      have eat : (clrN Gh v).i 4 v 3 = Gh.i 4 v 3 := by rw [clrN_i, if_neg (by omega)]
      rw [hS1.vi (k := 3) hvc (by decide), eat]
      refine s_istore_n G dX2_endHour_56 (by decide) rfl ?_
      refine s_aload_n G dX2_endHour_57 rfl ?_
      refine s_iload_n G dX2_endHour_58 rfl ?_
      refine iX2_90 G (by assumption) (c_isBooth (n := (clrN Gh v).nb) hf hS1.nb (by show Gh.nb < _; omega) (Gh.i 4 v 3)) (by decide) (Nat.le_of_ble_eq_true rfl) dX2_endHour_59 (fun r9 M9 hp9 => ?_)
      obtain ⟨rfl, ⟨b, hb, hbx, rfl⟩ | ⟨hno, rfl⟩⟩ := hp9
      · refine s_if_eq G 83 dX2_endHour_62 (by decide) (fun h62 => ?_) (fun h62 => ?_)
        · exact absurd h62 (by decide)
        have hbG : b < Gh.nb := hb
        have hb9 : b < 8 := by omega
        have hop : opn (clrN Gh v) b ↔ opn Gh b := by
          unfold opn
          rw [clrN_i, if_neg (by omega), wk_congr (g := Gh) (g' := clrN Gh v) b rfl (fun a _ => by rw [clrN_i, if_neg (by omega)])]
        refine s_aload_n G dX2_endHour_65 rfl ?_
        refine gX2_11 G (by assumption) dX2_endHour_66 ?_
        refine s_iload_n G dX2_endHour_69 rfl ?_
        refine ar_6 G (by assumption) hbx hb9 dX2_endHour_70 ?_
        refine iX2_120 G (by assumption) (by assumption) (c_isOpenG hf hS1 hIc hb) (by decide) (Nat.le_of_ble_eq_true rfl) dX2_endHour_71 (fun r9 M9 hp9 => ?_)
        obtain ⟨rfl, rfl⟩ := hp9
        refine s_if_ne G 83 dX2_endHour_74 (by decide) (fun h74 => ?_) (fun h74 => ?_)
        · have ho : opn Gh b := Decidable.byContradiction (fun q => h74 (by rw [if_neg (fun z => q (hop.mp z))]))
          have hcf : ¬ closedAt Gh v = true := by
            unfold closedAt
            rw [decide_eq_true_eq]
            rintro ⟨c, hc, e, hoc⟩
            have : c = b := nI_inj (by omega) (by omega) (e.symm.trans hbx)
            exact hoc (by rw [this]; exact ho)
          exact go _ (by rw [clrN_s, if_neg hcf]; exact hS1) hF1 _
        · have ho : ¬ opn Gh b := fun q => by rw [if_pos (hop.mpr q)] at h74; exact absurd h74 (by decide)
          have hct : closedAt Gh v = true := by
            unfold closedAt
            rw [decide_eq_true_eq]
            exact ⟨b, hbG, hbx, ho⟩
          refine s_aload_n G dX2_endHour_77 rfl ?_
          refine s_iload_n G dX2_endHour_78 rfl ?_
          refine iX2_174 G (by assumption) (c_take hf hS1 hIc hvc) (by decide) (Nat.le_of_ble_eq_true rfl) dX2_endHour_79 (fun r9 M9 hp9 => ?_)
          obtain ⟨rfl, hS2, hF2⟩ := hp9
          refine s_pop G dX2_endHour_82 rfl ?_
          exact go _ (by rw [clrN_s, if_pos hct]; exact hS2) (hF1.trans (by rw [← hnG]; exact hF2)) _
      · refine s_if_eq G 83 dX2_endHour_62 (by decide) (fun h62 => ?_) (fun h62 => ?_)
        rotate_left
        · exact absurd rfl h62
        have hcf : ¬ closedAt Gh v = true := by
          unfold closedAt
          rw [decide_eq_true_eq]
          rintro ⟨c, hc, e, hoc⟩
          exact hno c hc e
        exact go _ (by rw [clrN_s, if_neg hcf]; exact hS1) hF1 _
  have mk : ∀ n l (g1 : GS) (M1 : Mem), l + n = g.bd.length → SimC f M1 g1 → Inv g1 → g1.2.2 = g.2.2 → Fr f g.2.2.1 M M1 → markN g1 l (g.bd.drop l) = markN g 0 g.bd → V κ idsC 3 M1 [some (.ref (κ.E.ad (1, f, 0))), some (.int (nI l)), none] [] 2 := by
    intro n
    induction n with
    | zero =>
      intro l g1 M1 hl hS1 hI1 hn1 hF1 hm
      have hl : l = g.bd.length := by omega
      subst hl
      have hlen : g1.bd = g.bd := congrArg Prod.snd hn1
      rw [List.drop_length] at hm
      have hm : g1 = markN g 0 g.bd := hm
      refine s_iload_n G dX2_endHour_2 rfl ?_
      refine s_aload_n G dX2_endHour_3 rfl ?_
      refine gX2_32 G (by assumption) dX2_endHour_4 ?_
      refine gX2_223 G (by assumption) dX2_endHour_7 ?_
      rw [hS1.bdl, hlen]
      refine s_icmp_ge G 29 dX2_endHour_10 (by decide) (fun h10 => ?_) (fun h10 => ?_)
      rotate_left
      · exact absurd (Int32.le_refl _) h10
      refine s_aload_n G dX2_endHour_29 rfl ?_
      refine gX2_32 G (by assumption) dX2_endHour_30 ?_
      refine s_iconst (v := 0) G dX2_endHour_33 (by decide) ?_
      refine pX2_223 G (by assumption) dX2_endHour_34 ?_
      refine V.abs (fun M2 hM2 => ?_)
      have hS2 : SimC f M2 Gh := by
        rw [hG, hM2, ← hm]
        refine hS1.setbd (fun kd a k h1 h2 h3 h4 => ?_) (by rw [up_at, if_pos rfl]; rfl) (fun l x hx => by simp at hx)
        by_cases h5 : kd = 5 ∧ a = 0
        · obtain ⟨rfl, rfl⟩ := h5
          rw [up_at, if_neg (fun q => h4 ⟨rfl, q⟩)]
        · rw [up_ne (by simpa using h5)]
      have hF2 : Fr f g.2.2.1 M M2 := by rw [hM2]; exact Fr.c5 hF1
      clear hM2
      refine s_iconst (v := 0) G dX2_endHour_37 (by decide) ?_
      refine s_istore_n G dX2_endHour_38 (by decide) rfl ?_
      exact clr Gh.nv 0 (by omega) M2 (by rw [clrN_0]; exact hS2) hF2
    | succ n ih =>
      intro l g1 M1 hl hS1 hI1 hn1 hF1 hm
      have hlen : g1.bd = g.bd := congrArg Prod.snd hn1
      have hl9 : l < g.bd.length := by omega
      rw [List.drop_eq_getElem_cons hl9] at hm
      have hx : g1.bd[l]? = some g.bd[l] := by rw [hlen]; exact List.getElem?_eq_getElem hl9
      refine s_iload_n G dX2_endHour_2 rfl ?_
      refine s_aload_n G dX2_endHour_3 rfl ?_
      refine gX2_32 G (by assumption) dX2_endHour_4 ?_
      refine gX2_223 G (by assumption) dX2_endHour_7 ?_
      rw [hS1.bdl, hlen]
      refine s_icmp_ge G 29 dX2_endHour_10 (by decide) (fun h10 => ?_) (fun h10 => ?_)
      · exact absurd h10 (nI_ge hl9 (by omega))
      refine s_iload_n G dX2_endHour_13 rfl ?_
      refine s_iconst (v := 3) G dX2_endHour_14 (by decide) ?_
      refine s_icmp_ge G 29 dX2_endHour_15 (by decide) (fun h15 => ?_) (fun h15 => ?_)
      · exact absurd h15 (nI_ge (b := 3) (by omega) (by decide))
      refine s_aload_n G dX2_endHour_18 rfl ?_
      refine s_iload_n G dX2_endHour_19 rfl ?_
      refine iX2_226 G (by assumption) (c_reward hf hS1 hI1 hx) (by decide) (Nat.le_of_ble_eq_true rfl) dX2_endHour_20 (fun r9 M9 hp9 => ?_)
      obtain ⟨rfl, hS2, hF2⟩ := hp9
      refine s_iinc G dX2_endHour_23 rfl (by decide) rfl (nI_1 l) ?_
      refine s_goto G 2 dX2_endHour_26 (by decide) ?_
      exact ih (l + 1) _ _ (by omega) hS2 hI1.mark1 hn1 (hF1.trans (by rw [show g.2.2.1 = g1.2.2.1 by rw [hn1]]; exact hF2)) hm
  refine s_iconst (v := 0) G dX2_endHour_0 (by decide) ?_
  refine s_istore_n G dX2_endHour_1 (by decide) rfl ?_
  exact mk g.bd.length 0 g M (by omega) hS hI rfl Fr.rf (by rw [List.drop_zero])
end Eh
end
section
/-! ===== a whole round, and rounds ===== -/
section InvR
variable {g : GS}
theorem Inv.choose (h : Inv g) {v : Nat} (hv : v < g.nv) (hs : strl g v) : Inv (choose9 g v) := by
  have h8 := h.nb8
  unfold choose9
  cases hq : bestN g v g.nb with
  | none =>
    simp only
    split
    · obtain ⟨a1, a2, a3, a4, a5, a6, a7⟩ := h
      have e3 : ∀ u, (g.set 4 v 2 1).i 4 u 3 = g.i 4 u 3 := fun u => by rw [gi_set, if_neg (by omega)]
      have ei : ∀ kd u k, ¬ (kd = 4 ∧ k = 2) → (g.set 4 v 2 1).i kd u k = g.i kd u k := fun kd u k q => by rw [gi_set, if_neg (by omega)]
      refine ⟨a1, fun h hh => ?_, fun u hu => ?_, fun b hb => ?_, a5, a6, a7⟩
      · rw [ei _ _ _ (by omega), ei _ _ _ (by omega)]; exact a2 h hh
      · obtain ⟨b1, b2, b3, b4⟩ := a3 u hu
        rw [e3, gi_set]
        refine ⟨?_, b2, fun q => ?_, fun b hb => by rw [ei _ _ _ (by omega)]; exact b4 b hb⟩
        · split
          · exact Or.inr rfl
          · exact b1
        · split at q
          · rename_i z; rw [z.2.1]; exact hs.2
          · exact b3 q
      · obtain ⟨b1, b2, b3⟩ := a4 b hb
        exact ⟨b1, fun u => by rw [e3]; exact b2 u, by rw [ei _ _ _ (by omega)]; exact b3⟩
    · exact h
  | some o =>
    simp only
    have ho : o < g.nb := bestN_lt hq
    obtain ⟨a1, a2, a3, a4, a5, a6, a7⟩ := h
    have e3 : ∀ u, (g.set 4 v 3 (nI o)).i 4 u 3 = if u = v then nI o else g.i 4 u 3 := fun u => by
      rw [gi_set]
      by_cases q : u = v
      · rw [if_pos ⟨rfl, q, rfl⟩, if_pos q]
      · rw [if_neg (by omega), if_neg q]
    have ei : ∀ kd u k, ¬ (kd = 4 ∧ k = 3) → (g.set 4 v 3 (nI o)).i kd u k = g.i kd u k := fun kd u k q => by rw [gi_set, if_neg (by omega)]
    refine ⟨a1, fun h hh => ?_, fun u hu => ?_, fun b hb => ?_, a5, a6, a7⟩
    · rw [gi_setq, ei _ _ _ (by omega), ei _ _ _ (by omega)]; exact a2 h hh
    · obtain ⟨b1, b2, b3, b4⟩ := a3 u hu
      rw [gi_setq, ei _ _ _ (by omega), e3]
      refine ⟨b1, ?_, fun q => ?_, fun b hb => by rw [ei _ _ _ (by omega)]; exact b4 b hb⟩
      · by_cases q : u = v
        · rw [if_pos q]; exact Or.inr ⟨o, ho, rfl⟩
        · rw [if_neg q]; exact b2
      · by_cases q2 : u = v
        · rw [q2] at q
          exact absurd (q.symm.trans hs.1) (by decide)
        · rw [if_neg q2]; exact b3 q
    · obtain ⟨b1, b2, b3⟩ := a4 b hb
      have hb9 : b < g.nb := hb
      rw [gi_setq, gq_setq, ei _ _ _ (by omega)]
      have hnv : v ∉ g.q b := fun q => absurd ((b2 v).mp q).2 (by rw [hs.2]; exact fun z => absurd z.symm (nI_m1 (by omega)))
      refine ⟨?_, fun u => ?_, b3⟩
      · split
        · rename_i q
          subst q
          rw [List.nodup_append]
          refine ⟨b1, by simp, fun a ha c hc => ?_⟩
          simp only [List.mem_singleton] at hc
          subst hc
          exact fun z => hnv (z ▸ ha)
        · exact b1
      · rw [e3]
        by_cases q : b = o
        · subst q
          rw [if_pos rfl, List.mem_append, b2 u, List.mem_singleton]
          by_cases q2 : u = v
          · rw [if_pos q2]
            exact ⟨fun _ => ⟨by rw [q2]; exact hv, rfl⟩, fun _ => Or.inr q2⟩
          · rw [if_neg q2]
            exact ⟨fun z => z.resolve_right q2, fun z => Or.inl z⟩
        · rw [if_neg q, b2 u]
          by_cases q2 : u = v
          · rw [if_pos q2, q2, hs.2]
            constructor
            · rintro ⟨-, z⟩; exact absurd z.symm (nI_m1 (by omega))
            · rintro ⟨-, z⟩; exact absurd (nI_inj (by omega) (by omega) z).symm q
          · rw [if_neg q2]
            exact Iff.rfl
theorem choose_n {v : Nat} : (choose9 g v).2.2.1 = g.2.2.1 := by
  unfold choose9
  split
  · rfl
  · split <;> rfl
theorem chooseN_n : ∀ n, (chooseN g n).2.2.1 = g.2.2.1
  | 0 => rfl
  | n + 1 => by
    rw [chooseN]
    split
    · rw [choose_n, chooseN_n n]
    · exact chooseN_n n
theorem Inv.chooseN (h : Inv g) : ∀ n, n ≤ g.nv → Inv (chooseN g n)
  | 0, _ => h
  | n + 1, hn => by
    have ih := Inv.chooseN h n (by omega)
    rw [Jvm.Pilot.CFeteBoardLaw_law_r8679_226777.chooseN]
    split
    · rename_i hs
      exact ih.choose (by rw [nv_of (chooseN_n n)]; omega) hs
    · exact ih
theorem serveN_n {b : Nat} : ∀ (n : Nat) (g : GS), (serveN g b n).2.2.1 = g.2.2.1
  | 0, g => rfl
  | n + 1, g => by rw [serveN, serveN_n n, serve1_n]
theorem Inv.serveN {b : Nat} : ∀ (n : Nat) (g : GS), Inv g → b < g.nb → Inv (serveN g b n)
  | 0, g, h, _ => h
  | n + 1, g, h, hb => by
    rw [Jvm.Pilot.CFeteBoardLaw_law_r8679_226777.serveN]
    exact Inv.serveN n _ (h.srv1 hb) (by rw [nb_of serve1_n]; exact hb)
theorem serve_n {b : Nat} : (serve9 g b).2.2.1 = g.2.2.1 := by
  unfold serve9
  split
  · exact serveN_n _ g
  · rfl
theorem Inv.serve (h : Inv g) {b : Nat} (hb : b < g.nb) : Inv (serve9 g b) := by
  unfold serve9
  split
  · exact Inv.serveN _ g h hb
  · exact h
theorem servesN_n : ∀ n, (servesN g n).2.2.1 = g.2.2.1
  | 0 => rfl
  | n + 1 => by rw [servesN, serve_n, servesN_n n]
theorem Inv.servesN (h : Inv g) : ∀ n, n ≤ g.nb → Inv (servesN g n)
  | 0, _ => h
  | n + 1, hn => by
    rw [Jvm.Pilot.CFeteBoardLaw_law_r8679_226777.servesN]
    exact (Inv.servesN h n (by omega)).serve (by rw [nb_of (servesN_n n)]; omega)
theorem Inv.of_h3 {g' : GS} (h : Inv g) (hn : g'.2 = g.2) (hi : ∀ kd a k, kd ≠ 3 → g'.i kd a k = g.i kd a k) (hh : ∀ a, a < g.nh → (g'.i 3 a 1 = -1 ∨ ∃ b, b < g.nb ∧ g'.i 3 a 1 = nI b) ∧ 0 < g'.i 3 a 0 ∧ g'.i 3 a 0 ≤ 24) : Inv g' := by
  have e0 : g'.nb = g.nb := congrFun (congrArg (fun z => z.2.1) hn) 0
  have e1 : g'.nh = g.nh := congrFun (congrArg (fun z => z.2.1) hn) 1
  have e2 : g'.nv = g.nv := congrFun (congrArg (fun z => z.2.1) hn) 2
  have e3 : g'.bd = g.bd := congrArg (fun z => z.2.2) hn
  have e4 : g'.q = g.q := congrArg (fun z => z.1) hn
  obtain ⟨a1, a2, a3, a4, a5, a6, a7⟩ := h
  refine ⟨by rw [e0, e1, e2]; exact a1, fun h hh9 => ?_, fun u hu => ?_, fun b hb => ?_, by rw [e3]; exact a5, by rw [e3, e2]; exact a6, by rw [e3]; exact a7⟩
  · rw [e1] at hh9; rw [e0]; exact hh h hh9
  · rw [e2] at hu
    rw [hi _ _ _ (by decide), hi _ _ _ (by decide), e0]
    refine ⟨(a3 u hu).1, (a3 u hu).2.1, (a3 u hu).2.2.1, fun b hb => ?_⟩
    rw [hi _ _ _ (by decide)]
    exact (a3 u hu).2.2.2 b hb
  · rw [e0] at hb
    rw [e4, e2, hi _ _ _ (by decide)]
    exact ⟨(a4 b hb).1, fun u => by rw [hi _ _ _ (by decide)]; exact (a4 b hb).2.1 u, (a4 b hb).2.2⟩
theorem st_rng {x : Int32} (h : 0 ≤ x ∧ x ≤ 24) : 0 < min9 (x + 2) 24 ∧ min9 (x + 2) 24 ≤ 24 := by
  unfold min9
  obtain ⟨h1, h2⟩ := h
  obtain ⟨j, hj, rfl⟩ := nI_of2 (M := 24) (n := 24) (by decide) (i_nlt.mpr h1) h2
  have : ∀ j, j ≤ 24 → (0 : Int32) < (if 24 < nI j + 2 then 24 else nI j + 2) ∧ (if 24 < nI j + 2 then 24 else nI j + 2) ≤ (24 : Int32) := by decide
  exact this j hj
theorem st_dec {x : Int32} (h : 0 < x ∧ x ≤ 24) : 0 ≤ x - 1 ∧ x - 1 ≤ 24 := by
  obtain ⟨h1, h2⟩ := h
  obtain ⟨j, hj, rfl⟩ := nI_of2 (M := 24) (n := 24) (by decide) (i_nlt.mpr (by rw [Int32.le_iff_toInt_le]; rw [Int32.lt_iff_toInt_lt] at h1; omega)) h2
  have : ∀ j, j ≤ 24 → (0 : Int32) < nI j → (0 : Int32) ≤ nI j - 1 ∧ nI j - 1 ≤ (24 : Int32) := by decide
  exact this j hj h1
theorem tire_n {h : Nat} : (tire9 g h).2 = g.2 := by
  unfold tire9
  split
  · rfl
  · simp only
    split <;> rfl
theorem Inv.tire (hI : Inv g) {h : Nat} (hh : h < g.nh) : Inv (tire9 g h) := by
  have hs := hI.hst hh
  have hd := st_dec hs
  refine hI.of_h3 tire_n (fun kd a k q => ?_) (fun a ha => ?_)
  · unfold tire9 rest9
    split
    · rw [gi_set, if_neg (by omega)]
    · simp only
      split <;> simp [gi_set, q]
  · by_cases q : a = h
    · subst q
      unfold tire9 rest9
      split
      · rename_i hat
        rw [gi_set, if_neg (by omega), gi_set, if_pos ⟨rfl, rfl, rfl⟩]
        exact ⟨Or.inl hat, st_rng ⟨by have := hs.1; rw [Int32.le_iff_toInt_le]; rw [Int32.lt_iff_toInt_lt] at this; omega, hs.2⟩⟩
      · simp only
        split
        · rename_i hpos
          have e1 : ((g.set 3 a 2 (g.i 3 a 2 + 1)).set 3 a 0 (g.i 3 a 0 - 1)).i 3 a 1 = g.i 3 a 1 := by simp [gi_set]
          have e0 : ((g.set 3 a 2 (g.i 3 a 2 + 1)).set 3 a 0 (g.i 3 a 0 - 1)).i 3 a 0 = g.i 3 a 0 - 1 := by simp [gi_set]
          rw [e1]
          rw [e0] at hpos ⊢
          exact ⟨hI.hat ha, hpos, hd.2⟩
        · have e0 : (((g.set 3 a 2 (g.i 3 a 2 + 1)).set 3 a 0 (g.i 3 a 0 - 1)).set 3 a 1 (-1)).i 3 a 0 = g.i 3 a 0 - 1 := by simp [gi_set]
          rw [e0]
          refine ⟨Or.inl (by simp [gi_set]), ?_⟩
          rw [gi_set, if_pos ⟨rfl, rfl, rfl⟩]
          exact st_rng hd
    · have e1 : ∀ k, (tire9 g h).i 3 a k = g.i 3 a k := by
        intro k
        unfold tire9 rest9
        split
        · rw [gi_set, if_neg (by omega)]
        · simp only
          split <;> simp [gi_set, q]
      rw [e1, e1]
      exact ⟨hI.hat ha, hI.hst ha⟩
theorem tiresN_n : ∀ n, (tiresN g n).2 = g.2
  | 0 => rfl
  | n + 1 => by rw [tiresN, tire_n, tiresN_n n]
theorem Inv.tiresN (h : Inv g) : ∀ n, n ≤ g.nh → Inv (tiresN g n)
  | 0, _ => h
  | n + 1, hn => by
    rw [Jvm.Pilot.CFeteBoardLaw_law_r8679_226777.tiresN]
    exact (Inv.tiresN h n (by omega)).tire (by rw [nh_of (congrArg (fun z => z.2.1) (tiresN_n n))]; omega)
theorem dart_n : (dart9 g).2 = g.2 := rfl
theorem Inv.dart (h : Inv g) : Inv (dart9 g) := h.f1.f1
theorem endHour_n : (endHour9 g).2.2.1 = g.2.2.1 := by
  show ((markN g 0 g.bd).setbd []).2.2.1 = g.2.2.1
  exact congrArg (fun z => z.2.1) (markN_n g.bd g 0)
end InvR
/-- the round's pieces -/
def rnd1 (g : GS) : GS := if rm9 (g.i 1 0 7) 12 = 0 then dart9 g else g
def rnd2 (g : GS) : GS := chooseN (rnd1 g) (rnd1 g).nv
def rnd3 (g : GS) : GS := servesN (rnd2 g) (rnd2 g).nb
def rnd4 (g : GS) : GS := tiresN (rnd3 g) (rnd3 g).nh
def rnd5 (g : GS) : GS := if rm9 ((rnd4 g).i 1 0 7) 12 = 11 then endHour9 (rnd4 g) else rnd4 g
theorem round_eq (g : GS) : round9 g = (rnd5 g).set 1 0 7 ((rnd5 g).i 1 0 7 + 1) := rfl
theorem rnd1_n {g : GS} : (rnd1 g).2.2.1 = g.2.2.1 := by unfold rnd1; split <;> rfl
theorem rnd2_n {g : GS} : (rnd2 g).2.2.1 = g.2.2.1 := (chooseN_n _).trans rnd1_n
theorem rnd3_n {g : GS} : (rnd3 g).2.2.1 = g.2.2.1 := (servesN_n _).trans rnd2_n
theorem rnd4_n {g : GS} : (rnd4 g).2.2.1 = g.2.2.1 := (congrArg (fun z => z.2.1) (tiresN_n _)).trans rnd3_n
theorem rnd5_n {g : GS} : (rnd5 g).2.2.1 = g.2.2.1 := by
  unfold rnd5
  split
  · exact endHour_n.trans rnd4_n
  · exact rnd4_n
theorem round_n {g : GS} : (round9 g).2.2.1 = g.2.2.1 := rnd5_n
theorem Inv.r1 {g : GS} (h : Inv g) : Inv (rnd1 g) := by unfold rnd1; split; exact h.dart; exact h
theorem Inv.r2 {g : GS} (h : Inv g) : Inv (rnd2 g) := h.r1.chooseN _ (Nat.le_refl _)
theorem Inv.r3 {g : GS} (h : Inv g) : Inv (rnd3 g) := h.r2.servesN _ (Nat.le_refl _)
theorem Inv.r4 {g : GS} (h : Inv g) : Inv (rnd4 g) := h.r3.tiresN _ (Nat.le_refl _)
theorem Inv.r5 {g : GS} (h : Inv g) : Inv (rnd5 g) := by unfold rnd5; split; exact h.r4.endHour; exact h.r4
theorem Inv.round {g : GS} (h : Inv g) : Inv (round9 g) := h.r5.f1
theorem rounds_n {g : GS} : ∀ n, (rounds9 g n).2.2.1 = g.2.2.1
  | 0 => rfl
  | n + 1 => by rw [rounds9, round_n, rounds_n n]
theorem Inv.rounds {g : GS} (h : Inv g) : ∀ n, Inv (rounds9 g n)
  | 0 => h
  | n + 1 => (Inv.rounds h n).round
section Rd
variable {E : EX} {M : Mem} {f : Nat} {g : GS}
theorem c_round (hf : f < 2) (hS : SimC f M g) (hI : Inv g) : Ret E idsC yX2_playRound cX2_playRound 2 none 4 97 [.ref (E.ad (1, f, 0))] M (fun r M' => r = none ∧ SimC f M' (round9 g) ∧ Fr f g.2.2.1 M M') := by
  have hI1 := hI.r1
  have hI2 := hI.r2
  have hI3 := hI.r3
  have hI4 := hI.r4
  refine Ret_of_V RX2 (by decide) rfl idsC_nd [some (.ref (E.ad (1, f, 0))), none] rfl (Nat.le_of_ble_eq_true rfl) (fun κ hE G E9 hr => ?_)
  subst hE
  have p5 : ∀ M5 : Mem, SimC f M5 (rnd5 g) → Fr f g.2.2.1 M M5 → V κ idsC 2 M5 [some (.ref (κ.E.ad (1, f, 0))), none] [] 117 := by
    intro M5 hS5 hF5
    refine s_aload_n G dX2_playRound_117 rfl ?_
    refine s_dup G dX2_playRound_118 rfl ?_
    refine gX2_55 G (by assumption) dX2_playRound_119 ?_
    rw [hS5.num (k := 7) (by decide) (by decide)]
    refine s_iconst (v := 1) G dX2_playRound_122 (by decide) ?_
    refine s_iadd G dX2_playRound_123 ?_
    refine pX2_55 G (by assumption) dX2_playRound_124 ?_
    refine s_vret G E9 hr dX2_playRound_127 ⟨rfl, by rw [round_eq]; exact hS5.f1 (by decide), Fr.f1 hF5⟩
  have p4 : ∀ M4 : Mem, SimC f M4 (rnd4 g) → Fr f g.2.2.1 M M4 → V κ idsC 2 M4 [some (.ref (κ.E.ad (1, f, 0))), none] [] 101 := by
    intro M4 hS4 hF4
    refine s_aload_n G dX2_playRound_101 rfl ?_
    refine gX2_55 G (by assumption) dX2_playRound_102 ?_
    rw [hS4.num (k := 7) (by decide) (by decide)]
    refine s_bipush (v := 12) G dX2_playRound_105 (by decide) ?_
    refine s_irem G dX2_playRound_107 (by decide) ?_
    refine s_bipush (v := 11) G dX2_playRound_108 (by decide) ?_
    refine s_icmp_ne G 117 dX2_playRound_110 (by decide) (fun h110 => ?_) (fun h110 => ?_)
    · exact p5 M4 (by unfold rnd5; rw [if_neg h110]; exact hS4) hF4
    · refine s_aload_n G dX2_playRound_113 rfl ?_
      refine iX2_129 G (by assumption) (c_endHour hf hS4 hI4) (by decide) (Nat.le_of_ble_eq_true rfl) dX2_playRound_114 (fun r9 M9 hp9 => ?_)
      obtain ⟨rfl, hS5, hF5⟩ := hp9
      exact p5 _ (by unfold rnd5; rw [if_pos h110]; exact hS5) (hF4.trans (by rw [← rnd4_n (g := g)]; exact hF5))
  have p3 : ∀ n h, h + n = (rnd3 g).nh → ∀ M3 : Mem, SimC f M3 (tiresN (rnd3 g) h) → Fr f g.2.2.1 M M3 → V κ idsC 2 M3 [some (.ref (κ.E.ad (1, f, 0))), some (.int (nI h))] [] 82 := by
    intro n
    induction n with
    | zero =>
      intro h hh M3 hS3 hF3
      have hh : h = (rnd3 g).nh := by omega
      subst hh
      have e : (tiresN (rnd3 g) (rnd3 g).nh).nh = (rnd3 g).nh := nh_of (congrArg (fun z => z.2.1) (tiresN_n _))
      refine s_iload_n G dX2_playRound_82 rfl ?_
      refine s_aload_n G dX2_playRound_83 rfl ?_
      refine gX2_49 G (by assumption) dX2_playRound_84 ?_
      rw [hS3.nh, e]
      refine s_icmp_ge G 101 dX2_playRound_87 (by decide) (fun h87 => ?_) (fun h87 => ?_)
      · refine V.drop1 1 ?_
        exact p4 M3 hS3 hF3
      · exact absurd (Int32.le_refl _) h87
    | succ n ih =>
      intro h hh M3 hS3 hF3
      have hn9 := congrArg (fun z => z.2.1) (tiresN_n (g := rnd3 g) h)
      have e : (tiresN (rnd3 g) h).nh = (rnd3 g).nh := nh_of hn9
      have hl : h < (rnd3 g).nh := by omega
      have h12 := hI3.nh12
      refine s_iload_n G dX2_playRound_82 rfl ?_
      refine s_aload_n G dX2_playRound_83 rfl ?_
      refine gX2_49 G (by assumption) dX2_playRound_84 ?_
      rw [hS3.nh, e]
      refine s_icmp_ge G 101 dX2_playRound_87 (by decide) (fun h87 => ?_) (fun h87 => ?_)
      · exact absurd h87 (nI_ge hl (by omega))
      refine s_aload_n G dX2_playRound_90 rfl ?_
      refine s_iload_n G dX2_playRound_91 rfl ?_
      refine iX2_126 G (by assumption) (c_tire (h := h) hf hS3 (hI3.tiresN h (by omega)) (by rw [e]; exact hl)) (by decide) (Nat.le_of_ble_eq_true rfl) dX2_playRound_92 (fun r9 M9 hp9 => ?_)
      obtain ⟨rfl, hS4, hF4⟩ := hp9
      refine s_iinc G dX2_playRound_95 rfl (by decide) rfl (nI_1 h) ?_
      refine s_goto G 82 dX2_playRound_98 (by decide) ?_
      exact ih (h + 1) (by omega) _ hS4 (hF3.trans (by rw [← rnd3_n (g := g), show (rnd3 g).2.2.1 = (tiresN (rnd3 g) h).2.2.1 from hn9.symm]; exact hF4))
  have p2 : ∀ n b, b + n = (rnd2 g).nb → ∀ M2 : Mem, SimC f M2 (servesN (rnd2 g) b) → Fr f g.2.2.1 M M2 → V κ idsC 2 M2 [some (.ref (κ.E.ad (1, f, 0))), some (.int (nI b))] [] 49 := by
    intro n
    induction n with
    | zero =>
      intro b hb M2 hS2 hF2
      have hb : b = (rnd2 g).nb := by omega
      subst hb
      have e : (servesN (rnd2 g) (rnd2 g).nb).nb = (rnd2 g).nb := nb_of (servesN_n _)
      refine s_iload_n G dX2_playRound_49 rfl ?_
      refine s_aload_n G dX2_playRound_50 rfl ?_
      refine gX2_46 G (by assumption) dX2_playRound_51 ?_
      rw [hS2.nb, e]
      refine s_icmp_ge G 80 dX2_playRound_54 (by decide) (fun h54 => ?_) (fun h54 => ?_)
      · refine s_iconst (v := 0) G dX2_playRound_80 (by decide) ?_
        refine s_istore_n G dX2_playRound_81 (by decide) rfl ?_
        exact p3 (rnd3 g).nh 0 (by omega) M2 hS2 hF2
      · exact absurd (Int32.le_refl _) h54
    | succ n ih =>
      intro b hb M2 hS2 hF2
      have e : (servesN (rnd2 g) b).nb = (rnd2 g).nb := nb_of (servesN_n _)
      have hl : b < (rnd2 g).nb := by omega
      have hl2 : b < (servesN (rnd2 g) b).nb := by rw [e]; exact hl
      have h8 := hI2.nb8
      have hb8 : b < 8 := by omega
      have hIs := hI2.servesN b (by omega)
      refine s_iload_n G dX2_playRound_49 rfl ?_
      refine s_aload_n G dX2_playRound_50 rfl ?_
      refine gX2_46 G (by assumption) dX2_playRound_51 ?_
      rw [hS2.nb, e]
      refine s_icmp_ge G 80 dX2_playRound_54 (by decide) (fun h54 => ?_) (fun h54 => ?_)
      · exact absurd h54 (nI_ge hl (by omega))
      refine s_aload_n G dX2_playRound_57 rfl ?_
      refine gX2_11 G (by assumption) dX2_playRound_58 ?_
      refine s_iload_n G dX2_playRound_61 rfl ?_
      refine ar_6 G (by assumption) rfl (by first | assumption | omega) dX2_playRound_62 ?_
      refine iX2_120 G (by assumption) (by assumption) (c_isOpenG hf hS2 hIs hl2) (by decide) (Nat.le_of_ble_eq_true rfl) dX2_playRound_63 (fun r9 M9 hp9 => ?_)
      obtain ⟨rfl, rfl⟩ := hp9
      refine s_if_eq G 74 dX2_playRound_66 (by decide) (fun h66 => ?_) (fun h66 => ?_)
      · have ho : ¬ opn (servesN (rnd2 g) b) b := fun q => by rw [if_pos q] at h66; exact absurd h66 (by decide)
        refine s_iinc G dX2_playRound_74 rfl (by decide) rfl (nI_1 b) ?_
        refine s_goto G 49 dX2_playRound_77 (by decide) ?_
        refine ih (b + 1) (by omega) _ ?_ hF2
        rw [servesN, serve9, if_neg ho]
        exact hS2
      · have ho : opn (servesN (rnd2 g) b) b := Decidable.byContradiction (fun q => h66 (by rw [if_neg q]))
        refine s_aload_n G dX2_playRound_69 rfl ?_
        refine s_iload_n G dX2_playRound_70 rfl ?_
        refine iX2_123 G (by assumption) (c_serve hf hS2 hIs hl2) (by decide) (Nat.le_of_ble_eq_true rfl) dX2_playRound_71 (fun r9 M9 hp9 => ?_)
        obtain ⟨rfl, hS3, hF3⟩ := hp9
        refine s_iinc G dX2_playRound_74 rfl (by decide) rfl (nI_1 b) ?_
        refine s_goto G 49 dX2_playRound_77 (by decide) ?_
        refine ih (b + 1) (by omega) _ ?_ (hF2.trans (by rw [← rnd2_n (g := g), ← servesN_n (g := rnd2 g) b]; exact hF3))
        rw [servesN, serve9, if_pos ho]
        exact hS3
  have p1 : ∀ n v, v + n = (rnd1 g).nv → ∀ M1 : Mem, SimC f M1 (chooseN (rnd1 g) v) → Fr f g.2.2.1 M M1 → V κ idsC 2 M1 [some (.ref (κ.E.ad (1, f, 0))), some (.int (nI v))] [] 16 := by
    intro n
    induction n with
    | zero =>
      intro v hv M1 hS1 hF1
      have hv : v = (rnd1 g).nv := by omega
      subst hv
      have e : (chooseN (rnd1 g) (rnd1 g).nv).nv = (rnd1 g).nv := nv_of (chooseN_n _)
      refine s_iload_n G dX2_playRound_16 rfl ?_
      refine s_aload_n G dX2_playRound_17 rfl ?_
      refine gX2_52 G (by assumption) dX2_playRound_18 ?_
      rw [hS1.nv, e]
      refine s_icmp_ge G 47 dX2_playRound_21 (by decide) (fun h21 => ?_) (fun h21 => ?_)
      · refine s_iconst (v := 0) G dX2_playRound_47 (by decide) ?_
        refine s_istore_n G dX2_playRound_48 (by decide) rfl ?_
        exact p2 (rnd2 g).nb 0 (by omega) M1 hS1 hF1
      · exact absurd (Int32.le_refl _) h21
    | succ n ih =>
      intro v hv M1 hS1 hF1
      have e : (chooseN (rnd1 g) v).nv = (rnd1 g).nv := nv_of (chooseN_n _)
      have hl : v < (rnd1 g).nv := by omega
      have hl2 : v < (chooseN (rnd1 g) v).nv := by rw [e]; exact hl
      have h16 := hI1.nv16
      have hv16 : v < 16 := by omega
      have hIs := hI1.chooseN v (by omega)
      refine s_iload_n G dX2_playRound_16 rfl ?_
      refine s_aload_n G dX2_playRound_17 rfl ?_
      refine gX2_52 G (by assumption) dX2_playRound_18 ?_
      rw [hS1.nv, e]
      refine s_icmp_ge G 47 dX2_playRound_21 (by decide) (fun h21 => ?_) (fun h21 => ?_)
      · exact absurd h21 (nI_ge hl (by omega))
      refine s_aload_n G dX2_playRound_24 rfl ?_
      refine gX2_25 G (by assumption) dX2_playRound_25 ?_
      refine s_iload_n G dX2_playRound_28 rfl ?_
      refine ar_8 G (by assumption) rfl (by first | assumption | omega) dX2_playRound_29 ?_
      refine iX2_113 G (by assumption) (by assumption) (c_strollsG hf hS1 hIs hl2) (by decide) (Nat.le_of_ble_eq_true rfl) dX2_playRound_30 (fun r9 M9 hp9 => ?_)
      obtain ⟨rfl, rfl⟩ := hp9
      refine s_if_eq G 41 dX2_playRound_33 (by decide) (fun h33 => ?_) (fun h33 => ?_)
      · have ho : ¬ strl (chooseN (rnd1 g) v) v := fun q => by rw [if_pos q] at h33; exact absurd h33 (by decide)
        refine s_iinc G dX2_playRound_41 rfl (by decide) rfl (nI_1 v) ?_
        refine s_goto G 16 dX2_playRound_44 (by decide) ?_
        refine ih (v + 1) (by omega) _ ?_ hF1
        rw [chooseN]
        rw [if_neg ho]
        exact hS1
      · have ho : strl (chooseN (rnd1 g) v) v := Decidable.byContradiction (fun q => h33 (by rw [if_neg q]))
        refine s_aload_n G dX2_playRound_36 rfl ?_
        refine s_iload_n G dX2_playRound_37 rfl ?_
        refine iX2_117 G (by assumption) (c_choose hf hS1 hIs hl2 ho.2) (by decide) (Nat.le_of_ble_eq_true rfl) dX2_playRound_38 (fun r9 M9 hp9 => ?_)
        obtain ⟨rfl, hS2, hF2⟩ := hp9
        refine s_iinc G dX2_playRound_41 rfl (by decide) rfl (nI_1 v) ?_
        refine s_goto G 16 dX2_playRound_44 (by decide) ?_
        refine ih (v + 1) (by omega) _ ?_ (hF1.trans (by rw [← rnd1_n (g := g), ← chooseN_n (g := rnd1 g) v]; exact hF2))
        rw [chooseN]
        rw [if_pos ho]
        exact hS2
  have p0 : ∀ M1 : Mem, SimC f M1 (rnd1 g) → Fr f g.2.2.1 M M1 → V κ idsC 2 M1 [some (.ref (κ.E.ad (1, f, 0))), none] [] 14 := by
    intro M1 hS1 hF1
    refine s_iconst (v := 0) G dX2_playRound_14 (by decide) ?_
    refine s_istore_n G dX2_playRound_15 (by decide) rfl ?_
    exact p1 (rnd1 g).nv 0 (by omega) M1 hS1 hF1
  refine s_aload_n G dX2_playRound_0 rfl ?_
  refine gX2_55 G (by assumption) dX2_playRound_1 ?_
  rw [hS.num (k := 7) (by decide) (by decide)]
  refine s_bipush (v := 12) G dX2_playRound_4 (by decide) ?_
  refine s_irem G dX2_playRound_6 (by decide) ?_
  refine s_if_ne G 14 dX2_playRound_7 (by decide) (fun h7 => ?_) (fun h7 => ?_)
  · exact p0 M (by unfold rnd1; rw [if_neg h7]; exact hS) Fr.rf
  · refine s_aload_n G dX2_playRound_10 rfl ?_
    refine iX2_110 G (by assumption) (c_dart hf hS hI) (by decide) (Nat.le_of_ble_eq_true rfl) dX2_playRound_11 (fun r9 M9 hp9 => ?_)
    obtain ⟨rfl, hS1, hF1⟩ := hp9
    exact p0 _ (by unfold rnd1; rw [if_pos h7]; exact hS1) hF1
theorem c_goOn {k : Nat} (hf : f < 2) (hS : SimC f M g) (hI : Inv g) (hk : k < 2 ^ 31) : Ret E idsC yX2_goOn cX2_goOn 4 (some .int) 5 118 [.ref (E.ad (1, f, 0)), .int (nI k)] M (fun r M' => r = some (.int ((rounds9 g k).i 1 0 10 - g.i 1 0 10)) ∧ SimC f M' (rounds9 g k) ∧ Fr f g.2.2.1 M M') := by
  refine Ret_of_V RX2 (by decide) rfl idsC_nd [some (.ref (E.ad (1, f, 0))), some (.int (nI k)), none, none] rfl (Nat.le_of_ble_eq_true rfl) (fun κ hE G E9 hr => ?_)
  subst hE
  have loop : ∀ n i, i + n = k → ∀ M1 : Mem, SimC f M1 (rounds9 g i) → Fr f g.2.2.1 M M1 → V κ idsC 4 M1 [some (.ref (κ.E.ad (1, f, 0))), some (.int (nI k)), some (.int (g.i 1 0 10)), some (.int (nI i))] [] 7 := by
    intro n
    induction n with
    | zero =>
      intro i hi M1 hS1 hF1
      have hi : i = k := by omega
      subst hi
      refine s_iload_n G dX2_goOn_7 rfl ?_
      refine s_iload_n G dX2_goOn_8 rfl ?_
      refine s_icmp_ge G 22 dX2_goOn_9 (by decide) (fun h9 => ?_) (fun h9 => ?_)
      · refine s_aload_n G dX2_goOn_22 rfl ?_
        refine gX2_58 G (by assumption) dX2_goOn_23 ?_
        rw [hS1.num (k := 10) (by decide) (by decide)]
        refine s_iload_n G dX2_goOn_26 rfl ?_
        refine s_isub G dX2_goOn_27 ?_
        refine s_iret G E9 hr dX2_goOn_28 ⟨rfl, hS1, hF1⟩
      · exact absurd (Int32.le_refl _) h9
    | succ n ih =>
      intro i hi M1 hS1 hF1
      refine s_iload_n G dX2_goOn_7 rfl ?_
      refine s_iload_n G dX2_goOn_8 rfl ?_
      refine s_icmp_ge G 22 dX2_goOn_9 (by decide) (fun h9 => ?_) (fun h9 => ?_)
      · exact absurd h9 (nI_ge (by omega) hk)
      refine s_aload_n G dX2_goOn_12 rfl ?_
      refine iX2_107 G (by assumption) (c_round hf hS1 (hI.rounds i)) (by decide) (Nat.le_of_ble_eq_true rfl) dX2_goOn_13 (fun r9 M9 hp9 => ?_)
      obtain ⟨rfl, hS2, hF2⟩ := hp9
      refine s_iinc G dX2_goOn_16 rfl (by decide) rfl (nI_1 i) ?_
      refine s_goto G 7 dX2_goOn_19 (by decide) ?_
      exact ih (i + 1) (by omega) _ hS2 (hF1.trans (by rw [← rounds_n (g := g) i]; exact hF2))
  refine s_aload_n G dX2_goOn_0 rfl ?_
  refine gX2_58 G (by assumption) dX2_goOn_1 ?_
  rw [hS.num (k := 10) (by decide) (by decide)]
  refine s_istore_n G dX2_goOn_4 (by decide) rfl ?_
  refine s_iconst (v := 0) G dX2_goOn_5 (by decide) ?_
  refine s_istore_n G dX2_goOn_6 (by decide) rfl ?_
  exact loop k 0 (by omega) M hS Fr.rf
end Rd
end

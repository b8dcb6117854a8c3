section
-- ===== PART A: goes FIRST, ahead of the names: the tables' words, and 'selects' of the private methods out of them =====
/-- a private method of a class that the tables say can be made, by its rows of tables_1 -/
def lw_okq (q : MethodName × Nat) : Prop := (q.1.cls ≠ "java/lang/invoke/MethodHandle" ∧ q.1.cls ≠ "java/lang/invoke/VarHandle") ∧ Cond.instantiable q.1.cls q.2 ∈ tables_1 ∧ Cond.privateMethod q.1 ∈ tables_1 ∧ Cond.instanceMethod q.1 ∈ tables_1
theorem lw_p0 : lw_okq (⟨"HalfAsked", "forgetFound", "()V"⟩, 17) := ⟨⟨by decide +kernel, by decide +kernel⟩, List.mem_of_getElem? (i := 20) (by decide +kernel), List.mem_of_getElem? (i := 299) (by decide +kernel), List.mem_of_getElem? (i := 300) (by decide +kernel)⟩
theorem lw_p1 : lw_okq (⟨"HalfAsked$Tape", "look", "()C"⟩, 3) := ⟨⟨by decide +kernel, by decide +kernel⟩, List.mem_of_getElem? (i := 99) (by decide +kernel), List.mem_of_getElem? (i := 390) (by decide +kernel), List.mem_of_getElem? (i := 391) (by decide +kernel)⟩
theorem lw_p2 : lw_okq (⟨"HalfAsked$Tape", "skipBlanks", "()V"⟩, 3) := ⟨⟨by decide +kernel, by decide +kernel⟩, List.mem_of_getElem? (i := 99) (by decide +kernel), List.mem_of_getElem? (i := 394) (by decide +kernel), List.mem_of_getElem? (i := 395) (by decide +kernel)⟩
theorem lw_p3 : lw_okq (⟨"HalfAsked$Tape", "readNumber", "()I"⟩, 3) := ⟨⟨by decide +kernel, by decide +kernel⟩, List.mem_of_getElem? (i := 99) (by decide +kernel), List.mem_of_getElem? (i := 485) (by decide +kernel), List.mem_of_getElem? (i := 486) (by decide +kernel)⟩
theorem lw_p4 : lw_okq (⟨"HalfAsked$Tape", "readAsking", "(LHalfAsked$Plan;I)Z"⟩, 3) := ⟨⟨by decide +kernel, by decide +kernel⟩, List.mem_of_getElem? (i := 99) (by decide +kernel), List.mem_of_getElem? (i := 513) (by decide +kernel), List.mem_of_getElem? (i := 514) (by decide +kernel)⟩
theorem lw_p5 : lw_okq (⟨"HalfAsked", "findTimes", "(I)V"⟩, 17) := ⟨⟨by decide +kernel, by decide +kernel⟩, List.mem_of_getElem? (i := 20) (by decide +kernel), List.mem_of_getElem? (i := 551) (by decide +kernel), List.mem_of_getElem? (i := 552) (by decide +kernel)⟩
theorem lw_p6 : lw_okq (⟨"HalfAsked$Timing", "choose", "(III)V"⟩, 5) := ⟨⟨by decide +kernel, by decide +kernel⟩, List.mem_of_getElem? (i := 119) (by decide +kernel), List.mem_of_getElem? (i := 561) (by decide +kernel), List.mem_of_getElem? (i := 562) (by decide +kernel)⟩
theorem lw_p7 : lw_okq (⟨"HalfAsked$Timing", "askAll", "(LHalfAsked$Folk;II)I"⟩, 5) := ⟨⟨by decide +kernel, by decide +kernel⟩, List.mem_of_getElem? (i := 119) (by decide +kernel), List.mem_of_getElem? (i := 565) (by decide +kernel), List.mem_of_getElem? (i := 566) (by decide +kernel)⟩
theorem lw_p8 : lw_okq (⟨"HalfAsked$Timing", "keepBetter", "(II)V"⟩, 5) := ⟨⟨by decide +kernel, by decide +kernel⟩, List.mem_of_getElem? (i := 119) (by decide +kernel), List.mem_of_getElem? (i := 572) (by decide +kernel), List.mem_of_getElem? (i := 573) (by decide +kernel)⟩
theorem lw_p9 : lw_okq (⟨"HalfAsked$Timing", "worthAsking", "(I)I"⟩, 5) := ⟨⟨by decide +kernel, by decide +kernel⟩, List.mem_of_getElem? (i := 119) (by decide +kernel), List.mem_of_getElem? (i := 576) (by decide +kernel), List.mem_of_getElem? (i := 577) (by decide +kernel)⟩
theorem lw_p10 : lw_okq (⟨"HalfAsked", "findTurns", "()V"⟩, 17) := ⟨⟨by decide +kernel, by decide +kernel⟩, List.mem_of_getElem? (i := 20) (by decide +kernel), List.mem_of_getElem? (i := 599) (by decide +kernel), List.mem_of_getElem? (i := 600) (by decide +kernel)⟩
theorem lw_p11 : lw_okq (⟨"HalfAsked$Turns", "settle", "(I)V"⟩, 3) := ⟨⟨by decide +kernel, by decide +kernel⟩, List.mem_of_getElem? (i := 154) (by decide +kernel), List.mem_of_getElem? (i := 608) (by decide +kernel), List.mem_of_getElem? (i := 609) (by decide +kernel)⟩
theorem lw_p12 : lw_okq (⟨"HalfAsked$Turns", "keep", "(II)V"⟩, 3) := ⟨⟨by decide +kernel, by decide +kernel⟩, List.mem_of_getElem? (i := 154) (by decide +kernel), List.mem_of_getElem? (i := 613) (by decide +kernel), List.mem_of_getElem? (i := 614) (by decide +kernel)⟩
theorem lw_p13 : lw_okq (⟨"HalfAsked$Orders", "extend", "(II)V"⟩, 8) := ⟨⟨by decide +kernel, by decide +kernel⟩, List.mem_of_getElem? (i := 175) (by decide +kernel), List.mem_of_getElem? (i := 632) (by decide +kernel), List.mem_of_getElem? (i := 633) (by decide +kernel)⟩
theorem lw_p14 : lw_okq (⟨"HalfAsked$Orders", "weigh", "(LHalfAsked$Folk;)V"⟩, 8) := ⟨⟨by decide +kernel, by decide +kernel⟩, List.mem_of_getElem? (i := 175) (by decide +kernel), List.mem_of_getElem? (i := 636) (by decide +kernel), List.mem_of_getElem? (i := 637) (by decide +kernel)⟩
theorem lw_p15 : lw_okq (⟨"HalfAsked", "shareOut", "(II)V"⟩, 17) := ⟨⟨by decide +kernel, by decide +kernel⟩, List.mem_of_getElem? (i := 20) (by decide +kernel), List.mem_of_getElem? (i := 654) (by decide +kernel), List.mem_of_getElem? (i := 655) (by decide +kernel)⟩
def lw_privs_1 : List (MethodName × Nat) := [(⟨"HalfAsked", "forgetFound", "()V"⟩, 17), (⟨"HalfAsked$Tape", "look", "()C"⟩, 3), (⟨"HalfAsked$Tape", "skipBlanks", "()V"⟩, 3), (⟨"HalfAsked$Tape", "readNumber", "()I"⟩, 3), (⟨"HalfAsked$Tape", "readAsking", "(LHalfAsked$Plan;I)Z"⟩, 3), (⟨"HalfAsked", "findTimes", "(I)V"⟩, 17), (⟨"HalfAsked$Timing", "choose", "(III)V"⟩, 5), (⟨"HalfAsked$Timing", "askAll", "(LHalfAsked$Folk;II)I"⟩, 5), (⟨"HalfAsked$Timing", "keepBetter", "(II)V"⟩, 5), (⟨"HalfAsked$Timing", "worthAsking", "(I)I"⟩, 5), (⟨"HalfAsked", "findTurns", "()V"⟩, 17), (⟨"HalfAsked$Turns", "settle", "(I)V"⟩, 3), (⟨"HalfAsked$Turns", "keep", "(II)V"⟩, 3), (⟨"HalfAsked$Orders", "extend", "(II)V"⟩, 8), (⟨"HalfAsked$Orders", "weigh", "(LHalfAsked$Folk;)V"⟩, 8), (⟨"HalfAsked", "shareOut", "(II)V"⟩, 17)]
theorem lw_r1 : ∀ q ∈ lw_privs_1, lw_okq q := List.forall_mem_cons.mpr ⟨lw_p0, List.forall_mem_cons.mpr ⟨lw_p1, List.forall_mem_cons.mpr ⟨lw_p2, List.forall_mem_cons.mpr ⟨lw_p3, List.forall_mem_cons.mpr ⟨lw_p4, List.forall_mem_cons.mpr ⟨lw_p5, List.forall_mem_cons.mpr ⟨lw_p6, List.forall_mem_cons.mpr ⟨lw_p7, List.forall_mem_cons.mpr ⟨lw_p8, List.forall_mem_cons.mpr ⟨lw_p9, List.forall_mem_cons.mpr ⟨lw_p10, List.forall_mem_cons.mpr ⟨lw_p11, List.forall_mem_cons.mpr ⟨lw_p12, List.forall_mem_cons.mpr ⟨lw_p13, List.forall_mem_cons.mpr ⟨lw_p14, List.forall_mem_cons.mpr ⟨lw_p15, fun _ h => absurd h List.not_mem_nil⟩⟩⟩⟩⟩⟩⟩⟩⟩⟩⟩⟩⟩⟩⟩⟩
theorem lw_p16 : lw_okq (⟨"HalfAsked", "penceWithout", "(II)I"⟩, 17) := ⟨⟨by decide +kernel, by decide +kernel⟩, List.mem_of_getElem? (i := 20) (by decide +kernel), List.mem_of_getElem? (i := 663) (by decide +kernel), List.mem_of_getElem? (i := 664) (by decide +kernel)⟩
theorem lw_p17 : lw_okq (⟨"HalfAsked$Saturdays", "trace", "(I)V"⟩, 6) := ⟨⟨by decide +kernel, by decide +kernel⟩, List.mem_of_getElem? (i := 212) (by decide +kernel), List.mem_of_getElem? (i := 704) (by decide +kernel), List.mem_of_getElem? (i := 705) (by decide +kernel)⟩
theorem lw_p18 : lw_okq (⟨"HalfAsked$Saturdays", "unlike", "(LHalfAsked$Folk;)I"⟩, 6) := ⟨⟨by decide +kernel, by decide +kernel⟩, List.mem_of_getElem? (i := 212) (by decide +kernel), List.mem_of_getElem? (i := 708) (by decide +kernel), List.mem_of_getElem? (i := 709) (by decide +kernel)⟩
theorem lw_p19 : lw_okq (⟨"HalfAsked$Saturdays", "keep", "()V"⟩, 6) := ⟨⟨by decide +kernel, by decide +kernel⟩, List.mem_of_getElem? (i := 212) (by decide +kernel), List.mem_of_getElem? (i := 712) (by decide +kernel), List.mem_of_getElem? (i := 713) (by decide +kernel)⟩
theorem lw_p20 : lw_okq (⟨"HalfAskedModel", "add", "(II)V"⟩, 31) := ⟨⟨by decide +kernel, by decide +kernel⟩, List.mem_of_getElem? (i := 761) (by decide +kernel), List.mem_of_getElem? (i := 870) (by decide +kernel), List.mem_of_getElem? (i := 871) (by decide +kernel)⟩
theorem lw_p21 : lw_okq (⟨"HalfAskedModel", "isOne", "(I)Z"⟩, 31) := ⟨⟨by decide +kernel, by decide +kernel⟩, List.mem_of_getElem? (i := 761) (by decide +kernel), List.mem_of_getElem? (i := 878) (by decide +kernel), List.mem_of_getElem? (i := 879) (by decide +kernel)⟩
theorem lw_p22 : lw_okq (⟨"HalfAskedModel", "gives", "(II)I"⟩, 31) := ⟨⟨by decide +kernel, by decide +kernel⟩, List.mem_of_getElem? (i := 761) (by decide +kernel), List.mem_of_getElem? (i := 887) (by decide +kernel), List.mem_of_getElem? (i := 888) (by decide +kernel)⟩
theorem lw_p23 : lw_okq (⟨"HalfAskedModel", "areTwo", "(II)Z"⟩, 31) := ⟨⟨by decide +kernel, by decide +kernel⟩, List.mem_of_getElem? (i := 761) (by decide +kernel), List.mem_of_getElem? (i := 895) (by decide +kernel), List.mem_of_getElem? (i := 896) (by decide +kernel)⟩
theorem lw_p24 : lw_okq (⟨"HalfAskedModel", "begin", "()V"⟩, 31) := ⟨⟨by decide +kernel, by decide +kernel⟩, List.mem_of_getElem? (i := 761) (by decide +kernel), List.mem_of_getElem? (i := 903) (by decide +kernel), List.mem_of_getElem? (i := 904) (by decide +kernel)⟩
theorem lw_p25 : lw_okq (⟨"HalfAskedModel", "tryAsk", "(II)I"⟩, 31) := ⟨⟨by decide +kernel, by decide +kernel⟩, List.mem_of_getElem? (i := 761) (by decide +kernel), List.mem_of_getElem? (i := 907) (by decide +kernel), List.mem_of_getElem? (i := 908) (by decide +kernel)⟩
theorem lw_p26 : lw_okq (⟨"HalfAskedModel", "keep", "()V"⟩, 31) := ⟨⟨by decide +kernel, by decide +kernel⟩, List.mem_of_getElem? (i := 761) (by decide +kernel), List.mem_of_getElem? (i := 914) (by decide +kernel), List.mem_of_getElem? (i := 915) (by decide +kernel)⟩
theorem lw_p27 : lw_okq (⟨"HalfAskedModel", "askings", "()I"⟩, 31) := ⟨⟨by decide +kernel, by decide +kernel⟩, List.mem_of_getElem? (i := 761) (by decide +kernel), List.mem_of_getElem? (i := 922) (by decide +kernel), List.mem_of_getElem? (i := 923) (by decide +kernel)⟩
theorem lw_p28 : lw_okq (⟨"HalfAskedModel", "newWeek", "()V"⟩, 31) := ⟨⟨by decide +kernel, by decide +kernel⟩, List.mem_of_getElem? (i := 761) (by decide +kernel), List.mem_of_getElem? (i := 929) (by decide +kernel), List.mem_of_getElem? (i := 930) (by decide +kernel)⟩
theorem lw_p29 : lw_okq (⟨"HalfAskedModel", "readPeople", "()Z"⟩, 31) := ⟨⟨by decide +kernel, by decide +kernel⟩, List.mem_of_getElem? (i := 761) (by decide +kernel), List.mem_of_getElem? (i := 949) (by decide +kernel), List.mem_of_getElem? (i := 950) (by decide +kernel)⟩
theorem lw_p30 : lw_okq (⟨"HalfAskedModel", "readOne", "(I)Z"⟩, 31) := ⟨⟨by decide +kernel, by decide +kernel⟩, List.mem_of_getElem? (i := 761) (by decide +kernel), List.mem_of_getElem? (i := 953) (by decide +kernel), List.mem_of_getElem? (i := 954) (by decide +kernel)⟩
theorem lw_p31 : lw_okq (⟨"HalfAskedModel", "nextByte", "()I"⟩, 31) := ⟨⟨by decide +kernel, by decide +kernel⟩, List.mem_of_getElem? (i := 761) (by decide +kernel), List.mem_of_getElem? (i := 957) (by decide +kernel), List.mem_of_getElem? (i := 958) (by decide +kernel)⟩
def lw_privs_2 : List (MethodName × Nat) := [(⟨"HalfAsked", "penceWithout", "(II)I"⟩, 17), (⟨"HalfAsked$Saturdays", "trace", "(I)V"⟩, 6), (⟨"HalfAsked$Saturdays", "unlike", "(LHalfAsked$Folk;)I"⟩, 6), (⟨"HalfAsked$Saturdays", "keep", "()V"⟩, 6), (⟨"HalfAskedModel", "add", "(II)V"⟩, 31), (⟨"HalfAskedModel", "isOne", "(I)Z"⟩, 31), (⟨"HalfAskedModel", "gives", "(II)I"⟩, 31), (⟨"HalfAskedModel", "areTwo", "(II)Z"⟩, 31), (⟨"HalfAskedModel", "begin", "()V"⟩, 31), (⟨"HalfAskedModel", "tryAsk", "(II)I"⟩, 31), (⟨"HalfAskedModel", "keep", "()V"⟩, 31), (⟨"HalfAskedModel", "askings", "()I"⟩, 31), (⟨"HalfAskedModel", "newWeek", "()V"⟩, 31), (⟨"HalfAskedModel", "readPeople", "()Z"⟩, 31), (⟨"HalfAskedModel", "readOne", "(I)Z"⟩, 31), (⟨"HalfAskedModel", "nextByte", "()I"⟩, 31)]
theorem lw_r2 : ∀ q ∈ lw_privs_2, lw_okq q := List.forall_mem_cons.mpr ⟨lw_p16, List.forall_mem_cons.mpr ⟨lw_p17, List.forall_mem_cons.mpr ⟨lw_p18, List.forall_mem_cons.mpr ⟨lw_p19, List.forall_mem_cons.mpr ⟨lw_p20, List.forall_mem_cons.mpr ⟨lw_p21, List.forall_mem_cons.mpr ⟨lw_p22, List.forall_mem_cons.mpr ⟨lw_p23, List.forall_mem_cons.mpr ⟨lw_p24, List.forall_mem_cons.mpr ⟨lw_p25, List.forall_mem_cons.mpr ⟨lw_p26, List.forall_mem_cons.mpr ⟨lw_p27, List.forall_mem_cons.mpr ⟨lw_p28, List.forall_mem_cons.mpr ⟨lw_p29, List.forall_mem_cons.mpr ⟨lw_p30, List.forall_mem_cons.mpr ⟨lw_p31, fun _ h => absurd h List.not_mem_nil⟩⟩⟩⟩⟩⟩⟩⟩⟩⟩⟩⟩⟩⟩⟩⟩
theorem lw_p32 : lw_okq (⟨"HalfAskedModel", "readNumber", "(I)I"⟩, 31) := ⟨⟨by decide +kernel, by decide +kernel⟩, List.mem_of_getElem? (i := 761) (by decide +kernel), List.mem_of_getElem? (i := 961) (by decide +kernel), List.mem_of_getElem? (i := 962) (by decide +kernel)⟩
theorem lw_p33 : lw_okq (⟨"HalfAskedModel", "readPlan", "()Z"⟩, 31) := ⟨⟨by decide +kernel, by decide +kernel⟩, List.mem_of_getElem? (i := 761) (by decide +kernel), List.mem_of_getElem? (i := 972) (by decide +kernel), List.mem_of_getElem? (i := 973) (by decide +kernel)⟩
theorem lw_p34 : lw_okq (⟨"HalfAskedModel", "readAsking", "(I)Z"⟩, 31) := ⟨⟨by decide +kernel, by decide +kernel⟩, List.mem_of_getElem? (i := 761) (by decide +kernel), List.mem_of_getElem? (i := 976) (by decide +kernel), List.mem_of_getElem? (i := 977) (by decide +kernel)⟩
theorem lw_p35 : lw_okq (⟨"HalfAskedModel", "findTimes", "(I)I"⟩, 31) := ⟨⟨by decide +kernel, by decide +kernel⟩, List.mem_of_getElem? (i := 761) (by decide +kernel), List.mem_of_getElem? (i := 988) (by decide +kernel), List.mem_of_getElem? (i := 989) (by decide +kernel)⟩
theorem lw_p36 : lw_okq (⟨"HalfAskedModel", "goWith", "(I)I"⟩, 31) := ⟨⟨by decide +kernel, by decide +kernel⟩, List.mem_of_getElem? (i := 761) (by decide +kernel), List.mem_of_getElem? (i := 992) (by decide +kernel), List.mem_of_getElem? (i := 993) (by decide +kernel)⟩
theorem lw_p37 : lw_okq (⟨"HalfAskedModel", "askAt", "(II)V"⟩, 31) := ⟨⟨by decide +kernel, by decide +kernel⟩, List.mem_of_getElem? (i := 761) (by decide +kernel), List.mem_of_getElem? (i := 996) (by decide +kernel), List.mem_of_getElem? (i := 997) (by decide +kernel)⟩
theorem lw_p38 : lw_okq (⟨"HalfAskedModel", "nextTimes", "(I)Z"⟩, 31) := ⟨⟨by decide +kernel, by decide +kernel⟩, List.mem_of_getElem? (i := 761) (by decide +kernel), List.mem_of_getElem? (i := 1000) (by decide +kernel), List.mem_of_getElem? (i := 1001) (by decide +kernel)⟩
theorem lw_p39 : lw_okq (⟨"HalfAskedModel", "findTurns", "()V"⟩, 31) := ⟨⟨by decide +kernel, by decide +kernel⟩, List.mem_of_getElem? (i := 761) (by decide +kernel), List.mem_of_getElem? (i := 1012) (by decide +kernel), List.mem_of_getElem? (i := 1013) (by decide +kernel)⟩
theorem lw_p40 : lw_okq (⟨"HalfAskedModel", "beginTurn", "(I)V"⟩, 31) := ⟨⟨by decide +kernel, by decide +kernel⟩, List.mem_of_getElem? (i := 761) (by decide +kernel), List.mem_of_getElem? (i := 1016) (by decide +kernel), List.mem_of_getElem? (i := 1017) (by decide +kernel)⟩
theorem lw_p41 : lw_okq (⟨"HalfAskedModel", "giveBack", "(I)V"⟩, 31) := ⟨⟨by decide +kernel, by decide +kernel⟩, List.mem_of_getElem? (i := 761) (by decide +kernel), List.mem_of_getElem? (i := 1020) (by decide +kernel), List.mem_of_getElem? (i := 1021) (by decide +kernel)⟩
theorem lw_p42 : lw_okq (⟨"HalfAskedModel", "goTurn", "(I)Z"⟩, 31) := ⟨⟨by decide +kernel, by decide +kernel⟩, List.mem_of_getElem? (i := 761) (by decide +kernel), List.mem_of_getElem? (i := 1024) (by decide +kernel), List.mem_of_getElem? (i := 1025) (by decide +kernel)⟩
theorem lw_p43 : lw_okq (⟨"HalfAskedModel", "firstOrder", "()V"⟩, 31) := ⟨⟨by decide +kernel, by decide +kernel⟩, List.mem_of_getElem? (i := 761) (by decide +kernel), List.mem_of_getElem? (i := 1038) (by decide +kernel), List.mem_of_getElem? (i := 1039) (by decide +kernel)⟩
theorem lw_p44 : lw_okq (⟨"HalfAskedModel", "goOrder", "()V"⟩, 31) := ⟨⟨by decide +kernel, by decide +kernel⟩, List.mem_of_getElem? (i := 761) (by decide +kernel), List.mem_of_getElem? (i := 1043) (by decide +kernel), List.mem_of_getElem? (i := 1044) (by decide +kernel)⟩
theorem lw_p45 : lw_okq (⟨"HalfAskedModel", "apart", "()I"⟩, 31) := ⟨⟨by decide +kernel, by decide +kernel⟩, List.mem_of_getElem? (i := 761) (by decide +kernel), List.mem_of_getElem? (i := 1047) (by decide +kernel), List.mem_of_getElem? (i := 1048) (by decide +kernel)⟩
theorem lw_p46 : lw_okq (⟨"HalfAskedModel", "nextOrder", "()Z"⟩, 31) := ⟨⟨by decide +kernel, by decide +kernel⟩, List.mem_of_getElem? (i := 761) (by decide +kernel), List.mem_of_getElem? (i := 1051) (by decide +kernel), List.mem_of_getElem? (i := 1052) (by decide +kernel)⟩
theorem lw_p47 : lw_okq (⟨"HalfAskedModel", "goWithout", "(II)I"⟩, 31) := ⟨⟨by decide +kernel, by decide +kernel⟩, List.mem_of_getElem? (i := 761) (by decide +kernel), List.mem_of_getElem? (i := 1069) (by decide +kernel), List.mem_of_getElem? (i := 1070) (by decide +kernel)⟩
def lw_privs_3 : List (MethodName × Nat) := [(⟨"HalfAskedModel", "readNumber", "(I)I"⟩, 31), (⟨"HalfAskedModel", "readPlan", "()Z"⟩, 31), (⟨"HalfAskedModel", "readAsking", "(I)Z"⟩, 31), (⟨"HalfAskedModel", "findTimes", "(I)I"⟩, 31), (⟨"HalfAskedModel", "goWith", "(I)I"⟩, 31), (⟨"HalfAskedModel", "askAt", "(II)V"⟩, 31), (⟨"HalfAskedModel", "nextTimes", "(I)Z"⟩, 31), (⟨"HalfAskedModel", "findTurns", "()V"⟩, 31), (⟨"HalfAskedModel", "beginTurn", "(I)V"⟩, 31), (⟨"HalfAskedModel", "giveBack", "(I)V"⟩, 31), (⟨"HalfAskedModel", "goTurn", "(I)Z"⟩, 31), (⟨"HalfAskedModel", "firstOrder", "()V"⟩, 31), (⟨"HalfAskedModel", "goOrder", "()V"⟩, 31), (⟨"HalfAskedModel", "apart", "()I"⟩, 31), (⟨"HalfAskedModel", "nextOrder", "()Z"⟩, 31), (⟨"HalfAskedModel", "goWithout", "(II)I"⟩, 31)]
theorem lw_r3 : ∀ q ∈ lw_privs_3, lw_okq q := List.forall_mem_cons.mpr ⟨lw_p32, List.forall_mem_cons.mpr ⟨lw_p33, List.forall_mem_cons.mpr ⟨lw_p34, List.forall_mem_cons.mpr ⟨lw_p35, List.forall_mem_cons.mpr ⟨lw_p36, List.forall_mem_cons.mpr ⟨lw_p37, List.forall_mem_cons.mpr ⟨lw_p38, List.forall_mem_cons.mpr ⟨lw_p39, List.forall_mem_cons.mpr ⟨lw_p40, List.forall_mem_cons.mpr ⟨lw_p41, List.forall_mem_cons.mpr ⟨lw_p42, List.forall_mem_cons.mpr ⟨lw_p43, List.forall_mem_cons.mpr ⟨lw_p44, List.forall_mem_cons.mpr ⟨lw_p45, List.forall_mem_cons.mpr ⟨lw_p46, List.forall_mem_cons.mpr ⟨lw_p47, fun _ h => absurd h List.not_mem_nil⟩⟩⟩⟩⟩⟩⟩⟩⟩⟩⟩⟩⟩⟩⟩⟩
theorem lw_p48 : lw_okq (⟨"HalfAskedModel", "carried", "(IIZ)I"⟩, 31) := ⟨⟨by decide +kernel, by decide +kernel⟩, List.mem_of_getElem? (i := 761) (by decide +kernel), List.mem_of_getElem? (i := 1077) (by decide +kernel), List.mem_of_getElem? (i := 1078) (by decide +kernel)⟩
theorem lw_p49 : lw_okq (⟨"HalfAskedModel", "lacksRow", "(IIII)I"⟩, 31) := ⟨⟨by decide +kernel, by decide +kernel⟩, List.mem_of_getElem? (i := 761) (by decide +kernel), List.mem_of_getElem? (i := 1100) (by decide +kernel), List.mem_of_getElem? (i := 1101) (by decide +kernel)⟩
theorem lw_p50 : lw_okq (⟨"HalfAskedModel", "leads", "(II)Z"⟩, 31) := ⟨⟨by decide +kernel, by decide +kernel⟩, List.mem_of_getElem? (i := 761) (by decide +kernel), List.mem_of_getElem? (i := 1119) (by decide +kernel), List.mem_of_getElem? (i := 1120) (by decide +kernel)⟩
theorem lw_p51 : lw_okq (⟨"HalfAskedModel", "nextRow", "(I)Z"⟩, 31) := ⟨⟨by decide +kernel, by decide +kernel⟩, List.mem_of_getElem? (i := 761) (by decide +kernel), List.mem_of_getElem? (i := 1123) (by decide +kernel), List.mem_of_getElem? (i := 1124) (by decide +kernel)⟩
def lw_privs_4 : List (MethodName × Nat) := [(⟨"HalfAskedModel", "carried", "(IIZ)I"⟩, 31), (⟨"HalfAskedModel", "lacksRow", "(IIII)I"⟩, 31), (⟨"HalfAskedModel", "leads", "(II)Z"⟩, 31), (⟨"HalfAskedModel", "nextRow", "(I)Z"⟩, 31)]
theorem lw_r4 : ∀ q ∈ lw_privs_4, lw_okq q := List.forall_mem_cons.mpr ⟨lw_p48, List.forall_mem_cons.mpr ⟨lw_p49, List.forall_mem_cons.mpr ⟨lw_p50, List.forall_mem_cons.mpr ⟨lw_p51, fun _ h => absurd h List.not_mem_nil⟩⟩⟩⟩
def lw_privs : List (MethodName × Nat) := lw_privs_1 ++ (lw_privs_2 ++ (lw_privs_3 ++ (lw_privs_4)))
def lw_tbl : List Cond := k2_sels lw_privs ++ tables_1
theorem lw_privs_ok : ∀ q ∈ lw_privs, lw_okq q := by
  show ∀ q ∈ lw_privs_1 ++ (lw_privs_2 ++ (lw_privs_3 ++ (lw_privs_4))), lw_okq q
  exact List.forall_mem_append.mpr ⟨lw_r1, List.forall_mem_append.mpr ⟨lw_r2, List.forall_mem_append.mpr ⟨lw_r3, lw_r4⟩⟩⟩
end
section
def va_AOA (t : FieldType) (U : State) : Prop := (Cond.arrayOver (.array t)).before #[] U = true
theorem va_AOA.of {t : FieldType} {A : Array Value} {U : State} (h : (Cond.arrayOver (.array t)).before A U = true) : va_AOA t U := h
theorem va_AOA.use {t : FieldType} {A : Array Value} {U : State} (h : va_AOA t U) : (Cond.arrayOver (.array t)).before A U = true := h
/-! ===== BEGIN words of one list among another's, by their places ===== -/
theorem goodIn_r {big : List Cond} (ws : List Cond) (ps : List Nat) (hp : ws = ps.filterMap (fun i => big[i]?)) (h : ws.all goodWord = true) : GoodIn big ws := by
  intro w hw
  have h1 := List.all_eq_true.mp h w hw
  rw [hp] at hw
  obtain ⟨i, -, hi⟩ := List.mem_filterMap.mp hw
  have hm : w ∈ big := by first | exact List.mem_of_getElem? hi | exact List.getElem?_mem hi
  exact ⟨hm, good_of_word h1⟩
theorem goodIn_app {big a b : List Cond} (ha : GoodIn big a) (hb : GoodIn big b) : GoodIn big (a ++ b) := fun w h => (List.mem_append.mp h).elim (ha w) (hb w)
theorem goodIn_ca {big a b : List Cond} {c : Cond} (ha : GoodIn big (c :: a)) (hb : GoodIn big b) : GoodIn big (c :: (a ++ b)) := fun w h => (List.mem_cons.mp h).elim (fun e => ha w (List.mem_cons.mpr (Or.inl e))) (fun h => (List.mem_append.mp h).elim (fun h => ha w (List.mem_cons.mpr (Or.inr h))) (hb w))
theorem goodIn_sub {big ws : List Cond} (hm : ∀ w ∈ ws, w ∈ big) (h : ws.all goodWord = true) : GoodIn big ws := fun w hw => ⟨hm w hw, good_of_word (List.all_eq_true.mp h w hw)⟩
/-! ===== END ===== -/

/-! ===== BEGIN new T[n][m]: the outer array a place, the inner ones among the pooled ===== -/
/-- f, but v at every address of l -/
def vr_up {α : Type} (f : Nat → α) (l : List Nat) (v : α) : Nat → α := fun a => if a ∈ l then v else f a
theorem vr_up_in {α : Type} {f : Nat → α} {l : List Nat} {v : α} {a : Nat} (h : a ∈ l) : vr_up f l v a = v := if_pos h
theorem vr_up_ne {α : Type} {f : Nat → α} {l : List Nat} {v : α} {a : Nat} (h : a ∉ l) : vr_up f l v a = f a := if_neg h
theorem vr_rows {L l : List Nat} {f : Nat → va_E} {e : va_E} (h : ∀ a, a ∈ l → a ∉ L) : va_pl L f ++ l.map (fun a => (a, e)) = va_pl (L ++ l) (vr_up f l e) := by
  unfold va_pl
  rw [List.map_append]
  congr 1
  · apply List.map_congr_left
    intro a ha
    rw [vr_up_ne (fun q => h a q ha)]
  · apply List.map_congr_left
    intro a ha
    rw [vr_up_in ha]
theorem vr_lay {X rows : va_W} {x : Nat × va_E} {pl : va_W} {D : va_G} {cl : List vw_C} {H : Heap} (hP : va_P D cl (((X ++ pl) ++ [x]) ++ rows) H) : va_P D cl ((X ++ [x]) ++ (pl ++ rows)) H := by
  rw [List.append_assoc (X ++ pl)] at hP
  have h := va_P.swap hP
  rw [← List.append_assoc X] at h
  have h2 := va_P.swap h
  rw [List.append_assoc (X ++ [x])] at h2
  exact h2
theorem vr_layD {X rows : va_W} {x : Nat × va_E} {pl : va_W} {A : Nat → Prop} (hD : va_D A (((X ++ pl) ++ [x]) ++ rows)) : va_D A ((X ++ [x]) ++ (pl ++ rows)) := by
  rw [List.append_assoc (X ++ pl)] at hD
  have h := va_D.swap hD
  rw [← List.append_assoc X] at h
  have h2 := va_D.swap h
  rw [List.append_assoc (X ++ [x])] at h2
  exact h2
theorem vr_outer (c : ClassId) (N h0 : Nat) : ∀ i : Nat, Jvm.Free.Multi.outerC c N h0 i = arrV c N (fun j => va_rf (if j < i then some (h0 + 1 + j) else none))
  | 0 => by
    show ({ cls := c, slots := Array.replicate N .null, vm := .none } : Cell) = _
    rw [arrV_new]
    refine congrArg (arrV c N) (funext fun j => ?_)
    simp [va_rf]
  | i + 1 => by
    show (Jvm.Free.Multi.outerC c N h0 i).setSlot i (.ref (h0 + 1 + i)) = _
    rw [vr_outer c N h0 i, arrV_store]
    refine congrArg (arrV c N) (funext fun j => ?_)
    by_cases e : j = i
    · subst e
      simp [updV, va_rf]
    · by_cases h : j < i
      · simp [updV, e, h, Nat.lt_succ_of_lt h]
      · simp [updV, e, h, show ¬ j < i + 1 by omega]
section VGM
variable {p : Program} {l : Launch} {e : Env} {R : Room} {s : State} {m : MethodId} {args : Array Value} {below : List Frame} {meth : Method} {c : Code} {H : Heap} {locs : List Loc} {cells slots : Nat} {Q : State → Prop}
variable {cc : ByteArray} {pc : Nat} {ls : Array Slot} {rest : List Value} {D : va_G} {cl : List vw_C} {A : Nat → Prop} {a : Nat} {tys : List (ClassId × FieldType)} {ws : va_W} {H0 : Heap}
theorem va_mna {X : va_W} {L : List Nat} {f : Nat → va_E} {cc : ByteArray} (hexec : p.tables.exec = Jvm.exec) (hb : c.code = cc) {own : String} {index : Nat} {ty : FieldType} {cy : ClassId} (hown : s.vm.findClass own = some m.cls) (hclink : (Cond.classLink own index ("[" ++ (FieldType.array ty).toString)).before args s = true) (hover : va_AOA ty s) (harr : (Cond.arrayClass ty).before args s = true) (hcy : s.vm.findClass (FieldType.array ty).toString = some cy)
    (hK : va_K D cl tys s) (hP : va_P D cl (X ++ va_pl L f) H) (hD : va_D A (X ++ va_pl L f)) (hS : va_S A H0 H locs) (hA : ∀ q, H0.size ≤ q → A q) {n k : Int32} {N' K' : Nat} {z : vp_A} (hn : ¬ n < 0) (hk : ¬ k < 0) (hN : n.toNatClampNeg = N') (hM : k.toNatClampNeg = K')
    (hb1 : N' * 4 ≤ 536870912) (hb2 : K' * componentBytes ty ≤ 536870912) (hb3 : K' ≤ 536870912) (hdf : fits ty (defaultValue ty) = true) (hdd : (defaultValue ty).isDefault = true) (hcells : cells + (1 + N') ≤ R.cells) (hslots : slots + (N' + N' * K') ≤ R.slots) (hz : ∀ c : ClassId, Jvm.Free.Multi.innerC c K' (defaultValue ty) = vp_cell c z) (hdg : decode cc pc = .ok (.multianewarray index 2, 4))
    (kk : ∀ (q : Nat) (r : Nat → Nat) (cA : ClassId) (H1 : Heap), (∀ i j : Nat, i < N' → j < N' → r i = r j → i = j) → (∀ i : Nat, i < N' → r i ∉ L) → va_K D cl (tys ++ [(cA, .array ty)]) s →
      va_P D cl ((X ++ [(q, .inl (cA, N', .inr (.inr (.inr (.inr (fun i => if i < N' then some (r i) else none))))))]) ++ va_pl (L ++ (List.range N').map r) (vr_up f ((List.range N').map r) (.inl (cy, z)))) H1 → va_D A ((X ++ [(q, .inl (cA, N', .inr (.inr (.inr (.inr (fun i => if i < N' then some (r i) else none))))))]) ++ va_pl (L ++ (List.range N').map r) (vr_up f ((List.range N').map r) (.inl (cy, z)))) → va_S A H0 H1 locs →
      W p l e R s m args below meth c H1 locs (cells + 1 + N') (slots + N' + N' * K') Q (F0 m (pc + 4) ls (.ref q :: rest))) : W p l e R s m args below meth c H locs cells slots Q (F0 m pc ls (.int k :: .int n :: rest)) := by
  subst hN
  subst hM
  intro T hT Xs
  obtain ⟨vm₁, cA, comp, -, fA, fC, hO, -, X', step⟩ := Xs.multianewarray2F hexec hown hclink (va_AOA.use hover) harr (g := F0 m pc ls (.int k :: .int n :: rest)) rfl (by rw [hb]; exact hdg) rfl hn hk hb1 hb2 hb3 hdf hdd hcells hslots
  have ec : some cy = some comp := hcy.symm.trans fC
  cases ec
  generalize hF : Jvm.Free.Multi.fill (T.setVm vm₁) cA cy n.toNatClampNeg k.toNatClampNeg (defaultValue ty) n.toNatClampNeg = F at X' step
  have hTh : (T.setVm vm₁).heap = H := hT
  obtain ⟨f1, f2, -, -⟩ := Jvm.Free.Multi.fill_facts (T.setVm vm₁) cA cy n.toNatClampNeg k.toNatClampNeg (defaultValue ty) n.toNatClampNeg
  rw [hF, hTh] at f1 f2
  have hold : ∀ x : Nat, x < H.size → F.heap[x]? = H[x]? := fun x hx => by
    have := Jvm.Free.Multi.fill_old (T.setVm vm₁) cA cy n.toNatClampNeg k.toNatClampNeg (defaultValue ty) (a := x) (by rw [hTh]; exact hx) n.toNatClampNeg
    rw [hF, hTh] at this
    exact this
  have hrow : ∀ j : Nat, j < n.toNatClampNeg → F.heap[H.size + 1 + j]? = some (vp_cell cy z) := fun j hj => by
    have := Jvm.Free.Multi.fill_inner (T.setVm vm₁) cA cy n.toNatClampNeg k.toNatClampNeg (defaultValue ty) n.toNatClampNeg j hj
    rw [hF, hTh, hz] at this
    exact this
  have hout : Jvm.Free.Multi.outerC cA n.toNatClampNeg H.size n.toNatClampNeg = vp_cell cA (n.toNatClampNeg, .inr (.inr (.inr (.inr (fun i => if i < n.toNatClampNeg then some (H.size + 1 + i) else none))))) := by
    rw [vp_cell_q]
    exact vr_outer cA n.toNatClampNeg H.size n.toNatClampNeg
  rw [hout] at f2
  have hlt : ∀ a, a ∈ L → a < H.size := fun a ha => by
    obtain ⟨k9, hk9⟩ := va_pl_get (X := X) (f := f) ha
    exact (hP k9 _ hk9).lt
  have hnl : ∀ i : Nat, i < n.toNatClampNeg → H.size + 1 + i ∉ L := fun i _ h => by
    have := hlt _ h
    omega
  have hnm : ∀ a, a ∈ (List.range n.toNatClampNeg).map (fun i => H.size + 1 + i) → a ∉ L := fun a ha h => by
    obtain ⟨i, -, rfl⟩ := List.mem_map.mp ha
    have := hlt _ h
    omega
  have hP0 : va_P D cl (X ++ va_pl L f) F.heap := hP.kept (fun k9 x hx => hold x.1 ((hP k9 x hx).lt))
  have hP1 : va_P D cl ((X ++ va_pl L f) ++ [(H.size, .inl (cA, n.toNatClampNeg, .inr (.inr (.inr (.inr (fun i => if i < n.toNatClampNeg then some (H.size + 1 + i) else none))))))]) F.heap := hP0.app (fun k9 x hx => by
    have h0 : k9 < 1 := (List.getElem?_eq_some_iff.mp hx).1
    rw [show k9 = 0 by omega] at hx
    cases hx
    exact f2)
  have hP2 : va_P D cl (((X ++ va_pl L f) ++ [(H.size, .inl (cA, n.toNatClampNeg, .inr (.inr (.inr (.inr (fun i => if i < n.toNatClampNeg then some (H.size + 1 + i) else none))))))]) ++ ((List.range n.toNatClampNeg).map (fun i => H.size + 1 + i)).map (fun a => (a, .inl (cy, z)))) F.heap := hP1.app (fun k9 x hx => by
    obtain ⟨a, ha, rfl⟩ := List.mem_map.mp (List.mem_of_getElem? hx)
    obtain ⟨i, hi, rfl⟩ := List.mem_map.mp ha
    exact hrow i (List.mem_range.mp hi))
  have hD2 : va_D A (((X ++ va_pl L f) ++ [(H.size, .inl (cA, n.toNatClampNeg, .inr (.inr (.inr (.inr (fun i => if i < n.toNatClampNeg then some (H.size + 1 + i) else none))))))]) ++ ((List.range n.toNatClampNeg).map (fun i => H.size + 1 + i)).map (fun a => (a, .inl (cy, z)))) := by
    have hD1 := hD.push (e := .inl (cA, n.toNatClampNeg, .inr (.inr (.inr (.inr (fun i => if i < n.toNatClampNeg then some (H.size + 1 + i) else none)))))) hP rfl (hA _ hS.1)
    generalize hW1 : (X ++ va_pl L f) ++ [(H.size, .inl (cA, n.toNatClampNeg, .inr (.inr (.inr (.inr (fun i => if i < n.toNatClampNeg then some (H.size + 1 + i) else none))))))] = W1 at hD1 hP1 ⊢
    have hle : ∀ (k9 : Nat) (x : Nat × va_E), W1[k9]? = some x → x.1 ≤ H.size := fun k9 x hx => by
      rw [← hW1] at hx
      by_cases hl : k9 < (X ++ va_pl L f).length
      · rw [List.getElem?_append_left hl] at hx
        exact Nat.le_of_lt ((hP k9 x hx).lt)
      · rw [List.getElem?_append_right (by omega)] at hx
        have h0 : k9 - (X ++ va_pl L f).length < 1 := (List.getElem?_eq_some_iff.mp hx).1
        rw [show k9 - (X ++ va_pl L f).length = 0 by omega] at hx
        cases hx
        exact Nat.le_refl _
    have hr : ∀ (k9 : Nat) (x : Nat × va_E), (((List.range n.toNatClampNeg).map (fun i => H.size + 1 + i)).map (fun a => ((a, .inl (cy, z)) : Nat × va_E)))[k9]? = some x → x.1 = H.size + 1 + k9 := fun k9 x hx => by
      rw [List.getElem?_map, List.getElem?_map] at hx
      by_cases h9 : k9 < n.toNatClampNeg
      · rw [List.getElem?_range h9] at hx
        cases hx
        rfl
      · have hn0 : (List.range n.toNatClampNeg)[k9]? = none := List.getElem?_eq_none (by rw [List.length_range]; omega)
        rw [hn0] at hx
        cases hx
    refine ⟨fun i j x y hi hj hxy => ?_, fun k9 x hx => ?_⟩
    · by_cases h1 : i < W1.length <;> by_cases h2 : j < W1.length
      · rw [List.getElem?_append_left h1] at hi
        rw [List.getElem?_append_left h2] at hj
        exact hD1.1 i j x y hi hj hxy
      · rw [List.getElem?_append_left h1] at hi
        rw [List.getElem?_append_right (by omega)] at hj
        have := hle _ _ hi
        have := hr _ _ hj
        omega
      · rw [List.getElem?_append_right (by omega)] at hi
        rw [List.getElem?_append_left h2] at hj
        have := hle _ _ hj
        have := hr _ _ hi
        omega
      · rw [List.getElem?_append_right (by omega)] at hi hj
        have := hr _ _ hi
        have := hr _ _ hj
        omega
    · by_cases h1 : k9 < W1.length
      · rw [List.getElem?_append_left h1] at hx
        exact hD1.2 k9 x hx
      · rw [List.getElem?_append_right (by omega)] at hx
        have := hr _ _ hx
        exact hA _ (by have := hS.1; omega)
  have hAr : ArrOfT s cA (.array ty) := fun N9 z9 => by
    obtain ⟨-, k9, hk9, cm9, hkk9⟩ := (hO 0 0 0).1
    exact ⟨(fun q hq => by cases hq), k9, hk9, cm9, hkk9⟩
  have hK2 : va_K D cl (tys ++ [(cA, .array ty)]) s := ⟨hK.1, fun k9 x hx => by
    by_cases hl : k9 < tys.length
    · rw [List.getElem?_append_left hl] at hx
      exact hK.2 k9 x hx
    · rw [List.getElem?_append_right (by omega)] at hx
      have h0 : k9 - tys.length < 1 := (List.getElem?_eq_some_iff.mp hx).1
      rw [show k9 - tys.length = 0 by omega] at hx
      cases hx
      exact ⟨hAr, fA⟩⟩
  obtain ⟨t, a1, b1⟩ := kk H.size (fun i => H.size + 1 + i) cA F.heap (fun i j _ _ h => by have h9 : H.size + 1 + i = H.size + 1 + j := h; omega) hnl hK2 (by rw [← vr_rows hnm]; exact vr_lay hP2) (by rw [← vr_rows hnm]; exact vr_layD hD2) ⟨by rw [f1]; have := hS.1; omega, fun x h1 h2 => (hold x (Nat.lt_of_lt_of_le h1 hS.1)).trans (hS.2.1 x h1 h2), hS.2.2⟩ F rfl X'
  refine ⟨t, step t ?_, b1⟩
  have e : T.heap.size = H.size := by rw [hT]
  rw [e]
  exact a1
end VGM
/-! ===== END ===== -/

/-! ===== BEGIN printed: names, fields, word lists, decode rows ===== -/
end
section
def RX0 : String := "HalfAsked$Folk"
def TX0 : u_T := fun k => match k with
  | 0 => ("HalfAsked$Folk", "size", "I", false)
  | 1 => ("HalfAsked$Folk", "known", "I", false)
  | 2 => ("HalfAsked$Folk", "asked", "I", false)
  | 3 => ("HalfAsked$Folk", "kind", "[I", true)
  | _ => ("HalfAsked$Folk", "pence", "[I", true)
def tyX0 : Nat → FieldType := fun k => match k with
  | 0 => .int
  | 1 => .int
  | 2 => .int
  | 3 => .array .int
  | _ => .array .int
abbrev wsX00 : List Cond := u_ws RX0 TX0 5
theorem nmX0 : ∀ a, a < 5 → ∀ b, b < 5 → a ≠ b → (TX0 a).2.1 ≠ (TX0 b).2.1 := by decide +kernel
theorem tyX0_ok : ∀ k, k < 5 → parseFieldDescriptor (TX0 k).2.2.1 = some (tyX0 k) := by decide +kernel
abbrev cX0_init : ByteArray := prog_2_method_1_code
def yX0_init : MethodName := ⟨RX0, "<init>", "()V"⟩
abbrev cX0_newRow : ByteArray := prog_2_method_2_code
def yX0_newRow : MethodName := ⟨RX0, "newRow", "(I)[LHalfAsked$Folk;"⟩
abbrev cX0_pair : ByteArray := prog_2_method_3_code
def yX0_pair : MethodName := ⟨RX0, "pair", "(II)I"⟩
abbrev cX0_clear : ByteArray := prog_2_method_4_code
def yX0_clear : MethodName := ⟨RX0, "clear", "()V"⟩
abbrev cX0_takeFrom : ByteArray := prog_2_method_5_code
def yX0_takeFrom : MethodName := ⟨RX0, "takeFrom", "(LHalfAsked$Folk;)V"⟩
abbrev cX0_add : ByteArray := prog_2_method_6_code
def yX0_add : MethodName := ⟨RX0, "add", "(II)V"⟩
abbrev cX0_has : ByteArray := prog_2_method_7_code
def yX0_has : MethodName := ⟨RX0, "has", "(I)Z"⟩
abbrev cX0_isPair : ByteArray := prog_2_method_8_code
def yX0_isPair : MethodName := ⟨RX0, "isPair", "(II)Z"⟩
abbrev cX0_others : ByteArray := prog_2_method_9_code
def yX0_others : MethodName := ⟨RX0, "others", "(II)I"⟩
abbrev cX0_askings : ByteArray := prog_2_method_10_code
def yX0_askings : MethodName := ⟨RX0, "askings", "()I"⟩
abbrev cX0_penceOfAll : ByteArray := prog_2_method_11_code
def yX0_penceOfAll : MethodName := ⟨RX0, "penceOfAll", "()I"⟩
abbrev cX0_gives : ByteArray := prog_2_method_12_code
def yX0_gives : MethodName := ⟨RX0, "gives", "(I)I"⟩
abbrev cX0_tryAsking : ByteArray := prog_2_method_13_code
def yX0_tryAsking : MethodName := ⟨RX0, "tryAsking", "(II)I"⟩
def RX1 : String := "HalfAsked$Orders"
def TX1 : u_T := fun k => match k with
  | 0 => ("HalfAsked$Orders", "leastSpan", "I", false)
  | 1 => ("HalfAsked$Orders", "fitting", "I", false)
  | 2 => ("HalfAsked$Orders", "first", "[I", true)
  | 3 => ("HalfAsked$Orders", "row", "[I", true)
  | 4 => ("HalfAsked$Orders", "wanted", "I", false)
  | 5 => ("HalfAsked$Orders", "wantedPence", "I", false)
  | 6 => ("HalfAsked$Orders", "plan", "LHalfAsked$Plan;", true)
  | _ => ("HalfAsked$Orders", "states", "[LHalfAsked$Folk;", true)
def tyX1 : Nat → FieldType := fun k => match k with
  | 0 => .int
  | 1 => .int
  | 2 => .array .int
  | 3 => .array .int
  | 4 => .int
  | 5 => .int
  | 6 => .object "HalfAsked$Plan"
  | _ => .array (.object "HalfAsked$Folk")
abbrev wsX10 : List Cond := u_ws RX1 TX1 8
theorem nmX1 : ∀ a, a < 8 → ∀ b, b < 8 → a ≠ b → (TX1 a).2.1 ≠ (TX1 b).2.1 := by decide +kernel
theorem tyX1_ok : ∀ k, k < 8 → parseFieldDescriptor (TX1 k).2.2.1 = some (tyX1 k) := by decide +kernel
abbrev cX1_init : ByteArray := prog_3_method_1_code
def yX1_init : MethodName := ⟨RX1, "<init>", "()V"⟩
abbrev cX1_search : ByteArray := prog_3_method_2_code
def yX1_search : MethodName := ⟨RX1, "search", "(LHalfAsked$Folk;LHalfAsked$Plan;II)V"⟩
abbrev cX1_extend : ByteArray := prog_3_method_3_code
def yX1_extend : MethodName := ⟨RX1, "extend", "(II)V"⟩
abbrev cX1_weigh : ByteArray := prog_3_method_4_code
def yX1_weigh : MethodName := ⟨RX1, "weigh", "(LHalfAsked$Folk;)V"⟩
def RX2 : String := "HalfAsked$Plan"
def TX2 : u_T := fun k => match k with
  | 0 => ("HalfAsked$Plan", "size", "I", false)
  | 1 => ("HalfAsked$Plan", "ends", "I", false)
  | 2 => ("HalfAsked$Plan", "by", "[I", true)
  | _ => ("HalfAsked$Plan", "of", "[I", true)
def tyX2 : Nat → FieldType := fun k => match k with
  | 0 => .int
  | 1 => .int
  | 2 => .array .int
  | _ => .array .int
abbrev wsX20 : List Cond := u_ws RX2 TX2 4
theorem nmX2 : ∀ a, a < 4 → ∀ b, b < 4 → a ≠ b → (TX2 a).2.1 ≠ (TX2 b).2.1 := by decide +kernel
theorem tyX2_ok : ∀ k, k < 4 → parseFieldDescriptor (TX2 k).2.2.1 = some (tyX2 k) := by decide +kernel
abbrev cX2_init : ByteArray := prog_4_method_1_code
def yX2_init : MethodName := ⟨RX2, "<init>", "()V"⟩
abbrev cX2_clear : ByteArray := prog_4_method_2_code
def yX2_clear : MethodName := ⟨RX2, "clear", "()V"⟩
abbrev cX2_takeFrom : ByteArray := prog_4_method_3_code
def yX2_takeFrom : MethodName := ⟨RX2, "takeFrom", "(LHalfAsked$Plan;)V"⟩
abbrev cX2_add : ByteArray := prog_4_method_4_code
def yX2_add : MethodName := ⟨RX2, "add", "(II)V"⟩
abbrev cX2_goOn : ByteArray := prog_4_method_5_code
def yX2_goOn : MethodName := ⟨RX2, "goOn", "(LHalfAsked$Folk;I)V"⟩
abbrev cX2_endsWeek : ByteArray := prog_4_method_6_code
def yX2_endsWeek : MethodName := ⟨RX2, "endsWeek", "(I)Z"⟩
abbrev cX2_endWeekIfDue : ByteArray := prog_4_method_7_code
def yX2_endWeekIfDue : MethodName := ⟨RX2, "endWeekIfDue", "(LHalfAsked$Folk;I)V"⟩
def RX3 : String := "HalfAsked$Saturdays"
def TX3 : u_T := fun k => match k with
  | 0 => ("HalfAsked$Saturdays", "rows", "I", false)
  | 1 => ("HalfAsked$Saturdays", "first", "[I", true)
  | 2 => ("HalfAsked$Saturdays", "row", "[I", true)
  | 3 => ("HalfAsked$Saturdays", "goal", "[I", true)
  | 4 => ("HalfAsked$Saturdays", "length", "I", false)
  | _ => ("HalfAsked$Saturdays", "states", "[LHalfAsked$Folk;", true)
def tyX3 : Nat → FieldType := fun k => match k with
  | 0 => .int
  | 1 => .array .int
  | 2 => .array .int
  | 3 => .array .int
  | 4 => .int
  | _ => .array (.object "HalfAsked$Folk")
abbrev wsX30 : List Cond := u_ws RX3 TX3 6
theorem nmX3 : ∀ a, a < 6 → ∀ b, b < 6 → a ≠ b → (TX3 a).2.1 ≠ (TX3 b).2.1 := by decide +kernel
theorem tyX3_ok : ∀ k, k < 6 → parseFieldDescriptor (TX3 k).2.2.1 = some (tyX3 k) := by decide +kernel
abbrev cX3_init : ByteArray := prog_5_method_1_code
def yX3_init : MethodName := ⟨RX3, "<init>", "()V"⟩
abbrev cX3_search : ByteArray := prog_5_method_2_code
def yX3_search : MethodName := ⟨RX3, "search", "(LHalfAsked$Folk;LHalfAsked$Sheet;II)V"⟩
abbrev cX3_trace : ByteArray := prog_5_method_3_code
def yX3_trace : MethodName := ⟨RX3, "trace", "(I)V"⟩
abbrev cX3_unlike : ByteArray := prog_5_method_4_code
def yX3_unlike : MethodName := ⟨RX3, "unlike", "(LHalfAsked$Folk;)I"⟩
abbrev cX3_keep : ByteArray := prog_5_method_5_code
def yX3_keep : MethodName := ⟨RX3, "keep", "()V"⟩
def RX4 : String := "HalfAsked$Sheet"
def TX4 : u_T := fun k => match k with
  | 0 => ("HalfAsked$Sheet", "lane", "I", true)
  | _ => ("HalfAsked$Sheet", "items", "[J", true)
def tyX4 : Nat → FieldType := fun k => match k with
  | 0 => .int
  | _ => .array .long
abbrev wsX40 : List Cond := u_ws RX4 TX4 2
theorem nmX4 : ∀ a, a < 2 → ∀ b, b < 2 → a ≠ b → (TX4 a).2.1 ≠ (TX4 b).2.1 := by decide +kernel
theorem tyX4_ok : ∀ k, k < 2 → parseFieldDescriptor (TX4 k).2.2.1 = some (tyX4 k) := by decide +kernel
abbrev cX4_init : ByteArray := prog_6_method_1_code
def yX4_init : MethodName := ⟨RX4, "<init>", "(II)V"⟩
abbrev cX4_reaches : ByteArray := prog_6_method_2_code
def yX4_reaches : MethodName := ⟨RX4, "reaches", "(II)Z"⟩
abbrev cX4_lookAt : ByteArray := prog_6_method_3_code
def yX4_lookAt : MethodName := ⟨RX4, "lookAt", "(III)I"⟩
abbrev cX4_put : ByteArray := prog_6_method_4_code
def yX4_put : MethodName := ⟨RX4, "put", "(IJ)V"⟩
abbrev cX4_areTold : ByteArray := prog_6_method_5_code
def yX4_areTold : MethodName := ⟨RX4, "areTold", "(II)Z"⟩
def RX5 : String := "HalfAsked$Tape"
def TX5 : u_T := fun k => match k with
  | 0 => ("HalfAsked$Tape", "size", "I", false)
  | 1 => ("HalfAsked$Tape", "at", "I", false)
  | _ => ("HalfAsked$Tape", "signs", "[C", true)
def tyX5 : Nat → FieldType := fun k => match k with
  | 0 => .int
  | 1 => .int
  | _ => .array .char
abbrev wsX50 : List Cond := u_ws RX5 TX5 3
theorem nmX5 : ∀ a, a < 3 → ∀ b, b < 3 → a ≠ b → (TX5 a).2.1 ≠ (TX5 b).2.1 := by decide +kernel
theorem tyX5_ok : ∀ k, k < 3 → parseFieldDescriptor (TX5 k).2.2.1 = some (tyX5 k) := by decide +kernel
abbrev cX5_init : ByteArray := prog_7_method_1_code
def yX5_init : MethodName := ⟨RX5, "<init>", "()V"⟩
abbrev cX5_areSigns : ByteArray := prog_7_method_2_code
def yX5_areSigns : MethodName := ⟨RX5, "areSigns", "(JI)Z"⟩
abbrev cX5_add : ByteArray := prog_7_method_3_code
def yX5_add : MethodName := ⟨RX5, "add", "(JI)V"⟩
abbrev cX5_readFolk : ByteArray := prog_7_method_4_code
def yX5_readFolk : MethodName := ⟨RX5, "readFolk", "(LHalfAsked$Folk;)I"⟩
abbrev cX5_readPlan : ByteArray := prog_7_method_5_code
def yX5_readPlan : MethodName := ⟨RX5, "readPlan", "(LHalfAsked$Plan;I)I"⟩
abbrev cX5_readAsking : ByteArray := prog_7_method_6_code
def yX5_readAsking : MethodName := ⟨RX5, "readAsking", "(LHalfAsked$Plan;I)Z"⟩
abbrev cX5_readNumber : ByteArray := prog_7_method_7_code
def yX5_readNumber : MethodName := ⟨RX5, "readNumber", "()I"⟩
abbrev cX5_look : ByteArray := prog_7_method_8_code
def yX5_look : MethodName := ⟨RX5, "look", "()C"⟩
abbrev cX5_skipBlanks : ByteArray := prog_7_method_9_code
def yX5_skipBlanks : MethodName := ⟨RX5, "skipBlanks", "()V"⟩
abbrev cX5_fault : ByteArray := prog_7_method_10_code
def yX5_fault : MethodName := ⟨RX5, "fault", "(I)I"⟩
def RX6 : String := "HalfAsked$Timing"
def TX6 : u_T := fun k => match k with
  | 0 => ("HalfAsked$Timing", "most", "I", false)
  | 1 => ("HalfAsked$Timing", "way", "I", false)
  | 2 => ("HalfAsked$Timing", "asker", "I", false)
  | 3 => ("HalfAsked$Timing", "plan", "LHalfAsked$Plan;", true)
  | _ => ("HalfAsked$Timing", "states", "[LHalfAsked$Folk;", true)
def tyX6 : Nat → FieldType := fun k => match k with
  | 0 => .int
  | 1 => .int
  | 2 => .int
  | 3 => .object "HalfAsked$Plan"
  | _ => .array (.object "HalfAsked$Folk")
abbrev wsX60 : List Cond := u_ws RX6 TX6 5
theorem nmX6 : ∀ a, a < 5 → ∀ b, b < 5 → a ≠ b → (TX6 a).2.1 ≠ (TX6 b).2.1 := by decide +kernel
theorem tyX6_ok : ∀ k, k < 5 → parseFieldDescriptor (TX6 k).2.2.1 = some (tyX6 k) := by decide +kernel
abbrev cX6_init : ByteArray := prog_8_method_1_code
def yX6_init : MethodName := ⟨RX6, "<init>", "()V"⟩
abbrev cX6_search : ByteArray := prog_8_method_2_code
def yX6_search : MethodName := ⟨RX6, "search", "(LHalfAsked$Folk;LHalfAsked$Plan;I)V"⟩
abbrev cX6_timeFor : ByteArray := prog_8_method_3_code
def yX6_timeFor : MethodName := ⟨RX6, "timeFor", "(I)I"⟩
abbrev cX6_choose : ByteArray := prog_8_method_4_code
def yX6_choose : MethodName := ⟨RX6, "choose", "(III)V"⟩
abbrev cX6_worthAsking : ByteArray := prog_8_method_5_code
def yX6_worthAsking : MethodName := ⟨RX6, "worthAsking", "(I)I"⟩
abbrev cX6_askAll : ByteArray := prog_8_method_6_code
def yX6_askAll : MethodName := ⟨RX6, "askAll", "(LHalfAsked$Folk;II)I"⟩
abbrev cX6_keepBetter : ByteArray := prog_8_method_7_code
def yX6_keepBetter : MethodName := ⟨RX6, "keepBetter", "(II)V"⟩
def RX7 : String := "HalfAsked$Turns"
def TX7 : u_T := fun k => match k with
  | 0 => ("HalfAsked$Turns", "picked", "[[I", true)
  | 1 => ("HalfAsked$Turns", "ended", "[[I", true)
  | _ => ("HalfAsked$Turns", "states", "[LHalfAsked$Folk;", true)
def tyX7 : Nat → FieldType := fun k => match k with
  | 0 => .array (.array .int)
  | 1 => .array (.array .int)
  | _ => .array (.object "HalfAsked$Folk")
abbrev wsX70 : List Cond := u_ws RX7 TX7 3
theorem nmX7 : ∀ a, a < 3 → ∀ b, b < 3 → a ≠ b → (TX7 a).2.1 ≠ (TX7 b).2.1 := by decide +kernel
theorem tyX7_ok : ∀ k, k < 3 → parseFieldDescriptor (TX7 k).2.2.1 = some (tyX7 k) := by decide +kernel
abbrev cX7_init : ByteArray := prog_9_method_1_code
def yX7_init : MethodName := ⟨RX7, "<init>", "()V"⟩
abbrev cX7_search : ByteArray := prog_9_method_2_code
def yX7_search : MethodName := ⟨RX7, "search", "(LHalfAsked$Folk;)V"⟩
abbrev cX7_settle : ByteArray := prog_9_method_3_code
def yX7_settle : MethodName := ⟨RX7, "settle", "(I)V"⟩
abbrev cX7_keep : ByteArray := prog_9_method_4_code
def yX7_keep : MethodName := ⟨RX7, "keep", "(II)V"⟩
def RX8 : String := "HalfAsked"
def TX8 : u_T := fun k => match k with
  | 0 => ("HalfAsked", "folk", "LHalfAsked$Folk;", true)
  | 1 => ("HalfAsked", "plan", "LHalfAsked$Plan;", true)
  | 2 => ("HalfAsked", "tape", "LHalfAsked$Tape;", true)
  | 3 => ("HalfAsked", "keptFolk", "LHalfAsked$Folk;", true)
  | 4 => ("HalfAsked", "keptPlan", "LHalfAsked$Plan;", true)
  | 5 => ("HalfAsked", "kept", "Z", false)
  | 6 => ("HalfAsked", "sheets", "[LHalfAsked$Sheet;", true)
  | 7 => ("HalfAsked", "trialFolk", "LHalfAsked$Folk;", true)
  | 8 => ("HalfAsked", "trialPlan", "LHalfAsked$Plan;", true)
  | 9 => ("HalfAsked", "shares", "[J", true)
  | 10 => ("HalfAsked", "timing", "LHalfAsked$Timing;", true)
  | 11 => ("HalfAsked", "turning", "LHalfAsked$Turns;", true)
  | 12 => ("HalfAsked", "orders", "LHalfAsked$Orders;", true)
  | 13 => ("HalfAsked", "saturdays", "LHalfAsked$Saturdays;", true)
  | 14 => ("HalfAsked", "timedFor", "I", false)
  | 15 => ("HalfAsked", "turned", "Z", false)
  | _ => ("HalfAsked", "ordered", "Z", false)
def tyX8 : Nat → FieldType := fun k => match k with
  | 0 => .object "HalfAsked$Folk"
  | 1 => .object "HalfAsked$Plan"
  | 2 => .object "HalfAsked$Tape"
  | 3 => .object "HalfAsked$Folk"
  | 4 => .object "HalfAsked$Plan"
  | 5 => .boolean
  | 6 => .array (.object "HalfAsked$Sheet")
  | 7 => .object "HalfAsked$Folk"
  | 8 => .object "HalfAsked$Plan"
  | 9 => .array .long
  | 10 => .object "HalfAsked$Timing"
  | 11 => .object "HalfAsked$Turns"
  | 12 => .object "HalfAsked$Orders"
  | 13 => .object "HalfAsked$Saturdays"
  | 14 => .int
  | 15 => .boolean
  | _ => .boolean
abbrev wsX80 : List Cond := u_ws RX8 TX8 17
theorem nmX8 : ∀ a, a < 17 → ∀ b, b < 17 → a ≠ b → (TX8 a).2.1 ≠ (TX8 b).2.1 := by decide +kernel
theorem tyX8_ok : ∀ k, k < 17 → parseFieldDescriptor (TX8 k).2.2.1 = some (tyX8 k) := by decide +kernel
abbrev cX8_init : ByteArray := prog_1_method_1_code
def yX8_init : MethodName := ⟨RX8, "<init>", "()V"⟩
abbrev cX8_person : ByteArray := prog_1_method_2_code
def yX8_person : MethodName := ⟨RX8, "person", "(II)I"⟩
abbrev cX8_set : ByteArray := prog_1_method_3_code
def yX8_set : MethodName := ⟨RX8, "set", "(II)I"⟩
abbrev cX8_told : ByteArray := prog_1_method_4_code
def yX8_told : MethodName := ⟨RX8, "told", "(II)I"⟩
abbrev cX8_knows : ByteArray := prog_1_method_5_code
def yX8_knows : MethodName := ⟨RX8, "knows", "(IIZ)I"⟩
abbrev cX8_ask : ByteArray := prog_1_method_6_code
def yX8_ask : MethodName := ⟨RX8, "ask", "(II)I"⟩
abbrev cX8_week : ByteArray := prog_1_method_7_code
def yX8_week : MethodName := ⟨RX8, "week", "()I"⟩
abbrev cX8_type : ByteArray := prog_1_method_8_code
def yX8_type : MethodName := ⟨RX8, "type", "(JI)I"⟩
abbrev cX8_people : ByteArray := prog_1_method_9_code
def yX8_people : MethodName := ⟨RX8, "people", "()I"⟩
abbrev cX8_plan : ByteArray := prog_1_method_10_code
def yX8_plan : MethodName := ⟨RX8, "plan", "()I"⟩
abbrev cX8_count : ByteArray := prog_1_method_11_code
def yX8_count : MethodName := ⟨RX8, "count", "(I)I"⟩
abbrev cX8_run : ByteArray := prog_1_method_12_code
def yX8_run : MethodName := ⟨RX8, "run", "()I"⟩
abbrev cX8_most : ByteArray := prog_1_method_13_code
def yX8_most : MethodName := ⟨RX8, "most", "(I)I"⟩
abbrev cX8_when : ByteArray := prog_1_method_14_code
def yX8_when : MethodName := ⟨RX8, "when", "(II)I"⟩
abbrev cX8_turns : ByteArray := prog_1_method_15_code
def yX8_turns : MethodName := ⟨RX8, "turns", "(I)I"⟩
abbrev cX8_ends : ByteArray := prog_1_method_16_code
def yX8_ends : MethodName := ⟨RX8, "ends", "(I)I"⟩
abbrev cX8_order : ByteArray := prog_1_method_17_code
def yX8_order : MethodName := ⟨RX8, "order", "(I)I"⟩
abbrev cX8_so : ByteArray := prog_1_method_18_code
def yX8_so : MethodName := ⟨RX8, "so", "(II)I"⟩
abbrev cX8_exact : ByteArray := prog_1_method_19_code
def yX8_exact : MethodName := ⟨RX8, "exact", "(III)J"⟩
abbrev cX8_shun : ByteArray := prog_1_method_20_code
def yX8_shun : MethodName := ⟨RX8, "shun", "(I)I"⟩
abbrev cX8_image : ByteArray := prog_1_method_21_code
def yX8_image : MethodName := ⟨RX8, "image", "()I"⟩
abbrev cX8_restore : ByteArray := prog_1_method_22_code
def yX8_restore : MethodName := ⟨RX8, "restore", "()I"⟩
abbrev cX8_who : ByteArray := prog_1_method_23_code
def yX8_who : MethodName := ⟨RX8, "who", "(IIIII)I"⟩
abbrev cX8_sheet : ByteArray := prog_1_method_24_code
def yX8_sheet : MethodName := ⟨RX8, "sheet", "(III)I"⟩
abbrev cX8_drop : ByteArray := prog_1_method_25_code
def yX8_drop : MethodName := ⟨RX8, "drop", "(I)I"⟩
abbrev cX8_item : ByteArray := prog_1_method_26_code
def yX8_item : MethodName := ⟨RX8, "item", "(IIIJ)I"⟩
abbrev cX8_film : ByteArray := prog_1_method_27_code
def yX8_film : MethodName := ⟨RX8, "film", "(III)I"⟩
abbrev cX8_copy : ByteArray := prog_1_method_28_code
def yX8_copy : MethodName := ⟨RX8, "copy", "(IIIII)I"⟩
abbrev cX8_isSum : ByteArray := prog_1_method_29_code
def yX8_isSum : MethodName := ⟨RX8, "isSum", "(I)Z"⟩
abbrev cX8_isSheet : ByteArray := prog_1_method_30_code
def yX8_isSheet : MethodName := ⟨RX8, "isSheet", "(I)Z"⟩
abbrev cX8_isLane : ByteArray := prog_1_method_31_code
def yX8_isLane : MethodName := ⟨RX8, "isLane", "(I)Z"⟩
abbrev cX8_forgetFound : ByteArray := prog_1_method_32_code
def yX8_forgetFound : MethodName := ⟨RX8, "forgetFound", "()V"⟩
abbrev cX8_findTimes : ByteArray := prog_1_method_33_code
def yX8_findTimes : MethodName := ⟨RX8, "findTimes", "(I)V"⟩
abbrev cX8_findTurns : ByteArray := prog_1_method_34_code
def yX8_findTurns : MethodName := ⟨RX8, "findTurns", "()V"⟩
abbrev cX8_shareOut : ByteArray := prog_1_method_35_code
def yX8_shareOut : MethodName := ⟨RX8, "shareOut", "(II)V"⟩
abbrev cX8_penceWithout : ByteArray := prog_1_method_36_code
def yX8_penceWithout : MethodName := ⟨RX8, "penceWithout", "(II)I"⟩
def RX9 : String := "HalfAskedModel"
def TX9 : u_T := fun k => match k with
  | 0 => ("HalfAskedModel", "kinds", "[I", true)
  | 1 => ("HalfAskedModel", "pence", "[I", true)
  | 2 => ("HalfAskedModel", "known", "[I", true)
  | 3 => ("HalfAskedModel", "asked", "[I", true)
  | 4 => ("HalfAskedModel", "many", "I", false)
  | 5 => ("HalfAskedModel", "plan", "[I", true)
  | 6 => ("HalfAskedModel", "planMany", "I", false)
  | 7 => ("HalfAskedModel", "purse", "[I", true)
  | 8 => ("HalfAskedModel", "done", "[I", true)
  | 9 => ("HalfAskedModel", "tape", "[I", true)
  | 10 => ("HalfAskedModel", "taped", "I", false)
  | 11 => ("HalfAskedModel", "place", "I", false)
  | 12 => ("HalfAskedModel", "reads", "I", false)
  | 13 => ("HalfAskedModel", "read", "[I", true)
  | 14 => ("HalfAskedModel", "times", "[I", true)
  | 15 => ("HalfAskedModel", "bestTimes", "[I", true)
  | 16 => ("HalfAskedModel", "ahead", "[I", true)
  | 17 => ("HalfAskedModel", "tried", "[I", true)
  | 18 => ("HalfAskedModel", "endPence", "[I", true)
  | 19 => ("HalfAskedModel", "choices", "[I", true)
  | 20 => ("HalfAskedModel", "order", "[I", true)
  | 21 => ("HalfAskedModel", "best", "[I", true)
  | 22 => ("HalfAskedModel", "parts", "[J", true)
  | 23 => ("HalfAskedModel", "isKept", "Z", false)
  | 24 => ("HalfAskedModel", "kept", "[I", true)
  | 25 => ("HalfAskedModel", "lanes", "[I", true)
  | 26 => ("HalfAskedModel", "rowSizes", "[I", true)
  | 27 => ("HalfAskedModel", "items", "[J", true)
  | 28 => ("HalfAskedModel", "moved", "[J", true)
  | 29 => ("HalfAskedModel", "row", "[I", true)
  | _ => ("HalfAskedModel", "first", "[I", true)
def tyX9 : Nat → FieldType := fun k => match k with
  | 0 => .array .int
  | 1 => .array .int
  | 2 => .array .int
  | 3 => .array .int
  | 4 => .int
  | 5 => .array .int
  | 6 => .int
  | 7 => .array .int
  | 8 => .array .int
  | 9 => .array .int
  | 10 => .int
  | 11 => .int
  | 12 => .int
  | 13 => .array .int
  | 14 => .array .int
  | 15 => .array .int
  | 16 => .array .int
  | 17 => .array .int
  | 18 => .array .int
  | 19 => .array .int
  | 20 => .array .int
  | 21 => .array .int
  | 22 => .array .long
  | 23 => .boolean
  | 24 => .array .int
  | 25 => .array .int
  | 26 => .array .int
  | 27 => .array .long
  | 28 => .array .long
  | 29 => .array .int
  | _ => .array .int
abbrev wsX90 : List Cond := u_ws RX9 TX9 31
theorem nmX9 : ∀ a, a < 31 → ∀ b, b < 31 → a ≠ b → (TX9 a).2.1 ≠ (TX9 b).2.1 := by decide +kernel
theorem tyX9_ok : ∀ k, k < 31 → parseFieldDescriptor (TX9 k).2.2.1 = some (tyX9 k) := by decide +kernel
abbrev cX9_init : ByteArray := prog_11_method_1_code
def yX9_init : MethodName := ⟨RX9, "<init>", "()V"⟩
abbrev cX9_in : ByteArray := prog_11_method_2_code
def yX9_in : MethodName := ⟨RX9, "in", "(JJJ)Z"⟩
abbrev cX9_isOne : ByteArray := prog_11_method_3_code
def yX9_isOne : MethodName := ⟨RX9, "isOne", "(I)Z"⟩
abbrev cX9_areTwo : ByteArray := prog_11_method_4_code
def yX9_areTwo : MethodName := ⟨RX9, "areTwo", "(II)Z"⟩
abbrev cX9_has : ByteArray := prog_11_method_5_code
def yX9_has : MethodName := ⟨RX9, "has", "(II)Z"⟩
abbrev cX9_ones : ByteArray := prog_11_method_6_code
def yX9_ones : MethodName := ⟨RX9, "ones", "(I)I"⟩
abbrev cX9_add : ByteArray := prog_11_method_7_code
def yX9_add : MethodName := ⟨RX9, "add", "(II)V"⟩
abbrev cX9_person : ByteArray := prog_11_method_8_code
def yX9_person : MethodName := ⟨RX9, "person", "(II)I"⟩
abbrev cX9_set : ByteArray := prog_11_method_9_code
def yX9_set : MethodName := ⟨RX9, "set", "(II)I"⟩
abbrev cX9_gives : ByteArray := prog_11_method_10_code
def yX9_gives : MethodName := ⟨RX9, "gives", "(II)I"⟩
abbrev cX9_told : ByteArray := prog_11_method_11_code
def yX9_told : MethodName := ⟨RX9, "told", "(II)I"⟩
abbrev cX9_knows : ByteArray := prog_11_method_12_code
def yX9_knows : MethodName := ⟨RX9, "knows", "(IIZ)I"⟩
abbrev cX9_begin : ByteArray := prog_11_method_13_code
def yX9_begin : MethodName := ⟨RX9, "begin", "()V"⟩
abbrev cX9_newWeek : ByteArray := prog_11_method_14_code
def yX9_newWeek : MethodName := ⟨RX9, "newWeek", "()V"⟩
abbrev cX9_tryAsk : ByteArray := prog_11_method_15_code
def yX9_tryAsk : MethodName := ⟨RX9, "tryAsk", "(II)I"⟩
abbrev cX9_keep : ByteArray := prog_11_method_16_code
def yX9_keep : MethodName := ⟨RX9, "keep", "()V"⟩
abbrev cX9_ask : ByteArray := prog_11_method_17_code
def yX9_ask : MethodName := ⟨RX9, "ask", "(II)I"⟩
abbrev cX9_askings : ByteArray := prog_11_method_18_code
def yX9_askings : MethodName := ⟨RX9, "askings", "()I"⟩
abbrev cX9_week : ByteArray := prog_11_method_19_code
def yX9_week : MethodName := ⟨RX9, "week", "()I"⟩
abbrev cX9_count : ByteArray := prog_11_method_20_code
def yX9_count : MethodName := ⟨RX9, "count", "(I)I"⟩
abbrev cX9_type : ByteArray := prog_11_method_21_code
def yX9_type : MethodName := ⟨RX9, "type", "(JI)I"⟩
abbrev cX9_nextByte : ByteArray := prog_11_method_22_code
def yX9_nextByte : MethodName := ⟨RX9, "nextByte", "()I"⟩
abbrev cX9_readNumber : ByteArray := prog_11_method_23_code
def yX9_readNumber : MethodName := ⟨RX9, "readNumber", "(I)I"⟩
abbrev cX9_readOne : ByteArray := prog_11_method_24_code
def yX9_readOne : MethodName := ⟨RX9, "readOne", "(I)Z"⟩
abbrev cX9_readPeople : ByteArray := prog_11_method_25_code
def yX9_readPeople : MethodName := ⟨RX9, "readPeople", "()Z"⟩
abbrev cX9_people : ByteArray := prog_11_method_26_code
def yX9_people : MethodName := ⟨RX9, "people", "()I"⟩
abbrev cX9_readAsking : ByteArray := prog_11_method_27_code
def yX9_readAsking : MethodName := ⟨RX9, "readAsking", "(I)Z"⟩
abbrev cX9_readPlan : ByteArray := prog_11_method_28_code
def yX9_readPlan : MethodName := ⟨RX9, "readPlan", "()Z"⟩
abbrev cX9_plan : ByteArray := prog_11_method_29_code
def yX9_plan : MethodName := ⟨RX9, "plan", "()I"⟩
abbrev cX9_run : ByteArray := prog_11_method_30_code
def yX9_run : MethodName := ⟨RX9, "run", "()I"⟩
abbrev cX9_askAt : ByteArray := prog_11_method_31_code
def yX9_askAt : MethodName := ⟨RX9, "askAt", "(II)V"⟩
abbrev cX9_goWith : ByteArray := prog_11_method_32_code
def yX9_goWith : MethodName := ⟨RX9, "goWith", "(I)I"⟩
abbrev cX9_nextTimes : ByteArray := prog_11_method_33_code
def yX9_nextTimes : MethodName := ⟨RX9, "nextTimes", "(I)Z"⟩
abbrev cX9_findTimes : ByteArray := prog_11_method_34_code
def yX9_findTimes : MethodName := ⟨RX9, "findTimes", "(I)I"⟩
abbrev cX9_most : ByteArray := prog_11_method_35_code
def yX9_most : MethodName := ⟨RX9, "most", "(I)I"⟩
abbrev cX9_when : ByteArray := prog_11_method_36_code
def yX9_when : MethodName := ⟨RX9, "when", "(II)I"⟩
abbrev cX9_giveBack : ByteArray := prog_11_method_37_code
def yX9_giveBack : MethodName := ⟨RX9, "giveBack", "(I)V"⟩
abbrev cX9_beginTurn : ByteArray := prog_11_method_38_code
def yX9_beginTurn : MethodName := ⟨RX9, "beginTurn", "(I)V"⟩
abbrev cX9_goTurn : ByteArray := prog_11_method_39_code
def yX9_goTurn : MethodName := ⟨RX9, "goTurn", "(I)Z"⟩
abbrev cX9_findTurns : ByteArray := prog_11_method_40_code
def yX9_findTurns : MethodName := ⟨RX9, "findTurns", "()V"⟩
abbrev cX9_turns : ByteArray := prog_11_method_41_code
def yX9_turns : MethodName := ⟨RX9, "turns", "(I)I"⟩
abbrev cX9_ends : ByteArray := prog_11_method_42_code
def yX9_ends : MethodName := ⟨RX9, "ends", "(I)I"⟩
abbrev cX9_firstOrder : ByteArray := prog_11_method_43_code
def yX9_firstOrder : MethodName := ⟨RX9, "firstOrder", "()V"⟩
abbrev cX9_nextOrder : ByteArray := prog_11_method_44_code
def yX9_nextOrder : MethodName := ⟨RX9, "nextOrder", "()Z"⟩
abbrev cX9_goOrder : ByteArray := prog_11_method_45_code
def yX9_goOrder : MethodName := ⟨RX9, "goOrder", "()V"⟩
abbrev cX9_apart : ByteArray := prog_11_method_46_code
def yX9_apart : MethodName := ⟨RX9, "apart", "()I"⟩
abbrev cX9_order : ByteArray := prog_11_method_47_code
def yX9_order : MethodName := ⟨RX9, "order", "(I)I"⟩
abbrev cX9_so : ByteArray := prog_11_method_48_code
def yX9_so : MethodName := ⟨RX9, "so", "(II)I"⟩
abbrev cX9_exact : ByteArray := prog_11_method_49_code
def yX9_exact : MethodName := ⟨RX9, "exact", "(III)J"⟩
abbrev cX9_goWithout : ByteArray := prog_11_method_50_code
def yX9_goWithout : MethodName := ⟨RX9, "goWithout", "(II)I"⟩
abbrev cX9_shun : ByteArray := prog_11_method_51_code
def yX9_shun : MethodName := ⟨RX9, "shun", "(I)I"⟩
abbrev cX9_carried : ByteArray := prog_11_method_52_code
def yX9_carried : MethodName := ⟨RX9, "carried", "(IIZ)I"⟩
abbrev cX9_image : ByteArray := prog_11_method_53_code
def yX9_image : MethodName := ⟨RX9, "image", "()I"⟩
abbrev cX9_restore : ByteArray := prog_11_method_54_code
def yX9_restore : MethodName := ⟨RX9, "restore", "()I"⟩
abbrev cX9_isSheet : ByteArray := prog_11_method_55_code
def yX9_isSheet : MethodName := ⟨RX9, "isSheet", "(II)Z"⟩
abbrev cX9_asLane : ByteArray := prog_11_method_56_code
def yX9_asLane : MethodName := ⟨RX9, "asLane", "(IJ)J"⟩
abbrev cX9_sheet : ByteArray := prog_11_method_57_code
def yX9_sheet : MethodName := ⟨RX9, "sheet", "(III)I"⟩
abbrev cX9_drop : ByteArray := prog_11_method_58_code
def yX9_drop : MethodName := ⟨RX9, "drop", "(I)I"⟩
abbrev cX9_lacksRow : ByteArray := prog_11_method_59_code
def yX9_lacksRow : MethodName := ⟨RX9, "lacksRow", "(IIII)I"⟩
abbrev cX9_item : ByteArray := prog_11_method_60_code
def yX9_item : MethodName := ⟨RX9, "item", "(IIIJ)I"⟩
abbrev cX9_film : ByteArray := prog_11_method_61_code
def yX9_film : MethodName := ⟨RX9, "film", "(III)I"⟩
abbrev cX9_copy : ByteArray := prog_11_method_62_code
def yX9_copy : MethodName := ⟨RX9, "copy", "(IIIII)I"⟩
abbrev cX9_leads : ByteArray := prog_11_method_63_code
def yX9_leads : MethodName := ⟨RX9, "leads", "(II)Z"⟩
abbrev cX9_nextRow : ByteArray := prog_11_method_64_code
def yX9_nextRow : MethodName := ⟨RX9, "nextRow", "(I)Z"⟩
abbrev cX9_who : ByteArray := prog_11_method_65_code
def yX9_who : MethodName := ⟨RX9, "who", "(IIIII)I"⟩
def RJ11 : String := "java/lang/Character"
def TJ11 : u_T := fun k => match k with
  | _ => ("", "", "", false)
def tyJ11 : Nat → FieldType := fun k => match k with
  | _ => .int
abbrev wsJ110 : List Cond := u_ws RJ11 TJ11 0
theorem nmJ11 : ∀ a, a < 0 → ∀ b, b < 0 → a ≠ b → (TJ11 a).2.1 ≠ (TJ11 b).2.1 := by decide +kernel
theorem tyJ11_ok : ∀ k, k < 0 → parseFieldDescriptor (TJ11 k).2.2.1 = some (tyJ11 k) := by decide +kernel
abbrev cJ11_isValidCodePoint_9a6ad : ByteArray := prog_12_method_11_code
def yJ11_isValidCodePoint_9a6ad : MethodName := ⟨RJ11, "isValidCodePoint", "(I)Z"⟩
abbrev cJ11_highSurrogate_5068e : ByteArray := prog_12_method_28_code
def yJ11_highSurrogate_5068e : MethodName := ⟨RJ11, "highSurrogate", "(I)C"⟩
abbrev cJ11_lowSurrogate_5068e : ByteArray := prog_12_method_29_code
def yJ11_lowSurrogate_5068e : MethodName := ⟨RJ11, "lowSurrogate", "(I)C"⟩
def RJ6 : String := "java/lang/Integer"
def TJ6 : u_T := fun k => match k with
  | _ => ("", "", "", false)
def tyJ6 : Nat → FieldType := fun k => match k with
  | _ => .int
abbrev wsJ60 : List Cond := u_ws RJ6 TJ6 0
theorem nmJ6 : ∀ a, a < 0 → ∀ b, b < 0 → a ≠ b → (TJ6 a).2.1 ≠ (TJ6 b).2.1 := by decide +kernel
theorem tyJ6_ok : ∀ k, k < 0 → parseFieldDescriptor (TJ6 k).2.2.1 = some (tyJ6 k) := by decide +kernel
abbrev cJ6_bitCount_0f7a4 : ByteArray := prog_13_method_49_code
def yJ6_bitCount_0f7a4 : MethodName := ⟨RJ6, "bitCount", "(I)I"⟩
def RJ9 : String := "java/lang/Math"
def TJ9 : u_T := fun k => match k with
  | _ => ("", "", "", false)
def tyJ9 : Nat → FieldType := fun k => match k with
  | _ => .int
abbrev wsJ90 : List Cond := u_ws RJ9 TJ9 0
theorem nmJ9 : ∀ a, a < 0 → ∀ b, b < 0 → a ≠ b → (TJ9 a).2.1 ≠ (TJ9 b).2.1 := by decide +kernel
theorem tyJ9_ok : ∀ k, k < 0 → parseFieldDescriptor (TJ9 k).2.2.1 = some (tyJ9 k) := by decide +kernel
abbrev cJ9_max_7cf53 : ByteArray := prog_14_method_65_code
def yJ9_max_7cf53 : MethodName := ⟨RJ9, "max", "(II)I"⟩
abbrev cJ9_min_7cf53 : ByteArray := prog_14_method_69_code
def yJ9_min_7cf53 : MethodName := ⟨RJ9, "min", "(II)I"⟩
def RJ0 : String := "java/lang/String"
def TJ0 : u_T := fun k => match k with
  | _ => ("", "", "", false)
def tyJ0 : Nat → FieldType := fun k => match k with
  | _ => .int
abbrev wsJ00 : List Cond := u_ws RJ0 TJ0 0
theorem nmJ0 : ∀ a, a < 0 → ∀ b, b < 0 → a ≠ b → (TJ0 a).2.1 ≠ (TJ0 b).2.1 := by decide +kernel
theorem tyJ0_ok : ∀ k, k < 0 → parseFieldDescriptor (TJ0 k).2.2.1 = some (tyJ0 k) := by decide +kernel
abbrev cJ0_length_8abf5 : ByteArray := prog_15_method_54_code
def yJ0_length_8abf5 : MethodName := ⟨RJ0, "length", "()I"⟩
abbrev cJ0_indexOf_0f7a4 : ByteArray := prog_15_method_79_code
def yJ0_indexOf_0f7a4 : MethodName := ⟨RJ0, "indexOf", "(I)I"⟩
abbrev cJ0_indexOf_7cf53 : ByteArray := prog_15_method_80_code
def yJ0_indexOf_7cf53 : MethodName := ⟨RJ0, "indexOf", "(II)I"⟩
abbrev cJ0_coder_7d493 : ByteArray := prog_15_method_152_code
def yJ0_coder_7d493 : MethodName := ⟨RJ0, "coder", "()B"⟩
abbrev cJ0_isLatin1_aae02 : ByteArray := prog_15_method_154_code
def yJ0_isLatin1_aae02 : MethodName := ⟨RJ0, "isLatin1", "()Z"⟩
abbrev cJ0_checkBoundsBeginEnd_23922 : ByteArray := prog_15_method_158_code
def yJ0_checkBoundsBeginEnd_23922 : MethodName := ⟨RJ0, "checkBoundsBeginEnd", "(III)V"⟩
def RJ1 : String := "java/lang/StringLatin1"
def TJ1 : u_T := fun k => match k with
  | _ => ("", "", "", false)
def tyJ1 : Nat → FieldType := fun k => match k with
  | _ => .int
abbrev wsJ10 : List Cond := u_ws RJ1 TJ1 0
theorem nmJ1 : ∀ a, a < 0 → ∀ b, b < 0 → a ≠ b → (TJ1 a).2.1 ≠ (TJ1 b).2.1 := by decide +kernel
theorem tyJ1_ok : ∀ k, k < 0 → parseFieldDescriptor (TJ1 k).2.2.1 = some (tyJ1 k) := by decide +kernel
abbrev cJ1_canEncode_9a6ad : ByteArray := prog_16_method_4_code
def yJ1_canEncode_9a6ad : MethodName := ⟨RJ1, "canEncode", "(I)Z"⟩
abbrev cJ1_indexOf_4cfef : ByteArray := prog_16_method_22_code
def yJ1_indexOf_4cfef : MethodName := ⟨RJ1, "indexOf", "([BIII)I"⟩
abbrev cJ1_indexOfChar_4cfef : ByteArray := prog_16_method_23_code
def yJ1_indexOfChar_4cfef : MethodName := ⟨RJ1, "indexOfChar", "([BIII)I"⟩
def RJ2 : String := "java/lang/StringUTF16"
def TJ2 : u_T := fun k => match k with
  | _ => ("", "", "", false)
def tyJ2 : Nat → FieldType := fun k => match k with
  | _ => .int
abbrev wsJ20 : List Cond := u_ws RJ2 TJ2 0
theorem nmJ2 : ∀ a, a < 0 → ∀ b, b < 0 → a ≠ b → (TJ2 a).2.1 ≠ (TJ2 b).2.1 := by decide +kernel
theorem tyJ2_ok : ∀ k, k < 0 → parseFieldDescriptor (TJ2 k).2.2.1 = some (tyJ2 k) := by decide +kernel
abbrev cJ2_getChar_3b067 : ByteArray := prog_17_method_5_code
def yJ2_getChar_3b067 : MethodName := ⟨RJ2, "getChar", "([BI)C"⟩
abbrev cJ2_length_9d52b : ByteArray := prog_17_method_6_code
def yJ2_length_9d52b : MethodName := ⟨RJ2, "length", "([B)I"⟩
abbrev cJ2_indexOf_4cfef : ByteArray := prog_17_method_40_code
def yJ2_indexOf_4cfef : MethodName := ⟨RJ2, "indexOf", "([BIII)I"⟩
abbrev cJ2_indexOfChar_4cfef : ByteArray := prog_17_method_47_code
def yJ2_indexOfChar_4cfef : MethodName := ⟨RJ2, "indexOfChar", "([BIII)I"⟩
abbrev cJ2_indexOfCharUnsafe_4cfef : ByteArray := prog_17_method_48_code
def yJ2_indexOfCharUnsafe_4cfef : MethodName := ⟨RJ2, "indexOfCharUnsafe", "([BIII)I"⟩
abbrev cJ2_indexOfSupplementary_4cfef : ByteArray := prog_17_method_49_code
def yJ2_indexOfSupplementary_4cfef : MethodName := ⟨RJ2, "indexOfSupplementary", "([BIII)I"⟩
abbrev cJ2_checkBoundsBeginEnd_d044e : ByteArray := prog_17_method_93_code
def yJ2_checkBoundsBeginEnd_d044e : MethodName := ⟨RJ2, "checkBoundsBeginEnd", "(II[B)V"⟩
def RJ10 : String := "java/lang/System"
def TJ10 : u_T := fun k => match k with
  | _ => ("", "", "", false)
def tyJ10 : Nat → FieldType := fun k => match k with
  | _ => .int
abbrev wsJ100 : List Cond := u_ws RJ10 TJ10 0
theorem nmJ10 : ∀ a, a < 0 → ∀ b, b < 0 → a ≠ b → (TJ10 a).2.1 ≠ (TJ10 b).2.1 := by decide +kernel
theorem tyJ10_ok : ∀ k, k < 0 → parseFieldDescriptor (TJ10 k).2.2.1 = some (tyJ10 k) := by decide +kernel
def RJ3 : String := "jdk/internal/util/Preconditions"
def TJ3 : u_T := fun k => match k with
  | _ => ("", "", "", false)
def tyJ3 : Nat → FieldType := fun k => match k with
  | _ => .int
abbrev wsJ30 : List Cond := u_ws RJ3 TJ3 0
theorem nmJ3 : ∀ a, a < 0 → ∀ b, b < 0 → a ≠ b → (TJ3 a).2.1 ≠ (TJ3 b).2.1 := by decide +kernel
theorem tyJ3_ok : ∀ k, k < 0 → parseFieldDescriptor (TJ3 k).2.2.1 = some (tyJ3 k) := by decide +kernel
abbrev cJ3_checkFromToIndex_8c36e : ByteArray := prog_19_method_12_code
def yJ3_checkFromToIndex_8c36e : MethodName := ⟨RJ3, "checkFromToIndex", "(IIILjava/util/function/BiFunction;)I"⟩
def RL : String := "HalfAskedLaw"
abbrev cL_law : ByteArray := code
def yL_law : MethodName := ⟨RL, "law", "([I)Z"⟩
abbrev vwCl : List vw_C := [(RX0, TX0, 5), (RX1, TX1, 8), (RX2, TX2, 4), (RX3, TX3, 6), (RX4, TX4, 2), (RX5, TX5, 3), (RX6, TX6, 5), (RX7, TX7, 3), (RX8, TX8, 17), (RX9, TX9, 31)]
end
section
def wsX0_init : List Cond := .code yX0_init cX0_init 1 none :: ([.methodLink RX0 3 objectInit, .instanceMethod objectInit, .code objectInit ⟨#[0xb1]⟩ 1 none, .fieldLink RX0 9 "HalfAsked$Folk" "size" "I", .constant RX0 15 (16510910), .fieldLink RX0 16 "HalfAsked$Folk" "known" "I", .fieldLink RX0 19 "HalfAsked$Folk" "asked" "I", .arrayClass .int, .fieldLink RX0 22 "HalfAsked$Folk" "kind" "[I", .fieldLink RX0 26 "HalfAsked$Folk" "pence" "[I"] ++ wsX00)
def wsX0_newRow : List Cond := .code yX0_newRow cX0_newRow 3 (some (.array (.object "HalfAsked$Folk"))) :: ([.methodLink RX0 29 Lib.Math.max.name, .static Lib.Math.max.name, .initialized "java/lang/Math", .code Lib.Math.max.name Lib.Math.max.code 2 (some .int), .classLink RX0 10 RX0, .instantiable RX0 5, .initialized RX0, .methodLink RX0 35 yX0_init, .instanceMethod yX0_init, .code yX0_init cX0_init 1 none, .methodLink RX0 3 objectInit, .instanceMethod objectInit, .code objectInit ⟨#[0xb1]⟩ 1 none, .fieldLink RX0 9 "HalfAsked$Folk" "size" "I", .constant RX0 15 (16510910), .fieldLink RX0 16 "HalfAsked$Folk" "known" "I", .fieldLink RX0 19 "HalfAsked$Folk" "asked" "I", .arrayClass .int, .fieldLink RX0 22 "HalfAsked$Folk" "kind" "[I", .fieldLink RX0 26 "HalfAsked$Folk" "pence" "[I"] ++ wsX00)
def wsX0_clear : List Cond := .code yX0_clear cX0_clear 1 none :: ([.fieldLink RX0 9 "HalfAsked$Folk" "size" "I", .constant RX0 15 (16510910), .fieldLink RX0 16 "HalfAsked$Folk" "known" "I", .fieldLink RX0 19 "HalfAsked$Folk" "asked" "I"] ++ wsX00)
def wsX0_takeFrom : List Cond := .code yX0_takeFrom cX0_takeFrom 2 none :: ([.fieldLink RX0 9 "HalfAsked$Folk" "size" "I", .fieldLink RX0 16 "HalfAsked$Folk" "known" "I", .fieldLink RX0 19 "HalfAsked$Folk" "asked" "I", .fieldLink RX0 22 "HalfAsked$Folk" "kind" "[I", .methodLink RX0 36 arraycopyName, .native arraycopyName, .static arraycopyName, .initialized "java/lang/System", .fieldLink RX0 26 "HalfAsked$Folk" "pence" "[I"] ++ wsX00)
def wsX0_add : List Cond := .code yX0_add cX0_add 3 none :: ([.fieldLink RX0 9 "HalfAsked$Folk" "size" "I", .fieldLink RX0 22 "HalfAsked$Folk" "kind" "[I", .fieldLink RX0 26 "HalfAsked$Folk" "pence" "[I"] ++ wsX00)
def wsX0_has : List Cond := .code yX0_has cX0_has 2 (some .boolean) :: ([.fieldLink RX0 9 "HalfAsked$Folk" "size" "I"] ++ wsX00)
def wsX0_isPair : List Cond := .code yX0_isPair cX0_isPair 3 (some .boolean) :: ([.methodLink RX0 42 yX0_has, .instanceMethod yX0_has, .selects RX0 yX0_has yX0_has, .initialized RX0, .code yX0_has cX0_has 2 (some .boolean), .fieldLink RX0 9 "HalfAsked$Folk" "size" "I"] ++ wsX00)
def wsJ6_bitCount_0f7a4 : List Cond := .code yJ6_bitCount_0f7a4 cJ6_bitCount_0f7a4 1 (some .int) :: ([.constant RJ6 265 (1431655765), .constant RJ6 266 (858993459), .constant RJ6 267 (252645135)])
def wsX0_askings : List Cond := .code yX0_askings cX0_askings 1 (some .int) :: ([.fieldLink RX0 19 "HalfAsked$Folk" "asked" "I", .methodLink RX0 46 yJ6_bitCount_0f7a4, .static yJ6_bitCount_0f7a4, .initialized RJ6, .code yJ6_bitCount_0f7a4 cJ6_bitCount_0f7a4 1 (some .int), .constant RJ6 265 (1431655765), .constant RJ6 266 (858993459), .constant RJ6 267 (252645135)] ++ wsX00)
def wsX0_penceOfAll : List Cond := .code yX0_penceOfAll cX0_penceOfAll 3 (some .int) :: ([.fieldLink RX0 9 "HalfAsked$Folk" "size" "I", .fieldLink RX0 26 "HalfAsked$Folk" "pence" "[I"] ++ wsX00)
def wsX2_init : List Cond := .code yX2_init cX2_init 1 none :: ([.methodLink RX2 3 objectInit, .instanceMethod objectInit, .code objectInit ⟨#[0xb1]⟩ 1 none, .fieldLink RX2 9 "HalfAsked$Plan" "size" "I", .fieldLink RX2 15 "HalfAsked$Plan" "ends" "I", .arrayClass .int, .fieldLink RX2 18 "HalfAsked$Plan" "by" "[I", .fieldLink RX2 22 "HalfAsked$Plan" "of" "[I"] ++ wsX20)
def wsX1_init_r1 : List Cond := [Cond.methodLink RX1 3 objectInit, Cond.instanceMethod objectInit, Cond.code objectInit ⟨#[0xb1]⟩ 1 none, Cond.fieldLink RX1 9 "HalfAsked$Orders" "leastSpan" "I", Cond.fieldLink RX1 15 "HalfAsked$Orders" "fitting" "I", Cond.arrayClass .int, Cond.fieldLink RX1 18 "HalfAsked$Orders" "first" "[I", Cond.fieldLink RX1 22 "HalfAsked$Orders" "row" "[I", Cond.fieldLink RX1 25 "HalfAsked$Orders" "wanted" "I", Cond.fieldLink RX1 28 "HalfAsked$Orders" "wantedPence" "I", Cond.classLink RX1 31 RX2, Cond.instantiable RX2 4, Cond.initialized RX2, Cond.fieldLink RX1 34 "HalfAsked$Orders" "plan" "LHalfAsked$Plan;", Cond.fieldLink RX1 44 "HalfAsked$Orders" "states" "[LHalfAsked$Folk;", Cond.instanceMethod yX2_init, Cond.code yX2_init cX2_init 1 none, Cond.methodLink RX2 3 objectInit, Cond.fieldLink RX2 9 "HalfAsked$Plan" "size" "I", Cond.fieldLink RX2 15 "HalfAsked$Plan" "ends" "I", Cond.fieldLink RX2 18 "HalfAsked$Plan" "by" "[I", Cond.fieldLink RX2 22 "HalfAsked$Plan" "of" "[I", Cond.methodLink RX1 38 yX0_newRow, Cond.static yX0_newRow]
def wsX1_init_r2 : List Cond := [Cond.initialized RX0, Cond.code yX0_newRow cX0_newRow 3 (some (.array (.object "HalfAsked$Folk"))), Cond.methodLink RX0 29 Lib.Math.max.name, Cond.static Lib.Math.max.name, Cond.initialized "java/lang/Math", Cond.code Lib.Math.max.name Lib.Math.max.code 2 (some .int), Cond.classLink RX0 10 RX0, Cond.instantiable RX0 5, Cond.methodLink RX0 35 yX0_init, Cond.instanceMethod yX0_init, Cond.code yX0_init cX0_init 1 none, Cond.methodLink RX0 3 objectInit, Cond.fieldLink RX0 9 "HalfAsked$Folk" "size" "I", Cond.constant RX0 15 (16510910), Cond.fieldLink RX0 16 "HalfAsked$Folk" "known" "I", Cond.fieldLink RX0 19 "HalfAsked$Folk" "asked" "I", Cond.fieldLink RX0 22 "HalfAsked$Folk" "kind" "[I", Cond.fieldLink RX0 26 "HalfAsked$Folk" "pence" "[I"]
def wsX1_init : List Cond := .code yX1_init cX1_init 1 none :: ((wsX1_init_r1 ++ wsX1_init_r2) ++ wsX10 ++ wsX20 ++ wsX00)
def wsX2_takeFrom : List Cond := .code yX2_takeFrom cX2_takeFrom 2 none :: ([.fieldLink RX2 9 "HalfAsked$Plan" "size" "I", .fieldLink RX2 15 "HalfAsked$Plan" "ends" "I", .fieldLink RX2 18 "HalfAsked$Plan" "by" "[I", .methodLink RX2 25 arraycopyName, .native arraycopyName, .static arraycopyName, .initialized "java/lang/System", .fieldLink RX2 22 "HalfAsked$Plan" "of" "[I"] ++ wsX20)
def wsX2_clear : List Cond := .code yX2_clear cX2_clear 1 none :: ([.fieldLink RX2 9 "HalfAsked$Plan" "size" "I", .fieldLink RX2 15 "HalfAsked$Plan" "ends" "I"] ++ wsX20)
def wsX3_init_r1 : List Cond := [Cond.methodLink RX3 3 objectInit, Cond.instanceMethod objectInit, Cond.code objectInit ⟨#[0xb1]⟩ 1 none, Cond.fieldLink RX3 9 "HalfAsked$Saturdays" "rows" "I", Cond.arrayClass .int, Cond.fieldLink RX3 15 "HalfAsked$Saturdays" "first" "[I", Cond.fieldLink RX3 19 "HalfAsked$Saturdays" "row" "[I", Cond.fieldLink RX3 22 "HalfAsked$Saturdays" "goal" "[I", Cond.fieldLink RX3 25 "HalfAsked$Saturdays" "length" "I", Cond.fieldLink RX3 34 "HalfAsked$Saturdays" "states" "[LHalfAsked$Folk;", Cond.methodLink RX3 28 yX0_newRow, Cond.static yX0_newRow, Cond.initialized RX0, Cond.code yX0_newRow cX0_newRow 3 (some (.array (.object "HalfAsked$Folk"))), Cond.methodLink RX0 29 Lib.Math.max.name, Cond.static Lib.Math.max.name, Cond.initialized "java/lang/Math", Cond.code Lib.Math.max.name Lib.Math.max.code 2 (some .int), Cond.classLink RX0 10 RX0, Cond.instantiable RX0 5, Cond.methodLink RX0 35 yX0_init, Cond.instanceMethod yX0_init, Cond.code yX0_init cX0_init 1 none, Cond.methodLink RX0 3 objectInit]
def wsX3_init_r2 : List Cond := [Cond.fieldLink RX0 9 "HalfAsked$Folk" "size" "I", Cond.constant RX0 15 (16510910), Cond.fieldLink RX0 16 "HalfAsked$Folk" "known" "I", Cond.fieldLink RX0 19 "HalfAsked$Folk" "asked" "I", Cond.fieldLink RX0 22 "HalfAsked$Folk" "kind" "[I", Cond.fieldLink RX0 26 "HalfAsked$Folk" "pence" "[I"]
def wsX3_init : List Cond := .code yX3_init cX3_init 1 none :: ((wsX3_init_r1 ++ wsX3_init_r2) ++ wsX30 ++ wsX00)
def wsX4_init : List Cond := .code yX4_init cX4_init 3 none :: ([.methodLink RX4 3 objectInit, .instanceMethod objectInit, .code objectInit ⟨#[0xb1]⟩ 1 none, .fieldLink RX4 9 "HalfAsked$Sheet" "lane" "I", .methodLink RX4 15 Lib.Math.min.name, .static Lib.Math.min.name, .initialized "java/lang/Math", .code Lib.Math.min.name Lib.Math.min.code 2 (some .int), .methodLink RX4 21 Lib.Math.max.name, .static Lib.Math.max.name, .code Lib.Math.max.name Lib.Math.max.code 2 (some .int), .arrayClass .long, .fieldLink RX4 24 "HalfAsked$Sheet" "items" "[J"] ++ wsX40)
def wsX5_init : List Cond := .code yX5_init cX5_init 1 none :: ([.methodLink RX5 3 objectInit, .instanceMethod objectInit, .code objectInit ⟨#[0xb1]⟩ 1 none, .fieldLink RX5 9 "HalfAsked$Tape" "size" "I", .fieldLink RX5 15 "HalfAsked$Tape" "at" "I", .arrayClass .char, .fieldLink RX5 18 "HalfAsked$Tape" "signs" "[C"] ++ wsX50)
def wsX5_areSigns : List Cond := .code yX5_areSigns cX5_areSigns 6 (some .boolean) :: ([.constantLong RX5 22 (255), .constantLong RX5 24 (32), .constantLong RX5 26 (126)])
def wsX5_add : List Cond := .code yX5_add cX5_add 5 none :: ([.fieldLink RX5 9 "HalfAsked$Tape" "size" "I", .fieldLink RX5 18 "HalfAsked$Tape" "signs" "[C", .constantLong RX5 22 (255)] ++ wsX50)
def wsX5_skipBlanks : List Cond := .code yX5_skipBlanks cX5_skipBlanks 1 none :: ([.fieldLink RX5 15 "HalfAsked$Tape" "at" "I", .fieldLink RX5 9 "HalfAsked$Tape" "size" "I", .fieldLink RX5 18 "HalfAsked$Tape" "signs" "[C"] ++ wsX50)
def wsX5_look : List Cond := .code yX5_look cX5_look 1 (some .char) :: ([.fieldLink RX5 15 "HalfAsked$Tape" "at" "I", .fieldLink RX5 9 "HalfAsked$Tape" "size" "I", .fieldLink RX5 18 "HalfAsked$Tape" "signs" "[C", .methodLink RX5 48 yX5_skipBlanks, .instanceMethod yX5_skipBlanks, .selects RX5 yX5_skipBlanks yX5_skipBlanks, .initialized RX5, .code yX5_skipBlanks cX5_skipBlanks 1 none] ++ wsX50)
def wsJ0_isLatin1_aae02 : List Cond := .code yJ0_isLatin1_aae02 cJ0_isLatin1_aae02 1 (some .boolean) :: ([.fieldLink RJ0 38 "java/lang/String" "COMPACT_STRINGS" "Z", .fieldLink RJ0 15 "java/lang/String" "coder" "B"])
def wsJ0_coder_7d493 : List Cond := .code yJ0_coder_7d493 cJ0_coder_7d493 1 (some .byte) :: ([.fieldLink RJ0 38 "java/lang/String" "COMPACT_STRINGS" "Z", .fieldLink RJ0 15 "java/lang/String" "coder" "B"])
def wsJ0_length_8abf5 : List Cond := .code yJ0_length_8abf5 cJ0_length_8abf5 1 (some .int) :: ([.fieldLink RJ0 9 "java/lang/String" "value" "[B", .methodLink RJ0 335 yJ0_coder_7d493, .instanceMethod yJ0_coder_7d493, .selects RJ0 yJ0_coder_7d493 yJ0_coder_7d493, .initialized RJ0, .code yJ0_coder_7d493 cJ0_coder_7d493 1 (some .byte), .fieldLink RJ0 38 "java/lang/String" "COMPACT_STRINGS" "Z", .fieldLink RJ0 15 "java/lang/String" "coder" "B"])
def wsJ1_canEncode_9a6ad : List Cond := .code yJ1_canEncode_9a6ad cJ1_canEncode_9a6ad 1 (some .boolean) :: ([])
def wsJ1_indexOfChar_4cfef : List Cond := .code yJ1_indexOfChar_4cfef cJ1_indexOfChar_4cfef 6 (some .int) :: ([])
def wsJ1_indexOf_4cfef : List Cond := .code yJ1_indexOf_4cfef cJ1_indexOf_4cfef 4 (some .int) :: ([.methodLink RJ1 92 Lib.Math.max.name, .static Lib.Math.max.name, .initialized "java/lang/Math", .code Lib.Math.max.name Lib.Math.max.code 2 (some .int), .methodLink RJ1 38 Lib.Math.min.name, .static Lib.Math.min.name, .code Lib.Math.min.name Lib.Math.min.code 2 (some .int), .methodLink RJ1 88 yJ1_canEncode_9a6ad, .static yJ1_canEncode_9a6ad, .initialized RJ1, .code yJ1_canEncode_9a6ad cJ1_canEncode_9a6ad 1 (some .boolean), .methodLink RJ1 95 yJ1_indexOfChar_4cfef, .static yJ1_indexOfChar_4cfef, .code yJ1_indexOfChar_4cfef cJ1_indexOfChar_4cfef 6 (some .int)])
def wsJ0_indexOf_7cf53_r1 : List Cond := [Cond.fieldLink RJ0 9 "java/lang/String" "value" "[B", Cond.methodLink RJ0 492 yJ0_isLatin1_aae02, Cond.instanceMethod yJ0_isLatin1_aae02, Cond.selects RJ0 yJ0_isLatin1_aae02 yJ0_isLatin1_aae02, Cond.initialized RJ0, Cond.code yJ0_isLatin1_aae02 cJ0_isLatin1_aae02 1 (some .boolean), Cond.fieldLink RJ0 38 "java/lang/String" "COMPACT_STRINGS" "Z", Cond.fieldLink RJ0 15 "java/lang/String" "coder" "B", Cond.methodLink RJ0 505 yJ0_length_8abf5, Cond.instanceMethod yJ0_length_8abf5, Cond.selects RJ0 yJ0_length_8abf5 yJ0_length_8abf5, Cond.code yJ0_length_8abf5 cJ0_length_8abf5 1 (some .int), Cond.methodLink RJ0 335 yJ0_coder_7d493, Cond.instanceMethod yJ0_coder_7d493, Cond.selects RJ0 yJ0_coder_7d493 yJ0_coder_7d493, Cond.code yJ0_coder_7d493 cJ0_coder_7d493 1 (some .byte), Cond.methodLink RJ0 637 yJ1_indexOf_4cfef, Cond.static yJ1_indexOf_4cfef, Cond.initialized RJ1, Cond.code yJ1_indexOf_4cfef cJ1_indexOf_4cfef 4 (some .int), Cond.methodLink RJ1 92 Lib.Math.max.name, Cond.static Lib.Math.max.name, Cond.initialized "java/lang/Math", Cond.code Lib.Math.max.name Lib.Math.max.code 2 (some .int)]
def wsJ0_indexOf_7cf53_r2 : List Cond := [Cond.methodLink RJ1 38 Lib.Math.min.name, Cond.static Lib.Math.min.name, Cond.code Lib.Math.min.name Lib.Math.min.code 2 (some .int), Cond.methodLink RJ1 88 yJ1_canEncode_9a6ad, Cond.static yJ1_canEncode_9a6ad, Cond.code yJ1_canEncode_9a6ad cJ1_canEncode_9a6ad 1 (some .boolean), Cond.methodLink RJ1 95 yJ1_indexOfChar_4cfef, Cond.static yJ1_indexOfChar_4cfef, Cond.code yJ1_indexOfChar_4cfef cJ1_indexOfChar_4cfef 6 (some .int), Cond.methodLink RJ0 640 yJ2_indexOf_4cfef, Cond.static yJ2_indexOf_4cfef, Cond.initialized RJ2, Cond.code yJ2_indexOf_4cfef cJ2_indexOf_4cfef 4 (some .int), Cond.methodLink RJ2 224 Lib.Math.max.name, Cond.methodLink RJ2 183 Lib.Math.min.name, Cond.constant RJ2 227 (65536), Cond.methodLink RJ2 228 yJ2_indexOfChar_4cfef, Cond.static yJ2_indexOfChar_4cfef, Cond.code yJ2_indexOfChar_4cfef cJ2_indexOfChar_4cfef 4 (some .int), Cond.methodLink RJ2 96 yJ2_checkBoundsBeginEnd_d044e, Cond.static yJ2_checkBoundsBeginEnd_d044e, Cond.code yJ2_checkBoundsBeginEnd_d044e cJ2_checkBoundsBeginEnd_d044e 3 none, Cond.methodLink RJ2 48 yJ2_length_9d52b, Cond.static yJ2_length_9d52b]
def wsJ0_indexOf_7cf53_r3 : List Cond := [Cond.code yJ2_length_9d52b cJ2_length_9d52b 1 (some .int), Cond.methodLink RJ2 241 yJ0_checkBoundsBeginEnd_23922, Cond.static yJ0_checkBoundsBeginEnd_23922, Cond.code yJ0_checkBoundsBeginEnd_23922 cJ0_checkBoundsBeginEnd_23922 3 none, Cond.fieldLink RJ0 1053 "jdk/internal/util/Preconditions" "SIOOBE_FORMATTER" "Ljava/util/function/BiFunction;", Cond.methodLink RJ0 1062 yJ3_checkFromToIndex_8c36e, Cond.static yJ3_checkFromToIndex_8c36e, Cond.initialized RJ3, Cond.code yJ3_checkFromToIndex_8c36e cJ3_checkFromToIndex_8c36e 4 (some .int), Cond.methodLink RJ2 244 yJ2_indexOfCharUnsafe_4cfef, Cond.static yJ2_indexOfCharUnsafe_4cfef, Cond.code yJ2_indexOfCharUnsafe_4cfef cJ2_indexOfCharUnsafe_4cfef 5 (some .int), Cond.methodLink RJ2 71 yJ2_getChar_3b067, Cond.static yJ2_getChar_3b067, Cond.code yJ2_getChar_3b067 cJ2_getChar_3b067 2 (some .char), Cond.fieldLink RJ2 44 "java/lang/StringUTF16" "$assertionsDisabled" "Z", Cond.fieldLink RJ2 59 "java/lang/StringUTF16" "HI_BYTE_SHIFT" "I", Cond.fieldLink RJ2 63 "java/lang/StringUTF16" "LO_BYTE_SHIFT" "I", Cond.methodLink RJ2 232 yJ2_indexOfSupplementary_4cfef, Cond.static yJ2_indexOfSupplementary_4cfef, Cond.code yJ2_indexOfSupplementary_4cfef cJ2_indexOfSupplementary_4cfef 7 (some .int), Cond.methodLink RJ2 164 yJ11_isValidCodePoint_9a6ad, Cond.static yJ11_isValidCodePoint_9a6ad, Cond.initialized RJ11]
def wsJ0_indexOf_7cf53_r4 : List Cond := [Cond.code yJ11_isValidCodePoint_9a6ad cJ11_isValidCodePoint_9a6ad 2 (some .boolean), Cond.methodLink RJ2 157 yJ11_highSurrogate_5068e, Cond.static yJ11_highSurrogate_5068e, Cond.code yJ11_highSurrogate_5068e cJ11_highSurrogate_5068e 1 (some .char), Cond.constant RJ11 110 (55232), Cond.methodLink RJ2 161 yJ11_lowSurrogate_5068e, Cond.static yJ11_lowSurrogate_5068e, Cond.code yJ11_lowSurrogate_5068e cJ11_lowSurrogate_5068e 1 (some .char), Cond.constant RJ11 76 (56320)]
def wsJ0_indexOf_7cf53 : List Cond := .code yJ0_indexOf_7cf53 cJ0_indexOf_7cf53 3 (some .int) :: ((wsJ0_indexOf_7cf53_r1 ++ (wsJ0_indexOf_7cf53_r2 ++ (wsJ0_indexOf_7cf53_r3 ++ wsJ0_indexOf_7cf53_r4))))
def wsJ0_indexOf_0f7a4_r1 : List Cond := [Cond.methodLink RJ0 633 yJ0_indexOf_7cf53, Cond.instanceMethod yJ0_indexOf_7cf53, Cond.selects RJ0 yJ0_indexOf_7cf53 yJ0_indexOf_7cf53, Cond.initialized RJ0, Cond.code yJ0_indexOf_7cf53 cJ0_indexOf_7cf53 3 (some .int), Cond.fieldLink RJ0 9 "java/lang/String" "value" "[B", Cond.methodLink RJ0 492 yJ0_isLatin1_aae02, Cond.instanceMethod yJ0_isLatin1_aae02, Cond.selects RJ0 yJ0_isLatin1_aae02 yJ0_isLatin1_aae02, Cond.code yJ0_isLatin1_aae02 cJ0_isLatin1_aae02 1 (some .boolean), Cond.fieldLink RJ0 38 "java/lang/String" "COMPACT_STRINGS" "Z", Cond.fieldLink RJ0 15 "java/lang/String" "coder" "B", Cond.methodLink RJ0 505 yJ0_length_8abf5, Cond.instanceMethod yJ0_length_8abf5, Cond.selects RJ0 yJ0_length_8abf5 yJ0_length_8abf5, Cond.code yJ0_length_8abf5 cJ0_length_8abf5 1 (some .int), Cond.methodLink RJ0 335 yJ0_coder_7d493, Cond.instanceMethod yJ0_coder_7d493, Cond.selects RJ0 yJ0_coder_7d493 yJ0_coder_7d493, Cond.code yJ0_coder_7d493 cJ0_coder_7d493 1 (some .byte), Cond.methodLink RJ0 637 yJ1_indexOf_4cfef, Cond.static yJ1_indexOf_4cfef, Cond.initialized RJ1, Cond.code yJ1_indexOf_4cfef cJ1_indexOf_4cfef 4 (some .int)]
def wsJ0_indexOf_0f7a4_r2 : List Cond := [Cond.methodLink RJ1 92 Lib.Math.max.name, Cond.static Lib.Math.max.name, Cond.initialized "java/lang/Math", Cond.code Lib.Math.max.name Lib.Math.max.code 2 (some .int), Cond.methodLink RJ1 38 Lib.Math.min.name, Cond.static Lib.Math.min.name, Cond.code Lib.Math.min.name Lib.Math.min.code 2 (some .int), Cond.methodLink RJ1 88 yJ1_canEncode_9a6ad, Cond.static yJ1_canEncode_9a6ad, Cond.code yJ1_canEncode_9a6ad cJ1_canEncode_9a6ad 1 (some .boolean), Cond.methodLink RJ1 95 yJ1_indexOfChar_4cfef, Cond.static yJ1_indexOfChar_4cfef, Cond.code yJ1_indexOfChar_4cfef cJ1_indexOfChar_4cfef 6 (some .int), Cond.methodLink RJ0 640 yJ2_indexOf_4cfef, Cond.static yJ2_indexOf_4cfef, Cond.initialized RJ2, Cond.code yJ2_indexOf_4cfef cJ2_indexOf_4cfef 4 (some .int), Cond.methodLink RJ2 224 Lib.Math.max.name, Cond.methodLink RJ2 183 Lib.Math.min.name, Cond.constant RJ2 227 (65536), Cond.methodLink RJ2 228 yJ2_indexOfChar_4cfef, Cond.static yJ2_indexOfChar_4cfef, Cond.code yJ2_indexOfChar_4cfef cJ2_indexOfChar_4cfef 4 (some .int), Cond.methodLink RJ2 96 yJ2_checkBoundsBeginEnd_d044e]
def wsJ0_indexOf_0f7a4_r3 : List Cond := [Cond.static yJ2_checkBoundsBeginEnd_d044e, Cond.code yJ2_checkBoundsBeginEnd_d044e cJ2_checkBoundsBeginEnd_d044e 3 none, Cond.methodLink RJ2 48 yJ2_length_9d52b, Cond.static yJ2_length_9d52b, Cond.code yJ2_length_9d52b cJ2_length_9d52b 1 (some .int), Cond.methodLink RJ2 241 yJ0_checkBoundsBeginEnd_23922, Cond.static yJ0_checkBoundsBeginEnd_23922, Cond.code yJ0_checkBoundsBeginEnd_23922 cJ0_checkBoundsBeginEnd_23922 3 none, Cond.fieldLink RJ0 1053 "jdk/internal/util/Preconditions" "SIOOBE_FORMATTER" "Ljava/util/function/BiFunction;", Cond.methodLink RJ0 1062 yJ3_checkFromToIndex_8c36e, Cond.static yJ3_checkFromToIndex_8c36e, Cond.initialized RJ3, Cond.code yJ3_checkFromToIndex_8c36e cJ3_checkFromToIndex_8c36e 4 (some .int), Cond.methodLink RJ2 244 yJ2_indexOfCharUnsafe_4cfef, Cond.static yJ2_indexOfCharUnsafe_4cfef, Cond.code yJ2_indexOfCharUnsafe_4cfef cJ2_indexOfCharUnsafe_4cfef 5 (some .int), Cond.methodLink RJ2 71 yJ2_getChar_3b067, Cond.static yJ2_getChar_3b067, Cond.code yJ2_getChar_3b067 cJ2_getChar_3b067 2 (some .char), Cond.fieldLink RJ2 44 "java/lang/StringUTF16" "$assertionsDisabled" "Z", Cond.fieldLink RJ2 59 "java/lang/StringUTF16" "HI_BYTE_SHIFT" "I", Cond.fieldLink RJ2 63 "java/lang/StringUTF16" "LO_BYTE_SHIFT" "I", Cond.methodLink RJ2 232 yJ2_indexOfSupplementary_4cfef, Cond.static yJ2_indexOfSupplementary_4cfef]
def wsJ0_indexOf_0f7a4_r4 : List Cond := [Cond.code yJ2_indexOfSupplementary_4cfef cJ2_indexOfSupplementary_4cfef 7 (some .int), Cond.methodLink RJ2 164 yJ11_isValidCodePoint_9a6ad, Cond.static yJ11_isValidCodePoint_9a6ad, Cond.initialized RJ11, Cond.code yJ11_isValidCodePoint_9a6ad cJ11_isValidCodePoint_9a6ad 2 (some .boolean), Cond.methodLink RJ2 157 yJ11_highSurrogate_5068e, Cond.static yJ11_highSurrogate_5068e, Cond.code yJ11_highSurrogate_5068e cJ11_highSurrogate_5068e 1 (some .char), Cond.constant RJ11 110 (55232), Cond.methodLink RJ2 161 yJ11_lowSurrogate_5068e, Cond.static yJ11_lowSurrogate_5068e, Cond.code yJ11_lowSurrogate_5068e cJ11_lowSurrogate_5068e 1 (some .char), Cond.constant RJ11 76 (56320)]
def wsJ0_indexOf_0f7a4 : List Cond := .code yJ0_indexOf_0f7a4 cJ0_indexOf_0f7a4 2 (some .int) :: ((wsJ0_indexOf_0f7a4_r1 ++ (wsJ0_indexOf_0f7a4_r2 ++ (wsJ0_indexOf_0f7a4_r3 ++ wsJ0_indexOf_0f7a4_r4))))
def wsX5_fault : List Cond := .code yX5_fault cX5_fault 1 (some .int) :: ([])
def wsX5_readFolk_r1 : List Cond := [Cond.fieldLink RX5 15 "HalfAsked$Tape" "at" "I", Cond.fieldLink RX5 59 "HalfAsked$Folk" "size" "I", Cond.methodLink RX5 28 yX0_clear, Cond.instanceMethod yX0_clear, Cond.selects RX0 yX0_clear yX0_clear, Cond.initialized RX0, Cond.code yX0_clear cX0_clear 1 none, Cond.fieldLink RX0 9 "HalfAsked$Folk" "size" "I", Cond.constant RX0 15 (16510910), Cond.fieldLink RX0 16 "HalfAsked$Folk" "known" "I", Cond.fieldLink RX0 19 "HalfAsked$Folk" "asked" "I", Cond.methodLink RX5 35 yX5_look, Cond.instanceMethod yX5_look, Cond.selects RX5 yX5_look yX5_look, Cond.initialized RX5, Cond.code yX5_look cX5_look 1 (some .char), Cond.fieldLink RX5 9 "HalfAsked$Tape" "size" "I", Cond.fieldLink RX5 18 "HalfAsked$Tape" "signs" "[C", Cond.methodLink RX5 48 yX5_skipBlanks, Cond.instanceMethod yX5_skipBlanks, Cond.selects RX5 yX5_skipBlanks yX5_skipBlanks, Cond.code yX5_skipBlanks cX5_skipBlanks 1 none, Cond.methodLink RX5 39 yJ0_indexOf_0f7a4, Cond.instanceMethod yJ0_indexOf_0f7a4]
def wsX5_readFolk_r2 : List Cond := [Cond.selects RJ0 yJ0_indexOf_0f7a4 yJ0_indexOf_0f7a4, Cond.initialized RJ0, Cond.code yJ0_indexOf_0f7a4 cJ0_indexOf_0f7a4 2 (some .int), Cond.methodLink RJ0 633 yJ0_indexOf_7cf53, Cond.instanceMethod yJ0_indexOf_7cf53, Cond.selects RJ0 yJ0_indexOf_7cf53 yJ0_indexOf_7cf53, Cond.code yJ0_indexOf_7cf53 cJ0_indexOf_7cf53 3 (some .int), Cond.fieldLink RJ0 9 "java/lang/String" "value" "[B", Cond.methodLink RJ0 492 yJ0_isLatin1_aae02, Cond.instanceMethod yJ0_isLatin1_aae02, Cond.selects RJ0 yJ0_isLatin1_aae02 yJ0_isLatin1_aae02, Cond.code yJ0_isLatin1_aae02 cJ0_isLatin1_aae02 1 (some .boolean), Cond.fieldLink RJ0 38 "java/lang/String" "COMPACT_STRINGS" "Z", Cond.fieldLink RJ0 15 "java/lang/String" "coder" "B", Cond.methodLink RJ0 505 yJ0_length_8abf5, Cond.instanceMethod yJ0_length_8abf5, Cond.selects RJ0 yJ0_length_8abf5 yJ0_length_8abf5, Cond.code yJ0_length_8abf5 cJ0_length_8abf5 1 (some .int), Cond.methodLink RJ0 335 yJ0_coder_7d493, Cond.instanceMethod yJ0_coder_7d493, Cond.selects RJ0 yJ0_coder_7d493 yJ0_coder_7d493, Cond.code yJ0_coder_7d493 cJ0_coder_7d493 1 (some .byte), Cond.methodLink RJ0 637 yJ1_indexOf_4cfef, Cond.static yJ1_indexOf_4cfef]
def wsX5_readFolk_r3 : List Cond := [Cond.initialized RJ1, Cond.code yJ1_indexOf_4cfef cJ1_indexOf_4cfef 4 (some .int), Cond.methodLink RJ1 92 Lib.Math.max.name, Cond.static Lib.Math.max.name, Cond.initialized "java/lang/Math", Cond.code Lib.Math.max.name Lib.Math.max.code 2 (some .int), Cond.methodLink RJ1 38 Lib.Math.min.name, Cond.static Lib.Math.min.name, Cond.code Lib.Math.min.name Lib.Math.min.code 2 (some .int), Cond.methodLink RJ1 88 yJ1_canEncode_9a6ad, Cond.static yJ1_canEncode_9a6ad, Cond.code yJ1_canEncode_9a6ad cJ1_canEncode_9a6ad 1 (some .boolean), Cond.methodLink RJ1 95 yJ1_indexOfChar_4cfef, Cond.static yJ1_indexOfChar_4cfef, Cond.code yJ1_indexOfChar_4cfef cJ1_indexOfChar_4cfef 6 (some .int), Cond.methodLink RJ0 640 yJ2_indexOf_4cfef, Cond.static yJ2_indexOf_4cfef, Cond.initialized RJ2, Cond.code yJ2_indexOf_4cfef cJ2_indexOf_4cfef 4 (some .int), Cond.methodLink RJ2 224 Lib.Math.max.name, Cond.methodLink RJ2 183 Lib.Math.min.name, Cond.constant RJ2 227 (65536), Cond.methodLink RJ2 228 yJ2_indexOfChar_4cfef, Cond.static yJ2_indexOfChar_4cfef]
def wsX5_readFolk_r4 : List Cond := [Cond.code yJ2_indexOfChar_4cfef cJ2_indexOfChar_4cfef 4 (some .int), Cond.methodLink RJ2 96 yJ2_checkBoundsBeginEnd_d044e, Cond.static yJ2_checkBoundsBeginEnd_d044e, Cond.code yJ2_checkBoundsBeginEnd_d044e cJ2_checkBoundsBeginEnd_d044e 3 none, Cond.methodLink RJ2 48 yJ2_length_9d52b, Cond.static yJ2_length_9d52b, Cond.code yJ2_length_9d52b cJ2_length_9d52b 1 (some .int), Cond.methodLink RJ2 241 yJ0_checkBoundsBeginEnd_23922, Cond.static yJ0_checkBoundsBeginEnd_23922, Cond.code yJ0_checkBoundsBeginEnd_23922 cJ0_checkBoundsBeginEnd_23922 3 none, Cond.fieldLink RJ0 1053 "jdk/internal/util/Preconditions" "SIOOBE_FORMATTER" "Ljava/util/function/BiFunction;", Cond.methodLink RJ0 1062 yJ3_checkFromToIndex_8c36e, Cond.static yJ3_checkFromToIndex_8c36e, Cond.initialized RJ3, Cond.code yJ3_checkFromToIndex_8c36e cJ3_checkFromToIndex_8c36e 4 (some .int), Cond.methodLink RJ2 244 yJ2_indexOfCharUnsafe_4cfef, Cond.static yJ2_indexOfCharUnsafe_4cfef, Cond.code yJ2_indexOfCharUnsafe_4cfef cJ2_indexOfCharUnsafe_4cfef 5 (some .int), Cond.methodLink RJ2 71 yJ2_getChar_3b067, Cond.static yJ2_getChar_3b067, Cond.code yJ2_getChar_3b067 cJ2_getChar_3b067 2 (some .char), Cond.fieldLink RJ2 44 "java/lang/StringUTF16" "$assertionsDisabled" "Z", Cond.fieldLink RJ2 59 "java/lang/StringUTF16" "HI_BYTE_SHIFT" "I", Cond.fieldLink RJ2 63 "java/lang/StringUTF16" "LO_BYTE_SHIFT" "I"]
def wsX5_readFolk_r5 : List Cond := [Cond.methodLink RJ2 232 yJ2_indexOfSupplementary_4cfef, Cond.static yJ2_indexOfSupplementary_4cfef, Cond.code yJ2_indexOfSupplementary_4cfef cJ2_indexOfSupplementary_4cfef 7 (some .int), Cond.methodLink RJ2 164 yJ11_isValidCodePoint_9a6ad, Cond.static yJ11_isValidCodePoint_9a6ad, Cond.initialized RJ11, Cond.code yJ11_isValidCodePoint_9a6ad cJ11_isValidCodePoint_9a6ad 2 (some .boolean), Cond.methodLink RJ2 157 yJ11_highSurrogate_5068e, Cond.static yJ11_highSurrogate_5068e, Cond.code yJ11_highSurrogate_5068e cJ11_highSurrogate_5068e 1 (some .char), Cond.constant RJ11 110 (55232), Cond.methodLink RJ2 161 yJ11_lowSurrogate_5068e, Cond.static yJ11_lowSurrogate_5068e, Cond.code yJ11_lowSurrogate_5068e cJ11_lowSurrogate_5068e 1 (some .char), Cond.constant RJ11 76 (56320), Cond.methodLink RX5 45 yX5_fault, Cond.static yX5_fault, Cond.code yX5_fault cX5_fault 1 (some .int), Cond.methodLink RX5 51 yX5_readNumber, Cond.instanceMethod yX5_readNumber, Cond.selects RX5 yX5_readNumber yX5_readNumber, Cond.code yX5_readNumber cX5_readNumber 2 (some .int), Cond.methodLink RX5 72 Lib.Math.max.name, Cond.methodLink RX5 78 Lib.Math.min.name]
def wsX5_readFolk_r6 : List Cond := [Cond.methodLink RX5 55 yX0_add, Cond.instanceMethod yX0_add, Cond.selects RX0 yX0_add yX0_add, Cond.code yX0_add cX0_add 3 none, Cond.fieldLink RX0 22 "HalfAsked$Folk" "kind" "[I", Cond.fieldLink RX0 26 "HalfAsked$Folk" "pence" "[I"]
def wsX5_readFolk : List Cond := .code yX5_readFolk cX5_readFolk 7 (some .int) :: ((wsX5_readFolk_r1 ++ (wsX5_readFolk_r2 ++ (wsX5_readFolk_r3 ++ (wsX5_readFolk_r4 ++ (wsX5_readFolk_r5 ++ wsX5_readFolk_r6))))) ++ wsX50 ++ wsX00)
def wsX5_readAsking : List Cond := .code yX5_readAsking cX5_readAsking 5 (some .boolean) :: ([.fieldLink RX5 15 "HalfAsked$Tape" "at" "I", .methodLink RX5 35 yX5_look, .instanceMethod yX5_look, .selects RX5 yX5_look yX5_look, .initialized RX5, .code yX5_look cX5_look 1 (some .char), .fieldLink RX5 9 "HalfAsked$Tape" "size" "I", .fieldLink RX5 18 "HalfAsked$Tape" "signs" "[C", .methodLink RX5 48 yX5_skipBlanks, .instanceMethod yX5_skipBlanks, .selects RX5 yX5_skipBlanks yX5_skipBlanks, .code yX5_skipBlanks cX5_skipBlanks 1 none, .methodLink RX5 71 yX2_add, .instanceMethod yX2_add, .selects RX2 yX2_add yX2_add, .initialized RX2, .code yX2_add cX2_add 3 none, .fieldLink RX2 9 "HalfAsked$Plan" "size" "I", .fieldLink RX2 18 "HalfAsked$Plan" "by" "[I", .fieldLink RX2 22 "HalfAsked$Plan" "of" "[I"] ++ wsX50 ++ wsX20)
def wsX5_readPlan_r1 : List Cond := [Cond.fieldLink RX5 15 "HalfAsked$Tape" "at" "I", Cond.fieldLink RX5 67 "HalfAsked$Plan" "ends" "I", Cond.fieldLink RX5 70 "HalfAsked$Plan" "size" "I", Cond.methodLink RX5 60 yX2_clear, Cond.instanceMethod yX2_clear, Cond.selects RX2 yX2_clear yX2_clear, Cond.initialized RX2, Cond.code yX2_clear cX2_clear 1 none, Cond.fieldLink RX2 9 "HalfAsked$Plan" "size" "I", Cond.fieldLink RX2 15 "HalfAsked$Plan" "ends" "I", Cond.methodLink RX5 63 yX5_readAsking, Cond.instanceMethod yX5_readAsking, Cond.selects RX5 yX5_readAsking yX5_readAsking, Cond.initialized RX5, Cond.code yX5_readAsking cX5_readAsking 5 (some .boolean), Cond.methodLink RX5 35 yX5_look, Cond.instanceMethod yX5_look, Cond.selects RX5 yX5_look yX5_look, Cond.code yX5_look cX5_look 1 (some .char), Cond.fieldLink RX5 9 "HalfAsked$Tape" "size" "I", Cond.fieldLink RX5 18 "HalfAsked$Tape" "signs" "[C", Cond.methodLink RX5 48 yX5_skipBlanks, Cond.instanceMethod yX5_skipBlanks, Cond.selects RX5 yX5_skipBlanks yX5_skipBlanks]
def wsX5_readPlan_r2 : List Cond := [Cond.code yX5_skipBlanks cX5_skipBlanks 1 none, Cond.methodLink RX5 71 yX2_add, Cond.instanceMethod yX2_add, Cond.selects RX2 yX2_add yX2_add, Cond.code yX2_add cX2_add 3 none, Cond.fieldLink RX2 18 "HalfAsked$Plan" "by" "[I", Cond.fieldLink RX2 22 "HalfAsked$Plan" "of" "[I", Cond.methodLink RX5 45 yX5_fault, Cond.static yX5_fault, Cond.code yX5_fault cX5_fault 1 (some .int)]
def wsX5_readPlan : List Cond := .code yX5_readPlan cX5_readPlan 5 (some .int) :: ((wsX5_readPlan_r1 ++ wsX5_readPlan_r2) ++ wsX50 ++ wsX20)
def wsX6_init_r1 : List Cond := [Cond.methodLink RX6 3 objectInit, Cond.instanceMethod objectInit, Cond.code objectInit ⟨#[0xb1]⟩ 1 none, Cond.fieldLink RX6 9 "HalfAsked$Timing" "most" "I", Cond.fieldLink RX6 15 "HalfAsked$Timing" "way" "I", Cond.fieldLink RX6 18 "HalfAsked$Timing" "asker" "I", Cond.classLink RX6 21 RX2, Cond.instantiable RX2 4, Cond.initialized RX2, Cond.fieldLink RX6 24 "HalfAsked$Timing" "plan" "LHalfAsked$Plan;", Cond.fieldLink RX6 34 "HalfAsked$Timing" "states" "[LHalfAsked$Folk;", Cond.instanceMethod yX2_init, Cond.code yX2_init cX2_init 1 none, Cond.methodLink RX2 3 objectInit, Cond.fieldLink RX2 9 "HalfAsked$Plan" "size" "I", Cond.fieldLink RX2 15 "HalfAsked$Plan" "ends" "I", Cond.arrayClass .int, Cond.fieldLink RX2 18 "HalfAsked$Plan" "by" "[I", Cond.fieldLink RX2 22 "HalfAsked$Plan" "of" "[I", Cond.methodLink RX6 28 yX0_newRow, Cond.static yX0_newRow, Cond.initialized RX0, Cond.code yX0_newRow cX0_newRow 3 (some (.array (.object "HalfAsked$Folk"))), Cond.methodLink RX0 29 Lib.Math.max.name]
def wsX6_init_r2 : List Cond := [Cond.static Lib.Math.max.name, Cond.initialized "java/lang/Math", Cond.code Lib.Math.max.name Lib.Math.max.code 2 (some .int), Cond.classLink RX0 10 RX0, Cond.instantiable RX0 5, Cond.methodLink RX0 35 yX0_init, Cond.instanceMethod yX0_init, Cond.code yX0_init cX0_init 1 none, Cond.methodLink RX0 3 objectInit, Cond.fieldLink RX0 9 "HalfAsked$Folk" "size" "I", Cond.constant RX0 15 (16510910), Cond.fieldLink RX0 16 "HalfAsked$Folk" "known" "I", Cond.fieldLink RX0 19 "HalfAsked$Folk" "asked" "I", Cond.fieldLink RX0 22 "HalfAsked$Folk" "kind" "[I", Cond.fieldLink RX0 26 "HalfAsked$Folk" "pence" "[I"]
def wsX6_init : List Cond := .code yX6_init cX6_init 1 none :: ((wsX6_init_r1 ++ wsX6_init_r2) ++ wsX60 ++ wsX20 ++ wsX00)
def wsX7_init_r1 : List Cond := [Cond.methodLink RX7 3 objectInit, Cond.instanceMethod objectInit, Cond.code objectInit ⟨#[0xb1]⟩ 1 none, Cond.classLink RX7 9 "[[I", Cond.arrayClass .int, Cond.fieldLink RX7 11 "HalfAsked$Turns" "picked" "[[I", Cond.fieldLink RX7 16 "HalfAsked$Turns" "ended" "[[I", Cond.fieldLink RX7 25 "HalfAsked$Turns" "states" "[LHalfAsked$Folk;", Cond.methodLink RX7 19 yX0_newRow, Cond.static yX0_newRow, Cond.initialized RX0, Cond.code yX0_newRow cX0_newRow 3 (some (.array (.object "HalfAsked$Folk"))), Cond.methodLink RX0 29 Lib.Math.max.name, Cond.static Lib.Math.max.name, Cond.initialized "java/lang/Math", Cond.code Lib.Math.max.name Lib.Math.max.code 2 (some .int), Cond.classLink RX0 10 RX0, Cond.instantiable RX0 5, Cond.methodLink RX0 35 yX0_init, Cond.instanceMethod yX0_init, Cond.code yX0_init cX0_init 1 none, Cond.methodLink RX0 3 objectInit, Cond.fieldLink RX0 9 "HalfAsked$Folk" "size" "I", Cond.constant RX0 15 (16510910)]
def wsX7_init_r2 : List Cond := [Cond.fieldLink RX0 16 "HalfAsked$Folk" "known" "I", Cond.fieldLink RX0 19 "HalfAsked$Folk" "asked" "I", Cond.fieldLink RX0 22 "HalfAsked$Folk" "kind" "[I", Cond.fieldLink RX0 26 "HalfAsked$Folk" "pence" "[I"]
def wsX7_init : List Cond := .code yX7_init cX7_init 1 none :: ((wsX7_init_r1 ++ wsX7_init_r2) ++ wsX70 ++ wsX00)
def wsX8_init_r1 : List Cond := [Cond.methodLink RX8 1 objectInit, Cond.instanceMethod objectInit, Cond.code objectInit ⟨#[0xb1]⟩ 1 none, Cond.classLink RX8 7 RX0, Cond.instantiable RX0 5, Cond.initialized RX0, Cond.fieldLink RX8 10 "HalfAsked" "folk" "LHalfAsked$Folk;", Cond.classLink RX8 16 RX2, Cond.instantiable RX2 4, Cond.initialized RX2, Cond.fieldLink RX8 19 "HalfAsked" "plan" "LHalfAsked$Plan;", Cond.classLink RX8 23 RX5, Cond.instantiable RX5 3, Cond.initialized RX5, Cond.fieldLink RX8 26 "HalfAsked" "tape" "LHalfAsked$Tape;", Cond.fieldLink RX8 30 "HalfAsked" "keptFolk" "LHalfAsked$Folk;", Cond.fieldLink RX8 33 "HalfAsked" "keptPlan" "LHalfAsked$Plan;", Cond.fieldLink RX8 36 "HalfAsked" "kept" "Z", Cond.classLink RX8 40 RX4, Cond.fieldLink RX8 42 "HalfAsked" "sheets" "[LHalfAsked$Sheet;", Cond.fieldLink RX8 46 "HalfAsked" "trialFolk" "LHalfAsked$Folk;", Cond.fieldLink RX8 49 "HalfAsked" "trialPlan" "LHalfAsked$Plan;", Cond.arrayClass .long, Cond.fieldLink RX8 52 "HalfAsked" "shares" "[J"]
def wsX8_init_r2 : List Cond := [Cond.classLink RX8 56 RX6, Cond.instantiable RX6 5, Cond.initialized RX6, Cond.fieldLink RX8 59 "HalfAsked" "timing" "LHalfAsked$Timing;", Cond.classLink RX8 63 RX7, Cond.instantiable RX7 3, Cond.initialized RX7, Cond.fieldLink RX8 66 "HalfAsked" "turning" "LHalfAsked$Turns;", Cond.classLink RX8 70 RX1, Cond.instantiable RX1 8, Cond.initialized RX1, Cond.fieldLink RX8 73 "HalfAsked" "orders" "LHalfAsked$Orders;", Cond.classLink RX8 77 RX3, Cond.instantiable RX3 6, Cond.initialized RX3, Cond.fieldLink RX8 80 "HalfAsked" "saturdays" "LHalfAsked$Saturdays;", Cond.fieldLink RX8 84 "HalfAsked" "timedFor" "I", Cond.fieldLink RX8 88 "HalfAsked" "turned" "Z", Cond.fieldLink RX8 91 "HalfAsked" "ordered" "Z", Cond.instanceMethod yX0_init, Cond.code yX0_init cX0_init 1 none, Cond.methodLink RX0 3 objectInit, Cond.fieldLink RX0 9 "HalfAsked$Folk" "size" "I", Cond.constant RX0 15 (16510910)]
def wsX8_init_r3 : List Cond := [Cond.fieldLink RX0 16 "HalfAsked$Folk" "known" "I", Cond.fieldLink RX0 19 "HalfAsked$Folk" "asked" "I", Cond.arrayClass .int, Cond.fieldLink RX0 22 "HalfAsked$Folk" "kind" "[I", Cond.fieldLink RX0 26 "HalfAsked$Folk" "pence" "[I", Cond.instanceMethod yX2_init, Cond.code yX2_init cX2_init 1 none, Cond.methodLink RX2 3 objectInit, Cond.fieldLink RX2 9 "HalfAsked$Plan" "size" "I", Cond.fieldLink RX2 15 "HalfAsked$Plan" "ends" "I", Cond.fieldLink RX2 18 "HalfAsked$Plan" "by" "[I", Cond.fieldLink RX2 22 "HalfAsked$Plan" "of" "[I", Cond.instanceMethod yX5_init, Cond.code yX5_init cX5_init 1 none, Cond.methodLink RX5 3 objectInit, Cond.fieldLink RX5 9 "HalfAsked$Tape" "size" "I", Cond.fieldLink RX5 15 "HalfAsked$Tape" "at" "I", Cond.arrayClass .char, Cond.fieldLink RX5 18 "HalfAsked$Tape" "signs" "[C", Cond.instanceMethod yX6_init, Cond.code yX6_init cX6_init 1 none, Cond.methodLink RX6 3 objectInit, Cond.fieldLink RX6 9 "HalfAsked$Timing" "most" "I", Cond.fieldLink RX6 15 "HalfAsked$Timing" "way" "I"]
def wsX8_init_r4 : List Cond := [Cond.fieldLink RX6 18 "HalfAsked$Timing" "asker" "I", Cond.classLink RX6 21 RX2, Cond.fieldLink RX6 24 "HalfAsked$Timing" "plan" "LHalfAsked$Plan;", Cond.fieldLink RX6 34 "HalfAsked$Timing" "states" "[LHalfAsked$Folk;", Cond.methodLink RX6 28 yX0_newRow, Cond.static yX0_newRow, Cond.code yX0_newRow cX0_newRow 3 (some (.array (.object "HalfAsked$Folk"))), Cond.methodLink RX0 29 Lib.Math.max.name, Cond.static Lib.Math.max.name, Cond.initialized "java/lang/Math", Cond.code Lib.Math.max.name Lib.Math.max.code 2 (some .int), Cond.classLink RX0 10 RX0, Cond.methodLink RX0 35 yX0_init, Cond.instanceMethod yX7_init, Cond.code yX7_init cX7_init 1 none, Cond.methodLink RX7 3 objectInit, Cond.classLink RX7 9 "[[I", Cond.fieldLink RX7 11 "HalfAsked$Turns" "picked" "[[I", Cond.fieldLink RX7 16 "HalfAsked$Turns" "ended" "[[I", Cond.fieldLink RX7 25 "HalfAsked$Turns" "states" "[LHalfAsked$Folk;", Cond.methodLink RX7 19 yX0_newRow, Cond.instanceMethod yX1_init, Cond.code yX1_init cX1_init 1 none, Cond.methodLink RX1 3 objectInit]
def wsX8_init_r5 : List Cond := [Cond.fieldLink RX1 9 "HalfAsked$Orders" "leastSpan" "I", Cond.fieldLink RX1 15 "HalfAsked$Orders" "fitting" "I", Cond.fieldLink RX1 18 "HalfAsked$Orders" "first" "[I", Cond.fieldLink RX1 22 "HalfAsked$Orders" "row" "[I", Cond.fieldLink RX1 25 "HalfAsked$Orders" "wanted" "I", Cond.fieldLink RX1 28 "HalfAsked$Orders" "wantedPence" "I", Cond.classLink RX1 31 RX2, Cond.fieldLink RX1 34 "HalfAsked$Orders" "plan" "LHalfAsked$Plan;", Cond.fieldLink RX1 44 "HalfAsked$Orders" "states" "[LHalfAsked$Folk;", Cond.methodLink RX1 38 yX0_newRow, Cond.instanceMethod yX3_init, Cond.code yX3_init cX3_init 1 none, Cond.methodLink RX3 3 objectInit, Cond.fieldLink RX3 9 "HalfAsked$Saturdays" "rows" "I", Cond.fieldLink RX3 15 "HalfAsked$Saturdays" "first" "[I", Cond.fieldLink RX3 19 "HalfAsked$Saturdays" "row" "[I", Cond.fieldLink RX3 22 "HalfAsked$Saturdays" "goal" "[I", Cond.fieldLink RX3 25 "HalfAsked$Saturdays" "length" "I", Cond.fieldLink RX3 34 "HalfAsked$Saturdays" "states" "[LHalfAsked$Folk;", Cond.methodLink RX3 28 yX0_newRow]
def wsX8_init : List Cond := .code yX8_init cX8_init 1 none :: ((wsX8_init_r1 ++ (wsX8_init_r2 ++ (wsX8_init_r3 ++ (wsX8_init_r4 ++ wsX8_init_r5)))) ++ wsX00 ++ wsX80 ++ wsX20 ++ wsX50 ++ wsX60 ++ wsX70 ++ wsX10 ++ wsX30)
def wsX8_isSum : List Cond := .code yX8_isSum cX8_isSum 1 (some .boolean) :: ([])
def wsX8_forgetFound : List Cond := .code yX8_forgetFound cX8_forgetFound 1 none :: ([.fieldLink RX8 84 "HalfAsked" "timedFor" "I", .fieldLink RX8 88 "HalfAsked" "turned" "Z", .fieldLink RX8 91 "HalfAsked" "ordered" "Z"] ++ wsX80)
def wsX8_person : List Cond := .code yX8_person cX8_person 3 (some .int) :: ([.fieldLink RX8 10 "HalfAsked" "folk" "LHalfAsked$Folk;", .fieldLink RX8 98 "HalfAsked$Folk" "size" "I", .methodLink RX8 94 yX8_isSum, .static yX8_isSum, .initialized RX8, .code yX8_isSum cX8_isSum 1 (some .boolean), .methodLink RX8 101 yX8_forgetFound, .instanceMethod yX8_forgetFound, .selects RX8 yX8_forgetFound yX8_forgetFound, .code yX8_forgetFound cX8_forgetFound 1 none, .fieldLink RX8 84 "HalfAsked" "timedFor" "I", .fieldLink RX8 88 "HalfAsked" "turned" "Z", .fieldLink RX8 91 "HalfAsked" "ordered" "Z", .methodLink RX8 104 yX0_add, .instanceMethod yX0_add, .selects RX0 yX0_add yX0_add, .initialized RX0, .code yX0_add cX0_add 3 none, .fieldLink RX0 9 "HalfAsked$Folk" "size" "I", .fieldLink RX0 22 "HalfAsked$Folk" "kind" "[I", .fieldLink RX0 26 "HalfAsked$Folk" "pence" "[I"] ++ wsX80 ++ wsX00)
def wsX8_set : List Cond := .code yX8_set cX8_set 4 (some .int) :: ([.fieldLink RX8 10 "HalfAsked" "folk" "LHalfAsked$Folk;", .fieldLink RX8 111 "HalfAsked$Folk" "pence" "[I", .methodLink RX8 108 yX0_has, .instanceMethod yX0_has, .selects RX0 yX0_has yX0_has, .initialized RX0, .code yX0_has cX0_has 2 (some .boolean), .fieldLink RX0 9 "HalfAsked$Folk" "size" "I", .methodLink RX8 94 yX8_isSum, .static yX8_isSum, .initialized RX8, .code yX8_isSum cX8_isSum 1 (some .boolean), .methodLink RX8 101 yX8_forgetFound, .instanceMethod yX8_forgetFound, .selects RX8 yX8_forgetFound yX8_forgetFound, .code yX8_forgetFound cX8_forgetFound 1 none, .fieldLink RX8 84 "HalfAsked" "timedFor" "I", .fieldLink RX8 88 "HalfAsked" "turned" "Z", .fieldLink RX8 91 "HalfAsked" "ordered" "Z"] ++ wsX80 ++ wsX00)
def wsX8_told : List Cond := .code yX8_told cX8_told 3 (some .int) :: ([.fieldLink RX8 10 "HalfAsked" "folk" "LHalfAsked$Folk;", .fieldLink RX8 115 "HalfAsked$Folk" "kind" "[I", .fieldLink RX8 111 "HalfAsked$Folk" "pence" "[I", .fieldLink RX8 122 "HalfAsked$Folk" "known" "I", .fieldLink RX8 129 "HalfAsked$Folk" "asked" "I", .methodLink RX8 108 yX0_has, .instanceMethod yX0_has, .selects RX0 yX0_has yX0_has, .initialized RX0, .code yX0_has cX0_has 2 (some .boolean), .fieldLink RX0 9 "HalfAsked$Folk" "size" "I", .methodLink RX8 118 yX0_gives, .instanceMethod yX0_gives, .selects RX0 yX0_gives yX0_gives, .code yX0_gives cX0_gives 3 (some .int), .fieldLink RX0 26 "HalfAsked$Folk" "pence" "[I", .fieldLink RX0 22 "HalfAsked$Folk" "kind" "[I", .methodLink RX8 125 yX0_others, .instanceMethod yX0_others, .selects RX0 yX0_others yX0_others, .code yX0_others cX0_others 3 (some .int)] ++ wsX80 ++ wsX00)
def wsX8_knows : List Cond := .code yX8_knows cX8_knows 6 (some .int) :: ([.fieldLink RX8 10 "HalfAsked" "folk" "LHalfAsked$Folk;", .fieldLink RX8 122 "HalfAsked$Folk" "known" "I", .methodLink RX8 132 yX0_isPair, .instanceMethod yX0_isPair, .selects RX0 yX0_isPair yX0_isPair, .initialized RX0, .code yX0_isPair cX0_isPair 3 (some .boolean), .methodLink RX0 42 yX0_has, .instanceMethod yX0_has, .selects RX0 yX0_has yX0_has, .code yX0_has cX0_has 2 (some .boolean), .fieldLink RX0 9 "HalfAsked$Folk" "size" "I", .methodLink RX8 101 yX8_forgetFound, .instanceMethod yX8_forgetFound, .selects RX8 yX8_forgetFound yX8_forgetFound, .initialized RX8, .code yX8_forgetFound cX8_forgetFound 1 none, .fieldLink RX8 84 "HalfAsked" "timedFor" "I", .fieldLink RX8 88 "HalfAsked" "turned" "Z", .fieldLink RX8 91 "HalfAsked" "ordered" "Z", .methodLink RX8 136 yX0_pair, .static yX0_pair, .code yX0_pair cX0_pair 2 (some .int)] ++ wsX80 ++ wsX00)
def wsX8_ask_r1 : List Cond := [Cond.fieldLink RX8 10 "HalfAsked" "folk" "LHalfAsked$Folk;", Cond.methodLink RX8 132 yX0_isPair, Cond.instanceMethod yX0_isPair, Cond.selects RX0 yX0_isPair yX0_isPair, Cond.initialized RX0, Cond.code yX0_isPair cX0_isPair 3 (some .boolean), Cond.methodLink RX0 42 yX0_has, Cond.instanceMethod yX0_has, Cond.selects RX0 yX0_has yX0_has, Cond.code yX0_has cX0_has 2 (some .boolean), Cond.fieldLink RX0 9 "HalfAsked$Folk" "size" "I", Cond.methodLink RX8 101 yX8_forgetFound, Cond.instanceMethod yX8_forgetFound, Cond.selects RX8 yX8_forgetFound yX8_forgetFound, Cond.initialized RX8, Cond.code yX8_forgetFound cX8_forgetFound 1 none, Cond.fieldLink RX8 84 "HalfAsked" "timedFor" "I", Cond.fieldLink RX8 88 "HalfAsked" "turned" "Z", Cond.fieldLink RX8 91 "HalfAsked" "ordered" "Z", Cond.methodLink RX8 139 yX0_tryAsking, Cond.instanceMethod yX0_tryAsking, Cond.selects RX0 yX0_tryAsking yX0_tryAsking, Cond.code yX0_tryAsking cX0_tryAsking 5 (some .int), Cond.fieldLink RX0 16 "HalfAsked$Folk" "known" "I"]
def wsX8_ask_r2 : List Cond := [Cond.fieldLink RX0 19 "HalfAsked$Folk" "asked" "I", Cond.fieldLink RX0 26 "HalfAsked$Folk" "pence" "[I", Cond.methodLink RX0 52 yX0_pair, Cond.static yX0_pair, Cond.code yX0_pair cX0_pair 2 (some .int), Cond.methodLink RX0 55 yX0_gives, Cond.instanceMethod yX0_gives, Cond.selects RX0 yX0_gives yX0_gives, Cond.code yX0_gives cX0_gives 3 (some .int), Cond.fieldLink RX0 22 "HalfAsked$Folk" "kind" "[I"]
def wsX8_ask : List Cond := .code yX8_ask cX8_ask 3 (some .int) :: ((wsX8_ask_r1 ++ wsX8_ask_r2) ++ wsX80 ++ wsX00)
def wsX8_week : List Cond := .code yX8_week cX8_week 2 (some .int) :: ([.fieldLink RX8 10 "HalfAsked" "folk" "LHalfAsked$Folk;", .fieldLink RX8 129 "HalfAsked$Folk" "asked" "I", .methodLink RX8 101 yX8_forgetFound, .instanceMethod yX8_forgetFound, .selects RX8 yX8_forgetFound yX8_forgetFound, .initialized RX8, .code yX8_forgetFound cX8_forgetFound 1 none, .fieldLink RX8 84 "HalfAsked" "timedFor" "I", .fieldLink RX8 88 "HalfAsked" "turned" "Z", .fieldLink RX8 91 "HalfAsked" "ordered" "Z", .methodLink RX8 142 yX0_askings, .instanceMethod yX0_askings, .selects RX0 yX0_askings yX0_askings, .initialized RX0, .code yX0_askings cX0_askings 1 (some .int), .fieldLink RX0 19 "HalfAsked$Folk" "asked" "I", .methodLink RX0 46 yJ6_bitCount_0f7a4, .static yJ6_bitCount_0f7a4, .initialized RJ6, .code yJ6_bitCount_0f7a4 cJ6_bitCount_0f7a4 1 (some .int), .constant RJ6 265 (1431655765), .constant RJ6 266 (858993459), .constant RJ6 267 (252645135)] ++ wsX80 ++ wsX00)
def wsX8_type : List Cond := .code yX8_type cX8_type 4 (some .int) :: ([.fieldLink RX8 26 "HalfAsked" "tape" "LHalfAsked$Tape;", .fieldLink RX8 150 "HalfAsked$Tape" "size" "I", .methodLink RX8 146 yX5_areSigns, .static yX5_areSigns, .initialized RX5, .code yX5_areSigns cX5_areSigns 6 (some .boolean), .constantLong RX5 22 (255), .constantLong RX5 24 (32), .constantLong RX5 26 (126), .methodLink RX8 151 yX5_add, .instanceMethod yX5_add, .selects RX5 yX5_add yX5_add, .code yX5_add cX5_add 5 none, .fieldLink RX5 9 "HalfAsked$Tape" "size" "I", .fieldLink RX5 18 "HalfAsked$Tape" "signs" "[C"] ++ wsX80 ++ wsX50)
def wsX8_people_r1 : List Cond := [Cond.fieldLink RX8 26 "HalfAsked" "tape" "LHalfAsked$Tape;", Cond.fieldLink RX8 46 "HalfAsked" "trialFolk" "LHalfAsked$Folk;", Cond.fieldLink RX8 150 "HalfAsked$Tape" "size" "I", Cond.fieldLink RX8 10 "HalfAsked" "folk" "LHalfAsked$Folk;", Cond.fieldLink RX8 19 "HalfAsked" "plan" "LHalfAsked$Plan;", Cond.methodLink RX8 154 yX5_readFolk, Cond.instanceMethod yX5_readFolk, Cond.selects RX5 yX5_readFolk yX5_readFolk, Cond.initialized RX5, Cond.code yX5_readFolk cX5_readFolk 7 (some .int), Cond.fieldLink RX5 15 "HalfAsked$Tape" "at" "I", Cond.fieldLink RX5 59 "HalfAsked$Folk" "size" "I", Cond.methodLink RX5 28 yX0_clear, Cond.instanceMethod yX0_clear, Cond.selects RX0 yX0_clear yX0_clear, Cond.initialized RX0, Cond.code yX0_clear cX0_clear 1 none, Cond.fieldLink RX0 9 "HalfAsked$Folk" "size" "I", Cond.constant RX0 15 (16510910), Cond.fieldLink RX0 16 "HalfAsked$Folk" "known" "I", Cond.fieldLink RX0 19 "HalfAsked$Folk" "asked" "I", Cond.methodLink RX5 35 yX5_look, Cond.instanceMethod yX5_look, Cond.selects RX5 yX5_look yX5_look]
def wsX8_people_r2 : List Cond := [Cond.code yX5_look cX5_look 1 (some .char), Cond.fieldLink RX5 9 "HalfAsked$Tape" "size" "I", Cond.fieldLink RX5 18 "HalfAsked$Tape" "signs" "[C", Cond.methodLink RX5 48 yX5_skipBlanks, Cond.instanceMethod yX5_skipBlanks, Cond.selects RX5 yX5_skipBlanks yX5_skipBlanks, Cond.code yX5_skipBlanks cX5_skipBlanks 1 none, Cond.methodLink RX5 39 yJ0_indexOf_0f7a4, Cond.instanceMethod yJ0_indexOf_0f7a4, Cond.selects RJ0 yJ0_indexOf_0f7a4 yJ0_indexOf_0f7a4, Cond.initialized RJ0, Cond.code yJ0_indexOf_0f7a4 cJ0_indexOf_0f7a4 2 (some .int), Cond.methodLink RJ0 633 yJ0_indexOf_7cf53, Cond.instanceMethod yJ0_indexOf_7cf53, Cond.selects RJ0 yJ0_indexOf_7cf53 yJ0_indexOf_7cf53, Cond.code yJ0_indexOf_7cf53 cJ0_indexOf_7cf53 3 (some .int), Cond.fieldLink RJ0 9 "java/lang/String" "value" "[B", Cond.methodLink RJ0 492 yJ0_isLatin1_aae02, Cond.instanceMethod yJ0_isLatin1_aae02, Cond.selects RJ0 yJ0_isLatin1_aae02 yJ0_isLatin1_aae02, Cond.code yJ0_isLatin1_aae02 cJ0_isLatin1_aae02 1 (some .boolean), Cond.fieldLink RJ0 38 "java/lang/String" "COMPACT_STRINGS" "Z", Cond.fieldLink RJ0 15 "java/lang/String" "coder" "B", Cond.methodLink RJ0 505 yJ0_length_8abf5]
def wsX8_people_r3 : List Cond := [Cond.instanceMethod yJ0_length_8abf5, Cond.selects RJ0 yJ0_length_8abf5 yJ0_length_8abf5, Cond.code yJ0_length_8abf5 cJ0_length_8abf5 1 (some .int), Cond.methodLink RJ0 335 yJ0_coder_7d493, Cond.instanceMethod yJ0_coder_7d493, Cond.selects RJ0 yJ0_coder_7d493 yJ0_coder_7d493, Cond.code yJ0_coder_7d493 cJ0_coder_7d493 1 (some .byte), Cond.methodLink RJ0 637 yJ1_indexOf_4cfef, Cond.static yJ1_indexOf_4cfef, Cond.initialized RJ1, Cond.code yJ1_indexOf_4cfef cJ1_indexOf_4cfef 4 (some .int), Cond.methodLink RJ1 92 Lib.Math.max.name, Cond.static Lib.Math.max.name, Cond.initialized "java/lang/Math", Cond.code Lib.Math.max.name Lib.Math.max.code 2 (some .int), Cond.methodLink RJ1 38 Lib.Math.min.name, Cond.static Lib.Math.min.name, Cond.code Lib.Math.min.name Lib.Math.min.code 2 (some .int), Cond.methodLink RJ1 88 yJ1_canEncode_9a6ad, Cond.static yJ1_canEncode_9a6ad, Cond.code yJ1_canEncode_9a6ad cJ1_canEncode_9a6ad 1 (some .boolean), Cond.methodLink RJ1 95 yJ1_indexOfChar_4cfef, Cond.static yJ1_indexOfChar_4cfef, Cond.code yJ1_indexOfChar_4cfef cJ1_indexOfChar_4cfef 6 (some .int)]
def wsX8_people_r4 : List Cond := [Cond.methodLink RJ0 640 yJ2_indexOf_4cfef, Cond.static yJ2_indexOf_4cfef, Cond.initialized RJ2, Cond.code yJ2_indexOf_4cfef cJ2_indexOf_4cfef 4 (some .int), Cond.methodLink RJ2 224 Lib.Math.max.name, Cond.methodLink RJ2 183 Lib.Math.min.name, Cond.constant RJ2 227 (65536), Cond.methodLink RJ2 228 yJ2_indexOfChar_4cfef, Cond.static yJ2_indexOfChar_4cfef, Cond.code yJ2_indexOfChar_4cfef cJ2_indexOfChar_4cfef 4 (some .int), Cond.methodLink RJ2 96 yJ2_checkBoundsBeginEnd_d044e, Cond.static yJ2_checkBoundsBeginEnd_d044e, Cond.code yJ2_checkBoundsBeginEnd_d044e cJ2_checkBoundsBeginEnd_d044e 3 none, Cond.methodLink RJ2 48 yJ2_length_9d52b, Cond.static yJ2_length_9d52b, Cond.code yJ2_length_9d52b cJ2_length_9d52b 1 (some .int), Cond.methodLink RJ2 241 yJ0_checkBoundsBeginEnd_23922, Cond.static yJ0_checkBoundsBeginEnd_23922, Cond.code yJ0_checkBoundsBeginEnd_23922 cJ0_checkBoundsBeginEnd_23922 3 none, Cond.fieldLink RJ0 1053 "jdk/internal/util/Preconditions" "SIOOBE_FORMATTER" "Ljava/util/function/BiFunction;", Cond.methodLink RJ0 1062 yJ3_checkFromToIndex_8c36e, Cond.static yJ3_checkFromToIndex_8c36e, Cond.initialized RJ3, Cond.code yJ3_checkFromToIndex_8c36e cJ3_checkFromToIndex_8c36e 4 (some .int)]
def wsX8_people_r5 : List Cond := [Cond.methodLink RJ2 244 yJ2_indexOfCharUnsafe_4cfef, Cond.static yJ2_indexOfCharUnsafe_4cfef, Cond.code yJ2_indexOfCharUnsafe_4cfef cJ2_indexOfCharUnsafe_4cfef 5 (some .int), Cond.methodLink RJ2 71 yJ2_getChar_3b067, Cond.static yJ2_getChar_3b067, Cond.code yJ2_getChar_3b067 cJ2_getChar_3b067 2 (some .char), Cond.fieldLink RJ2 44 "java/lang/StringUTF16" "$assertionsDisabled" "Z", Cond.fieldLink RJ2 59 "java/lang/StringUTF16" "HI_BYTE_SHIFT" "I", Cond.fieldLink RJ2 63 "java/lang/StringUTF16" "LO_BYTE_SHIFT" "I", Cond.methodLink RJ2 232 yJ2_indexOfSupplementary_4cfef, Cond.static yJ2_indexOfSupplementary_4cfef, Cond.code yJ2_indexOfSupplementary_4cfef cJ2_indexOfSupplementary_4cfef 7 (some .int), Cond.methodLink RJ2 164 yJ11_isValidCodePoint_9a6ad, Cond.static yJ11_isValidCodePoint_9a6ad, Cond.initialized RJ11, Cond.code yJ11_isValidCodePoint_9a6ad cJ11_isValidCodePoint_9a6ad 2 (some .boolean), Cond.methodLink RJ2 157 yJ11_highSurrogate_5068e, Cond.static yJ11_highSurrogate_5068e, Cond.code yJ11_highSurrogate_5068e cJ11_highSurrogate_5068e 1 (some .char), Cond.constant RJ11 110 (55232), Cond.methodLink RJ2 161 yJ11_lowSurrogate_5068e, Cond.static yJ11_lowSurrogate_5068e, Cond.code yJ11_lowSurrogate_5068e cJ11_lowSurrogate_5068e 1 (some .char), Cond.constant RJ11 76 (56320)]
def wsX8_people_r6 : List Cond := [Cond.methodLink RX5 45 yX5_fault, Cond.static yX5_fault, Cond.code yX5_fault cX5_fault 1 (some .int), Cond.methodLink RX5 51 yX5_readNumber, Cond.instanceMethod yX5_readNumber, Cond.selects RX5 yX5_readNumber yX5_readNumber, Cond.code yX5_readNumber cX5_readNumber 2 (some .int), Cond.methodLink RX5 72 Lib.Math.max.name, Cond.methodLink RX5 78 Lib.Math.min.name, Cond.methodLink RX5 55 yX0_add, Cond.instanceMethod yX0_add, Cond.selects RX0 yX0_add yX0_add, Cond.code yX0_add cX0_add 3 none, Cond.fieldLink RX0 22 "HalfAsked$Folk" "kind" "[I", Cond.fieldLink RX0 26 "HalfAsked$Folk" "pence" "[I", Cond.methodLink RX8 101 yX8_forgetFound, Cond.instanceMethod yX8_forgetFound, Cond.selects RX8 yX8_forgetFound yX8_forgetFound, Cond.initialized RX8, Cond.code yX8_forgetFound cX8_forgetFound 1 none, Cond.fieldLink RX8 84 "HalfAsked" "timedFor" "I", Cond.fieldLink RX8 88 "HalfAsked" "turned" "Z", Cond.fieldLink RX8 91 "HalfAsked" "ordered" "Z", Cond.methodLink RX8 158 yX0_takeFrom]
def wsX8_people_r7 : List Cond := [Cond.instanceMethod yX0_takeFrom, Cond.selects RX0 yX0_takeFrom yX0_takeFrom, Cond.code yX0_takeFrom cX0_takeFrom 2 none, Cond.methodLink RX0 36 arraycopyName, Cond.native arraycopyName, Cond.static arraycopyName, Cond.initialized "java/lang/System", Cond.methodLink RX8 162 yX2_clear, Cond.instanceMethod yX2_clear, Cond.selects RX2 yX2_clear yX2_clear, Cond.initialized RX2, Cond.code yX2_clear cX2_clear 1 none, Cond.fieldLink RX2 9 "HalfAsked$Plan" "size" "I", Cond.fieldLink RX2 15 "HalfAsked$Plan" "ends" "I"]
def wsX8_people : List Cond := .code yX8_people cX8_people 2 (some .int) :: ((wsX8_people_r1 ++ (wsX8_people_r2 ++ (wsX8_people_r3 ++ (wsX8_people_r4 ++ (wsX8_people_r5 ++ (wsX8_people_r6 ++ wsX8_people_r7)))))) ++ wsX80 ++ wsX50 ++ wsX00 ++ wsX20)
def wsX8_plan_r1 : List Cond := [Cond.fieldLink RX8 26 "HalfAsked" "tape" "LHalfAsked$Tape;", Cond.fieldLink RX8 49 "HalfAsked" "trialPlan" "LHalfAsked$Plan;", Cond.fieldLink RX8 10 "HalfAsked" "folk" "LHalfAsked$Folk;", Cond.fieldLink RX8 98 "HalfAsked$Folk" "size" "I", Cond.fieldLink RX8 150 "HalfAsked$Tape" "size" "I", Cond.fieldLink RX8 19 "HalfAsked" "plan" "LHalfAsked$Plan;", Cond.methodLink RX8 165 yX5_readPlan, Cond.instanceMethod yX5_readPlan, Cond.selects RX5 yX5_readPlan yX5_readPlan, Cond.initialized RX5, Cond.code yX5_readPlan cX5_readPlan 5 (some .int), Cond.fieldLink RX5 15 "HalfAsked$Tape" "at" "I", Cond.fieldLink RX5 67 "HalfAsked$Plan" "ends" "I", Cond.fieldLink RX5 70 "HalfAsked$Plan" "size" "I", Cond.methodLink RX5 60 yX2_clear, Cond.instanceMethod yX2_clear, Cond.selects RX2 yX2_clear yX2_clear, Cond.initialized RX2, Cond.code yX2_clear cX2_clear 1 none, Cond.fieldLink RX2 9 "HalfAsked$Plan" "size" "I", Cond.fieldLink RX2 15 "HalfAsked$Plan" "ends" "I", Cond.methodLink RX5 63 yX5_readAsking, Cond.instanceMethod yX5_readAsking, Cond.selects RX5 yX5_readAsking yX5_readAsking]
def wsX8_plan_r2 : List Cond := [Cond.code yX5_readAsking cX5_readAsking 5 (some .boolean), Cond.methodLink RX5 35 yX5_look, Cond.instanceMethod yX5_look, Cond.selects RX5 yX5_look yX5_look, Cond.code yX5_look cX5_look 1 (some .char), Cond.fieldLink RX5 9 "HalfAsked$Tape" "size" "I", Cond.fieldLink RX5 18 "HalfAsked$Tape" "signs" "[C", Cond.methodLink RX5 48 yX5_skipBlanks, Cond.instanceMethod yX5_skipBlanks, Cond.selects RX5 yX5_skipBlanks yX5_skipBlanks, Cond.code yX5_skipBlanks cX5_skipBlanks 1 none, Cond.methodLink RX5 71 yX2_add, Cond.instanceMethod yX2_add, Cond.selects RX2 yX2_add yX2_add, Cond.code yX2_add cX2_add 3 none, Cond.fieldLink RX2 18 "HalfAsked$Plan" "by" "[I", Cond.fieldLink RX2 22 "HalfAsked$Plan" "of" "[I", Cond.methodLink RX5 45 yX5_fault, Cond.static yX5_fault, Cond.code yX5_fault cX5_fault 1 (some .int), Cond.methodLink RX8 101 yX8_forgetFound, Cond.instanceMethod yX8_forgetFound, Cond.selects RX8 yX8_forgetFound yX8_forgetFound, Cond.initialized RX8]
def wsX8_plan_r3 : List Cond := [Cond.code yX8_forgetFound cX8_forgetFound 1 none, Cond.fieldLink RX8 84 "HalfAsked" "timedFor" "I", Cond.fieldLink RX8 88 "HalfAsked" "turned" "Z", Cond.fieldLink RX8 91 "HalfAsked" "ordered" "Z", Cond.methodLink RX8 169 yX2_takeFrom, Cond.instanceMethod yX2_takeFrom, Cond.selects RX2 yX2_takeFrom yX2_takeFrom, Cond.code yX2_takeFrom cX2_takeFrom 2 none, Cond.methodLink RX2 25 arraycopyName, Cond.native arraycopyName, Cond.static arraycopyName, Cond.initialized "java/lang/System"]
def wsX8_plan : List Cond := .code yX8_plan cX8_plan 2 (some .int) :: ((wsX8_plan_r1 ++ (wsX8_plan_r2 ++ wsX8_plan_r3)) ++ wsX80 ++ wsX00 ++ wsX50 ++ wsX20)
def wsX8_count_r1 : List Cond := [Cond.fieldLink RX8 10 "HalfAsked" "folk" "LHalfAsked$Folk;", Cond.fieldLink RX8 98 "HalfAsked$Folk" "size" "I", Cond.fieldLink RX8 19 "HalfAsked" "plan" "LHalfAsked$Plan;", Cond.fieldLink RX8 175 "HalfAsked$Plan" "size" "I", Cond.fieldLink RX8 176 "HalfAsked$Plan" "ends" "I", Cond.methodLink RX8 172 yX0_penceOfAll, Cond.instanceMethod yX0_penceOfAll, Cond.selects RX0 yX0_penceOfAll yX0_penceOfAll, Cond.initialized RX0, Cond.code yX0_penceOfAll cX0_penceOfAll 3 (some .int), Cond.fieldLink RX0 9 "HalfAsked$Folk" "size" "I", Cond.fieldLink RX0 26 "HalfAsked$Folk" "pence" "[I", Cond.methodLink RX8 142 yX0_askings, Cond.instanceMethod yX0_askings, Cond.selects RX0 yX0_askings yX0_askings, Cond.code yX0_askings cX0_askings 1 (some .int), Cond.fieldLink RX0 19 "HalfAsked$Folk" "asked" "I", Cond.methodLink RX0 46 yJ6_bitCount_0f7a4, Cond.static yJ6_bitCount_0f7a4, Cond.initialized RJ6, Cond.code yJ6_bitCount_0f7a4 cJ6_bitCount_0f7a4 1 (some .int), Cond.constant RJ6 265 (1431655765), Cond.constant RJ6 266 (858993459), Cond.constant RJ6 267 (252645135)]
def wsX8_count_r2 : List Cond := [Cond.methodLink RX8 179 yJ6_bitCount_0f7a4]
def wsX8_count : List Cond := .code yX8_count cX8_count 2 (some .int) :: ((wsX8_count_r1 ++ wsX8_count_r2) ++ wsX80 ++ wsX00 ++ wsX20)
def wsX8_run_r1 : List Cond := [Cond.fieldLink RX8 19 "HalfAsked" "plan" "LHalfAsked$Plan;", Cond.fieldLink RX8 175 "HalfAsked$Plan" "size" "I", Cond.fieldLink RX8 10 "HalfAsked" "folk" "LHalfAsked$Folk;", Cond.fieldLink RX8 184 "HalfAsked$Plan" "by" "[I", Cond.fieldLink RX8 187 "HalfAsked$Plan" "of" "[I", Cond.methodLink RX8 101 yX8_forgetFound, Cond.instanceMethod yX8_forgetFound, Cond.selects RX8 yX8_forgetFound yX8_forgetFound, Cond.initialized RX8, Cond.code yX8_forgetFound cX8_forgetFound 1 none, Cond.fieldLink RX8 84 "HalfAsked" "timedFor" "I", Cond.fieldLink RX8 88 "HalfAsked" "turned" "Z", Cond.fieldLink RX8 91 "HalfAsked" "ordered" "Z", Cond.methodLink RX8 139 yX0_tryAsking, Cond.instanceMethod yX0_tryAsking, Cond.selects RX0 yX0_tryAsking yX0_tryAsking, Cond.initialized RX0, Cond.code yX0_tryAsking cX0_tryAsking 5 (some .int), Cond.fieldLink RX0 16 "HalfAsked$Folk" "known" "I", Cond.fieldLink RX0 19 "HalfAsked$Folk" "asked" "I", Cond.fieldLink RX0 26 "HalfAsked$Folk" "pence" "[I", Cond.methodLink RX0 52 yX0_pair, Cond.static yX0_pair, Cond.code yX0_pair cX0_pair 2 (some .int)]
def wsX8_run_r2 : List Cond := [Cond.methodLink RX0 55 yX0_gives, Cond.instanceMethod yX0_gives, Cond.selects RX0 yX0_gives yX0_gives, Cond.code yX0_gives cX0_gives 3 (some .int), Cond.fieldLink RX0 22 "HalfAsked$Folk" "kind" "[I", Cond.methodLink RX8 190 yX2_endWeekIfDue, Cond.instanceMethod yX2_endWeekIfDue, Cond.selects RX2 yX2_endWeekIfDue yX2_endWeekIfDue, Cond.initialized RX2, Cond.code yX2_endWeekIfDue cX2_endWeekIfDue 3 none, Cond.fieldLink RX2 45 "HalfAsked$Folk" "asked" "I", Cond.methodLink RX2 41 yX2_endsWeek, Cond.instanceMethod yX2_endsWeek, Cond.selects RX2 yX2_endsWeek yX2_endsWeek, Cond.code yX2_endsWeek cX2_endsWeek 2 (some .boolean), Cond.fieldLink RX2 15 "HalfAsked$Plan" "ends" "I"]
def wsX8_run : List Cond := .code yX8_run cX8_run 2 (some .int) :: ((wsX8_run_r1 ++ wsX8_run_r2) ++ wsX80 ++ wsX20 ++ wsX00)
def wsX8_most_r1 : List Cond := [Cond.fieldLink RX8 10 "HalfAsked" "folk" "LHalfAsked$Folk;", Cond.fieldLink RX8 59 "HalfAsked" "timing" "LHalfAsked$Timing;", Cond.fieldLink RX8 198 "HalfAsked$Timing" "most" "I", Cond.methodLink RX8 108 yX0_has, Cond.instanceMethod yX0_has, Cond.selects RX0 yX0_has yX0_has, Cond.initialized RX0, Cond.code yX0_has cX0_has 2 (some .boolean), Cond.fieldLink RX0 9 "HalfAsked$Folk" "size" "I", Cond.methodLink RX8 194 yX8_findTimes, Cond.instanceMethod yX8_findTimes, Cond.selects RX8 yX8_findTimes yX8_findTimes, Cond.initialized RX8, Cond.code yX8_findTimes cX8_findTimes 2 none, Cond.fieldLink RX8 84 "HalfAsked" "timedFor" "I", Cond.fieldLink RX8 19 "HalfAsked" "plan" "LHalfAsked$Plan;", Cond.methodLink RX8 279 yX6_search, Cond.instanceMethod yX6_search, Cond.selects RX6 yX6_search yX6_search, Cond.initialized RX6, Cond.code yX6_search cX6_search 4 none, Cond.fieldLink RX6 18 "HalfAsked$Timing" "asker" "I", Cond.fieldLink RX6 9 "HalfAsked$Timing" "most" "I", Cond.fieldLink RX6 15 "HalfAsked$Timing" "way" "I"]
def wsX8_most_r2 : List Cond := [Cond.fieldLink RX6 24 "HalfAsked$Timing" "plan" "LHalfAsked$Plan;", Cond.fieldLink RX6 34 "HalfAsked$Timing" "states" "[LHalfAsked$Folk;", Cond.fieldLink RX6 45 "HalfAsked$Folk" "size" "I", Cond.methodLink RX6 38 yX2_takeFrom, Cond.instanceMethod yX2_takeFrom, Cond.selects RX2 yX2_takeFrom yX2_takeFrom, Cond.initialized RX2, Cond.code yX2_takeFrom cX2_takeFrom 2 none, Cond.fieldLink RX2 9 "HalfAsked$Plan" "size" "I", Cond.fieldLink RX2 15 "HalfAsked$Plan" "ends" "I", Cond.fieldLink RX2 18 "HalfAsked$Plan" "by" "[I", Cond.methodLink RX2 25 arraycopyName, Cond.native arraycopyName, Cond.static arraycopyName, Cond.initialized "java/lang/System", Cond.fieldLink RX2 22 "HalfAsked$Plan" "of" "[I", Cond.methodLink RX6 42 yX0_takeFrom, Cond.instanceMethod yX0_takeFrom, Cond.selects RX0 yX0_takeFrom yX0_takeFrom, Cond.code yX0_takeFrom cX0_takeFrom 2 none, Cond.fieldLink RX0 16 "HalfAsked$Folk" "known" "I", Cond.fieldLink RX0 19 "HalfAsked$Folk" "asked" "I", Cond.fieldLink RX0 22 "HalfAsked$Folk" "kind" "[I", Cond.methodLink RX0 36 arraycopyName]
def wsX8_most_r3 : List Cond := [Cond.fieldLink RX0 26 "HalfAsked$Folk" "pence" "[I", Cond.methodLink RX6 48 yX6_choose, Cond.instanceMethod yX6_choose, Cond.selects RX6 yX6_choose yX6_choose, Cond.code yX6_choose cX6_choose 8 none, Cond.fieldLink RX6 56 "HalfAsked$Plan" "size" "I", Cond.fieldLink RX6 61 "HalfAsked$Folk" "pence" "[I", Cond.methodLink RX6 57 yX6_askAll, Cond.instanceMethod yX6_askAll, Cond.selects RX6 yX6_askAll yX6_askAll, Cond.code yX6_askAll cX6_askAll 6 (some .int), Cond.fieldLink RX6 52 "HalfAsked$Timing" "WEIGHT" "[I", Cond.methodLink RX6 86 yX0_tryAsking, Cond.instanceMethod yX0_tryAsking, Cond.selects RX0 yX0_tryAsking yX0_tryAsking, Cond.code yX0_tryAsking cX0_tryAsking 5 (some .int), Cond.methodLink RX0 52 yX0_pair, Cond.static yX0_pair, Cond.code yX0_pair cX0_pair 2 (some .int), Cond.methodLink RX0 55 yX0_gives, Cond.instanceMethod yX0_gives, Cond.selects RX0 yX0_gives yX0_gives, Cond.code yX0_gives cX0_gives 3 (some .int), Cond.methodLink RX6 64 yX6_keepBetter]
def wsX8_most_r4 : List Cond := [Cond.instanceMethod yX6_keepBetter, Cond.selects RX6 yX6_keepBetter yX6_keepBetter, Cond.code yX6_keepBetter cX6_keepBetter 3 none, Cond.methodLink RX6 68 yX6_worthAsking, Cond.instanceMethod yX6_worthAsking, Cond.selects RX6 yX6_worthAsking yX6_worthAsking, Cond.code yX6_worthAsking cX6_worthAsking 3 (some .int), Cond.fieldLink RX6 80 "HalfAsked$Plan" "of" "[I", Cond.fieldLink RX6 83 "HalfAsked$Plan" "by" "[I", Cond.methodLink RX6 76 yX2_endsWeek, Cond.instanceMethod yX2_endsWeek, Cond.selects RX2 yX2_endsWeek yX2_endsWeek, Cond.code yX2_endsWeek cX2_endsWeek 2 (some .boolean), Cond.methodLink RX6 72 yX2_goOn, Cond.instanceMethod yX2_goOn, Cond.selects RX2 yX2_goOn yX2_goOn, Cond.code yX2_goOn cX2_goOn 3 none, Cond.methodLink RX2 31 yX0_tryAsking, Cond.methodLink RX2 37 yX2_endWeekIfDue, Cond.instanceMethod yX2_endWeekIfDue, Cond.selects RX2 yX2_endWeekIfDue yX2_endWeekIfDue, Cond.code yX2_endWeekIfDue cX2_endWeekIfDue 3 none, Cond.fieldLink RX2 45 "HalfAsked$Folk" "asked" "I", Cond.methodLink RX2 41 yX2_endsWeek]
def wsX8_most : List Cond := .code yX8_most cX8_most 2 (some .int) :: ((wsX8_most_r1 ++ (wsX8_most_r2 ++ (wsX8_most_r3 ++ wsX8_most_r4))) ++ wsX80 ++ wsX60 ++ wsX00 ++ wsX20)
def wsX8_when_r1 : List Cond := [Cond.fieldLink RX8 10 "HalfAsked" "folk" "LHalfAsked$Folk;", Cond.fieldLink RX8 59 "HalfAsked" "timing" "LHalfAsked$Timing;", Cond.methodLink RX8 132 yX0_isPair, Cond.instanceMethod yX0_isPair, Cond.selects RX0 yX0_isPair yX0_isPair, Cond.initialized RX0, Cond.code yX0_isPair cX0_isPair 3 (some .boolean), Cond.methodLink RX0 42 yX0_has, Cond.instanceMethod yX0_has, Cond.selects RX0 yX0_has yX0_has, Cond.code yX0_has cX0_has 2 (some .boolean), Cond.fieldLink RX0 9 "HalfAsked$Folk" "size" "I", Cond.methodLink RX8 194 yX8_findTimes, Cond.instanceMethod yX8_findTimes, Cond.selects RX8 yX8_findTimes yX8_findTimes, Cond.initialized RX8, Cond.code yX8_findTimes cX8_findTimes 2 none, Cond.fieldLink RX8 84 "HalfAsked" "timedFor" "I", Cond.fieldLink RX8 19 "HalfAsked" "plan" "LHalfAsked$Plan;", Cond.methodLink RX8 279 yX6_search, Cond.instanceMethod yX6_search, Cond.selects RX6 yX6_search yX6_search, Cond.initialized RX6, Cond.code yX6_search cX6_search 4 none]
def wsX8_when_r2 : List Cond := [Cond.fieldLink RX6 18 "HalfAsked$Timing" "asker" "I", Cond.fieldLink RX6 9 "HalfAsked$Timing" "most" "I", Cond.fieldLink RX6 15 "HalfAsked$Timing" "way" "I", Cond.fieldLink RX6 24 "HalfAsked$Timing" "plan" "LHalfAsked$Plan;", Cond.fieldLink RX6 34 "HalfAsked$Timing" "states" "[LHalfAsked$Folk;", Cond.fieldLink RX6 45 "HalfAsked$Folk" "size" "I", Cond.methodLink RX6 38 yX2_takeFrom, Cond.instanceMethod yX2_takeFrom, Cond.selects RX2 yX2_takeFrom yX2_takeFrom, Cond.initialized RX2, Cond.code yX2_takeFrom cX2_takeFrom 2 none, Cond.fieldLink RX2 9 "HalfAsked$Plan" "size" "I", Cond.fieldLink RX2 15 "HalfAsked$Plan" "ends" "I", Cond.fieldLink RX2 18 "HalfAsked$Plan" "by" "[I", Cond.methodLink RX2 25 arraycopyName, Cond.native arraycopyName, Cond.static arraycopyName, Cond.initialized "java/lang/System", Cond.fieldLink RX2 22 "HalfAsked$Plan" "of" "[I", Cond.methodLink RX6 42 yX0_takeFrom, Cond.instanceMethod yX0_takeFrom, Cond.selects RX0 yX0_takeFrom yX0_takeFrom, Cond.code yX0_takeFrom cX0_takeFrom 2 none, Cond.fieldLink RX0 16 "HalfAsked$Folk" "known" "I"]
def wsX8_when_r3 : List Cond := [Cond.fieldLink RX0 19 "HalfAsked$Folk" "asked" "I", Cond.fieldLink RX0 22 "HalfAsked$Folk" "kind" "[I", Cond.methodLink RX0 36 arraycopyName, Cond.fieldLink RX0 26 "HalfAsked$Folk" "pence" "[I", Cond.methodLink RX6 48 yX6_choose, Cond.instanceMethod yX6_choose, Cond.selects RX6 yX6_choose yX6_choose, Cond.code yX6_choose cX6_choose 8 none, Cond.fieldLink RX6 56 "HalfAsked$Plan" "size" "I", Cond.fieldLink RX6 61 "HalfAsked$Folk" "pence" "[I", Cond.methodLink RX6 57 yX6_askAll, Cond.instanceMethod yX6_askAll, Cond.selects RX6 yX6_askAll yX6_askAll, Cond.code yX6_askAll cX6_askAll 6 (some .int), Cond.fieldLink RX6 52 "HalfAsked$Timing" "WEIGHT" "[I", Cond.methodLink RX6 86 yX0_tryAsking, Cond.instanceMethod yX0_tryAsking, Cond.selects RX0 yX0_tryAsking yX0_tryAsking, Cond.code yX0_tryAsking cX0_tryAsking 5 (some .int), Cond.methodLink RX0 52 yX0_pair, Cond.static yX0_pair, Cond.code yX0_pair cX0_pair 2 (some .int), Cond.methodLink RX0 55 yX0_gives, Cond.instanceMethod yX0_gives]
def wsX8_when_r4 : List Cond := [Cond.selects RX0 yX0_gives yX0_gives, Cond.code yX0_gives cX0_gives 3 (some .int), Cond.methodLink RX6 64 yX6_keepBetter, Cond.instanceMethod yX6_keepBetter, Cond.selects RX6 yX6_keepBetter yX6_keepBetter, Cond.code yX6_keepBetter cX6_keepBetter 3 none, Cond.methodLink RX6 68 yX6_worthAsking, Cond.instanceMethod yX6_worthAsking, Cond.selects RX6 yX6_worthAsking yX6_worthAsking, Cond.code yX6_worthAsking cX6_worthAsking 3 (some .int), Cond.fieldLink RX6 80 "HalfAsked$Plan" "of" "[I", Cond.fieldLink RX6 83 "HalfAsked$Plan" "by" "[I", Cond.methodLink RX6 76 yX2_endsWeek, Cond.instanceMethod yX2_endsWeek, Cond.selects RX2 yX2_endsWeek yX2_endsWeek, Cond.code yX2_endsWeek cX2_endsWeek 2 (some .boolean), Cond.methodLink RX6 72 yX2_goOn, Cond.instanceMethod yX2_goOn, Cond.selects RX2 yX2_goOn yX2_goOn, Cond.code yX2_goOn cX2_goOn 3 none, Cond.methodLink RX2 31 yX0_tryAsking, Cond.methodLink RX2 37 yX2_endWeekIfDue, Cond.instanceMethod yX2_endWeekIfDue, Cond.selects RX2 yX2_endWeekIfDue yX2_endWeekIfDue]
def wsX8_when_r5 : List Cond := [Cond.code yX2_endWeekIfDue cX2_endWeekIfDue 3 none, Cond.fieldLink RX2 45 "HalfAsked$Folk" "asked" "I", Cond.methodLink RX2 41 yX2_endsWeek, Cond.methodLink RX8 201 yX6_timeFor, Cond.instanceMethod yX6_timeFor, Cond.selects RX6 yX6_timeFor yX6_timeFor, Cond.code yX6_timeFor cX6_timeFor 2 (some .int)]
def wsX8_when : List Cond := .code yX8_when cX8_when 3 (some .int) :: ((wsX8_when_r1 ++ (wsX8_when_r2 ++ (wsX8_when_r3 ++ (wsX8_when_r4 ++ wsX8_when_r5)))) ++ wsX80 ++ wsX00 ++ wsX60 ++ wsX20)
def wsX8_turns_r1 : List Cond := [Cond.fieldLink RX8 10 "HalfAsked" "folk" "LHalfAsked$Folk;", Cond.fieldLink RX8 66 "HalfAsked" "turning" "LHalfAsked$Turns;", Cond.fieldLink RX8 207 "HalfAsked$Turns" "picked" "[[I", Cond.methodLink RX8 108 yX0_has, Cond.instanceMethod yX0_has, Cond.selects RX0 yX0_has yX0_has, Cond.initialized RX0, Cond.code yX0_has cX0_has 2 (some .boolean), Cond.fieldLink RX0 9 "HalfAsked$Folk" "size" "I", Cond.methodLink RX8 204 yX8_findTurns, Cond.instanceMethod yX8_findTurns, Cond.selects RX8 yX8_findTurns yX8_findTurns, Cond.initialized RX8, Cond.code yX8_findTurns cX8_findTurns 1 none, Cond.fieldLink RX8 88 "HalfAsked" "turned" "Z", Cond.methodLink RX8 282 yX7_search, Cond.instanceMethod yX7_search, Cond.selects RX7 yX7_search yX7_search, Cond.initialized RX7, Cond.code yX7_search cX7_search 2 none, Cond.fieldLink RX7 25 "HalfAsked$Turns" "states" "[LHalfAsked$Folk;", Cond.methodLink RX7 29 yX0_takeFrom, Cond.instanceMethod yX0_takeFrom, Cond.selects RX0 yX0_takeFrom yX0_takeFrom]
def wsX8_turns_r2 : List Cond := [Cond.code yX0_takeFrom cX0_takeFrom 2 none, Cond.fieldLink RX0 16 "HalfAsked$Folk" "known" "I", Cond.fieldLink RX0 19 "HalfAsked$Folk" "asked" "I", Cond.fieldLink RX0 22 "HalfAsked$Folk" "kind" "[I", Cond.methodLink RX0 36 arraycopyName, Cond.native arraycopyName, Cond.static arraycopyName, Cond.initialized "java/lang/System", Cond.fieldLink RX0 26 "HalfAsked$Folk" "pence" "[I", Cond.methodLink RX7 33 yX7_settle, Cond.instanceMethod yX7_settle, Cond.selects RX7 yX7_settle yX7_settle, Cond.code yX7_settle cX7_settle 5 none, Cond.fieldLink RX7 37 "HalfAsked$Folk" "size" "I", Cond.fieldLink RX7 41 "HalfAsked$Folk" "pence" "[I", Cond.fieldLink RX7 16 "HalfAsked$Turns" "ended" "[[I", Cond.methodLink RX7 45 arraycopyName, Cond.methodLink RX7 51 yX7_keep, Cond.instanceMethod yX7_keep, Cond.selects RX7 yX7_keep yX7_keep, Cond.code yX7_keep cX7_keep 3 none, Cond.fieldLink RX7 11 "HalfAsked$Turns" "picked" "[[I", Cond.methodLink RX7 55 yX0_tryAsking, Cond.instanceMethod yX0_tryAsking]
def wsX8_turns_r3 : List Cond := [Cond.selects RX0 yX0_tryAsking yX0_tryAsking, Cond.code yX0_tryAsking cX0_tryAsking 5 (some .int), Cond.methodLink RX0 52 yX0_pair, Cond.static yX0_pair, Cond.code yX0_pair cX0_pair 2 (some .int), Cond.methodLink RX0 55 yX0_gives, Cond.instanceMethod yX0_gives, Cond.selects RX0 yX0_gives yX0_gives, Cond.code yX0_gives cX0_gives 3 (some .int)]
def wsX8_turns : List Cond := .code yX8_turns cX8_turns 2 (some .int) :: ((wsX8_turns_r1 ++ (wsX8_turns_r2 ++ wsX8_turns_r3)) ++ wsX80 ++ wsX70 ++ wsX00)
def wsX8_ends_r1 : List Cond := [Cond.fieldLink RX8 10 "HalfAsked" "folk" "LHalfAsked$Folk;", Cond.fieldLink RX8 66 "HalfAsked" "turning" "LHalfAsked$Turns;", Cond.fieldLink RX8 211 "HalfAsked$Turns" "ended" "[[I", Cond.methodLink RX8 108 yX0_has, Cond.instanceMethod yX0_has, Cond.selects RX0 yX0_has yX0_has, Cond.initialized RX0, Cond.code yX0_has cX0_has 2 (some .boolean), Cond.fieldLink RX0 9 "HalfAsked$Folk" "size" "I", Cond.methodLink RX8 204 yX8_findTurns, Cond.instanceMethod yX8_findTurns, Cond.selects RX8 yX8_findTurns yX8_findTurns, Cond.initialized RX8, Cond.code yX8_findTurns cX8_findTurns 1 none, Cond.fieldLink RX8 88 "HalfAsked" "turned" "Z", Cond.methodLink RX8 282 yX7_search, Cond.instanceMethod yX7_search, Cond.selects RX7 yX7_search yX7_search, Cond.initialized RX7, Cond.code yX7_search cX7_search 2 none, Cond.fieldLink RX7 25 "HalfAsked$Turns" "states" "[LHalfAsked$Folk;", Cond.methodLink RX7 29 yX0_takeFrom, Cond.instanceMethod yX0_takeFrom, Cond.selects RX0 yX0_takeFrom yX0_takeFrom]
def wsX8_ends_r2 : List Cond := [Cond.code yX0_takeFrom cX0_takeFrom 2 none, Cond.fieldLink RX0 16 "HalfAsked$Folk" "known" "I", Cond.fieldLink RX0 19 "HalfAsked$Folk" "asked" "I", Cond.fieldLink RX0 22 "HalfAsked$Folk" "kind" "[I", Cond.methodLink RX0 36 arraycopyName, Cond.native arraycopyName, Cond.static arraycopyName, Cond.initialized "java/lang/System", Cond.fieldLink RX0 26 "HalfAsked$Folk" "pence" "[I", Cond.methodLink RX7 33 yX7_settle, Cond.instanceMethod yX7_settle, Cond.selects RX7 yX7_settle yX7_settle, Cond.code yX7_settle cX7_settle 5 none, Cond.fieldLink RX7 37 "HalfAsked$Folk" "size" "I", Cond.fieldLink RX7 41 "HalfAsked$Folk" "pence" "[I", Cond.fieldLink RX7 16 "HalfAsked$Turns" "ended" "[[I", Cond.methodLink RX7 45 arraycopyName, Cond.methodLink RX7 51 yX7_keep, Cond.instanceMethod yX7_keep, Cond.selects RX7 yX7_keep yX7_keep, Cond.code yX7_keep cX7_keep 3 none, Cond.fieldLink RX7 11 "HalfAsked$Turns" "picked" "[[I", Cond.methodLink RX7 55 yX0_tryAsking, Cond.instanceMethod yX0_tryAsking]
def wsX8_ends_r3 : List Cond := [Cond.selects RX0 yX0_tryAsking yX0_tryAsking, Cond.code yX0_tryAsking cX0_tryAsking 5 (some .int), Cond.methodLink RX0 52 yX0_pair, Cond.static yX0_pair, Cond.code yX0_pair cX0_pair 2 (some .int), Cond.methodLink RX0 55 yX0_gives, Cond.instanceMethod yX0_gives, Cond.selects RX0 yX0_gives yX0_gives, Cond.code yX0_gives cX0_gives 3 (some .int)]
def wsX8_ends : List Cond := .code yX8_ends cX8_ends 2 (some .int) :: ((wsX8_ends_r1 ++ (wsX8_ends_r2 ++ wsX8_ends_r3)) ++ wsX80 ++ wsX70 ++ wsX00)
def wsX8_order_r1 : List Cond := [Cond.fieldLink RX8 19 "HalfAsked" "plan" "LHalfAsked$Plan;", Cond.fieldLink RX8 175 "HalfAsked$Plan" "size" "I", Cond.fieldLink RX8 10 "HalfAsked" "folk" "LHalfAsked$Folk;", Cond.fieldLink RX8 98 "HalfAsked$Folk" "size" "I", Cond.fieldLink RX8 91 "HalfAsked" "ordered" "Z", Cond.fieldLink RX8 73 "HalfAsked" "orders" "LHalfAsked$Orders;", Cond.fieldLink RX8 218 "HalfAsked$Orders" "leastSpan" "I", Cond.fieldLink RX8 221 "HalfAsked$Orders" "first" "[I", Cond.methodLink RX8 214 yX1_search, Cond.instanceMethod yX1_search, Cond.selects RX1 yX1_search yX1_search, Cond.initialized RX1, Cond.code yX1_search cX1_search 5 none, Cond.fieldLink RX1 34 "HalfAsked$Orders" "plan" "LHalfAsked$Plan;", Cond.fieldLink RX1 25 "HalfAsked$Orders" "wanted" "I", Cond.fieldLink RX1 28 "HalfAsked$Orders" "wantedPence" "I", Cond.fieldLink RX1 9 "HalfAsked$Orders" "leastSpan" "I", Cond.fieldLink RX1 15 "HalfAsked$Orders" "fitting" "I", Cond.fieldLink RX1 44 "HalfAsked$Orders" "states" "[LHalfAsked$Folk;", Cond.methodLink RX1 48 yX2_takeFrom, Cond.instanceMethod yX2_takeFrom, Cond.selects RX2 yX2_takeFrom yX2_takeFrom, Cond.initialized RX2, Cond.code yX2_takeFrom cX2_takeFrom 2 none]
def wsX8_order_r2 : List Cond := [Cond.fieldLink RX2 9 "HalfAsked$Plan" "size" "I", Cond.fieldLink RX2 15 "HalfAsked$Plan" "ends" "I", Cond.fieldLink RX2 18 "HalfAsked$Plan" "by" "[I", Cond.methodLink RX2 25 arraycopyName, Cond.native arraycopyName, Cond.static arraycopyName, Cond.initialized "java/lang/System", Cond.fieldLink RX2 22 "HalfAsked$Plan" "of" "[I", Cond.methodLink RX1 52 yX0_takeFrom, Cond.instanceMethod yX0_takeFrom, Cond.selects RX0 yX0_takeFrom yX0_takeFrom, Cond.initialized RX0, Cond.code yX0_takeFrom cX0_takeFrom 2 none, Cond.fieldLink RX0 9 "HalfAsked$Folk" "size" "I", Cond.fieldLink RX0 16 "HalfAsked$Folk" "known" "I", Cond.fieldLink RX0 19 "HalfAsked$Folk" "asked" "I", Cond.fieldLink RX0 22 "HalfAsked$Folk" "kind" "[I", Cond.methodLink RX0 36 arraycopyName, Cond.fieldLink RX0 26 "HalfAsked$Folk" "pence" "[I", Cond.methodLink RX1 55 yX1_extend, Cond.instanceMethod yX1_extend, Cond.selects RX1 yX1_extend yX1_extend, Cond.code yX1_extend cX1_extend 5 none, Cond.fieldLink RX1 59 "HalfAsked$Plan" "size" "I"]
def wsX8_order_r3 : List Cond := [Cond.fieldLink RX1 22 "HalfAsked$Orders" "row" "[I", Cond.fieldLink RX1 65 "HalfAsked$Plan" "by" "[I", Cond.fieldLink RX1 68 "HalfAsked$Plan" "of" "[I", Cond.methodLink RX1 62 yX1_weigh, Cond.instanceMethod yX1_weigh, Cond.selects RX1 yX1_weigh yX1_weigh, Cond.code yX1_weigh cX1_weigh 6 none, Cond.fieldLink RX1 75 "HalfAsked$Folk" "pence" "[I", Cond.fieldLink RX1 78 "HalfAsked$Folk" "size" "I", Cond.methodLink RX1 79 Lib.Math.min.name, Cond.static Lib.Math.min.name, Cond.initialized "java/lang/Math", Cond.code Lib.Math.min.name Lib.Math.min.code 2 (some .int), Cond.methodLink RX1 84 Lib.Math.max.name, Cond.static Lib.Math.max.name, Cond.code Lib.Math.max.name Lib.Math.max.code 2 (some .int), Cond.fieldLink RX1 18 "HalfAsked$Orders" "first" "[I", Cond.methodLink RX1 87 arraycopyName, Cond.methodLink RX1 71 yX0_tryAsking, Cond.instanceMethod yX0_tryAsking, Cond.selects RX0 yX0_tryAsking yX0_tryAsking, Cond.code yX0_tryAsking cX0_tryAsking 5 (some .int), Cond.methodLink RX0 52 yX0_pair, Cond.static yX0_pair]
def wsX8_order_r4 : List Cond := [Cond.code yX0_pair cX0_pair 2 (some .int), Cond.methodLink RX0 55 yX0_gives, Cond.instanceMethod yX0_gives, Cond.selects RX0 yX0_gives yX0_gives, Cond.code yX0_gives cX0_gives 3 (some .int)]
def wsX8_order : List Cond := .code yX8_order cX8_order 2 (some .int) :: ((wsX8_order_r1 ++ (wsX8_order_r2 ++ (wsX8_order_r3 ++ wsX8_order_r4))) ++ wsX80 ++ wsX20 ++ wsX00 ++ wsX10)
def wsX8_so_r1 : List Cond := [Cond.fieldLink RX8 10 "HalfAsked" "folk" "LHalfAsked$Folk;", Cond.fieldLink RX8 98 "HalfAsked$Folk" "size" "I", Cond.constant RX8 224 (99999), Cond.fieldLink RX8 19 "HalfAsked" "plan" "LHalfAsked$Plan;", Cond.fieldLink RX8 175 "HalfAsked$Plan" "size" "I", Cond.fieldLink RX8 73 "HalfAsked" "orders" "LHalfAsked$Orders;", Cond.fieldLink RX8 91 "HalfAsked" "ordered" "Z", Cond.fieldLink RX8 225 "HalfAsked$Orders" "fitting" "I", Cond.methodLink RX8 214 yX1_search, Cond.instanceMethod yX1_search, Cond.selects RX1 yX1_search yX1_search, Cond.initialized RX1, Cond.code yX1_search cX1_search 5 none, Cond.fieldLink RX1 34 "HalfAsked$Orders" "plan" "LHalfAsked$Plan;", Cond.fieldLink RX1 25 "HalfAsked$Orders" "wanted" "I", Cond.fieldLink RX1 28 "HalfAsked$Orders" "wantedPence" "I", Cond.fieldLink RX1 9 "HalfAsked$Orders" "leastSpan" "I", Cond.fieldLink RX1 15 "HalfAsked$Orders" "fitting" "I", Cond.fieldLink RX1 44 "HalfAsked$Orders" "states" "[LHalfAsked$Folk;", Cond.methodLink RX1 48 yX2_takeFrom, Cond.instanceMethod yX2_takeFrom, Cond.selects RX2 yX2_takeFrom yX2_takeFrom, Cond.initialized RX2, Cond.code yX2_takeFrom cX2_takeFrom 2 none]
def wsX8_so_r2 : List Cond := [Cond.fieldLink RX2 9 "HalfAsked$Plan" "size" "I", Cond.fieldLink RX2 15 "HalfAsked$Plan" "ends" "I", Cond.fieldLink RX2 18 "HalfAsked$Plan" "by" "[I", Cond.methodLink RX2 25 arraycopyName, Cond.native arraycopyName, Cond.static arraycopyName, Cond.initialized "java/lang/System", Cond.fieldLink RX2 22 "HalfAsked$Plan" "of" "[I", Cond.methodLink RX1 52 yX0_takeFrom, Cond.instanceMethod yX0_takeFrom, Cond.selects RX0 yX0_takeFrom yX0_takeFrom, Cond.initialized RX0, Cond.code yX0_takeFrom cX0_takeFrom 2 none, Cond.fieldLink RX0 9 "HalfAsked$Folk" "size" "I", Cond.fieldLink RX0 16 "HalfAsked$Folk" "known" "I", Cond.fieldLink RX0 19 "HalfAsked$Folk" "asked" "I", Cond.fieldLink RX0 22 "HalfAsked$Folk" "kind" "[I", Cond.methodLink RX0 36 arraycopyName, Cond.fieldLink RX0 26 "HalfAsked$Folk" "pence" "[I", Cond.methodLink RX1 55 yX1_extend, Cond.instanceMethod yX1_extend, Cond.selects RX1 yX1_extend yX1_extend, Cond.code yX1_extend cX1_extend 5 none, Cond.fieldLink RX1 59 "HalfAsked$Plan" "size" "I"]
def wsX8_so_r3 : List Cond := [Cond.fieldLink RX1 22 "HalfAsked$Orders" "row" "[I", Cond.fieldLink RX1 65 "HalfAsked$Plan" "by" "[I", Cond.fieldLink RX1 68 "HalfAsked$Plan" "of" "[I", Cond.methodLink RX1 62 yX1_weigh, Cond.instanceMethod yX1_weigh, Cond.selects RX1 yX1_weigh yX1_weigh, Cond.code yX1_weigh cX1_weigh 6 none, Cond.fieldLink RX1 75 "HalfAsked$Folk" "pence" "[I", Cond.fieldLink RX1 78 "HalfAsked$Folk" "size" "I", Cond.methodLink RX1 79 Lib.Math.min.name, Cond.static Lib.Math.min.name, Cond.initialized "java/lang/Math", Cond.code Lib.Math.min.name Lib.Math.min.code 2 (some .int), Cond.methodLink RX1 84 Lib.Math.max.name, Cond.static Lib.Math.max.name, Cond.code Lib.Math.max.name Lib.Math.max.code 2 (some .int), Cond.fieldLink RX1 18 "HalfAsked$Orders" "first" "[I", Cond.methodLink RX1 87 arraycopyName, Cond.methodLink RX1 71 yX0_tryAsking, Cond.instanceMethod yX0_tryAsking, Cond.selects RX0 yX0_tryAsking yX0_tryAsking, Cond.code yX0_tryAsking cX0_tryAsking 5 (some .int), Cond.methodLink RX0 52 yX0_pair, Cond.static yX0_pair]
def wsX8_so_r4 : List Cond := [Cond.code yX0_pair cX0_pair 2 (some .int), Cond.methodLink RX0 55 yX0_gives, Cond.instanceMethod yX0_gives, Cond.selects RX0 yX0_gives yX0_gives, Cond.code yX0_gives cX0_gives 3 (some .int)]
def wsX8_so : List Cond := .code yX8_so cX8_so 3 (some .int) :: ((wsX8_so_r1 ++ (wsX8_so_r2 ++ (wsX8_so_r3 ++ wsX8_so_r4))) ++ wsX80 ++ wsX00 ++ wsX20 ++ wsX10)
def wsX8_exact_r1 : List Cond := [Cond.fieldLink RX8 10 "HalfAsked" "folk" "LHalfAsked$Folk;", Cond.constantLong RX8 228 (-1), Cond.fieldLink RX8 52 "HalfAsked" "shares" "[J", Cond.constantLong RX8 233 (2), Cond.methodLink RX8 108 yX0_has, Cond.instanceMethod yX0_has, Cond.selects RX0 yX0_has yX0_has, Cond.initialized RX0, Cond.code yX0_has cX0_has 2 (some .boolean), Cond.fieldLink RX0 9 "HalfAsked$Folk" "size" "I", Cond.methodLink RX8 230 yX8_shareOut, Cond.instanceMethod yX8_shareOut, Cond.selects RX8 yX8_shareOut yX8_shareOut, Cond.initialized RX8, Cond.code yX8_shareOut cX8_shareOut 7 none, Cond.fieldLink RX8 98 "HalfAsked$Folk" "size" "I", Cond.fieldLink RX8 111 "HalfAsked$Folk" "pence" "[I", Cond.fieldLink RX8 19 "HalfAsked" "plan" "LHalfAsked$Plan;", Cond.fieldLink RX8 175 "HalfAsked$Plan" "size" "I", Cond.fieldLink RX8 184 "HalfAsked$Plan" "by" "[I", Cond.fieldLink RX8 187 "HalfAsked$Plan" "of" "[I", Cond.fieldLink RX8 122 "HalfAsked$Folk" "known" "I", Cond.methodLink RX8 136 yX0_pair, Cond.static yX0_pair]
def wsX8_exact_r2 : List Cond := [Cond.code yX0_pair cX0_pair 2 (some .int)]
def wsX8_exact : List Cond := .code yX8_exact cX8_exact 10 (some .long) :: ((wsX8_exact_r1 ++ wsX8_exact_r2) ++ wsX80 ++ wsX00 ++ wsX20)
def wsX8_shun_r1 : List Cond := [Cond.fieldLink RX8 10 "HalfAsked" "folk" "LHalfAsked$Folk;", Cond.fieldLink RX8 98 "HalfAsked$Folk" "size" "I", Cond.methodLink RX8 108 yX0_has, Cond.instanceMethod yX0_has, Cond.selects RX0 yX0_has yX0_has, Cond.initialized RX0, Cond.code yX0_has cX0_has 2 (some .boolean), Cond.fieldLink RX0 9 "HalfAsked$Folk" "size" "I", Cond.methodLink RX8 235 yX8_penceWithout, Cond.instanceMethod yX8_penceWithout, Cond.selects RX8 yX8_penceWithout yX8_penceWithout, Cond.initialized RX8, Cond.code yX8_penceWithout cX8_penceWithout 5 (some .int), Cond.fieldLink RX8 46 "HalfAsked" "trialFolk" "LHalfAsked$Folk;", Cond.fieldLink RX8 19 "HalfAsked" "plan" "LHalfAsked$Plan;", Cond.fieldLink RX8 175 "HalfAsked$Plan" "size" "I", Cond.fieldLink RX8 184 "HalfAsked$Plan" "by" "[I", Cond.fieldLink RX8 187 "HalfAsked$Plan" "of" "[I", Cond.fieldLink RX8 111 "HalfAsked$Folk" "pence" "[I", Cond.methodLink RX8 158 yX0_takeFrom, Cond.instanceMethod yX0_takeFrom, Cond.selects RX0 yX0_takeFrom yX0_takeFrom, Cond.code yX0_takeFrom cX0_takeFrom 2 none, Cond.fieldLink RX0 16 "HalfAsked$Folk" "known" "I"]
def wsX8_shun_r2 : List Cond := [Cond.fieldLink RX0 19 "HalfAsked$Folk" "asked" "I", Cond.fieldLink RX0 22 "HalfAsked$Folk" "kind" "[I", Cond.methodLink RX0 36 arraycopyName, Cond.native arraycopyName, Cond.static arraycopyName, Cond.initialized "java/lang/System", Cond.fieldLink RX0 26 "HalfAsked$Folk" "pence" "[I", Cond.methodLink RX8 190 yX2_endWeekIfDue, Cond.instanceMethod yX2_endWeekIfDue, Cond.selects RX2 yX2_endWeekIfDue yX2_endWeekIfDue, Cond.initialized RX2, Cond.code yX2_endWeekIfDue cX2_endWeekIfDue 3 none, Cond.fieldLink RX2 45 "HalfAsked$Folk" "asked" "I", Cond.methodLink RX2 41 yX2_endsWeek, Cond.instanceMethod yX2_endsWeek, Cond.selects RX2 yX2_endsWeek yX2_endsWeek, Cond.code yX2_endsWeek cX2_endsWeek 2 (some .boolean), Cond.fieldLink RX2 15 "HalfAsked$Plan" "ends" "I", Cond.methodLink RX8 284 yX2_goOn, Cond.instanceMethod yX2_goOn, Cond.selects RX2 yX2_goOn yX2_goOn, Cond.code yX2_goOn cX2_goOn 3 none, Cond.fieldLink RX2 18 "HalfAsked$Plan" "by" "[I", Cond.fieldLink RX2 22 "HalfAsked$Plan" "of" "[I"]
def wsX8_shun_r3 : List Cond := [Cond.methodLink RX2 31 yX0_tryAsking, Cond.instanceMethod yX0_tryAsking, Cond.selects RX0 yX0_tryAsking yX0_tryAsking, Cond.code yX0_tryAsking cX0_tryAsking 5 (some .int), Cond.methodLink RX0 52 yX0_pair, Cond.static yX0_pair, Cond.code yX0_pair cX0_pair 2 (some .int), Cond.methodLink RX0 55 yX0_gives, Cond.instanceMethod yX0_gives, Cond.selects RX0 yX0_gives yX0_gives, Cond.code yX0_gives cX0_gives 3 (some .int), Cond.methodLink RX2 37 yX2_endWeekIfDue]
def wsX8_shun : List Cond := .code yX8_shun cX8_shun 6 (some .int) :: ((wsX8_shun_r1 ++ (wsX8_shun_r2 ++ wsX8_shun_r3)) ++ wsX80 ++ wsX00 ++ wsX20)
def wsX8_image_r1 : List Cond := [Cond.fieldLink RX8 30 "HalfAsked" "keptFolk" "LHalfAsked$Folk;", Cond.fieldLink RX8 10 "HalfAsked" "folk" "LHalfAsked$Folk;", Cond.fieldLink RX8 33 "HalfAsked" "keptPlan" "LHalfAsked$Plan;", Cond.fieldLink RX8 19 "HalfAsked" "plan" "LHalfAsked$Plan;", Cond.fieldLink RX8 36 "HalfAsked" "kept" "Z", Cond.methodLink RX8 158 yX0_takeFrom, Cond.instanceMethod yX0_takeFrom, Cond.selects RX0 yX0_takeFrom yX0_takeFrom, Cond.initialized RX0, Cond.code yX0_takeFrom cX0_takeFrom 2 none, Cond.fieldLink RX0 9 "HalfAsked$Folk" "size" "I", Cond.fieldLink RX0 16 "HalfAsked$Folk" "known" "I", Cond.fieldLink RX0 19 "HalfAsked$Folk" "asked" "I", Cond.fieldLink RX0 22 "HalfAsked$Folk" "kind" "[I", Cond.methodLink RX0 36 arraycopyName, Cond.native arraycopyName, Cond.static arraycopyName, Cond.initialized "java/lang/System", Cond.fieldLink RX0 26 "HalfAsked$Folk" "pence" "[I", Cond.methodLink RX8 169 yX2_takeFrom, Cond.instanceMethod yX2_takeFrom, Cond.selects RX2 yX2_takeFrom yX2_takeFrom, Cond.initialized RX2, Cond.code yX2_takeFrom cX2_takeFrom 2 none]
def wsX8_image_r2 : List Cond := [Cond.fieldLink RX2 9 "HalfAsked$Plan" "size" "I", Cond.fieldLink RX2 15 "HalfAsked$Plan" "ends" "I", Cond.fieldLink RX2 18 "HalfAsked$Plan" "by" "[I", Cond.methodLink RX2 25 arraycopyName, Cond.fieldLink RX2 22 "HalfAsked$Plan" "of" "[I"]
def wsX8_image : List Cond := .code yX8_image cX8_image 1 (some .int) :: ((wsX8_image_r1 ++ wsX8_image_r2) ++ wsX80 ++ wsX00 ++ wsX20)
def wsX8_restore_r1 : List Cond := [Cond.fieldLink RX8 36 "HalfAsked" "kept" "Z", Cond.fieldLink RX8 10 "HalfAsked" "folk" "LHalfAsked$Folk;", Cond.fieldLink RX8 30 "HalfAsked" "keptFolk" "LHalfAsked$Folk;", Cond.fieldLink RX8 19 "HalfAsked" "plan" "LHalfAsked$Plan;", Cond.fieldLink RX8 33 "HalfAsked" "keptPlan" "LHalfAsked$Plan;", Cond.methodLink RX8 101 yX8_forgetFound, Cond.instanceMethod yX8_forgetFound, Cond.selects RX8 yX8_forgetFound yX8_forgetFound, Cond.initialized RX8, Cond.code yX8_forgetFound cX8_forgetFound 1 none, Cond.fieldLink RX8 84 "HalfAsked" "timedFor" "I", Cond.fieldLink RX8 88 "HalfAsked" "turned" "Z", Cond.fieldLink RX8 91 "HalfAsked" "ordered" "Z", Cond.methodLink RX8 158 yX0_takeFrom, Cond.instanceMethod yX0_takeFrom, Cond.selects RX0 yX0_takeFrom yX0_takeFrom, Cond.initialized RX0, Cond.code yX0_takeFrom cX0_takeFrom 2 none, Cond.fieldLink RX0 9 "HalfAsked$Folk" "size" "I", Cond.fieldLink RX0 16 "HalfAsked$Folk" "known" "I", Cond.fieldLink RX0 19 "HalfAsked$Folk" "asked" "I", Cond.fieldLink RX0 22 "HalfAsked$Folk" "kind" "[I", Cond.methodLink RX0 36 arraycopyName, Cond.native arraycopyName]
def wsX8_restore_r2 : List Cond := [Cond.static arraycopyName, Cond.initialized "java/lang/System", Cond.fieldLink RX0 26 "HalfAsked$Folk" "pence" "[I", Cond.methodLink RX8 169 yX2_takeFrom, Cond.instanceMethod yX2_takeFrom, Cond.selects RX2 yX2_takeFrom yX2_takeFrom, Cond.initialized RX2, Cond.code yX2_takeFrom cX2_takeFrom 2 none, Cond.fieldLink RX2 9 "HalfAsked$Plan" "size" "I", Cond.fieldLink RX2 15 "HalfAsked$Plan" "ends" "I", Cond.fieldLink RX2 18 "HalfAsked$Plan" "by" "[I", Cond.methodLink RX2 25 arraycopyName, Cond.fieldLink RX2 22 "HalfAsked$Plan" "of" "[I"]
def wsX8_restore : List Cond := .code yX8_restore cX8_restore 1 (some .int) :: ((wsX8_restore_r1 ++ wsX8_restore_r2) ++ wsX80 ++ wsX00 ++ wsX20)
end
section
def wsX8_isSheet : List Cond := .code yX8_isSheet cX8_isSheet 1 (some .boolean) :: ([])
def wsX8_isLane : List Cond := .code yX8_isLane cX8_isLane 1 (some .boolean) :: ([])
def wsX8_who_r1 : List Cond := [Cond.fieldLink RX8 42 "HalfAsked" "sheets" "[LHalfAsked$Sheet;", Cond.fieldLink RX8 10 "HalfAsked" "folk" "LHalfAsked$Folk;", Cond.fieldLink RX8 98 "HalfAsked$Folk" "size" "I", Cond.fieldLink RX8 80 "HalfAsked" "saturdays" "LHalfAsked$Saturdays;", Cond.fieldLink RX8 254 "HalfAsked$Saturdays" "rows" "I", Cond.fieldLink RX8 257 "HalfAsked$Saturdays" "first" "[I", Cond.methodLink RX8 238 yX8_isSheet, Cond.static yX8_isSheet, Cond.initialized RX8, Cond.code yX8_isSheet cX8_isSheet 1 (some .boolean), Cond.methodLink RX8 241 yX8_isLane, Cond.static yX8_isLane, Cond.code yX8_isLane cX8_isLane 1 (some .boolean), Cond.methodLink RX8 244 yX4_lookAt, Cond.instanceMethod yX4_lookAt, Cond.selects RX4 yX4_lookAt yX4_lookAt, Cond.initialized RX4, Cond.code yX4_lookAt cX4_lookAt 4 (some .int), Cond.fieldLink RX4 9 "HalfAsked$Sheet" "lane" "I", Cond.methodLink RX4 28 yX4_reaches, Cond.instanceMethod yX4_reaches, Cond.selects RX4 yX4_reaches yX4_reaches, Cond.code yX4_reaches cX4_reaches 3 (some .boolean), Cond.fieldLink RX4 24 "HalfAsked$Sheet" "items" "[J"]
def wsX8_who_r2 : List Cond := [Cond.methodLink RX8 248 yX4_areTold, Cond.instanceMethod yX4_areTold, Cond.selects RX4 yX4_areTold yX4_areTold, Cond.code yX4_areTold cX4_areTold 4 (some .boolean), Cond.constantLong RX4 32 (99999), Cond.methodLink RX8 251 yX3_search, Cond.instanceMethod yX3_search, Cond.selects RX3 yX3_search yX3_search, Cond.initialized RX3, Cond.code yX3_search cX3_search 7 none, Cond.fieldLink RX3 9 "HalfAsked$Saturdays" "rows" "I", Cond.fieldLink RX3 25 "HalfAsked$Saturdays" "length" "I", Cond.fieldLink RX3 34 "HalfAsked$Saturdays" "states" "[LHalfAsked$Folk;", Cond.fieldLink RX3 42 "HalfAsked$Folk" "asked" "I", Cond.fieldLink RX3 45 "HalfAsked$Folk" "size" "I", Cond.fieldLink RX3 48 "HalfAsked$Folk" "pence" "[I", Cond.fieldLink RX3 51 "HalfAsked$Sheet" "items" "[J", Cond.fieldLink RX3 22 "HalfAsked$Saturdays" "goal" "[I", Cond.methodLink RX3 38 yX0_takeFrom, Cond.instanceMethod yX0_takeFrom, Cond.selects RX0 yX0_takeFrom yX0_takeFrom, Cond.initialized RX0, Cond.code yX0_takeFrom cX0_takeFrom 2 none, Cond.fieldLink RX0 9 "HalfAsked$Folk" "size" "I"]
def wsX8_who_r3 : List Cond := [Cond.fieldLink RX0 16 "HalfAsked$Folk" "known" "I", Cond.fieldLink RX0 19 "HalfAsked$Folk" "asked" "I", Cond.fieldLink RX0 22 "HalfAsked$Folk" "kind" "[I", Cond.methodLink RX0 36 arraycopyName, Cond.native arraycopyName, Cond.static arraycopyName, Cond.initialized "java/lang/System", Cond.fieldLink RX0 26 "HalfAsked$Folk" "pence" "[I", Cond.methodLink RX3 57 yX3_trace, Cond.instanceMethod yX3_trace, Cond.selects RX3 yX3_trace yX3_trace, Cond.code yX3_trace cX3_trace 7 none, Cond.fieldLink RX3 19 "HalfAsked$Saturdays" "row" "[I", Cond.methodLink RX3 61 yX3_unlike, Cond.instanceMethod yX3_unlike, Cond.selects RX3 yX3_unlike yX3_unlike, Cond.code yX3_unlike cX3_unlike 4 (some .int), Cond.methodLink RX3 65 yX3_keep, Cond.instanceMethod yX3_keep, Cond.selects RX3 yX3_keep yX3_keep, Cond.code yX3_keep cX3_keep 1 none, Cond.fieldLink RX3 15 "HalfAsked$Saturdays" "first" "[I", Cond.methodLink RX3 72 arraycopyName, Cond.methodLink RX3 68 yX0_tryAsking]
def wsX8_who_r4 : List Cond := [Cond.instanceMethod yX0_tryAsking, Cond.selects RX0 yX0_tryAsking yX0_tryAsking, Cond.code yX0_tryAsking cX0_tryAsking 5 (some .int), Cond.methodLink RX0 52 yX0_pair, Cond.static yX0_pair, Cond.code yX0_pair cX0_pair 2 (some .int), Cond.methodLink RX0 55 yX0_gives, Cond.instanceMethod yX0_gives, Cond.selects RX0 yX0_gives yX0_gives, Cond.code yX0_gives cX0_gives 3 (some .int)]
def wsX8_who : List Cond := .code yX8_who cX8_who 8 (some .int) :: ((wsX8_who_r1 ++ (wsX8_who_r2 ++ (wsX8_who_r3 ++ wsX8_who_r4))) ++ wsX80 ++ wsX00 ++ wsX30 ++ wsX40)
def wsX8_sheet_r1 : List Cond := [Cond.fieldLink RX8 42 "HalfAsked" "sheets" "[LHalfAsked$Sheet;", Cond.classLink RX8 40 RX4, Cond.instantiable RX4 2, Cond.initialized RX4, Cond.methodLink RX8 238 yX8_isSheet, Cond.static yX8_isSheet, Cond.initialized RX8, Cond.code yX8_isSheet cX8_isSheet 1 (some .boolean), Cond.methodLink RX8 241 yX8_isLane, Cond.static yX8_isLane, Cond.code yX8_isLane cX8_isLane 1 (some .boolean), Cond.methodLink RX8 258 yX4_init, Cond.instanceMethod yX4_init, Cond.code yX4_init cX4_init 3 none, Cond.methodLink RX4 3 objectInit, Cond.instanceMethod objectInit, Cond.code objectInit ⟨#[0xb1]⟩ 1 none, Cond.fieldLink RX4 9 "HalfAsked$Sheet" "lane" "I", Cond.methodLink RX4 15 Lib.Math.min.name, Cond.static Lib.Math.min.name, Cond.initialized "java/lang/Math", Cond.code Lib.Math.min.name Lib.Math.min.code 2 (some .int), Cond.methodLink RX4 21 Lib.Math.max.name, Cond.static Lib.Math.max.name]
def wsX8_sheet_r2 : List Cond := [Cond.code Lib.Math.max.name Lib.Math.max.code 2 (some .int), Cond.arrayClass .long, Cond.fieldLink RX4 24 "HalfAsked$Sheet" "items" "[J"]
def wsX8_sheet : List Cond := .code yX8_sheet cX8_sheet 4 (some .int) :: ((wsX8_sheet_r1 ++ wsX8_sheet_r2) ++ wsX80 ++ wsX40)
def wsX8_drop : List Cond := .code yX8_drop cX8_drop 3 (some .int) :: ([.fieldLink RX8 42 "HalfAsked" "sheets" "[LHalfAsked$Sheet;", .fieldLink RX8 260 "HalfAsked$Sheet" "items" "[J", .methodLink RX8 238 yX8_isSheet, .static yX8_isSheet, .initialized RX8, .code yX8_isSheet cX8_isSheet 1 (some .boolean)] ++ wsX80 ++ wsX40)
def wsX8_item : List Cond := .code yX8_item cX8_item 8 (some .int) :: ([.fieldLink RX8 42 "HalfAsked" "sheets" "[LHalfAsked$Sheet;", .methodLink RX8 238 yX8_isSheet, .static yX8_isSheet, .initialized RX8, .code yX8_isSheet cX8_isSheet 1 (some .boolean), .methodLink RX8 241 yX8_isLane, .static yX8_isLane, .code yX8_isLane cX8_isLane 1 (some .boolean), .methodLink RX8 244 yX4_lookAt, .instanceMethod yX4_lookAt, .selects RX4 yX4_lookAt yX4_lookAt, .initialized RX4, .code yX4_lookAt cX4_lookAt 4 (some .int), .fieldLink RX4 9 "HalfAsked$Sheet" "lane" "I", .methodLink RX4 28 yX4_reaches, .instanceMethod yX4_reaches, .selects RX4 yX4_reaches yX4_reaches, .code yX4_reaches cX4_reaches 3 (some .boolean), .fieldLink RX4 24 "HalfAsked$Sheet" "items" "[J", .methodLink RX8 263 yX4_put, .instanceMethod yX4_put, .selects RX4 yX4_put yX4_put, .code yX4_put cX4_put 4 none] ++ wsX80 ++ wsX40)
def wsX8_film_r1 : List Cond := [Cond.fieldLink RX8 42 "HalfAsked" "sheets" "[LHalfAsked$Sheet;", Cond.fieldLink RX8 10 "HalfAsked" "folk" "LHalfAsked$Folk;", Cond.fieldLink RX8 98 "HalfAsked$Folk" "size" "I", Cond.fieldLink RX8 111 "HalfAsked$Folk" "pence" "[I", Cond.methodLink RX8 238 yX8_isSheet, Cond.static yX8_isSheet, Cond.initialized RX8, Cond.code yX8_isSheet cX8_isSheet 1 (some .boolean), Cond.methodLink RX8 241 yX8_isLane, Cond.static yX8_isLane, Cond.code yX8_isLane cX8_isLane 1 (some .boolean), Cond.methodLink RX8 244 yX4_lookAt, Cond.instanceMethod yX4_lookAt, Cond.selects RX4 yX4_lookAt yX4_lookAt, Cond.initialized RX4, Cond.code yX4_lookAt cX4_lookAt 4 (some .int), Cond.fieldLink RX4 9 "HalfAsked$Sheet" "lane" "I", Cond.methodLink RX4 28 yX4_reaches, Cond.instanceMethod yX4_reaches, Cond.selects RX4 yX4_reaches yX4_reaches, Cond.code yX4_reaches cX4_reaches 3 (some .boolean), Cond.fieldLink RX4 24 "HalfAsked$Sheet" "items" "[J", Cond.methodLink RX8 263 yX4_put, Cond.instanceMethod yX4_put]
def wsX8_film_r2 : List Cond := [Cond.selects RX4 yX4_put yX4_put, Cond.code yX4_put cX4_put 4 none]
def wsX8_film : List Cond := .code yX8_film cX8_film 7 (some .int) :: ((wsX8_film_r1 ++ wsX8_film_r2) ++ wsX80 ++ wsX00 ++ wsX40)
def wsX8_copy : List Cond := .code yX8_copy cX8_copy 8 (some .int) :: ([.fieldLink RX8 42 "HalfAsked" "sheets" "[LHalfAsked$Sheet;", .fieldLink RX8 267 "HalfAsked$Sheet" "lane" "I", .fieldLink RX8 260 "HalfAsked$Sheet" "items" "[J", .methodLink RX8 273 arraycopyName, .native arraycopyName, .static arraycopyName, .initialized "java/lang/System", .methodLink RX8 238 yX8_isSheet, .static yX8_isSheet, .initialized RX8, .code yX8_isSheet cX8_isSheet 1 (some .boolean), .methodLink RX8 270 yX4_reaches, .instanceMethod yX4_reaches, .selects RX4 yX4_reaches yX4_reaches, .initialized RX4, .code yX4_reaches cX4_reaches 3 (some .boolean), .fieldLink RX4 24 "HalfAsked$Sheet" "items" "[J"] ++ wsX80 ++ wsX40)
def wsX9_init_r1 : List Cond := [Cond.methodLink RX9 1 objectInit, Cond.instanceMethod objectInit, Cond.code objectInit ⟨#[0xb1]⟩ 1 none, Cond.arrayClass .int, Cond.fieldLink RX9 7 "HalfAskedModel" "kinds" "[I", Cond.fieldLink RX9 13 "HalfAskedModel" "pence" "[I", Cond.fieldLink RX9 16 "HalfAskedModel" "known" "[I", Cond.fieldLink RX9 19 "HalfAskedModel" "asked" "[I", Cond.fieldLink RX9 22 "HalfAskedModel" "plan" "[I", Cond.fieldLink RX9 25 "HalfAskedModel" "purse" "[I", Cond.fieldLink RX9 28 "HalfAskedModel" "done" "[I", Cond.fieldLink RX9 31 "HalfAskedModel" "tape" "[I", Cond.fieldLink RX9 34 "HalfAskedModel" "read" "[I", Cond.fieldLink RX9 37 "HalfAskedModel" "times" "[I", Cond.fieldLink RX9 40 "HalfAskedModel" "bestTimes" "[I", Cond.fieldLink RX9 43 "HalfAskedModel" "ahead" "[I", Cond.fieldLink RX9 46 "HalfAskedModel" "tried" "[I", Cond.fieldLink RX9 49 "HalfAskedModel" "endPence" "[I", Cond.fieldLink RX9 52 "HalfAskedModel" "choices" "[I", Cond.fieldLink RX9 55 "HalfAskedModel" "order" "[I", Cond.fieldLink RX9 58 "HalfAskedModel" "best" "[I", Cond.arrayClass .long, Cond.fieldLink RX9 61 "HalfAskedModel" "parts" "[J", Cond.fieldLink RX9 65 "HalfAskedModel" "kept" "[I"]
def wsX9_init_r2 : List Cond := [Cond.fieldLink RX9 68 "HalfAskedModel" "lanes" "[I", Cond.fieldLink RX9 71 "HalfAskedModel" "rowSizes" "[I", Cond.fieldLink RX9 74 "HalfAskedModel" "items" "[J", Cond.fieldLink RX9 77 "HalfAskedModel" "moved" "[J", Cond.fieldLink RX9 80 "HalfAskedModel" "row" "[I", Cond.fieldLink RX9 83 "HalfAskedModel" "first" "[I"]
def wsX9_init : List Cond := .code yX9_init cX9_init 2 none :: ((wsX9_init_r1 ++ wsX9_init_r2) ++ wsX90)
def wsX9_in : List Cond := .code yX9_in cX9_in 6 (some .boolean) :: ([])
def wsX9_isOne : List Cond := .code yX9_isOne cX9_isOne 2 (some .boolean) :: ([.fieldLink RX9 86 "HalfAskedModel" "many" "I", .methodLink RX9 90 yX9_in, .static yX9_in, .initialized RX9, .code yX9_in cX9_in 6 (some .boolean)] ++ wsX90)
def wsX9_areTwo : List Cond := .code yX9_areTwo cX9_areTwo 3 (some .boolean) :: ([.methodLink RX9 94 yX9_isOne, .instanceMethod yX9_isOne, .selects RX9 yX9_isOne yX9_isOne, .initialized RX9, .code yX9_isOne cX9_isOne 2 (some .boolean), .fieldLink RX9 86 "HalfAskedModel" "many" "I", .methodLink RX9 90 yX9_in, .static yX9_in, .code yX9_in cX9_in 6 (some .boolean)] ++ wsX90)
def wsX9_add : List Cond := .code yX9_add cX9_add 4 none :: ([.fieldLink RX9 7 "HalfAskedModel" "kinds" "[I", .fieldLink RX9 86 "HalfAskedModel" "many" "I", .fieldLink RX9 13 "HalfAskedModel" "pence" "[I", .fieldLink RX9 16 "HalfAskedModel" "known" "[I", .fieldLink RX9 19 "HalfAskedModel" "asked" "[I"] ++ wsX90)
def wsX9_person : List Cond := .code yX9_person cX9_person 3 (some .int) :: ([.constantLong RX9 98 (3), .constantLong RX9 100 (9999), .fieldLink RX9 86 "HalfAskedModel" "many" "I", .methodLink RX9 90 yX9_in, .static yX9_in, .initialized RX9, .code yX9_in cX9_in 6 (some .boolean), .methodLink RX9 102 yX9_add, .instanceMethod yX9_add, .selects RX9 yX9_add yX9_add, .code yX9_add cX9_add 4 none, .fieldLink RX9 7 "HalfAskedModel" "kinds" "[I", .fieldLink RX9 13 "HalfAskedModel" "pence" "[I", .fieldLink RX9 16 "HalfAskedModel" "known" "[I", .fieldLink RX9 19 "HalfAskedModel" "asked" "[I"] ++ wsX90)
def wsX9_set : List Cond := .code yX9_set cX9_set 4 (some .int) :: ([.constantLong RX9 100 (9999), .fieldLink RX9 13 "HalfAskedModel" "pence" "[I", .methodLink RX9 94 yX9_isOne, .instanceMethod yX9_isOne, .selects RX9 yX9_isOne yX9_isOne, .initialized RX9, .code yX9_isOne cX9_isOne 2 (some .boolean), .fieldLink RX9 86 "HalfAskedModel" "many" "I", .methodLink RX9 90 yX9_in, .static yX9_in, .code yX9_in cX9_in 6 (some .boolean)] ++ wsX90)
def wsX9_told : List Cond := .code yX9_told cX9_told 3 (some .int) :: ([.constantLong RX9 106 (4), .fieldLink RX9 7 "HalfAskedModel" "kinds" "[I", .fieldLink RX9 13 "HalfAskedModel" "pence" "[I", .fieldLink RX9 16 "HalfAskedModel" "known" "[I", .fieldLink RX9 19 "HalfAskedModel" "asked" "[I", .methodLink RX9 94 yX9_isOne, .instanceMethod yX9_isOne, .selects RX9 yX9_isOne yX9_isOne, .initialized RX9, .code yX9_isOne cX9_isOne 2 (some .boolean), .fieldLink RX9 86 "HalfAskedModel" "many" "I", .methodLink RX9 90 yX9_in, .static yX9_in, .code yX9_in cX9_in 6 (some .boolean), .methodLink RX9 108 yX9_gives, .instanceMethod yX9_gives, .selects RX9 yX9_gives yX9_gives, .code yX9_gives cX9_gives 4 (some .int)] ++ wsX90)
def wsX9_knows : List Cond := .code yX9_knows cX9_knows 5 (some .int) :: ([.fieldLink RX9 16 "HalfAskedModel" "known" "[I", .methodLink RX9 112 yX9_areTwo, .instanceMethod yX9_areTwo, .selects RX9 yX9_areTwo yX9_areTwo, .initialized RX9, .code yX9_areTwo cX9_areTwo 3 (some .boolean), .methodLink RX9 94 yX9_isOne, .instanceMethod yX9_isOne, .selects RX9 yX9_isOne yX9_isOne, .code yX9_isOne cX9_isOne 2 (some .boolean), .fieldLink RX9 86 "HalfAskedModel" "many" "I", .methodLink RX9 90 yX9_in, .static yX9_in, .code yX9_in cX9_in 6 (some .boolean)] ++ wsX90)
def wsX9_begin : List Cond := .code yX9_begin cX9_begin 2 none :: ([.fieldLink RX9 25 "HalfAskedModel" "purse" "[I", .fieldLink RX9 13 "HalfAskedModel" "pence" "[I", .fieldLink RX9 28 "HalfAskedModel" "done" "[I", .fieldLink RX9 19 "HalfAskedModel" "asked" "[I"] ++ wsX90)
def wsX9_newWeek : List Cond := .code yX9_newWeek cX9_newWeek 2 none :: ([.fieldLink RX9 28 "HalfAskedModel" "done" "[I"] ++ wsX90)
def wsX9_keep : List Cond := .code yX9_keep cX9_keep 2 none :: ([.fieldLink RX9 13 "HalfAskedModel" "pence" "[I", .fieldLink RX9 25 "HalfAskedModel" "purse" "[I", .fieldLink RX9 19 "HalfAskedModel" "asked" "[I", .fieldLink RX9 28 "HalfAskedModel" "done" "[I"] ++ wsX90)
def wsX9_ask_r1 : List Cond := [Cond.methodLink RX9 112 yX9_areTwo, Cond.instanceMethod yX9_areTwo, Cond.selects RX9 yX9_areTwo yX9_areTwo, Cond.initialized RX9, Cond.code yX9_areTwo cX9_areTwo 3 (some .boolean), Cond.methodLink RX9 94 yX9_isOne, Cond.instanceMethod yX9_isOne, Cond.selects RX9 yX9_isOne yX9_isOne, Cond.code yX9_isOne cX9_isOne 2 (some .boolean), Cond.fieldLink RX9 86 "HalfAskedModel" "many" "I", Cond.methodLink RX9 90 yX9_in, Cond.static yX9_in, Cond.code yX9_in cX9_in 6 (some .boolean), Cond.methodLink RX9 119 yX9_begin, Cond.instanceMethod yX9_begin, Cond.selects RX9 yX9_begin yX9_begin, Cond.code yX9_begin cX9_begin 2 none, Cond.fieldLink RX9 25 "HalfAskedModel" "purse" "[I", Cond.fieldLink RX9 13 "HalfAskedModel" "pence" "[I", Cond.fieldLink RX9 28 "HalfAskedModel" "done" "[I", Cond.fieldLink RX9 19 "HalfAskedModel" "asked" "[I", Cond.methodLink RX9 122 yX9_tryAsk, Cond.instanceMethod yX9_tryAsk, Cond.selects RX9 yX9_tryAsk yX9_tryAsk]
def wsX9_ask_r2 : List Cond := [Cond.code yX9_tryAsk cX9_tryAsk 4 (some .int), Cond.fieldLink RX9 16 "HalfAskedModel" "known" "[I", Cond.methodLink RX9 116 yX9_has, Cond.static yX9_has, Cond.code yX9_has cX9_has 2 (some .boolean), Cond.methodLink RX9 108 yX9_gives, Cond.instanceMethod yX9_gives, Cond.selects RX9 yX9_gives yX9_gives, Cond.code yX9_gives cX9_gives 4 (some .int), Cond.fieldLink RX9 7 "HalfAskedModel" "kinds" "[I", Cond.methodLink RX9 125 yX9_keep, Cond.instanceMethod yX9_keep, Cond.selects RX9 yX9_keep yX9_keep, Cond.code yX9_keep cX9_keep 2 none]
def wsX9_ask : List Cond := .code yX9_ask cX9_ask 4 (some .int) :: ((wsX9_ask_r1 ++ wsX9_ask_r2) ++ wsX90)
def wsX9_askings : List Cond := .code yX9_askings cX9_askings 3 (some .int) :: ([.fieldLink RX9 86 "HalfAskedModel" "many" "I", .fieldLink RX9 19 "HalfAskedModel" "asked" "[I", .methodLink RX9 128 yX9_ones, .static yX9_ones, .initialized RX9, .code yX9_ones cX9_ones 3 (some .int)] ++ wsX90)
def wsX9_week_r1 : List Cond := [Cond.methodLink RX9 132 yX9_askings, Cond.instanceMethod yX9_askings, Cond.selects RX9 yX9_askings yX9_askings, Cond.initialized RX9, Cond.code yX9_askings cX9_askings 3 (some .int), Cond.fieldLink RX9 86 "HalfAskedModel" "many" "I", Cond.fieldLink RX9 19 "HalfAskedModel" "asked" "[I", Cond.methodLink RX9 128 yX9_ones, Cond.static yX9_ones, Cond.code yX9_ones cX9_ones 3 (some .int), Cond.methodLink RX9 119 yX9_begin, Cond.instanceMethod yX9_begin, Cond.selects RX9 yX9_begin yX9_begin, Cond.code yX9_begin cX9_begin 2 none, Cond.fieldLink RX9 25 "HalfAskedModel" "purse" "[I", Cond.fieldLink RX9 13 "HalfAskedModel" "pence" "[I", Cond.fieldLink RX9 28 "HalfAskedModel" "done" "[I", Cond.methodLink RX9 136 yX9_newWeek, Cond.instanceMethod yX9_newWeek, Cond.selects RX9 yX9_newWeek yX9_newWeek, Cond.code yX9_newWeek cX9_newWeek 2 none, Cond.methodLink RX9 125 yX9_keep, Cond.instanceMethod yX9_keep, Cond.selects RX9 yX9_keep yX9_keep]
def wsX9_week_r2 : List Cond := [Cond.code yX9_keep cX9_keep 2 none]
def wsX9_week : List Cond := .code yX9_week cX9_week 2 (some .int) :: ((wsX9_week_r1 ++ wsX9_week_r2) ++ wsX90)
def wsX9_count : List Cond := .code yX9_count cX9_count 5 (some .int) :: ([.fieldLink RX9 86 "HalfAskedModel" "many" "I", .fieldLink RX9 13 "HalfAskedModel" "pence" "[I", .fieldLink RX9 139 "HalfAskedModel" "planMany" "I", .fieldLink RX9 22 "HalfAskedModel" "plan" "[I", .methodLink RX9 132 yX9_askings, .instanceMethod yX9_askings, .selects RX9 yX9_askings yX9_askings, .initialized RX9, .code yX9_askings cX9_askings 3 (some .int), .fieldLink RX9 19 "HalfAskedModel" "asked" "[I", .methodLink RX9 128 yX9_ones, .static yX9_ones, .code yX9_ones cX9_ones 3 (some .int)] ++ wsX90)
def wsX9_type : List Cond := .code yX9_type cX9_type 5 (some .int) :: ([.constantLong RX9 142 (8), .constantLong RX9 144 (255), .constantLong RX9 146 (32), .constantLong RX9 148 (126), .fieldLink RX9 150 "HalfAskedModel" "taped" "I", .fieldLink RX9 31 "HalfAskedModel" "tape" "[I", .methodLink RX9 90 yX9_in, .static yX9_in, .initialized RX9, .code yX9_in cX9_in 6 (some .boolean)] ++ wsX90)
def wsX9_nextByte : List Cond := .code yX9_nextByte cX9_nextByte 1 (some .int) :: ([.fieldLink RX9 153 "HalfAskedModel" "place" "I", .fieldLink RX9 150 "HalfAskedModel" "taped" "I", .fieldLink RX9 31 "HalfAskedModel" "tape" "[I"] ++ wsX90)
def wsX9_readOne : List Cond := .code yX9_readOne cX9_readOne 3 (some .boolean) :: ([.fieldLink RX9 34 "HalfAskedModel" "read" "[I", .fieldLink RX9 153 "HalfAskedModel" "place" "I", .methodLink RX9 156 yX9_nextByte, .instanceMethod yX9_nextByte, .selects RX9 yX9_nextByte yX9_nextByte, .initialized RX9, .code yX9_nextByte cX9_nextByte 1 (some .int), .fieldLink RX9 150 "HalfAskedModel" "taped" "I", .fieldLink RX9 31 "HalfAskedModel" "tape" "[I", .methodLink RX9 164 yX9_readNumber, .instanceMethod yX9_readNumber, .selects RX9 yX9_readNumber yX9_readNumber, .code yX9_readNumber cX9_readNumber 4 (some .int), .constantLong RX9 159 (48), .constantLong RX9 161 (57), .constant RX9 163 (99999), .methodLink RX9 90 yX9_in, .static yX9_in, .code yX9_in cX9_in 6 (some .boolean)] ++ wsX90)
def wsX9_readPeople : List Cond := .code yX9_readPeople cX9_readPeople 3 (some .boolean) :: ([.fieldLink RX9 153 "HalfAskedModel" "place" "I", .fieldLink RX9 170 "HalfAskedModel" "reads" "I", .methodLink RX9 167 yX9_readOne, .instanceMethod yX9_readOne, .selects RX9 yX9_readOne yX9_readOne, .initialized RX9, .code yX9_readOne cX9_readOne 3 (some .boolean), .fieldLink RX9 34 "HalfAskedModel" "read" "[I", .methodLink RX9 156 yX9_nextByte, .instanceMethod yX9_nextByte, .selects RX9 yX9_nextByte yX9_nextByte, .code yX9_nextByte cX9_nextByte 1 (some .int), .fieldLink RX9 150 "HalfAskedModel" "taped" "I", .fieldLink RX9 31 "HalfAskedModel" "tape" "[I", .methodLink RX9 164 yX9_readNumber, .instanceMethod yX9_readNumber, .selects RX9 yX9_readNumber yX9_readNumber, .code yX9_readNumber cX9_readNumber 4 (some .int), .constantLong RX9 159 (48), .constantLong RX9 161 (57), .constant RX9 163 (99999), .methodLink RX9 90 yX9_in, .static yX9_in, .code yX9_in cX9_in 6 (some .boolean)] ++ wsX90)
def wsX9_people_r1 : List Cond := [Cond.fieldLink RX9 150 "HalfAskedModel" "taped" "I", Cond.fieldLink RX9 153 "HalfAskedModel" "place" "I", Cond.fieldLink RX9 86 "HalfAskedModel" "many" "I", Cond.fieldLink RX9 139 "HalfAskedModel" "planMany" "I", Cond.fieldLink RX9 170 "HalfAskedModel" "reads" "I", Cond.fieldLink RX9 34 "HalfAskedModel" "read" "[I", Cond.methodLink RX9 173 yX9_readPeople, Cond.instanceMethod yX9_readPeople, Cond.selects RX9 yX9_readPeople yX9_readPeople, Cond.initialized RX9, Cond.code yX9_readPeople cX9_readPeople 3 (some .boolean), Cond.methodLink RX9 167 yX9_readOne, Cond.instanceMethod yX9_readOne, Cond.selects RX9 yX9_readOne yX9_readOne, Cond.code yX9_readOne cX9_readOne 3 (some .boolean), Cond.methodLink RX9 156 yX9_nextByte, Cond.instanceMethod yX9_nextByte, Cond.selects RX9 yX9_nextByte yX9_nextByte, Cond.code yX9_nextByte cX9_nextByte 1 (some .int), Cond.fieldLink RX9 31 "HalfAskedModel" "tape" "[I", Cond.methodLink RX9 164 yX9_readNumber, Cond.instanceMethod yX9_readNumber, Cond.selects RX9 yX9_readNumber yX9_readNumber, Cond.code yX9_readNumber cX9_readNumber 4 (some .int)]
def wsX9_people_r2 : List Cond := [Cond.constantLong RX9 159 (48), Cond.constantLong RX9 161 (57), Cond.constant RX9 163 (99999), Cond.methodLink RX9 90 yX9_in, Cond.static yX9_in, Cond.code yX9_in cX9_in 6 (some .boolean), Cond.methodLink RX9 102 yX9_add, Cond.instanceMethod yX9_add, Cond.selects RX9 yX9_add yX9_add, Cond.code yX9_add cX9_add 4 none, Cond.fieldLink RX9 7 "HalfAskedModel" "kinds" "[I", Cond.fieldLink RX9 13 "HalfAskedModel" "pence" "[I", Cond.fieldLink RX9 16 "HalfAskedModel" "known" "[I", Cond.fieldLink RX9 19 "HalfAskedModel" "asked" "[I"]
def wsX9_people : List Cond := .code yX9_people cX9_people 3 (some .int) :: ((wsX9_people_r1 ++ wsX9_people_r2) ++ wsX90)
def wsX9_readAsking : List Cond := .code yX9_readAsking cX9_readAsking 4 (some .boolean) :: ([.fieldLink RX9 153 "HalfAskedModel" "place" "I", .fieldLink RX9 34 "HalfAskedModel" "read" "[I", .methodLink RX9 156 yX9_nextByte, .instanceMethod yX9_nextByte, .selects RX9 yX9_nextByte yX9_nextByte, .initialized RX9, .code yX9_nextByte cX9_nextByte 1 (some .int), .fieldLink RX9 150 "HalfAskedModel" "taped" "I", .fieldLink RX9 31 "HalfAskedModel" "tape" "[I", .methodLink RX9 94 yX9_isOne, .instanceMethod yX9_isOne, .selects RX9 yX9_isOne yX9_isOne, .code yX9_isOne cX9_isOne 2 (some .boolean), .fieldLink RX9 86 "HalfAskedModel" "many" "I", .methodLink RX9 90 yX9_in, .static yX9_in, .code yX9_in cX9_in 6 (some .boolean)] ++ wsX90)
def wsX9_readPlan : List Cond := .code yX9_readPlan cX9_readPlan 3 (some .boolean) :: ([.fieldLink RX9 153 "HalfAskedModel" "place" "I", .fieldLink RX9 170 "HalfAskedModel" "reads" "I", .fieldLink RX9 34 "HalfAskedModel" "read" "[I", .methodLink RX9 177 yX9_readAsking, .instanceMethod yX9_readAsking, .selects RX9 yX9_readAsking yX9_readAsking, .initialized RX9, .code yX9_readAsking cX9_readAsking 4 (some .boolean), .methodLink RX9 156 yX9_nextByte, .instanceMethod yX9_nextByte, .selects RX9 yX9_nextByte yX9_nextByte, .code yX9_nextByte cX9_nextByte 1 (some .int), .fieldLink RX9 150 "HalfAskedModel" "taped" "I", .fieldLink RX9 31 "HalfAskedModel" "tape" "[I", .methodLink RX9 94 yX9_isOne, .instanceMethod yX9_isOne, .selects RX9 yX9_isOne yX9_isOne, .code yX9_isOne cX9_isOne 2 (some .boolean), .fieldLink RX9 86 "HalfAskedModel" "many" "I", .methodLink RX9 90 yX9_in, .static yX9_in, .code yX9_in cX9_in 6 (some .boolean)] ++ wsX90)
def wsX9_plan_r1 : List Cond := [Cond.fieldLink RX9 150 "HalfAskedModel" "taped" "I", Cond.fieldLink RX9 153 "HalfAskedModel" "place" "I", Cond.fieldLink RX9 170 "HalfAskedModel" "reads" "I", Cond.fieldLink RX9 139 "HalfAskedModel" "planMany" "I", Cond.fieldLink RX9 22 "HalfAskedModel" "plan" "[I", Cond.fieldLink RX9 34 "HalfAskedModel" "read" "[I", Cond.methodLink RX9 180 yX9_readPlan, Cond.instanceMethod yX9_readPlan, Cond.selects RX9 yX9_readPlan yX9_readPlan, Cond.initialized RX9, Cond.code yX9_readPlan cX9_readPlan 3 (some .boolean), Cond.methodLink RX9 177 yX9_readAsking, Cond.instanceMethod yX9_readAsking, Cond.selects RX9 yX9_readAsking yX9_readAsking, Cond.code yX9_readAsking cX9_readAsking 4 (some .boolean), Cond.methodLink RX9 156 yX9_nextByte, Cond.instanceMethod yX9_nextByte, Cond.selects RX9 yX9_nextByte yX9_nextByte, Cond.code yX9_nextByte cX9_nextByte 1 (some .int), Cond.fieldLink RX9 31 "HalfAskedModel" "tape" "[I", Cond.methodLink RX9 94 yX9_isOne, Cond.instanceMethod yX9_isOne, Cond.selects RX9 yX9_isOne yX9_isOne, Cond.code yX9_isOne cX9_isOne 2 (some .boolean)]
def wsX9_plan_r2 : List Cond := [Cond.fieldLink RX9 86 "HalfAskedModel" "many" "I", Cond.methodLink RX9 90 yX9_in, Cond.static yX9_in, Cond.code yX9_in cX9_in 6 (some .boolean)]
def wsX9_plan : List Cond := .code yX9_plan cX9_plan 3 (some .int) :: ((wsX9_plan_r1 ++ wsX9_plan_r2) ++ wsX90)
def wsX9_run_r1 : List Cond := [Cond.fieldLink RX9 139 "HalfAskedModel" "planMany" "I", Cond.fieldLink RX9 22 "HalfAskedModel" "plan" "[I", Cond.methodLink RX9 119 yX9_begin, Cond.instanceMethod yX9_begin, Cond.selects RX9 yX9_begin yX9_begin, Cond.initialized RX9, Cond.code yX9_begin cX9_begin 2 none, Cond.fieldLink RX9 25 "HalfAskedModel" "purse" "[I", Cond.fieldLink RX9 13 "HalfAskedModel" "pence" "[I", Cond.fieldLink RX9 28 "HalfAskedModel" "done" "[I", Cond.fieldLink RX9 19 "HalfAskedModel" "asked" "[I", Cond.methodLink RX9 122 yX9_tryAsk, Cond.instanceMethod yX9_tryAsk, Cond.selects RX9 yX9_tryAsk yX9_tryAsk, Cond.code yX9_tryAsk cX9_tryAsk 4 (some .int), Cond.fieldLink RX9 16 "HalfAskedModel" "known" "[I", Cond.methodLink RX9 116 yX9_has, Cond.static yX9_has, Cond.code yX9_has cX9_has 2 (some .boolean), Cond.methodLink RX9 108 yX9_gives, Cond.instanceMethod yX9_gives, Cond.selects RX9 yX9_gives yX9_gives, Cond.code yX9_gives cX9_gives 4 (some .int), Cond.fieldLink RX9 7 "HalfAskedModel" "kinds" "[I"]
def wsX9_run_r2 : List Cond := [Cond.methodLink RX9 136 yX9_newWeek, Cond.instanceMethod yX9_newWeek, Cond.selects RX9 yX9_newWeek yX9_newWeek, Cond.code yX9_newWeek cX9_newWeek 2 none, Cond.methodLink RX9 125 yX9_keep, Cond.instanceMethod yX9_keep, Cond.selects RX9 yX9_keep yX9_keep, Cond.code yX9_keep cX9_keep 2 none]
def wsX9_run : List Cond := .code yX9_run cX9_run 2 (some .int) :: ((wsX9_run_r1 ++ wsX9_run_r2) ++ wsX90)
def wsX9_most_r1 : List Cond := [Cond.methodLink RX9 94 yX9_isOne, Cond.instanceMethod yX9_isOne, Cond.selects RX9 yX9_isOne yX9_isOne, Cond.initialized RX9, Cond.code yX9_isOne cX9_isOne 2 (some .boolean), Cond.fieldLink RX9 86 "HalfAskedModel" "many" "I", Cond.methodLink RX9 90 yX9_in, Cond.static yX9_in, Cond.code yX9_in cX9_in 6 (some .boolean), Cond.methodLink RX9 192 yX9_findTimes, Cond.instanceMethod yX9_findTimes, Cond.selects RX9 yX9_findTimes yX9_findTimes, Cond.code yX9_findTimes cX9_findTimes 6 (some .int), Cond.fieldLink RX9 37 "HalfAskedModel" "times" "[I", Cond.fieldLink RX9 40 "HalfAskedModel" "bestTimes" "[I", Cond.methodLink RX9 186 yX9_goWith, Cond.instanceMethod yX9_goWith, Cond.selects RX9 yX9_goWith yX9_goWith, Cond.code yX9_goWith cX9_goWith 3 (some .int), Cond.fieldLink RX9 139 "HalfAskedModel" "planMany" "I", Cond.fieldLink RX9 22 "HalfAskedModel" "plan" "[I", Cond.fieldLink RX9 25 "HalfAskedModel" "purse" "[I", Cond.methodLink RX9 119 yX9_begin, Cond.instanceMethod yX9_begin]
def wsX9_most_r2 : List Cond := [Cond.selects RX9 yX9_begin yX9_begin, Cond.code yX9_begin cX9_begin 2 none, Cond.fieldLink RX9 13 "HalfAskedModel" "pence" "[I", Cond.fieldLink RX9 28 "HalfAskedModel" "done" "[I", Cond.fieldLink RX9 19 "HalfAskedModel" "asked" "[I", Cond.methodLink RX9 183 yX9_askAt, Cond.instanceMethod yX9_askAt, Cond.selects RX9 yX9_askAt yX9_askAt, Cond.code yX9_askAt cX9_askAt 4 none, Cond.methodLink RX9 122 yX9_tryAsk, Cond.instanceMethod yX9_tryAsk, Cond.selects RX9 yX9_tryAsk yX9_tryAsk, Cond.code yX9_tryAsk cX9_tryAsk 4 (some .int), Cond.fieldLink RX9 16 "HalfAskedModel" "known" "[I", Cond.methodLink RX9 116 yX9_has, Cond.static yX9_has, Cond.code yX9_has cX9_has 2 (some .boolean), Cond.methodLink RX9 108 yX9_gives, Cond.instanceMethod yX9_gives, Cond.selects RX9 yX9_gives yX9_gives, Cond.code yX9_gives cX9_gives 4 (some .int), Cond.fieldLink RX9 7 "HalfAskedModel" "kinds" "[I", Cond.methodLink RX9 136 yX9_newWeek, Cond.instanceMethod yX9_newWeek]
def wsX9_most_r3 : List Cond := [Cond.selects RX9 yX9_newWeek yX9_newWeek, Cond.code yX9_newWeek cX9_newWeek 2 none, Cond.methodLink RX9 189 yX9_nextTimes, Cond.instanceMethod yX9_nextTimes, Cond.selects RX9 yX9_nextTimes yX9_nextTimes, Cond.code yX9_nextTimes cX9_nextTimes 3 (some .boolean)]
def wsX9_most : List Cond := .code yX9_most cX9_most 2 (some .int) :: ((wsX9_most_r1 ++ (wsX9_most_r2 ++ wsX9_most_r3)) ++ wsX90)
def wsX9_when_r1 : List Cond := [Cond.fieldLink RX9 40 "HalfAskedModel" "bestTimes" "[I", Cond.methodLink RX9 112 yX9_areTwo, Cond.instanceMethod yX9_areTwo, Cond.selects RX9 yX9_areTwo yX9_areTwo, Cond.initialized RX9, Cond.code yX9_areTwo cX9_areTwo 3 (some .boolean), Cond.methodLink RX9 94 yX9_isOne, Cond.instanceMethod yX9_isOne, Cond.selects RX9 yX9_isOne yX9_isOne, Cond.code yX9_isOne cX9_isOne 2 (some .boolean), Cond.fieldLink RX9 86 "HalfAskedModel" "many" "I", Cond.methodLink RX9 90 yX9_in, Cond.static yX9_in, Cond.code yX9_in cX9_in 6 (some .boolean), Cond.methodLink RX9 192 yX9_findTimes, Cond.instanceMethod yX9_findTimes, Cond.selects RX9 yX9_findTimes yX9_findTimes, Cond.code yX9_findTimes cX9_findTimes 6 (some .int), Cond.fieldLink RX9 37 "HalfAskedModel" "times" "[I", Cond.methodLink RX9 186 yX9_goWith, Cond.instanceMethod yX9_goWith, Cond.selects RX9 yX9_goWith yX9_goWith, Cond.code yX9_goWith cX9_goWith 3 (some .int), Cond.fieldLink RX9 139 "HalfAskedModel" "planMany" "I"]
def wsX9_when_r2 : List Cond := [Cond.fieldLink RX9 22 "HalfAskedModel" "plan" "[I", Cond.fieldLink RX9 25 "HalfAskedModel" "purse" "[I", Cond.methodLink RX9 119 yX9_begin, Cond.instanceMethod yX9_begin, Cond.selects RX9 yX9_begin yX9_begin, Cond.code yX9_begin cX9_begin 2 none, Cond.fieldLink RX9 13 "HalfAskedModel" "pence" "[I", Cond.fieldLink RX9 28 "HalfAskedModel" "done" "[I", Cond.fieldLink RX9 19 "HalfAskedModel" "asked" "[I", Cond.methodLink RX9 183 yX9_askAt, Cond.instanceMethod yX9_askAt, Cond.selects RX9 yX9_askAt yX9_askAt, Cond.code yX9_askAt cX9_askAt 4 none, Cond.methodLink RX9 122 yX9_tryAsk, Cond.instanceMethod yX9_tryAsk, Cond.selects RX9 yX9_tryAsk yX9_tryAsk, Cond.code yX9_tryAsk cX9_tryAsk 4 (some .int), Cond.fieldLink RX9 16 "HalfAskedModel" "known" "[I", Cond.methodLink RX9 116 yX9_has, Cond.static yX9_has, Cond.code yX9_has cX9_has 2 (some .boolean), Cond.methodLink RX9 108 yX9_gives, Cond.instanceMethod yX9_gives, Cond.selects RX9 yX9_gives yX9_gives]
def wsX9_when_r3 : List Cond := [Cond.code yX9_gives cX9_gives 4 (some .int), Cond.fieldLink RX9 7 "HalfAskedModel" "kinds" "[I", Cond.methodLink RX9 136 yX9_newWeek, Cond.instanceMethod yX9_newWeek, Cond.selects RX9 yX9_newWeek yX9_newWeek, Cond.code yX9_newWeek cX9_newWeek 2 none, Cond.methodLink RX9 189 yX9_nextTimes, Cond.instanceMethod yX9_nextTimes, Cond.selects RX9 yX9_nextTimes yX9_nextTimes, Cond.code yX9_nextTimes cX9_nextTimes 3 (some .boolean)]
def wsX9_when : List Cond := .code yX9_when cX9_when 3 (some .int) :: ((wsX9_when_r1 ++ (wsX9_when_r2 ++ wsX9_when_r3)) ++ wsX90)
def wsX9_turns_r1 : List Cond := [Cond.fieldLink RX9 52 "HalfAskedModel" "choices" "[I", Cond.methodLink RX9 94 yX9_isOne, Cond.instanceMethod yX9_isOne, Cond.selects RX9 yX9_isOne yX9_isOne, Cond.initialized RX9, Cond.code yX9_isOne cX9_isOne 2 (some .boolean), Cond.fieldLink RX9 86 "HalfAskedModel" "many" "I", Cond.methodLink RX9 90 yX9_in, Cond.static yX9_in, Cond.code yX9_in cX9_in 6 (some .boolean), Cond.methodLink RX9 205 yX9_findTurns, Cond.instanceMethod yX9_findTurns, Cond.selects RX9 yX9_findTurns yX9_findTurns, Cond.code yX9_findTurns cX9_findTurns 2 none, Cond.fieldLink RX9 43 "HalfAskedModel" "ahead" "[I", Cond.fieldLink RX9 13 "HalfAskedModel" "pence" "[I", Cond.fieldLink RX9 46 "HalfAskedModel" "tried" "[I", Cond.methodLink RX9 195 yX9_beginTurn, Cond.instanceMethod yX9_beginTurn, Cond.selects RX9 yX9_beginTurn yX9_beginTurn, Cond.code yX9_beginTurn cX9_beginTurn 3 none, Cond.fieldLink RX9 49 "HalfAskedModel" "endPence" "[I", Cond.methodLink RX9 199 yX9_giveBack, Cond.instanceMethod yX9_giveBack]
def wsX9_turns_r2 : List Cond := [Cond.selects RX9 yX9_giveBack yX9_giveBack, Cond.code yX9_giveBack cX9_giveBack 5 none, Cond.methodLink RX9 202 yX9_goTurn, Cond.instanceMethod yX9_goTurn, Cond.selects RX9 yX9_goTurn yX9_goTurn, Cond.code yX9_goTurn cX9_goTurn 4 (some .boolean), Cond.fieldLink RX9 25 "HalfAskedModel" "purse" "[I", Cond.fieldLink RX9 28 "HalfAskedModel" "done" "[I", Cond.fieldLink RX9 19 "HalfAskedModel" "asked" "[I", Cond.methodLink RX9 122 yX9_tryAsk, Cond.instanceMethod yX9_tryAsk, Cond.selects RX9 yX9_tryAsk yX9_tryAsk, Cond.code yX9_tryAsk cX9_tryAsk 4 (some .int), Cond.fieldLink RX9 16 "HalfAskedModel" "known" "[I", Cond.methodLink RX9 116 yX9_has, Cond.static yX9_has, Cond.code yX9_has cX9_has 2 (some .boolean), Cond.methodLink RX9 108 yX9_gives, Cond.instanceMethod yX9_gives, Cond.selects RX9 yX9_gives yX9_gives, Cond.code yX9_gives cX9_gives 4 (some .int), Cond.fieldLink RX9 7 "HalfAskedModel" "kinds" "[I"]
def wsX9_turns : List Cond := .code yX9_turns cX9_turns 2 (some .int) :: ((wsX9_turns_r1 ++ wsX9_turns_r2) ++ wsX90)
def wsX9_ends_r1 : List Cond := [Cond.fieldLink RX9 49 "HalfAskedModel" "endPence" "[I", Cond.methodLink RX9 94 yX9_isOne, Cond.instanceMethod yX9_isOne, Cond.selects RX9 yX9_isOne yX9_isOne, Cond.initialized RX9, Cond.code yX9_isOne cX9_isOne 2 (some .boolean), Cond.fieldLink RX9 86 "HalfAskedModel" "many" "I", Cond.methodLink RX9 90 yX9_in, Cond.static yX9_in, Cond.code yX9_in cX9_in 6 (some .boolean), Cond.methodLink RX9 205 yX9_findTurns, Cond.instanceMethod yX9_findTurns, Cond.selects RX9 yX9_findTurns yX9_findTurns, Cond.code yX9_findTurns cX9_findTurns 2 none, Cond.fieldLink RX9 43 "HalfAskedModel" "ahead" "[I", Cond.fieldLink RX9 13 "HalfAskedModel" "pence" "[I", Cond.fieldLink RX9 46 "HalfAskedModel" "tried" "[I", Cond.methodLink RX9 195 yX9_beginTurn, Cond.instanceMethod yX9_beginTurn, Cond.selects RX9 yX9_beginTurn yX9_beginTurn, Cond.code yX9_beginTurn cX9_beginTurn 3 none, Cond.methodLink RX9 199 yX9_giveBack, Cond.instanceMethod yX9_giveBack, Cond.selects RX9 yX9_giveBack yX9_giveBack]
def wsX9_ends_r2 : List Cond := [Cond.code yX9_giveBack cX9_giveBack 5 none, Cond.fieldLink RX9 52 "HalfAskedModel" "choices" "[I", Cond.methodLink RX9 202 yX9_goTurn, Cond.instanceMethod yX9_goTurn, Cond.selects RX9 yX9_goTurn yX9_goTurn, Cond.code yX9_goTurn cX9_goTurn 4 (some .boolean), Cond.fieldLink RX9 25 "HalfAskedModel" "purse" "[I", Cond.fieldLink RX9 28 "HalfAskedModel" "done" "[I", Cond.fieldLink RX9 19 "HalfAskedModel" "asked" "[I", Cond.methodLink RX9 122 yX9_tryAsk, Cond.instanceMethod yX9_tryAsk, Cond.selects RX9 yX9_tryAsk yX9_tryAsk, Cond.code yX9_tryAsk cX9_tryAsk 4 (some .int), Cond.fieldLink RX9 16 "HalfAskedModel" "known" "[I", Cond.methodLink RX9 116 yX9_has, Cond.static yX9_has, Cond.code yX9_has cX9_has 2 (some .boolean), Cond.methodLink RX9 108 yX9_gives, Cond.instanceMethod yX9_gives, Cond.selects RX9 yX9_gives yX9_gives, Cond.code yX9_gives cX9_gives 4 (some .int), Cond.fieldLink RX9 7 "HalfAskedModel" "kinds" "[I"]
def wsX9_ends : List Cond := .code yX9_ends cX9_ends 2 (some .int) :: ((wsX9_ends_r1 ++ wsX9_ends_r2) ++ wsX90)
def wsX9_order_r1 : List Cond := [Cond.constantLong RX9 208 (-1), Cond.constantLong RX9 210 (5), Cond.fieldLink RX9 139 "HalfAskedModel" "planMany" "I", Cond.fieldLink RX9 86 "HalfAskedModel" "many" "I", Cond.constant RX9 215 (1000000), Cond.fieldLink RX9 58 "HalfAskedModel" "best" "[I", Cond.fieldLink RX9 55 "HalfAskedModel" "order" "[I", Cond.methodLink RX9 90 yX9_in, Cond.static yX9_in, Cond.initialized RX9, Cond.code yX9_in cX9_in 6 (some .boolean), Cond.methodLink RX9 212 yX9_firstOrder, Cond.instanceMethod yX9_firstOrder, Cond.selects RX9 yX9_firstOrder yX9_firstOrder, Cond.code yX9_firstOrder cX9_firstOrder 2 none, Cond.methodLink RX9 216 yX9_goOrder, Cond.instanceMethod yX9_goOrder, Cond.selects RX9 yX9_goOrder yX9_goOrder, Cond.code yX9_goOrder cX9_goOrder 2 none, Cond.fieldLink RX9 22 "HalfAskedModel" "plan" "[I", Cond.methodLink RX9 119 yX9_begin, Cond.instanceMethod yX9_begin, Cond.selects RX9 yX9_begin yX9_begin, Cond.code yX9_begin cX9_begin 2 none]
def wsX9_order_r2 : List Cond := [Cond.fieldLink RX9 25 "HalfAskedModel" "purse" "[I", Cond.fieldLink RX9 13 "HalfAskedModel" "pence" "[I", Cond.fieldLink RX9 28 "HalfAskedModel" "done" "[I", Cond.fieldLink RX9 19 "HalfAskedModel" "asked" "[I", Cond.methodLink RX9 122 yX9_tryAsk, Cond.instanceMethod yX9_tryAsk, Cond.selects RX9 yX9_tryAsk yX9_tryAsk, Cond.code yX9_tryAsk cX9_tryAsk 4 (some .int), Cond.fieldLink RX9 16 "HalfAskedModel" "known" "[I", Cond.methodLink RX9 116 yX9_has, Cond.static yX9_has, Cond.code yX9_has cX9_has 2 (some .boolean), Cond.methodLink RX9 108 yX9_gives, Cond.instanceMethod yX9_gives, Cond.selects RX9 yX9_gives yX9_gives, Cond.code yX9_gives cX9_gives 4 (some .int), Cond.fieldLink RX9 7 "HalfAskedModel" "kinds" "[I", Cond.methodLink RX9 219 yX9_apart, Cond.instanceMethod yX9_apart, Cond.selects RX9 yX9_apart yX9_apart, Cond.code yX9_apart cX9_apart 4 (some .int), Cond.methodLink RX9 222 yX9_nextOrder, Cond.instanceMethod yX9_nextOrder, Cond.selects RX9 yX9_nextOrder yX9_nextOrder]
def wsX9_order_r3 : List Cond := [Cond.code yX9_nextOrder cX9_nextOrder 6 (some .boolean)]
def wsX9_order : List Cond := .code yX9_order cX9_order 6 (some .int) :: ((wsX9_order_r1 ++ (wsX9_order_r2 ++ wsX9_order_r3)) ++ wsX90)
def wsX9_so_r1 : List Cond := [Cond.fieldLink RX9 86 "HalfAskedModel" "many" "I", Cond.constantLong RX9 225 (99999), Cond.fieldLink RX9 139 "HalfAskedModel" "planMany" "I", Cond.fieldLink RX9 25 "HalfAskedModel" "purse" "[I", Cond.methodLink RX9 90 yX9_in, Cond.static yX9_in, Cond.initialized RX9, Cond.code yX9_in cX9_in 6 (some .boolean), Cond.methodLink RX9 212 yX9_firstOrder, Cond.instanceMethod yX9_firstOrder, Cond.selects RX9 yX9_firstOrder yX9_firstOrder, Cond.code yX9_firstOrder cX9_firstOrder 2 none, Cond.fieldLink RX9 55 "HalfAskedModel" "order" "[I", Cond.methodLink RX9 216 yX9_goOrder, Cond.instanceMethod yX9_goOrder, Cond.selects RX9 yX9_goOrder yX9_goOrder, Cond.code yX9_goOrder cX9_goOrder 2 none, Cond.fieldLink RX9 22 "HalfAskedModel" "plan" "[I", Cond.methodLink RX9 119 yX9_begin, Cond.instanceMethod yX9_begin, Cond.selects RX9 yX9_begin yX9_begin, Cond.code yX9_begin cX9_begin 2 none, Cond.fieldLink RX9 13 "HalfAskedModel" "pence" "[I", Cond.fieldLink RX9 28 "HalfAskedModel" "done" "[I"]
def wsX9_so_r2 : List Cond := [Cond.fieldLink RX9 19 "HalfAskedModel" "asked" "[I", Cond.methodLink RX9 122 yX9_tryAsk, Cond.instanceMethod yX9_tryAsk, Cond.selects RX9 yX9_tryAsk yX9_tryAsk, Cond.code yX9_tryAsk cX9_tryAsk 4 (some .int), Cond.fieldLink RX9 16 "HalfAskedModel" "known" "[I", Cond.methodLink RX9 116 yX9_has, Cond.static yX9_has, Cond.code yX9_has cX9_has 2 (some .boolean), Cond.methodLink RX9 108 yX9_gives, Cond.instanceMethod yX9_gives, Cond.selects RX9 yX9_gives yX9_gives, Cond.code yX9_gives cX9_gives 4 (some .int), Cond.fieldLink RX9 7 "HalfAskedModel" "kinds" "[I", Cond.methodLink RX9 222 yX9_nextOrder, Cond.instanceMethod yX9_nextOrder, Cond.selects RX9 yX9_nextOrder yX9_nextOrder, Cond.code yX9_nextOrder cX9_nextOrder 6 (some .boolean)]
def wsX9_so : List Cond := .code yX9_so cX9_so 7 (some .int) :: ((wsX9_so_r1 ++ wsX9_so_r2) ++ wsX90)
def wsX9_exact : List Cond := .code yX9_exact cX9_exact 11 (some .long) :: ([.constantLong RX9 98 (3), .constantLong RX9 208 (-1), .fieldLink RX9 86 "HalfAskedModel" "many" "I", .fieldLink RX9 61 "HalfAskedModel" "parts" "[J", .fieldLink RX9 13 "HalfAskedModel" "pence" "[I", .fieldLink RX9 139 "HalfAskedModel" "planMany" "I", .fieldLink RX9 22 "HalfAskedModel" "plan" "[I", .fieldLink RX9 16 "HalfAskedModel" "known" "[I", .constantLong RX9 227 (2), .methodLink RX9 94 yX9_isOne, .instanceMethod yX9_isOne, .selects RX9 yX9_isOne yX9_isOne, .initialized RX9, .code yX9_isOne cX9_isOne 2 (some .boolean), .methodLink RX9 90 yX9_in, .static yX9_in, .code yX9_in cX9_in 6 (some .boolean), .methodLink RX9 116 yX9_has, .static yX9_has, .code yX9_has cX9_has 2 (some .boolean)] ++ wsX90)
def wsX9_shun_r1 : List Cond := [Cond.fieldLink RX9 86 "HalfAskedModel" "many" "I", Cond.methodLink RX9 94 yX9_isOne, Cond.instanceMethod yX9_isOne, Cond.selects RX9 yX9_isOne yX9_isOne, Cond.initialized RX9, Cond.code yX9_isOne cX9_isOne 2 (some .boolean), Cond.methodLink RX9 90 yX9_in, Cond.static yX9_in, Cond.code yX9_in cX9_in 6 (some .boolean), Cond.methodLink RX9 229 yX9_goWithout, Cond.instanceMethod yX9_goWithout, Cond.selects RX9 yX9_goWithout yX9_goWithout, Cond.code yX9_goWithout cX9_goWithout 4 (some .int), Cond.fieldLink RX9 139 "HalfAskedModel" "planMany" "I", Cond.fieldLink RX9 22 "HalfAskedModel" "plan" "[I", Cond.fieldLink RX9 25 "HalfAskedModel" "purse" "[I", Cond.methodLink RX9 119 yX9_begin, Cond.instanceMethod yX9_begin, Cond.selects RX9 yX9_begin yX9_begin, Cond.code yX9_begin cX9_begin 2 none, Cond.fieldLink RX9 13 "HalfAskedModel" "pence" "[I", Cond.fieldLink RX9 28 "HalfAskedModel" "done" "[I", Cond.fieldLink RX9 19 "HalfAskedModel" "asked" "[I", Cond.methodLink RX9 122 yX9_tryAsk]
def wsX9_shun_r2 : List Cond := [Cond.instanceMethod yX9_tryAsk, Cond.selects RX9 yX9_tryAsk yX9_tryAsk, Cond.code yX9_tryAsk cX9_tryAsk 4 (some .int), Cond.fieldLink RX9 16 "HalfAskedModel" "known" "[I", Cond.methodLink RX9 116 yX9_has, Cond.static yX9_has, Cond.code yX9_has cX9_has 2 (some .boolean), Cond.methodLink RX9 108 yX9_gives, Cond.instanceMethod yX9_gives, Cond.selects RX9 yX9_gives yX9_gives, Cond.code yX9_gives cX9_gives 4 (some .int), Cond.fieldLink RX9 7 "HalfAskedModel" "kinds" "[I", Cond.methodLink RX9 136 yX9_newWeek, Cond.instanceMethod yX9_newWeek, Cond.selects RX9 yX9_newWeek yX9_newWeek, Cond.code yX9_newWeek cX9_newWeek 2 none]
def wsX9_shun : List Cond := .code yX9_shun cX9_shun 6 (some .int) :: ((wsX9_shun_r1 ++ wsX9_shun_r2) ++ wsX90)
def wsX9_carried : List Cond := .code yX9_carried cX9_carried 6 (some .int) :: ([.fieldLink RX9 7 "HalfAskedModel" "kinds" "[I", .fieldLink RX9 13 "HalfAskedModel" "pence" "[I", .fieldLink RX9 16 "HalfAskedModel" "known" "[I", .fieldLink RX9 19 "HalfAskedModel" "asked" "[I", .fieldLink RX9 22 "HalfAskedModel" "plan" "[I", .fieldLink RX9 86 "HalfAskedModel" "many" "I", .fieldLink RX9 139 "HalfAskedModel" "planMany" "I"] ++ wsX90)
def wsX9_image : List Cond := .code yX9_image cX9_image 2 (some .int) :: ([.fieldLink RX9 65 "HalfAskedModel" "kept" "[I", .fieldLink RX9 236 "HalfAskedModel" "isKept" "Z", .methodLink RX9 232 yX9_carried, .instanceMethod yX9_carried, .selects RX9 yX9_carried yX9_carried, .initialized RX9, .code yX9_carried cX9_carried 6 (some .int), .fieldLink RX9 7 "HalfAskedModel" "kinds" "[I", .fieldLink RX9 13 "HalfAskedModel" "pence" "[I", .fieldLink RX9 16 "HalfAskedModel" "known" "[I", .fieldLink RX9 19 "HalfAskedModel" "asked" "[I", .fieldLink RX9 22 "HalfAskedModel" "plan" "[I", .fieldLink RX9 86 "HalfAskedModel" "many" "I", .fieldLink RX9 139 "HalfAskedModel" "planMany" "I"] ++ wsX90)
def wsX9_restore : List Cond := .code yX9_restore cX9_restore 2 (some .int) :: ([.fieldLink RX9 236 "HalfAskedModel" "isKept" "Z", .fieldLink RX9 65 "HalfAskedModel" "kept" "[I", .methodLink RX9 232 yX9_carried, .instanceMethod yX9_carried, .selects RX9 yX9_carried yX9_carried, .initialized RX9, .code yX9_carried cX9_carried 6 (some .int), .fieldLink RX9 7 "HalfAskedModel" "kinds" "[I", .fieldLink RX9 13 "HalfAskedModel" "pence" "[I", .fieldLink RX9 16 "HalfAskedModel" "known" "[I", .fieldLink RX9 19 "HalfAskedModel" "asked" "[I", .fieldLink RX9 22 "HalfAskedModel" "plan" "[I", .fieldLink RX9 86 "HalfAskedModel" "many" "I", .fieldLink RX9 139 "HalfAskedModel" "planMany" "I"] ++ wsX90)
def wsX9_isSheet : List Cond := .code yX9_isSheet cX9_isSheet 2 (some .boolean) :: ([.constantLong RX9 98 (3), .constantLong RX9 227 (2), .methodLink RX9 90 yX9_in, .static yX9_in, .initialized RX9, .code yX9_in cX9_in 6 (some .boolean)])
def wsX9_sheet : List Cond := .code yX9_sheet cX9_sheet 5 (some .int) :: ([.fieldLink RX9 68 "HalfAskedModel" "lanes" "[I", .fieldLink RX9 71 "HalfAskedModel" "rowSizes" "[I", .fieldLink RX9 74 "HalfAskedModel" "items" "[J", .methodLink RX9 240 yX9_isSheet, .static yX9_isSheet, .initialized RX9, .code yX9_isSheet cX9_isSheet 2 (some .boolean), .constantLong RX9 98 (3), .constantLong RX9 227 (2), .methodLink RX9 90 yX9_in, .static yX9_in, .code yX9_in cX9_in 6 (some .boolean)] ++ wsX90)
def wsX9_drop : List Cond := .code yX9_drop cX9_drop 2 (some .int) :: ([.constantLong RX9 98 (3), .fieldLink RX9 68 "HalfAskedModel" "lanes" "[I", .fieldLink RX9 71 "HalfAskedModel" "rowSizes" "[I", .methodLink RX9 90 yX9_in, .static yX9_in, .initialized RX9, .code yX9_in cX9_in 6 (some .boolean)] ++ wsX90)
def wsX9_lacksRow : List Cond := .code yX9_lacksRow cX9_lacksRow 5 (some .int) :: ([.fieldLink RX9 68 "HalfAskedModel" "lanes" "[I", .fieldLink RX9 71 "HalfAskedModel" "rowSizes" "[I", .methodLink RX9 90 yX9_in, .static yX9_in, .initialized RX9, .code yX9_in cX9_in 6 (some .boolean)] ++ wsX90)
def wsX9_item : List Cond := .code yX9_item cX9_item 7 (some .int) :: ([.fieldLink RX9 74 "HalfAskedModel" "items" "[J", .methodLink RX9 240 yX9_isSheet, .static yX9_isSheet, .initialized RX9, .code yX9_isSheet cX9_isSheet 2 (some .boolean), .constantLong RX9 98 (3), .constantLong RX9 227 (2), .methodLink RX9 90 yX9_in, .static yX9_in, .code yX9_in cX9_in 6 (some .boolean), .methodLink RX9 243 yX9_lacksRow, .instanceMethod yX9_lacksRow, .selects RX9 yX9_lacksRow yX9_lacksRow, .code yX9_lacksRow cX9_lacksRow 5 (some .int), .fieldLink RX9 68 "HalfAskedModel" "lanes" "[I", .fieldLink RX9 71 "HalfAskedModel" "rowSizes" "[I", .methodLink RX9 247 yX9_asLane, .static yX9_asLane, .code yX9_asLane cX9_asLane 3 (some .long)] ++ wsX90)
def wsX9_film : List Cond := .code yX9_film cX9_film 6 (some .int) :: ([.fieldLink RX9 86 "HalfAskedModel" "many" "I", .fieldLink RX9 74 "HalfAskedModel" "items" "[J", .fieldLink RX9 13 "HalfAskedModel" "pence" "[I", .methodLink RX9 240 yX9_isSheet, .static yX9_isSheet, .initialized RX9, .code yX9_isSheet cX9_isSheet 2 (some .boolean), .constantLong RX9 98 (3), .constantLong RX9 227 (2), .methodLink RX9 90 yX9_in, .static yX9_in, .code yX9_in cX9_in 6 (some .boolean), .methodLink RX9 243 yX9_lacksRow, .instanceMethod yX9_lacksRow, .selects RX9 yX9_lacksRow yX9_lacksRow, .code yX9_lacksRow cX9_lacksRow 5 (some .int), .fieldLink RX9 68 "HalfAskedModel" "lanes" "[I", .fieldLink RX9 71 "HalfAskedModel" "rowSizes" "[I", .methodLink RX9 247 yX9_asLane, .static yX9_asLane, .code yX9_asLane cX9_asLane 3 (some .long)] ++ wsX90)
def wsX9_copy : List Cond := .code yX9_copy cX9_copy 7 (some .int) :: ([.constantLong RX9 98 (3), .fieldLink RX9 68 "HalfAskedModel" "lanes" "[I", .fieldLink RX9 71 "HalfAskedModel" "rowSizes" "[I", .fieldLink RX9 77 "HalfAskedModel" "moved" "[J", .fieldLink RX9 74 "HalfAskedModel" "items" "[J", .methodLink RX9 90 yX9_in, .static yX9_in, .initialized RX9, .code yX9_in cX9_in 6 (some .boolean)] ++ wsX90)
def wsX9_who_r1 : List Cond := [Cond.constantLong RX9 98 (3), Cond.constantLong RX9 208 (-1), Cond.fieldLink RX9 86 "HalfAskedModel" "many" "I", Cond.fieldLink RX9 74 "HalfAskedModel" "items" "[J", Cond.constantLong RX9 225 (99999), Cond.fieldLink RX9 80 "HalfAskedModel" "row" "[I", Cond.fieldLink RX9 83 "HalfAskedModel" "first" "[I", Cond.methodLink RX9 240 yX9_isSheet, Cond.static yX9_isSheet, Cond.initialized RX9, Cond.code yX9_isSheet cX9_isSheet 2 (some .boolean), Cond.constantLong RX9 227 (2), Cond.methodLink RX9 90 yX9_in, Cond.static yX9_in, Cond.code yX9_in cX9_in 6 (some .boolean), Cond.methodLink RX9 243 yX9_lacksRow, Cond.instanceMethod yX9_lacksRow, Cond.selects RX9 yX9_lacksRow yX9_lacksRow, Cond.code yX9_lacksRow cX9_lacksRow 5 (some .int), Cond.fieldLink RX9 68 "HalfAskedModel" "lanes" "[I", Cond.fieldLink RX9 71 "HalfAskedModel" "rowSizes" "[I", Cond.methodLink RX9 251 yX9_leads, Cond.instanceMethod yX9_leads, Cond.selects RX9 yX9_leads yX9_leads]
def wsX9_who_r2 : List Cond := [Cond.code yX9_leads cX9_leads 7 (some .boolean), Cond.fieldLink RX9 25 "HalfAskedModel" "purse" "[I", Cond.methodLink RX9 136 yX9_newWeek, Cond.instanceMethod yX9_newWeek, Cond.selects RX9 yX9_newWeek yX9_newWeek, Cond.code yX9_newWeek cX9_newWeek 2 none, Cond.fieldLink RX9 28 "HalfAskedModel" "done" "[I", Cond.methodLink RX9 112 yX9_areTwo, Cond.instanceMethod yX9_areTwo, Cond.selects RX9 yX9_areTwo yX9_areTwo, Cond.code yX9_areTwo cX9_areTwo 3 (some .boolean), Cond.methodLink RX9 94 yX9_isOne, Cond.instanceMethod yX9_isOne, Cond.selects RX9 yX9_isOne yX9_isOne, Cond.code yX9_isOne cX9_isOne 2 (some .boolean), Cond.methodLink RX9 122 yX9_tryAsk, Cond.instanceMethod yX9_tryAsk, Cond.selects RX9 yX9_tryAsk yX9_tryAsk, Cond.code yX9_tryAsk cX9_tryAsk 4 (some .int), Cond.fieldLink RX9 16 "HalfAskedModel" "known" "[I", Cond.methodLink RX9 116 yX9_has, Cond.static yX9_has, Cond.code yX9_has cX9_has 2 (some .boolean), Cond.methodLink RX9 108 yX9_gives]
def wsX9_who_r3 : List Cond := [Cond.instanceMethod yX9_gives, Cond.selects RX9 yX9_gives yX9_gives, Cond.code yX9_gives cX9_gives 4 (some .int), Cond.fieldLink RX9 7 "HalfAskedModel" "kinds" "[I", Cond.methodLink RX9 254 yX9_nextRow, Cond.instanceMethod yX9_nextRow, Cond.selects RX9 yX9_nextRow yX9_nextRow, Cond.code yX9_nextRow cX9_nextRow 3 (some .boolean)]
def wsX9_who : List Cond := .code yX9_who cX9_who 11 (some .int) :: ((wsX9_who_r1 ++ (wsX9_who_r2 ++ wsX9_who_r3)) ++ wsX90)
def wsL_law_r1 : List Cond := [Cond.classLink RL 7 RX8, Cond.instantiable RX8 17, Cond.initialized RX8, Cond.classLink RL 10 RX9, Cond.instantiable RX9 31, Cond.initialized RX9, Cond.constantLong RL 40 (4294967295), Cond.methodLink RL 9 yX8_init, Cond.instanceMethod yX8_init, Cond.code yX8_init cX8_init 1 none, Cond.methodLink RX8 1 objectInit, Cond.instanceMethod objectInit, Cond.code objectInit ⟨#[0xb1]⟩ 1 none, Cond.classLink RX8 7 RX0, Cond.instantiable RX0 5, Cond.initialized RX0, Cond.fieldLink RX8 10 "HalfAsked" "folk" "LHalfAsked$Folk;", Cond.classLink RX8 16 RX2, Cond.instantiable RX2 4, Cond.initialized RX2, Cond.fieldLink RX8 19 "HalfAsked" "plan" "LHalfAsked$Plan;", Cond.classLink RX8 23 RX5, Cond.instantiable RX5 3, Cond.initialized RX5]
def wsL_law_r2 : List Cond := [Cond.fieldLink RX8 26 "HalfAsked" "tape" "LHalfAsked$Tape;", Cond.fieldLink RX8 30 "HalfAsked" "keptFolk" "LHalfAsked$Folk;", Cond.fieldLink RX8 33 "HalfAsked" "keptPlan" "LHalfAsked$Plan;", Cond.fieldLink RX8 36 "HalfAsked" "kept" "Z", Cond.classLink RX8 40 RX4, Cond.fieldLink RX8 42 "HalfAsked" "sheets" "[LHalfAsked$Sheet;", Cond.fieldLink RX8 46 "HalfAsked" "trialFolk" "LHalfAsked$Folk;", Cond.fieldLink RX8 49 "HalfAsked" "trialPlan" "LHalfAsked$Plan;", Cond.arrayClass .long, Cond.fieldLink RX8 52 "HalfAsked" "shares" "[J", Cond.classLink RX8 56 RX6, Cond.instantiable RX6 5, Cond.initialized RX6, Cond.fieldLink RX8 59 "HalfAsked" "timing" "LHalfAsked$Timing;", Cond.classLink RX8 63 RX7, Cond.instantiable RX7 3, Cond.initialized RX7, Cond.fieldLink RX8 66 "HalfAsked" "turning" "LHalfAsked$Turns;", Cond.classLink RX8 70 RX1, Cond.instantiable RX1 8, Cond.initialized RX1, Cond.fieldLink RX8 73 "HalfAsked" "orders" "LHalfAsked$Orders;", Cond.classLink RX8 77 RX3, Cond.instantiable RX3 6]
def wsL_law_r3 : List Cond := [Cond.initialized RX3, Cond.fieldLink RX8 80 "HalfAsked" "saturdays" "LHalfAsked$Saturdays;", Cond.fieldLink RX8 84 "HalfAsked" "timedFor" "I", Cond.fieldLink RX8 88 "HalfAsked" "turned" "Z", Cond.fieldLink RX8 91 "HalfAsked" "ordered" "Z", Cond.instanceMethod yX0_init, Cond.code yX0_init cX0_init 1 none, Cond.methodLink RX0 3 objectInit, Cond.fieldLink RX0 9 "HalfAsked$Folk" "size" "I", Cond.constant RX0 15 (16510910), Cond.fieldLink RX0 16 "HalfAsked$Folk" "known" "I", Cond.fieldLink RX0 19 "HalfAsked$Folk" "asked" "I", Cond.arrayClass .int, Cond.fieldLink RX0 22 "HalfAsked$Folk" "kind" "[I", Cond.fieldLink RX0 26 "HalfAsked$Folk" "pence" "[I", Cond.instanceMethod yX2_init, Cond.code yX2_init cX2_init 1 none, Cond.methodLink RX2 3 objectInit, Cond.fieldLink RX2 9 "HalfAsked$Plan" "size" "I", Cond.fieldLink RX2 15 "HalfAsked$Plan" "ends" "I", Cond.fieldLink RX2 18 "HalfAsked$Plan" "by" "[I", Cond.fieldLink RX2 22 "HalfAsked$Plan" "of" "[I", Cond.instanceMethod yX5_init, Cond.code yX5_init cX5_init 1 none]
def wsL_law_r4 : List Cond := [Cond.methodLink RX5 3 objectInit, Cond.fieldLink RX5 9 "HalfAsked$Tape" "size" "I", Cond.fieldLink RX5 15 "HalfAsked$Tape" "at" "I", Cond.arrayClass .char, Cond.fieldLink RX5 18 "HalfAsked$Tape" "signs" "[C", Cond.instanceMethod yX6_init, Cond.code yX6_init cX6_init 1 none, Cond.methodLink RX6 3 objectInit, Cond.fieldLink RX6 9 "HalfAsked$Timing" "most" "I", Cond.fieldLink RX6 15 "HalfAsked$Timing" "way" "I", Cond.fieldLink RX6 18 "HalfAsked$Timing" "asker" "I", Cond.classLink RX6 21 RX2, Cond.fieldLink RX6 24 "HalfAsked$Timing" "plan" "LHalfAsked$Plan;", Cond.fieldLink RX6 34 "HalfAsked$Timing" "states" "[LHalfAsked$Folk;", Cond.methodLink RX6 28 yX0_newRow, Cond.static yX0_newRow, Cond.code yX0_newRow cX0_newRow 3 (some (.array (.object "HalfAsked$Folk"))), Cond.methodLink RX0 29 Lib.Math.max.name, Cond.static Lib.Math.max.name, Cond.initialized "java/lang/Math", Cond.code Lib.Math.max.name Lib.Math.max.code 2 (some .int), Cond.classLink RX0 10 RX0, Cond.methodLink RX0 35 yX0_init, Cond.instanceMethod yX7_init]
def wsL_law_r5 : List Cond := [Cond.code yX7_init cX7_init 1 none, Cond.methodLink RX7 3 objectInit, Cond.classLink RX7 9 "[[I", Cond.fieldLink RX7 11 "HalfAsked$Turns" "picked" "[[I", Cond.fieldLink RX7 16 "HalfAsked$Turns" "ended" "[[I", Cond.fieldLink RX7 25 "HalfAsked$Turns" "states" "[LHalfAsked$Folk;", Cond.methodLink RX7 19 yX0_newRow, Cond.instanceMethod yX1_init, Cond.code yX1_init cX1_init 1 none, Cond.methodLink RX1 3 objectInit, Cond.fieldLink RX1 9 "HalfAsked$Orders" "leastSpan" "I", Cond.fieldLink RX1 15 "HalfAsked$Orders" "fitting" "I", Cond.fieldLink RX1 18 "HalfAsked$Orders" "first" "[I", Cond.fieldLink RX1 22 "HalfAsked$Orders" "row" "[I", Cond.fieldLink RX1 25 "HalfAsked$Orders" "wanted" "I", Cond.fieldLink RX1 28 "HalfAsked$Orders" "wantedPence" "I", Cond.classLink RX1 31 RX2, Cond.fieldLink RX1 34 "HalfAsked$Orders" "plan" "LHalfAsked$Plan;", Cond.fieldLink RX1 44 "HalfAsked$Orders" "states" "[LHalfAsked$Folk;", Cond.methodLink RX1 38 yX0_newRow, Cond.instanceMethod yX3_init, Cond.code yX3_init cX3_init 1 none, Cond.methodLink RX3 3 objectInit, Cond.fieldLink RX3 9 "HalfAsked$Saturdays" "rows" "I"]
def wsL_law_r6 : List Cond := [Cond.fieldLink RX3 15 "HalfAsked$Saturdays" "first" "[I", Cond.fieldLink RX3 19 "HalfAsked$Saturdays" "row" "[I", Cond.fieldLink RX3 22 "HalfAsked$Saturdays" "goal" "[I", Cond.fieldLink RX3 25 "HalfAsked$Saturdays" "length" "I", Cond.fieldLink RX3 34 "HalfAsked$Saturdays" "states" "[LHalfAsked$Folk;", Cond.methodLink RX3 28 yX0_newRow, Cond.methodLink RL 12 yX9_init, Cond.instanceMethod yX9_init, Cond.code yX9_init cX9_init 2 none, Cond.methodLink RX9 1 objectInit, Cond.fieldLink RX9 7 "HalfAskedModel" "kinds" "[I", Cond.fieldLink RX9 13 "HalfAskedModel" "pence" "[I", Cond.fieldLink RX9 16 "HalfAskedModel" "known" "[I", Cond.fieldLink RX9 19 "HalfAskedModel" "asked" "[I", Cond.fieldLink RX9 22 "HalfAskedModel" "plan" "[I", Cond.fieldLink RX9 25 "HalfAskedModel" "purse" "[I", Cond.fieldLink RX9 28 "HalfAskedModel" "done" "[I", Cond.fieldLink RX9 31 "HalfAskedModel" "tape" "[I", Cond.fieldLink RX9 34 "HalfAskedModel" "read" "[I", Cond.fieldLink RX9 37 "HalfAskedModel" "times" "[I", Cond.fieldLink RX9 40 "HalfAskedModel" "bestTimes" "[I", Cond.fieldLink RX9 43 "HalfAskedModel" "ahead" "[I", Cond.fieldLink RX9 46 "HalfAskedModel" "tried" "[I", Cond.fieldLink RX9 49 "HalfAskedModel" "endPence" "[I"]
def wsL_law_r7 : List Cond := [Cond.fieldLink RX9 52 "HalfAskedModel" "choices" "[I", Cond.fieldLink RX9 55 "HalfAskedModel" "order" "[I", Cond.fieldLink RX9 58 "HalfAskedModel" "best" "[I", Cond.fieldLink RX9 61 "HalfAskedModel" "parts" "[J", Cond.fieldLink RX9 65 "HalfAskedModel" "kept" "[I", Cond.fieldLink RX9 68 "HalfAskedModel" "lanes" "[I", Cond.fieldLink RX9 71 "HalfAskedModel" "rowSizes" "[I", Cond.fieldLink RX9 74 "HalfAskedModel" "items" "[J", Cond.fieldLink RX9 77 "HalfAskedModel" "moved" "[J", Cond.fieldLink RX9 80 "HalfAskedModel" "row" "[I", Cond.fieldLink RX9 83 "HalfAskedModel" "first" "[I", Cond.methodLink RL 13 yX8_person, Cond.instanceMethod yX8_person, Cond.selects RX8 yX8_person yX8_person, Cond.code yX8_person cX8_person 3 (some .int), Cond.fieldLink RX8 98 "HalfAsked$Folk" "size" "I", Cond.methodLink RX8 94 yX8_isSum, Cond.static yX8_isSum, Cond.code yX8_isSum cX8_isSum 1 (some .boolean), Cond.methodLink RX8 101 yX8_forgetFound, Cond.instanceMethod yX8_forgetFound, Cond.selects RX8 yX8_forgetFound yX8_forgetFound, Cond.code yX8_forgetFound cX8_forgetFound 1 none, Cond.methodLink RX8 104 yX0_add]
def wsL_law_r8 : List Cond := [Cond.instanceMethod yX0_add, Cond.selects RX0 yX0_add yX0_add, Cond.code yX0_add cX0_add 3 none, Cond.methodLink RL 17 yX9_person, Cond.instanceMethod yX9_person, Cond.selects RX9 yX9_person yX9_person, Cond.code yX9_person cX9_person 3 (some .int), Cond.constantLong RX9 98 (3), Cond.constantLong RX9 100 (9999), Cond.fieldLink RX9 86 "HalfAskedModel" "many" "I", Cond.methodLink RX9 90 yX9_in, Cond.static yX9_in, Cond.code yX9_in cX9_in 6 (some .boolean), Cond.methodLink RX9 102 yX9_add, Cond.instanceMethod yX9_add, Cond.selects RX9 yX9_add yX9_add, Cond.code yX9_add cX9_add 4 none, Cond.methodLink RL 18 yX8_set, Cond.instanceMethod yX8_set, Cond.selects RX8 yX8_set yX8_set, Cond.code yX8_set cX8_set 4 (some .int), Cond.fieldLink RX8 111 "HalfAsked$Folk" "pence" "[I", Cond.methodLink RX8 108 yX0_has, Cond.instanceMethod yX0_has]
def wsL_law_r9 : List Cond := [Cond.selects RX0 yX0_has yX0_has, Cond.code yX0_has cX0_has 2 (some .boolean), Cond.methodLink RL 21 yX9_set, Cond.instanceMethod yX9_set, Cond.selects RX9 yX9_set yX9_set, Cond.code yX9_set cX9_set 4 (some .int), Cond.methodLink RX9 94 yX9_isOne, Cond.instanceMethod yX9_isOne, Cond.selects RX9 yX9_isOne yX9_isOne, Cond.code yX9_isOne cX9_isOne 2 (some .boolean), Cond.methodLink RL 22 yX8_told, Cond.instanceMethod yX8_told, Cond.selects RX8 yX8_told yX8_told, Cond.code yX8_told cX8_told 3 (some .int), Cond.fieldLink RX8 115 "HalfAsked$Folk" "kind" "[I", Cond.fieldLink RX8 122 "HalfAsked$Folk" "known" "I", Cond.fieldLink RX8 129 "HalfAsked$Folk" "asked" "I", Cond.methodLink RX8 118 yX0_gives, Cond.instanceMethod yX0_gives, Cond.selects RX0 yX0_gives yX0_gives, Cond.code yX0_gives cX0_gives 3 (some .int), Cond.methodLink RX8 125 yX0_others, Cond.instanceMethod yX0_others, Cond.selects RX0 yX0_others yX0_others]
def wsL_law_r10 : List Cond := [Cond.code yX0_others cX0_others 3 (some .int), Cond.methodLink RL 25 yX9_told, Cond.instanceMethod yX9_told, Cond.selects RX9 yX9_told yX9_told, Cond.code yX9_told cX9_told 3 (some .int), Cond.constantLong RX9 106 (4), Cond.methodLink RX9 108 yX9_gives, Cond.instanceMethod yX9_gives, Cond.selects RX9 yX9_gives yX9_gives, Cond.code yX9_gives cX9_gives 4 (some .int), Cond.methodLink RL 26 yX8_knows, Cond.instanceMethod yX8_knows, Cond.selects RX8 yX8_knows yX8_knows, Cond.code yX8_knows cX8_knows 6 (some .int), Cond.methodLink RX8 132 yX0_isPair, Cond.instanceMethod yX0_isPair, Cond.selects RX0 yX0_isPair yX0_isPair, Cond.code yX0_isPair cX0_isPair 3 (some .boolean), Cond.methodLink RX0 42 yX0_has, Cond.methodLink RX8 136 yX0_pair, Cond.static yX0_pair, Cond.code yX0_pair cX0_pair 2 (some .int), Cond.methodLink RL 30 yX9_knows, Cond.instanceMethod yX9_knows]
def wsL_law_r11 : List Cond := [Cond.selects RX9 yX9_knows yX9_knows, Cond.code yX9_knows cX9_knows 5 (some .int), Cond.methodLink RX9 112 yX9_areTwo, Cond.instanceMethod yX9_areTwo, Cond.selects RX9 yX9_areTwo yX9_areTwo, Cond.code yX9_areTwo cX9_areTwo 3 (some .boolean), Cond.methodLink RL 31 yX8_ask, Cond.instanceMethod yX8_ask, Cond.selects RX8 yX8_ask yX8_ask, Cond.code yX8_ask cX8_ask 3 (some .int), Cond.methodLink RX8 139 yX0_tryAsking, Cond.instanceMethod yX0_tryAsking, Cond.selects RX0 yX0_tryAsking yX0_tryAsking, Cond.code yX0_tryAsking cX0_tryAsking 5 (some .int), Cond.methodLink RX0 52 yX0_pair, Cond.methodLink RX0 55 yX0_gives, Cond.methodLink RL 34 yX9_ask, Cond.instanceMethod yX9_ask, Cond.selects RX9 yX9_ask yX9_ask, Cond.code yX9_ask cX9_ask 4 (some .int), Cond.methodLink RX9 119 yX9_begin, Cond.instanceMethod yX9_begin, Cond.selects RX9 yX9_begin yX9_begin, Cond.code yX9_begin cX9_begin 2 none]
def wsL_law_r12 : List Cond := [Cond.methodLink RX9 122 yX9_tryAsk, Cond.instanceMethod yX9_tryAsk, Cond.selects RX9 yX9_tryAsk yX9_tryAsk, Cond.code yX9_tryAsk cX9_tryAsk 4 (some .int), Cond.methodLink RX9 116 yX9_has, Cond.static yX9_has, Cond.code yX9_has cX9_has 2 (some .boolean), Cond.methodLink RX9 125 yX9_keep, Cond.instanceMethod yX9_keep, Cond.selects RX9 yX9_keep yX9_keep, Cond.code yX9_keep cX9_keep 2 none, Cond.methodLink RL 35 yX8_week, Cond.instanceMethod yX8_week, Cond.selects RX8 yX8_week yX8_week, Cond.code yX8_week cX8_week 2 (some .int), Cond.methodLink RX8 142 yX0_askings, Cond.instanceMethod yX0_askings, Cond.selects RX0 yX0_askings yX0_askings, Cond.code yX0_askings cX0_askings 1 (some .int), Cond.methodLink RX0 46 yJ6_bitCount_0f7a4, Cond.static yJ6_bitCount_0f7a4, Cond.initialized RJ6, Cond.code yJ6_bitCount_0f7a4 cJ6_bitCount_0f7a4 1 (some .int), Cond.constant RJ6 265 (1431655765)]
def wsL_law_r13 : List Cond := [Cond.constant RJ6 266 (858993459), Cond.constant RJ6 267 (252645135), Cond.methodLink RL 39 yX9_week, Cond.instanceMethod yX9_week, Cond.selects RX9 yX9_week yX9_week, Cond.code yX9_week cX9_week 2 (some .int), Cond.methodLink RX9 132 yX9_askings, Cond.instanceMethod yX9_askings, Cond.selects RX9 yX9_askings yX9_askings, Cond.code yX9_askings cX9_askings 3 (some .int), Cond.methodLink RX9 128 yX9_ones, Cond.static yX9_ones, Cond.code yX9_ones cX9_ones 3 (some .int), Cond.methodLink RX9 136 yX9_newWeek, Cond.instanceMethod yX9_newWeek, Cond.selects RX9 yX9_newWeek yX9_newWeek, Cond.code yX9_newWeek cX9_newWeek 2 none, Cond.methodLink RL 42 yX8_type, Cond.instanceMethod yX8_type, Cond.selects RX8 yX8_type yX8_type, Cond.code yX8_type cX8_type 4 (some .int), Cond.fieldLink RX8 150 "HalfAsked$Tape" "size" "I", Cond.methodLink RX8 146 yX5_areSigns, Cond.static yX5_areSigns]
def wsL_law_r14 : List Cond := [Cond.code yX5_areSigns cX5_areSigns 6 (some .boolean), Cond.constantLong RX5 22 (255), Cond.constantLong RX5 24 (32), Cond.constantLong RX5 26 (126), Cond.methodLink RX8 151 yX5_add, Cond.instanceMethod yX5_add, Cond.selects RX5 yX5_add yX5_add, Cond.code yX5_add cX5_add 5 none, Cond.methodLink RL 46 yX9_type, Cond.instanceMethod yX9_type, Cond.selects RX9 yX9_type yX9_type, Cond.code yX9_type cX9_type 5 (some .int), Cond.constantLong RX9 142 (8), Cond.constantLong RX9 144 (255), Cond.constantLong RX9 146 (32), Cond.constantLong RX9 148 (126), Cond.fieldLink RX9 150 "HalfAskedModel" "taped" "I", Cond.methodLink RL 47 yX8_people, Cond.instanceMethod yX8_people, Cond.selects RX8 yX8_people yX8_people, Cond.code yX8_people cX8_people 2 (some .int), Cond.methodLink RX8 154 yX5_readFolk, Cond.instanceMethod yX5_readFolk, Cond.selects RX5 yX5_readFolk yX5_readFolk]
def wsL_law_r15 : List Cond := [Cond.code yX5_readFolk cX5_readFolk 7 (some .int), Cond.fieldLink RX5 59 "HalfAsked$Folk" "size" "I", Cond.methodLink RX5 28 yX0_clear, Cond.instanceMethod yX0_clear, Cond.selects RX0 yX0_clear yX0_clear, Cond.code yX0_clear cX0_clear 1 none, Cond.methodLink RX5 35 yX5_look, Cond.instanceMethod yX5_look, Cond.selects RX5 yX5_look yX5_look, Cond.code yX5_look cX5_look 1 (some .char), Cond.methodLink RX5 48 yX5_skipBlanks, Cond.instanceMethod yX5_skipBlanks, Cond.selects RX5 yX5_skipBlanks yX5_skipBlanks, Cond.code yX5_skipBlanks cX5_skipBlanks 1 none, Cond.methodLink RX5 39 yJ0_indexOf_0f7a4, Cond.instanceMethod yJ0_indexOf_0f7a4, Cond.selects RJ0 yJ0_indexOf_0f7a4 yJ0_indexOf_0f7a4, Cond.initialized RJ0, Cond.code yJ0_indexOf_0f7a4 cJ0_indexOf_0f7a4 2 (some .int), Cond.methodLink RJ0 633 yJ0_indexOf_7cf53, Cond.instanceMethod yJ0_indexOf_7cf53, Cond.selects RJ0 yJ0_indexOf_7cf53 yJ0_indexOf_7cf53, Cond.code yJ0_indexOf_7cf53 cJ0_indexOf_7cf53 3 (some .int), Cond.fieldLink RJ0 9 "java/lang/String" "value" "[B"]
def wsL_law_r16 : List Cond := [Cond.methodLink RJ0 492 yJ0_isLatin1_aae02, Cond.instanceMethod yJ0_isLatin1_aae02, Cond.selects RJ0 yJ0_isLatin1_aae02 yJ0_isLatin1_aae02, Cond.code yJ0_isLatin1_aae02 cJ0_isLatin1_aae02 1 (some .boolean), Cond.fieldLink RJ0 38 "java/lang/String" "COMPACT_STRINGS" "Z", Cond.fieldLink RJ0 15 "java/lang/String" "coder" "B", Cond.methodLink RJ0 505 yJ0_length_8abf5, Cond.instanceMethod yJ0_length_8abf5, Cond.selects RJ0 yJ0_length_8abf5 yJ0_length_8abf5, Cond.code yJ0_length_8abf5 cJ0_length_8abf5 1 (some .int), Cond.methodLink RJ0 335 yJ0_coder_7d493, Cond.instanceMethod yJ0_coder_7d493, Cond.selects RJ0 yJ0_coder_7d493 yJ0_coder_7d493, Cond.code yJ0_coder_7d493 cJ0_coder_7d493 1 (some .byte), Cond.methodLink RJ0 637 yJ1_indexOf_4cfef, Cond.static yJ1_indexOf_4cfef, Cond.initialized RJ1, Cond.code yJ1_indexOf_4cfef cJ1_indexOf_4cfef 4 (some .int), Cond.methodLink RJ1 92 Lib.Math.max.name, Cond.methodLink RJ1 38 Lib.Math.min.name, Cond.static Lib.Math.min.name, Cond.code Lib.Math.min.name Lib.Math.min.code 2 (some .int), Cond.methodLink RJ1 88 yJ1_canEncode_9a6ad, Cond.static yJ1_canEncode_9a6ad]
def wsL_law_r17 : List Cond := [Cond.code yJ1_canEncode_9a6ad cJ1_canEncode_9a6ad 1 (some .boolean), Cond.methodLink RJ1 95 yJ1_indexOfChar_4cfef, Cond.static yJ1_indexOfChar_4cfef, Cond.code yJ1_indexOfChar_4cfef cJ1_indexOfChar_4cfef 6 (some .int), Cond.methodLink RJ0 640 yJ2_indexOf_4cfef, Cond.static yJ2_indexOf_4cfef, Cond.initialized RJ2, Cond.code yJ2_indexOf_4cfef cJ2_indexOf_4cfef 4 (some .int), Cond.methodLink RJ2 224 Lib.Math.max.name, Cond.methodLink RJ2 183 Lib.Math.min.name, Cond.constant RJ2 227 (65536), Cond.methodLink RJ2 228 yJ2_indexOfChar_4cfef, Cond.static yJ2_indexOfChar_4cfef, Cond.code yJ2_indexOfChar_4cfef cJ2_indexOfChar_4cfef 4 (some .int), Cond.methodLink RJ2 96 yJ2_checkBoundsBeginEnd_d044e, Cond.static yJ2_checkBoundsBeginEnd_d044e, Cond.code yJ2_checkBoundsBeginEnd_d044e cJ2_checkBoundsBeginEnd_d044e 3 none, Cond.methodLink RJ2 48 yJ2_length_9d52b, Cond.static yJ2_length_9d52b, Cond.code yJ2_length_9d52b cJ2_length_9d52b 1 (some .int), Cond.methodLink RJ2 241 yJ0_checkBoundsBeginEnd_23922, Cond.static yJ0_checkBoundsBeginEnd_23922, Cond.code yJ0_checkBoundsBeginEnd_23922 cJ0_checkBoundsBeginEnd_23922 3 none, Cond.fieldLink RJ0 1053 "jdk/internal/util/Preconditions" "SIOOBE_FORMATTER" "Ljava/util/function/BiFunction;"]
def wsL_law_r18 : List Cond := [Cond.methodLink RJ0 1062 yJ3_checkFromToIndex_8c36e, Cond.static yJ3_checkFromToIndex_8c36e, Cond.initialized RJ3, Cond.code yJ3_checkFromToIndex_8c36e cJ3_checkFromToIndex_8c36e 4 (some .int), Cond.methodLink RJ2 244 yJ2_indexOfCharUnsafe_4cfef, Cond.static yJ2_indexOfCharUnsafe_4cfef, Cond.code yJ2_indexOfCharUnsafe_4cfef cJ2_indexOfCharUnsafe_4cfef 5 (some .int), Cond.methodLink RJ2 71 yJ2_getChar_3b067, Cond.static yJ2_getChar_3b067, Cond.code yJ2_getChar_3b067 cJ2_getChar_3b067 2 (some .char), Cond.fieldLink RJ2 44 "java/lang/StringUTF16" "$assertionsDisabled" "Z", Cond.fieldLink RJ2 59 "java/lang/StringUTF16" "HI_BYTE_SHIFT" "I", Cond.fieldLink RJ2 63 "java/lang/StringUTF16" "LO_BYTE_SHIFT" "I", Cond.methodLink RJ2 232 yJ2_indexOfSupplementary_4cfef, Cond.static yJ2_indexOfSupplementary_4cfef, Cond.code yJ2_indexOfSupplementary_4cfef cJ2_indexOfSupplementary_4cfef 7 (some .int), Cond.methodLink RJ2 164 yJ11_isValidCodePoint_9a6ad, Cond.static yJ11_isValidCodePoint_9a6ad, Cond.initialized RJ11, Cond.code yJ11_isValidCodePoint_9a6ad cJ11_isValidCodePoint_9a6ad 2 (some .boolean), Cond.methodLink RJ2 157 yJ11_highSurrogate_5068e, Cond.static yJ11_highSurrogate_5068e, Cond.code yJ11_highSurrogate_5068e cJ11_highSurrogate_5068e 1 (some .char), Cond.constant RJ11 110 (55232)]
def wsL_law_r19 : List Cond := [Cond.methodLink RJ2 161 yJ11_lowSurrogate_5068e, Cond.static yJ11_lowSurrogate_5068e, Cond.code yJ11_lowSurrogate_5068e cJ11_lowSurrogate_5068e 1 (some .char), Cond.constant RJ11 76 (56320), Cond.methodLink RX5 45 yX5_fault, Cond.static yX5_fault, Cond.code yX5_fault cX5_fault 1 (some .int), Cond.methodLink RX5 51 yX5_readNumber, Cond.instanceMethod yX5_readNumber, Cond.selects RX5 yX5_readNumber yX5_readNumber, Cond.code yX5_readNumber cX5_readNumber 2 (some .int), Cond.methodLink RX5 72 Lib.Math.max.name, Cond.methodLink RX5 78 Lib.Math.min.name, Cond.methodLink RX5 55 yX0_add, Cond.methodLink RX8 158 yX0_takeFrom, Cond.instanceMethod yX0_takeFrom, Cond.selects RX0 yX0_takeFrom yX0_takeFrom, Cond.code yX0_takeFrom cX0_takeFrom 2 none, Cond.methodLink RX0 36 arraycopyName, Cond.native arraycopyName, Cond.static arraycopyName, Cond.initialized "java/lang/System", Cond.methodLink RX8 162 yX2_clear, Cond.instanceMethod yX2_clear]
def wsL_law_r20 : List Cond := [Cond.selects RX2 yX2_clear yX2_clear, Cond.code yX2_clear cX2_clear 1 none, Cond.methodLink RL 50 yX9_people, Cond.instanceMethod yX9_people, Cond.selects RX9 yX9_people yX9_people, Cond.code yX9_people cX9_people 3 (some .int), Cond.fieldLink RX9 153 "HalfAskedModel" "place" "I", Cond.fieldLink RX9 139 "HalfAskedModel" "planMany" "I", Cond.fieldLink RX9 170 "HalfAskedModel" "reads" "I", Cond.methodLink RX9 173 yX9_readPeople, Cond.instanceMethod yX9_readPeople, Cond.selects RX9 yX9_readPeople yX9_readPeople, Cond.code yX9_readPeople cX9_readPeople 3 (some .boolean), Cond.methodLink RX9 167 yX9_readOne, Cond.instanceMethod yX9_readOne, Cond.selects RX9 yX9_readOne yX9_readOne, Cond.code yX9_readOne cX9_readOne 3 (some .boolean), Cond.methodLink RX9 156 yX9_nextByte, Cond.instanceMethod yX9_nextByte, Cond.selects RX9 yX9_nextByte yX9_nextByte, Cond.code yX9_nextByte cX9_nextByte 1 (some .int), Cond.methodLink RX9 164 yX9_readNumber, Cond.instanceMethod yX9_readNumber, Cond.selects RX9 yX9_readNumber yX9_readNumber]
def wsL_law_r21 : List Cond := [Cond.code yX9_readNumber cX9_readNumber 4 (some .int), Cond.constantLong RX9 159 (48), Cond.constantLong RX9 161 (57), Cond.constant RX9 163 (99999), Cond.methodLink RL 51 yX8_plan, Cond.instanceMethod yX8_plan, Cond.selects RX8 yX8_plan yX8_plan, Cond.code yX8_plan cX8_plan 2 (some .int), Cond.methodLink RX8 165 yX5_readPlan, Cond.instanceMethod yX5_readPlan, Cond.selects RX5 yX5_readPlan yX5_readPlan, Cond.code yX5_readPlan cX5_readPlan 5 (some .int), Cond.fieldLink RX5 67 "HalfAsked$Plan" "ends" "I", Cond.fieldLink RX5 70 "HalfAsked$Plan" "size" "I", Cond.methodLink RX5 60 yX2_clear, Cond.methodLink RX5 63 yX5_readAsking, Cond.instanceMethod yX5_readAsking, Cond.selects RX5 yX5_readAsking yX5_readAsking, Cond.code yX5_readAsking cX5_readAsking 5 (some .boolean), Cond.methodLink RX5 71 yX2_add, Cond.instanceMethod yX2_add, Cond.selects RX2 yX2_add yX2_add, Cond.code yX2_add cX2_add 3 none, Cond.methodLink RX8 169 yX2_takeFrom]
def wsL_law_r22 : List Cond := [Cond.instanceMethod yX2_takeFrom, Cond.selects RX2 yX2_takeFrom yX2_takeFrom, Cond.code yX2_takeFrom cX2_takeFrom 2 none, Cond.methodLink RX2 25 arraycopyName, Cond.methodLink RL 54 yX9_plan, Cond.instanceMethod yX9_plan, Cond.selects RX9 yX9_plan yX9_plan, Cond.code yX9_plan cX9_plan 3 (some .int), Cond.methodLink RX9 180 yX9_readPlan, Cond.instanceMethod yX9_readPlan, Cond.selects RX9 yX9_readPlan yX9_readPlan, Cond.code yX9_readPlan cX9_readPlan 3 (some .boolean), Cond.methodLink RX9 177 yX9_readAsking, Cond.instanceMethod yX9_readAsking, Cond.selects RX9 yX9_readAsking yX9_readAsking, Cond.code yX9_readAsking cX9_readAsking 4 (some .boolean), Cond.methodLink RL 55 yX8_count, Cond.instanceMethod yX8_count, Cond.selects RX8 yX8_count yX8_count, Cond.code yX8_count cX8_count 2 (some .int), Cond.fieldLink RX8 175 "HalfAsked$Plan" "size" "I", Cond.fieldLink RX8 176 "HalfAsked$Plan" "ends" "I", Cond.methodLink RX8 172 yX0_penceOfAll, Cond.instanceMethod yX0_penceOfAll]
def wsL_law_r23 : List Cond := [Cond.selects RX0 yX0_penceOfAll yX0_penceOfAll, Cond.code yX0_penceOfAll cX0_penceOfAll 3 (some .int), Cond.methodLink RX8 179 yJ6_bitCount_0f7a4, Cond.methodLink RL 59 yX9_count, Cond.instanceMethod yX9_count, Cond.selects RX9 yX9_count yX9_count, Cond.code yX9_count cX9_count 5 (some .int), Cond.methodLink RL 60 yX8_run, Cond.instanceMethod yX8_run, Cond.selects RX8 yX8_run yX8_run, Cond.code yX8_run cX8_run 2 (some .int), Cond.fieldLink RX8 184 "HalfAsked$Plan" "by" "[I", Cond.fieldLink RX8 187 "HalfAsked$Plan" "of" "[I", Cond.methodLink RX8 190 yX2_endWeekIfDue, Cond.instanceMethod yX2_endWeekIfDue, Cond.selects RX2 yX2_endWeekIfDue yX2_endWeekIfDue, Cond.code yX2_endWeekIfDue cX2_endWeekIfDue 3 none, Cond.fieldLink RX2 45 "HalfAsked$Folk" "asked" "I", Cond.methodLink RX2 41 yX2_endsWeek, Cond.instanceMethod yX2_endsWeek, Cond.selects RX2 yX2_endsWeek yX2_endsWeek, Cond.code yX2_endsWeek cX2_endsWeek 2 (some .boolean), Cond.methodLink RL 63 yX9_run, Cond.instanceMethod yX9_run]
def wsL_law_r24 : List Cond := [Cond.selects RX9 yX9_run yX9_run, Cond.code yX9_run cX9_run 2 (some .int), Cond.methodLink RL 64 yX8_most, Cond.instanceMethod yX8_most, Cond.selects RX8 yX8_most yX8_most, Cond.code yX8_most cX8_most 2 (some .int), Cond.fieldLink RX8 198 "HalfAsked$Timing" "most" "I", Cond.methodLink RX8 194 yX8_findTimes, Cond.instanceMethod yX8_findTimes, Cond.selects RX8 yX8_findTimes yX8_findTimes, Cond.code yX8_findTimes cX8_findTimes 2 none, Cond.methodLink RX8 279 yX6_search, Cond.instanceMethod yX6_search, Cond.selects RX6 yX6_search yX6_search, Cond.code yX6_search cX6_search 4 none, Cond.fieldLink RX6 45 "HalfAsked$Folk" "size" "I", Cond.methodLink RX6 38 yX2_takeFrom, Cond.methodLink RX6 42 yX0_takeFrom, Cond.methodLink RX6 48 yX6_choose, Cond.instanceMethod yX6_choose, Cond.selects RX6 yX6_choose yX6_choose, Cond.code yX6_choose cX6_choose 8 none, Cond.fieldLink RX6 56 "HalfAsked$Plan" "size" "I", Cond.fieldLink RX6 61 "HalfAsked$Folk" "pence" "[I"]
def wsL_law_r25 : List Cond := [Cond.methodLink RX6 57 yX6_askAll, Cond.instanceMethod yX6_askAll, Cond.selects RX6 yX6_askAll yX6_askAll, Cond.code yX6_askAll cX6_askAll 6 (some .int), Cond.fieldLink RX6 52 "HalfAsked$Timing" "WEIGHT" "[I", Cond.methodLink RX6 86 yX0_tryAsking, Cond.methodLink RX6 64 yX6_keepBetter, Cond.instanceMethod yX6_keepBetter, Cond.selects RX6 yX6_keepBetter yX6_keepBetter, Cond.code yX6_keepBetter cX6_keepBetter 3 none, Cond.methodLink RX6 68 yX6_worthAsking, Cond.instanceMethod yX6_worthAsking, Cond.selects RX6 yX6_worthAsking yX6_worthAsking, Cond.code yX6_worthAsking cX6_worthAsking 3 (some .int), Cond.fieldLink RX6 80 "HalfAsked$Plan" "of" "[I", Cond.fieldLink RX6 83 "HalfAsked$Plan" "by" "[I", Cond.methodLink RX6 76 yX2_endsWeek, Cond.methodLink RX6 72 yX2_goOn, Cond.instanceMethod yX2_goOn, Cond.selects RX2 yX2_goOn yX2_goOn, Cond.code yX2_goOn cX2_goOn 3 none, Cond.methodLink RX2 31 yX0_tryAsking, Cond.methodLink RX2 37 yX2_endWeekIfDue, Cond.methodLink RL 67 yX9_most]
def wsL_law_r26 : List Cond := [Cond.instanceMethod yX9_most, Cond.selects RX9 yX9_most yX9_most, Cond.code yX9_most cX9_most 2 (some .int), Cond.methodLink RX9 192 yX9_findTimes, Cond.instanceMethod yX9_findTimes, Cond.selects RX9 yX9_findTimes yX9_findTimes, Cond.code yX9_findTimes cX9_findTimes 6 (some .int), Cond.methodLink RX9 186 yX9_goWith, Cond.instanceMethod yX9_goWith, Cond.selects RX9 yX9_goWith yX9_goWith, Cond.code yX9_goWith cX9_goWith 3 (some .int), Cond.methodLink RX9 183 yX9_askAt, Cond.instanceMethod yX9_askAt, Cond.selects RX9 yX9_askAt yX9_askAt, Cond.code yX9_askAt cX9_askAt 4 none, Cond.methodLink RX9 189 yX9_nextTimes, Cond.instanceMethod yX9_nextTimes, Cond.selects RX9 yX9_nextTimes yX9_nextTimes, Cond.code yX9_nextTimes cX9_nextTimes 3 (some .boolean), Cond.methodLink RL 68 yX8_when, Cond.instanceMethod yX8_when, Cond.selects RX8 yX8_when yX8_when, Cond.code yX8_when cX8_when 3 (some .int), Cond.methodLink RX8 201 yX6_timeFor]
def wsL_law_r27 : List Cond := [Cond.instanceMethod yX6_timeFor, Cond.selects RX6 yX6_timeFor yX6_timeFor, Cond.code yX6_timeFor cX6_timeFor 2 (some .int), Cond.methodLink RL 71 yX9_when, Cond.instanceMethod yX9_when, Cond.selects RX9 yX9_when yX9_when, Cond.code yX9_when cX9_when 3 (some .int), Cond.methodLink RL 72 yX8_turns, Cond.instanceMethod yX8_turns, Cond.selects RX8 yX8_turns yX8_turns, Cond.code yX8_turns cX8_turns 2 (some .int), Cond.fieldLink RX8 207 "HalfAsked$Turns" "picked" "[[I", Cond.methodLink RX8 204 yX8_findTurns, Cond.instanceMethod yX8_findTurns, Cond.selects RX8 yX8_findTurns yX8_findTurns, Cond.code yX8_findTurns cX8_findTurns 1 none, Cond.methodLink RX8 282 yX7_search, Cond.instanceMethod yX7_search, Cond.selects RX7 yX7_search yX7_search, Cond.code yX7_search cX7_search 2 none, Cond.methodLink RX7 29 yX0_takeFrom, Cond.methodLink RX7 33 yX7_settle, Cond.instanceMethod yX7_settle, Cond.selects RX7 yX7_settle yX7_settle]
def wsL_law_r28 : List Cond := [Cond.code yX7_settle cX7_settle 5 none, Cond.fieldLink RX7 37 "HalfAsked$Folk" "size" "I", Cond.fieldLink RX7 41 "HalfAsked$Folk" "pence" "[I", Cond.methodLink RX7 45 arraycopyName, Cond.methodLink RX7 51 yX7_keep, Cond.instanceMethod yX7_keep, Cond.selects RX7 yX7_keep yX7_keep, Cond.code yX7_keep cX7_keep 3 none, Cond.methodLink RX7 55 yX0_tryAsking, Cond.methodLink RL 75 yX9_turns, Cond.instanceMethod yX9_turns, Cond.selects RX9 yX9_turns yX9_turns, Cond.code yX9_turns cX9_turns 2 (some .int), Cond.methodLink RX9 205 yX9_findTurns, Cond.instanceMethod yX9_findTurns, Cond.selects RX9 yX9_findTurns yX9_findTurns, Cond.code yX9_findTurns cX9_findTurns 2 none, Cond.methodLink RX9 195 yX9_beginTurn, Cond.instanceMethod yX9_beginTurn, Cond.selects RX9 yX9_beginTurn yX9_beginTurn, Cond.code yX9_beginTurn cX9_beginTurn 3 none, Cond.methodLink RX9 199 yX9_giveBack, Cond.instanceMethod yX9_giveBack, Cond.selects RX9 yX9_giveBack yX9_giveBack]
def wsL_law_r29 : List Cond := [Cond.code yX9_giveBack cX9_giveBack 5 none, Cond.methodLink RX9 202 yX9_goTurn, Cond.instanceMethod yX9_goTurn, Cond.selects RX9 yX9_goTurn yX9_goTurn, Cond.code yX9_goTurn cX9_goTurn 4 (some .boolean), Cond.methodLink RL 76 yX8_ends, Cond.instanceMethod yX8_ends, Cond.selects RX8 yX8_ends yX8_ends, Cond.code yX8_ends cX8_ends 2 (some .int), Cond.fieldLink RX8 211 "HalfAsked$Turns" "ended" "[[I", Cond.methodLink RL 79 yX9_ends, Cond.instanceMethod yX9_ends, Cond.selects RX9 yX9_ends yX9_ends, Cond.code yX9_ends cX9_ends 2 (some .int), Cond.methodLink RL 80 yX8_order, Cond.instanceMethod yX8_order, Cond.selects RX8 yX8_order yX8_order, Cond.code yX8_order cX8_order 2 (some .int), Cond.fieldLink RX8 218 "HalfAsked$Orders" "leastSpan" "I", Cond.fieldLink RX8 221 "HalfAsked$Orders" "first" "[I", Cond.methodLink RX8 214 yX1_search, Cond.instanceMethod yX1_search, Cond.selects RX1 yX1_search yX1_search, Cond.code yX1_search cX1_search 5 none]
def wsL_law_r30 : List Cond := [Cond.methodLink RX1 48 yX2_takeFrom, Cond.methodLink RX1 52 yX0_takeFrom, Cond.methodLink RX1 55 yX1_extend, Cond.instanceMethod yX1_extend, Cond.selects RX1 yX1_extend yX1_extend, Cond.code yX1_extend cX1_extend 5 none, Cond.fieldLink RX1 59 "HalfAsked$Plan" "size" "I", Cond.fieldLink RX1 65 "HalfAsked$Plan" "by" "[I", Cond.fieldLink RX1 68 "HalfAsked$Plan" "of" "[I", Cond.methodLink RX1 62 yX1_weigh, Cond.instanceMethod yX1_weigh, Cond.selects RX1 yX1_weigh yX1_weigh, Cond.code yX1_weigh cX1_weigh 6 none, Cond.fieldLink RX1 75 "HalfAsked$Folk" "pence" "[I", Cond.fieldLink RX1 78 "HalfAsked$Folk" "size" "I", Cond.methodLink RX1 79 Lib.Math.min.name, Cond.methodLink RX1 84 Lib.Math.max.name, Cond.methodLink RX1 87 arraycopyName, Cond.methodLink RX1 71 yX0_tryAsking, Cond.methodLink RL 83 yX9_order, Cond.instanceMethod yX9_order, Cond.selects RX9 yX9_order yX9_order, Cond.code yX9_order cX9_order 6 (some .int), Cond.constantLong RX9 208 (-1)]
def wsL_law_r31 : List Cond := [Cond.constantLong RX9 210 (5), Cond.constant RX9 215 (1000000), Cond.methodLink RX9 212 yX9_firstOrder, Cond.instanceMethod yX9_firstOrder, Cond.selects RX9 yX9_firstOrder yX9_firstOrder, Cond.code yX9_firstOrder cX9_firstOrder 2 none, Cond.methodLink RX9 216 yX9_goOrder, Cond.instanceMethod yX9_goOrder, Cond.selects RX9 yX9_goOrder yX9_goOrder, Cond.code yX9_goOrder cX9_goOrder 2 none, Cond.methodLink RX9 219 yX9_apart, Cond.instanceMethod yX9_apart, Cond.selects RX9 yX9_apart yX9_apart, Cond.code yX9_apart cX9_apart 4 (some .int), Cond.methodLink RX9 222 yX9_nextOrder, Cond.instanceMethod yX9_nextOrder, Cond.selects RX9 yX9_nextOrder yX9_nextOrder, Cond.code yX9_nextOrder cX9_nextOrder 6 (some .boolean), Cond.methodLink RL 84 yX8_so, Cond.instanceMethod yX8_so, Cond.selects RX8 yX8_so yX8_so, Cond.code yX8_so cX8_so 3 (some .int), Cond.constant RX8 224 (99999), Cond.fieldLink RX8 225 "HalfAsked$Orders" "fitting" "I"]
def wsL_law_r32 : List Cond := [Cond.methodLink RL 87 yX9_so, Cond.instanceMethod yX9_so, Cond.selects RX9 yX9_so yX9_so, Cond.code yX9_so cX9_so 7 (some .int), Cond.constantLong RX9 225 (99999), Cond.methodLink RL 88 yX8_exact, Cond.instanceMethod yX8_exact, Cond.selects RX8 yX8_exact yX8_exact, Cond.code yX8_exact cX8_exact 10 (some .long), Cond.constantLong RX8 228 (-1), Cond.constantLong RX8 233 (2), Cond.methodLink RX8 230 yX8_shareOut, Cond.instanceMethod yX8_shareOut, Cond.selects RX8 yX8_shareOut yX8_shareOut, Cond.code yX8_shareOut cX8_shareOut 7 none, Cond.methodLink RL 92 yX9_exact, Cond.instanceMethod yX9_exact, Cond.selects RX9 yX9_exact yX9_exact, Cond.code yX9_exact cX9_exact 11 (some .long), Cond.constantLong RX9 227 (2), Cond.methodLink RL 93 yX8_shun, Cond.instanceMethod yX8_shun, Cond.selects RX8 yX8_shun yX8_shun, Cond.code yX8_shun cX8_shun 6 (some .int)]
def wsL_law_r33 : List Cond := [Cond.methodLink RX8 235 yX8_penceWithout, Cond.instanceMethod yX8_penceWithout, Cond.selects RX8 yX8_penceWithout yX8_penceWithout, Cond.code yX8_penceWithout cX8_penceWithout 5 (some .int), Cond.methodLink RX8 284 yX2_goOn, Cond.methodLink RL 96 yX9_shun, Cond.instanceMethod yX9_shun, Cond.selects RX9 yX9_shun yX9_shun, Cond.code yX9_shun cX9_shun 6 (some .int), Cond.methodLink RX9 229 yX9_goWithout, Cond.instanceMethod yX9_goWithout, Cond.selects RX9 yX9_goWithout yX9_goWithout, Cond.code yX9_goWithout cX9_goWithout 4 (some .int), Cond.methodLink RL 97 yX8_image, Cond.instanceMethod yX8_image, Cond.selects RX8 yX8_image yX8_image, Cond.code yX8_image cX8_image 1 (some .int), Cond.methodLink RL 100 yX9_image, Cond.instanceMethod yX9_image, Cond.selects RX9 yX9_image yX9_image, Cond.code yX9_image cX9_image 2 (some .int), Cond.fieldLink RX9 236 "HalfAskedModel" "isKept" "Z", Cond.methodLink RX9 232 yX9_carried, Cond.instanceMethod yX9_carried]
def wsL_law_r34 : List Cond := [Cond.selects RX9 yX9_carried yX9_carried, Cond.code yX9_carried cX9_carried 6 (some .int), Cond.methodLink RL 101 yX8_restore, Cond.instanceMethod yX8_restore, Cond.selects RX8 yX8_restore yX8_restore, Cond.code yX8_restore cX8_restore 1 (some .int), Cond.methodLink RL 104 yX9_restore, Cond.instanceMethod yX9_restore, Cond.selects RX9 yX9_restore yX9_restore, Cond.code yX9_restore cX9_restore 2 (some .int), Cond.methodLink RL 105 yX8_who, Cond.instanceMethod yX8_who, Cond.selects RX8 yX8_who yX8_who, Cond.code yX8_who cX8_who 8 (some .int), Cond.fieldLink RX8 254 "HalfAsked$Saturdays" "rows" "I", Cond.fieldLink RX8 257 "HalfAsked$Saturdays" "first" "[I", Cond.methodLink RX8 238 yX8_isSheet, Cond.static yX8_isSheet, Cond.code yX8_isSheet cX8_isSheet 1 (some .boolean), Cond.methodLink RX8 241 yX8_isLane, Cond.static yX8_isLane, Cond.code yX8_isLane cX8_isLane 1 (some .boolean), Cond.methodLink RX8 244 yX4_lookAt, Cond.instanceMethod yX4_lookAt]
def wsL_law_r35 : List Cond := [Cond.selects RX4 yX4_lookAt yX4_lookAt, Cond.initialized RX4, Cond.code yX4_lookAt cX4_lookAt 4 (some .int), Cond.fieldLink RX4 9 "HalfAsked$Sheet" "lane" "I", Cond.methodLink RX4 28 yX4_reaches, Cond.instanceMethod yX4_reaches, Cond.selects RX4 yX4_reaches yX4_reaches, Cond.code yX4_reaches cX4_reaches 3 (some .boolean), Cond.fieldLink RX4 24 "HalfAsked$Sheet" "items" "[J", Cond.methodLink RX8 248 yX4_areTold, Cond.instanceMethod yX4_areTold, Cond.selects RX4 yX4_areTold yX4_areTold, Cond.code yX4_areTold cX4_areTold 4 (some .boolean), Cond.constantLong RX4 32 (99999), Cond.methodLink RX8 251 yX3_search, Cond.instanceMethod yX3_search, Cond.selects RX3 yX3_search yX3_search, Cond.code yX3_search cX3_search 7 none, Cond.fieldLink RX3 42 "HalfAsked$Folk" "asked" "I", Cond.fieldLink RX3 45 "HalfAsked$Folk" "size" "I", Cond.fieldLink RX3 48 "HalfAsked$Folk" "pence" "[I", Cond.fieldLink RX3 51 "HalfAsked$Sheet" "items" "[J", Cond.methodLink RX3 38 yX0_takeFrom, Cond.methodLink RX3 57 yX3_trace]
def wsL_law_r36 : List Cond := [Cond.instanceMethod yX3_trace, Cond.selects RX3 yX3_trace yX3_trace, Cond.code yX3_trace cX3_trace 7 none, Cond.methodLink RX3 61 yX3_unlike, Cond.instanceMethod yX3_unlike, Cond.selects RX3 yX3_unlike yX3_unlike, Cond.code yX3_unlike cX3_unlike 4 (some .int), Cond.methodLink RX3 65 yX3_keep, Cond.instanceMethod yX3_keep, Cond.selects RX3 yX3_keep yX3_keep, Cond.code yX3_keep cX3_keep 1 none, Cond.methodLink RX3 72 arraycopyName, Cond.methodLink RX3 68 yX0_tryAsking, Cond.methodLink RL 109 yX9_who, Cond.instanceMethod yX9_who, Cond.selects RX9 yX9_who yX9_who, Cond.code yX9_who cX9_who 11 (some .int), Cond.methodLink RX9 240 yX9_isSheet, Cond.static yX9_isSheet, Cond.code yX9_isSheet cX9_isSheet 2 (some .boolean), Cond.methodLink RX9 243 yX9_lacksRow, Cond.instanceMethod yX9_lacksRow, Cond.selects RX9 yX9_lacksRow yX9_lacksRow, Cond.code yX9_lacksRow cX9_lacksRow 5 (some .int)]
def wsL_law_r37 : List Cond := [Cond.methodLink RX9 251 yX9_leads, Cond.instanceMethod yX9_leads, Cond.selects RX9 yX9_leads yX9_leads, Cond.code yX9_leads cX9_leads 7 (some .boolean), Cond.methodLink RX9 254 yX9_nextRow, Cond.instanceMethod yX9_nextRow, Cond.selects RX9 yX9_nextRow yX9_nextRow, Cond.code yX9_nextRow cX9_nextRow 3 (some .boolean), Cond.methodLink RL 110 yX8_sheet, Cond.instanceMethod yX8_sheet, Cond.selects RX8 yX8_sheet yX8_sheet, Cond.code yX8_sheet cX8_sheet 4 (some .int), Cond.instantiable RX4 2, Cond.methodLink RX8 258 yX4_init, Cond.instanceMethod yX4_init, Cond.code yX4_init cX4_init 3 none, Cond.methodLink RX4 3 objectInit, Cond.methodLink RX4 15 Lib.Math.min.name, Cond.methodLink RX4 21 Lib.Math.max.name, Cond.methodLink RL 114 yX9_sheet, Cond.instanceMethod yX9_sheet, Cond.selects RX9 yX9_sheet yX9_sheet, Cond.code yX9_sheet cX9_sheet 5 (some .int), Cond.methodLink RL 115 yX8_drop]
def wsL_law_r38 : List Cond := [Cond.instanceMethod yX8_drop, Cond.selects RX8 yX8_drop yX8_drop, Cond.code yX8_drop cX8_drop 3 (some .int), Cond.fieldLink RX8 260 "HalfAsked$Sheet" "items" "[J", Cond.methodLink RL 118 yX9_drop, Cond.instanceMethod yX9_drop, Cond.selects RX9 yX9_drop yX9_drop, Cond.code yX9_drop cX9_drop 2 (some .int), Cond.methodLink RL 119 yX8_item, Cond.instanceMethod yX8_item, Cond.selects RX8 yX8_item yX8_item, Cond.code yX8_item cX8_item 8 (some .int), Cond.methodLink RX8 263 yX4_put, Cond.instanceMethod yX4_put, Cond.selects RX4 yX4_put yX4_put, Cond.code yX4_put cX4_put 4 none, Cond.methodLink RL 123 yX9_item, Cond.instanceMethod yX9_item, Cond.selects RX9 yX9_item yX9_item, Cond.code yX9_item cX9_item 7 (some .int), Cond.methodLink RX9 247 yX9_asLane, Cond.static yX9_asLane, Cond.code yX9_asLane cX9_asLane 3 (some .long), Cond.methodLink RL 124 yX8_film]
def wsL_law_r39 : List Cond := [Cond.instanceMethod yX8_film, Cond.selects RX8 yX8_film yX8_film, Cond.code yX8_film cX8_film 7 (some .int), Cond.methodLink RL 127 yX9_film, Cond.instanceMethod yX9_film, Cond.selects RX9 yX9_film yX9_film, Cond.code yX9_film cX9_film 6 (some .int), Cond.methodLink RL 128 yX8_copy, Cond.instanceMethod yX8_copy, Cond.selects RX8 yX8_copy yX8_copy, Cond.code yX8_copy cX8_copy 8 (some .int), Cond.fieldLink RX8 267 "HalfAsked$Sheet" "lane" "I", Cond.methodLink RX8 273 arraycopyName, Cond.methodLink RX8 270 yX4_reaches, Cond.methodLink RL 131 yX9_copy, Cond.instanceMethod yX9_copy, Cond.selects RX9 yX9_copy yX9_copy, Cond.code yX9_copy cX9_copy 7 (some .int)]
def wsL_law : List Cond := (wsL_law_r1 ++ (wsL_law_r2 ++ (wsL_law_r3 ++ (wsL_law_r4 ++ (wsL_law_r5 ++ (wsL_law_r6 ++ (wsL_law_r7 ++ (wsL_law_r8 ++ (wsL_law_r9 ++ (wsL_law_r10 ++ (wsL_law_r11 ++ (wsL_law_r12 ++ (wsL_law_r13 ++ (wsL_law_r14 ++ (wsL_law_r15 ++ (wsL_law_r16 ++ (wsL_law_r17 ++ (wsL_law_r18 ++ (wsL_law_r19 ++ (wsL_law_r20 ++ (wsL_law_r21 ++ (wsL_law_r22 ++ (wsL_law_r23 ++ (wsL_law_r24 ++ (wsL_law_r25 ++ (wsL_law_r26 ++ (wsL_law_r27 ++ (wsL_law_r28 ++ (wsL_law_r29 ++ (wsL_law_r30 ++ (wsL_law_r31 ++ (wsL_law_r32 ++ (wsL_law_r33 ++ (wsL_law_r34 ++ (wsL_law_r35 ++ (wsL_law_r36 ++ (wsL_law_r37 ++ (wsL_law_r38 ++ wsL_law_r39)))))))))))))))))))))))))))))))))))))) ++ wsX80 ++ wsX90 ++ wsX00 ++ wsX20 ++ wsX50 ++ wsX60 ++ wsX70 ++ wsX10 ++ wsX30 ++ wsX40 ++ ([] : List Cond)
end
section
theorem dX0_init_0 : decode cX0_init 0 = .ok (.aload_n 0, 1) := by decide +kernel
theorem dX0_init_1 : decode cX0_init 1 = .ok (.invokespecial 3, 3) := by decide +kernel
theorem dX0_init_4 : decode cX0_init 4 = .ok (.aload_n 0, 1) := by decide +kernel
theorem dX0_init_5 : decode cX0_init 5 = .ok (.iconst 0, 1) := by decide +kernel
theorem dX0_init_6 : decode cX0_init 6 = .ok (.putfield 9, 3) := by decide +kernel
theorem dX0_init_9 : decode cX0_init 9 = .ok (.aload_n 0, 1) := by decide +kernel
theorem dX0_init_10 : decode cX0_init 10 = .ok (.ldc 15, 2) := by decide +kernel
theorem dX0_init_12 : decode cX0_init 12 = .ok (.putfield 16, 3) := by decide +kernel
theorem dX0_init_15 : decode cX0_init 15 = .ok (.aload_n 0, 1) := by decide +kernel
theorem dX0_init_16 : decode cX0_init 16 = .ok (.iconst 0, 1) := by decide +kernel
theorem dX0_init_17 : decode cX0_init 17 = .ok (.putfield 19, 3) := by decide +kernel
theorem dX0_init_20 : decode cX0_init 20 = .ok (.aload_n 0, 1) := by decide +kernel
theorem dX0_init_21 : decode cX0_init 21 = .ok (.iconst 5, 1) := by decide +kernel
theorem dX0_init_22 : decode cX0_init 22 = .ok (.newarray .int, 2) := by decide +kernel
theorem dX0_init_24 : decode cX0_init 24 = .ok (.putfield 22, 3) := by decide +kernel
theorem dX0_init_27 : decode cX0_init 27 = .ok (.aload_n 0, 1) := by decide +kernel
theorem dX0_init_28 : decode cX0_init 28 = .ok (.iconst 5, 1) := by decide +kernel
theorem dX0_init_29 : decode cX0_init 29 = .ok (.newarray .int, 2) := by decide +kernel
theorem dX0_init_31 : decode cX0_init 31 = .ok (.putfield 26, 3) := by decide +kernel
theorem dX0_init_34 : decode cX0_init 34 = .ok (.return_, 1) := by decide +kernel
set_option maxRecDepth 20000 in
theorem ggX0_newRow_X0_init : GoodIn wsX0_newRow wsX0_init := goodIn_r _ [10, 11, 12, 13, 14, 15, 16, 17, 18, 19, 20, 21, 22, 23, 24, 25] (by decide +kernel) (by decide +kernel)
set_option maxRecDepth 20000 in
theorem gX0_newRow_X0_init : GoodIn wsX0_newRow (wsX0_init) := ggX0_newRow_X0_init
theorem dX0_newRow_0 : decode cX0_newRow 0 = .ok (.iconst 0, 1) := by decide +kernel
theorem dX0_newRow_1 : decode cX0_newRow 1 = .ok (.iload_n 0, 1) := by decide +kernel
theorem dX0_newRow_2 : decode cX0_newRow 2 = .ok (.invokestatic 29, 3) := by decide +kernel
theorem dX0_newRow_5 : decode cX0_newRow 5 = .ok (.anewarray 10, 3) := by decide +kernel
theorem dX0_newRow_8 : decode cX0_newRow 8 = .ok (.astore_n 1, 1) := by decide +kernel
theorem dX0_newRow_9 : decode cX0_newRow 9 = .ok (.iconst 0, 1) := by decide +kernel
theorem dX0_newRow_10 : decode cX0_newRow 10 = .ok (.istore_n 2, 1) := by decide +kernel
theorem dX0_newRow_11 : decode cX0_newRow 11 = .ok (.iload_n 2, 1) := by decide +kernel
theorem dX0_newRow_12 : decode cX0_newRow 12 = .ok (.aload_n 1, 1) := by decide +kernel
theorem dX0_newRow_13 : decode cX0_newRow 13 = .ok (.arraylength, 1) := by decide +kernel
theorem dX0_newRow_14 : decode cX0_newRow 14 = .ok (.if_icmp .ge 19, 3) := by decide +kernel
theorem dX0_newRow_17 : decode cX0_newRow 17 = .ok (.aload_n 1, 1) := by decide +kernel
theorem dX0_newRow_18 : decode cX0_newRow 18 = .ok (.iload_n 2, 1) := by decide +kernel
theorem dX0_newRow_19 : decode cX0_newRow 19 = .ok (.new 10, 3) := by decide +kernel
theorem dX0_newRow_22 : decode cX0_newRow 22 = .ok (.dup, 1) := by decide +kernel
theorem dX0_newRow_23 : decode cX0_newRow 23 = .ok (.invokespecial 35, 3) := by decide +kernel
theorem dX0_newRow_26 : decode cX0_newRow 26 = .ok (.aastore, 1) := by decide +kernel
theorem dX0_newRow_27 : decode cX0_newRow 27 = .ok (.iinc 2 1, 3) := by decide +kernel
theorem dX0_newRow_30 : decode cX0_newRow 30 = .ok (.goto (-19), 3) := by decide +kernel
theorem dX0_newRow_33 : decode cX0_newRow 33 = .ok (.aload_n 1, 1) := by decide +kernel
theorem dX0_newRow_34 : decode cX0_newRow 34 = .ok (.areturn, 1) := by decide +kernel
theorem dX0_clear_0 : decode cX0_clear 0 = .ok (.aload_n 0, 1) := by decide +kernel
theorem dX0_clear_1 : decode cX0_clear 1 = .ok (.iconst 0, 1) := by decide +kernel
theorem dX0_clear_2 : decode cX0_clear 2 = .ok (.putfield 9, 3) := by decide +kernel
theorem dX0_clear_5 : decode cX0_clear 5 = .ok (.aload_n 0, 1) := by decide +kernel
theorem dX0_clear_6 : decode cX0_clear 6 = .ok (.ldc 15, 2) := by decide +kernel
theorem dX0_clear_8 : decode cX0_clear 8 = .ok (.putfield 16, 3) := by decide +kernel
theorem dX0_clear_11 : decode cX0_clear 11 = .ok (.aload_n 0, 1) := by decide +kernel
theorem dX0_clear_12 : decode cX0_clear 12 = .ok (.iconst 0, 1) := by decide +kernel
theorem dX0_clear_13 : decode cX0_clear 13 = .ok (.putfield 19, 3) := by decide +kernel
theorem dX0_clear_16 : decode cX0_clear 16 = .ok (.return_, 1) := by decide +kernel
theorem dX0_takeFrom_0 : decode cX0_takeFrom 0 = .ok (.aload_n 0, 1) := by decide +kernel
theorem dX0_takeFrom_1 : decode cX0_takeFrom 1 = .ok (.aload_n 1, 1) := by decide +kernel
theorem dX0_takeFrom_2 : decode cX0_takeFrom 2 = .ok (.getfield 9, 3) := by decide +kernel
theorem dX0_takeFrom_5 : decode cX0_takeFrom 5 = .ok (.putfield 9, 3) := by decide +kernel
theorem dX0_takeFrom_8 : decode cX0_takeFrom 8 = .ok (.aload_n 0, 1) := by decide +kernel
theorem dX0_takeFrom_9 : decode cX0_takeFrom 9 = .ok (.aload_n 1, 1) := by decide +kernel
theorem dX0_takeFrom_10 : decode cX0_takeFrom 10 = .ok (.getfield 16, 3) := by decide +kernel
theorem dX0_takeFrom_13 : decode cX0_takeFrom 13 = .ok (.putfield 16, 3) := by decide +kernel
theorem dX0_takeFrom_16 : decode cX0_takeFrom 16 = .ok (.aload_n 0, 1) := by decide +kernel
theorem dX0_takeFrom_17 : decode cX0_takeFrom 17 = .ok (.aload_n 1, 1) := by decide +kernel
theorem dX0_takeFrom_18 : decode cX0_takeFrom 18 = .ok (.getfield 19, 3) := by decide +kernel
theorem dX0_takeFrom_21 : decode cX0_takeFrom 21 = .ok (.putfield 19, 3) := by decide +kernel
theorem dX0_takeFrom_24 : decode cX0_takeFrom 24 = .ok (.aload_n 1, 1) := by decide +kernel
theorem dX0_takeFrom_25 : decode cX0_takeFrom 25 = .ok (.getfield 22, 3) := by decide +kernel
theorem dX0_takeFrom_28 : decode cX0_takeFrom 28 = .ok (.iconst 0, 1) := by decide +kernel
theorem dX0_takeFrom_29 : decode cX0_takeFrom 29 = .ok (.aload_n 0, 1) := by decide +kernel
theorem dX0_takeFrom_30 : decode cX0_takeFrom 30 = .ok (.getfield 22, 3) := by decide +kernel
theorem dX0_takeFrom_33 : decode cX0_takeFrom 33 = .ok (.iconst 0, 1) := by decide +kernel
theorem dX0_takeFrom_34 : decode cX0_takeFrom 34 = .ok (.iconst 5, 1) := by decide +kernel
theorem dX0_takeFrom_35 : decode cX0_takeFrom 35 = .ok (.invokestatic 36, 3) := by decide +kernel
theorem dX0_takeFrom_38 : decode cX0_takeFrom 38 = .ok (.aload_n 1, 1) := by decide +kernel
theorem dX0_takeFrom_39 : decode cX0_takeFrom 39 = .ok (.getfield 26, 3) := by decide +kernel
theorem dX0_takeFrom_42 : decode cX0_takeFrom 42 = .ok (.iconst 0, 1) := by decide +kernel
theorem dX0_takeFrom_43 : decode cX0_takeFrom 43 = .ok (.aload_n 0, 1) := by decide +kernel
theorem dX0_takeFrom_44 : decode cX0_takeFrom 44 = .ok (.getfield 26, 3) := by decide +kernel
theorem dX0_takeFrom_47 : decode cX0_takeFrom 47 = .ok (.iconst 0, 1) := by decide +kernel
theorem dX0_takeFrom_48 : decode cX0_takeFrom 48 = .ok (.iconst 5, 1) := by decide +kernel
theorem dX0_takeFrom_49 : decode cX0_takeFrom 49 = .ok (.invokestatic 36, 3) := by decide +kernel
theorem dX0_takeFrom_52 : decode cX0_takeFrom 52 = .ok (.return_, 1) := by decide +kernel
theorem dX0_add_0 : decode cX0_add 0 = .ok (.aload_n 0, 1) := by decide +kernel
theorem dX0_add_1 : decode cX0_add 1 = .ok (.getfield 9, 3) := by decide +kernel
theorem dX0_add_4 : decode cX0_add 4 = .ok (.iconst 5, 1) := by decide +kernel
theorem dX0_add_5 : decode cX0_add 5 = .ok (.if_icmp .ge 33, 3) := by decide +kernel
theorem dX0_add_8 : decode cX0_add 8 = .ok (.aload_n 0, 1) := by decide +kernel
theorem dX0_add_9 : decode cX0_add 9 = .ok (.getfield 22, 3) := by decide +kernel
theorem dX0_add_12 : decode cX0_add 12 = .ok (.aload_n 0, 1) := by decide +kernel
theorem dX0_add_13 : decode cX0_add 13 = .ok (.getfield 9, 3) := by decide +kernel
theorem dX0_add_16 : decode cX0_add 16 = .ok (.iload_n 1, 1) := by decide +kernel
theorem dX0_add_17 : decode cX0_add 17 = .ok (.iastore, 1) := by decide +kernel
theorem dX0_add_18 : decode cX0_add 18 = .ok (.aload_n 0, 1) := by decide +kernel
theorem dX0_add_19 : decode cX0_add 19 = .ok (.getfield 26, 3) := by decide +kernel
theorem dX0_add_22 : decode cX0_add 22 = .ok (.aload_n 0, 1) := by decide +kernel
theorem dX0_add_23 : decode cX0_add 23 = .ok (.getfield 9, 3) := by decide +kernel
theorem dX0_add_26 : decode cX0_add 26 = .ok (.iload_n 2, 1) := by decide +kernel
theorem dX0_add_27 : decode cX0_add 27 = .ok (.iastore, 1) := by decide +kernel
theorem dX0_add_28 : decode cX0_add 28 = .ok (.aload_n 0, 1) := by decide +kernel
theorem dX0_add_29 : decode cX0_add 29 = .ok (.dup, 1) := by decide +kernel
theorem dX0_add_30 : decode cX0_add 30 = .ok (.getfield 9, 3) := by decide +kernel
theorem dX0_add_33 : decode cX0_add 33 = .ok (.iconst 1, 1) := by decide +kernel
theorem dX0_add_34 : decode cX0_add 34 = .ok (.iadd, 1) := by decide +kernel
theorem dX0_add_35 : decode cX0_add 35 = .ok (.putfield 9, 3) := by decide +kernel
theorem dX0_add_38 : decode cX0_add 38 = .ok (.return_, 1) := by decide +kernel
theorem dX0_has_0 : decode cX0_has 0 = .ok (.iload_n 1, 1) := by decide +kernel
theorem dX0_has_1 : decode cX0_has 1 = .ok (.ifCond .lt 15, 3) := by decide +kernel
theorem dX0_has_4 : decode cX0_has 4 = .ok (.iload_n 1, 1) := by decide +kernel
theorem dX0_has_5 : decode cX0_has 5 = .ok (.aload_n 0, 1) := by decide +kernel
theorem dX0_has_6 : decode cX0_has 6 = .ok (.getfield 9, 3) := by decide +kernel
theorem dX0_has_9 : decode cX0_has 9 = .ok (.if_icmp .ge 7, 3) := by decide +kernel
theorem dX0_has_12 : decode cX0_has 12 = .ok (.iconst 1, 1) := by decide +kernel
theorem dX0_has_13 : decode cX0_has 13 = .ok (.goto 4, 3) := by decide +kernel
theorem dX0_has_16 : decode cX0_has 16 = .ok (.iconst 0, 1) := by decide +kernel
theorem dX0_has_17 : decode cX0_has 17 = .ok (.ireturn, 1) := by decide +kernel
set_option maxRecDepth 20000 in
theorem ggX0_isPair_X0_has : GoodIn wsX0_isPair wsX0_has := goodIn_r _ [5, 6, 7, 8, 9, 10, 11] (by decide +kernel) (by decide +kernel)
set_option maxRecDepth 20000 in
theorem gX0_isPair_X0_has : GoodIn wsX0_isPair (wsV RX0 42 RX0 yX0_has wsX0_has) := goodIn_app (goodIn_of _ (by decide +kernel)) ggX0_isPair_X0_has
theorem dX0_isPair_0 : decode cX0_isPair 0 = .ok (.aload_n 0, 1) := by decide +kernel
theorem dX0_isPair_1 : decode cX0_isPair 1 = .ok (.iload_n 1, 1) := by decide +kernel
theorem dX0_isPair_2 : decode cX0_isPair 2 = .ok (.invokevirtual 42, 3) := by decide +kernel
theorem dX0_isPair_5 : decode cX0_isPair 5 = .ok (.ifCond .eq 20, 3) := by decide +kernel
theorem dX0_isPair_8 : decode cX0_isPair 8 = .ok (.aload_n 0, 1) := by decide +kernel
theorem dX0_isPair_9 : decode cX0_isPair 9 = .ok (.iload_n 2, 1) := by decide +kernel
theorem dX0_isPair_10 : decode cX0_isPair 10 = .ok (.invokevirtual 42, 3) := by decide +kernel
theorem dX0_isPair_13 : decode cX0_isPair 13 = .ok (.ifCond .eq 12, 3) := by decide +kernel
theorem dX0_isPair_16 : decode cX0_isPair 16 = .ok (.iload_n 1, 1) := by decide +kernel
theorem dX0_isPair_17 : decode cX0_isPair 17 = .ok (.iload_n 2, 1) := by decide +kernel
theorem dX0_isPair_18 : decode cX0_isPair 18 = .ok (.if_icmp .eq 7, 3) := by decide +kernel
theorem dX0_isPair_21 : decode cX0_isPair 21 = .ok (.iconst 1, 1) := by decide +kernel
theorem dX0_isPair_22 : decode cX0_isPair 22 = .ok (.goto 4, 3) := by decide +kernel
theorem dX0_isPair_25 : decode cX0_isPair 25 = .ok (.iconst 0, 1) := by decide +kernel
theorem dX0_isPair_26 : decode cX0_isPair 26 = .ok (.ireturn, 1) := by decide +kernel
set_option maxRecDepth 20000 in
theorem ggX0_askings_J6_bitCount_0f7a4 : GoodIn wsX0_askings wsJ6_bitCount_0f7a4 := goodIn_r _ [5, 6, 7, 8] (by decide +kernel) (by decide +kernel)
set_option maxRecDepth 20000 in
theorem gX0_askings_J6_bitCount_0f7a4 : GoodIn wsX0_askings (va_wsS RX0 46 yJ6_bitCount_0f7a4 wsJ6_bitCount_0f7a4) := goodIn_app (goodIn_of _ (by decide +kernel)) ggX0_askings_J6_bitCount_0f7a4
theorem dX0_askings_0 : decode cX0_askings 0 = .ok (.aload_n 0, 1) := by decide +kernel
theorem dX0_askings_1 : decode cX0_askings 1 = .ok (.getfield 19, 3) := by decide +kernel
theorem dX0_askings_4 : decode cX0_askings 4 = .ok (.invokestatic 46, 3) := by decide +kernel
theorem dX0_askings_7 : decode cX0_askings 7 = .ok (.ireturn, 1) := by decide +kernel
theorem dX0_penceOfAll_0 : decode cX0_penceOfAll 0 = .ok (.iconst 0, 1) := by decide +kernel
theorem dX0_penceOfAll_1 : decode cX0_penceOfAll 1 = .ok (.istore_n 1, 1) := by decide +kernel
theorem dX0_penceOfAll_2 : decode cX0_penceOfAll 2 = .ok (.iconst 0, 1) := by decide +kernel
theorem dX0_penceOfAll_3 : decode cX0_penceOfAll 3 = .ok (.istore_n 2, 1) := by decide +kernel
theorem dX0_penceOfAll_4 : decode cX0_penceOfAll 4 = .ok (.iload_n 2, 1) := by decide +kernel
theorem dX0_penceOfAll_5 : decode cX0_penceOfAll 5 = .ok (.aload_n 0, 1) := by decide +kernel
theorem dX0_penceOfAll_6 : decode cX0_penceOfAll 6 = .ok (.getfield 9, 3) := by decide +kernel
theorem dX0_penceOfAll_9 : decode cX0_penceOfAll 9 = .ok (.if_icmp .ge 18, 3) := by decide +kernel
theorem dX0_penceOfAll_12 : decode cX0_penceOfAll 12 = .ok (.iload_n 1, 1) := by decide +kernel
theorem dX0_penceOfAll_13 : decode cX0_penceOfAll 13 = .ok (.aload_n 0, 1) := by decide +kernel
theorem dX0_penceOfAll_14 : decode cX0_penceOfAll 14 = .ok (.getfield 26, 3) := by decide +kernel
theorem dX0_penceOfAll_17 : decode cX0_penceOfAll 17 = .ok (.iload_n 2, 1) := by decide +kernel
theorem dX0_penceOfAll_18 : decode cX0_penceOfAll 18 = .ok (.iaload, 1) := by decide +kernel
theorem dX0_penceOfAll_19 : decode cX0_penceOfAll 19 = .ok (.iadd, 1) := by decide +kernel
theorem dX0_penceOfAll_20 : decode cX0_penceOfAll 20 = .ok (.istore_n 1, 1) := by decide +kernel
theorem dX0_penceOfAll_21 : decode cX0_penceOfAll 21 = .ok (.iinc 2 1, 3) := by decide +kernel
theorem dX0_penceOfAll_24 : decode cX0_penceOfAll 24 = .ok (.goto (-20), 3) := by decide +kernel
theorem dX0_penceOfAll_27 : decode cX0_penceOfAll 27 = .ok (.iload_n 1, 1) := by decide +kernel
theorem dX0_penceOfAll_28 : decode cX0_penceOfAll 28 = .ok (.ireturn, 1) := by decide +kernel
set_option maxRecDepth 20000 in
theorem ggX1_init_X2_init : GoodIn wsX1_init wsX2_init := goodIn_r _ [17, 18, 2, 3, 19, 20, 6, 21, 22, 51, 52, 53, 54] (by decide +kernel) (by decide +kernel)
set_option maxRecDepth 20000 in
theorem gX1_init_X2_init_n33 : GoodIn wsX1_init (wsX2_init) := ggX1_init_X2_init
set_option maxRecDepth 20000 in
theorem ggX1_init_X0_newRow : GoodIn wsX1_init wsX0_newRow := goodIn_r _ [26, 27, 28, 29, 30, 31, 32, 25, 33, 34, 35, 36, 2, 3, 37, 38, 39, 40, 6, 41, 42, 55, 56, 57, 58, 59] (by decide +kernel) (by decide +kernel)
set_option maxRecDepth 20000 in
theorem gX1_init_X0_newRow : GoodIn wsX1_init (va_wsS RX1 38 yX0_newRow wsX0_newRow) := goodIn_app (goodIn_of _ (by decide +kernel)) ggX1_init_X0_newRow
theorem dX1_init_0 : decode cX1_init 0 = .ok (.aload_n 0, 1) := by decide +kernel
theorem dX1_init_1 : decode cX1_init 1 = .ok (.invokespecial 3, 3) := by decide +kernel
theorem dX1_init_4 : decode cX1_init 4 = .ok (.aload_n 0, 1) := by decide +kernel
theorem dX1_init_5 : decode cX1_init 5 = .ok (.iconst (-1), 1) := by decide +kernel
theorem dX1_init_6 : decode cX1_init 6 = .ok (.putfield 9, 3) := by decide +kernel
theorem dX1_init_9 : decode cX1_init 9 = .ok (.aload_n 0, 1) := by decide +kernel
theorem dX1_init_10 : decode cX1_init 10 = .ok (.iconst 0, 1) := by decide +kernel
theorem dX1_init_11 : decode cX1_init 11 = .ok (.putfield 15, 3) := by decide +kernel
theorem dX1_init_14 : decode cX1_init 14 = .ok (.aload_n 0, 1) := by decide +kernel
theorem dX1_init_15 : decode cX1_init 15 = .ok (.bipush 6, 2) := by decide +kernel
theorem dX1_init_17 : decode cX1_init 17 = .ok (.newarray .int, 2) := by decide +kernel
theorem dX1_init_19 : decode cX1_init 19 = .ok (.putfield 18, 3) := by decide +kernel
theorem dX1_init_22 : decode cX1_init 22 = .ok (.aload_n 0, 1) := by decide +kernel
theorem dX1_init_23 : decode cX1_init 23 = .ok (.bipush 6, 2) := by decide +kernel
theorem dX1_init_25 : decode cX1_init 25 = .ok (.newarray .int, 2) := by decide +kernel
theorem dX1_init_27 : decode cX1_init 27 = .ok (.putfield 22, 3) := by decide +kernel
theorem dX1_init_30 : decode cX1_init 30 = .ok (.aload_n 0, 1) := by decide +kernel
theorem dX1_init_31 : decode cX1_init 31 = .ok (.iconst 0, 1) := by decide +kernel
theorem dX1_init_32 : decode cX1_init 32 = .ok (.putfield 25, 3) := by decide +kernel
theorem dX1_init_35 : decode cX1_init 35 = .ok (.aload_n 0, 1) := by decide +kernel
theorem dX1_init_36 : decode cX1_init 36 = .ok (.iconst 0, 1) := by decide +kernel
theorem dX1_init_37 : decode cX1_init 37 = .ok (.putfield 28, 3) := by decide +kernel
theorem dX1_init_40 : decode cX1_init 40 = .ok (.aload_n 0, 1) := by decide +kernel
theorem dX1_init_41 : decode cX1_init 41 = .ok (.new 31, 3) := by decide +kernel
theorem dX1_init_44 : decode cX1_init 44 = .ok (.dup, 1) := by decide +kernel
theorem dX1_init_45 : decode cX1_init 45 = .ok (.invokespecial 33, 3) := by decide +kernel
theorem dX1_init_48 : decode cX1_init 48 = .ok (.putfield 34, 3) := by decide +kernel
theorem dX1_init_51 : decode cX1_init 51 = .ok (.aload_n 0, 1) := by decide +kernel
theorem dX1_init_52 : decode cX1_init 52 = .ok (.bipush 7, 2) := by decide +kernel
theorem dX1_init_54 : decode cX1_init 54 = .ok (.invokestatic 38, 3) := by decide +kernel
theorem dX1_init_57 : decode cX1_init 57 = .ok (.putfield 44, 3) := by decide +kernel
theorem dX1_init_60 : decode cX1_init 60 = .ok (.return_, 1) := by decide +kernel
theorem dX2_init_0 : decode cX2_init 0 = .ok (.aload_n 0, 1) := by decide +kernel
theorem dX2_init_1 : decode cX2_init 1 = .ok (.invokespecial 3, 3) := by decide +kernel
theorem dX2_init_4 : decode cX2_init 4 = .ok (.aload_n 0, 1) := by decide +kernel
theorem dX2_init_5 : decode cX2_init 5 = .ok (.iconst 0, 1) := by decide +kernel
theorem dX2_init_6 : decode cX2_init 6 = .ok (.putfield 9, 3) := by decide +kernel
theorem dX2_init_9 : decode cX2_init 9 = .ok (.aload_n 0, 1) := by decide +kernel
theorem dX2_init_10 : decode cX2_init 10 = .ok (.iconst 0, 1) := by decide +kernel
theorem dX2_init_11 : decode cX2_init 11 = .ok (.putfield 15, 3) := by decide +kernel
theorem dX2_init_14 : decode cX2_init 14 = .ok (.aload_n 0, 1) := by decide +kernel
theorem dX2_init_15 : decode cX2_init 15 = .ok (.bipush 8, 2) := by decide +kernel
theorem dX2_init_17 : decode cX2_init 17 = .ok (.newarray .int, 2) := by decide +kernel
theorem dX2_init_19 : decode cX2_init 19 = .ok (.putfield 18, 3) := by decide +kernel
theorem dX2_init_22 : decode cX2_init 22 = .ok (.aload_n 0, 1) := by decide +kernel
theorem dX2_init_23 : decode cX2_init 23 = .ok (.bipush 8, 2) := by decide +kernel
theorem dX2_init_25 : decode cX2_init 25 = .ok (.newarray .int, 2) := by decide +kernel
theorem dX2_init_27 : decode cX2_init 27 = .ok (.putfield 22, 3) := by decide +kernel
theorem dX2_init_30 : decode cX2_init 30 = .ok (.return_, 1) := by decide +kernel
theorem dX2_clear_0 : decode cX2_clear 0 = .ok (.aload_n 0, 1) := by decide +kernel
theorem dX2_clear_1 : decode cX2_clear 1 = .ok (.iconst 0, 1) := by decide +kernel
theorem dX2_clear_2 : decode cX2_clear 2 = .ok (.putfield 9, 3) := by decide +kernel
theorem dX2_clear_5 : decode cX2_clear 5 = .ok (.aload_n 0, 1) := by decide +kernel
theorem dX2_clear_6 : decode cX2_clear 6 = .ok (.iconst 0, 1) := by decide +kernel
theorem dX2_clear_7 : decode cX2_clear 7 = .ok (.putfield 15, 3) := by decide +kernel
theorem dX2_clear_10 : decode cX2_clear 10 = .ok (.return_, 1) := by decide +kernel
theorem dX2_takeFrom_0 : decode cX2_takeFrom 0 = .ok (.aload_n 0, 1) := by decide +kernel
theorem dX2_takeFrom_1 : decode cX2_takeFrom 1 = .ok (.aload_n 1, 1) := by decide +kernel
theorem dX2_takeFrom_2 : decode cX2_takeFrom 2 = .ok (.getfield 9, 3) := by decide +kernel
theorem dX2_takeFrom_5 : decode cX2_takeFrom 5 = .ok (.putfield 9, 3) := by decide +kernel
theorem dX2_takeFrom_8 : decode cX2_takeFrom 8 = .ok (.aload_n 0, 1) := by decide +kernel
theorem dX2_takeFrom_9 : decode cX2_takeFrom 9 = .ok (.aload_n 1, 1) := by decide +kernel
theorem dX2_takeFrom_10 : decode cX2_takeFrom 10 = .ok (.getfield 15, 3) := by decide +kernel
theorem dX2_takeFrom_13 : decode cX2_takeFrom 13 = .ok (.putfield 15, 3) := by decide +kernel
theorem dX2_takeFrom_16 : decode cX2_takeFrom 16 = .ok (.aload_n 1, 1) := by decide +kernel
theorem dX2_takeFrom_17 : decode cX2_takeFrom 17 = .ok (.getfield 18, 3) := by decide +kernel
theorem dX2_takeFrom_20 : decode cX2_takeFrom 20 = .ok (.iconst 0, 1) := by decide +kernel
theorem dX2_takeFrom_21 : decode cX2_takeFrom 21 = .ok (.aload_n 0, 1) := by decide +kernel
theorem dX2_takeFrom_22 : decode cX2_takeFrom 22 = .ok (.getfield 18, 3) := by decide +kernel
theorem dX2_takeFrom_25 : decode cX2_takeFrom 25 = .ok (.iconst 0, 1) := by decide +kernel
theorem dX2_takeFrom_26 : decode cX2_takeFrom 26 = .ok (.bipush 8, 2) := by decide +kernel
theorem dX2_takeFrom_28 : decode cX2_takeFrom 28 = .ok (.invokestatic 25, 3) := by decide +kernel
theorem dX2_takeFrom_31 : decode cX2_takeFrom 31 = .ok (.aload_n 1, 1) := by decide +kernel
theorem dX2_takeFrom_32 : decode cX2_takeFrom 32 = .ok (.getfield 22, 3) := by decide +kernel
theorem dX2_takeFrom_35 : decode cX2_takeFrom 35 = .ok (.iconst 0, 1) := by decide +kernel
theorem dX2_takeFrom_36 : decode cX2_takeFrom 36 = .ok (.aload_n 0, 1) := by decide +kernel
theorem dX2_takeFrom_37 : decode cX2_takeFrom 37 = .ok (.getfield 22, 3) := by decide +kernel
theorem dX2_takeFrom_40 : decode cX2_takeFrom 40 = .ok (.iconst 0, 1) := by decide +kernel
theorem dX2_takeFrom_41 : decode cX2_takeFrom 41 = .ok (.bipush 8, 2) := by decide +kernel
theorem dX2_takeFrom_43 : decode cX2_takeFrom 43 = .ok (.invokestatic 25, 3) := by decide +kernel
theorem dX2_takeFrom_46 : decode cX2_takeFrom 46 = .ok (.return_, 1) := by decide +kernel
set_option maxRecDepth 20000 in
theorem ggX3_init_X0_newRow : GoodIn wsX3_init wsX0_newRow := goodIn_r _ [14, 15, 16, 17, 18, 19, 20, 13, 21, 22, 23, 24, 2, 3, 25, 26, 27, 28, 5, 29, 30, 37, 38, 39, 40, 41] (by decide +kernel) (by decide +kernel)
set_option maxRecDepth 20000 in
theorem gX3_init_X0_newRow : GoodIn wsX3_init (va_wsS RX3 28 yX0_newRow wsX0_newRow) := goodIn_app (goodIn_of _ (by decide +kernel)) ggX3_init_X0_newRow
theorem dX3_init_0 : decode cX3_init 0 = .ok (.aload_n 0, 1) := by decide +kernel
theorem dX3_init_1 : decode cX3_init 1 = .ok (.invokespecial 3, 3) := by decide +kernel
theorem dX3_init_4 : decode cX3_init 4 = .ok (.aload_n 0, 1) := by decide +kernel
theorem dX3_init_5 : decode cX3_init 5 = .ok (.iconst 0, 1) := by decide +kernel
theorem dX3_init_6 : decode cX3_init 6 = .ok (.putfield 9, 3) := by decide +kernel
theorem dX3_init_9 : decode cX3_init 9 = .ok (.aload_n 0, 1) := by decide +kernel
theorem dX3_init_10 : decode cX3_init 10 = .ok (.iconst 3, 1) := by decide +kernel
theorem dX3_init_11 : decode cX3_init 11 = .ok (.newarray .int, 2) := by decide +kernel
theorem dX3_init_13 : decode cX3_init 13 = .ok (.putfield 15, 3) := by decide +kernel
theorem dX3_init_16 : decode cX3_init 16 = .ok (.aload_n 0, 1) := by decide +kernel
theorem dX3_init_17 : decode cX3_init 17 = .ok (.iconst 3, 1) := by decide +kernel
theorem dX3_init_18 : decode cX3_init 18 = .ok (.newarray .int, 2) := by decide +kernel
theorem dX3_init_20 : decode cX3_init 20 = .ok (.putfield 19, 3) := by decide +kernel
theorem dX3_init_23 : decode cX3_init 23 = .ok (.aload_n 0, 1) := by decide +kernel
theorem dX3_init_24 : decode cX3_init 24 = .ok (.iconst 5, 1) := by decide +kernel
theorem dX3_init_25 : decode cX3_init 25 = .ok (.newarray .int, 2) := by decide +kernel
theorem dX3_init_27 : decode cX3_init 27 = .ok (.putfield 22, 3) := by decide +kernel
theorem dX3_init_30 : decode cX3_init 30 = .ok (.aload_n 0, 1) := by decide +kernel
theorem dX3_init_31 : decode cX3_init 31 = .ok (.iconst 0, 1) := by decide +kernel
theorem dX3_init_32 : decode cX3_init 32 = .ok (.putfield 25, 3) := by decide +kernel
theorem dX3_init_35 : decode cX3_init 35 = .ok (.aload_n 0, 1) := by decide +kernel
theorem dX3_init_36 : decode cX3_init 36 = .ok (.iconst 4, 1) := by decide +kernel
theorem dX3_init_37 : decode cX3_init 37 = .ok (.invokestatic 28, 3) := by decide +kernel
theorem dX3_init_40 : decode cX3_init 40 = .ok (.putfield 34, 3) := by decide +kernel
theorem dX3_init_43 : decode cX3_init 43 = .ok (.return_, 1) := by decide +kernel
theorem dX4_init_0 : decode cX4_init 0 = .ok (.aload_n 0, 1) := by decide +kernel
theorem dX4_init_1 : decode cX4_init 1 = .ok (.invokespecial 3, 3) := by decide +kernel
theorem dX4_init_4 : decode cX4_init 4 = .ok (.aload_n 0, 1) := by decide +kernel
theorem dX4_init_5 : decode cX4_init 5 = .ok (.iload_n 1, 1) := by decide +kernel
theorem dX4_init_6 : decode cX4_init 6 = .ok (.putfield 9, 3) := by decide +kernel
theorem dX4_init_9 : decode cX4_init 9 = .ok (.aload_n 0, 1) := by decide +kernel
theorem dX4_init_10 : decode cX4_init 10 = .ok (.iconst 0, 1) := by decide +kernel
theorem dX4_init_11 : decode cX4_init 11 = .ok (.iload_n 2, 1) := by decide +kernel
theorem dX4_init_12 : decode cX4_init 12 = .ok (.bipush 24, 2) := by decide +kernel
theorem dX4_init_14 : decode cX4_init 14 = .ok (.invokestatic 15, 3) := by decide +kernel
theorem dX4_init_17 : decode cX4_init 17 = .ok (.invokestatic 21, 3) := by decide +kernel
theorem dX4_init_20 : decode cX4_init 20 = .ok (.newarray .long, 2) := by decide +kernel
theorem dX4_init_22 : decode cX4_init 22 = .ok (.putfield 24, 3) := by decide +kernel
theorem dX4_init_25 : decode cX4_init 25 = .ok (.return_, 1) := by decide +kernel
theorem dX5_init_0 : decode cX5_init 0 = .ok (.aload_n 0, 1) := by decide +kernel
theorem dX5_init_1 : decode cX5_init 1 = .ok (.invokespecial 3, 3) := by decide +kernel
theorem dX5_init_4 : decode cX5_init 4 = .ok (.aload_n 0, 1) := by decide +kernel
theorem dX5_init_5 : decode cX5_init 5 = .ok (.iconst 0, 1) := by decide +kernel
theorem dX5_init_6 : decode cX5_init 6 = .ok (.putfield 9, 3) := by decide +kernel
theorem dX5_init_9 : decode cX5_init 9 = .ok (.aload_n 0, 1) := by decide +kernel
theorem dX5_init_10 : decode cX5_init 10 = .ok (.iconst 0, 1) := by decide +kernel
theorem dX5_init_11 : decode cX5_init 11 = .ok (.putfield 15, 3) := by decide +kernel
theorem dX5_init_14 : decode cX5_init 14 = .ok (.aload_n 0, 1) := by decide +kernel
theorem dX5_init_15 : decode cX5_init 15 = .ok (.bipush 80, 2) := by decide +kernel
theorem dX5_init_17 : decode cX5_init 17 = .ok (.newarray .char, 2) := by decide +kernel
theorem dX5_init_19 : decode cX5_init 19 = .ok (.putfield 18, 3) := by decide +kernel
theorem dX5_init_22 : decode cX5_init 22 = .ok (.return_, 1) := by decide +kernel
theorem dX5_areSigns_0 : decode cX5_areSigns 0 = .ok (.iconst 0, 1) := by decide +kernel
theorem dX5_areSigns_1 : decode cX5_areSigns 1 = .ok (.istore_n 3, 1) := by decide +kernel
theorem dX5_areSigns_2 : decode cX5_areSigns 2 = .ok (.iload_n 3, 1) := by decide +kernel
theorem dX5_areSigns_3 : decode cX5_areSigns 3 = .ok (.iload_n 2, 1) := by decide +kernel
theorem dX5_areSigns_4 : decode cX5_areSigns 4 = .ok (.if_icmp .ge 41, 3) := by decide +kernel
theorem dX5_areSigns_7 : decode cX5_areSigns 7 = .ok (.lload_n 0, 1) := by decide +kernel
theorem dX5_areSigns_8 : decode cX5_areSigns 8 = .ok (.bipush 8, 2) := by decide +kernel
theorem dX5_areSigns_10 : decode cX5_areSigns 10 = .ok (.iload_n 3, 1) := by decide +kernel
theorem dX5_areSigns_11 : decode cX5_areSigns 11 = .ok (.imul, 1) := by decide +kernel
theorem dX5_areSigns_12 : decode cX5_areSigns 12 = .ok (.lshr, 1) := by decide +kernel
theorem dX5_areSigns_13 : decode cX5_areSigns 13 = .ok (.ldc2_w 22, 3) := by decide +kernel
theorem dX5_areSigns_16 : decode cX5_areSigns 16 = .ok (.land, 1) := by decide +kernel
theorem dX5_areSigns_17 : decode cX5_areSigns 17 = .ok (.lstore 4, 2) := by decide +kernel
theorem dX5_areSigns_19 : decode cX5_areSigns 19 = .ok (.lload 4, 2) := by decide +kernel
theorem dX5_areSigns_21 : decode cX5_areSigns 21 = .ok (.ldc2_w 24, 3) := by decide +kernel
theorem dX5_areSigns_24 : decode cX5_areSigns 24 = .ok (.lcmp, 1) := by decide +kernel
theorem dX5_areSigns_25 : decode cX5_areSigns 25 = .ok (.ifCond .lt 12, 3) := by decide +kernel
theorem dX5_areSigns_28 : decode cX5_areSigns 28 = .ok (.lload 4, 2) := by decide +kernel
theorem dX5_areSigns_30 : decode cX5_areSigns 30 = .ok (.ldc2_w 26, 3) := by decide +kernel
theorem dX5_areSigns_33 : decode cX5_areSigns 33 = .ok (.lcmp, 1) := by decide +kernel
theorem dX5_areSigns_34 : decode cX5_areSigns 34 = .ok (.ifCond .le 5, 3) := by decide +kernel
theorem dX5_areSigns_37 : decode cX5_areSigns 37 = .ok (.iconst 0, 1) := by decide +kernel
theorem dX5_areSigns_38 : decode cX5_areSigns 38 = .ok (.ireturn, 1) := by decide +kernel
theorem dX5_areSigns_39 : decode cX5_areSigns 39 = .ok (.iinc 3 1, 3) := by decide +kernel
theorem dX5_areSigns_42 : decode cX5_areSigns 42 = .ok (.goto (-40), 3) := by decide +kernel
theorem dX5_areSigns_45 : decode cX5_areSigns 45 = .ok (.iconst 1, 1) := by decide +kernel
theorem dX5_areSigns_46 : decode cX5_areSigns 46 = .ok (.ireturn, 1) := by decide +kernel
theorem dX5_add_0 : decode cX5_add 0 = .ok (.iload_n 3, 1) := by decide +kernel
theorem dX5_add_1 : decode cX5_add 1 = .ok (.iconst 1, 1) := by decide +kernel
theorem dX5_add_2 : decode cX5_add 2 = .ok (.isub, 1) := by decide +kernel
theorem dX5_add_3 : decode cX5_add 3 = .ok (.istore 4, 2) := by decide +kernel
theorem dX5_add_5 : decode cX5_add 5 = .ok (.iload 4, 2) := by decide +kernel
theorem dX5_add_7 : decode cX5_add 7 = .ok (.ifCond .lt 50, 3) := by decide +kernel
theorem dX5_add_10 : decode cX5_add 10 = .ok (.aload_n 0, 1) := by decide +kernel
theorem dX5_add_11 : decode cX5_add 11 = .ok (.getfield 9, 3) := by decide +kernel
theorem dX5_add_14 : decode cX5_add 14 = .ok (.bipush 80, 2) := by decide +kernel
theorem dX5_add_16 : decode cX5_add 16 = .ok (.if_icmp .ge 41, 3) := by decide +kernel
theorem dX5_add_19 : decode cX5_add 19 = .ok (.aload_n 0, 1) := by decide +kernel
theorem dX5_add_20 : decode cX5_add 20 = .ok (.getfield 18, 3) := by decide +kernel
theorem dX5_add_23 : decode cX5_add 23 = .ok (.aload_n 0, 1) := by decide +kernel
theorem dX5_add_24 : decode cX5_add 24 = .ok (.getfield 9, 3) := by decide +kernel
theorem dX5_add_27 : decode cX5_add 27 = .ok (.lload_n 1, 1) := by decide +kernel
theorem dX5_add_28 : decode cX5_add 28 = .ok (.bipush 8, 2) := by decide +kernel
theorem dX5_add_30 : decode cX5_add 30 = .ok (.iload 4, 2) := by decide +kernel
theorem dX5_add_32 : decode cX5_add 32 = .ok (.imul, 1) := by decide +kernel
theorem dX5_add_33 : decode cX5_add 33 = .ok (.lshr, 1) := by decide +kernel
theorem dX5_add_34 : decode cX5_add 34 = .ok (.ldc2_w 22, 3) := by decide +kernel
theorem dX5_add_37 : decode cX5_add 37 = .ok (.land, 1) := by decide +kernel
theorem dX5_add_38 : decode cX5_add 38 = .ok (.l2i, 1) := by decide +kernel
theorem dX5_add_39 : decode cX5_add 39 = .ok (.i2c, 1) := by decide +kernel
theorem dX5_add_40 : decode cX5_add 40 = .ok (.castore, 1) := by decide +kernel
theorem dX5_add_41 : decode cX5_add 41 = .ok (.aload_n 0, 1) := by decide +kernel
theorem dX5_add_42 : decode cX5_add 42 = .ok (.dup, 1) := by decide +kernel
theorem dX5_add_43 : decode cX5_add 43 = .ok (.getfield 9, 3) := by decide +kernel
theorem dX5_add_46 : decode cX5_add 46 = .ok (.iconst 1, 1) := by decide +kernel
theorem dX5_add_47 : decode cX5_add 47 = .ok (.iadd, 1) := by decide +kernel
theorem dX5_add_48 : decode cX5_add 48 = .ok (.putfield 9, 3) := by decide +kernel
theorem dX5_add_51 : decode cX5_add 51 = .ok (.iinc 4 (-1), 3) := by decide +kernel
theorem dX5_add_54 : decode cX5_add 54 = .ok (.goto (-49), 3) := by decide +kernel
theorem dX5_add_57 : decode cX5_add 57 = .ok (.return_, 1) := by decide +kernel
set_option maxRecDepth 20000 in
theorem ggX5_readFolk_X0_clear : GoodIn wsX5_readFolk wsX0_clear := goodIn_r _ [7, 8, 9, 10, 11, 130, 131, 132, 133, 134] (by decide +kernel) (by decide +kernel)
set_option maxRecDepth 20000 in
theorem gX5_readFolk_X0_clear : GoodIn wsX5_readFolk (wsV RX5 28 RX0 yX0_clear wsX0_clear) := goodIn_app (goodIn_of _ (by decide +kernel)) ggX5_readFolk_X0_clear
set_option maxRecDepth 20000 in
theorem ggX5_readFolk_X5_look : GoodIn wsX5_readFolk wsX5_look := goodIn_r _ [16, 1, 17, 18, 19, 20, 21, 15, 22, 127, 128, 129] (by decide +kernel) (by decide +kernel)
set_option maxRecDepth 20000 in
theorem gX5_readFolk_X5_look : GoodIn wsX5_readFolk (wsV RX5 35 RX5 yX5_look wsX5_look) := goodIn_app (goodIn_of _ (by decide +kernel)) ggX5_readFolk_X5_look
set_option maxRecDepth 20000 in
theorem ggX5_readFolk_J0_indexOf_0f7a4 : GoodIn wsX5_readFolk wsJ0_indexOf_0f7a4 := goodIn_r _ [27, 28, 29, 30, 26, 31, 32, 33, 34, 35, 36, 37, 38, 39, 40, 41, 42, 43, 44, 45, 46, 47, 48, 49, 50, 51, 52, 53, 54, 55, 56, 57, 58, 59, 60, 61, 62, 63, 64, 65, 66, 67, 68, 69, 70, 71, 72, 73, 74, 75, 76, 77, 78, 79, 80, 81, 82, 83, 84, 85, 86, 87, 88, 89, 90, 91, 92, 93, 94, 95, 96, 97, 98, 99, 100, 101, 102, 103, 104, 105, 106, 107, 108, 109, 110, 111] (by decide +kernel) (by decide +kernel)
set_option maxRecDepth 20000 in
theorem gX5_readFolk_J0_indexOf_0f7a4 : GoodIn wsX5_readFolk (wsV RX5 39 RJ0 yJ0_indexOf_0f7a4 wsJ0_indexOf_0f7a4) := goodIn_app (goodIn_of _ (by decide +kernel)) ggX5_readFolk_J0_indexOf_0f7a4
set_option maxRecDepth 20000 in
theorem ggX5_readFolk_X5_fault : GoodIn wsX5_readFolk wsX5_fault := goodIn_r _ [114] (by decide +kernel) (by decide +kernel)
set_option maxRecDepth 20000 in
theorem gX5_readFolk_X5_fault : GoodIn wsX5_readFolk (va_wsS RX5 45 yX5_fault wsX5_fault) := goodIn_app (goodIn_of _ (by decide +kernel)) ggX5_readFolk_X5_fault
set_option maxRecDepth 20000 in
theorem ggX5_readFolk_X5_skipBlanks : GoodIn wsX5_readFolk wsX5_skipBlanks := goodIn_r _ [22, 1, 17, 18, 127, 128, 129] (by decide +kernel) (by decide +kernel)
set_option maxRecDepth 20000 in
theorem gX5_readFolk_X5_skipBlanks : GoodIn wsX5_readFolk (wsV RX5 48 RX5 yX5_skipBlanks wsX5_skipBlanks) := goodIn_app (goodIn_of _ (by decide +kernel)) ggX5_readFolk_X5_skipBlanks
set_option maxRecDepth 20000 in
theorem ggX5_readFolk_X5_readNumber : GoodIn wsX5_readFolk wsX5_readNumber := goodIn_r _ [118, 1, 17, 18, 119, 52, 53, 54, 120, 56, 57, 127, 128, 129] (by decide +kernel) (by decide +kernel)
set_option maxRecDepth 20000 in
theorem gX5_readFolk_X5_readNumber : GoodIn wsX5_readFolk (wsV RX5 51 RX5 yX5_readNumber wsX5_readNumber) := goodIn_app (goodIn_of _ (by decide +kernel)) ggX5_readFolk_X5_readNumber
set_option maxRecDepth 20000 in
theorem ggX5_readFolk_X0_add : GoodIn wsX5_readFolk wsX0_add := goodIn_r _ [124, 8, 125, 126, 130, 131, 132, 133, 134] (by decide +kernel) (by decide +kernel)
set_option maxRecDepth 20000 in
theorem gX5_readFolk_X0_add : GoodIn wsX5_readFolk (wsV RX5 55 RX0 yX0_add wsX0_add) := goodIn_app (goodIn_of _ (by decide +kernel)) ggX5_readFolk_X0_add
theorem dX5_readFolk_0 : decode cX5_readFolk 0 = .ok (.aload_n 1, 1) := by decide +kernel
theorem dX5_readFolk_1 : decode cX5_readFolk 1 = .ok (.invokevirtual 28, 3) := by decide +kernel
theorem dX5_readFolk_4 : decode cX5_readFolk 4 = .ok (.aload_n 0, 1) := by decide +kernel
theorem dX5_readFolk_5 : decode cX5_readFolk 5 = .ok (.iconst 0, 1) := by decide +kernel
theorem dX5_readFolk_6 : decode cX5_readFolk 6 = .ok (.putfield 15, 3) := by decide +kernel
theorem dX5_readFolk_9 : decode cX5_readFolk 9 = .ok (.iconst 4, 1) := by decide +kernel
theorem dX5_readFolk_10 : decode cX5_readFolk 10 = .ok (.istore_n 2, 1) := by decide +kernel
theorem dX5_readFolk_11 : decode cX5_readFolk 11 = .ok (.iload_n 2, 1) := by decide +kernel
theorem dX5_readFolk_12 : decode cX5_readFolk 12 = .ok (.ifCond .lt 128, 3) := by decide +kernel
theorem dX5_readFolk_15 : decode cX5_readFolk 15 = .ok (.ldc 33, 2) := by decide +kernel
theorem dX5_readFolk_17 : decode cX5_readFolk 17 = .ok (.aload_n 0, 1) := by decide +kernel
theorem dX5_readFolk_18 : decode cX5_readFolk 18 = .ok (.invokevirtual 35, 3) := by decide +kernel
theorem dX5_readFolk_21 : decode cX5_readFolk 21 = .ok (.invokevirtual 39, 3) := by decide +kernel
theorem dX5_readFolk_24 : decode cX5_readFolk 24 = .ok (.istore_n 3, 1) := by decide +kernel
theorem dX5_readFolk_25 : decode cX5_readFolk 25 = .ok (.iload_n 3, 1) := by decide +kernel
theorem dX5_readFolk_26 : decode cX5_readFolk 26 = .ok (.ifCond .ge 11, 3) := by decide +kernel
theorem dX5_readFolk_29 : decode cX5_readFolk 29 = .ok (.aload_n 0, 1) := by decide +kernel
theorem dX5_readFolk_30 : decode cX5_readFolk 30 = .ok (.getfield 15, 3) := by decide +kernel
theorem dX5_readFolk_33 : decode cX5_readFolk 33 = .ok (.invokestatic 45, 3) := by decide +kernel
theorem dX5_readFolk_36 : decode cX5_readFolk 36 = .ok (.ireturn, 1) := by decide +kernel
theorem dX5_readFolk_37 : decode cX5_readFolk 37 = .ok (.aload_n 0, 1) := by decide +kernel
theorem dX5_readFolk_38 : decode cX5_readFolk 38 = .ok (.dup, 1) := by decide +kernel
theorem dX5_readFolk_39 : decode cX5_readFolk 39 = .ok (.getfield 15, 3) := by decide +kernel
theorem dX5_readFolk_42 : decode cX5_readFolk 42 = .ok (.iconst 1, 1) := by decide +kernel
theorem dX5_readFolk_43 : decode cX5_readFolk 43 = .ok (.iadd, 1) := by decide +kernel
theorem dX5_readFolk_44 : decode cX5_readFolk 44 = .ok (.putfield 15, 3) := by decide +kernel
theorem dX5_readFolk_47 : decode cX5_readFolk 47 = .ok (.aload_n 0, 1) := by decide +kernel
theorem dX5_readFolk_48 : decode cX5_readFolk 48 = .ok (.invokevirtual 48, 3) := by decide +kernel
theorem dX5_readFolk_51 : decode cX5_readFolk 51 = .ok (.aload_n 0, 1) := by decide +kernel
theorem dX5_readFolk_52 : decode cX5_readFolk 52 = .ok (.getfield 15, 3) := by decide +kernel
theorem dX5_readFolk_55 : decode cX5_readFolk 55 = .ok (.istore 4, 2) := by decide +kernel
theorem dX5_readFolk_57 : decode cX5_readFolk 57 = .ok (.aload_n 0, 1) := by decide +kernel
theorem dX5_readFolk_58 : decode cX5_readFolk 58 = .ok (.invokevirtual 51, 3) := by decide +kernel
theorem dX5_readFolk_61 : decode cX5_readFolk 61 = .ok (.istore 5, 2) := by decide +kernel
theorem dX5_readFolk_63 : decode cX5_readFolk 63 = .ok (.iload 5, 2) := by decide +kernel
theorem dX5_readFolk_65 : decode cX5_readFolk 65 = .ok (.ifCond .lt 11, 3) := by decide +kernel
theorem dX5_readFolk_68 : decode cX5_readFolk 68 = .ok (.iload 5, 2) := by decide +kernel
theorem dX5_readFolk_70 : decode cX5_readFolk 70 = .ok (.sipush 9999, 3) := by decide +kernel
theorem dX5_readFolk_73 : decode cX5_readFolk 73 = .ok (.if_icmp .le 9, 3) := by decide +kernel
theorem dX5_readFolk_76 : decode cX5_readFolk 76 = .ok (.iload 4, 2) := by decide +kernel
theorem dX5_readFolk_78 : decode cX5_readFolk 78 = .ok (.invokestatic 45, 3) := by decide +kernel
theorem dX5_readFolk_81 : decode cX5_readFolk 81 = .ok (.ireturn, 1) := by decide +kernel
theorem dX5_readFolk_82 : decode cX5_readFolk 82 = .ok (.aload_n 1, 1) := by decide +kernel
theorem dX5_readFolk_83 : decode cX5_readFolk 83 = .ok (.iload_n 3, 1) := by decide +kernel
theorem dX5_readFolk_84 : decode cX5_readFolk 84 = .ok (.iload 5, 2) := by decide +kernel
theorem dX5_readFolk_86 : decode cX5_readFolk 86 = .ok (.invokevirtual 55, 3) := by decide +kernel
theorem dX5_readFolk_89 : decode cX5_readFolk 89 = .ok (.aload_n 0, 1) := by decide +kernel
theorem dX5_readFolk_90 : decode cX5_readFolk 90 = .ok (.invokevirtual 35, 3) := by decide +kernel
theorem dX5_readFolk_93 : decode cX5_readFolk 93 = .ok (.istore 6, 2) := by decide +kernel
theorem dX5_readFolk_95 : decode cX5_readFolk 95 = .ok (.iload 6, 2) := by decide +kernel
theorem dX5_readFolk_97 : decode cX5_readFolk 97 = .ok (.ifCond .ne 8, 3) := by decide +kernel
theorem dX5_readFolk_100 : decode cX5_readFolk 100 = .ok (.aload_n 1, 1) := by decide +kernel
theorem dX5_readFolk_101 : decode cX5_readFolk 101 = .ok (.getfield 59, 3) := by decide +kernel
theorem dX5_readFolk_104 : decode cX5_readFolk 104 = .ok (.ireturn, 1) := by decide +kernel
theorem dX5_readFolk_105 : decode cX5_readFolk 105 = .ok (.iload 6, 2) := by decide +kernel
theorem dX5_readFolk_107 : decode cX5_readFolk 107 = .ok (.bipush 44, 2) := by decide +kernel
theorem dX5_readFolk_109 : decode cX5_readFolk 109 = .ok (.if_icmp .ne 7, 3) := by decide +kernel
theorem dX5_readFolk_112 : decode cX5_readFolk 112 = .ok (.iload_n 2, 1) := by decide +kernel
theorem dX5_readFolk_113 : decode cX5_readFolk 113 = .ok (.ifCond .ne 11, 3) := by decide +kernel
theorem dX5_readFolk_116 : decode cX5_readFolk 116 = .ok (.aload_n 0, 1) := by decide +kernel
theorem dX5_readFolk_117 : decode cX5_readFolk 117 = .ok (.getfield 15, 3) := by decide +kernel
theorem dX5_readFolk_120 : decode cX5_readFolk 120 = .ok (.invokestatic 45, 3) := by decide +kernel
theorem dX5_readFolk_123 : decode cX5_readFolk 123 = .ok (.ireturn, 1) := by decide +kernel
theorem dX5_readFolk_124 : decode cX5_readFolk 124 = .ok (.aload_n 0, 1) := by decide +kernel
theorem dX5_readFolk_125 : decode cX5_readFolk 125 = .ok (.dup, 1) := by decide +kernel
theorem dX5_readFolk_126 : decode cX5_readFolk 126 = .ok (.getfield 15, 3) := by decide +kernel
theorem dX5_readFolk_129 : decode cX5_readFolk 129 = .ok (.iconst 1, 1) := by decide +kernel
theorem dX5_readFolk_130 : decode cX5_readFolk 130 = .ok (.iadd, 1) := by decide +kernel
theorem dX5_readFolk_131 : decode cX5_readFolk 131 = .ok (.putfield 15, 3) := by decide +kernel
theorem dX5_readFolk_134 : decode cX5_readFolk 134 = .ok (.iinc 2 (-1), 3) := by decide +kernel
theorem dX5_readFolk_137 : decode cX5_readFolk 137 = .ok (.goto (-126), 3) := by decide +kernel
theorem dX5_readFolk_140 : decode cX5_readFolk 140 = .ok (.aload_n 0, 1) := by decide +kernel
theorem dX5_readFolk_141 : decode cX5_readFolk 141 = .ok (.getfield 15, 3) := by decide +kernel
theorem dX5_readFolk_144 : decode cX5_readFolk 144 = .ok (.invokestatic 45, 3) := by decide +kernel
theorem dX5_readFolk_147 : decode cX5_readFolk 147 = .ok (.ireturn, 1) := by decide +kernel
set_option maxRecDepth 20000 in
theorem ggX5_readPlan_X2_clear : GoodIn wsX5_readPlan wsX2_clear := goodIn_r _ [8, 9, 10, 38, 39, 40, 41] (by decide +kernel) (by decide +kernel)
set_option maxRecDepth 20000 in
theorem gX5_readPlan_X2_clear : GoodIn wsX5_readPlan (wsV RX5 60 RX2 yX2_clear wsX2_clear) := goodIn_app (goodIn_of _ (by decide +kernel)) ggX5_readPlan_X2_clear
set_option maxRecDepth 20000 in
theorem ggX5_readPlan_X5_readAsking : GoodIn wsX5_readPlan wsX5_readAsking := goodIn_r _ [15, 1, 16, 17, 18, 14, 19, 20, 21, 22, 23, 24, 25, 26, 27, 28, 7, 29, 9, 30, 31, 35, 36, 37, 38, 39, 40, 41] (by decide +kernel) (by decide +kernel)
set_option maxRecDepth 20000 in
theorem gX5_readPlan_X5_readAsking : GoodIn wsX5_readPlan (wsV RX5 63 RX5 yX5_readAsking wsX5_readAsking) := goodIn_app (goodIn_of _ (by decide +kernel)) ggX5_readPlan_X5_readAsking
set_option maxRecDepth 20000 in
theorem ggX5_readPlan_X5_fault : GoodIn wsX5_readPlan wsX5_fault := goodIn_r _ [34] (by decide +kernel) (by decide +kernel)
set_option maxRecDepth 20000 in
theorem gX5_readPlan_X5_fault : GoodIn wsX5_readPlan (va_wsS RX5 45 yX5_fault wsX5_fault) := goodIn_app (goodIn_of _ (by decide +kernel)) ggX5_readPlan_X5_fault
set_option maxRecDepth 20000 in
theorem ggX5_readPlan_X5_look : GoodIn wsX5_readPlan wsX5_look := goodIn_r _ [19, 1, 20, 21, 22, 23, 24, 14, 25, 35, 36, 37] (by decide +kernel) (by decide +kernel)
set_option maxRecDepth 20000 in
theorem gX5_readPlan_X5_look : GoodIn wsX5_readPlan (wsV RX5 35 RX5 yX5_look wsX5_look) := goodIn_app (goodIn_of _ (by decide +kernel)) ggX5_readPlan_X5_look
theorem dX5_readPlan_0 : decode cX5_readPlan 0 = .ok (.aload_n 1, 1) := by decide +kernel
theorem dX5_readPlan_1 : decode cX5_readPlan 1 = .ok (.invokevirtual 60, 3) := by decide +kernel
theorem dX5_readPlan_4 : decode cX5_readPlan 4 = .ok (.aload_n 0, 1) := by decide +kernel
theorem dX5_readPlan_5 : decode cX5_readPlan 5 = .ok (.iconst 0, 1) := by decide +kernel
theorem dX5_readPlan_6 : decode cX5_readPlan 6 = .ok (.putfield 15, 3) := by decide +kernel
theorem dX5_readPlan_9 : decode cX5_readPlan 9 = .ok (.bipush 7, 2) := by decide +kernel
theorem dX5_readPlan_11 : decode cX5_readPlan 11 = .ok (.istore_n 3, 1) := by decide +kernel
theorem dX5_readPlan_12 : decode cX5_readPlan 12 = .ok (.iload_n 3, 1) := by decide +kernel
theorem dX5_readPlan_13 : decode cX5_readPlan 13 = .ok (.ifCond .lt 121, 3) := by decide +kernel
theorem dX5_readPlan_16 : decode cX5_readPlan 16 = .ok (.aload_n 0, 1) := by decide +kernel
theorem dX5_readPlan_17 : decode cX5_readPlan 17 = .ok (.aload_n 1, 1) := by decide +kernel
theorem dX5_readPlan_18 : decode cX5_readPlan 18 = .ok (.iload_n 2, 1) := by decide +kernel
theorem dX5_readPlan_19 : decode cX5_readPlan 19 = .ok (.invokevirtual 63, 3) := by decide +kernel
theorem dX5_readPlan_22 : decode cX5_readPlan 22 = .ok (.ifCond .ne 11, 3) := by decide +kernel
theorem dX5_readPlan_25 : decode cX5_readPlan 25 = .ok (.aload_n 0, 1) := by decide +kernel
theorem dX5_readPlan_26 : decode cX5_readPlan 26 = .ok (.getfield 15, 3) := by decide +kernel
theorem dX5_readPlan_29 : decode cX5_readPlan 29 = .ok (.invokestatic 45, 3) := by decide +kernel
theorem dX5_readPlan_32 : decode cX5_readPlan 32 = .ok (.ireturn, 1) := by decide +kernel
theorem dX5_readPlan_33 : decode cX5_readPlan 33 = .ok (.aload_n 0, 1) := by decide +kernel
theorem dX5_readPlan_34 : decode cX5_readPlan 34 = .ok (.invokevirtual 35, 3) := by decide +kernel
theorem dX5_readPlan_37 : decode cX5_readPlan 37 = .ok (.istore 4, 2) := by decide +kernel
theorem dX5_readPlan_39 : decode cX5_readPlan 39 = .ok (.iload 4, 2) := by decide +kernel
theorem dX5_readPlan_41 : decode cX5_readPlan 41 = .ok (.bipush 59, 2) := by decide +kernel
theorem dX5_readPlan_43 : decode cX5_readPlan 43 = .ok (.if_icmp .ne 30, 3) := by decide +kernel
theorem dX5_readPlan_46 : decode cX5_readPlan 46 = .ok (.aload_n 1, 1) := by decide +kernel
theorem dX5_readPlan_47 : decode cX5_readPlan 47 = .ok (.dup, 1) := by decide +kernel
theorem dX5_readPlan_48 : decode cX5_readPlan 48 = .ok (.getfield 67, 3) := by decide +kernel
theorem dX5_readPlan_51 : decode cX5_readPlan 51 = .ok (.iconst 1, 1) := by decide +kernel
theorem dX5_readPlan_52 : decode cX5_readPlan 52 = .ok (.aload_n 1, 1) := by decide +kernel
theorem dX5_readPlan_53 : decode cX5_readPlan 53 = .ok (.getfield 70, 3) := by decide +kernel
theorem dX5_readPlan_56 : decode cX5_readPlan 56 = .ok (.iconst 1, 1) := by decide +kernel
theorem dX5_readPlan_57 : decode cX5_readPlan 57 = .ok (.isub, 1) := by decide +kernel
theorem dX5_readPlan_58 : decode cX5_readPlan 58 = .ok (.ishl, 1) := by decide +kernel
theorem dX5_readPlan_59 : decode cX5_readPlan 59 = .ok (.ior, 1) := by decide +kernel
theorem dX5_readPlan_60 : decode cX5_readPlan 60 = .ok (.putfield 67, 3) := by decide +kernel
theorem dX5_readPlan_63 : decode cX5_readPlan 63 = .ok (.aload_n 0, 1) := by decide +kernel
theorem dX5_readPlan_64 : decode cX5_readPlan 64 = .ok (.dup, 1) := by decide +kernel
theorem dX5_readPlan_65 : decode cX5_readPlan 65 = .ok (.getfield 15, 3) := by decide +kernel
theorem dX5_readPlan_68 : decode cX5_readPlan 68 = .ok (.iconst 1, 1) := by decide +kernel
theorem dX5_readPlan_69 : decode cX5_readPlan 69 = .ok (.iadd, 1) := by decide +kernel
theorem dX5_readPlan_70 : decode cX5_readPlan 70 = .ok (.putfield 15, 3) := by decide +kernel
theorem dX5_readPlan_73 : decode cX5_readPlan 73 = .ok (.aload_n 0, 1) := by decide +kernel
theorem dX5_readPlan_74 : decode cX5_readPlan 74 = .ok (.invokevirtual 35, 3) := by decide +kernel
theorem dX5_readPlan_77 : decode cX5_readPlan 77 = .ok (.ifCond .ne 8, 3) := by decide +kernel
theorem dX5_readPlan_80 : decode cX5_readPlan 80 = .ok (.aload_n 1, 1) := by decide +kernel
theorem dX5_readPlan_81 : decode cX5_readPlan 81 = .ok (.getfield 70, 3) := by decide +kernel
theorem dX5_readPlan_84 : decode cX5_readPlan 84 = .ok (.ireturn, 1) := by decide +kernel
theorem dX5_readPlan_85 : decode cX5_readPlan 85 = .ok (.iload_n 3, 1) := by decide +kernel
theorem dX5_readPlan_86 : decode cX5_readPlan 86 = .ok (.ifCond .eq 17, 3) := by decide +kernel
theorem dX5_readPlan_89 : decode cX5_readPlan 89 = .ok (.iload 4, 2) := by decide +kernel
theorem dX5_readPlan_91 : decode cX5_readPlan 91 = .ok (.bipush 44, 2) := by decide +kernel
theorem dX5_readPlan_93 : decode cX5_readPlan 93 = .ok (.if_icmp .eq 18, 3) := by decide +kernel
theorem dX5_readPlan_96 : decode cX5_readPlan 96 = .ok (.iload 4, 2) := by decide +kernel
theorem dX5_readPlan_98 : decode cX5_readPlan 98 = .ok (.bipush 59, 2) := by decide +kernel
theorem dX5_readPlan_100 : decode cX5_readPlan 100 = .ok (.if_icmp .eq 11, 3) := by decide +kernel
theorem dX5_readPlan_103 : decode cX5_readPlan 103 = .ok (.aload_n 0, 1) := by decide +kernel
theorem dX5_readPlan_104 : decode cX5_readPlan 104 = .ok (.getfield 15, 3) := by decide +kernel
theorem dX5_readPlan_107 : decode cX5_readPlan 107 = .ok (.invokestatic 45, 3) := by decide +kernel
theorem dX5_readPlan_110 : decode cX5_readPlan 110 = .ok (.ireturn, 1) := by decide +kernel
theorem dX5_readPlan_111 : decode cX5_readPlan 111 = .ok (.iload 4, 2) := by decide +kernel
theorem dX5_readPlan_113 : decode cX5_readPlan 113 = .ok (.bipush 44, 2) := by decide +kernel
theorem dX5_readPlan_115 : decode cX5_readPlan 115 = .ok (.if_icmp .ne 13, 3) := by decide +kernel
theorem dX5_readPlan_118 : decode cX5_readPlan 118 = .ok (.aload_n 0, 1) := by decide +kernel
theorem dX5_readPlan_119 : decode cX5_readPlan 119 = .ok (.dup, 1) := by decide +kernel
theorem dX5_readPlan_120 : decode cX5_readPlan 120 = .ok (.getfield 15, 3) := by decide +kernel
theorem dX5_readPlan_123 : decode cX5_readPlan 123 = .ok (.iconst 1, 1) := by decide +kernel
theorem dX5_readPlan_124 : decode cX5_readPlan 124 = .ok (.iadd, 1) := by decide +kernel
theorem dX5_readPlan_125 : decode cX5_readPlan 125 = .ok (.putfield 15, 3) := by decide +kernel
theorem dX5_readPlan_128 : decode cX5_readPlan 128 = .ok (.iinc 3 (-1), 3) := by decide +kernel
theorem dX5_readPlan_131 : decode cX5_readPlan 131 = .ok (.goto (-119), 3) := by decide +kernel
theorem dX5_readPlan_134 : decode cX5_readPlan 134 = .ok (.aload_n 0, 1) := by decide +kernel
theorem dX5_readPlan_135 : decode cX5_readPlan 135 = .ok (.getfield 15, 3) := by decide +kernel
theorem dX5_readPlan_138 : decode cX5_readPlan 138 = .ok (.invokestatic 45, 3) := by decide +kernel
theorem dX5_readPlan_141 : decode cX5_readPlan 141 = .ok (.ireturn, 1) := by decide +kernel
set_option maxRecDepth 20000 in
theorem ggX5_readAsking_X5_look : GoodIn wsX5_readAsking wsX5_look := goodIn_r _ [6, 1, 7, 8, 9, 10, 11, 5, 12, 21, 22, 23] (by decide +kernel) (by decide +kernel)
set_option maxRecDepth 20000 in
theorem gX5_readAsking_X5_look : GoodIn wsX5_readAsking (wsV RX5 35 RX5 yX5_look wsX5_look) := goodIn_app (goodIn_of _ (by decide +kernel)) ggX5_readAsking_X5_look
set_option maxRecDepth 20000 in
theorem ggX5_readAsking_X2_add : GoodIn wsX5_readAsking wsX2_add := goodIn_r _ [17, 18, 19, 20, 24, 25, 26, 27] (by decide +kernel) (by decide +kernel)
set_option maxRecDepth 20000 in
theorem gX5_readAsking_X2_add : GoodIn wsX5_readAsking (wsV RX5 71 RX2 yX2_add wsX2_add) := goodIn_app (goodIn_of _ (by decide +kernel)) ggX5_readAsking_X2_add
theorem dX5_readAsking_0 : decode cX5_readAsking 0 = .ok (.aload_n 0, 1) := by decide +kernel
theorem dX5_readAsking_1 : decode cX5_readAsking 1 = .ok (.invokevirtual 35, 3) := by decide +kernel
theorem dX5_readAsking_4 : decode cX5_readAsking 4 = .ok (.bipush 48, 2) := by decide +kernel
theorem dX5_readAsking_6 : decode cX5_readAsking 6 = .ok (.isub, 1) := by decide +kernel
theorem dX5_readAsking_7 : decode cX5_readAsking 7 = .ok (.istore_n 3, 1) := by decide +kernel
theorem dX5_readAsking_8 : decode cX5_readAsking 8 = .ok (.iload_n 3, 1) := by decide +kernel
theorem dX5_readAsking_9 : decode cX5_readAsking 9 = .ok (.ifCond .lt 8, 3) := by decide +kernel
theorem dX5_readAsking_12 : decode cX5_readAsking 12 = .ok (.iload_n 3, 1) := by decide +kernel
theorem dX5_readAsking_13 : decode cX5_readAsking 13 = .ok (.iload_n 2, 1) := by decide +kernel
theorem dX5_readAsking_14 : decode cX5_readAsking 14 = .ok (.if_icmp .lt 5, 3) := by decide +kernel
theorem dX5_readAsking_17 : decode cX5_readAsking 17 = .ok (.iconst 0, 1) := by decide +kernel
theorem dX5_readAsking_18 : decode cX5_readAsking 18 = .ok (.ireturn, 1) := by decide +kernel
theorem dX5_readAsking_19 : decode cX5_readAsking 19 = .ok (.aload_n 0, 1) := by decide +kernel
theorem dX5_readAsking_20 : decode cX5_readAsking 20 = .ok (.dup, 1) := by decide +kernel
theorem dX5_readAsking_21 : decode cX5_readAsking 21 = .ok (.getfield 15, 3) := by decide +kernel
theorem dX5_readAsking_24 : decode cX5_readAsking 24 = .ok (.iconst 1, 1) := by decide +kernel
theorem dX5_readAsking_25 : decode cX5_readAsking 25 = .ok (.iadd, 1) := by decide +kernel
theorem dX5_readAsking_26 : decode cX5_readAsking 26 = .ok (.putfield 15, 3) := by decide +kernel
theorem dX5_readAsking_29 : decode cX5_readAsking 29 = .ok (.aload_n 0, 1) := by decide +kernel
theorem dX5_readAsking_30 : decode cX5_readAsking 30 = .ok (.invokevirtual 35, 3) := by decide +kernel
theorem dX5_readAsking_33 : decode cX5_readAsking 33 = .ok (.bipush 62, 2) := by decide +kernel
theorem dX5_readAsking_35 : decode cX5_readAsking 35 = .ok (.if_icmp .eq 5, 3) := by decide +kernel
theorem dX5_readAsking_38 : decode cX5_readAsking 38 = .ok (.iconst 0, 1) := by decide +kernel
theorem dX5_readAsking_39 : decode cX5_readAsking 39 = .ok (.ireturn, 1) := by decide +kernel
theorem dX5_readAsking_40 : decode cX5_readAsking 40 = .ok (.aload_n 0, 1) := by decide +kernel
theorem dX5_readAsking_41 : decode cX5_readAsking 41 = .ok (.dup, 1) := by decide +kernel
theorem dX5_readAsking_42 : decode cX5_readAsking 42 = .ok (.getfield 15, 3) := by decide +kernel
theorem dX5_readAsking_45 : decode cX5_readAsking 45 = .ok (.iconst 1, 1) := by decide +kernel
theorem dX5_readAsking_46 : decode cX5_readAsking 46 = .ok (.iadd, 1) := by decide +kernel
theorem dX5_readAsking_47 : decode cX5_readAsking 47 = .ok (.putfield 15, 3) := by decide +kernel
theorem dX5_readAsking_50 : decode cX5_readAsking 50 = .ok (.aload_n 0, 1) := by decide +kernel
theorem dX5_readAsking_51 : decode cX5_readAsking 51 = .ok (.invokevirtual 35, 3) := by decide +kernel
theorem dX5_readAsking_54 : decode cX5_readAsking 54 = .ok (.bipush 48, 2) := by decide +kernel
theorem dX5_readAsking_56 : decode cX5_readAsking 56 = .ok (.isub, 1) := by decide +kernel
theorem dX5_readAsking_57 : decode cX5_readAsking 57 = .ok (.istore 4, 2) := by decide +kernel
theorem dX5_readAsking_59 : decode cX5_readAsking 59 = .ok (.iload 4, 2) := by decide +kernel
theorem dX5_readAsking_61 : decode cX5_readAsking 61 = .ok (.ifCond .lt 15, 3) := by decide +kernel
theorem dX5_readAsking_64 : decode cX5_readAsking 64 = .ok (.iload 4, 2) := by decide +kernel
theorem dX5_readAsking_66 : decode cX5_readAsking 66 = .ok (.iload_n 2, 1) := by decide +kernel
theorem dX5_readAsking_67 : decode cX5_readAsking 67 = .ok (.if_icmp .ge 9, 3) := by decide +kernel
theorem dX5_readAsking_70 : decode cX5_readAsking 70 = .ok (.iload 4, 2) := by decide +kernel
theorem dX5_readAsking_72 : decode cX5_readAsking 72 = .ok (.iload_n 3, 1) := by decide +kernel
theorem dX5_readAsking_73 : decode cX5_readAsking 73 = .ok (.if_icmp .ne 5, 3) := by decide +kernel
theorem dX5_readAsking_76 : decode cX5_readAsking 76 = .ok (.iconst 0, 1) := by decide +kernel
theorem dX5_readAsking_77 : decode cX5_readAsking 77 = .ok (.ireturn, 1) := by decide +kernel
theorem dX5_readAsking_78 : decode cX5_readAsking 78 = .ok (.aload_n 0, 1) := by decide +kernel
theorem dX5_readAsking_79 : decode cX5_readAsking 79 = .ok (.dup, 1) := by decide +kernel
theorem dX5_readAsking_80 : decode cX5_readAsking 80 = .ok (.getfield 15, 3) := by decide +kernel
theorem dX5_readAsking_83 : decode cX5_readAsking 83 = .ok (.iconst 1, 1) := by decide +kernel
theorem dX5_readAsking_84 : decode cX5_readAsking 84 = .ok (.iadd, 1) := by decide +kernel
theorem dX5_readAsking_85 : decode cX5_readAsking 85 = .ok (.putfield 15, 3) := by decide +kernel
theorem dX5_readAsking_88 : decode cX5_readAsking 88 = .ok (.aload_n 1, 1) := by decide +kernel
theorem dX5_readAsking_89 : decode cX5_readAsking 89 = .ok (.iload_n 3, 1) := by decide +kernel
theorem dX5_readAsking_90 : decode cX5_readAsking 90 = .ok (.iload 4, 2) := by decide +kernel
theorem dX5_readAsking_92 : decode cX5_readAsking 92 = .ok (.invokevirtual 71, 3) := by decide +kernel
theorem dX5_readAsking_95 : decode cX5_readAsking 95 = .ok (.iconst 1, 1) := by decide +kernel
theorem dX5_readAsking_96 : decode cX5_readAsking 96 = .ok (.ireturn, 1) := by decide +kernel
set_option maxRecDepth 20000 in
theorem ggX5_look_X5_skipBlanks : GoodIn wsX5_look wsX5_skipBlanks := goodIn_r _ [8, 1, 2, 3, 9, 10, 11] (by decide +kernel) (by decide +kernel)
set_option maxRecDepth 20000 in
theorem gX5_look_X5_skipBlanks : GoodIn wsX5_look (wsV RX5 48 RX5 yX5_skipBlanks wsX5_skipBlanks) := goodIn_app (goodIn_of _ (by decide +kernel)) ggX5_look_X5_skipBlanks
theorem dX5_look_0 : decode cX5_look 0 = .ok (.aload_n 0, 1) := by decide +kernel
theorem dX5_look_1 : decode cX5_look 1 = .ok (.invokevirtual 48, 3) := by decide +kernel
theorem dX5_look_4 : decode cX5_look 4 = .ok (.aload_n 0, 1) := by decide +kernel
theorem dX5_look_5 : decode cX5_look 5 = .ok (.getfield 15, 3) := by decide +kernel
theorem dX5_look_8 : decode cX5_look 8 = .ok (.aload_n 0, 1) := by decide +kernel
theorem dX5_look_9 : decode cX5_look 9 = .ok (.getfield 9, 3) := by decide +kernel
theorem dX5_look_12 : decode cX5_look 12 = .ok (.if_icmp .ge 15, 3) := by decide +kernel
theorem dX5_look_15 : decode cX5_look 15 = .ok (.aload_n 0, 1) := by decide +kernel
theorem dX5_look_16 : decode cX5_look 16 = .ok (.getfield 18, 3) := by decide +kernel
theorem dX5_look_19 : decode cX5_look 19 = .ok (.aload_n 0, 1) := by decide +kernel
theorem dX5_look_20 : decode cX5_look 20 = .ok (.getfield 15, 3) := by decide +kernel
theorem dX5_look_23 : decode cX5_look 23 = .ok (.caload, 1) := by decide +kernel
theorem dX5_look_24 : decode cX5_look 24 = .ok (.goto 4, 3) := by decide +kernel
theorem dX5_look_27 : decode cX5_look 27 = .ok (.iconst 0, 1) := by decide +kernel
theorem dX5_look_28 : decode cX5_look 28 = .ok (.ireturn, 1) := by decide +kernel
theorem dX5_skipBlanks_0 : decode cX5_skipBlanks 0 = .ok (.aload_n 0, 1) := by decide +kernel
theorem dX5_skipBlanks_1 : decode cX5_skipBlanks 1 = .ok (.getfield 15, 3) := by decide +kernel
theorem dX5_skipBlanks_4 : decode cX5_skipBlanks 4 = .ok (.aload_n 0, 1) := by decide +kernel
theorem dX5_skipBlanks_5 : decode cX5_skipBlanks 5 = .ok (.getfield 9, 3) := by decide +kernel
theorem dX5_skipBlanks_8 : decode cX5_skipBlanks 8 = .ok (.if_icmp .ge 30, 3) := by decide +kernel
theorem dX5_skipBlanks_11 : decode cX5_skipBlanks 11 = .ok (.aload_n 0, 1) := by decide +kernel
theorem dX5_skipBlanks_12 : decode cX5_skipBlanks 12 = .ok (.getfield 18, 3) := by decide +kernel
theorem dX5_skipBlanks_15 : decode cX5_skipBlanks 15 = .ok (.aload_n 0, 1) := by decide +kernel
theorem dX5_skipBlanks_16 : decode cX5_skipBlanks 16 = .ok (.getfield 15, 3) := by decide +kernel
theorem dX5_skipBlanks_19 : decode cX5_skipBlanks 19 = .ok (.caload, 1) := by decide +kernel
theorem dX5_skipBlanks_20 : decode cX5_skipBlanks 20 = .ok (.bipush 32, 2) := by decide +kernel
theorem dX5_skipBlanks_22 : decode cX5_skipBlanks 22 = .ok (.if_icmp .ne 16, 3) := by decide +kernel
theorem dX5_skipBlanks_25 : decode cX5_skipBlanks 25 = .ok (.aload_n 0, 1) := by decide +kernel
theorem dX5_skipBlanks_26 : decode cX5_skipBlanks 26 = .ok (.dup, 1) := by decide +kernel
theorem dX5_skipBlanks_27 : decode cX5_skipBlanks 27 = .ok (.getfield 15, 3) := by decide +kernel
theorem dX5_skipBlanks_30 : decode cX5_skipBlanks 30 = .ok (.iconst 1, 1) := by decide +kernel
theorem dX5_skipBlanks_31 : decode cX5_skipBlanks 31 = .ok (.iadd, 1) := by decide +kernel
theorem dX5_skipBlanks_32 : decode cX5_skipBlanks 32 = .ok (.putfield 15, 3) := by decide +kernel
theorem dX5_skipBlanks_35 : decode cX5_skipBlanks 35 = .ok (.goto (-35), 3) := by decide +kernel
theorem dX5_skipBlanks_38 : decode cX5_skipBlanks 38 = .ok (.return_, 1) := by decide +kernel
theorem dX5_fault_0 : decode cX5_fault 0 = .ok (.bipush (-20), 2) := by decide +kernel
theorem dX5_fault_2 : decode cX5_fault 2 = .ok (.iload_n 0, 1) := by decide +kernel
theorem dX5_fault_3 : decode cX5_fault 3 = .ok (.isub, 1) := by decide +kernel
theorem dX5_fault_4 : decode cX5_fault 4 = .ok (.ireturn, 1) := by decide +kernel
set_option maxRecDepth 20000 in
theorem ggX6_init_X2_init : GoodIn wsX6_init wsX2_init := goodIn_r _ [13, 14, 2, 3, 15, 16, 17, 18, 19, 45, 46, 47, 48] (by decide +kernel) (by decide +kernel)
set_option maxRecDepth 20000 in
theorem gX6_init_X2_init_n23 : GoodIn wsX6_init (wsX2_init) := ggX6_init_X2_init
set_option maxRecDepth 20000 in
theorem ggX6_init_X0_newRow : GoodIn wsX6_init wsX0_newRow := goodIn_r _ [23, 24, 25, 26, 27, 28, 29, 22, 30, 31, 32, 33, 2, 3, 34, 35, 36, 37, 17, 38, 39, 49, 50, 51, 52, 53] (by decide +kernel) (by decide +kernel)
set_option maxRecDepth 20000 in
theorem gX6_init_X0_newRow : GoodIn wsX6_init (va_wsS RX6 28 yX0_newRow wsX0_newRow) := goodIn_app (goodIn_of _ (by decide +kernel)) ggX6_init_X0_newRow
theorem dX6_init_0 : decode cX6_init 0 = .ok (.aload_n 0, 1) := by decide +kernel
theorem dX6_init_1 : decode cX6_init 1 = .ok (.invokespecial 3, 3) := by decide +kernel
theorem dX6_init_4 : decode cX6_init 4 = .ok (.aload_n 0, 1) := by decide +kernel
theorem dX6_init_5 : decode cX6_init 5 = .ok (.iconst 0, 1) := by decide +kernel
theorem dX6_init_6 : decode cX6_init 6 = .ok (.putfield 9, 3) := by decide +kernel
theorem dX6_init_9 : decode cX6_init 9 = .ok (.aload_n 0, 1) := by decide +kernel
theorem dX6_init_10 : decode cX6_init 10 = .ok (.iconst 0, 1) := by decide +kernel
theorem dX6_init_11 : decode cX6_init 11 = .ok (.putfield 15, 3) := by decide +kernel
theorem dX6_init_14 : decode cX6_init 14 = .ok (.aload_n 0, 1) := by decide +kernel
theorem dX6_init_15 : decode cX6_init 15 = .ok (.iconst 0, 1) := by decide +kernel
theorem dX6_init_16 : decode cX6_init 16 = .ok (.putfield 18, 3) := by decide +kernel
theorem dX6_init_19 : decode cX6_init 19 = .ok (.aload_n 0, 1) := by decide +kernel
theorem dX6_init_20 : decode cX6_init 20 = .ok (.new 21, 3) := by decide +kernel
theorem dX6_init_23 : decode cX6_init 23 = .ok (.dup, 1) := by decide +kernel
theorem dX6_init_24 : decode cX6_init 24 = .ok (.invokespecial 23, 3) := by decide +kernel
theorem dX6_init_27 : decode cX6_init 27 = .ok (.putfield 24, 3) := by decide +kernel
theorem dX6_init_30 : decode cX6_init 30 = .ok (.aload_n 0, 1) := by decide +kernel
theorem dX6_init_31 : decode cX6_init 31 = .ok (.bipush 9, 2) := by decide +kernel
theorem dX6_init_33 : decode cX6_init 33 = .ok (.invokestatic 28, 3) := by decide +kernel
theorem dX6_init_36 : decode cX6_init 36 = .ok (.putfield 34, 3) := by decide +kernel
theorem dX6_init_39 : decode cX6_init 39 = .ok (.return_, 1) := by decide +kernel
set_option maxRecDepth 20000 in
theorem ggX7_init_X0_newRow : GoodIn wsX7_init wsX0_newRow := goodIn_r _ [12, 13, 14, 15, 16, 17, 18, 11, 19, 20, 21, 22, 2, 3, 23, 24, 25, 26, 5, 27, 28, 32, 33, 34, 35, 36] (by decide +kernel) (by decide +kernel)
set_option maxRecDepth 20000 in
theorem gX7_init_X0_newRow : GoodIn wsX7_init (va_wsS RX7 19 yX0_newRow wsX0_newRow) := goodIn_app (goodIn_of _ (by decide +kernel)) ggX7_init_X0_newRow
theorem dX7_init_0 : decode cX7_init 0 = .ok (.aload_n 0, 1) := by decide +kernel
theorem dX7_init_1 : decode cX7_init 1 = .ok (.invokespecial 3, 3) := by decide +kernel
theorem dX7_init_4 : decode cX7_init 4 = .ok (.aload_n 0, 1) := by decide +kernel
theorem dX7_init_5 : decode cX7_init 5 = .ok (.bipush 6, 2) := by decide +kernel
theorem dX7_init_7 : decode cX7_init 7 = .ok (.iconst 5, 1) := by decide +kernel
theorem dX7_init_8 : decode cX7_init 8 = .ok (.multianewarray 9 2, 4) := by decide +kernel
theorem dX7_init_12 : decode cX7_init 12 = .ok (.putfield 11, 3) := by decide +kernel
theorem dX7_init_15 : decode cX7_init 15 = .ok (.aload_n 0, 1) := by decide +kernel
theorem dX7_init_16 : decode cX7_init 16 = .ok (.bipush 6, 2) := by decide +kernel
theorem dX7_init_18 : decode cX7_init 18 = .ok (.iconst 5, 1) := by decide +kernel
theorem dX7_init_19 : decode cX7_init 19 = .ok (.multianewarray 9 2, 4) := by decide +kernel
theorem dX7_init_23 : decode cX7_init 23 = .ok (.putfield 16, 3) := by decide +kernel
theorem dX7_init_26 : decode cX7_init 26 = .ok (.aload_n 0, 1) := by decide +kernel
theorem dX7_init_27 : decode cX7_init 27 = .ok (.bipush 6, 2) := by decide +kernel
theorem dX7_init_29 : decode cX7_init 29 = .ok (.invokestatic 19, 3) := by decide +kernel
theorem dX7_init_32 : decode cX7_init 32 = .ok (.putfield 25, 3) := by decide +kernel
theorem dX7_init_35 : decode cX7_init 35 = .ok (.return_, 1) := by decide +kernel
set_option maxRecDepth 20000 in
theorem ggX8_init_X0_init : GoodIn wsX8_init wsX0_init := goodIn_r _ [45, 46, 2, 3, 47, 48, 49, 50, 51, 52, 53, 117, 118, 119, 120, 121] (by decide +kernel) (by decide +kernel)
set_option maxRecDepth 20000 in
theorem gX8_init_X0_init_n9 : GoodIn wsX8_init (wsX0_init) := ggX8_init_X0_init
set_option maxRecDepth 20000 in
theorem ggX8_init_X2_init : GoodIn wsX8_init wsX2_init := goodIn_r _ [55, 56, 2, 3, 57, 58, 51, 59, 60, 139, 140, 141, 142] (by decide +kernel) (by decide +kernel)
set_option maxRecDepth 20000 in
theorem gX8_init_X2_init_n18 : GoodIn wsX8_init (wsX2_init) := ggX8_init_X2_init
set_option maxRecDepth 20000 in
theorem ggX8_init_X5_init : GoodIn wsX8_init wsX5_init := goodIn_r _ [62, 63, 2, 3, 64, 65, 66, 67, 143, 144, 145] (by decide +kernel) (by decide +kernel)
set_option maxRecDepth 20000 in
theorem gX8_init_X5_init_n25 : GoodIn wsX8_init (wsX5_init) := ggX8_init_X5_init
set_option maxRecDepth 20000 in
theorem ggX8_init_X6_init : GoodIn wsX8_init wsX6_init := goodIn_r _ [69, 70, 2, 3, 71, 72, 73, 74, 9, 10, 75, 76, 54, 55, 56, 57, 58, 51, 59, 60, 77, 78, 6, 79, 80, 81, 82, 83, 84, 5, 85, 44, 45, 46, 47, 48, 49, 50, 52, 53, 146, 147, 148, 149, 150, 139, 140, 141, 142, 117, 118, 119, 120, 121] (by decide +kernel) (by decide +kernel)
set_option maxRecDepth 20000 in
theorem gX8_init_X6_init_n58 : GoodIn wsX8_init (wsX6_init) := ggX8_init_X6_init
set_option maxRecDepth 20000 in
theorem ggX8_init_X7_init : GoodIn wsX8_init wsX7_init := goodIn_r _ [87, 88, 2, 3, 89, 51, 90, 91, 92, 93, 78, 6, 79, 80, 81, 82, 83, 84, 5, 85, 44, 45, 46, 47, 48, 49, 50, 52, 53, 151, 152, 153, 117, 118, 119, 120, 121] (by decide +kernel) (by decide +kernel)
set_option maxRecDepth 20000 in
theorem gX8_init_X7_init_n65 : GoodIn wsX8_init (wsX7_init) := ggX8_init_X7_init
set_option maxRecDepth 20000 in
theorem ggX8_init_X1_init : GoodIn wsX8_init wsX1_init := goodIn_r _ [95, 96, 2, 3, 97, 98, 51, 99, 100, 101, 102, 103, 9, 10, 104, 105, 54, 55, 56, 57, 58, 59, 60, 106, 78, 6, 79, 80, 81, 82, 83, 84, 5, 85, 44, 45, 46, 47, 48, 49, 50, 52, 53, 154, 155, 156, 157, 158, 159, 160, 161, 139, 140, 141, 142, 117, 118, 119, 120, 121] (by decide +kernel) (by decide +kernel)
set_option maxRecDepth 20000 in
theorem gX8_init_X1_init_n72 : GoodIn wsX8_init (wsX1_init) := ggX8_init_X1_init
set_option maxRecDepth 20000 in
theorem ggX8_init_X3_init : GoodIn wsX8_init wsX3_init := goodIn_r _ [108, 109, 2, 3, 110, 51, 111, 112, 113, 114, 115, 116, 78, 6, 79, 80, 81, 82, 83, 84, 5, 85, 44, 45, 46, 47, 48, 49, 50, 52, 53, 162, 163, 164, 165, 166, 167, 117, 118, 119, 120, 121] (by decide +kernel) (by decide +kernel)
set_option maxRecDepth 20000 in
theorem gX8_init_X3_init_n79 : GoodIn wsX8_init (wsX3_init) := ggX8_init_X3_init
theorem dX8_init_0 : decode cX8_init 0 = .ok (.aload_n 0, 1) := by decide +kernel
theorem dX8_init_1 : decode cX8_init 1 = .ok (.invokespecial 1, 3) := by decide +kernel
theorem dX8_init_4 : decode cX8_init 4 = .ok (.aload_n 0, 1) := by decide +kernel
theorem dX8_init_5 : decode cX8_init 5 = .ok (.new 7, 3) := by decide +kernel
theorem dX8_init_8 : decode cX8_init 8 = .ok (.dup, 1) := by decide +kernel
theorem dX8_init_9 : decode cX8_init 9 = .ok (.invokespecial 9, 3) := by decide +kernel
theorem dX8_init_12 : decode cX8_init 12 = .ok (.putfield 10, 3) := by decide +kernel
theorem dX8_init_15 : decode cX8_init 15 = .ok (.aload_n 0, 1) := by decide +kernel
theorem dX8_init_16 : decode cX8_init 16 = .ok (.new 16, 3) := by decide +kernel
theorem dX8_init_19 : decode cX8_init 19 = .ok (.dup, 1) := by decide +kernel
theorem dX8_init_20 : decode cX8_init 20 = .ok (.invokespecial 18, 3) := by decide +kernel
theorem dX8_init_23 : decode cX8_init 23 = .ok (.putfield 19, 3) := by decide +kernel
theorem dX8_init_26 : decode cX8_init 26 = .ok (.aload_n 0, 1) := by decide +kernel
theorem dX8_init_27 : decode cX8_init 27 = .ok (.new 23, 3) := by decide +kernel
theorem dX8_init_30 : decode cX8_init 30 = .ok (.dup, 1) := by decide +kernel
theorem dX8_init_31 : decode cX8_init 31 = .ok (.invokespecial 25, 3) := by decide +kernel
theorem dX8_init_34 : decode cX8_init 34 = .ok (.putfield 26, 3) := by decide +kernel
theorem dX8_init_37 : decode cX8_init 37 = .ok (.aload_n 0, 1) := by decide +kernel
theorem dX8_init_38 : decode cX8_init 38 = .ok (.new 7, 3) := by decide +kernel
theorem dX8_init_41 : decode cX8_init 41 = .ok (.dup, 1) := by decide +kernel
theorem dX8_init_42 : decode cX8_init 42 = .ok (.invokespecial 9, 3) := by decide +kernel
theorem dX8_init_45 : decode cX8_init 45 = .ok (.putfield 30, 3) := by decide +kernel
theorem dX8_init_48 : decode cX8_init 48 = .ok (.aload_n 0, 1) := by decide +kernel
theorem dX8_init_49 : decode cX8_init 49 = .ok (.new 16, 3) := by decide +kernel
theorem dX8_init_52 : decode cX8_init 52 = .ok (.dup, 1) := by decide +kernel
theorem dX8_init_53 : decode cX8_init 53 = .ok (.invokespecial 18, 3) := by decide +kernel
theorem dX8_init_56 : decode cX8_init 56 = .ok (.putfield 33, 3) := by decide +kernel
theorem dX8_init_59 : decode cX8_init 59 = .ok (.aload_n 0, 1) := by decide +kernel
theorem dX8_init_60 : decode cX8_init 60 = .ok (.iconst 0, 1) := by decide +kernel
theorem dX8_init_61 : decode cX8_init 61 = .ok (.putfield 36, 3) := by decide +kernel
theorem dX8_init_64 : decode cX8_init 64 = .ok (.aload_n 0, 1) := by decide +kernel
theorem dX8_init_65 : decode cX8_init 65 = .ok (.iconst 4, 1) := by decide +kernel
theorem dX8_init_66 : decode cX8_init 66 = .ok (.anewarray 40, 3) := by decide +kernel
theorem dX8_init_69 : decode cX8_init 69 = .ok (.putfield 42, 3) := by decide +kernel
theorem dX8_init_72 : decode cX8_init 72 = .ok (.aload_n 0, 1) := by decide +kernel
theorem dX8_init_73 : decode cX8_init 73 = .ok (.new 7, 3) := by decide +kernel
theorem dX8_init_76 : decode cX8_init 76 = .ok (.dup, 1) := by decide +kernel
theorem dX8_init_77 : decode cX8_init 77 = .ok (.invokespecial 9, 3) := by decide +kernel
theorem dX8_init_80 : decode cX8_init 80 = .ok (.putfield 46, 3) := by decide +kernel
theorem dX8_init_83 : decode cX8_init 83 = .ok (.aload_n 0, 1) := by decide +kernel
theorem dX8_init_84 : decode cX8_init 84 = .ok (.new 16, 3) := by decide +kernel
theorem dX8_init_87 : decode cX8_init 87 = .ok (.dup, 1) := by decide +kernel
theorem dX8_init_88 : decode cX8_init 88 = .ok (.invokespecial 18, 3) := by decide +kernel
theorem dX8_init_91 : decode cX8_init 91 = .ok (.putfield 49, 3) := by decide +kernel
theorem dX8_init_94 : decode cX8_init 94 = .ok (.aload_n 0, 1) := by decide +kernel
theorem dX8_init_95 : decode cX8_init 95 = .ok (.iconst 5, 1) := by decide +kernel
theorem dX8_init_96 : decode cX8_init 96 = .ok (.newarray .long, 2) := by decide +kernel
theorem dX8_init_98 : decode cX8_init 98 = .ok (.putfield 52, 3) := by decide +kernel
theorem dX8_init_101 : decode cX8_init 101 = .ok (.aload_n 0, 1) := by decide +kernel
theorem dX8_init_102 : decode cX8_init 102 = .ok (.new 56, 3) := by decide +kernel
theorem dX8_init_105 : decode cX8_init 105 = .ok (.dup, 1) := by decide +kernel
theorem dX8_init_106 : decode cX8_init 106 = .ok (.invokespecial 58, 3) := by decide +kernel
theorem dX8_init_109 : decode cX8_init 109 = .ok (.putfield 59, 3) := by decide +kernel
theorem dX8_init_112 : decode cX8_init 112 = .ok (.aload_n 0, 1) := by decide +kernel
theorem dX8_init_113 : decode cX8_init 113 = .ok (.new 63, 3) := by decide +kernel
theorem dX8_init_116 : decode cX8_init 116 = .ok (.dup, 1) := by decide +kernel
theorem dX8_init_117 : decode cX8_init 117 = .ok (.invokespecial 65, 3) := by decide +kernel
theorem dX8_init_120 : decode cX8_init 120 = .ok (.putfield 66, 3) := by decide +kernel
theorem dX8_init_123 : decode cX8_init 123 = .ok (.aload_n 0, 1) := by decide +kernel
theorem dX8_init_124 : decode cX8_init 124 = .ok (.new 70, 3) := by decide +kernel
theorem dX8_init_127 : decode cX8_init 127 = .ok (.dup, 1) := by decide +kernel
theorem dX8_init_128 : decode cX8_init 128 = .ok (.invokespecial 72, 3) := by decide +kernel
theorem dX8_init_131 : decode cX8_init 131 = .ok (.putfield 73, 3) := by decide +kernel
theorem dX8_init_134 : decode cX8_init 134 = .ok (.aload_n 0, 1) := by decide +kernel
theorem dX8_init_135 : decode cX8_init 135 = .ok (.new 77, 3) := by decide +kernel
theorem dX8_init_138 : decode cX8_init 138 = .ok (.dup, 1) := by decide +kernel
theorem dX8_init_139 : decode cX8_init 139 = .ok (.invokespecial 79, 3) := by decide +kernel
theorem dX8_init_142 : decode cX8_init 142 = .ok (.putfield 80, 3) := by decide +kernel
theorem dX8_init_145 : decode cX8_init 145 = .ok (.aload_n 0, 1) := by decide +kernel
theorem dX8_init_146 : decode cX8_init 146 = .ok (.bipush 9, 2) := by decide +kernel
theorem dX8_init_148 : decode cX8_init 148 = .ok (.putfield 84, 3) := by decide +kernel
theorem dX8_init_151 : decode cX8_init 151 = .ok (.aload_n 0, 1) := by decide +kernel
theorem dX8_init_152 : decode cX8_init 152 = .ok (.iconst 0, 1) := by decide +kernel
theorem dX8_init_153 : decode cX8_init 153 = .ok (.putfield 88, 3) := by decide +kernel
theorem dX8_init_156 : decode cX8_init 156 = .ok (.aload_n 0, 1) := by decide +kernel
theorem dX8_init_157 : decode cX8_init 157 = .ok (.iconst 0, 1) := by decide +kernel
theorem dX8_init_158 : decode cX8_init 158 = .ok (.putfield 91, 3) := by decide +kernel
theorem dX8_init_161 : decode cX8_init 161 = .ok (.return_, 1) := by decide +kernel
set_option maxRecDepth 20000 in
theorem ggX8_person_X8_isSum : GoodIn wsX8_person wsX8_isSum := goodIn_r _ [6] (by decide +kernel) (by decide +kernel)
set_option maxRecDepth 20000 in
theorem gX8_person_X8_isSum : GoodIn wsX8_person (va_wsS RX8 94 yX8_isSum wsX8_isSum) := goodIn_app (goodIn_of _ (by decide +kernel)) ggX8_person_X8_isSum
set_option maxRecDepth 20000 in
theorem ggX8_person_X8_forgetFound : GoodIn wsX8_person wsX8_forgetFound := goodIn_r _ [10, 11, 12, 13, 22, 23, 24, 25, 26, 27, 28, 29, 30, 31, 32, 33, 34, 35, 36, 37, 38] (by decide +kernel) (by decide +kernel)
set_option maxRecDepth 20000 in
theorem gX8_person_X8_forgetFound : GoodIn wsX8_person (wsV RX8 101 RX8 yX8_forgetFound wsX8_forgetFound) := goodIn_app (goodIn_of _ (by decide +kernel)) ggX8_person_X8_forgetFound
set_option maxRecDepth 20000 in
theorem ggX8_person_X0_add : GoodIn wsX8_person wsX0_add := goodIn_r _ [18, 19, 20, 21, 39, 40, 41, 42, 43] (by decide +kernel) (by decide +kernel)
set_option maxRecDepth 20000 in
theorem gX8_person_X0_add : GoodIn wsX8_person (wsV RX8 104 RX0 yX0_add wsX0_add) := goodIn_app (goodIn_of _ (by decide +kernel)) ggX8_person_X0_add
theorem dX8_person_0 : decode cX8_person 0 = .ok (.iload_n 1, 1) := by decide +kernel
theorem dX8_person_1 : decode cX8_person 1 = .ok (.ifCond .lt 15, 3) := by decide +kernel
theorem dX8_person_4 : decode cX8_person 4 = .ok (.iload_n 1, 1) := by decide +kernel
theorem dX8_person_5 : decode cX8_person 5 = .ok (.iconst 3, 1) := by decide +kernel
theorem dX8_person_6 : decode cX8_person 6 = .ok (.if_icmp .gt 10, 3) := by decide +kernel
theorem dX8_person_9 : decode cX8_person 9 = .ok (.iload_n 2, 1) := by decide +kernel
theorem dX8_person_10 : decode cX8_person 10 = .ok (.invokestatic 94, 3) := by decide +kernel
theorem dX8_person_13 : decode cX8_person 13 = .ok (.ifCond .ne 5, 3) := by decide +kernel
theorem dX8_person_16 : decode cX8_person 16 = .ok (.iconst (-1), 1) := by decide +kernel
theorem dX8_person_17 : decode cX8_person 17 = .ok (.ireturn, 1) := by decide +kernel
theorem dX8_person_18 : decode cX8_person 18 = .ok (.aload_n 0, 1) := by decide +kernel
theorem dX8_person_19 : decode cX8_person 19 = .ok (.getfield 10, 3) := by decide +kernel
theorem dX8_person_22 : decode cX8_person 22 = .ok (.getfield 98, 3) := by decide +kernel
theorem dX8_person_25 : decode cX8_person 25 = .ok (.iconst 5, 1) := by decide +kernel
theorem dX8_person_26 : decode cX8_person 26 = .ok (.if_icmp .lt 6, 3) := by decide +kernel
theorem dX8_person_29 : decode cX8_person 29 = .ok (.bipush (-3), 2) := by decide +kernel
theorem dX8_person_31 : decode cX8_person 31 = .ok (.ireturn, 1) := by decide +kernel
theorem dX8_person_32 : decode cX8_person 32 = .ok (.aload_n 0, 1) := by decide +kernel
theorem dX8_person_33 : decode cX8_person 33 = .ok (.invokevirtual 101, 3) := by decide +kernel
theorem dX8_person_36 : decode cX8_person 36 = .ok (.aload_n 0, 1) := by decide +kernel
theorem dX8_person_37 : decode cX8_person 37 = .ok (.getfield 10, 3) := by decide +kernel
theorem dX8_person_40 : decode cX8_person 40 = .ok (.iload_n 1, 1) := by decide +kernel
theorem dX8_person_41 : decode cX8_person 41 = .ok (.iload_n 2, 1) := by decide +kernel
theorem dX8_person_42 : decode cX8_person 42 = .ok (.invokevirtual 104, 3) := by decide +kernel
theorem dX8_person_45 : decode cX8_person 45 = .ok (.aload_n 0, 1) := by decide +kernel
theorem dX8_person_46 : decode cX8_person 46 = .ok (.getfield 10, 3) := by decide +kernel
theorem dX8_person_49 : decode cX8_person 49 = .ok (.getfield 98, 3) := by decide +kernel
theorem dX8_person_52 : decode cX8_person 52 = .ok (.iconst 1, 1) := by decide +kernel
theorem dX8_person_53 : decode cX8_person 53 = .ok (.isub, 1) := by decide +kernel
theorem dX8_person_54 : decode cX8_person 54 = .ok (.ireturn, 1) := by decide +kernel
set_option maxRecDepth 20000 in
theorem ggX8_set_X0_has : GoodIn wsX8_set wsX0_has := goodIn_r _ [7, 8, 37, 38, 39, 40, 41] (by decide +kernel) (by decide +kernel)
set_option maxRecDepth 20000 in
theorem gX8_set_X0_has : GoodIn wsX8_set (wsV RX8 108 RX0 yX0_has wsX0_has) := goodIn_app (goodIn_of _ (by decide +kernel)) ggX8_set_X0_has
set_option maxRecDepth 20000 in
theorem ggX8_set_X8_isSum : GoodIn wsX8_set wsX8_isSum := goodIn_r _ [12] (by decide +kernel) (by decide +kernel)
set_option maxRecDepth 20000 in
theorem gX8_set_X8_isSum : GoodIn wsX8_set (va_wsS RX8 94 yX8_isSum wsX8_isSum) := goodIn_app (goodIn_of _ (by decide +kernel)) ggX8_set_X8_isSum
set_option maxRecDepth 20000 in
theorem ggX8_set_X8_forgetFound : GoodIn wsX8_set wsX8_forgetFound := goodIn_r _ [16, 17, 18, 19, 20, 21, 22, 23, 24, 25, 26, 27, 28, 29, 30, 31, 32, 33, 34, 35, 36] (by decide +kernel) (by decide +kernel)
set_option maxRecDepth 20000 in
theorem gX8_set_X8_forgetFound : GoodIn wsX8_set (wsV RX8 101 RX8 yX8_forgetFound wsX8_forgetFound) := goodIn_app (goodIn_of _ (by decide +kernel)) ggX8_set_X8_forgetFound
theorem dX8_set_0 : decode cX8_set 0 = .ok (.aload_n 0, 1) := by decide +kernel
theorem dX8_set_1 : decode cX8_set 1 = .ok (.getfield 10, 3) := by decide +kernel
theorem dX8_set_4 : decode cX8_set 4 = .ok (.iload_n 1, 1) := by decide +kernel
theorem dX8_set_5 : decode cX8_set 5 = .ok (.invokevirtual 108, 3) := by decide +kernel
theorem dX8_set_8 : decode cX8_set 8 = .ok (.ifCond .eq 10, 3) := by decide +kernel
theorem dX8_set_11 : decode cX8_set 11 = .ok (.iload_n 2, 1) := by decide +kernel
theorem dX8_set_12 : decode cX8_set 12 = .ok (.invokestatic 94, 3) := by decide +kernel
theorem dX8_set_15 : decode cX8_set 15 = .ok (.ifCond .ne 5, 3) := by decide +kernel
theorem dX8_set_18 : decode cX8_set 18 = .ok (.iconst (-1), 1) := by decide +kernel
theorem dX8_set_19 : decode cX8_set 19 = .ok (.ireturn, 1) := by decide +kernel
theorem dX8_set_20 : decode cX8_set 20 = .ok (.aload_n 0, 1) := by decide +kernel
theorem dX8_set_21 : decode cX8_set 21 = .ok (.invokevirtual 101, 3) := by decide +kernel
theorem dX8_set_24 : decode cX8_set 24 = .ok (.aload_n 0, 1) := by decide +kernel
theorem dX8_set_25 : decode cX8_set 25 = .ok (.getfield 10, 3) := by decide +kernel
theorem dX8_set_28 : decode cX8_set 28 = .ok (.getfield 111, 3) := by decide +kernel
theorem dX8_set_31 : decode cX8_set 31 = .ok (.iload_n 1, 1) := by decide +kernel
theorem dX8_set_32 : decode cX8_set 32 = .ok (.iaload, 1) := by decide +kernel
theorem dX8_set_33 : decode cX8_set 33 = .ok (.istore_n 3, 1) := by decide +kernel
theorem dX8_set_34 : decode cX8_set 34 = .ok (.aload_n 0, 1) := by decide +kernel
theorem dX8_set_35 : decode cX8_set 35 = .ok (.getfield 10, 3) := by decide +kernel
theorem dX8_set_38 : decode cX8_set 38 = .ok (.getfield 111, 3) := by decide +kernel
theorem dX8_set_41 : decode cX8_set 41 = .ok (.iload_n 1, 1) := by decide +kernel
theorem dX8_set_42 : decode cX8_set 42 = .ok (.iload_n 2, 1) := by decide +kernel
theorem dX8_set_43 : decode cX8_set 43 = .ok (.iastore, 1) := by decide +kernel
theorem dX8_set_44 : decode cX8_set 44 = .ok (.iload_n 3, 1) := by decide +kernel
theorem dX8_set_45 : decode cX8_set 45 = .ok (.ireturn, 1) := by decide +kernel
set_option maxRecDepth 20000 in
theorem ggX8_told_X0_has : GoodIn wsX8_told wsX0_has := goodIn_r _ [10, 11, 39, 40, 41, 42, 43] (by decide +kernel) (by decide +kernel)
set_option maxRecDepth 20000 in
theorem gX8_told_X0_has : GoodIn wsX8_told (wsV RX8 108 RX0 yX0_has wsX0_has) := goodIn_app (goodIn_of _ (by decide +kernel)) ggX8_told_X0_has
set_option maxRecDepth 20000 in
theorem ggX8_told_X0_gives : GoodIn wsX8_told wsX0_gives := goodIn_r _ [15, 16, 17, 39, 40, 41, 42, 43] (by decide +kernel) (by decide +kernel)
set_option maxRecDepth 20000 in
theorem gX8_told_X0_gives : GoodIn wsX8_told (wsV RX8 118 RX0 yX0_gives wsX0_gives) := goodIn_app (goodIn_of _ (by decide +kernel)) ggX8_told_X0_gives
set_option maxRecDepth 20000 in
theorem ggX8_told_X0_others : GoodIn wsX8_told wsX0_others := goodIn_r _ [21, 11, 39, 40, 41, 42, 43] (by decide +kernel) (by decide +kernel)
set_option maxRecDepth 20000 in
theorem gX8_told_X0_others : GoodIn wsX8_told (wsV RX8 125 RX0 yX0_others wsX0_others) := goodIn_app (goodIn_of _ (by decide +kernel)) ggX8_told_X0_others
theorem dX8_told_0 : decode cX8_told 0 = .ok (.aload_n 0, 1) := by decide +kernel
theorem dX8_told_1 : decode cX8_told 1 = .ok (.getfield 10, 3) := by decide +kernel
theorem dX8_told_4 : decode cX8_told 4 = .ok (.iload_n 1, 1) := by decide +kernel
theorem dX8_told_5 : decode cX8_told 5 = .ok (.invokevirtual 108, 3) := by decide +kernel
theorem dX8_told_8 : decode cX8_told 8 = .ok (.ifCond .ne 5, 3) := by decide +kernel
theorem dX8_told_11 : decode cX8_told 11 = .ok (.iconst (-1), 1) := by decide +kernel
theorem dX8_told_12 : decode cX8_told 12 = .ok (.ireturn, 1) := by decide +kernel
theorem dX8_told_13 : decode cX8_told 13 = .ok (.iload_n 2, 1) := by decide +kernel
theorem dX8_told_14 : decode cX8_told 14 = .ok (.tableswitch 95 0 4 #[34, 44, 54, 63, 79], 34) := by decide +kernel
theorem dX8_told_48 : decode cX8_told 48 = .ok (.aload_n 0, 1) := by decide +kernel
theorem dX8_told_49 : decode cX8_told 49 = .ok (.getfield 10, 3) := by decide +kernel
end
section
theorem dX8_told_52 : decode cX8_told 52 = .ok (.getfield 115, 3) := by decide +kernel
theorem dX8_told_55 : decode cX8_told 55 = .ok (.iload_n 1, 1) := by decide +kernel
theorem dX8_told_56 : decode cX8_told 56 = .ok (.iaload, 1) := by decide +kernel
theorem dX8_told_57 : decode cX8_told 57 = .ok (.ireturn, 1) := by decide +kernel
theorem dX8_told_58 : decode cX8_told 58 = .ok (.aload_n 0, 1) := by decide +kernel
theorem dX8_told_59 : decode cX8_told 59 = .ok (.getfield 10, 3) := by decide +kernel
theorem dX8_told_62 : decode cX8_told 62 = .ok (.getfield 111, 3) := by decide +kernel
theorem dX8_told_65 : decode cX8_told 65 = .ok (.iload_n 1, 1) := by decide +kernel
theorem dX8_told_66 : decode cX8_told 66 = .ok (.iaload, 1) := by decide +kernel
theorem dX8_told_67 : decode cX8_told 67 = .ok (.ireturn, 1) := by decide +kernel
theorem dX8_told_68 : decode cX8_told 68 = .ok (.aload_n 0, 1) := by decide +kernel
theorem dX8_told_69 : decode cX8_told 69 = .ok (.getfield 10, 3) := by decide +kernel
theorem dX8_told_72 : decode cX8_told 72 = .ok (.iload_n 1, 1) := by decide +kernel
theorem dX8_told_73 : decode cX8_told 73 = .ok (.invokevirtual 118, 3) := by decide +kernel
theorem dX8_told_76 : decode cX8_told 76 = .ok (.ireturn, 1) := by decide +kernel
theorem dX8_told_77 : decode cX8_told 77 = .ok (.aload_n 0, 1) := by decide +kernel
theorem dX8_told_78 : decode cX8_told 78 = .ok (.getfield 10, 3) := by decide +kernel
theorem dX8_told_81 : decode cX8_told 81 = .ok (.aload_n 0, 1) := by decide +kernel
theorem dX8_told_82 : decode cX8_told 82 = .ok (.getfield 10, 3) := by decide +kernel
theorem dX8_told_85 : decode cX8_told 85 = .ok (.getfield 122, 3) := by decide +kernel
theorem dX8_told_88 : decode cX8_told 88 = .ok (.iload_n 1, 1) := by decide +kernel
theorem dX8_told_89 : decode cX8_told 89 = .ok (.invokevirtual 125, 3) := by decide +kernel
theorem dX8_told_92 : decode cX8_told 92 = .ok (.ireturn, 1) := by decide +kernel
theorem dX8_told_93 : decode cX8_told 93 = .ok (.aload_n 0, 1) := by decide +kernel
theorem dX8_told_94 : decode cX8_told 94 = .ok (.getfield 10, 3) := by decide +kernel
theorem dX8_told_97 : decode cX8_told 97 = .ok (.aload_n 0, 1) := by decide +kernel
theorem dX8_told_98 : decode cX8_told 98 = .ok (.getfield 10, 3) := by decide +kernel
theorem dX8_told_101 : decode cX8_told 101 = .ok (.getfield 129, 3) := by decide +kernel
theorem dX8_told_104 : decode cX8_told 104 = .ok (.iload_n 1, 1) := by decide +kernel
theorem dX8_told_105 : decode cX8_told 105 = .ok (.invokevirtual 125, 3) := by decide +kernel
theorem dX8_told_108 : decode cX8_told 108 = .ok (.ireturn, 1) := by decide +kernel
theorem dX8_told_109 : decode cX8_told 109 = .ok (.iconst (-1), 1) := by decide +kernel
theorem dX8_told_110 : decode cX8_told 110 = .ok (.ireturn, 1) := by decide +kernel
set_option maxRecDepth 20000 in
theorem ggX8_knows_X0_isPair : GoodIn wsX8_knows wsX0_isPair := goodIn_r _ [7, 8, 9, 10, 6, 11, 12, 41, 42, 43, 44, 45] (by decide +kernel) (by decide +kernel)
set_option maxRecDepth 20000 in
theorem gX8_knows_X0_isPair : GoodIn wsX8_knows (wsV RX8 132 RX0 yX0_isPair wsX0_isPair) := goodIn_app (goodIn_of _ (by decide +kernel)) ggX8_knows_X0_isPair
set_option maxRecDepth 20000 in
theorem ggX8_knows_X8_forgetFound : GoodIn wsX8_knows wsX8_forgetFound := goodIn_r _ [17, 18, 19, 20, 24, 25, 26, 27, 28, 29, 30, 31, 32, 33, 34, 35, 36, 37, 38, 39, 40] (by decide +kernel) (by decide +kernel)
set_option maxRecDepth 20000 in
theorem gX8_knows_X8_forgetFound : GoodIn wsX8_knows (wsV RX8 101 RX8 yX8_forgetFound wsX8_forgetFound) := goodIn_app (goodIn_of _ (by decide +kernel)) ggX8_knows_X8_forgetFound
set_option maxRecDepth 20000 in
theorem ggX8_knows_X0_pair : GoodIn wsX8_knows wsX0_pair := goodIn_r _ [23] (by decide +kernel) (by decide +kernel)
set_option maxRecDepth 20000 in
theorem gX8_knows_X0_pair : GoodIn wsX8_knows (va_wsS RX8 136 yX0_pair wsX0_pair) := goodIn_app (goodIn_of _ (by decide +kernel)) ggX8_knows_X0_pair
theorem dX8_knows_0 : decode cX8_knows 0 = .ok (.aload_n 0, 1) := by decide +kernel
theorem dX8_knows_1 : decode cX8_knows 1 = .ok (.getfield 10, 3) := by decide +kernel
theorem dX8_knows_4 : decode cX8_knows 4 = .ok (.iload_n 1, 1) := by decide +kernel
theorem dX8_knows_5 : decode cX8_knows 5 = .ok (.iload_n 2, 1) := by decide +kernel
theorem dX8_knows_6 : decode cX8_knows 6 = .ok (.invokevirtual 132, 3) := by decide +kernel
theorem dX8_knows_9 : decode cX8_knows 9 = .ok (.ifCond .ne 5, 3) := by decide +kernel
theorem dX8_knows_12 : decode cX8_knows 12 = .ok (.iconst (-1), 1) := by decide +kernel
theorem dX8_knows_13 : decode cX8_knows 13 = .ok (.ireturn, 1) := by decide +kernel
theorem dX8_knows_14 : decode cX8_knows 14 = .ok (.aload_n 0, 1) := by decide +kernel
theorem dX8_knows_15 : decode cX8_knows 15 = .ok (.invokevirtual 101, 3) := by decide +kernel
theorem dX8_knows_18 : decode cX8_knows 18 = .ok (.iload_n 1, 1) := by decide +kernel
theorem dX8_knows_19 : decode cX8_knows 19 = .ok (.iload_n 2, 1) := by decide +kernel
theorem dX8_knows_20 : decode cX8_knows 20 = .ok (.invokestatic 136, 3) := by decide +kernel
theorem dX8_knows_23 : decode cX8_knows 23 = .ok (.istore 4, 2) := by decide +kernel
theorem dX8_knows_25 : decode cX8_knows 25 = .ok (.aload_n 0, 1) := by decide +kernel
theorem dX8_knows_26 : decode cX8_knows 26 = .ok (.getfield 10, 3) := by decide +kernel
theorem dX8_knows_29 : decode cX8_knows 29 = .ok (.getfield 122, 3) := by decide +kernel
theorem dX8_knows_32 : decode cX8_knows 32 = .ok (.iload 4, 2) := by decide +kernel
theorem dX8_knows_34 : decode cX8_knows 34 = .ok (.iand, 1) := by decide +kernel
theorem dX8_knows_35 : decode cX8_knows 35 = .ok (.ifCond .eq 7, 3) := by decide +kernel
theorem dX8_knows_38 : decode cX8_knows 38 = .ok (.iconst 1, 1) := by decide +kernel
theorem dX8_knows_39 : decode cX8_knows 39 = .ok (.goto 4, 3) := by decide +kernel
theorem dX8_knows_42 : decode cX8_knows 42 = .ok (.iconst 0, 1) := by decide +kernel
theorem dX8_knows_43 : decode cX8_knows 43 = .ok (.istore 5, 2) := by decide +kernel
theorem dX8_knows_45 : decode cX8_knows 45 = .ok (.aload_n 0, 1) := by decide +kernel
theorem dX8_knows_46 : decode cX8_knows 46 = .ok (.getfield 10, 3) := by decide +kernel
theorem dX8_knows_49 : decode cX8_knows 49 = .ok (.iload_n 3, 1) := by decide +kernel
theorem dX8_knows_50 : decode cX8_knows 50 = .ok (.ifCond .eq 16, 3) := by decide +kernel
theorem dX8_knows_53 : decode cX8_knows 53 = .ok (.aload_n 0, 1) := by decide +kernel
theorem dX8_knows_54 : decode cX8_knows 54 = .ok (.getfield 10, 3) := by decide +kernel
theorem dX8_knows_57 : decode cX8_knows 57 = .ok (.getfield 122, 3) := by decide +kernel
theorem dX8_knows_60 : decode cX8_knows 60 = .ok (.iload 4, 2) := by decide +kernel
theorem dX8_knows_62 : decode cX8_knows 62 = .ok (.ior, 1) := by decide +kernel
theorem dX8_knows_63 : decode cX8_knows 63 = .ok (.goto 15, 3) := by decide +kernel
theorem dX8_knows_66 : decode cX8_knows 66 = .ok (.aload_n 0, 1) := by decide +kernel
theorem dX8_knows_67 : decode cX8_knows 67 = .ok (.getfield 10, 3) := by decide +kernel
theorem dX8_knows_70 : decode cX8_knows 70 = .ok (.getfield 122, 3) := by decide +kernel
theorem dX8_knows_73 : decode cX8_knows 73 = .ok (.iload 4, 2) := by decide +kernel
theorem dX8_knows_75 : decode cX8_knows 75 = .ok (.iconst (-1), 1) := by decide +kernel
theorem dX8_knows_76 : decode cX8_knows 76 = .ok (.ixor, 1) := by decide +kernel
theorem dX8_knows_77 : decode cX8_knows 77 = .ok (.iand, 1) := by decide +kernel
theorem dX8_knows_78 : decode cX8_knows 78 = .ok (.putfield 122, 3) := by decide +kernel
theorem dX8_knows_81 : decode cX8_knows 81 = .ok (.iload 5, 2) := by decide +kernel
theorem dX8_knows_83 : decode cX8_knows 83 = .ok (.ireturn, 1) := by decide +kernel
set_option maxRecDepth 20000 in
theorem ggX8_ask_X0_isPair : GoodIn wsX8_ask wsX0_isPair := goodIn_r _ [6, 7, 8, 9, 5, 10, 11, 52, 53, 54, 55, 56] (by decide +kernel) (by decide +kernel)
set_option maxRecDepth 20000 in
theorem gX8_ask_X0_isPair : GoodIn wsX8_ask (wsV RX8 132 RX0 yX0_isPair wsX0_isPair) := goodIn_app (goodIn_of _ (by decide +kernel)) ggX8_ask_X0_isPair
set_option maxRecDepth 20000 in
theorem ggX8_ask_X8_forgetFound : GoodIn wsX8_ask wsX8_forgetFound := goodIn_r _ [16, 17, 18, 19, 35, 36, 37, 38, 39, 40, 41, 42, 43, 44, 45, 46, 47, 48, 49, 50, 51] (by decide +kernel) (by decide +kernel)
set_option maxRecDepth 20000 in
theorem gX8_ask_X8_forgetFound : GoodIn wsX8_ask (wsV RX8 101 RX8 yX8_forgetFound wsX8_forgetFound) := goodIn_app (goodIn_of _ (by decide +kernel)) ggX8_ask_X8_forgetFound
set_option maxRecDepth 20000 in
theorem ggX8_ask_X0_tryAsking : GoodIn wsX8_ask wsX0_tryAsking := goodIn_r _ [23, 24, 25, 26, 27, 28, 5, 29, 30, 31, 32, 33, 34, 52, 53, 54, 55, 56] (by decide +kernel) (by decide +kernel)
set_option maxRecDepth 20000 in
theorem gX8_ask_X0_tryAsking : GoodIn wsX8_ask (wsV RX8 139 RX0 yX0_tryAsking wsX0_tryAsking) := goodIn_app (goodIn_of _ (by decide +kernel)) ggX8_ask_X0_tryAsking
theorem dX8_ask_0 : decode cX8_ask 0 = .ok (.aload_n 0, 1) := by decide +kernel
theorem dX8_ask_1 : decode cX8_ask 1 = .ok (.getfield 10, 3) := by decide +kernel
theorem dX8_ask_4 : decode cX8_ask 4 = .ok (.iload_n 1, 1) := by decide +kernel
theorem dX8_ask_5 : decode cX8_ask 5 = .ok (.iload_n 2, 1) := by decide +kernel
theorem dX8_ask_6 : decode cX8_ask 6 = .ok (.invokevirtual 132, 3) := by decide +kernel
theorem dX8_ask_9 : decode cX8_ask 9 = .ok (.ifCond .ne 5, 3) := by decide +kernel
theorem dX8_ask_12 : decode cX8_ask 12 = .ok (.iconst (-1), 1) := by decide +kernel
theorem dX8_ask_13 : decode cX8_ask 13 = .ok (.ireturn, 1) := by decide +kernel
theorem dX8_ask_14 : decode cX8_ask 14 = .ok (.aload_n 0, 1) := by decide +kernel
theorem dX8_ask_15 : decode cX8_ask 15 = .ok (.invokevirtual 101, 3) := by decide +kernel
theorem dX8_ask_18 : decode cX8_ask 18 = .ok (.aload_n 0, 1) := by decide +kernel
theorem dX8_ask_19 : decode cX8_ask 19 = .ok (.getfield 10, 3) := by decide +kernel
theorem dX8_ask_22 : decode cX8_ask 22 = .ok (.iload_n 1, 1) := by decide +kernel
theorem dX8_ask_23 : decode cX8_ask 23 = .ok (.iload_n 2, 1) := by decide +kernel
theorem dX8_ask_24 : decode cX8_ask 24 = .ok (.invokevirtual 139, 3) := by decide +kernel
theorem dX8_ask_27 : decode cX8_ask 27 = .ok (.ireturn, 1) := by decide +kernel
set_option maxRecDepth 20000 in
theorem ggX8_week_X8_forgetFound : GoodIn wsX8_week wsX8_forgetFound := goodIn_r _ [7, 8, 9, 10, 24, 25, 26, 27, 28, 29, 30, 31, 32, 33, 34, 35, 36, 37, 38, 39, 40] (by decide +kernel) (by decide +kernel)
set_option maxRecDepth 20000 in
theorem gX8_week_X8_forgetFound : GoodIn wsX8_week (wsV RX8 101 RX8 yX8_forgetFound wsX8_forgetFound) := goodIn_app (goodIn_of _ (by decide +kernel)) ggX8_week_X8_forgetFound
set_option maxRecDepth 20000 in
theorem ggX8_week_X0_askings : GoodIn wsX8_week wsX0_askings := goodIn_r _ [15, 16, 17, 18, 19, 20, 21, 22, 23, 41, 42, 43, 44, 45] (by decide +kernel) (by decide +kernel)
set_option maxRecDepth 20000 in
theorem gX8_week_X0_askings : GoodIn wsX8_week (wsV RX8 142 RX0 yX0_askings wsX0_askings) := goodIn_app (goodIn_of _ (by decide +kernel)) ggX8_week_X0_askings
theorem dX8_week_0 : decode cX8_week 0 = .ok (.aload_n 0, 1) := by decide +kernel
theorem dX8_week_1 : decode cX8_week 1 = .ok (.invokevirtual 101, 3) := by decide +kernel
theorem dX8_week_4 : decode cX8_week 4 = .ok (.aload_n 0, 1) := by decide +kernel
theorem dX8_week_5 : decode cX8_week 5 = .ok (.getfield 10, 3) := by decide +kernel
theorem dX8_week_8 : decode cX8_week 8 = .ok (.invokevirtual 142, 3) := by decide +kernel
theorem dX8_week_11 : decode cX8_week 11 = .ok (.istore_n 1, 1) := by decide +kernel
theorem dX8_week_12 : decode cX8_week 12 = .ok (.aload_n 0, 1) := by decide +kernel
theorem dX8_week_13 : decode cX8_week 13 = .ok (.getfield 10, 3) := by decide +kernel
theorem dX8_week_16 : decode cX8_week 16 = .ok (.iconst 0, 1) := by decide +kernel
theorem dX8_week_17 : decode cX8_week 17 = .ok (.putfield 129, 3) := by decide +kernel
theorem dX8_week_20 : decode cX8_week 20 = .ok (.iload_n 1, 1) := by decide +kernel
theorem dX8_week_21 : decode cX8_week 21 = .ok (.ireturn, 1) := by decide +kernel
set_option maxRecDepth 20000 in
theorem ggX8_type_X5_areSigns : GoodIn wsX8_type wsX5_areSigns := goodIn_r _ [6, 7, 8, 9] (by decide +kernel) (by decide +kernel)
set_option maxRecDepth 20000 in
theorem gX8_type_X5_areSigns : GoodIn wsX8_type (va_wsS RX8 146 yX5_areSigns wsX5_areSigns) := goodIn_app (goodIn_of _ (by decide +kernel)) ggX8_type_X5_areSigns
set_option maxRecDepth 20000 in
theorem ggX8_type_X5_add : GoodIn wsX8_type wsX5_add := goodIn_r _ [13, 14, 15, 7, 33, 34, 35] (by decide +kernel) (by decide +kernel)
set_option maxRecDepth 20000 in
theorem gX8_type_X5_add : GoodIn wsX8_type (wsV RX8 151 RX5 yX5_add wsX5_add) := goodIn_app (goodIn_of _ (by decide +kernel)) ggX8_type_X5_add
theorem dX8_type_0 : decode cX8_type 0 = .ok (.iload_n 3, 1) := by decide +kernel
theorem dX8_type_1 : decode cX8_type 1 = .ok (.iconst 1, 1) := by decide +kernel
theorem dX8_type_2 : decode cX8_type 2 = .ok (.if_icmp .lt 17, 3) := by decide +kernel
theorem dX8_type_5 : decode cX8_type 5 = .ok (.iload_n 3, 1) := by decide +kernel
theorem dX8_type_6 : decode cX8_type 6 = .ok (.bipush 8, 2) := by decide +kernel
theorem dX8_type_8 : decode cX8_type 8 = .ok (.if_icmp .gt 11, 3) := by decide +kernel
theorem dX8_type_11 : decode cX8_type 11 = .ok (.lload_n 1, 1) := by decide +kernel
theorem dX8_type_12 : decode cX8_type 12 = .ok (.iload_n 3, 1) := by decide +kernel
theorem dX8_type_13 : decode cX8_type 13 = .ok (.invokestatic 146, 3) := by decide +kernel
theorem dX8_type_16 : decode cX8_type 16 = .ok (.ifCond .ne 5, 3) := by decide +kernel
theorem dX8_type_19 : decode cX8_type 19 = .ok (.iconst (-1), 1) := by decide +kernel
theorem dX8_type_20 : decode cX8_type 20 = .ok (.ireturn, 1) := by decide +kernel
theorem dX8_type_21 : decode cX8_type 21 = .ok (.aload_n 0, 1) := by decide +kernel
theorem dX8_type_22 : decode cX8_type 22 = .ok (.getfield 26, 3) := by decide +kernel
theorem dX8_type_25 : decode cX8_type 25 = .ok (.getfield 150, 3) := by decide +kernel
theorem dX8_type_28 : decode cX8_type 28 = .ok (.iload_n 3, 1) := by decide +kernel
theorem dX8_type_29 : decode cX8_type 29 = .ok (.iadd, 1) := by decide +kernel
theorem dX8_type_30 : decode cX8_type 30 = .ok (.bipush 80, 2) := by decide +kernel
theorem dX8_type_32 : decode cX8_type 32 = .ok (.if_icmp .le 6, 3) := by decide +kernel
theorem dX8_type_35 : decode cX8_type 35 = .ok (.bipush (-3), 2) := by decide +kernel
theorem dX8_type_37 : decode cX8_type 37 = .ok (.ireturn, 1) := by decide +kernel
theorem dX8_type_38 : decode cX8_type 38 = .ok (.aload_n 0, 1) := by decide +kernel
theorem dX8_type_39 : decode cX8_type 39 = .ok (.getfield 26, 3) := by decide +kernel
theorem dX8_type_42 : decode cX8_type 42 = .ok (.lload_n 1, 1) := by decide +kernel
theorem dX8_type_43 : decode cX8_type 43 = .ok (.iload_n 3, 1) := by decide +kernel
theorem dX8_type_44 : decode cX8_type 44 = .ok (.invokevirtual 151, 3) := by decide +kernel
theorem dX8_type_47 : decode cX8_type 47 = .ok (.aload_n 0, 1) := by decide +kernel
theorem dX8_type_48 : decode cX8_type 48 = .ok (.getfield 26, 3) := by decide +kernel
theorem dX8_type_51 : decode cX8_type 51 = .ok (.getfield 150, 3) := by decide +kernel
theorem dX8_type_54 : decode cX8_type 54 = .ok (.ireturn, 1) := by decide +kernel
set_option maxRecDepth 20000 in
theorem ggX8_people_X5_readFolk : GoodIn wsX8_people wsX5_readFolk := goodIn_r _ [10, 11, 12, 13, 14, 15, 16, 17, 18, 19, 20, 21, 22, 23, 24, 9, 25, 26, 27, 28, 29, 30, 31, 32, 33, 34, 35, 36, 37, 38, 39, 40, 41, 42, 43, 44, 45, 46, 47, 48, 49, 50, 51, 52, 53, 54, 55, 56, 57, 58, 59, 60, 61, 62, 63, 64, 65, 66, 67, 68, 69, 70, 71, 72, 73, 74, 75, 76, 77, 78, 79, 80, 81, 82, 83, 84, 85, 86, 87, 88, 89, 90, 91, 92, 93, 94, 95, 96, 97, 98, 99, 100, 101, 102, 103, 104, 105, 106, 107, 108, 109, 110, 111, 112, 113, 114, 115, 116, 117, 118, 119, 120, 121, 122, 123, 124, 125, 126, 127, 128, 129, 130, 131, 132, 133, 134, 135, 176, 177, 178, 179, 180, 181, 182, 183] (by decide +kernel) (by decide +kernel)
set_option maxRecDepth 20000 in
theorem gX8_people_X5_readFolk : GoodIn wsX8_people (wsV RX8 154 RX5 yX5_readFolk wsX5_readFolk) := goodIn_app (goodIn_of _ (by decide +kernel)) ggX8_people_X5_readFolk
set_option maxRecDepth 20000 in
theorem ggX8_people_X8_forgetFound : GoodIn wsX8_people wsX8_forgetFound := goodIn_r _ [140, 141, 142, 143, 159, 160, 161, 162, 163, 164, 165, 166, 167, 168, 169, 170, 171, 172, 173, 174, 175] (by decide +kernel) (by decide +kernel)
set_option maxRecDepth 20000 in
theorem gX8_people_X8_forgetFound : GoodIn wsX8_people (wsV RX8 101 RX8 yX8_forgetFound wsX8_forgetFound) := goodIn_app (goodIn_of _ (by decide +kernel)) ggX8_people_X8_forgetFound
set_option maxRecDepth 20000 in
theorem ggX8_people_X0_takeFrom : GoodIn wsX8_people wsX0_takeFrom := goodIn_r _ [147, 18, 20, 21, 134, 148, 149, 150, 151, 135, 179, 180, 181, 182, 183] (by decide +kernel) (by decide +kernel)
set_option maxRecDepth 20000 in
theorem gX8_people_X0_takeFrom : GoodIn wsX8_people (wsV RX8 158 RX0 yX0_takeFrom wsX0_takeFrom) := goodIn_app (goodIn_of _ (by decide +kernel)) ggX8_people_X0_takeFrom
set_option maxRecDepth 20000 in
theorem ggX8_people_X2_clear : GoodIn wsX8_people wsX2_clear := goodIn_r _ [156, 157, 158, 184, 185, 186, 187] (by decide +kernel) (by decide +kernel)
set_option maxRecDepth 20000 in
theorem gX8_people_X2_clear : GoodIn wsX8_people (wsV RX8 162 RX2 yX2_clear wsX2_clear) := goodIn_app (goodIn_of _ (by decide +kernel)) ggX8_people_X2_clear
theorem dX8_people_0 : decode cX8_people 0 = .ok (.aload_n 0, 1) := by decide +kernel
theorem dX8_people_1 : decode cX8_people 1 = .ok (.getfield 26, 3) := by decide +kernel
theorem dX8_people_4 : decode cX8_people 4 = .ok (.aload_n 0, 1) := by decide +kernel
theorem dX8_people_5 : decode cX8_people 5 = .ok (.getfield 46, 3) := by decide +kernel
theorem dX8_people_8 : decode cX8_people 8 = .ok (.invokevirtual 154, 3) := by decide +kernel
theorem dX8_people_11 : decode cX8_people 11 = .ok (.istore_n 1, 1) := by decide +kernel
theorem dX8_people_12 : decode cX8_people 12 = .ok (.aload_n 0, 1) := by decide +kernel
theorem dX8_people_13 : decode cX8_people 13 = .ok (.getfield 26, 3) := by decide +kernel
theorem dX8_people_16 : decode cX8_people 16 = .ok (.iconst 0, 1) := by decide +kernel
theorem dX8_people_17 : decode cX8_people 17 = .ok (.putfield 150, 3) := by decide +kernel
theorem dX8_people_20 : decode cX8_people 20 = .ok (.iload_n 1, 1) := by decide +kernel
theorem dX8_people_21 : decode cX8_people 21 = .ok (.ifCond .le 25, 3) := by decide +kernel
theorem dX8_people_24 : decode cX8_people 24 = .ok (.aload_n 0, 1) := by decide +kernel
theorem dX8_people_25 : decode cX8_people 25 = .ok (.invokevirtual 101, 3) := by decide +kernel
theorem dX8_people_28 : decode cX8_people 28 = .ok (.aload_n 0, 1) := by decide +kernel
theorem dX8_people_29 : decode cX8_people 29 = .ok (.getfield 10, 3) := by decide +kernel
theorem dX8_people_32 : decode cX8_people 32 = .ok (.aload_n 0, 1) := by decide +kernel
theorem dX8_people_33 : decode cX8_people 33 = .ok (.getfield 46, 3) := by decide +kernel
theorem dX8_people_36 : decode cX8_people 36 = .ok (.invokevirtual 158, 3) := by decide +kernel
theorem dX8_people_39 : decode cX8_people 39 = .ok (.aload_n 0, 1) := by decide +kernel
theorem dX8_people_40 : decode cX8_people 40 = .ok (.getfield 19, 3) := by decide +kernel
theorem dX8_people_43 : decode cX8_people 43 = .ok (.invokevirtual 162, 3) := by decide +kernel
theorem dX8_people_46 : decode cX8_people 46 = .ok (.iload_n 1, 1) := by decide +kernel
theorem dX8_people_47 : decode cX8_people 47 = .ok (.ireturn, 1) := by decide +kernel
set_option maxRecDepth 20000 in
theorem ggX8_plan_X5_readPlan : GoodIn wsX8_plan wsX5_readPlan := goodIn_r _ [11, 12, 13, 14, 15, 16, 17, 18, 19, 20, 21, 22, 23, 24, 10, 25, 26, 27, 28, 29, 30, 31, 32, 33, 34, 35, 36, 37, 38, 39, 40, 41, 42, 43, 44, 83, 84, 85, 86, 87, 88, 89] (by decide +kernel) (by decide +kernel)
set_option maxRecDepth 20000 in
theorem gX8_plan_X5_readPlan : GoodIn wsX8_plan (wsV RX8 165 RX5 yX5_readPlan wsX5_readPlan) := goodIn_app (goodIn_of _ (by decide +kernel)) ggX8_plan_X5_readPlan
set_option maxRecDepth 20000 in
theorem ggX8_plan_X8_forgetFound : GoodIn wsX8_plan wsX8_forgetFound := goodIn_r _ [49, 50, 51, 52, 61, 62, 63, 64, 65, 66, 67, 68, 69, 70, 71, 72, 73, 74, 75, 76, 77] (by decide +kernel) (by decide +kernel)
set_option maxRecDepth 20000 in
theorem gX8_plan_X8_forgetFound : GoodIn wsX8_plan (wsV RX8 101 RX8 yX8_forgetFound wsX8_forgetFound) := goodIn_app (goodIn_of _ (by decide +kernel)) ggX8_plan_X8_forgetFound
set_option maxRecDepth 20000 in
theorem ggX8_plan_X2_takeFrom : GoodIn wsX8_plan wsX2_takeFrom := goodIn_r _ [56, 20, 21, 40, 57, 58, 59, 60, 41, 86, 87, 88, 89] (by decide +kernel) (by decide +kernel)
set_option maxRecDepth 20000 in
theorem gX8_plan_X2_takeFrom : GoodIn wsX8_plan (wsV RX8 169 RX2 yX2_takeFrom wsX2_takeFrom) := goodIn_app (goodIn_of _ (by decide +kernel)) ggX8_plan_X2_takeFrom
theorem dX8_plan_0 : decode cX8_plan 0 = .ok (.aload_n 0, 1) := by decide +kernel
theorem dX8_plan_1 : decode cX8_plan 1 = .ok (.getfield 26, 3) := by decide +kernel
theorem dX8_plan_4 : decode cX8_plan 4 = .ok (.aload_n 0, 1) := by decide +kernel
theorem dX8_plan_5 : decode cX8_plan 5 = .ok (.getfield 49, 3) := by decide +kernel
theorem dX8_plan_8 : decode cX8_plan 8 = .ok (.aload_n 0, 1) := by decide +kernel
theorem dX8_plan_9 : decode cX8_plan 9 = .ok (.getfield 10, 3) := by decide +kernel
theorem dX8_plan_12 : decode cX8_plan 12 = .ok (.getfield 98, 3) := by decide +kernel
theorem dX8_plan_15 : decode cX8_plan 15 = .ok (.invokevirtual 165, 3) := by decide +kernel
theorem dX8_plan_18 : decode cX8_plan 18 = .ok (.istore_n 1, 1) := by decide +kernel
theorem dX8_plan_19 : decode cX8_plan 19 = .ok (.aload_n 0, 1) := by decide +kernel
theorem dX8_plan_20 : decode cX8_plan 20 = .ok (.getfield 26, 3) := by decide +kernel
theorem dX8_plan_23 : decode cX8_plan 23 = .ok (.iconst 0, 1) := by decide +kernel
theorem dX8_plan_24 : decode cX8_plan 24 = .ok (.putfield 150, 3) := by decide +kernel
theorem dX8_plan_27 : decode cX8_plan 27 = .ok (.iload_n 1, 1) := by decide +kernel
theorem dX8_plan_28 : decode cX8_plan 28 = .ok (.ifCond .le 18, 3) := by decide +kernel
theorem dX8_plan_31 : decode cX8_plan 31 = .ok (.aload_n 0, 1) := by decide +kernel
theorem dX8_plan_32 : decode cX8_plan 32 = .ok (.invokevirtual 101, 3) := by decide +kernel
theorem dX8_plan_35 : decode cX8_plan 35 = .ok (.aload_n 0, 1) := by decide +kernel
theorem dX8_plan_36 : decode cX8_plan 36 = .ok (.getfield 19, 3) := by decide +kernel
theorem dX8_plan_39 : decode cX8_plan 39 = .ok (.aload_n 0, 1) := by decide +kernel
theorem dX8_plan_40 : decode cX8_plan 40 = .ok (.getfield 49, 3) := by decide +kernel
theorem dX8_plan_43 : decode cX8_plan 43 = .ok (.invokevirtual 169, 3) := by decide +kernel
theorem dX8_plan_46 : decode cX8_plan 46 = .ok (.iload_n 1, 1) := by decide +kernel
theorem dX8_plan_47 : decode cX8_plan 47 = .ok (.ireturn, 1) := by decide +kernel
set_option maxRecDepth 20000 in
theorem ggX8_count_X0_penceOfAll : GoodIn wsX8_count wsX0_penceOfAll := goodIn_r _ [10, 11, 12, 43, 44, 45, 46, 47] (by decide +kernel) (by decide +kernel)
set_option maxRecDepth 20000 in
theorem gX8_count_X0_penceOfAll : GoodIn wsX8_count (wsV RX8 172 RX0 yX0_penceOfAll wsX0_penceOfAll) := goodIn_app (goodIn_of _ (by decide +kernel)) ggX8_count_X0_penceOfAll
set_option maxRecDepth 20000 in
theorem ggX8_count_X0_askings : GoodIn wsX8_count wsX0_askings := goodIn_r _ [16, 17, 18, 19, 20, 21, 22, 23, 24, 43, 44, 45, 46, 47] (by decide +kernel) (by decide +kernel)
set_option maxRecDepth 20000 in
theorem gX8_count_X0_askings : GoodIn wsX8_count (wsV RX8 142 RX0 yX0_askings wsX0_askings) := goodIn_app (goodIn_of _ (by decide +kernel)) ggX8_count_X0_askings
set_option maxRecDepth 20000 in
theorem ggX8_count_J6_bitCount_0f7a4 : GoodIn wsX8_count wsJ6_bitCount_0f7a4 := goodIn_r _ [21, 22, 23, 24] (by decide +kernel) (by decide +kernel)
set_option maxRecDepth 20000 in
theorem gX8_count_J6_bitCount_0f7a4 : GoodIn wsX8_count (va_wsS RX8 179 yJ6_bitCount_0f7a4 wsJ6_bitCount_0f7a4) := goodIn_app (goodIn_of _ (by decide +kernel)) ggX8_count_J6_bitCount_0f7a4
theorem dX8_count_0 : decode cX8_count 0 = .ok (.iload_n 1, 1) := by decide +kernel
theorem dX8_count_1 : decode cX8_count 1 = .ok (.tableswitch 78 0 4 #[35, 43, 51, 59, 67], 35) := by decide +kernel
theorem dX8_count_36 : decode cX8_count 36 = .ok (.aload_n 0, 1) := by decide +kernel
theorem dX8_count_37 : decode cX8_count 37 = .ok (.getfield 10, 3) := by decide +kernel
theorem dX8_count_40 : decode cX8_count 40 = .ok (.getfield 98, 3) := by decide +kernel
theorem dX8_count_43 : decode cX8_count 43 = .ok (.ireturn, 1) := by decide +kernel
theorem dX8_count_44 : decode cX8_count 44 = .ok (.aload_n 0, 1) := by decide +kernel
theorem dX8_count_45 : decode cX8_count 45 = .ok (.getfield 10, 3) := by decide +kernel
theorem dX8_count_48 : decode cX8_count 48 = .ok (.invokevirtual 172, 3) := by decide +kernel
theorem dX8_count_51 : decode cX8_count 51 = .ok (.ireturn, 1) := by decide +kernel
theorem dX8_count_52 : decode cX8_count 52 = .ok (.aload_n 0, 1) := by decide +kernel
theorem dX8_count_53 : decode cX8_count 53 = .ok (.getfield 10, 3) := by decide +kernel
theorem dX8_count_56 : decode cX8_count 56 = .ok (.invokevirtual 142, 3) := by decide +kernel
theorem dX8_count_59 : decode cX8_count 59 = .ok (.ireturn, 1) := by decide +kernel
theorem dX8_count_60 : decode cX8_count 60 = .ok (.aload_n 0, 1) := by decide +kernel
theorem dX8_count_61 : decode cX8_count 61 = .ok (.getfield 19, 3) := by decide +kernel
theorem dX8_count_64 : decode cX8_count 64 = .ok (.getfield 175, 3) := by decide +kernel
theorem dX8_count_67 : decode cX8_count 67 = .ok (.ireturn, 1) := by decide +kernel
theorem dX8_count_68 : decode cX8_count 68 = .ok (.aload_n 0, 1) := by decide +kernel
theorem dX8_count_69 : decode cX8_count 69 = .ok (.getfield 19, 3) := by decide +kernel
theorem dX8_count_72 : decode cX8_count 72 = .ok (.getfield 176, 3) := by decide +kernel
theorem dX8_count_75 : decode cX8_count 75 = .ok (.invokestatic 179, 3) := by decide +kernel
theorem dX8_count_78 : decode cX8_count 78 = .ok (.ireturn, 1) := by decide +kernel
theorem dX8_count_79 : decode cX8_count 79 = .ok (.iconst (-1), 1) := by decide +kernel
theorem dX8_count_80 : decode cX8_count 80 = .ok (.ireturn, 1) := by decide +kernel
set_option maxRecDepth 20000 in
theorem ggX8_run_X8_forgetFound : GoodIn wsX8_run wsX8_forgetFound := goodIn_r _ [10, 11, 12, 13, 41, 42, 43, 44, 45, 46, 47, 48, 49, 50, 51, 52, 53, 54, 55, 56, 57] (by decide +kernel) (by decide +kernel)
set_option maxRecDepth 20000 in
theorem gX8_run_X8_forgetFound : GoodIn wsX8_run (wsV RX8 101 RX8 yX8_forgetFound wsX8_forgetFound) := goodIn_app (goodIn_of _ (by decide +kernel)) ggX8_run_X8_forgetFound
set_option maxRecDepth 20000 in
theorem ggX8_run_X0_tryAsking : GoodIn wsX8_run wsX0_tryAsking := goodIn_r _ [18, 19, 20, 21, 22, 23, 17, 24, 25, 26, 27, 28, 29, 62, 63, 64, 65, 66] (by decide +kernel) (by decide +kernel)
set_option maxRecDepth 20000 in
theorem gX8_run_X0_tryAsking : GoodIn wsX8_run (wsV RX8 139 RX0 yX0_tryAsking wsX0_tryAsking) := goodIn_app (goodIn_of _ (by decide +kernel)) ggX8_run_X0_tryAsking
set_option maxRecDepth 20000 in
theorem ggX8_run_X2_endWeekIfDue : GoodIn wsX8_run wsX2_endWeekIfDue := goodIn_r _ [34, 35, 36, 37, 38, 33, 39, 40, 62, 63, 64, 65, 66, 58, 59, 60, 61] (by decide +kernel) (by decide +kernel)
set_option maxRecDepth 20000 in
theorem gX8_run_X2_endWeekIfDue : GoodIn wsX8_run (wsV RX8 190 RX2 yX2_endWeekIfDue wsX2_endWeekIfDue) := goodIn_app (goodIn_of _ (by decide +kernel)) ggX8_run_X2_endWeekIfDue
theorem dX8_run_0 : decode cX8_run 0 = .ok (.aload_n 0, 1) := by decide +kernel
theorem dX8_run_1 : decode cX8_run 1 = .ok (.invokevirtual 101, 3) := by decide +kernel
theorem dX8_run_4 : decode cX8_run 4 = .ok (.iconst 0, 1) := by decide +kernel
theorem dX8_run_5 : decode cX8_run 5 = .ok (.istore_n 1, 1) := by decide +kernel
theorem dX8_run_6 : decode cX8_run 6 = .ok (.iload_n 1, 1) := by decide +kernel
theorem dX8_run_7 : decode cX8_run 7 = .ok (.aload_n 0, 1) := by decide +kernel
theorem dX8_run_8 : decode cX8_run 8 = .ok (.getfield 19, 3) := by decide +kernel
theorem dX8_run_11 : decode cX8_run 11 = .ok (.getfield 175, 3) := by decide +kernel
theorem dX8_run_14 : decode cX8_run 14 = .ok (.if_icmp .ge 51, 3) := by decide +kernel
theorem dX8_run_17 : decode cX8_run 17 = .ok (.aload_n 0, 1) := by decide +kernel
theorem dX8_run_18 : decode cX8_run 18 = .ok (.getfield 10, 3) := by decide +kernel
theorem dX8_run_21 : decode cX8_run 21 = .ok (.aload_n 0, 1) := by decide +kernel
theorem dX8_run_22 : decode cX8_run 22 = .ok (.getfield 19, 3) := by decide +kernel
theorem dX8_run_25 : decode cX8_run 25 = .ok (.getfield 184, 3) := by decide +kernel
theorem dX8_run_28 : decode cX8_run 28 = .ok (.iload_n 1, 1) := by decide +kernel
theorem dX8_run_29 : decode cX8_run 29 = .ok (.iaload, 1) := by decide +kernel
theorem dX8_run_30 : decode cX8_run 30 = .ok (.aload_n 0, 1) := by decide +kernel
theorem dX8_run_31 : decode cX8_run 31 = .ok (.getfield 19, 3) := by decide +kernel
theorem dX8_run_34 : decode cX8_run 34 = .ok (.getfield 187, 3) := by decide +kernel
theorem dX8_run_37 : decode cX8_run 37 = .ok (.iload_n 1, 1) := by decide +kernel
theorem dX8_run_38 : decode cX8_run 38 = .ok (.iaload, 1) := by decide +kernel
theorem dX8_run_39 : decode cX8_run 39 = .ok (.invokevirtual 139, 3) := by decide +kernel
theorem dX8_run_42 : decode cX8_run 42 = .ok (.bipush (-2), 2) := by decide +kernel
theorem dX8_run_44 : decode cX8_run 44 = .ok (.if_icmp .eq 21, 3) := by decide +kernel
theorem dX8_run_47 : decode cX8_run 47 = .ok (.aload_n 0, 1) := by decide +kernel
theorem dX8_run_48 : decode cX8_run 48 = .ok (.getfield 19, 3) := by decide +kernel
theorem dX8_run_51 : decode cX8_run 51 = .ok (.aload_n 0, 1) := by decide +kernel
theorem dX8_run_52 : decode cX8_run 52 = .ok (.getfield 10, 3) := by decide +kernel
theorem dX8_run_55 : decode cX8_run 55 = .ok (.iload_n 1, 1) := by decide +kernel
theorem dX8_run_56 : decode cX8_run 56 = .ok (.invokevirtual 190, 3) := by decide +kernel
theorem dX8_run_59 : decode cX8_run 59 = .ok (.iinc 1 1, 3) := by decide +kernel
theorem dX8_run_62 : decode cX8_run 62 = .ok (.goto (-56), 3) := by decide +kernel
theorem dX8_run_65 : decode cX8_run 65 = .ok (.iload_n 1, 1) := by decide +kernel
theorem dX8_run_66 : decode cX8_run 66 = .ok (.ireturn, 1) := by decide +kernel
set_option maxRecDepth 20000 in
theorem ggX8_most_X0_has : GoodIn wsX8_most wsX0_has := goodIn_r _ [8, 9, 119, 120, 121, 122, 123] (by decide +kernel) (by decide +kernel)
set_option maxRecDepth 20000 in
theorem gX8_most_X0_has : GoodIn wsX8_most (wsV RX8 108 RX0 yX0_has wsX0_has) := goodIn_app (goodIn_of _ (by decide +kernel)) ggX8_most_X0_has
set_option maxRecDepth 20000 in
theorem ggX8_most_X8_findTimes : GoodIn wsX8_most wsX8_findTimes := goodIn_r _ [14, 15, 2, 1, 16, 17, 18, 19, 20, 21, 22, 23, 24, 25, 26, 27, 28, 29, 30, 31, 32, 33, 34, 35, 36, 37, 38, 39, 40, 41, 42, 43, 7, 44, 9, 45, 46, 47, 48, 49, 50, 51, 52, 53, 54, 55, 56, 57, 58, 59, 60, 61, 62, 63, 64, 65, 66, 67, 68, 69, 70, 71, 72, 73, 74, 75, 76, 77, 78, 79, 80, 81, 82, 83, 84, 85, 86, 87, 88, 89, 90, 91, 92, 93, 94, 95, 96, 97, 98, 99, 100, 101, 102, 103, 104, 105, 106, 107, 108, 109, 110, 111, 112, 113, 114, 115, 116, 117, 118, 119, 120, 121, 122, 123, 124, 125, 126, 127] (by decide +kernel) (by decide +kernel)
set_option maxRecDepth 20000 in
theorem gX8_most_X8_findTimes : GoodIn wsX8_most (wsV RX8 194 RX8 yX8_findTimes wsX8_findTimes) := goodIn_app (goodIn_of _ (by decide +kernel)) ggX8_most_X8_findTimes
theorem dX8_most_0 : decode cX8_most 0 = .ok (.aload_n 0, 1) := by decide +kernel
theorem dX8_most_1 : decode cX8_most 1 = .ok (.getfield 10, 3) := by decide +kernel
theorem dX8_most_4 : decode cX8_most 4 = .ok (.iload_n 1, 1) := by decide +kernel
theorem dX8_most_5 : decode cX8_most 5 = .ok (.invokevirtual 108, 3) := by decide +kernel
theorem dX8_most_8 : decode cX8_most 8 = .ok (.ifCond .ne 5, 3) := by decide +kernel
theorem dX8_most_11 : decode cX8_most 11 = .ok (.iconst (-1), 1) := by decide +kernel
theorem dX8_most_12 : decode cX8_most 12 = .ok (.ireturn, 1) := by decide +kernel
theorem dX8_most_13 : decode cX8_most 13 = .ok (.aload_n 0, 1) := by decide +kernel
theorem dX8_most_14 : decode cX8_most 14 = .ok (.iload_n 1, 1) := by decide +kernel
theorem dX8_most_15 : decode cX8_most 15 = .ok (.invokevirtual 194, 3) := by decide +kernel
theorem dX8_most_18 : decode cX8_most 18 = .ok (.aload_n 0, 1) := by decide +kernel
theorem dX8_most_19 : decode cX8_most 19 = .ok (.getfield 59, 3) := by decide +kernel
theorem dX8_most_22 : decode cX8_most 22 = .ok (.getfield 198, 3) := by decide +kernel
theorem dX8_most_25 : decode cX8_most 25 = .ok (.ireturn, 1) := by decide +kernel
set_option maxRecDepth 20000 in
theorem ggX8_when_X0_isPair : GoodIn wsX8_when wsX0_isPair := goodIn_r _ [7, 8, 9, 10, 6, 11, 12, 121, 122, 123, 124, 125] (by decide +kernel) (by decide +kernel)
set_option maxRecDepth 20000 in
theorem gX8_when_X0_isPair : GoodIn wsX8_when (wsV RX8 132 RX0 yX0_isPair wsX0_isPair) := goodIn_app (goodIn_of _ (by decide +kernel)) ggX8_when_X0_isPair
set_option maxRecDepth 20000 in
theorem ggX8_when_X8_findTimes : GoodIn wsX8_when wsX8_findTimes := goodIn_r _ [17, 18, 2, 1, 19, 20, 21, 22, 23, 24, 25, 26, 27, 28, 29, 30, 31, 32, 33, 34, 35, 36, 37, 38, 39, 40, 41, 42, 43, 44, 45, 46, 6, 47, 12, 48, 49, 50, 51, 52, 53, 54, 55, 56, 57, 58, 59, 60, 61, 62, 63, 64, 65, 66, 67, 68, 69, 70, 71, 72, 73, 74, 75, 76, 77, 78, 79, 80, 81, 82, 83, 84, 85, 86, 87, 88, 89, 90, 91, 92, 93, 94, 95, 96, 97, 98, 99, 104, 105, 106, 107, 108, 109, 110, 111, 112, 113, 114, 115, 116, 117, 118, 119, 120, 126, 127, 128, 129, 130, 121, 122, 123, 124, 125, 131, 132, 133, 134] (by decide +kernel) (by decide +kernel)
set_option maxRecDepth 20000 in
theorem gX8_when_X8_findTimes : GoodIn wsX8_when (wsV RX8 194 RX8 yX8_findTimes wsX8_findTimes) := goodIn_app (goodIn_of _ (by decide +kernel)) ggX8_when_X8_findTimes
set_option maxRecDepth 20000 in
theorem ggX8_when_X6_timeFor : GoodIn wsX8_when wsX6_timeFor := goodIn_r _ [103, 27, 63, 126, 127, 128, 129, 130] (by decide +kernel) (by decide +kernel)
set_option maxRecDepth 20000 in
theorem gX8_when_X6_timeFor : GoodIn wsX8_when (wsV RX8 201 RX6 yX6_timeFor wsX6_timeFor) := goodIn_app (goodIn_of _ (by decide +kernel)) ggX8_when_X6_timeFor
theorem dX8_when_0 : decode cX8_when 0 = .ok (.aload_n 0, 1) := by decide +kernel
theorem dX8_when_1 : decode cX8_when 1 = .ok (.getfield 10, 3) := by decide +kernel
theorem dX8_when_4 : decode cX8_when 4 = .ok (.iload_n 1, 1) := by decide +kernel
theorem dX8_when_5 : decode cX8_when 5 = .ok (.iload_n 2, 1) := by decide +kernel
theorem dX8_when_6 : decode cX8_when 6 = .ok (.invokevirtual 132, 3) := by decide +kernel
theorem dX8_when_9 : decode cX8_when 9 = .ok (.ifCond .ne 5, 3) := by decide +kernel
theorem dX8_when_12 : decode cX8_when 12 = .ok (.iconst (-1), 1) := by decide +kernel
theorem dX8_when_13 : decode cX8_when 13 = .ok (.ireturn, 1) := by decide +kernel
theorem dX8_when_14 : decode cX8_when 14 = .ok (.aload_n 0, 1) := by decide +kernel
theorem dX8_when_15 : decode cX8_when 15 = .ok (.iload_n 1, 1) := by decide +kernel
theorem dX8_when_16 : decode cX8_when 16 = .ok (.invokevirtual 194, 3) := by decide +kernel
theorem dX8_when_19 : decode cX8_when 19 = .ok (.aload_n 0, 1) := by decide +kernel
theorem dX8_when_20 : decode cX8_when 20 = .ok (.getfield 59, 3) := by decide +kernel
theorem dX8_when_23 : decode cX8_when 23 = .ok (.iload_n 2, 1) := by decide +kernel
theorem dX8_when_24 : decode cX8_when 24 = .ok (.invokevirtual 201, 3) := by decide +kernel
theorem dX8_when_27 : decode cX8_when 27 = .ok (.ireturn, 1) := by decide +kernel
set_option maxRecDepth 20000 in
theorem ggX8_turns_X0_has : GoodIn wsX8_turns wsX0_has := goodIn_r _ [8, 9, 78, 79, 80, 81, 82] (by decide +kernel) (by decide +kernel)
set_option maxRecDepth 20000 in
theorem gX8_turns_X0_has : GoodIn wsX8_turns (wsV RX8 108 RX0 yX0_has wsX0_has) := goodIn_app (goodIn_of _ (by decide +kernel)) ggX8_turns_X0_has
set_option maxRecDepth 20000 in
theorem ggX8_turns_X8_findTurns : GoodIn wsX8_turns wsX8_findTurns := goodIn_r _ [14, 15, 2, 1, 16, 17, 18, 19, 20, 21, 22, 23, 24, 7, 25, 9, 26, 27, 28, 29, 30, 31, 32, 33, 34, 35, 36, 37, 38, 39, 40, 41, 42, 43, 44, 45, 46, 47, 48, 49, 50, 51, 52, 53, 54, 55, 56, 57, 58, 59, 60, 61, 62, 63, 64, 65, 66, 67, 68, 69, 70, 71, 72, 73, 74, 75, 76, 77, 78, 79, 80, 81, 82] (by decide +kernel) (by decide +kernel)
set_option maxRecDepth 20000 in
theorem gX8_turns_X8_findTurns : GoodIn wsX8_turns (wsV RX8 204 RX8 yX8_findTurns wsX8_findTurns) := goodIn_app (goodIn_of _ (by decide +kernel)) ggX8_turns_X8_findTurns
theorem dX8_turns_0 : decode cX8_turns 0 = .ok (.aload_n 0, 1) := by decide +kernel
theorem dX8_turns_1 : decode cX8_turns 1 = .ok (.getfield 10, 3) := by decide +kernel
theorem dX8_turns_4 : decode cX8_turns 4 = .ok (.iload_n 1, 1) := by decide +kernel
theorem dX8_turns_5 : decode cX8_turns 5 = .ok (.invokevirtual 108, 3) := by decide +kernel
theorem dX8_turns_8 : decode cX8_turns 8 = .ok (.ifCond .ne 5, 3) := by decide +kernel
theorem dX8_turns_11 : decode cX8_turns 11 = .ok (.iconst (-1), 1) := by decide +kernel
theorem dX8_turns_12 : decode cX8_turns 12 = .ok (.ireturn, 1) := by decide +kernel
theorem dX8_turns_13 : decode cX8_turns 13 = .ok (.aload_n 0, 1) := by decide +kernel
theorem dX8_turns_14 : decode cX8_turns 14 = .ok (.invokevirtual 204, 3) := by decide +kernel
theorem dX8_turns_17 : decode cX8_turns 17 = .ok (.aload_n 0, 1) := by decide +kernel
theorem dX8_turns_18 : decode cX8_turns 18 = .ok (.getfield 66, 3) := by decide +kernel
theorem dX8_turns_21 : decode cX8_turns 21 = .ok (.getfield 207, 3) := by decide +kernel
theorem dX8_turns_24 : decode cX8_turns 24 = .ok (.iconst 0, 1) := by decide +kernel
theorem dX8_turns_25 : decode cX8_turns 25 = .ok (.aaload, 1) := by decide +kernel
theorem dX8_turns_26 : decode cX8_turns 26 = .ok (.iload_n 1, 1) := by decide +kernel
theorem dX8_turns_27 : decode cX8_turns 27 = .ok (.iaload, 1) := by decide +kernel
theorem dX8_turns_28 : decode cX8_turns 28 = .ok (.ireturn, 1) := by decide +kernel
set_option maxRecDepth 20000 in
theorem ggX8_ends_X0_has : GoodIn wsX8_ends wsX0_has := goodIn_r _ [8, 9, 78, 79, 80, 81, 82] (by decide +kernel) (by decide +kernel)
set_option maxRecDepth 20000 in
theorem gX8_ends_X0_has : GoodIn wsX8_ends (wsV RX8 108 RX0 yX0_has wsX0_has) := goodIn_app (goodIn_of _ (by decide +kernel)) ggX8_ends_X0_has
set_option maxRecDepth 20000 in
theorem ggX8_ends_X8_findTurns : GoodIn wsX8_ends wsX8_findTurns := goodIn_r _ [14, 15, 2, 1, 16, 17, 18, 19, 20, 21, 22, 23, 24, 7, 25, 9, 26, 27, 28, 29, 30, 31, 32, 33, 34, 35, 36, 37, 38, 39, 40, 41, 42, 43, 44, 45, 46, 47, 48, 49, 50, 51, 52, 53, 54, 55, 56, 57, 58, 59, 60, 61, 62, 63, 64, 65, 66, 67, 68, 69, 70, 71, 72, 73, 74, 75, 76, 77, 78, 79, 80, 81, 82] (by decide +kernel) (by decide +kernel)
set_option maxRecDepth 20000 in
theorem gX8_ends_X8_findTurns : GoodIn wsX8_ends (wsV RX8 204 RX8 yX8_findTurns wsX8_findTurns) := goodIn_app (goodIn_of _ (by decide +kernel)) ggX8_ends_X8_findTurns
theorem dX8_ends_0 : decode cX8_ends 0 = .ok (.aload_n 0, 1) := by decide +kernel
theorem dX8_ends_1 : decode cX8_ends 1 = .ok (.getfield 10, 3) := by decide +kernel
theorem dX8_ends_4 : decode cX8_ends 4 = .ok (.iload_n 1, 1) := by decide +kernel
theorem dX8_ends_5 : decode cX8_ends 5 = .ok (.invokevirtual 108, 3) := by decide +kernel
theorem dX8_ends_8 : decode cX8_ends 8 = .ok (.ifCond .ne 5, 3) := by decide +kernel
theorem dX8_ends_11 : decode cX8_ends 11 = .ok (.iconst (-1), 1) := by decide +kernel
theorem dX8_ends_12 : decode cX8_ends 12 = .ok (.ireturn, 1) := by decide +kernel
theorem dX8_ends_13 : decode cX8_ends 13 = .ok (.aload_n 0, 1) := by decide +kernel
theorem dX8_ends_14 : decode cX8_ends 14 = .ok (.invokevirtual 204, 3) := by decide +kernel
theorem dX8_ends_17 : decode cX8_ends 17 = .ok (.aload_n 0, 1) := by decide +kernel
theorem dX8_ends_18 : decode cX8_ends 18 = .ok (.getfield 66, 3) := by decide +kernel
theorem dX8_ends_21 : decode cX8_ends 21 = .ok (.getfield 211, 3) := by decide +kernel
theorem dX8_ends_24 : decode cX8_ends 24 = .ok (.iconst 0, 1) := by decide +kernel
theorem dX8_ends_25 : decode cX8_ends 25 = .ok (.aaload, 1) := by decide +kernel
theorem dX8_ends_26 : decode cX8_ends 26 = .ok (.iload_n 1, 1) := by decide +kernel
theorem dX8_ends_27 : decode cX8_ends 27 = .ok (.iaload, 1) := by decide +kernel
theorem dX8_ends_28 : decode cX8_ends 28 = .ok (.ireturn, 1) := by decide +kernel
set_option maxRecDepth 20000 in
theorem ggX8_order_X1_search : GoodIn wsX8_order wsX1_search := goodIn_r _ [13, 14, 15, 16, 17, 18, 19, 20, 21, 22, 23, 24, 25, 26, 27, 28, 29, 30, 31, 32, 33, 34, 35, 36, 37, 38, 39, 40, 41, 42, 43, 44, 45, 46, 12, 47, 48, 49, 50, 51, 52, 53, 54, 55, 56, 57, 58, 59, 60, 61, 62, 63, 64, 65, 66, 67, 68, 69, 70, 71, 72, 73, 74, 75, 76, 77, 104, 105, 106, 107, 108, 109, 110, 111, 95, 96, 97, 98, 99, 100, 101, 102, 103] (by decide +kernel) (by decide +kernel)
set_option maxRecDepth 20000 in
theorem gX8_order_X1_search : GoodIn wsX8_order (wsV RX8 214 RX1 yX1_search wsX1_search) := goodIn_app (goodIn_of _ (by decide +kernel)) ggX8_order_X1_search
theorem dX8_order_0 : decode cX8_order 0 = .ok (.iload_n 1, 1) := by decide +kernel
theorem dX8_order_1 : decode cX8_order 1 = .ok (.iconst (-1), 1) := by decide +kernel
theorem dX8_order_2 : decode cX8_order 2 = .ok (.if_icmp .lt 9, 3) := by decide +kernel
theorem dX8_order_5 : decode cX8_order 5 = .ok (.iload_n 1, 1) := by decide +kernel
theorem dX8_order_6 : decode cX8_order 6 = .ok (.bipush 6, 2) := by decide +kernel
theorem dX8_order_8 : decode cX8_order 8 = .ok (.if_icmp .lt 5, 3) := by decide +kernel
theorem dX8_order_11 : decode cX8_order 11 = .ok (.iconst (-1), 1) := by decide +kernel
theorem dX8_order_12 : decode cX8_order 12 = .ok (.ireturn, 1) := by decide +kernel
theorem dX8_order_13 : decode cX8_order 13 = .ok (.aload_n 0, 1) := by decide +kernel
theorem dX8_order_14 : decode cX8_order 14 = .ok (.getfield 19, 3) := by decide +kernel
theorem dX8_order_17 : decode cX8_order 17 = .ok (.getfield 175, 3) := by decide +kernel
theorem dX8_order_20 : decode cX8_order 20 = .ok (.bipush 6, 2) := by decide +kernel
theorem dX8_order_22 : decode cX8_order 22 = .ok (.if_icmp .le 6, 3) := by decide +kernel
theorem dX8_order_25 : decode cX8_order 25 = .ok (.bipush (-3), 2) := by decide +kernel
theorem dX8_order_27 : decode cX8_order 27 = .ok (.ireturn, 1) := by decide +kernel
theorem dX8_order_28 : decode cX8_order 28 = .ok (.aload_n 0, 1) := by decide +kernel
theorem dX8_order_29 : decode cX8_order 29 = .ok (.getfield 10, 3) := by decide +kernel
theorem dX8_order_32 : decode cX8_order 32 = .ok (.getfield 98, 3) := by decide +kernel
theorem dX8_order_35 : decode cX8_order 35 = .ok (.ifCond .eq 14, 3) := by decide +kernel
theorem dX8_order_38 : decode cX8_order 38 = .ok (.iload_n 1, 1) := by decide +kernel
theorem dX8_order_39 : decode cX8_order 39 = .ok (.aload_n 0, 1) := by decide +kernel
theorem dX8_order_40 : decode cX8_order 40 = .ok (.getfield 19, 3) := by decide +kernel
theorem dX8_order_43 : decode cX8_order 43 = .ok (.getfield 175, 3) := by decide +kernel
theorem dX8_order_46 : decode cX8_order 46 = .ok (.if_icmp .lt 6, 3) := by decide +kernel
theorem dX8_order_49 : decode cX8_order 49 = .ok (.bipush (-4), 2) := by decide +kernel
theorem dX8_order_51 : decode cX8_order 51 = .ok (.ireturn, 1) := by decide +kernel
theorem dX8_order_52 : decode cX8_order 52 = .ok (.aload_n 0, 1) := by decide +kernel
theorem dX8_order_53 : decode cX8_order 53 = .ok (.getfield 91, 3) := by decide +kernel
theorem dX8_order_56 : decode cX8_order 56 = .ok (.ifCond .ne 25, 3) := by decide +kernel
theorem dX8_order_59 : decode cX8_order 59 = .ok (.aload_n 0, 1) := by decide +kernel
theorem dX8_order_60 : decode cX8_order 60 = .ok (.getfield 73, 3) := by decide +kernel
theorem dX8_order_63 : decode cX8_order 63 = .ok (.aload_n 0, 1) := by decide +kernel
theorem dX8_order_64 : decode cX8_order 64 = .ok (.getfield 10, 3) := by decide +kernel
theorem dX8_order_67 : decode cX8_order 67 = .ok (.aload_n 0, 1) := by decide +kernel
theorem dX8_order_68 : decode cX8_order 68 = .ok (.getfield 19, 3) := by decide +kernel
theorem dX8_order_71 : decode cX8_order 71 = .ok (.iconst 0, 1) := by decide +kernel
theorem dX8_order_72 : decode cX8_order 72 = .ok (.iconst 0, 1) := by decide +kernel
theorem dX8_order_73 : decode cX8_order 73 = .ok (.invokevirtual 214, 3) := by decide +kernel
theorem dX8_order_76 : decode cX8_order 76 = .ok (.aload_n 0, 1) := by decide +kernel
theorem dX8_order_77 : decode cX8_order 77 = .ok (.iconst 1, 1) := by decide +kernel
theorem dX8_order_78 : decode cX8_order 78 = .ok (.putfield 91, 3) := by decide +kernel
theorem dX8_order_81 : decode cX8_order 81 = .ok (.iload_n 1, 1) := by decide +kernel
theorem dX8_order_82 : decode cX8_order 82 = .ok (.ifCond .ge 13, 3) := by decide +kernel
theorem dX8_order_85 : decode cX8_order 85 = .ok (.aload_n 0, 1) := by decide +kernel
theorem dX8_order_86 : decode cX8_order 86 = .ok (.getfield 73, 3) := by decide +kernel
theorem dX8_order_89 : decode cX8_order 89 = .ok (.getfield 218, 3) := by decide +kernel
theorem dX8_order_92 : decode cX8_order 92 = .ok (.goto 12, 3) := by decide +kernel
theorem dX8_order_95 : decode cX8_order 95 = .ok (.aload_n 0, 1) := by decide +kernel
theorem dX8_order_96 : decode cX8_order 96 = .ok (.getfield 73, 3) := by decide +kernel
theorem dX8_order_99 : decode cX8_order 99 = .ok (.getfield 221, 3) := by decide +kernel
theorem dX8_order_102 : decode cX8_order 102 = .ok (.iload_n 1, 1) := by decide +kernel
theorem dX8_order_103 : decode cX8_order 103 = .ok (.iaload, 1) := by decide +kernel
theorem dX8_order_104 : decode cX8_order 104 = .ok (.ireturn, 1) := by decide +kernel
set_option maxRecDepth 20000 in
theorem ggX8_so_X1_search : GoodIn wsX8_so wsX1_search := goodIn_r _ [13, 14, 15, 16, 17, 18, 19, 20, 21, 22, 23, 24, 25, 26, 27, 28, 29, 30, 31, 32, 33, 34, 35, 36, 37, 38, 39, 40, 41, 42, 43, 44, 45, 46, 12, 47, 48, 49, 50, 51, 52, 53, 54, 55, 56, 57, 58, 59, 60, 61, 62, 63, 64, 65, 66, 67, 68, 69, 70, 71, 72, 73, 74, 75, 76, 77, 104, 105, 106, 107, 108, 109, 110, 111, 100, 101, 102, 103, 95, 96, 97, 98, 99] (by decide +kernel) (by decide +kernel)
set_option maxRecDepth 20000 in
theorem gX8_so_X1_search : GoodIn wsX8_so (wsV RX8 214 RX1 yX1_search wsX1_search) := goodIn_app (goodIn_of _ (by decide +kernel)) ggX8_so_X1_search
theorem dX8_so_0 : decode cX8_so 0 = .ok (.iload_n 1, 1) := by decide +kernel
theorem dX8_so_1 : decode cX8_so 1 = .ok (.ifCond .le 26, 3) := by decide +kernel
theorem dX8_so_4 : decode cX8_so 4 = .ok (.iload_n 1, 1) := by decide +kernel
theorem dX8_so_5 : decode cX8_so 5 = .ok (.iconst 1, 1) := by decide +kernel
theorem dX8_so_6 : decode cX8_so 6 = .ok (.aload_n 0, 1) := by decide +kernel
theorem dX8_so_7 : decode cX8_so 7 = .ok (.getfield 10, 3) := by decide +kernel
theorem dX8_so_10 : decode cX8_so 10 = .ok (.getfield 98, 3) := by decide +kernel
theorem dX8_so_13 : decode cX8_so 13 = .ok (.ishl, 1) := by decide +kernel
theorem dX8_so_14 : decode cX8_so 14 = .ok (.if_icmp .ge 13, 3) := by decide +kernel
theorem dX8_so_17 : decode cX8_so 17 = .ok (.iload_n 2, 1) := by decide +kernel
theorem dX8_so_18 : decode cX8_so 18 = .ok (.ifCond .lt 9, 3) := by decide +kernel
theorem dX8_so_21 : decode cX8_so 21 = .ok (.iload_n 2, 1) := by decide +kernel
theorem dX8_so_22 : decode cX8_so 22 = .ok (.ldc 224, 2) := by decide +kernel
theorem dX8_so_24 : decode cX8_so 24 = .ok (.if_icmp .le 5, 3) := by decide +kernel
theorem dX8_so_27 : decode cX8_so 27 = .ok (.iconst (-1), 1) := by decide +kernel
theorem dX8_so_28 : decode cX8_so 28 = .ok (.ireturn, 1) := by decide +kernel
theorem dX8_so_29 : decode cX8_so 29 = .ok (.aload_n 0, 1) := by decide +kernel
theorem dX8_so_30 : decode cX8_so 30 = .ok (.getfield 19, 3) := by decide +kernel
theorem dX8_so_33 : decode cX8_so 33 = .ok (.getfield 175, 3) := by decide +kernel
theorem dX8_so_36 : decode cX8_so 36 = .ok (.bipush 6, 2) := by decide +kernel
theorem dX8_so_38 : decode cX8_so 38 = .ok (.if_icmp .le 6, 3) := by decide +kernel
theorem dX8_so_41 : decode cX8_so 41 = .ok (.bipush (-3), 2) := by decide +kernel
theorem dX8_so_43 : decode cX8_so 43 = .ok (.ireturn, 1) := by decide +kernel
theorem dX8_so_44 : decode cX8_so 44 = .ok (.aload_n 0, 1) := by decide +kernel
theorem dX8_so_45 : decode cX8_so 45 = .ok (.getfield 73, 3) := by decide +kernel
theorem dX8_so_48 : decode cX8_so 48 = .ok (.aload_n 0, 1) := by decide +kernel
theorem dX8_so_49 : decode cX8_so 49 = .ok (.getfield 10, 3) := by decide +kernel
theorem dX8_so_52 : decode cX8_so 52 = .ok (.aload_n 0, 1) := by decide +kernel
theorem dX8_so_53 : decode cX8_so 53 = .ok (.getfield 19, 3) := by decide +kernel
theorem dX8_so_56 : decode cX8_so 56 = .ok (.iload_n 1, 1) := by decide +kernel
theorem dX8_so_57 : decode cX8_so 57 = .ok (.iload_n 2, 1) := by decide +kernel
theorem dX8_so_58 : decode cX8_so 58 = .ok (.invokevirtual 214, 3) := by decide +kernel
theorem dX8_so_61 : decode cX8_so 61 = .ok (.aload_n 0, 1) := by decide +kernel
theorem dX8_so_62 : decode cX8_so 62 = .ok (.iconst 1, 1) := by decide +kernel
theorem dX8_so_63 : decode cX8_so 63 = .ok (.putfield 91, 3) := by decide +kernel
theorem dX8_so_66 : decode cX8_so 66 = .ok (.aload_n 0, 1) := by decide +kernel
theorem dX8_so_67 : decode cX8_so 67 = .ok (.getfield 73, 3) := by decide +kernel
theorem dX8_so_70 : decode cX8_so 70 = .ok (.getfield 225, 3) := by decide +kernel
theorem dX8_so_73 : decode cX8_so 73 = .ok (.ireturn, 1) := by decide +kernel
set_option maxRecDepth 20000 in
theorem ggX8_exact_X0_has : GoodIn wsX8_exact wsX0_has := goodIn_r _ [9, 10, 43, 44, 45, 46, 47] (by decide +kernel) (by decide +kernel)
set_option maxRecDepth 20000 in
theorem gX8_exact_X0_has : GoodIn wsX8_exact (wsV RX8 108 RX0 yX0_has wsX0_has) := goodIn_app (goodIn_of _ (by decide +kernel)) ggX8_exact_X0_has
set_option maxRecDepth 20000 in
theorem ggX8_exact_X8_shareOut : GoodIn wsX8_exact wsX8_shareOut := goodIn_r _ [15, 1, 16, 3, 17, 18, 19, 20, 21, 22, 4, 23, 24, 8, 25, 26, 27, 28, 29, 30, 31, 32, 33, 34, 35, 36, 37, 38, 39, 40, 41, 42, 43, 44, 45, 46, 47, 48, 49, 50, 51] (by decide +kernel) (by decide +kernel)
set_option maxRecDepth 20000 in
theorem gX8_exact_X8_shareOut : GoodIn wsX8_exact (wsV RX8 230 RX8 yX8_shareOut wsX8_shareOut) := goodIn_app (goodIn_of _ (by decide +kernel)) ggX8_exact_X8_shareOut
theorem dX8_exact_0 : decode cX8_exact 0 = .ok (.aload_n 0, 1) := by decide +kernel
theorem dX8_exact_1 : decode cX8_exact 1 = .ok (.getfield 10, 3) := by decide +kernel
theorem dX8_exact_4 : decode cX8_exact 4 = .ok (.iload_n 1, 1) := by decide +kernel
theorem dX8_exact_5 : decode cX8_exact 5 = .ok (.invokevirtual 108, 3) := by decide +kernel
theorem dX8_exact_8 : decode cX8_exact 8 = .ok (.ifCond .eq 22, 3) := by decide +kernel
theorem dX8_exact_11 : decode cX8_exact 11 = .ok (.iload_n 2, 1) := by decide +kernel
theorem dX8_exact_12 : decode cX8_exact 12 = .ok (.iconst 1, 1) := by decide +kernel
theorem dX8_exact_13 : decode cX8_exact 13 = .ok (.if_icmp .lt 17, 3) := by decide +kernel
theorem dX8_exact_16 : decode cX8_exact 16 = .ok (.iload_n 2, 1) := by decide +kernel
theorem dX8_exact_17 : decode cX8_exact 17 = .ok (.iconst 3, 1) := by decide +kernel
theorem dX8_exact_18 : decode cX8_exact 18 = .ok (.if_icmp .gt 12, 3) := by decide +kernel
theorem dX8_exact_21 : decode cX8_exact 21 = .ok (.iload_n 3, 1) := by decide +kernel
theorem dX8_exact_22 : decode cX8_exact 22 = .ok (.ifCond .lt 8, 3) := by decide +kernel
theorem dX8_exact_25 : decode cX8_exact 25 = .ok (.iload_n 3, 1) := by decide +kernel
theorem dX8_exact_26 : decode cX8_exact 26 = .ok (.iconst 1, 1) := by decide +kernel
theorem dX8_exact_27 : decode cX8_exact 27 = .ok (.if_icmp .le 7, 3) := by decide +kernel
theorem dX8_exact_30 : decode cX8_exact 30 = .ok (.ldc2_w 228, 3) := by decide +kernel
theorem dX8_exact_33 : decode cX8_exact 33 = .ok (.lreturn, 1) := by decide +kernel
theorem dX8_exact_34 : decode cX8_exact 34 = .ok (.bipush 24, 2) := by decide +kernel
theorem dX8_exact_36 : decode cX8_exact 36 = .ok (.istore 4, 2) := by decide +kernel
theorem dX8_exact_38 : decode cX8_exact 38 = .ok (.aload_n 0, 1) := by decide +kernel
theorem dX8_exact_39 : decode cX8_exact 39 = .ok (.iload_n 2, 1) := by decide +kernel
theorem dX8_exact_40 : decode cX8_exact 40 = .ok (.iload 4, 2) := by decide +kernel
theorem dX8_exact_42 : decode cX8_exact 42 = .ok (.invokevirtual 230, 3) := by decide +kernel
theorem dX8_exact_45 : decode cX8_exact 45 = .ok (.aload_n 0, 1) := by decide +kernel
theorem dX8_exact_46 : decode cX8_exact 46 = .ok (.getfield 52, 3) := by decide +kernel
theorem dX8_exact_49 : decode cX8_exact 49 = .ok (.iload_n 1, 1) := by decide +kernel
theorem dX8_exact_50 : decode cX8_exact 50 = .ok (.laload, 1) := by decide +kernel
theorem dX8_exact_51 : decode cX8_exact 51 = .ok (.lstore 5, 2) := by decide +kernel
theorem dX8_exact_53 : decode cX8_exact 53 = .ok (.lconst 1, 1) := by decide +kernel
theorem dX8_exact_54 : decode cX8_exact 54 = .ok (.iload 4, 2) := by decide +kernel
theorem dX8_exact_56 : decode cX8_exact 56 = .ok (.lshl, 1) := by decide +kernel
theorem dX8_exact_57 : decode cX8_exact 57 = .ok (.lstore 7, 2) := by decide +kernel
theorem dX8_exact_59 : decode cX8_exact 59 = .ok (.iconst 0, 1) := by decide +kernel
theorem dX8_exact_60 : decode cX8_exact 60 = .ok (.istore 9, 2) := by decide +kernel
theorem dX8_exact_62 : decode cX8_exact 62 = .ok (.iload 9, 2) := by decide +kernel
theorem dX8_exact_64 : decode cX8_exact 64 = .ok (.iload 4, 2) := by decide +kernel
theorem dX8_exact_66 : decode cX8_exact 66 = .ok (.if_icmp .ge 36, 3) := by decide +kernel
theorem dX8_exact_69 : decode cX8_exact 69 = .ok (.lload 5, 2) := by decide +kernel
theorem dX8_exact_71 : decode cX8_exact 71 = .ok (.ldc2_w 233, 3) := by decide +kernel
theorem dX8_exact_74 : decode cX8_exact 74 = .ok (.lrem, 1) := by decide +kernel
theorem dX8_exact_75 : decode cX8_exact 75 = .ok (.lconst 0, 1) := by decide +kernel
theorem dX8_exact_76 : decode cX8_exact 76 = .ok (.lcmp, 1) := by decide +kernel
theorem dX8_exact_77 : decode cX8_exact 77 = .ok (.ifCond .ne 25, 3) := by decide +kernel
theorem dX8_exact_80 : decode cX8_exact 80 = .ok (.lload 5, 2) := by decide +kernel
theorem dX8_exact_82 : decode cX8_exact 82 = .ok (.ldc2_w 233, 3) := by decide +kernel
theorem dX8_exact_85 : decode cX8_exact 85 = .ok (.ldiv, 1) := by decide +kernel
theorem dX8_exact_86 : decode cX8_exact 86 = .ok (.lstore 5, 2) := by decide +kernel
theorem dX8_exact_88 : decode cX8_exact 88 = .ok (.lload 7, 2) := by decide +kernel
theorem dX8_exact_90 : decode cX8_exact 90 = .ok (.ldc2_w 233, 3) := by decide +kernel
theorem dX8_exact_93 : decode cX8_exact 93 = .ok (.ldiv, 1) := by decide +kernel
theorem dX8_exact_94 : decode cX8_exact 94 = .ok (.lstore 7, 2) := by decide +kernel
theorem dX8_exact_96 : decode cX8_exact 96 = .ok (.iinc 9 1, 3) := by decide +kernel
theorem dX8_exact_99 : decode cX8_exact 99 = .ok (.goto (-37), 3) := by decide +kernel
theorem dX8_exact_102 : decode cX8_exact 102 = .ok (.iload_n 3, 1) := by decide +kernel
theorem dX8_exact_103 : decode cX8_exact 103 = .ok (.ifCond .ne 8, 3) := by decide +kernel
theorem dX8_exact_106 : decode cX8_exact 106 = .ok (.lload 5, 2) := by decide +kernel
theorem dX8_exact_108 : decode cX8_exact 108 = .ok (.goto 5, 3) := by decide +kernel
theorem dX8_exact_111 : decode cX8_exact 111 = .ok (.lload 7, 2) := by decide +kernel
theorem dX8_exact_113 : decode cX8_exact 113 = .ok (.lreturn, 1) := by decide +kernel
set_option maxRecDepth 20000 in
theorem ggX8_shun_X0_has : GoodIn wsX8_shun wsX0_has := goodIn_r _ [7, 8, 78, 79, 80, 81, 82] (by decide +kernel) (by decide +kernel)
set_option maxRecDepth 20000 in
theorem gX8_shun_X0_has : GoodIn wsX8_shun (wsV RX8 108 RX0 yX0_has wsX0_has) := goodIn_app (goodIn_of _ (by decide +kernel)) ggX8_shun_X0_has
set_option maxRecDepth 20000 in
theorem ggX8_shun_X8_penceWithout : GoodIn wsX8_shun wsX8_penceWithout := goodIn_r _ [13, 14, 1, 15, 16, 17, 18, 19, 20, 21, 22, 6, 23, 8, 24, 25, 26, 27, 28, 29, 30, 31, 32, 33, 34, 35, 36, 37, 38, 39, 40, 41, 42, 43, 44, 45, 46, 47, 48, 49, 50, 51, 52, 53, 54, 55, 56, 57, 58, 59, 60, 61, 62, 63, 64, 65, 66, 67, 68, 69, 70, 71, 72, 73, 74, 75, 76, 77, 83, 84, 85, 86, 78, 79, 80, 81, 82] (by decide +kernel) (by decide +kernel)
set_option maxRecDepth 20000 in
theorem gX8_shun_X8_penceWithout : GoodIn wsX8_shun (wsV RX8 235 RX8 yX8_penceWithout wsX8_penceWithout) := goodIn_app (goodIn_of _ (by decide +kernel)) ggX8_shun_X8_penceWithout
theorem dX8_shun_0 : decode cX8_shun 0 = .ok (.aload_n 0, 1) := by decide +kernel
theorem dX8_shun_1 : decode cX8_shun 1 = .ok (.getfield 10, 3) := by decide +kernel
theorem dX8_shun_4 : decode cX8_shun 4 = .ok (.iload_n 1, 1) := by decide +kernel
theorem dX8_shun_5 : decode cX8_shun 5 = .ok (.invokevirtual 108, 3) := by decide +kernel
theorem dX8_shun_8 : decode cX8_shun 8 = .ok (.ifCond .ne 5, 3) := by decide +kernel
theorem dX8_shun_11 : decode cX8_shun 11 = .ok (.iconst (-1), 1) := by decide +kernel
theorem dX8_shun_12 : decode cX8_shun 12 = .ok (.ireturn, 1) := by decide +kernel
theorem dX8_shun_13 : decode cX8_shun 13 = .ok (.aload_n 0, 1) := by decide +kernel
theorem dX8_shun_14 : decode cX8_shun 14 = .ok (.bipush 9, 2) := by decide +kernel
theorem dX8_shun_16 : decode cX8_shun 16 = .ok (.iload_n 1, 1) := by decide +kernel
theorem dX8_shun_17 : decode cX8_shun 17 = .ok (.invokevirtual 235, 3) := by decide +kernel
theorem dX8_shun_20 : decode cX8_shun 20 = .ok (.istore_n 2, 1) := by decide +kernel
theorem dX8_shun_21 : decode cX8_shun 21 = .ok (.bipush 9, 2) := by decide +kernel
theorem dX8_shun_23 : decode cX8_shun 23 = .ok (.istore_n 3, 1) := by decide +kernel
theorem dX8_shun_24 : decode cX8_shun 24 = .ok (.iconst 0, 1) := by decide +kernel
theorem dX8_shun_25 : decode cX8_shun 25 = .ok (.istore 4, 2) := by decide +kernel
theorem dX8_shun_27 : decode cX8_shun 27 = .ok (.iload 4, 2) := by decide +kernel
theorem dX8_shun_29 : decode cX8_shun 29 = .ok (.aload_n 0, 1) := by decide +kernel
theorem dX8_shun_30 : decode cX8_shun 30 = .ok (.getfield 10, 3) := by decide +kernel
theorem dX8_shun_33 : decode cX8_shun 33 = .ok (.getfield 98, 3) := by decide +kernel
theorem dX8_shun_36 : decode cX8_shun 36 = .ok (.if_icmp .ge 40, 3) := by decide +kernel
theorem dX8_shun_39 : decode cX8_shun 39 = .ok (.iload 4, 2) := by decide +kernel
theorem dX8_shun_41 : decode cX8_shun 41 = .ok (.iload_n 1, 1) := by decide +kernel
theorem dX8_shun_42 : decode cX8_shun 42 = .ok (.if_icmp .ne 7, 3) := by decide +kernel
theorem dX8_shun_45 : decode cX8_shun 45 = .ok (.iload_n 2, 1) := by decide +kernel
theorem dX8_shun_46 : decode cX8_shun 46 = .ok (.goto 10, 3) := by decide +kernel
theorem dX8_shun_49 : decode cX8_shun 49 = .ok (.aload_n 0, 1) := by decide +kernel
theorem dX8_shun_50 : decode cX8_shun 50 = .ok (.iload 4, 2) := by decide +kernel
theorem dX8_shun_52 : decode cX8_shun 52 = .ok (.iload_n 1, 1) := by decide +kernel
theorem dX8_shun_53 : decode cX8_shun 53 = .ok (.invokevirtual 235, 3) := by decide +kernel
theorem dX8_shun_56 : decode cX8_shun 56 = .ok (.istore 5, 2) := by decide +kernel
theorem dX8_shun_58 : decode cX8_shun 58 = .ok (.iload 5, 2) := by decide +kernel
theorem dX8_shun_60 : decode cX8_shun 60 = .ok (.iload_n 2, 1) := by decide +kernel
theorem dX8_shun_61 : decode cX8_shun 61 = .ok (.if_icmp .le 9, 3) := by decide +kernel
theorem dX8_shun_64 : decode cX8_shun 64 = .ok (.iload 5, 2) := by decide +kernel
theorem dX8_shun_66 : decode cX8_shun 66 = .ok (.istore_n 2, 1) := by decide +kernel
theorem dX8_shun_67 : decode cX8_shun 67 = .ok (.iload 4, 2) := by decide +kernel
theorem dX8_shun_69 : decode cX8_shun 69 = .ok (.istore_n 3, 1) := by decide +kernel
theorem dX8_shun_70 : decode cX8_shun 70 = .ok (.iinc 4 1, 3) := by decide +kernel
theorem dX8_shun_73 : decode cX8_shun 73 = .ok (.goto (-46), 3) := by decide +kernel
theorem dX8_shun_76 : decode cX8_shun 76 = .ok (.iload_n 3, 1) := by decide +kernel
theorem dX8_shun_77 : decode cX8_shun 77 = .ok (.ireturn, 1) := by decide +kernel
set_option maxRecDepth 20000 in
theorem ggX8_image_X0_takeFrom : GoodIn wsX8_image wsX0_takeFrom := goodIn_r _ [10, 11, 12, 13, 14, 15, 16, 17, 18, 19, 47, 48, 49, 50, 51] (by decide +kernel) (by decide +kernel)
set_option maxRecDepth 20000 in
theorem gX8_image_X0_takeFrom : GoodIn wsX8_image (wsV RX8 158 RX0 yX0_takeFrom wsX0_takeFrom) := goodIn_app (goodIn_of _ (by decide +kernel)) ggX8_image_X0_takeFrom
set_option maxRecDepth 20000 in
theorem ggX8_image_X2_takeFrom : GoodIn wsX8_image wsX2_takeFrom := goodIn_r _ [24, 25, 26, 27, 28, 16, 17, 18, 29, 52, 53, 54, 55] (by decide +kernel) (by decide +kernel)
set_option maxRecDepth 20000 in
theorem gX8_image_X2_takeFrom : GoodIn wsX8_image (wsV RX8 169 RX2 yX2_takeFrom wsX2_takeFrom) := goodIn_app (goodIn_of _ (by decide +kernel)) ggX8_image_X2_takeFrom
theorem dX8_image_0 : decode cX8_image 0 = .ok (.aload_n 0, 1) := by decide +kernel
theorem dX8_image_1 : decode cX8_image 1 = .ok (.getfield 30, 3) := by decide +kernel
theorem dX8_image_4 : decode cX8_image 4 = .ok (.aload_n 0, 1) := by decide +kernel
theorem dX8_image_5 : decode cX8_image 5 = .ok (.getfield 10, 3) := by decide +kernel
theorem dX8_image_8 : decode cX8_image 8 = .ok (.invokevirtual 158, 3) := by decide +kernel
theorem dX8_image_11 : decode cX8_image 11 = .ok (.aload_n 0, 1) := by decide +kernel
theorem dX8_image_12 : decode cX8_image 12 = .ok (.getfield 33, 3) := by decide +kernel
theorem dX8_image_15 : decode cX8_image 15 = .ok (.aload_n 0, 1) := by decide +kernel
theorem dX8_image_16 : decode cX8_image 16 = .ok (.getfield 19, 3) := by decide +kernel
theorem dX8_image_19 : decode cX8_image 19 = .ok (.invokevirtual 169, 3) := by decide +kernel
theorem dX8_image_22 : decode cX8_image 22 = .ok (.aload_n 0, 1) := by decide +kernel
theorem dX8_image_23 : decode cX8_image 23 = .ok (.iconst 1, 1) := by decide +kernel
theorem dX8_image_24 : decode cX8_image 24 = .ok (.putfield 36, 3) := by decide +kernel
theorem dX8_image_27 : decode cX8_image 27 = .ok (.iconst 1, 1) := by decide +kernel
theorem dX8_image_28 : decode cX8_image 28 = .ok (.ireturn, 1) := by decide +kernel
set_option maxRecDepth 20000 in
theorem ggX8_restore_X8_forgetFound : GoodIn wsX8_restore wsX8_forgetFound := goodIn_r _ [10, 11, 12, 13, 38, 39, 40, 41, 42, 43, 44, 45, 46, 47, 48, 49, 50, 51, 52, 53, 54] (by decide +kernel) (by decide +kernel)
set_option maxRecDepth 20000 in
theorem gX8_restore_X8_forgetFound : GoodIn wsX8_restore (wsV RX8 101 RX8 yX8_forgetFound wsX8_forgetFound) := goodIn_app (goodIn_of _ (by decide +kernel)) ggX8_restore_X8_forgetFound
set_option maxRecDepth 20000 in
theorem ggX8_restore_X0_takeFrom : GoodIn wsX8_restore wsX0_takeFrom := goodIn_r _ [18, 19, 20, 21, 22, 23, 24, 25, 26, 27, 55, 56, 57, 58, 59] (by decide +kernel) (by decide +kernel)
set_option maxRecDepth 20000 in
theorem gX8_restore_X0_takeFrom : GoodIn wsX8_restore (wsV RX8 158 RX0 yX0_takeFrom wsX0_takeFrom) := goodIn_app (goodIn_of _ (by decide +kernel)) ggX8_restore_X0_takeFrom
set_option maxRecDepth 20000 in
theorem ggX8_restore_X2_takeFrom : GoodIn wsX8_restore wsX2_takeFrom := goodIn_r _ [32, 33, 34, 35, 36, 24, 25, 26, 37, 60, 61, 62, 63] (by decide +kernel) (by decide +kernel)
set_option maxRecDepth 20000 in
theorem gX8_restore_X2_takeFrom : GoodIn wsX8_restore (wsV RX8 169 RX2 yX2_takeFrom wsX2_takeFrom) := goodIn_app (goodIn_of _ (by decide +kernel)) ggX8_restore_X2_takeFrom
theorem dX8_restore_0 : decode cX8_restore 0 = .ok (.aload_n 0, 1) := by decide +kernel
theorem dX8_restore_1 : decode cX8_restore 1 = .ok (.getfield 36, 3) := by decide +kernel
theorem dX8_restore_4 : decode cX8_restore 4 = .ok (.ifCond .ne 6, 3) := by decide +kernel
theorem dX8_restore_7 : decode cX8_restore 7 = .ok (.bipush (-4), 2) := by decide +kernel
theorem dX8_restore_9 : decode cX8_restore 9 = .ok (.ireturn, 1) := by decide +kernel
theorem dX8_restore_10 : decode cX8_restore 10 = .ok (.aload_n 0, 1) := by decide +kernel
theorem dX8_restore_11 : decode cX8_restore 11 = .ok (.invokevirtual 101, 3) := by decide +kernel
theorem dX8_restore_14 : decode cX8_restore 14 = .ok (.aload_n 0, 1) := by decide +kernel
theorem dX8_restore_15 : decode cX8_restore 15 = .ok (.getfield 10, 3) := by decide +kernel
theorem dX8_restore_18 : decode cX8_restore 18 = .ok (.aload_n 0, 1) := by decide +kernel
theorem dX8_restore_19 : decode cX8_restore 19 = .ok (.getfield 30, 3) := by decide +kernel
theorem dX8_restore_22 : decode cX8_restore 22 = .ok (.invokevirtual 158, 3) := by decide +kernel
theorem dX8_restore_25 : decode cX8_restore 25 = .ok (.aload_n 0, 1) := by decide +kernel
theorem dX8_restore_26 : decode cX8_restore 26 = .ok (.getfield 19, 3) := by decide +kernel
theorem dX8_restore_29 : decode cX8_restore 29 = .ok (.aload_n 0, 1) := by decide +kernel
theorem dX8_restore_30 : decode cX8_restore 30 = .ok (.getfield 33, 3) := by decide +kernel
theorem dX8_restore_33 : decode cX8_restore 33 = .ok (.invokevirtual 169, 3) := by decide +kernel
theorem dX8_restore_36 : decode cX8_restore 36 = .ok (.iconst 1, 1) := by decide +kernel
theorem dX8_restore_37 : decode cX8_restore 37 = .ok (.ireturn, 1) := by decide +kernel
set_option maxRecDepth 20000 in
theorem ggX8_who_X8_isSheet : GoodIn wsX8_who wsX8_isSheet := goodIn_r _ [10] (by decide +kernel) (by decide +kernel)
set_option maxRecDepth 20000 in
theorem gX8_who_X8_isSheet : GoodIn wsX8_who (va_wsS RX8 238 yX8_isSheet wsX8_isSheet) := goodIn_app (goodIn_of _ (by decide +kernel)) ggX8_who_X8_isSheet
set_option maxRecDepth 20000 in
theorem ggX8_who_X8_isLane : GoodIn wsX8_who wsX8_isLane := goodIn_r _ [13] (by decide +kernel) (by decide +kernel)
set_option maxRecDepth 20000 in
theorem gX8_who_X8_isLane : GoodIn wsX8_who (va_wsS RX8 241 yX8_isLane wsX8_isLane) := goodIn_app (goodIn_of _ (by decide +kernel)) ggX8_who_X8_isLane
set_option maxRecDepth 20000 in
theorem ggX8_who_X4_lookAt : GoodIn wsX8_who wsX4_lookAt := goodIn_r _ [18, 19, 20, 21, 22, 17, 23, 24, 111, 112] (by decide +kernel) (by decide +kernel)
set_option maxRecDepth 20000 in
theorem gX8_who_X4_lookAt : GoodIn wsX8_who (wsV RX8 244 RX4 yX4_lookAt wsX4_lookAt) := goodIn_app (goodIn_of _ (by decide +kernel)) ggX8_who_X4_lookAt
set_option maxRecDepth 20000 in
theorem ggX8_who_X4_areTold : GoodIn wsX8_who wsX4_areTold := goodIn_r _ [28, 24, 29, 111, 112] (by decide +kernel) (by decide +kernel)
set_option maxRecDepth 20000 in
theorem gX8_who_X4_areTold : GoodIn wsX8_who (wsV RX8 248 RX4 yX4_areTold wsX4_areTold) := goodIn_app (goodIn_of _ (by decide +kernel)) ggX8_who_X4_areTold
set_option maxRecDepth 20000 in
theorem ggX8_who_X3_search : GoodIn wsX8_who wsX3_search := goodIn_r _ [34, 35, 36, 37, 38, 39, 40, 41, 42, 43, 44, 45, 46, 47, 48, 49, 50, 51, 52, 53, 54, 55, 56, 57, 58, 59, 33, 60, 61, 62, 63, 64, 65, 66, 67, 68, 69, 70, 71, 72, 73, 74, 75, 76, 77, 78, 79, 80, 81, 82, 105, 106, 107, 108, 109, 110, 100, 101, 102, 103, 104, 111, 112] (by decide +kernel) (by decide +kernel)
set_option maxRecDepth 20000 in
theorem gX8_who_X3_search : GoodIn wsX8_who (wsV RX8 251 RX3 yX3_search wsX3_search) := goodIn_app (goodIn_of _ (by decide +kernel)) ggX8_who_X3_search
theorem dX8_who_0 : decode cX8_who 0 = .ok (.iload_n 1, 1) := by decide +kernel
theorem dX8_who_1 : decode cX8_who 1 = .ok (.invokestatic 238, 3) := by decide +kernel
theorem dX8_who_4 : decode cX8_who 4 = .ok (.ifCond .eq 35, 3) := by decide +kernel
theorem dX8_who_7 : decode cX8_who 7 = .ok (.iload_n 2, 1) := by decide +kernel
theorem dX8_who_8 : decode cX8_who 8 = .ok (.invokestatic 241, 3) := by decide +kernel
theorem dX8_who_11 : decode cX8_who 11 = .ok (.ifCond .eq 28, 3) := by decide +kernel
theorem dX8_who_14 : decode cX8_who 14 = .ok (.iload 4, 2) := by decide +kernel
theorem dX8_who_16 : decode cX8_who 16 = .ok (.iconst 1, 1) := by decide +kernel
theorem dX8_who_17 : decode cX8_who 17 = .ok (.if_icmp .lt 22, 3) := by decide +kernel
theorem dX8_who_20 : decode cX8_who 20 = .ok (.iload 4, 2) := by decide +kernel
theorem dX8_who_22 : decode cX8_who 22 = .ok (.iconst 3, 1) := by decide +kernel
theorem dX8_who_23 : decode cX8_who 23 = .ok (.if_icmp .gt 16, 3) := by decide +kernel
theorem dX8_who_26 : decode cX8_who 26 = .ok (.iload 5, 2) := by decide +kernel
theorem dX8_who_28 : decode cX8_who 28 = .ok (.iconst (-1), 1) := by decide +kernel
theorem dX8_who_29 : decode cX8_who 29 = .ok (.if_icmp .lt 10, 3) := by decide +kernel
theorem dX8_who_32 : decode cX8_who 32 = .ok (.iload 5, 2) := by decide +kernel
theorem dX8_who_34 : decode cX8_who 34 = .ok (.iload 4, 2) := by decide +kernel
theorem dX8_who_36 : decode cX8_who 36 = .ok (.if_icmp .lt 5, 3) := by decide +kernel
theorem dX8_who_39 : decode cX8_who 39 = .ok (.iconst (-1), 1) := by decide +kernel
theorem dX8_who_40 : decode cX8_who 40 = .ok (.ireturn, 1) := by decide +kernel
theorem dX8_who_41 : decode cX8_who 41 = .ok (.aload_n 0, 1) := by decide +kernel
theorem dX8_who_42 : decode cX8_who 42 = .ok (.getfield 42, 3) := by decide +kernel
theorem dX8_who_45 : decode cX8_who 45 = .ok (.iload_n 1, 1) := by decide +kernel
theorem dX8_who_46 : decode cX8_who 46 = .ok (.aaload, 1) := by decide +kernel
theorem dX8_who_47 : decode cX8_who 47 = .ok (.astore 6, 2) := by decide +kernel
theorem dX8_who_49 : decode cX8_who 49 = .ok (.aload 6, 2) := by decide +kernel
theorem dX8_who_51 : decode cX8_who 51 = .ok (.ifnonnull 6, 3) := by decide +kernel
theorem dX8_who_54 : decode cX8_who 54 = .ok (.bipush (-11), 2) := by decide +kernel
theorem dX8_who_56 : decode cX8_who 56 = .ok (.ireturn, 1) := by decide +kernel
theorem dX8_who_57 : decode cX8_who 57 = .ok (.aload 6, 2) := by decide +kernel
theorem dX8_who_59 : decode cX8_who 59 = .ok (.iload_n 2, 1) := by decide +kernel
theorem dX8_who_60 : decode cX8_who 60 = .ok (.iload_n 3, 1) := by decide +kernel
theorem dX8_who_61 : decode cX8_who 61 = .ok (.iconst 2, 1) := by decide +kernel
theorem dX8_who_62 : decode cX8_who 62 = .ok (.aload_n 0, 1) := by decide +kernel
theorem dX8_who_63 : decode cX8_who 63 = .ok (.getfield 10, 3) := by decide +kernel
theorem dX8_who_66 : decode cX8_who 66 = .ok (.getfield 98, 3) := by decide +kernel
theorem dX8_who_69 : decode cX8_who 69 = .ok (.imul, 1) := by decide +kernel
theorem dX8_who_70 : decode cX8_who 70 = .ok (.invokevirtual 244, 3) := by decide +kernel
theorem dX8_who_73 : decode cX8_who 73 = .ok (.istore 7, 2) := by decide +kernel
theorem dX8_who_75 : decode cX8_who 75 = .ok (.iload 7, 2) := by decide +kernel
theorem dX8_who_77 : decode cX8_who 77 = .ok (.ifCond .eq 6, 3) := by decide +kernel
theorem dX8_who_80 : decode cX8_who 80 = .ok (.iload 7, 2) := by decide +kernel
theorem dX8_who_82 : decode cX8_who 82 = .ok (.ireturn, 1) := by decide +kernel
theorem dX8_who_83 : decode cX8_who 83 = .ok (.aload 6, 2) := by decide +kernel
theorem dX8_who_85 : decode cX8_who 85 = .ok (.iload_n 3, 1) := by decide +kernel
theorem dX8_who_86 : decode cX8_who 86 = .ok (.iconst 2, 1) := by decide +kernel
theorem dX8_who_87 : decode cX8_who 87 = .ok (.aload_n 0, 1) := by decide +kernel
theorem dX8_who_88 : decode cX8_who 88 = .ok (.getfield 10, 3) := by decide +kernel
theorem dX8_who_91 : decode cX8_who 91 = .ok (.getfield 98, 3) := by decide +kernel
theorem dX8_who_94 : decode cX8_who 94 = .ok (.imul, 1) := by decide +kernel
theorem dX8_who_95 : decode cX8_who 95 = .ok (.invokevirtual 248, 3) := by decide +kernel
theorem dX8_who_98 : decode cX8_who 98 = .ok (.ifCond .ne 6, 3) := by decide +kernel
theorem dX8_who_101 : decode cX8_who 101 = .ok (.bipush (-2), 2) := by decide +kernel
theorem dX8_who_103 : decode cX8_who 103 = .ok (.ireturn, 1) := by decide +kernel
theorem dX8_who_104 : decode cX8_who 104 = .ok (.aload_n 0, 1) := by decide +kernel
theorem dX8_who_105 : decode cX8_who 105 = .ok (.getfield 80, 3) := by decide +kernel
theorem dX8_who_108 : decode cX8_who 108 = .ok (.aload_n 0, 1) := by decide +kernel
theorem dX8_who_109 : decode cX8_who 109 = .ok (.getfield 10, 3) := by decide +kernel
theorem dX8_who_112 : decode cX8_who 112 = .ok (.aload 6, 2) := by decide +kernel
theorem dX8_who_114 : decode cX8_who 114 = .ok (.iload_n 3, 1) := by decide +kernel
theorem dX8_who_115 : decode cX8_who 115 = .ok (.iload 4, 2) := by decide +kernel
theorem dX8_who_117 : decode cX8_who 117 = .ok (.invokevirtual 251, 3) := by decide +kernel
theorem dX8_who_120 : decode cX8_who 120 = .ok (.aload_n 0, 1) := by decide +kernel
theorem dX8_who_121 : decode cX8_who 121 = .ok (.getfield 80, 3) := by decide +kernel
theorem dX8_who_124 : decode cX8_who 124 = .ok (.getfield 254, 3) := by decide +kernel
theorem dX8_who_127 : decode cX8_who 127 = .ok (.ifCond .ne 6, 3) := by decide +kernel
theorem dX8_who_130 : decode cX8_who 130 = .ok (.bipush (-4), 2) := by decide +kernel
theorem dX8_who_132 : decode cX8_who 132 = .ok (.ireturn, 1) := by decide +kernel
theorem dX8_who_133 : decode cX8_who 133 = .ok (.iload 5, 2) := by decide +kernel
theorem dX8_who_135 : decode cX8_who 135 = .ok (.ifCond .ge 13, 3) := by decide +kernel
theorem dX8_who_138 : decode cX8_who 138 = .ok (.aload_n 0, 1) := by decide +kernel
theorem dX8_who_139 : decode cX8_who 139 = .ok (.getfield 80, 3) := by decide +kernel
theorem dX8_who_142 : decode cX8_who 142 = .ok (.getfield 254, 3) := by decide +kernel
theorem dX8_who_145 : decode cX8_who 145 = .ok (.goto 13, 3) := by decide +kernel
theorem dX8_who_148 : decode cX8_who 148 = .ok (.aload_n 0, 1) := by decide +kernel
theorem dX8_who_149 : decode cX8_who 149 = .ok (.getfield 80, 3) := by decide +kernel
theorem dX8_who_152 : decode cX8_who 152 = .ok (.getfield 257, 3) := by decide +kernel
theorem dX8_who_155 : decode cX8_who 155 = .ok (.iload 5, 2) := by decide +kernel
theorem dX8_who_157 : decode cX8_who 157 = .ok (.iaload, 1) := by decide +kernel
theorem dX8_who_158 : decode cX8_who 158 = .ok (.ireturn, 1) := by decide +kernel
set_option maxRecDepth 20000 in
theorem ggX8_sheet_X8_isSheet : GoodIn wsX8_sheet wsX8_isSheet := goodIn_r _ [8] (by decide +kernel) (by decide +kernel)
set_option maxRecDepth 20000 in
theorem gX8_sheet_X8_isSheet : GoodIn wsX8_sheet (va_wsS RX8 238 yX8_isSheet wsX8_isSheet) := goodIn_app (goodIn_of _ (by decide +kernel)) ggX8_sheet_X8_isSheet
set_option maxRecDepth 20000 in
theorem ggX8_sheet_X8_isLane : GoodIn wsX8_sheet wsX8_isLane := goodIn_r _ [11] (by decide +kernel) (by decide +kernel)
set_option maxRecDepth 20000 in
theorem gX8_sheet_X8_isLane : GoodIn wsX8_sheet (va_wsS RX8 241 yX8_isLane wsX8_isLane) := goodIn_app (goodIn_of _ (by decide +kernel)) ggX8_sheet_X8_isLane
set_option maxRecDepth 20000 in
theorem ggX8_sheet_X4_init : GoodIn wsX8_sheet wsX4_init := goodIn_r _ [14, 15, 16, 17, 18, 19, 20, 21, 22, 23, 24, 25, 26, 27, 45, 46] (by decide +kernel) (by decide +kernel)
set_option maxRecDepth 20000 in
theorem gX8_sheet_X4_init : GoodIn wsX8_sheet (wsX4_init) := ggX8_sheet_X4_init
theorem dX8_sheet_0 : decode cX8_sheet 0 = .ok (.iload_n 1, 1) := by decide +kernel
theorem dX8_sheet_1 : decode cX8_sheet 1 = .ok (.invokestatic 238, 3) := by decide +kernel
theorem dX8_sheet_4 : decode cX8_sheet 4 = .ok (.ifCond .eq 16, 3) := by decide +kernel
theorem dX8_sheet_7 : decode cX8_sheet 7 = .ok (.iload_n 2, 1) := by decide +kernel
theorem dX8_sheet_8 : decode cX8_sheet 8 = .ok (.invokestatic 241, 3) := by decide +kernel
theorem dX8_sheet_11 : decode cX8_sheet 11 = .ok (.ifCond .eq 9, 3) := by decide +kernel
theorem dX8_sheet_14 : decode cX8_sheet 14 = .ok (.iload_n 3, 1) := by decide +kernel
theorem dX8_sheet_15 : decode cX8_sheet 15 = .ok (.bipush 24, 2) := by decide +kernel
theorem dX8_sheet_17 : decode cX8_sheet 17 = .ok (.if_icmp .le 5, 3) := by decide +kernel
theorem dX8_sheet_20 : decode cX8_sheet 20 = .ok (.iconst (-1), 1) := by decide +kernel
theorem dX8_sheet_21 : decode cX8_sheet 21 = .ok (.ireturn, 1) := by decide +kernel
theorem dX8_sheet_22 : decode cX8_sheet 22 = .ok (.iload_n 3, 1) := by decide +kernel
theorem dX8_sheet_23 : decode cX8_sheet 23 = .ok (.ifCond .ge 6, 3) := by decide +kernel
theorem dX8_sheet_26 : decode cX8_sheet 26 = .ok (.bipush (-14), 2) := by decide +kernel
theorem dX8_sheet_28 : decode cX8_sheet 28 = .ok (.ireturn, 1) := by decide +kernel
theorem dX8_sheet_29 : decode cX8_sheet 29 = .ok (.aload_n 0, 1) := by decide +kernel
theorem dX8_sheet_30 : decode cX8_sheet 30 = .ok (.getfield 42, 3) := by decide +kernel
theorem dX8_sheet_33 : decode cX8_sheet 33 = .ok (.iload_n 1, 1) := by decide +kernel
theorem dX8_sheet_34 : decode cX8_sheet 34 = .ok (.new 40, 3) := by decide +kernel
theorem dX8_sheet_37 : decode cX8_sheet 37 = .ok (.dup, 1) := by decide +kernel
theorem dX8_sheet_38 : decode cX8_sheet 38 = .ok (.iload_n 2, 1) := by decide +kernel
theorem dX8_sheet_39 : decode cX8_sheet 39 = .ok (.iload_n 3, 1) := by decide +kernel
theorem dX8_sheet_40 : decode cX8_sheet 40 = .ok (.invokespecial 258, 3) := by decide +kernel
theorem dX8_sheet_43 : decode cX8_sheet 43 = .ok (.aastore, 1) := by decide +kernel
theorem dX8_sheet_44 : decode cX8_sheet 44 = .ok (.iload_n 3, 1) := by decide +kernel
theorem dX8_sheet_45 : decode cX8_sheet 45 = .ok (.ireturn, 1) := by decide +kernel
set_option maxRecDepth 20000 in
theorem ggX8_drop_X8_isSheet : GoodIn wsX8_drop wsX8_isSheet := goodIn_r _ [6] (by decide +kernel) (by decide +kernel)
set_option maxRecDepth 20000 in
theorem gX8_drop_X8_isSheet : GoodIn wsX8_drop (va_wsS RX8 238 yX8_isSheet wsX8_isSheet) := goodIn_app (goodIn_of _ (by decide +kernel)) ggX8_drop_X8_isSheet
theorem dX8_drop_0 : decode cX8_drop 0 = .ok (.iload_n 1, 1) := by decide +kernel
theorem dX8_drop_1 : decode cX8_drop 1 = .ok (.invokestatic 238, 3) := by decide +kernel
theorem dX8_drop_4 : decode cX8_drop 4 = .ok (.ifCond .ne 5, 3) := by decide +kernel
theorem dX8_drop_7 : decode cX8_drop 7 = .ok (.iconst (-1), 1) := by decide +kernel
theorem dX8_drop_8 : decode cX8_drop 8 = .ok (.ireturn, 1) := by decide +kernel
theorem dX8_drop_9 : decode cX8_drop 9 = .ok (.aload_n 0, 1) := by decide +kernel
theorem dX8_drop_10 : decode cX8_drop 10 = .ok (.getfield 42, 3) := by decide +kernel
theorem dX8_drop_13 : decode cX8_drop 13 = .ok (.iload_n 1, 1) := by decide +kernel
theorem dX8_drop_14 : decode cX8_drop 14 = .ok (.aaload, 1) := by decide +kernel
theorem dX8_drop_15 : decode cX8_drop 15 = .ok (.astore_n 2, 1) := by decide +kernel
theorem dX8_drop_16 : decode cX8_drop 16 = .ok (.aload_n 2, 1) := by decide +kernel
theorem dX8_drop_17 : decode cX8_drop 17 = .ok (.ifnonnull 6, 3) := by decide +kernel
theorem dX8_drop_20 : decode cX8_drop 20 = .ok (.bipush (-11), 2) := by decide +kernel
theorem dX8_drop_22 : decode cX8_drop 22 = .ok (.ireturn, 1) := by decide +kernel
theorem dX8_drop_23 : decode cX8_drop 23 = .ok (.aload_n 0, 1) := by decide +kernel
theorem dX8_drop_24 : decode cX8_drop 24 = .ok (.getfield 42, 3) := by decide +kernel
theorem dX8_drop_27 : decode cX8_drop 27 = .ok (.iload_n 1, 1) := by decide +kernel
theorem dX8_drop_28 : decode cX8_drop 28 = .ok (.aconst_null, 1) := by decide +kernel
theorem dX8_drop_29 : decode cX8_drop 29 = .ok (.aastore, 1) := by decide +kernel
theorem dX8_drop_30 : decode cX8_drop 30 = .ok (.aload_n 2, 1) := by decide +kernel
theorem dX8_drop_31 : decode cX8_drop 31 = .ok (.getfield 260, 3) := by decide +kernel
theorem dX8_drop_34 : decode cX8_drop 34 = .ok (.arraylength, 1) := by decide +kernel
theorem dX8_drop_35 : decode cX8_drop 35 = .ok (.ireturn, 1) := by decide +kernel
set_option maxRecDepth 20000 in
theorem ggX8_item_X8_isSheet : GoodIn wsX8_item wsX8_isSheet := goodIn_r _ [5] (by decide +kernel) (by decide +kernel)
set_option maxRecDepth 20000 in
theorem gX8_item_X8_isSheet : GoodIn wsX8_item (va_wsS RX8 238 yX8_isSheet wsX8_isSheet) := goodIn_app (goodIn_of _ (by decide +kernel)) ggX8_item_X8_isSheet
set_option maxRecDepth 20000 in
theorem ggX8_item_X8_isLane : GoodIn wsX8_item wsX8_isLane := goodIn_r _ [8] (by decide +kernel) (by decide +kernel)
set_option maxRecDepth 20000 in
theorem gX8_item_X8_isLane : GoodIn wsX8_item (va_wsS RX8 241 yX8_isLane wsX8_isLane) := goodIn_app (goodIn_of _ (by decide +kernel)) ggX8_item_X8_isLane
set_option maxRecDepth 20000 in
theorem ggX8_item_X4_lookAt : GoodIn wsX8_item wsX4_lookAt := goodIn_r _ [13, 14, 15, 16, 17, 12, 18, 19, 41, 42] (by decide +kernel) (by decide +kernel)
set_option maxRecDepth 20000 in
theorem gX8_item_X4_lookAt : GoodIn wsX8_item (wsV RX8 244 RX4 yX4_lookAt wsX4_lookAt) := goodIn_app (goodIn_of _ (by decide +kernel)) ggX8_item_X4_lookAt
set_option maxRecDepth 20000 in
theorem ggX8_item_X4_put : GoodIn wsX8_item wsX4_put := goodIn_r _ [23, 14, 19, 41, 42] (by decide +kernel) (by decide +kernel)
set_option maxRecDepth 20000 in
theorem gX8_item_X4_put : GoodIn wsX8_item (wsV RX8 263 RX4 yX4_put wsX4_put) := goodIn_app (goodIn_of _ (by decide +kernel)) ggX8_item_X4_put
theorem dX8_item_0 : decode cX8_item 0 = .ok (.iload_n 1, 1) := by decide +kernel
theorem dX8_item_1 : decode cX8_item 1 = .ok (.invokestatic 238, 3) := by decide +kernel
theorem dX8_item_4 : decode cX8_item 4 = .ok (.ifCond .eq 10, 3) := by decide +kernel
theorem dX8_item_7 : decode cX8_item 7 = .ok (.iload_n 2, 1) := by decide +kernel
theorem dX8_item_8 : decode cX8_item 8 = .ok (.invokestatic 241, 3) := by decide +kernel
theorem dX8_item_11 : decode cX8_item 11 = .ok (.ifCond .ne 5, 3) := by decide +kernel
theorem dX8_item_14 : decode cX8_item 14 = .ok (.iconst (-1), 1) := by decide +kernel
theorem dX8_item_15 : decode cX8_item 15 = .ok (.ireturn, 1) := by decide +kernel
theorem dX8_item_16 : decode cX8_item 16 = .ok (.aload_n 0, 1) := by decide +kernel
theorem dX8_item_17 : decode cX8_item 17 = .ok (.getfield 42, 3) := by decide +kernel
theorem dX8_item_20 : decode cX8_item 20 = .ok (.iload_n 1, 1) := by decide +kernel
theorem dX8_item_21 : decode cX8_item 21 = .ok (.aaload, 1) := by decide +kernel
theorem dX8_item_22 : decode cX8_item 22 = .ok (.astore 6, 2) := by decide +kernel
theorem dX8_item_24 : decode cX8_item 24 = .ok (.aload 6, 2) := by decide +kernel
theorem dX8_item_26 : decode cX8_item 26 = .ok (.ifnonnull 6, 3) := by decide +kernel
theorem dX8_item_29 : decode cX8_item 29 = .ok (.bipush (-11), 2) := by decide +kernel
theorem dX8_item_31 : decode cX8_item 31 = .ok (.ireturn, 1) := by decide +kernel
theorem dX8_item_32 : decode cX8_item 32 = .ok (.aload 6, 2) := by decide +kernel
theorem dX8_item_34 : decode cX8_item 34 = .ok (.iload_n 2, 1) := by decide +kernel
theorem dX8_item_35 : decode cX8_item 35 = .ok (.iload_n 3, 1) := by decide +kernel
theorem dX8_item_36 : decode cX8_item 36 = .ok (.iconst 1, 1) := by decide +kernel
theorem dX8_item_37 : decode cX8_item 37 = .ok (.invokevirtual 244, 3) := by decide +kernel
theorem dX8_item_40 : decode cX8_item 40 = .ok (.istore 7, 2) := by decide +kernel
theorem dX8_item_42 : decode cX8_item 42 = .ok (.iload 7, 2) := by decide +kernel
theorem dX8_item_44 : decode cX8_item 44 = .ok (.ifCond .eq 6, 3) := by decide +kernel
theorem dX8_item_47 : decode cX8_item 47 = .ok (.iload 7, 2) := by decide +kernel
theorem dX8_item_49 : decode cX8_item 49 = .ok (.ireturn, 1) := by decide +kernel
theorem dX8_item_50 : decode cX8_item 50 = .ok (.aload 6, 2) := by decide +kernel
theorem dX8_item_52 : decode cX8_item 52 = .ok (.iload_n 3, 1) := by decide +kernel
theorem dX8_item_53 : decode cX8_item 53 = .ok (.lload 4, 2) := by decide +kernel
theorem dX8_item_55 : decode cX8_item 55 = .ok (.invokevirtual 263, 3) := by decide +kernel
theorem dX8_item_58 : decode cX8_item 58 = .ok (.iconst 1, 1) := by decide +kernel
theorem dX8_item_59 : decode cX8_item 59 = .ok (.ireturn, 1) := by decide +kernel
set_option maxRecDepth 20000 in
theorem ggX8_film_X8_isSheet : GoodIn wsX8_film wsX8_isSheet := goodIn_r _ [8] (by decide +kernel) (by decide +kernel)
set_option maxRecDepth 20000 in
theorem gX8_film_X8_isSheet : GoodIn wsX8_film (va_wsS RX8 238 yX8_isSheet wsX8_isSheet) := goodIn_app (goodIn_of _ (by decide +kernel)) ggX8_film_X8_isSheet
set_option maxRecDepth 20000 in
theorem ggX8_film_X8_isLane : GoodIn wsX8_film wsX8_isLane := goodIn_r _ [11] (by decide +kernel) (by decide +kernel)
set_option maxRecDepth 20000 in
theorem gX8_film_X8_isLane : GoodIn wsX8_film (va_wsS RX8 241 yX8_isLane wsX8_isLane) := goodIn_app (goodIn_of _ (by decide +kernel)) ggX8_film_X8_isLane
set_option maxRecDepth 20000 in
theorem ggX8_film_X4_lookAt : GoodIn wsX8_film wsX4_lookAt := goodIn_r _ [16, 17, 18, 19, 20, 15, 21, 22, 49, 50] (by decide +kernel) (by decide +kernel)
set_option maxRecDepth 20000 in
theorem gX8_film_X4_lookAt : GoodIn wsX8_film (wsV RX8 244 RX4 yX4_lookAt wsX4_lookAt) := goodIn_app (goodIn_of _ (by decide +kernel)) ggX8_film_X4_lookAt
set_option maxRecDepth 20000 in
theorem ggX8_film_X4_put : GoodIn wsX8_film wsX4_put := goodIn_r _ [26, 17, 22, 49, 50] (by decide +kernel) (by decide +kernel)
set_option maxRecDepth 20000 in
theorem gX8_film_X4_put : GoodIn wsX8_film (wsV RX8 263 RX4 yX4_put wsX4_put) := goodIn_app (goodIn_of _ (by decide +kernel)) ggX8_film_X4_put
theorem dX8_film_0 : decode cX8_film 0 = .ok (.iload_n 1, 1) := by decide +kernel
theorem dX8_film_1 : decode cX8_film 1 = .ok (.invokestatic 238, 3) := by decide +kernel
theorem dX8_film_4 : decode cX8_film 4 = .ok (.ifCond .eq 10, 3) := by decide +kernel
theorem dX8_film_7 : decode cX8_film 7 = .ok (.iload_n 2, 1) := by decide +kernel
theorem dX8_film_8 : decode cX8_film 8 = .ok (.invokestatic 241, 3) := by decide +kernel
theorem dX8_film_11 : decode cX8_film 11 = .ok (.ifCond .ne 5, 3) := by decide +kernel
theorem dX8_film_14 : decode cX8_film 14 = .ok (.iconst (-1), 1) := by decide +kernel
theorem dX8_film_15 : decode cX8_film 15 = .ok (.ireturn, 1) := by decide +kernel
theorem dX8_film_16 : decode cX8_film 16 = .ok (.aload_n 0, 1) := by decide +kernel
theorem dX8_film_17 : decode cX8_film 17 = .ok (.getfield 42, 3) := by decide +kernel
theorem dX8_film_20 : decode cX8_film 20 = .ok (.iload_n 1, 1) := by decide +kernel
theorem dX8_film_21 : decode cX8_film 21 = .ok (.aaload, 1) := by decide +kernel
theorem dX8_film_22 : decode cX8_film 22 = .ok (.astore 4, 2) := by decide +kernel
theorem dX8_film_24 : decode cX8_film 24 = .ok (.aload 4, 2) := by decide +kernel
theorem dX8_film_26 : decode cX8_film 26 = .ok (.ifnonnull 6, 3) := by decide +kernel
theorem dX8_film_29 : decode cX8_film 29 = .ok (.bipush (-11), 2) := by decide +kernel
theorem dX8_film_31 : decode cX8_film 31 = .ok (.ireturn, 1) := by decide +kernel
theorem dX8_film_32 : decode cX8_film 32 = .ok (.aload 4, 2) := by decide +kernel
theorem dX8_film_34 : decode cX8_film 34 = .ok (.iload_n 2, 1) := by decide +kernel
theorem dX8_film_35 : decode cX8_film 35 = .ok (.iload_n 3, 1) := by decide +kernel
theorem dX8_film_36 : decode cX8_film 36 = .ok (.aload_n 0, 1) := by decide +kernel
theorem dX8_film_37 : decode cX8_film 37 = .ok (.getfield 10, 3) := by decide +kernel
theorem dX8_film_40 : decode cX8_film 40 = .ok (.getfield 98, 3) := by decide +kernel
theorem dX8_film_43 : decode cX8_film 43 = .ok (.invokevirtual 244, 3) := by decide +kernel
theorem dX8_film_46 : decode cX8_film 46 = .ok (.istore 5, 2) := by decide +kernel
theorem dX8_film_48 : decode cX8_film 48 = .ok (.iload 5, 2) := by decide +kernel
theorem dX8_film_50 : decode cX8_film 50 = .ok (.ifCond .eq 6, 3) := by decide +kernel
theorem dX8_film_53 : decode cX8_film 53 = .ok (.iload 5, 2) := by decide +kernel
theorem dX8_film_55 : decode cX8_film 55 = .ok (.ireturn, 1) := by decide +kernel
theorem dX8_film_56 : decode cX8_film 56 = .ok (.iconst 0, 1) := by decide +kernel
theorem dX8_film_57 : decode cX8_film 57 = .ok (.istore 6, 2) := by decide +kernel
theorem dX8_film_59 : decode cX8_film 59 = .ok (.iload 6, 2) := by decide +kernel
theorem dX8_film_61 : decode cX8_film 61 = .ok (.aload_n 0, 1) := by decide +kernel
theorem dX8_film_62 : decode cX8_film 62 = .ok (.getfield 10, 3) := by decide +kernel
end
section
theorem dX8_film_65 : decode cX8_film 65 = .ok (.getfield 98, 3) := by decide +kernel
theorem dX8_film_68 : decode cX8_film 68 = .ok (.if_icmp .ge 29, 3) := by decide +kernel
theorem dX8_film_71 : decode cX8_film 71 = .ok (.aload 4, 2) := by decide +kernel
theorem dX8_film_73 : decode cX8_film 73 = .ok (.iload_n 3, 1) := by decide +kernel
theorem dX8_film_74 : decode cX8_film 74 = .ok (.iload 6, 2) := by decide +kernel
theorem dX8_film_76 : decode cX8_film 76 = .ok (.iadd, 1) := by decide +kernel
theorem dX8_film_77 : decode cX8_film 77 = .ok (.aload_n 0, 1) := by decide +kernel
theorem dX8_film_78 : decode cX8_film 78 = .ok (.getfield 10, 3) := by decide +kernel
theorem dX8_film_81 : decode cX8_film 81 = .ok (.getfield 111, 3) := by decide +kernel
theorem dX8_film_84 : decode cX8_film 84 = .ok (.iload 6, 2) := by decide +kernel
theorem dX8_film_86 : decode cX8_film 86 = .ok (.iaload, 1) := by decide +kernel
theorem dX8_film_87 : decode cX8_film 87 = .ok (.i2l, 1) := by decide +kernel
theorem dX8_film_88 : decode cX8_film 88 = .ok (.invokevirtual 263, 3) := by decide +kernel
theorem dX8_film_91 : decode cX8_film 91 = .ok (.iinc 6 1, 3) := by decide +kernel
theorem dX8_film_94 : decode cX8_film 94 = .ok (.goto (-35), 3) := by decide +kernel
theorem dX8_film_97 : decode cX8_film 97 = .ok (.aload_n 0, 1) := by decide +kernel
theorem dX8_film_98 : decode cX8_film 98 = .ok (.getfield 10, 3) := by decide +kernel
theorem dX8_film_101 : decode cX8_film 101 = .ok (.getfield 98, 3) := by decide +kernel
theorem dX8_film_104 : decode cX8_film 104 = .ok (.ireturn, 1) := by decide +kernel
set_option maxRecDepth 20000 in
theorem ggX8_copy_X8_isSheet : GoodIn wsX8_copy wsX8_isSheet := goodIn_r _ [11] (by decide +kernel) (by decide +kernel)
set_option maxRecDepth 20000 in
theorem gX8_copy_X8_isSheet : GoodIn wsX8_copy (va_wsS RX8 238 yX8_isSheet wsX8_isSheet) := goodIn_app (goodIn_of _ (by decide +kernel)) ggX8_copy_X8_isSheet
set_option maxRecDepth 20000 in
theorem ggX8_copy_X4_reaches : GoodIn wsX8_copy wsX4_reaches := goodIn_r _ [16, 17, 35, 36] (by decide +kernel) (by decide +kernel)
set_option maxRecDepth 20000 in
theorem gX8_copy_X4_reaches : GoodIn wsX8_copy (wsV RX8 270 RX4 yX4_reaches wsX4_reaches) := goodIn_app (goodIn_of _ (by decide +kernel)) ggX8_copy_X4_reaches
theorem dX8_copy_0 : decode cX8_copy 0 = .ok (.iload_n 1, 1) := by decide +kernel
theorem dX8_copy_1 : decode cX8_copy 1 = .ok (.invokestatic 238, 3) := by decide +kernel
theorem dX8_copy_4 : decode cX8_copy 4 = .ok (.ifCond .eq 10, 3) := by decide +kernel
theorem dX8_copy_7 : decode cX8_copy 7 = .ok (.iload_n 3, 1) := by decide +kernel
theorem dX8_copy_8 : decode cX8_copy 8 = .ok (.invokestatic 238, 3) := by decide +kernel
theorem dX8_copy_11 : decode cX8_copy 11 = .ok (.ifCond .ne 5, 3) := by decide +kernel
theorem dX8_copy_14 : decode cX8_copy 14 = .ok (.iconst (-1), 1) := by decide +kernel
theorem dX8_copy_15 : decode cX8_copy 15 = .ok (.ireturn, 1) := by decide +kernel
theorem dX8_copy_16 : decode cX8_copy 16 = .ok (.aload_n 0, 1) := by decide +kernel
theorem dX8_copy_17 : decode cX8_copy 17 = .ok (.getfield 42, 3) := by decide +kernel
theorem dX8_copy_20 : decode cX8_copy 20 = .ok (.iload_n 1, 1) := by decide +kernel
theorem dX8_copy_21 : decode cX8_copy 21 = .ok (.aaload, 1) := by decide +kernel
theorem dX8_copy_22 : decode cX8_copy 22 = .ok (.astore 6, 2) := by decide +kernel
theorem dX8_copy_24 : decode cX8_copy 24 = .ok (.aload_n 0, 1) := by decide +kernel
theorem dX8_copy_25 : decode cX8_copy 25 = .ok (.getfield 42, 3) := by decide +kernel
theorem dX8_copy_28 : decode cX8_copy 28 = .ok (.iload_n 3, 1) := by decide +kernel
theorem dX8_copy_29 : decode cX8_copy 29 = .ok (.aaload, 1) := by decide +kernel
theorem dX8_copy_30 : decode cX8_copy 30 = .ok (.astore 7, 2) := by decide +kernel
theorem dX8_copy_32 : decode cX8_copy 32 = .ok (.aload 6, 2) := by decide +kernel
theorem dX8_copy_34 : decode cX8_copy 34 = .ok (.ifnull 8, 3) := by decide +kernel
theorem dX8_copy_37 : decode cX8_copy 37 = .ok (.aload 7, 2) := by decide +kernel
theorem dX8_copy_39 : decode cX8_copy 39 = .ok (.ifnonnull 6, 3) := by decide +kernel
theorem dX8_copy_42 : decode cX8_copy 42 = .ok (.bipush (-11), 2) := by decide +kernel
theorem dX8_copy_44 : decode cX8_copy 44 = .ok (.ireturn, 1) := by decide +kernel
theorem dX8_copy_45 : decode cX8_copy 45 = .ok (.aload 6, 2) := by decide +kernel
theorem dX8_copy_47 : decode cX8_copy 47 = .ok (.getfield 267, 3) := by decide +kernel
theorem dX8_copy_50 : decode cX8_copy 50 = .ok (.aload 7, 2) := by decide +kernel
theorem dX8_copy_52 : decode cX8_copy 52 = .ok (.getfield 267, 3) := by decide +kernel
theorem dX8_copy_55 : decode cX8_copy 55 = .ok (.if_icmp .eq 6, 3) := by decide +kernel
theorem dX8_copy_58 : decode cX8_copy 58 = .ok (.bipush (-12), 2) := by decide +kernel
theorem dX8_copy_60 : decode cX8_copy 60 = .ok (.ireturn, 1) := by decide +kernel
theorem dX8_copy_61 : decode cX8_copy 61 = .ok (.aload 6, 2) := by decide +kernel
theorem dX8_copy_63 : decode cX8_copy 63 = .ok (.iload_n 2, 1) := by decide +kernel
theorem dX8_copy_64 : decode cX8_copy 64 = .ok (.iload 5, 2) := by decide +kernel
theorem dX8_copy_66 : decode cX8_copy 66 = .ok (.invokevirtual 270, 3) := by decide +kernel
theorem dX8_copy_69 : decode cX8_copy 69 = .ok (.ifCond .eq 15, 3) := by decide +kernel
theorem dX8_copy_72 : decode cX8_copy 72 = .ok (.aload 7, 2) := by decide +kernel
theorem dX8_copy_74 : decode cX8_copy 74 = .ok (.iload 4, 2) := by decide +kernel
theorem dX8_copy_76 : decode cX8_copy 76 = .ok (.iload 5, 2) := by decide +kernel
theorem dX8_copy_78 : decode cX8_copy 78 = .ok (.invokevirtual 270, 3) := by decide +kernel
theorem dX8_copy_81 : decode cX8_copy 81 = .ok (.ifCond .ne 6, 3) := by decide +kernel
theorem dX8_copy_84 : decode cX8_copy 84 = .ok (.bipush (-13), 2) := by decide +kernel
theorem dX8_copy_86 : decode cX8_copy 86 = .ok (.ireturn, 1) := by decide +kernel
theorem dX8_copy_87 : decode cX8_copy 87 = .ok (.aload 6, 2) := by decide +kernel
theorem dX8_copy_89 : decode cX8_copy 89 = .ok (.getfield 260, 3) := by decide +kernel
theorem dX8_copy_92 : decode cX8_copy 92 = .ok (.iload_n 2, 1) := by decide +kernel
theorem dX8_copy_93 : decode cX8_copy 93 = .ok (.aload 7, 2) := by decide +kernel
theorem dX8_copy_95 : decode cX8_copy 95 = .ok (.getfield 260, 3) := by decide +kernel
theorem dX8_copy_98 : decode cX8_copy 98 = .ok (.iload 4, 2) := by decide +kernel
theorem dX8_copy_100 : decode cX8_copy 100 = .ok (.iload 5, 2) := by decide +kernel
theorem dX8_copy_102 : decode cX8_copy 102 = .ok (.invokestatic 273, 3) := by decide +kernel
theorem dX8_copy_105 : decode cX8_copy 105 = .ok (.iload 5, 2) := by decide +kernel
theorem dX8_copy_107 : decode cX8_copy 107 = .ok (.ireturn, 1) := by decide +kernel
theorem dX8_isSum_0 : decode cX8_isSum 0 = .ok (.iload_n 0, 1) := by decide +kernel
theorem dX8_isSum_1 : decode cX8_isSum 1 = .ok (.ifCond .lt 14, 3) := by decide +kernel
theorem dX8_isSum_4 : decode cX8_isSum 4 = .ok (.iload_n 0, 1) := by decide +kernel
theorem dX8_isSum_5 : decode cX8_isSum 5 = .ok (.sipush 9999, 3) := by decide +kernel
theorem dX8_isSum_8 : decode cX8_isSum 8 = .ok (.if_icmp .gt 7, 3) := by decide +kernel
theorem dX8_isSum_11 : decode cX8_isSum 11 = .ok (.iconst 1, 1) := by decide +kernel
theorem dX8_isSum_12 : decode cX8_isSum 12 = .ok (.goto 4, 3) := by decide +kernel
theorem dX8_isSum_15 : decode cX8_isSum 15 = .ok (.iconst 0, 1) := by decide +kernel
theorem dX8_isSum_16 : decode cX8_isSum 16 = .ok (.ireturn, 1) := by decide +kernel
theorem dX8_isSheet_0 : decode cX8_isSheet 0 = .ok (.iload_n 0, 1) := by decide +kernel
theorem dX8_isSheet_1 : decode cX8_isSheet 1 = .ok (.ifCond .lt 12, 3) := by decide +kernel
theorem dX8_isSheet_4 : decode cX8_isSheet 4 = .ok (.iload_n 0, 1) := by decide +kernel
theorem dX8_isSheet_5 : decode cX8_isSheet 5 = .ok (.iconst 4, 1) := by decide +kernel
theorem dX8_isSheet_6 : decode cX8_isSheet 6 = .ok (.if_icmp .ge 7, 3) := by decide +kernel
theorem dX8_isSheet_9 : decode cX8_isSheet 9 = .ok (.iconst 1, 1) := by decide +kernel
theorem dX8_isSheet_10 : decode cX8_isSheet 10 = .ok (.goto 4, 3) := by decide +kernel
theorem dX8_isSheet_13 : decode cX8_isSheet 13 = .ok (.iconst 0, 1) := by decide +kernel
theorem dX8_isSheet_14 : decode cX8_isSheet 14 = .ok (.ireturn, 1) := by decide +kernel
theorem dX8_isLane_0 : decode cX8_isLane 0 = .ok (.iload_n 0, 1) := by decide +kernel
theorem dX8_isLane_1 : decode cX8_isLane 1 = .ok (.ifCond .lt 12, 3) := by decide +kernel
theorem dX8_isLane_4 : decode cX8_isLane 4 = .ok (.iload_n 0, 1) := by decide +kernel
theorem dX8_isLane_5 : decode cX8_isLane 5 = .ok (.iconst 3, 1) := by decide +kernel
theorem dX8_isLane_6 : decode cX8_isLane 6 = .ok (.if_icmp .ge 7, 3) := by decide +kernel
theorem dX8_isLane_9 : decode cX8_isLane 9 = .ok (.iconst 1, 1) := by decide +kernel
theorem dX8_isLane_10 : decode cX8_isLane 10 = .ok (.goto 4, 3) := by decide +kernel
theorem dX8_isLane_13 : decode cX8_isLane 13 = .ok (.iconst 0, 1) := by decide +kernel
theorem dX8_isLane_14 : decode cX8_isLane 14 = .ok (.ireturn, 1) := by decide +kernel
theorem dX8_forgetFound_0 : decode cX8_forgetFound 0 = .ok (.aload_n 0, 1) := by decide +kernel
theorem dX8_forgetFound_1 : decode cX8_forgetFound 1 = .ok (.bipush 9, 2) := by decide +kernel
theorem dX8_forgetFound_3 : decode cX8_forgetFound 3 = .ok (.putfield 84, 3) := by decide +kernel
theorem dX8_forgetFound_6 : decode cX8_forgetFound 6 = .ok (.aload_n 0, 1) := by decide +kernel
theorem dX8_forgetFound_7 : decode cX8_forgetFound 7 = .ok (.iconst 0, 1) := by decide +kernel
theorem dX8_forgetFound_8 : decode cX8_forgetFound 8 = .ok (.putfield 88, 3) := by decide +kernel
theorem dX8_forgetFound_11 : decode cX8_forgetFound 11 = .ok (.aload_n 0, 1) := by decide +kernel
theorem dX8_forgetFound_12 : decode cX8_forgetFound 12 = .ok (.iconst 0, 1) := by decide +kernel
theorem dX8_forgetFound_13 : decode cX8_forgetFound 13 = .ok (.putfield 91, 3) := by decide +kernel
theorem dX8_forgetFound_16 : decode cX8_forgetFound 16 = .ok (.return_, 1) := by decide +kernel
theorem dX9_init_0 : decode cX9_init 0 = .ok (.aload_n 0, 1) := by decide +kernel
theorem dX9_init_1 : decode cX9_init 1 = .ok (.invokespecial 1, 3) := by decide +kernel
theorem dX9_init_4 : decode cX9_init 4 = .ok (.aload_n 0, 1) := by decide +kernel
theorem dX9_init_5 : decode cX9_init 5 = .ok (.iconst 5, 1) := by decide +kernel
theorem dX9_init_6 : decode cX9_init 6 = .ok (.newarray .int, 2) := by decide +kernel
theorem dX9_init_8 : decode cX9_init 8 = .ok (.putfield 7, 3) := by decide +kernel
theorem dX9_init_11 : decode cX9_init 11 = .ok (.aload_n 0, 1) := by decide +kernel
theorem dX9_init_12 : decode cX9_init 12 = .ok (.iconst 5, 1) := by decide +kernel
theorem dX9_init_13 : decode cX9_init 13 = .ok (.newarray .int, 2) := by decide +kernel
theorem dX9_init_15 : decode cX9_init 15 = .ok (.putfield 13, 3) := by decide +kernel
theorem dX9_init_18 : decode cX9_init 18 = .ok (.aload_n 0, 1) := by decide +kernel
theorem dX9_init_19 : decode cX9_init 19 = .ok (.iconst 5, 1) := by decide +kernel
theorem dX9_init_20 : decode cX9_init 20 = .ok (.newarray .int, 2) := by decide +kernel
theorem dX9_init_22 : decode cX9_init 22 = .ok (.putfield 16, 3) := by decide +kernel
theorem dX9_init_25 : decode cX9_init 25 = .ok (.aload_n 0, 1) := by decide +kernel
theorem dX9_init_26 : decode cX9_init 26 = .ok (.iconst 5, 1) := by decide +kernel
theorem dX9_init_27 : decode cX9_init 27 = .ok (.newarray .int, 2) := by decide +kernel
theorem dX9_init_29 : decode cX9_init 29 = .ok (.putfield 19, 3) := by decide +kernel
theorem dX9_init_32 : decode cX9_init 32 = .ok (.aload_n 0, 1) := by decide +kernel
theorem dX9_init_33 : decode cX9_init 33 = .ok (.bipush 24, 2) := by decide +kernel
theorem dX9_init_35 : decode cX9_init 35 = .ok (.newarray .int, 2) := by decide +kernel
theorem dX9_init_37 : decode cX9_init 37 = .ok (.putfield 22, 3) := by decide +kernel
theorem dX9_init_40 : decode cX9_init 40 = .ok (.aload_n 0, 1) := by decide +kernel
theorem dX9_init_41 : decode cX9_init 41 = .ok (.iconst 5, 1) := by decide +kernel
theorem dX9_init_42 : decode cX9_init 42 = .ok (.newarray .int, 2) := by decide +kernel
theorem dX9_init_44 : decode cX9_init 44 = .ok (.putfield 25, 3) := by decide +kernel
theorem dX9_init_47 : decode cX9_init 47 = .ok (.aload_n 0, 1) := by decide +kernel
theorem dX9_init_48 : decode cX9_init 48 = .ok (.iconst 5, 1) := by decide +kernel
theorem dX9_init_49 : decode cX9_init 49 = .ok (.newarray .int, 2) := by decide +kernel
theorem dX9_init_51 : decode cX9_init 51 = .ok (.putfield 28, 3) := by decide +kernel
theorem dX9_init_54 : decode cX9_init 54 = .ok (.aload_n 0, 1) := by decide +kernel
theorem dX9_init_55 : decode cX9_init 55 = .ok (.bipush 80, 2) := by decide +kernel
theorem dX9_init_57 : decode cX9_init 57 = .ok (.newarray .int, 2) := by decide +kernel
theorem dX9_init_59 : decode cX9_init 59 = .ok (.putfield 31, 3) := by decide +kernel
theorem dX9_init_62 : decode cX9_init 62 = .ok (.aload_n 0, 1) := by decide +kernel
theorem dX9_init_63 : decode cX9_init 63 = .ok (.bipush 24, 2) := by decide +kernel
theorem dX9_init_65 : decode cX9_init 65 = .ok (.newarray .int, 2) := by decide +kernel
theorem dX9_init_67 : decode cX9_init 67 = .ok (.putfield 34, 3) := by decide +kernel
theorem dX9_init_70 : decode cX9_init 70 = .ok (.aload_n 0, 1) := by decide +kernel
theorem dX9_init_71 : decode cX9_init 71 = .ok (.iconst 5, 1) := by decide +kernel
theorem dX9_init_72 : decode cX9_init 72 = .ok (.newarray .int, 2) := by decide +kernel
theorem dX9_init_74 : decode cX9_init 74 = .ok (.putfield 37, 3) := by decide +kernel
theorem dX9_init_77 : decode cX9_init 77 = .ok (.aload_n 0, 1) := by decide +kernel
theorem dX9_init_78 : decode cX9_init 78 = .ok (.iconst 5, 1) := by decide +kernel
theorem dX9_init_79 : decode cX9_init 79 = .ok (.newarray .int, 2) := by decide +kernel
theorem dX9_init_81 : decode cX9_init 81 = .ok (.putfield 40, 3) := by decide +kernel
theorem dX9_init_84 : decode cX9_init 84 = .ok (.aload_n 0, 1) := by decide +kernel
theorem dX9_init_85 : decode cX9_init 85 = .ok (.bipush 30, 2) := by decide +kernel
theorem dX9_init_87 : decode cX9_init 87 = .ok (.newarray .int, 2) := by decide +kernel
theorem dX9_init_89 : decode cX9_init 89 = .ok (.putfield 43, 3) := by decide +kernel
theorem dX9_init_92 : decode cX9_init 92 = .ok (.aload_n 0, 1) := by decide +kernel
theorem dX9_init_93 : decode cX9_init 93 = .ok (.bipush 6, 2) := by decide +kernel
theorem dX9_init_95 : decode cX9_init 95 = .ok (.newarray .int, 2) := by decide +kernel
theorem dX9_init_97 : decode cX9_init 97 = .ok (.putfield 46, 3) := by decide +kernel
theorem dX9_init_100 : decode cX9_init 100 = .ok (.aload_n 0, 1) := by decide +kernel
theorem dX9_init_101 : decode cX9_init 101 = .ok (.bipush 30, 2) := by decide +kernel
theorem dX9_init_103 : decode cX9_init 103 = .ok (.newarray .int, 2) := by decide +kernel
theorem dX9_init_105 : decode cX9_init 105 = .ok (.putfield 49, 3) := by decide +kernel
theorem dX9_init_108 : decode cX9_init 108 = .ok (.aload_n 0, 1) := by decide +kernel
theorem dX9_init_109 : decode cX9_init 109 = .ok (.bipush 30, 2) := by decide +kernel
theorem dX9_init_111 : decode cX9_init 111 = .ok (.newarray .int, 2) := by decide +kernel
theorem dX9_init_113 : decode cX9_init 113 = .ok (.putfield 52, 3) := by decide +kernel
theorem dX9_init_116 : decode cX9_init 116 = .ok (.aload_n 0, 1) := by decide +kernel
theorem dX9_init_117 : decode cX9_init 117 = .ok (.bipush 8, 2) := by decide +kernel
theorem dX9_init_119 : decode cX9_init 119 = .ok (.newarray .int, 2) := by decide +kernel
theorem dX9_init_121 : decode cX9_init 121 = .ok (.putfield 55, 3) := by decide +kernel
theorem dX9_init_124 : decode cX9_init 124 = .ok (.aload_n 0, 1) := by decide +kernel
theorem dX9_init_125 : decode cX9_init 125 = .ok (.bipush 8, 2) := by decide +kernel
theorem dX9_init_127 : decode cX9_init 127 = .ok (.newarray .int, 2) := by decide +kernel
theorem dX9_init_129 : decode cX9_init 129 = .ok (.putfield 58, 3) := by decide +kernel
theorem dX9_init_132 : decode cX9_init 132 = .ok (.aload_n 0, 1) := by decide +kernel
theorem dX9_init_133 : decode cX9_init 133 = .ok (.iconst 5, 1) := by decide +kernel
theorem dX9_init_134 : decode cX9_init 134 = .ok (.newarray .long, 2) := by decide +kernel
theorem dX9_init_136 : decode cX9_init 136 = .ok (.putfield 61, 3) := by decide +kernel
theorem dX9_init_139 : decode cX9_init 139 = .ok (.aload_n 0, 1) := by decide +kernel
theorem dX9_init_140 : decode cX9_init 140 = .ok (.bipush 46, 2) := by decide +kernel
theorem dX9_init_142 : decode cX9_init 142 = .ok (.newarray .int, 2) := by decide +kernel
theorem dX9_init_144 : decode cX9_init 144 = .ok (.putfield 65, 3) := by decide +kernel
theorem dX9_init_147 : decode cX9_init 147 = .ok (.aload_n 0, 1) := by decide +kernel
theorem dX9_init_148 : decode cX9_init 148 = .ok (.iconst 4, 1) := by decide +kernel
theorem dX9_init_149 : decode cX9_init 149 = .ok (.newarray .int, 2) := by decide +kernel
theorem dX9_init_151 : decode cX9_init 151 = .ok (.putfield 68, 3) := by decide +kernel
theorem dX9_init_154 : decode cX9_init 154 = .ok (.aload_n 0, 1) := by decide +kernel
theorem dX9_init_155 : decode cX9_init 155 = .ok (.iconst 4, 1) := by decide +kernel
theorem dX9_init_156 : decode cX9_init 156 = .ok (.newarray .int, 2) := by decide +kernel
theorem dX9_init_158 : decode cX9_init 158 = .ok (.putfield 71, 3) := by decide +kernel
theorem dX9_init_161 : decode cX9_init 161 = .ok (.aload_n 0, 1) := by decide +kernel
theorem dX9_init_162 : decode cX9_init 162 = .ok (.bipush 96, 2) := by decide +kernel
theorem dX9_init_164 : decode cX9_init 164 = .ok (.newarray .long, 2) := by decide +kernel
theorem dX9_init_166 : decode cX9_init 166 = .ok (.putfield 74, 3) := by decide +kernel
theorem dX9_init_169 : decode cX9_init 169 = .ok (.aload_n 0, 1) := by decide +kernel
theorem dX9_init_170 : decode cX9_init 170 = .ok (.bipush 24, 2) := by decide +kernel
theorem dX9_init_172 : decode cX9_init 172 = .ok (.newarray .long, 2) := by decide +kernel
theorem dX9_init_174 : decode cX9_init 174 = .ok (.putfield 77, 3) := by decide +kernel
theorem dX9_init_177 : decode cX9_init 177 = .ok (.aload_n 0, 1) := by decide +kernel
theorem dX9_init_178 : decode cX9_init 178 = .ok (.iconst 3, 1) := by decide +kernel
theorem dX9_init_179 : decode cX9_init 179 = .ok (.newarray .int, 2) := by decide +kernel
theorem dX9_init_181 : decode cX9_init 181 = .ok (.putfield 80, 3) := by decide +kernel
theorem dX9_init_184 : decode cX9_init 184 = .ok (.aload_n 0, 1) := by decide +kernel
theorem dX9_init_185 : decode cX9_init 185 = .ok (.iconst 3, 1) := by decide +kernel
theorem dX9_init_186 : decode cX9_init 186 = .ok (.newarray .int, 2) := by decide +kernel
theorem dX9_init_188 : decode cX9_init 188 = .ok (.putfield 83, 3) := by decide +kernel
theorem dX9_init_191 : decode cX9_init 191 = .ok (.iconst 0, 1) := by decide +kernel
theorem dX9_init_192 : decode cX9_init 192 = .ok (.istore_n 1, 1) := by decide +kernel
theorem dX9_init_193 : decode cX9_init 193 = .ok (.iload_n 1, 1) := by decide +kernel
theorem dX9_init_194 : decode cX9_init 194 = .ok (.iconst 4, 1) := by decide +kernel
theorem dX9_init_195 : decode cX9_init 195 = .ok (.if_icmp .ge 16, 3) := by decide +kernel
theorem dX9_init_198 : decode cX9_init 198 = .ok (.aload_n 0, 1) := by decide +kernel
theorem dX9_init_199 : decode cX9_init 199 = .ok (.getfield 68, 3) := by decide +kernel
theorem dX9_init_202 : decode cX9_init 202 = .ok (.iload_n 1, 1) := by decide +kernel
theorem dX9_init_203 : decode cX9_init 203 = .ok (.iconst (-1), 1) := by decide +kernel
theorem dX9_init_204 : decode cX9_init 204 = .ok (.iastore, 1) := by decide +kernel
theorem dX9_init_205 : decode cX9_init 205 = .ok (.iinc 1 1, 3) := by decide +kernel
theorem dX9_init_208 : decode cX9_init 208 = .ok (.goto (-15), 3) := by decide +kernel
theorem dX9_init_211 : decode cX9_init 211 = .ok (.return_, 1) := by decide +kernel
theorem dX9_in_0 : decode cX9_in 0 = .ok (.lload_n 0, 1) := by decide +kernel
theorem dX9_in_1 : decode cX9_in 1 = .ok (.lload_n 2, 1) := by decide +kernel
theorem dX9_in_2 : decode cX9_in 2 = .ok (.lcmp, 1) := by decide +kernel
theorem dX9_in_3 : decode cX9_in 3 = .ok (.ifCond .lt 14, 3) := by decide +kernel
theorem dX9_in_6 : decode cX9_in 6 = .ok (.lload_n 0, 1) := by decide +kernel
theorem dX9_in_7 : decode cX9_in 7 = .ok (.lload 4, 2) := by decide +kernel
theorem dX9_in_9 : decode cX9_in 9 = .ok (.lcmp, 1) := by decide +kernel
theorem dX9_in_10 : decode cX9_in 10 = .ok (.ifCond .gt 7, 3) := by decide +kernel
theorem dX9_in_13 : decode cX9_in 13 = .ok (.iconst 1, 1) := by decide +kernel
theorem dX9_in_14 : decode cX9_in 14 = .ok (.goto 4, 3) := by decide +kernel
theorem dX9_in_17 : decode cX9_in 17 = .ok (.iconst 0, 1) := by decide +kernel
theorem dX9_in_18 : decode cX9_in 18 = .ok (.ireturn, 1) := by decide +kernel
set_option maxRecDepth 20000 in
theorem ggX9_isOne_X9_in : GoodIn wsX9_isOne wsX9_in := goodIn_r _ [5] (by decide +kernel) (by decide +kernel)
set_option maxRecDepth 20000 in
theorem gX9_isOne_X9_in : GoodIn wsX9_isOne (va_wsS RX9 90 yX9_in wsX9_in) := goodIn_app (goodIn_of _ (by decide +kernel)) ggX9_isOne_X9_in
theorem dX9_isOne_0 : decode cX9_isOne 0 = .ok (.iload_n 1, 1) := by decide +kernel
theorem dX9_isOne_1 : decode cX9_isOne 1 = .ok (.i2l, 1) := by decide +kernel
theorem dX9_isOne_2 : decode cX9_isOne 2 = .ok (.lconst 0, 1) := by decide +kernel
theorem dX9_isOne_3 : decode cX9_isOne 3 = .ok (.aload_n 0, 1) := by decide +kernel
theorem dX9_isOne_4 : decode cX9_isOne 4 = .ok (.getfield 86, 3) := by decide +kernel
theorem dX9_isOne_7 : decode cX9_isOne 7 = .ok (.iconst 1, 1) := by decide +kernel
theorem dX9_isOne_8 : decode cX9_isOne 8 = .ok (.isub, 1) := by decide +kernel
theorem dX9_isOne_9 : decode cX9_isOne 9 = .ok (.i2l, 1) := by decide +kernel
theorem dX9_isOne_10 : decode cX9_isOne 10 = .ok (.invokestatic 90, 3) := by decide +kernel
theorem dX9_isOne_13 : decode cX9_isOne 13 = .ok (.ireturn, 1) := by decide +kernel
set_option maxRecDepth 20000 in
theorem ggX9_areTwo_X9_isOne : GoodIn wsX9_areTwo wsX9_isOne := goodIn_r _ [5, 6, 7, 8, 4, 9, 10, 11, 12, 13, 14, 15, 16, 17, 18, 19, 20, 21, 22, 23, 24, 25, 26, 27, 28, 29, 30, 31, 32, 33, 34, 35, 36, 37, 38, 39, 40] (by decide +kernel) (by decide +kernel)
set_option maxRecDepth 20000 in
theorem gX9_areTwo_X9_isOne : GoodIn wsX9_areTwo (wsV RX9 94 RX9 yX9_isOne wsX9_isOne) := goodIn_app (goodIn_of _ (by decide +kernel)) ggX9_areTwo_X9_isOne
theorem dX9_areTwo_0 : decode cX9_areTwo 0 = .ok (.aload_n 0, 1) := by decide +kernel
theorem dX9_areTwo_1 : decode cX9_areTwo 1 = .ok (.iload_n 1, 1) := by decide +kernel
theorem dX9_areTwo_2 : decode cX9_areTwo 2 = .ok (.invokevirtual 94, 3) := by decide +kernel
theorem dX9_areTwo_5 : decode cX9_areTwo 5 = .ok (.ifCond .eq 20, 3) := by decide +kernel
theorem dX9_areTwo_8 : decode cX9_areTwo 8 = .ok (.aload_n 0, 1) := by decide +kernel
theorem dX9_areTwo_9 : decode cX9_areTwo 9 = .ok (.iload_n 2, 1) := by decide +kernel
theorem dX9_areTwo_10 : decode cX9_areTwo 10 = .ok (.invokevirtual 94, 3) := by decide +kernel
theorem dX9_areTwo_13 : decode cX9_areTwo 13 = .ok (.ifCond .eq 12, 3) := by decide +kernel
theorem dX9_areTwo_16 : decode cX9_areTwo 16 = .ok (.iload_n 1, 1) := by decide +kernel
theorem dX9_areTwo_17 : decode cX9_areTwo 17 = .ok (.iload_n 2, 1) := by decide +kernel
theorem dX9_areTwo_18 : decode cX9_areTwo 18 = .ok (.if_icmp .eq 7, 3) := by decide +kernel
theorem dX9_areTwo_21 : decode cX9_areTwo 21 = .ok (.iconst 1, 1) := by decide +kernel
theorem dX9_areTwo_22 : decode cX9_areTwo 22 = .ok (.goto 4, 3) := by decide +kernel
theorem dX9_areTwo_25 : decode cX9_areTwo 25 = .ok (.iconst 0, 1) := by decide +kernel
theorem dX9_areTwo_26 : decode cX9_areTwo 26 = .ok (.ireturn, 1) := by decide +kernel
theorem dX9_add_0 : decode cX9_add 0 = .ok (.aload_n 0, 1) := by decide +kernel
theorem dX9_add_1 : decode cX9_add 1 = .ok (.getfield 7, 3) := by decide +kernel
theorem dX9_add_4 : decode cX9_add 4 = .ok (.aload_n 0, 1) := by decide +kernel
theorem dX9_add_5 : decode cX9_add 5 = .ok (.getfield 86, 3) := by decide +kernel
theorem dX9_add_8 : decode cX9_add 8 = .ok (.iload_n 1, 1) := by decide +kernel
theorem dX9_add_9 : decode cX9_add 9 = .ok (.iastore, 1) := by decide +kernel
theorem dX9_add_10 : decode cX9_add 10 = .ok (.aload_n 0, 1) := by decide +kernel
theorem dX9_add_11 : decode cX9_add 11 = .ok (.getfield 13, 3) := by decide +kernel
theorem dX9_add_14 : decode cX9_add 14 = .ok (.aload_n 0, 1) := by decide +kernel
theorem dX9_add_15 : decode cX9_add 15 = .ok (.getfield 86, 3) := by decide +kernel
theorem dX9_add_18 : decode cX9_add 18 = .ok (.iload_n 2, 1) := by decide +kernel
theorem dX9_add_19 : decode cX9_add 19 = .ok (.iastore, 1) := by decide +kernel
theorem dX9_add_20 : decode cX9_add 20 = .ok (.aload_n 0, 1) := by decide +kernel
theorem dX9_add_21 : decode cX9_add 21 = .ok (.getfield 16, 3) := by decide +kernel
theorem dX9_add_24 : decode cX9_add 24 = .ok (.aload_n 0, 1) := by decide +kernel
theorem dX9_add_25 : decode cX9_add 25 = .ok (.getfield 86, 3) := by decide +kernel
theorem dX9_add_28 : decode cX9_add 28 = .ok (.iconst 0, 1) := by decide +kernel
theorem dX9_add_29 : decode cX9_add 29 = .ok (.iastore, 1) := by decide +kernel
theorem dX9_add_30 : decode cX9_add 30 = .ok (.aload_n 0, 1) := by decide +kernel
theorem dX9_add_31 : decode cX9_add 31 = .ok (.getfield 19, 3) := by decide +kernel
theorem dX9_add_34 : decode cX9_add 34 = .ok (.aload_n 0, 1) := by decide +kernel
theorem dX9_add_35 : decode cX9_add 35 = .ok (.getfield 86, 3) := by decide +kernel
theorem dX9_add_38 : decode cX9_add 38 = .ok (.iconst 0, 1) := by decide +kernel
theorem dX9_add_39 : decode cX9_add 39 = .ok (.iastore, 1) := by decide +kernel
theorem dX9_add_40 : decode cX9_add 40 = .ok (.iconst 0, 1) := by decide +kernel
theorem dX9_add_41 : decode cX9_add 41 = .ok (.istore_n 3, 1) := by decide +kernel
theorem dX9_add_42 : decode cX9_add 42 = .ok (.iload_n 3, 1) := by decide +kernel
theorem dX9_add_43 : decode cX9_add 43 = .ok (.aload_n 0, 1) := by decide +kernel
theorem dX9_add_44 : decode cX9_add 44 = .ok (.getfield 86, 3) := by decide +kernel
theorem dX9_add_47 : decode cX9_add 47 = .ok (.if_icmp .ge 39, 3) := by decide +kernel
theorem dX9_add_50 : decode cX9_add 50 = .ok (.aload_n 0, 1) := by decide +kernel
theorem dX9_add_51 : decode cX9_add 51 = .ok (.getfield 16, 3) := by decide +kernel
theorem dX9_add_54 : decode cX9_add 54 = .ok (.iload_n 3, 1) := by decide +kernel
theorem dX9_add_55 : decode cX9_add 55 = .ok (.dup2, 1) := by decide +kernel
theorem dX9_add_56 : decode cX9_add 56 = .ok (.iaload, 1) := by decide +kernel
theorem dX9_add_57 : decode cX9_add 57 = .ok (.iconst 1, 1) := by decide +kernel
theorem dX9_add_58 : decode cX9_add 58 = .ok (.aload_n 0, 1) := by decide +kernel
theorem dX9_add_59 : decode cX9_add 59 = .ok (.getfield 86, 3) := by decide +kernel
theorem dX9_add_62 : decode cX9_add 62 = .ok (.ishl, 1) := by decide +kernel
theorem dX9_add_63 : decode cX9_add 63 = .ok (.ior, 1) := by decide +kernel
theorem dX9_add_64 : decode cX9_add 64 = .ok (.iastore, 1) := by decide +kernel
theorem dX9_add_65 : decode cX9_add 65 = .ok (.aload_n 0, 1) := by decide +kernel
theorem dX9_add_66 : decode cX9_add 66 = .ok (.getfield 16, 3) := by decide +kernel
theorem dX9_add_69 : decode cX9_add 69 = .ok (.aload_n 0, 1) := by decide +kernel
theorem dX9_add_70 : decode cX9_add 70 = .ok (.getfield 86, 3) := by decide +kernel
theorem dX9_add_73 : decode cX9_add 73 = .ok (.dup2, 1) := by decide +kernel
theorem dX9_add_74 : decode cX9_add 74 = .ok (.iaload, 1) := by decide +kernel
theorem dX9_add_75 : decode cX9_add 75 = .ok (.iconst 1, 1) := by decide +kernel
theorem dX9_add_76 : decode cX9_add 76 = .ok (.iload_n 3, 1) := by decide +kernel
theorem dX9_add_77 : decode cX9_add 77 = .ok (.ishl, 1) := by decide +kernel
theorem dX9_add_78 : decode cX9_add 78 = .ok (.ior, 1) := by decide +kernel
theorem dX9_add_79 : decode cX9_add 79 = .ok (.iastore, 1) := by decide +kernel
theorem dX9_add_80 : decode cX9_add 80 = .ok (.iinc 3 1, 3) := by decide +kernel
theorem dX9_add_83 : decode cX9_add 83 = .ok (.goto (-41), 3) := by decide +kernel
theorem dX9_add_86 : decode cX9_add 86 = .ok (.aload_n 0, 1) := by decide +kernel
theorem dX9_add_87 : decode cX9_add 87 = .ok (.dup, 1) := by decide +kernel
theorem dX9_add_88 : decode cX9_add 88 = .ok (.getfield 86, 3) := by decide +kernel
theorem dX9_add_91 : decode cX9_add 91 = .ok (.iconst 1, 1) := by decide +kernel
theorem dX9_add_92 : decode cX9_add 92 = .ok (.iadd, 1) := by decide +kernel
theorem dX9_add_93 : decode cX9_add 93 = .ok (.putfield 86, 3) := by decide +kernel
theorem dX9_add_96 : decode cX9_add 96 = .ok (.return_, 1) := by decide +kernel
set_option maxRecDepth 20000 in
theorem ggX9_person_X9_in : GoodIn wsX9_person wsX9_in := goodIn_r _ [7] (by decide +kernel) (by decide +kernel)
set_option maxRecDepth 20000 in
theorem gX9_person_X9_in : GoodIn wsX9_person (va_wsS RX9 90 yX9_in wsX9_in) := goodIn_app (goodIn_of _ (by decide +kernel)) ggX9_person_X9_in
set_option maxRecDepth 20000 in
theorem ggX9_person_X9_add : GoodIn wsX9_person wsX9_add := goodIn_r _ [11, 12, 3, 13, 14, 15, 16, 17, 18, 19, 20, 21, 22, 23, 24, 25, 26, 27, 28, 29, 30, 31, 32, 33, 34, 35, 36, 37, 38, 39, 40, 41, 42, 43, 44, 45, 46] (by decide +kernel) (by decide +kernel)
set_option maxRecDepth 20000 in
theorem gX9_person_X9_add : GoodIn wsX9_person (wsV RX9 102 RX9 yX9_add wsX9_add) := goodIn_app (goodIn_of _ (by decide +kernel)) ggX9_person_X9_add
theorem dX9_person_0 : decode cX9_person 0 = .ok (.iload_n 1, 1) := by decide +kernel
theorem dX9_person_1 : decode cX9_person 1 = .ok (.i2l, 1) := by decide +kernel
theorem dX9_person_2 : decode cX9_person 2 = .ok (.lconst 0, 1) := by decide +kernel
theorem dX9_person_3 : decode cX9_person 3 = .ok (.ldc2_w 98, 3) := by decide +kernel
theorem dX9_person_6 : decode cX9_person 6 = .ok (.invokestatic 90, 3) := by decide +kernel
theorem dX9_person_9 : decode cX9_person 9 = .ok (.ifCond .eq 15, 3) := by decide +kernel
theorem dX9_person_12 : decode cX9_person 12 = .ok (.iload_n 2, 1) := by decide +kernel
theorem dX9_person_13 : decode cX9_person 13 = .ok (.i2l, 1) := by decide +kernel
theorem dX9_person_14 : decode cX9_person 14 = .ok (.lconst 0, 1) := by decide +kernel
theorem dX9_person_15 : decode cX9_person 15 = .ok (.ldc2_w 100, 3) := by decide +kernel
theorem dX9_person_18 : decode cX9_person 18 = .ok (.invokestatic 90, 3) := by decide +kernel
theorem dX9_person_21 : decode cX9_person 21 = .ok (.ifCond .ne 5, 3) := by decide +kernel
theorem dX9_person_24 : decode cX9_person 24 = .ok (.iconst (-1), 1) := by decide +kernel
theorem dX9_person_25 : decode cX9_person 25 = .ok (.ireturn, 1) := by decide +kernel
theorem dX9_person_26 : decode cX9_person 26 = .ok (.aload_n 0, 1) := by decide +kernel
theorem dX9_person_27 : decode cX9_person 27 = .ok (.getfield 86, 3) := by decide +kernel
theorem dX9_person_30 : decode cX9_person 30 = .ok (.iconst 5, 1) := by decide +kernel
theorem dX9_person_31 : decode cX9_person 31 = .ok (.if_icmp .ne 6, 3) := by decide +kernel
theorem dX9_person_34 : decode cX9_person 34 = .ok (.bipush (-3), 2) := by decide +kernel
theorem dX9_person_36 : decode cX9_person 36 = .ok (.ireturn, 1) := by decide +kernel
theorem dX9_person_37 : decode cX9_person 37 = .ok (.aload_n 0, 1) := by decide +kernel
theorem dX9_person_38 : decode cX9_person 38 = .ok (.iload_n 1, 1) := by decide +kernel
theorem dX9_person_39 : decode cX9_person 39 = .ok (.iload_n 2, 1) := by decide +kernel
theorem dX9_person_40 : decode cX9_person 40 = .ok (.invokevirtual 102, 3) := by decide +kernel
theorem dX9_person_43 : decode cX9_person 43 = .ok (.aload_n 0, 1) := by decide +kernel
theorem dX9_person_44 : decode cX9_person 44 = .ok (.getfield 86, 3) := by decide +kernel
theorem dX9_person_47 : decode cX9_person 47 = .ok (.iconst 1, 1) := by decide +kernel
theorem dX9_person_48 : decode cX9_person 48 = .ok (.isub, 1) := by decide +kernel
theorem dX9_person_49 : decode cX9_person 49 = .ok (.ireturn, 1) := by decide +kernel
set_option maxRecDepth 20000 in
theorem ggX9_set_X9_isOne : GoodIn wsX9_set wsX9_isOne := goodIn_r _ [7, 8, 9, 10, 6, 11, 12, 13, 14, 15, 16, 17, 18, 19, 20, 21, 22, 23, 24, 25, 26, 27, 28, 29, 30, 31, 32, 33, 34, 35, 36, 37, 38, 39, 40, 41, 42] (by decide +kernel) (by decide +kernel)
set_option maxRecDepth 20000 in
theorem gX9_set_X9_isOne : GoodIn wsX9_set (wsV RX9 94 RX9 yX9_isOne wsX9_isOne) := goodIn_app (goodIn_of _ (by decide +kernel)) ggX9_set_X9_isOne
set_option maxRecDepth 20000 in
theorem ggX9_set_X9_in : GoodIn wsX9_set wsX9_in := goodIn_r _ [11] (by decide +kernel) (by decide +kernel)
set_option maxRecDepth 20000 in
theorem gX9_set_X9_in : GoodIn wsX9_set (va_wsS RX9 90 yX9_in wsX9_in) := goodIn_app (goodIn_of _ (by decide +kernel)) ggX9_set_X9_in
theorem dX9_set_0 : decode cX9_set 0 = .ok (.aload_n 0, 1) := by decide +kernel
theorem dX9_set_1 : decode cX9_set 1 = .ok (.iload_n 1, 1) := by decide +kernel
theorem dX9_set_2 : decode cX9_set 2 = .ok (.invokevirtual 94, 3) := by decide +kernel
theorem dX9_set_5 : decode cX9_set 5 = .ok (.ifCond .eq 15, 3) := by decide +kernel
theorem dX9_set_8 : decode cX9_set 8 = .ok (.iload_n 2, 1) := by decide +kernel
theorem dX9_set_9 : decode cX9_set 9 = .ok (.i2l, 1) := by decide +kernel
theorem dX9_set_10 : decode cX9_set 10 = .ok (.lconst 0, 1) := by decide +kernel
theorem dX9_set_11 : decode cX9_set 11 = .ok (.ldc2_w 100, 3) := by decide +kernel
theorem dX9_set_14 : decode cX9_set 14 = .ok (.invokestatic 90, 3) := by decide +kernel
theorem dX9_set_17 : decode cX9_set 17 = .ok (.ifCond .ne 5, 3) := by decide +kernel
theorem dX9_set_20 : decode cX9_set 20 = .ok (.iconst (-1), 1) := by decide +kernel
theorem dX9_set_21 : decode cX9_set 21 = .ok (.ireturn, 1) := by decide +kernel
theorem dX9_set_22 : decode cX9_set 22 = .ok (.aload_n 0, 1) := by decide +kernel
theorem dX9_set_23 : decode cX9_set 23 = .ok (.getfield 13, 3) := by decide +kernel
theorem dX9_set_26 : decode cX9_set 26 = .ok (.iload_n 1, 1) := by decide +kernel
theorem dX9_set_27 : decode cX9_set 27 = .ok (.iaload, 1) := by decide +kernel
theorem dX9_set_28 : decode cX9_set 28 = .ok (.istore_n 3, 1) := by decide +kernel
theorem dX9_set_29 : decode cX9_set 29 = .ok (.aload_n 0, 1) := by decide +kernel
theorem dX9_set_30 : decode cX9_set 30 = .ok (.getfield 13, 3) := by decide +kernel
theorem dX9_set_33 : decode cX9_set 33 = .ok (.iload_n 1, 1) := by decide +kernel
theorem dX9_set_34 : decode cX9_set 34 = .ok (.iload_n 2, 1) := by decide +kernel
theorem dX9_set_35 : decode cX9_set 35 = .ok (.iastore, 1) := by decide +kernel
theorem dX9_set_36 : decode cX9_set 36 = .ok (.iload_n 3, 1) := by decide +kernel
theorem dX9_set_37 : decode cX9_set 37 = .ok (.ireturn, 1) := by decide +kernel
set_option maxRecDepth 20000 in
theorem ggX9_told_X9_isOne : GoodIn wsX9_told wsX9_isOne := goodIn_r _ [10, 11, 12, 13, 9, 14, 19, 20, 21, 22, 23, 24, 25, 26, 27, 28, 29, 30, 31, 32, 33, 34, 35, 36, 37, 38, 39, 40, 41, 42, 43, 44, 45, 46, 47, 48, 49] (by decide +kernel) (by decide +kernel)
set_option maxRecDepth 20000 in
theorem gX9_told_X9_isOne : GoodIn wsX9_told (wsV RX9 94 RX9 yX9_isOne wsX9_isOne) := goodIn_app (goodIn_of _ (by decide +kernel)) ggX9_told_X9_isOne
set_option maxRecDepth 20000 in
theorem ggX9_told_X9_in : GoodIn wsX9_told wsX9_in := goodIn_r _ [14] (by decide +kernel) (by decide +kernel)
set_option maxRecDepth 20000 in
theorem gX9_told_X9_in : GoodIn wsX9_told (va_wsS RX9 90 yX9_in wsX9_in) := goodIn_app (goodIn_of _ (by decide +kernel)) ggX9_told_X9_in
set_option maxRecDepth 20000 in
theorem ggX9_told_X9_gives : GoodIn wsX9_told wsX9_gives := goodIn_r _ [18, 2, 19, 20, 21, 22, 23, 24, 25, 26, 27, 28, 29, 30, 31, 32, 33, 34, 35, 36, 37, 38, 39, 40, 41, 42, 43, 44, 45, 46, 47, 48, 49] (by decide +kernel) (by decide +kernel)
set_option maxRecDepth 20000 in
theorem gX9_told_X9_gives : GoodIn wsX9_told (wsV RX9 108 RX9 yX9_gives wsX9_gives) := goodIn_app (goodIn_of _ (by decide +kernel)) ggX9_told_X9_gives
theorem dX9_told_0 : decode cX9_told 0 = .ok (.aload_n 0, 1) := by decide +kernel
theorem dX9_told_1 : decode cX9_told 1 = .ok (.iload_n 1, 1) := by decide +kernel
theorem dX9_told_2 : decode cX9_told 2 = .ok (.invokevirtual 94, 3) := by decide +kernel
theorem dX9_told_5 : decode cX9_told 5 = .ok (.ifCond .eq 15, 3) := by decide +kernel
theorem dX9_told_8 : decode cX9_told 8 = .ok (.iload_n 2, 1) := by decide +kernel
theorem dX9_told_9 : decode cX9_told 9 = .ok (.i2l, 1) := by decide +kernel
theorem dX9_told_10 : decode cX9_told 10 = .ok (.lconst 0, 1) := by decide +kernel
theorem dX9_told_11 : decode cX9_told 11 = .ok (.ldc2_w 106, 3) := by decide +kernel
theorem dX9_told_14 : decode cX9_told 14 = .ok (.invokestatic 90, 3) := by decide +kernel
theorem dX9_told_17 : decode cX9_told 17 = .ok (.ifCond .ne 5, 3) := by decide +kernel
theorem dX9_told_20 : decode cX9_told 20 = .ok (.iconst (-1), 1) := by decide +kernel
theorem dX9_told_21 : decode cX9_told 21 = .ok (.ireturn, 1) := by decide +kernel
theorem dX9_told_22 : decode cX9_told 22 = .ok (.iload_n 2, 1) := by decide +kernel
theorem dX9_told_23 : decode cX9_told 23 = .ok (.ifCond .ne 12, 3) := by decide +kernel
theorem dX9_told_26 : decode cX9_told 26 = .ok (.aload_n 0, 1) := by decide +kernel
theorem dX9_told_27 : decode cX9_told 27 = .ok (.getfield 7, 3) := by decide +kernel
theorem dX9_told_30 : decode cX9_told 30 = .ok (.iload_n 1, 1) := by decide +kernel
theorem dX9_told_31 : decode cX9_told 31 = .ok (.iaload, 1) := by decide +kernel
theorem dX9_told_32 : decode cX9_told 32 = .ok (.goto 56, 3) := by decide +kernel
theorem dX9_told_35 : decode cX9_told 35 = .ok (.iload_n 2, 1) := by decide +kernel
theorem dX9_told_36 : decode cX9_told 36 = .ok (.iconst 1, 1) := by decide +kernel
theorem dX9_told_37 : decode cX9_told 37 = .ok (.if_icmp .ne 12, 3) := by decide +kernel
theorem dX9_told_40 : decode cX9_told 40 = .ok (.aload_n 0, 1) := by decide +kernel
theorem dX9_told_41 : decode cX9_told 41 = .ok (.getfield 13, 3) := by decide +kernel
theorem dX9_told_44 : decode cX9_told 44 = .ok (.iload_n 1, 1) := by decide +kernel
theorem dX9_told_45 : decode cX9_told 45 = .ok (.iaload, 1) := by decide +kernel
theorem dX9_told_46 : decode cX9_told 46 = .ok (.goto 42, 3) := by decide +kernel
theorem dX9_told_49 : decode cX9_told 49 = .ok (.iload_n 2, 1) := by decide +kernel
theorem dX9_told_50 : decode cX9_told 50 = .ok (.iconst 2, 1) := by decide +kernel
theorem dX9_told_51 : decode cX9_told 51 = .ok (.if_icmp .ne 17, 3) := by decide +kernel
theorem dX9_told_54 : decode cX9_told 54 = .ok (.aload_n 0, 1) := by decide +kernel
theorem dX9_told_55 : decode cX9_told 55 = .ok (.iload_n 1, 1) := by decide +kernel
theorem dX9_told_56 : decode cX9_told 56 = .ok (.aload_n 0, 1) := by decide +kernel
theorem dX9_told_57 : decode cX9_told 57 = .ok (.getfield 13, 3) := by decide +kernel
theorem dX9_told_60 : decode cX9_told 60 = .ok (.iload_n 1, 1) := by decide +kernel
theorem dX9_told_61 : decode cX9_told 61 = .ok (.iaload, 1) := by decide +kernel
theorem dX9_told_62 : decode cX9_told 62 = .ok (.invokevirtual 108, 3) := by decide +kernel
theorem dX9_told_65 : decode cX9_told 65 = .ok (.goto 23, 3) := by decide +kernel
theorem dX9_told_68 : decode cX9_told 68 = .ok (.iload_n 2, 1) := by decide +kernel
theorem dX9_told_69 : decode cX9_told 69 = .ok (.iconst 3, 1) := by decide +kernel
theorem dX9_told_70 : decode cX9_told 70 = .ok (.if_icmp .ne 12, 3) := by decide +kernel
theorem dX9_told_73 : decode cX9_told 73 = .ok (.aload_n 0, 1) := by decide +kernel
theorem dX9_told_74 : decode cX9_told 74 = .ok (.getfield 16, 3) := by decide +kernel
theorem dX9_told_77 : decode cX9_told 77 = .ok (.iload_n 1, 1) := by decide +kernel
theorem dX9_told_78 : decode cX9_told 78 = .ok (.iaload, 1) := by decide +kernel
theorem dX9_told_79 : decode cX9_told 79 = .ok (.goto 9, 3) := by decide +kernel
theorem dX9_told_82 : decode cX9_told 82 = .ok (.aload_n 0, 1) := by decide +kernel
theorem dX9_told_83 : decode cX9_told 83 = .ok (.getfield 19, 3) := by decide +kernel
theorem dX9_told_86 : decode cX9_told 86 = .ok (.iload_n 1, 1) := by decide +kernel
theorem dX9_told_87 : decode cX9_told 87 = .ok (.iaload, 1) := by decide +kernel
theorem dX9_told_88 : decode cX9_told 88 = .ok (.ireturn, 1) := by decide +kernel
set_option maxRecDepth 20000 in
theorem ggX9_knows_X9_areTwo : GoodIn wsX9_knows wsX9_areTwo := goodIn_r _ [6, 7, 8, 9, 5, 10, 11, 12, 13, 14, 15, 16, 17, 18, 19, 20, 21, 22, 23, 24, 25, 26, 27, 28, 29, 30, 31, 32, 33, 34, 35, 36, 37, 38, 39, 40, 41, 42, 43, 44, 45] (by decide +kernel) (by decide +kernel)
set_option maxRecDepth 20000 in
theorem gX9_knows_X9_areTwo : GoodIn wsX9_knows (wsV RX9 112 RX9 yX9_areTwo wsX9_areTwo) := goodIn_app (goodIn_of _ (by decide +kernel)) ggX9_knows_X9_areTwo
theorem dX9_knows_0 : decode cX9_knows 0 = .ok (.aload_n 0, 1) := by decide +kernel
theorem dX9_knows_1 : decode cX9_knows 1 = .ok (.iload_n 1, 1) := by decide +kernel
theorem dX9_knows_2 : decode cX9_knows 2 = .ok (.iload_n 2, 1) := by decide +kernel
theorem dX9_knows_3 : decode cX9_knows 3 = .ok (.invokevirtual 112, 3) := by decide +kernel
theorem dX9_knows_6 : decode cX9_knows 6 = .ok (.ifCond .ne 5, 3) := by decide +kernel
theorem dX9_knows_9 : decode cX9_knows 9 = .ok (.iconst (-1), 1) := by decide +kernel
theorem dX9_knows_10 : decode cX9_knows 10 = .ok (.ireturn, 1) := by decide +kernel
theorem dX9_knows_11 : decode cX9_knows 11 = .ok (.aload_n 0, 1) := by decide +kernel
theorem dX9_knows_12 : decode cX9_knows 12 = .ok (.getfield 16, 3) := by decide +kernel
theorem dX9_knows_15 : decode cX9_knows 15 = .ok (.iload_n 1, 1) := by decide +kernel
theorem dX9_knows_16 : decode cX9_knows 16 = .ok (.iaload, 1) := by decide +kernel
theorem dX9_knows_17 : decode cX9_knows 17 = .ok (.iload_n 2, 1) := by decide +kernel
theorem dX9_knows_18 : decode cX9_knows 18 = .ok (.ishr, 1) := by decide +kernel
theorem dX9_knows_19 : decode cX9_knows 19 = .ok (.iconst 1, 1) := by decide +kernel
theorem dX9_knows_20 : decode cX9_knows 20 = .ok (.iand, 1) := by decide +kernel
theorem dX9_knows_21 : decode cX9_knows 21 = .ok (.istore 4, 2) := by decide +kernel
theorem dX9_knows_23 : decode cX9_knows 23 = .ok (.aload_n 0, 1) := by decide +kernel
theorem dX9_knows_24 : decode cX9_knows 24 = .ok (.getfield 16, 3) := by decide +kernel
theorem dX9_knows_27 : decode cX9_knows 27 = .ok (.iload_n 1, 1) := by decide +kernel
theorem dX9_knows_28 : decode cX9_knows 28 = .ok (.iload_n 3, 1) := by decide +kernel
theorem dX9_knows_29 : decode cX9_knows 29 = .ok (.ifCond .eq 16, 3) := by decide +kernel
theorem dX9_knows_32 : decode cX9_knows 32 = .ok (.aload_n 0, 1) := by decide +kernel
theorem dX9_knows_33 : decode cX9_knows 33 = .ok (.getfield 16, 3) := by decide +kernel
theorem dX9_knows_36 : decode cX9_knows 36 = .ok (.iload_n 1, 1) := by decide +kernel
theorem dX9_knows_37 : decode cX9_knows 37 = .ok (.iaload, 1) := by decide +kernel
theorem dX9_knows_38 : decode cX9_knows 38 = .ok (.iconst 1, 1) := by decide +kernel
theorem dX9_knows_39 : decode cX9_knows 39 = .ok (.iload_n 2, 1) := by decide +kernel
theorem dX9_knows_40 : decode cX9_knows 40 = .ok (.ishl, 1) := by decide +kernel
theorem dX9_knows_41 : decode cX9_knows 41 = .ok (.ior, 1) := by decide +kernel
theorem dX9_knows_42 : decode cX9_knows 42 = .ok (.goto 15, 3) := by decide +kernel
theorem dX9_knows_45 : decode cX9_knows 45 = .ok (.aload_n 0, 1) := by decide +kernel
theorem dX9_knows_46 : decode cX9_knows 46 = .ok (.getfield 16, 3) := by decide +kernel
theorem dX9_knows_49 : decode cX9_knows 49 = .ok (.iload_n 1, 1) := by decide +kernel
theorem dX9_knows_50 : decode cX9_knows 50 = .ok (.iaload, 1) := by decide +kernel
theorem dX9_knows_51 : decode cX9_knows 51 = .ok (.iconst 1, 1) := by decide +kernel
theorem dX9_knows_52 : decode cX9_knows 52 = .ok (.iload_n 2, 1) := by decide +kernel
theorem dX9_knows_53 : decode cX9_knows 53 = .ok (.ishl, 1) := by decide +kernel
theorem dX9_knows_54 : decode cX9_knows 54 = .ok (.iconst (-1), 1) := by decide +kernel
theorem dX9_knows_55 : decode cX9_knows 55 = .ok (.ixor, 1) := by decide +kernel
theorem dX9_knows_56 : decode cX9_knows 56 = .ok (.iand, 1) := by decide +kernel
theorem dX9_knows_57 : decode cX9_knows 57 = .ok (.iastore, 1) := by decide +kernel
theorem dX9_knows_58 : decode cX9_knows 58 = .ok (.iload 4, 2) := by decide +kernel
theorem dX9_knows_60 : decode cX9_knows 60 = .ok (.ireturn, 1) := by decide +kernel
theorem dX9_begin_0 : decode cX9_begin 0 = .ok (.iconst 0, 1) := by decide +kernel
theorem dX9_begin_1 : decode cX9_begin 1 = .ok (.istore_n 1, 1) := by decide +kernel
theorem dX9_begin_2 : decode cX9_begin 2 = .ok (.iload_n 1, 1) := by decide +kernel
theorem dX9_begin_3 : decode cX9_begin 3 = .ok (.iconst 5, 1) := by decide +kernel
theorem dX9_begin_4 : decode cX9_begin 4 = .ok (.if_icmp .ge 33, 3) := by decide +kernel
theorem dX9_begin_7 : decode cX9_begin 7 = .ok (.aload_n 0, 1) := by decide +kernel
theorem dX9_begin_8 : decode cX9_begin 8 = .ok (.getfield 25, 3) := by decide +kernel
theorem dX9_begin_11 : decode cX9_begin 11 = .ok (.iload_n 1, 1) := by decide +kernel
theorem dX9_begin_12 : decode cX9_begin 12 = .ok (.aload_n 0, 1) := by decide +kernel
theorem dX9_begin_13 : decode cX9_begin 13 = .ok (.getfield 13, 3) := by decide +kernel
theorem dX9_begin_16 : decode cX9_begin 16 = .ok (.iload_n 1, 1) := by decide +kernel
theorem dX9_begin_17 : decode cX9_begin 17 = .ok (.iaload, 1) := by decide +kernel
theorem dX9_begin_18 : decode cX9_begin 18 = .ok (.iastore, 1) := by decide +kernel
theorem dX9_begin_19 : decode cX9_begin 19 = .ok (.aload_n 0, 1) := by decide +kernel
theorem dX9_begin_20 : decode cX9_begin 20 = .ok (.getfield 28, 3) := by decide +kernel
theorem dX9_begin_23 : decode cX9_begin 23 = .ok (.iload_n 1, 1) := by decide +kernel
theorem dX9_begin_24 : decode cX9_begin 24 = .ok (.aload_n 0, 1) := by decide +kernel
theorem dX9_begin_25 : decode cX9_begin 25 = .ok (.getfield 19, 3) := by decide +kernel
theorem dX9_begin_28 : decode cX9_begin 28 = .ok (.iload_n 1, 1) := by decide +kernel
theorem dX9_begin_29 : decode cX9_begin 29 = .ok (.iaload, 1) := by decide +kernel
theorem dX9_begin_30 : decode cX9_begin 30 = .ok (.iastore, 1) := by decide +kernel
theorem dX9_begin_31 : decode cX9_begin 31 = .ok (.iinc 1 1, 3) := by decide +kernel
theorem dX9_begin_34 : decode cX9_begin 34 = .ok (.goto (-32), 3) := by decide +kernel
theorem dX9_begin_37 : decode cX9_begin 37 = .ok (.return_, 1) := by decide +kernel
theorem dX9_newWeek_0 : decode cX9_newWeek 0 = .ok (.iconst 0, 1) := by decide +kernel
theorem dX9_newWeek_1 : decode cX9_newWeek 1 = .ok (.istore_n 1, 1) := by decide +kernel
theorem dX9_newWeek_2 : decode cX9_newWeek 2 = .ok (.iload_n 1, 1) := by decide +kernel
theorem dX9_newWeek_3 : decode cX9_newWeek 3 = .ok (.iconst 5, 1) := by decide +kernel
theorem dX9_newWeek_4 : decode cX9_newWeek 4 = .ok (.if_icmp .ge 16, 3) := by decide +kernel
theorem dX9_newWeek_7 : decode cX9_newWeek 7 = .ok (.aload_n 0, 1) := by decide +kernel
theorem dX9_newWeek_8 : decode cX9_newWeek 8 = .ok (.getfield 28, 3) := by decide +kernel
theorem dX9_newWeek_11 : decode cX9_newWeek 11 = .ok (.iload_n 1, 1) := by decide +kernel
theorem dX9_newWeek_12 : decode cX9_newWeek 12 = .ok (.iconst 0, 1) := by decide +kernel
theorem dX9_newWeek_13 : decode cX9_newWeek 13 = .ok (.iastore, 1) := by decide +kernel
theorem dX9_newWeek_14 : decode cX9_newWeek 14 = .ok (.iinc 1 1, 3) := by decide +kernel
theorem dX9_newWeek_17 : decode cX9_newWeek 17 = .ok (.goto (-15), 3) := by decide +kernel
theorem dX9_newWeek_20 : decode cX9_newWeek 20 = .ok (.return_, 1) := by decide +kernel
theorem dX9_keep_0 : decode cX9_keep 0 = .ok (.iconst 0, 1) := by decide +kernel
theorem dX9_keep_1 : decode cX9_keep 1 = .ok (.istore_n 1, 1) := by decide +kernel
theorem dX9_keep_2 : decode cX9_keep 2 = .ok (.iload_n 1, 1) := by decide +kernel
theorem dX9_keep_3 : decode cX9_keep 3 = .ok (.iconst 5, 1) := by decide +kernel
theorem dX9_keep_4 : decode cX9_keep 4 = .ok (.if_icmp .ge 33, 3) := by decide +kernel
theorem dX9_keep_7 : decode cX9_keep 7 = .ok (.aload_n 0, 1) := by decide +kernel
theorem dX9_keep_8 : decode cX9_keep 8 = .ok (.getfield 13, 3) := by decide +kernel
theorem dX9_keep_11 : decode cX9_keep 11 = .ok (.iload_n 1, 1) := by decide +kernel
theorem dX9_keep_12 : decode cX9_keep 12 = .ok (.aload_n 0, 1) := by decide +kernel
theorem dX9_keep_13 : decode cX9_keep 13 = .ok (.getfield 25, 3) := by decide +kernel
theorem dX9_keep_16 : decode cX9_keep 16 = .ok (.iload_n 1, 1) := by decide +kernel
theorem dX9_keep_17 : decode cX9_keep 17 = .ok (.iaload, 1) := by decide +kernel
theorem dX9_keep_18 : decode cX9_keep 18 = .ok (.iastore, 1) := by decide +kernel
theorem dX9_keep_19 : decode cX9_keep 19 = .ok (.aload_n 0, 1) := by decide +kernel
theorem dX9_keep_20 : decode cX9_keep 20 = .ok (.getfield 19, 3) := by decide +kernel
theorem dX9_keep_23 : decode cX9_keep 23 = .ok (.iload_n 1, 1) := by decide +kernel
theorem dX9_keep_24 : decode cX9_keep 24 = .ok (.aload_n 0, 1) := by decide +kernel
theorem dX9_keep_25 : decode cX9_keep 25 = .ok (.getfield 28, 3) := by decide +kernel
theorem dX9_keep_28 : decode cX9_keep 28 = .ok (.iload_n 1, 1) := by decide +kernel
theorem dX9_keep_29 : decode cX9_keep 29 = .ok (.iaload, 1) := by decide +kernel
theorem dX9_keep_30 : decode cX9_keep 30 = .ok (.iastore, 1) := by decide +kernel
theorem dX9_keep_31 : decode cX9_keep 31 = .ok (.iinc 1 1, 3) := by decide +kernel
theorem dX9_keep_34 : decode cX9_keep 34 = .ok (.goto (-32), 3) := by decide +kernel
theorem dX9_keep_37 : decode cX9_keep 37 = .ok (.return_, 1) := by decide +kernel
set_option maxRecDepth 20000 in
theorem ggX9_ask_X9_areTwo : GoodIn wsX9_ask wsX9_areTwo := goodIn_r _ [5, 6, 7, 8, 4, 9, 10, 11, 12, 13, 39, 40, 41, 42, 43, 44, 45, 46, 47, 48, 49, 50, 51, 52, 53, 54, 55, 56, 57, 58, 59, 60, 61, 62, 63, 64, 65, 66, 67, 68, 69] (by decide +kernel) (by decide +kernel)
set_option maxRecDepth 20000 in
theorem gX9_ask_X9_areTwo : GoodIn wsX9_ask (wsV RX9 112 RX9 yX9_areTwo wsX9_areTwo) := goodIn_app (goodIn_of _ (by decide +kernel)) ggX9_ask_X9_areTwo
set_option maxRecDepth 20000 in
theorem ggX9_ask_X9_begin : GoodIn wsX9_ask wsX9_begin := goodIn_r _ [17, 18, 19, 20, 21, 39, 40, 41, 42, 43, 44, 45, 46, 47, 48, 49, 50, 51, 52, 53, 54, 55, 56, 57, 58, 59, 60, 61, 62, 63, 64, 65, 66, 67, 68, 69] (by decide +kernel) (by decide +kernel)
set_option maxRecDepth 20000 in
theorem gX9_ask_X9_begin : GoodIn wsX9_ask (wsV RX9 119 RX9 yX9_begin wsX9_begin) := goodIn_app (goodIn_of _ (by decide +kernel)) ggX9_ask_X9_begin
set_option maxRecDepth 20000 in
theorem ggX9_ask_X9_tryAsk : GoodIn wsX9_ask wsX9_tryAsk := goodIn_r _ [25, 26, 18, 20, 27, 28, 4, 29, 30, 31, 32, 33, 34, 39, 40, 41, 42, 43, 44, 45, 46, 47, 48, 49, 50, 51, 52, 53, 54, 55, 56, 57, 58, 59, 60, 61, 62, 63, 64, 65, 66, 67, 68, 69] (by decide +kernel) (by decide +kernel)
set_option maxRecDepth 20000 in
theorem gX9_ask_X9_tryAsk : GoodIn wsX9_ask (wsV RX9 122 RX9 yX9_tryAsk wsX9_tryAsk) := goodIn_app (goodIn_of _ (by decide +kernel)) ggX9_ask_X9_tryAsk
set_option maxRecDepth 20000 in
theorem ggX9_ask_X9_keep : GoodIn wsX9_ask wsX9_keep := goodIn_r _ [38, 19, 18, 21, 20, 39, 40, 41, 42, 43, 44, 45, 46, 47, 48, 49, 50, 51, 52, 53, 54, 55, 56, 57, 58, 59, 60, 61, 62, 63, 64, 65, 66, 67, 68, 69] (by decide +kernel) (by decide +kernel)
set_option maxRecDepth 20000 in
theorem gX9_ask_X9_keep : GoodIn wsX9_ask (wsV RX9 125 RX9 yX9_keep wsX9_keep) := goodIn_app (goodIn_of _ (by decide +kernel)) ggX9_ask_X9_keep
theorem dX9_ask_0 : decode cX9_ask 0 = .ok (.aload_n 0, 1) := by decide +kernel
theorem dX9_ask_1 : decode cX9_ask 1 = .ok (.iload_n 1, 1) := by decide +kernel
theorem dX9_ask_2 : decode cX9_ask 2 = .ok (.iload_n 2, 1) := by decide +kernel
theorem dX9_ask_3 : decode cX9_ask 3 = .ok (.invokevirtual 112, 3) := by decide +kernel
theorem dX9_ask_6 : decode cX9_ask 6 = .ok (.ifCond .ne 5, 3) := by decide +kernel
theorem dX9_ask_9 : decode cX9_ask 9 = .ok (.iconst (-1), 1) := by decide +kernel
theorem dX9_ask_10 : decode cX9_ask 10 = .ok (.ireturn, 1) := by decide +kernel
theorem dX9_ask_11 : decode cX9_ask 11 = .ok (.aload_n 0, 1) := by decide +kernel
theorem dX9_ask_12 : decode cX9_ask 12 = .ok (.invokevirtual 119, 3) := by decide +kernel
theorem dX9_ask_15 : decode cX9_ask 15 = .ok (.aload_n 0, 1) := by decide +kernel
theorem dX9_ask_16 : decode cX9_ask 16 = .ok (.iload_n 1, 1) := by decide +kernel
theorem dX9_ask_17 : decode cX9_ask 17 = .ok (.iload_n 2, 1) := by decide +kernel
theorem dX9_ask_18 : decode cX9_ask 18 = .ok (.invokevirtual 122, 3) := by decide +kernel
theorem dX9_ask_21 : decode cX9_ask 21 = .ok (.istore_n 3, 1) := by decide +kernel
theorem dX9_ask_22 : decode cX9_ask 22 = .ok (.aload_n 0, 1) := by decide +kernel
theorem dX9_ask_23 : decode cX9_ask 23 = .ok (.invokevirtual 125, 3) := by decide +kernel
theorem dX9_ask_26 : decode cX9_ask 26 = .ok (.iload_n 3, 1) := by decide +kernel
theorem dX9_ask_27 : decode cX9_ask 27 = .ok (.ireturn, 1) := by decide +kernel
set_option maxRecDepth 20000 in
theorem ggX9_askings_X9_ones : GoodIn wsX9_askings wsX9_ones := goodIn_r _ [6] (by decide +kernel) (by decide +kernel)
set_option maxRecDepth 20000 in
theorem gX9_askings_X9_ones : GoodIn wsX9_askings (va_wsS RX9 128 yX9_ones wsX9_ones) := goodIn_app (goodIn_of _ (by decide +kernel)) ggX9_askings_X9_ones
theorem dX9_askings_0 : decode cX9_askings 0 = .ok (.iconst 0, 1) := by decide +kernel
theorem dX9_askings_1 : decode cX9_askings 1 = .ok (.istore_n 1, 1) := by decide +kernel
theorem dX9_askings_2 : decode cX9_askings 2 = .ok (.iconst 0, 1) := by decide +kernel
theorem dX9_askings_3 : decode cX9_askings 3 = .ok (.istore_n 2, 1) := by decide +kernel
theorem dX9_askings_4 : decode cX9_askings 4 = .ok (.iload_n 2, 1) := by decide +kernel
theorem dX9_askings_5 : decode cX9_askings 5 = .ok (.aload_n 0, 1) := by decide +kernel
theorem dX9_askings_6 : decode cX9_askings 6 = .ok (.getfield 86, 3) := by decide +kernel
theorem dX9_askings_9 : decode cX9_askings 9 = .ok (.if_icmp .ge 21, 3) := by decide +kernel
theorem dX9_askings_12 : decode cX9_askings 12 = .ok (.iload_n 1, 1) := by decide +kernel
theorem dX9_askings_13 : decode cX9_askings 13 = .ok (.aload_n 0, 1) := by decide +kernel
theorem dX9_askings_14 : decode cX9_askings 14 = .ok (.getfield 19, 3) := by decide +kernel
theorem dX9_askings_17 : decode cX9_askings 17 = .ok (.iload_n 2, 1) := by decide +kernel
theorem dX9_askings_18 : decode cX9_askings 18 = .ok (.iaload, 1) := by decide +kernel
theorem dX9_askings_19 : decode cX9_askings 19 = .ok (.invokestatic 128, 3) := by decide +kernel
theorem dX9_askings_22 : decode cX9_askings 22 = .ok (.iadd, 1) := by decide +kernel
theorem dX9_askings_23 : decode cX9_askings 23 = .ok (.istore_n 1, 1) := by decide +kernel
theorem dX9_askings_24 : decode cX9_askings 24 = .ok (.iinc 2 1, 3) := by decide +kernel
theorem dX9_askings_27 : decode cX9_askings 27 = .ok (.goto (-23), 3) := by decide +kernel
theorem dX9_askings_30 : decode cX9_askings 30 = .ok (.iload_n 1, 1) := by decide +kernel
theorem dX9_askings_31 : decode cX9_askings 31 = .ok (.ireturn, 1) := by decide +kernel
set_option maxRecDepth 20000 in
theorem ggX9_week_X9_askings : GoodIn wsX9_week wsX9_askings := goodIn_r _ [5, 6, 7, 8, 9, 4, 10, 26, 27, 28, 29, 30, 31, 32, 33, 34, 35, 36, 37, 38, 39, 40, 41, 42, 43, 44, 45, 46, 47, 48, 49, 50, 51, 52, 53, 54, 55, 56] (by decide +kernel) (by decide +kernel)
set_option maxRecDepth 20000 in
theorem gX9_week_X9_askings : GoodIn wsX9_week (wsV RX9 132 RX9 yX9_askings wsX9_askings) := goodIn_app (goodIn_of _ (by decide +kernel)) ggX9_week_X9_askings
set_option maxRecDepth 20000 in
theorem ggX9_week_X9_begin : GoodIn wsX9_week wsX9_begin := goodIn_r _ [14, 15, 16, 17, 7, 26, 27, 28, 29, 30, 31, 32, 33, 34, 35, 36, 37, 38, 39, 40, 41, 42, 43, 44, 45, 46, 47, 48, 49, 50, 51, 52, 53, 54, 55, 56] (by decide +kernel) (by decide +kernel)
set_option maxRecDepth 20000 in
theorem gX9_week_X9_begin : GoodIn wsX9_week (wsV RX9 119 RX9 yX9_begin wsX9_begin) := goodIn_app (goodIn_of _ (by decide +kernel)) ggX9_week_X9_begin
set_option maxRecDepth 20000 in
theorem ggX9_week_X9_newWeek : GoodIn wsX9_week wsX9_newWeek := goodIn_r _ [21, 17, 26, 27, 28, 29, 30, 31, 32, 33, 34, 35, 36, 37, 38, 39, 40, 41, 42, 43, 44, 45, 46, 47, 48, 49, 50, 51, 52, 53, 54, 55, 56] (by decide +kernel) (by decide +kernel)
set_option maxRecDepth 20000 in
theorem gX9_week_X9_newWeek : GoodIn wsX9_week (wsV RX9 136 RX9 yX9_newWeek wsX9_newWeek) := goodIn_app (goodIn_of _ (by decide +kernel)) ggX9_week_X9_newWeek
set_option maxRecDepth 20000 in
theorem ggX9_week_X9_keep : GoodIn wsX9_week wsX9_keep := goodIn_r _ [25, 16, 15, 7, 17, 26, 27, 28, 29, 30, 31, 32, 33, 34, 35, 36, 37, 38, 39, 40, 41, 42, 43, 44, 45, 46, 47, 48, 49, 50, 51, 52, 53, 54, 55, 56] (by decide +kernel) (by decide +kernel)
set_option maxRecDepth 20000 in
theorem gX9_week_X9_keep : GoodIn wsX9_week (wsV RX9 125 RX9 yX9_keep wsX9_keep) := goodIn_app (goodIn_of _ (by decide +kernel)) ggX9_week_X9_keep
theorem dX9_week_0 : decode cX9_week 0 = .ok (.aload_n 0, 1) := by decide +kernel
theorem dX9_week_1 : decode cX9_week 1 = .ok (.invokevirtual 132, 3) := by decide +kernel
theorem dX9_week_4 : decode cX9_week 4 = .ok (.istore_n 1, 1) := by decide +kernel
theorem dX9_week_5 : decode cX9_week 5 = .ok (.aload_n 0, 1) := by decide +kernel
theorem dX9_week_6 : decode cX9_week 6 = .ok (.invokevirtual 119, 3) := by decide +kernel
theorem dX9_week_9 : decode cX9_week 9 = .ok (.aload_n 0, 1) := by decide +kernel
theorem dX9_week_10 : decode cX9_week 10 = .ok (.invokevirtual 136, 3) := by decide +kernel
theorem dX9_week_13 : decode cX9_week 13 = .ok (.aload_n 0, 1) := by decide +kernel
theorem dX9_week_14 : decode cX9_week 14 = .ok (.invokevirtual 125, 3) := by decide +kernel
theorem dX9_week_17 : decode cX9_week 17 = .ok (.iload_n 1, 1) := by decide +kernel
theorem dX9_week_18 : decode cX9_week 18 = .ok (.ireturn, 1) := by decide +kernel
set_option maxRecDepth 20000 in
theorem ggX9_count_X9_askings : GoodIn wsX9_count wsX9_askings := goodIn_r _ [9, 1, 10, 11, 12, 8, 13, 14, 15, 16, 17, 18, 19, 20, 21, 22, 23, 24, 25, 26, 27, 28, 29, 30, 31, 32, 33, 34, 35, 36, 37, 38, 39, 40, 41, 42, 43, 44] (by decide +kernel) (by decide +kernel)
set_option maxRecDepth 20000 in
theorem gX9_count_X9_askings : GoodIn wsX9_count (wsV RX9 132 RX9 yX9_askings wsX9_askings) := goodIn_app (goodIn_of _ (by decide +kernel)) ggX9_count_X9_askings
theorem dX9_count_0 : decode cX9_count 0 = .ok (.iconst 0, 1) := by decide +kernel
theorem dX9_count_1 : decode cX9_count 1 = .ok (.istore_n 2, 1) := by decide +kernel
theorem dX9_count_2 : decode cX9_count 2 = .ok (.iconst 0, 1) := by decide +kernel
theorem dX9_count_3 : decode cX9_count 3 = .ok (.istore_n 3, 1) := by decide +kernel
theorem dX9_count_4 : decode cX9_count 4 = .ok (.iconst 0, 1) := by decide +kernel
theorem dX9_count_5 : decode cX9_count 5 = .ok (.istore 4, 2) := by decide +kernel
theorem dX9_count_7 : decode cX9_count 7 = .ok (.iload 4, 2) := by decide +kernel
theorem dX9_count_9 : decode cX9_count 9 = .ok (.aload_n 0, 1) := by decide +kernel
theorem dX9_count_10 : decode cX9_count 10 = .ok (.getfield 86, 3) := by decide +kernel
theorem dX9_count_13 : decode cX9_count 13 = .ok (.if_icmp .ge 19, 3) := by decide +kernel
theorem dX9_count_16 : decode cX9_count 16 = .ok (.iload_n 2, 1) := by decide +kernel
theorem dX9_count_17 : decode cX9_count 17 = .ok (.aload_n 0, 1) := by decide +kernel
theorem dX9_count_18 : decode cX9_count 18 = .ok (.getfield 13, 3) := by decide +kernel
theorem dX9_count_21 : decode cX9_count 21 = .ok (.iload 4, 2) := by decide +kernel
theorem dX9_count_23 : decode cX9_count 23 = .ok (.iaload, 1) := by decide +kernel
theorem dX9_count_24 : decode cX9_count 24 = .ok (.iadd, 1) := by decide +kernel
theorem dX9_count_25 : decode cX9_count 25 = .ok (.istore_n 2, 1) := by decide +kernel
theorem dX9_count_26 : decode cX9_count 26 = .ok (.iinc 4 1, 3) := by decide +kernel
theorem dX9_count_29 : decode cX9_count 29 = .ok (.goto (-22), 3) := by decide +kernel
theorem dX9_count_32 : decode cX9_count 32 = .ok (.iconst 0, 1) := by decide +kernel
theorem dX9_count_33 : decode cX9_count 33 = .ok (.istore 4, 2) := by decide +kernel
theorem dX9_count_35 : decode cX9_count 35 = .ok (.iload 4, 2) := by decide +kernel
theorem dX9_count_37 : decode cX9_count 37 = .ok (.aload_n 0, 1) := by decide +kernel
theorem dX9_count_38 : decode cX9_count 38 = .ok (.getfield 139, 3) := by decide +kernel
theorem dX9_count_41 : decode cX9_count 41 = .ok (.if_icmp .ge 23, 3) := by decide +kernel
theorem dX9_count_44 : decode cX9_count 44 = .ok (.iload_n 3, 1) := by decide +kernel
theorem dX9_count_45 : decode cX9_count 45 = .ok (.aload_n 0, 1) := by decide +kernel
theorem dX9_count_46 : decode cX9_count 46 = .ok (.getfield 22, 3) := by decide +kernel
theorem dX9_count_49 : decode cX9_count 49 = .ok (.iconst 3, 1) := by decide +kernel
theorem dX9_count_50 : decode cX9_count 50 = .ok (.iload 4, 2) := by decide +kernel
theorem dX9_count_52 : decode cX9_count 52 = .ok (.imul, 1) := by decide +kernel
theorem dX9_count_53 : decode cX9_count 53 = .ok (.iconst 2, 1) := by decide +kernel
theorem dX9_count_54 : decode cX9_count 54 = .ok (.iadd, 1) := by decide +kernel
theorem dX9_count_55 : decode cX9_count 55 = .ok (.iaload, 1) := by decide +kernel
theorem dX9_count_56 : decode cX9_count 56 = .ok (.iadd, 1) := by decide +kernel
theorem dX9_count_57 : decode cX9_count 57 = .ok (.istore_n 3, 1) := by decide +kernel
theorem dX9_count_58 : decode cX9_count 58 = .ok (.iinc 4 1, 3) := by decide +kernel
theorem dX9_count_61 : decode cX9_count 61 = .ok (.goto (-26), 3) := by decide +kernel
theorem dX9_count_64 : decode cX9_count 64 = .ok (.iload_n 1, 1) := by decide +kernel
theorem dX9_count_65 : decode cX9_count 65 = .ok (.tableswitch 54 0 4 #[35, 40, 42, 47, 52], 35) := by decide +kernel
theorem dX9_count_100 : decode cX9_count 100 = .ok (.aload_n 0, 1) := by decide +kernel
theorem dX9_count_101 : decode cX9_count 101 = .ok (.getfield 86, 3) := by decide +kernel
theorem dX9_count_104 : decode cX9_count 104 = .ok (.ireturn, 1) := by decide +kernel
theorem dX9_count_105 : decode cX9_count 105 = .ok (.iload_n 2, 1) := by decide +kernel
theorem dX9_count_106 : decode cX9_count 106 = .ok (.ireturn, 1) := by decide +kernel
theorem dX9_count_107 : decode cX9_count 107 = .ok (.aload_n 0, 1) := by decide +kernel
theorem dX9_count_108 : decode cX9_count 108 = .ok (.invokevirtual 132, 3) := by decide +kernel
theorem dX9_count_111 : decode cX9_count 111 = .ok (.ireturn, 1) := by decide +kernel
theorem dX9_count_112 : decode cX9_count 112 = .ok (.aload_n 0, 1) := by decide +kernel
theorem dX9_count_113 : decode cX9_count 113 = .ok (.getfield 139, 3) := by decide +kernel
theorem dX9_count_116 : decode cX9_count 116 = .ok (.ireturn, 1) := by decide +kernel
theorem dX9_count_117 : decode cX9_count 117 = .ok (.iload_n 3, 1) := by decide +kernel
theorem dX9_count_118 : decode cX9_count 118 = .ok (.ireturn, 1) := by decide +kernel
theorem dX9_count_119 : decode cX9_count 119 = .ok (.iconst (-1), 1) := by decide +kernel
theorem dX9_count_120 : decode cX9_count 120 = .ok (.ireturn, 1) := by decide +kernel
set_option maxRecDepth 20000 in
theorem ggX9_type_X9_in : GoodIn wsX9_type wsX9_in := goodIn_r _ [10] (by decide +kernel) (by decide +kernel)
set_option maxRecDepth 20000 in
theorem gX9_type_X9_in : GoodIn wsX9_type (va_wsS RX9 90 yX9_in wsX9_in) := goodIn_app (goodIn_of _ (by decide +kernel)) ggX9_type_X9_in
theorem dX9_type_0 : decode cX9_type 0 = .ok (.iload_n 3, 1) := by decide +kernel
theorem dX9_type_1 : decode cX9_type 1 = .ok (.i2l, 1) := by decide +kernel
theorem dX9_type_2 : decode cX9_type 2 = .ok (.lconst 1, 1) := by decide +kernel
theorem dX9_type_3 : decode cX9_type 3 = .ok (.ldc2_w 142, 3) := by decide +kernel
theorem dX9_type_6 : decode cX9_type 6 = .ok (.invokestatic 90, 3) := by decide +kernel
theorem dX9_type_9 : decode cX9_type 9 = .ok (.ifCond .ne 5, 3) := by decide +kernel
theorem dX9_type_12 : decode cX9_type 12 = .ok (.iconst (-1), 1) := by decide +kernel
theorem dX9_type_13 : decode cX9_type 13 = .ok (.ireturn, 1) := by decide +kernel
theorem dX9_type_14 : decode cX9_type 14 = .ok (.iload_n 3, 1) := by decide +kernel
theorem dX9_type_15 : decode cX9_type 15 = .ok (.iconst 1, 1) := by decide +kernel
theorem dX9_type_16 : decode cX9_type 16 = .ok (.isub, 1) := by decide +kernel
theorem dX9_type_17 : decode cX9_type 17 = .ok (.istore 4, 2) := by decide +kernel
theorem dX9_type_19 : decode cX9_type 19 = .ok (.iload 4, 2) := by decide +kernel
theorem dX9_type_21 : decode cX9_type 21 = .ok (.ifCond .lt 34, 3) := by decide +kernel
theorem dX9_type_24 : decode cX9_type 24 = .ok (.lload_n 1, 1) := by decide +kernel
theorem dX9_type_25 : decode cX9_type 25 = .ok (.bipush 8, 2) := by decide +kernel
theorem dX9_type_27 : decode cX9_type 27 = .ok (.iload 4, 2) := by decide +kernel
theorem dX9_type_29 : decode cX9_type 29 = .ok (.imul, 1) := by decide +kernel
theorem dX9_type_30 : decode cX9_type 30 = .ok (.lshr, 1) := by decide +kernel
theorem dX9_type_31 : decode cX9_type 31 = .ok (.ldc2_w 144, 3) := by decide +kernel
theorem dX9_type_34 : decode cX9_type 34 = .ok (.land, 1) := by decide +kernel
theorem dX9_type_35 : decode cX9_type 35 = .ok (.ldc2_w 146, 3) := by decide +kernel
theorem dX9_type_38 : decode cX9_type 38 = .ok (.ldc2_w 148, 3) := by decide +kernel
theorem dX9_type_41 : decode cX9_type 41 = .ok (.invokestatic 90, 3) := by decide +kernel
theorem dX9_type_44 : decode cX9_type 44 = .ok (.ifCond .ne 5, 3) := by decide +kernel
theorem dX9_type_47 : decode cX9_type 47 = .ok (.iconst (-1), 1) := by decide +kernel
theorem dX9_type_48 : decode cX9_type 48 = .ok (.ireturn, 1) := by decide +kernel
theorem dX9_type_49 : decode cX9_type 49 = .ok (.iinc 4 (-1), 3) := by decide +kernel
theorem dX9_type_52 : decode cX9_type 52 = .ok (.goto (-33), 3) := by decide +kernel
theorem dX9_type_55 : decode cX9_type 55 = .ok (.aload_n 0, 1) := by decide +kernel
theorem dX9_type_56 : decode cX9_type 56 = .ok (.getfield 150, 3) := by decide +kernel
theorem dX9_type_59 : decode cX9_type 59 = .ok (.iload_n 3, 1) := by decide +kernel
theorem dX9_type_60 : decode cX9_type 60 = .ok (.iadd, 1) := by decide +kernel
theorem dX9_type_61 : decode cX9_type 61 = .ok (.bipush 80, 2) := by decide +kernel
theorem dX9_type_63 : decode cX9_type 63 = .ok (.if_icmp .le 6, 3) := by decide +kernel
theorem dX9_type_66 : decode cX9_type 66 = .ok (.bipush (-3), 2) := by decide +kernel
theorem dX9_type_68 : decode cX9_type 68 = .ok (.ireturn, 1) := by decide +kernel
theorem dX9_type_69 : decode cX9_type 69 = .ok (.iload_n 3, 1) := by decide +kernel
theorem dX9_type_70 : decode cX9_type 70 = .ok (.iconst 1, 1) := by decide +kernel
theorem dX9_type_71 : decode cX9_type 71 = .ok (.isub, 1) := by decide +kernel
theorem dX9_type_72 : decode cX9_type 72 = .ok (.istore 4, 2) := by decide +kernel
theorem dX9_type_74 : decode cX9_type 74 = .ok (.iload 4, 2) := by decide +kernel
theorem dX9_type_76 : decode cX9_type 76 = .ok (.ifCond .lt 40, 3) := by decide +kernel
theorem dX9_type_79 : decode cX9_type 79 = .ok (.aload_n 0, 1) := by decide +kernel
theorem dX9_type_80 : decode cX9_type 80 = .ok (.getfield 31, 3) := by decide +kernel
theorem dX9_type_83 : decode cX9_type 83 = .ok (.aload_n 0, 1) := by decide +kernel
theorem dX9_type_84 : decode cX9_type 84 = .ok (.getfield 150, 3) := by decide +kernel
theorem dX9_type_87 : decode cX9_type 87 = .ok (.lload_n 1, 1) := by decide +kernel
theorem dX9_type_88 : decode cX9_type 88 = .ok (.bipush 8, 2) := by decide +kernel
theorem dX9_type_90 : decode cX9_type 90 = .ok (.iload 4, 2) := by decide +kernel
theorem dX9_type_92 : decode cX9_type 92 = .ok (.imul, 1) := by decide +kernel
theorem dX9_type_93 : decode cX9_type 93 = .ok (.lshr, 1) := by decide +kernel
theorem dX9_type_94 : decode cX9_type 94 = .ok (.ldc2_w 144, 3) := by decide +kernel
theorem dX9_type_97 : decode cX9_type 97 = .ok (.land, 1) := by decide +kernel
theorem dX9_type_98 : decode cX9_type 98 = .ok (.l2i, 1) := by decide +kernel
theorem dX9_type_99 : decode cX9_type 99 = .ok (.iastore, 1) := by decide +kernel
theorem dX9_type_100 : decode cX9_type 100 = .ok (.aload_n 0, 1) := by decide +kernel
theorem dX9_type_101 : decode cX9_type 101 = .ok (.dup, 1) := by decide +kernel
theorem dX9_type_102 : decode cX9_type 102 = .ok (.getfield 150, 3) := by decide +kernel
theorem dX9_type_105 : decode cX9_type 105 = .ok (.iconst 1, 1) := by decide +kernel
theorem dX9_type_106 : decode cX9_type 106 = .ok (.iadd, 1) := by decide +kernel
theorem dX9_type_107 : decode cX9_type 107 = .ok (.putfield 150, 3) := by decide +kernel
theorem dX9_type_110 : decode cX9_type 110 = .ok (.iinc 4 (-1), 3) := by decide +kernel
theorem dX9_type_113 : decode cX9_type 113 = .ok (.goto (-39), 3) := by decide +kernel
theorem dX9_type_116 : decode cX9_type 116 = .ok (.aload_n 0, 1) := by decide +kernel
theorem dX9_type_117 : decode cX9_type 117 = .ok (.getfield 150, 3) := by decide +kernel
theorem dX9_type_120 : decode cX9_type 120 = .ok (.ireturn, 1) := by decide +kernel
theorem dX9_nextByte_0 : decode cX9_nextByte 0 = .ok (.aload_n 0, 1) := by decide +kernel
theorem dX9_nextByte_1 : decode cX9_nextByte 1 = .ok (.getfield 153, 3) := by decide +kernel
theorem dX9_nextByte_4 : decode cX9_nextByte 4 = .ok (.aload_n 0, 1) := by decide +kernel
theorem dX9_nextByte_5 : decode cX9_nextByte 5 = .ok (.getfield 150, 3) := by decide +kernel
theorem dX9_nextByte_8 : decode cX9_nextByte 8 = .ok (.if_icmp .ge 30, 3) := by decide +kernel
theorem dX9_nextByte_11 : decode cX9_nextByte 11 = .ok (.aload_n 0, 1) := by decide +kernel
theorem dX9_nextByte_12 : decode cX9_nextByte 12 = .ok (.getfield 31, 3) := by decide +kernel
theorem dX9_nextByte_15 : decode cX9_nextByte 15 = .ok (.aload_n 0, 1) := by decide +kernel
theorem dX9_nextByte_16 : decode cX9_nextByte 16 = .ok (.getfield 153, 3) := by decide +kernel
theorem dX9_nextByte_19 : decode cX9_nextByte 19 = .ok (.iaload, 1) := by decide +kernel
theorem dX9_nextByte_20 : decode cX9_nextByte 20 = .ok (.bipush 32, 2) := by decide +kernel
theorem dX9_nextByte_22 : decode cX9_nextByte 22 = .ok (.if_icmp .ne 16, 3) := by decide +kernel
theorem dX9_nextByte_25 : decode cX9_nextByte 25 = .ok (.aload_n 0, 1) := by decide +kernel
theorem dX9_nextByte_26 : decode cX9_nextByte 26 = .ok (.dup, 1) := by decide +kernel
theorem dX9_nextByte_27 : decode cX9_nextByte 27 = .ok (.getfield 153, 3) := by decide +kernel
theorem dX9_nextByte_30 : decode cX9_nextByte 30 = .ok (.iconst 1, 1) := by decide +kernel
theorem dX9_nextByte_31 : decode cX9_nextByte 31 = .ok (.iadd, 1) := by decide +kernel
theorem dX9_nextByte_32 : decode cX9_nextByte 32 = .ok (.putfield 153, 3) := by decide +kernel
theorem dX9_nextByte_35 : decode cX9_nextByte 35 = .ok (.goto (-35), 3) := by decide +kernel
theorem dX9_nextByte_38 : decode cX9_nextByte 38 = .ok (.aload_n 0, 1) := by decide +kernel
theorem dX9_nextByte_39 : decode cX9_nextByte 39 = .ok (.getfield 153, 3) := by decide +kernel
theorem dX9_nextByte_42 : decode cX9_nextByte 42 = .ok (.aload_n 0, 1) := by decide +kernel
theorem dX9_nextByte_43 : decode cX9_nextByte 43 = .ok (.getfield 150, 3) := by decide +kernel
theorem dX9_nextByte_46 : decode cX9_nextByte 46 = .ok (.if_icmp .ge 15, 3) := by decide +kernel
theorem dX9_nextByte_49 : decode cX9_nextByte 49 = .ok (.aload_n 0, 1) := by decide +kernel
theorem dX9_nextByte_50 : decode cX9_nextByte 50 = .ok (.getfield 31, 3) := by decide +kernel
theorem dX9_nextByte_53 : decode cX9_nextByte 53 = .ok (.aload_n 0, 1) := by decide +kernel
theorem dX9_nextByte_54 : decode cX9_nextByte 54 = .ok (.getfield 153, 3) := by decide +kernel
theorem dX9_nextByte_57 : decode cX9_nextByte 57 = .ok (.iaload, 1) := by decide +kernel
theorem dX9_nextByte_58 : decode cX9_nextByte 58 = .ok (.goto 4, 3) := by decide +kernel
theorem dX9_nextByte_61 : decode cX9_nextByte 61 = .ok (.iconst (-1), 1) := by decide +kernel
theorem dX9_nextByte_62 : decode cX9_nextByte 62 = .ok (.ireturn, 1) := by decide +kernel
set_option maxRecDepth 20000 in
theorem ggX9_readOne_X9_nextByte : GoodIn wsX9_readOne wsX9_nextByte := goodIn_r _ [7, 2, 8, 9, 20, 21, 22, 23, 24, 25, 26, 27, 28, 29, 30, 31, 32, 33, 34, 35, 36, 37, 38, 39, 40, 41, 42, 43, 44, 45, 46, 47, 48, 49, 50] (by decide +kernel) (by decide +kernel)
set_option maxRecDepth 20000 in
theorem gX9_readOne_X9_nextByte : GoodIn wsX9_readOne (wsV RX9 156 RX9 yX9_nextByte wsX9_nextByte) := goodIn_app (goodIn_of _ (by decide +kernel)) ggX9_readOne_X9_nextByte
set_option maxRecDepth 20000 in
theorem ggX9_readOne_X9_readNumber : GoodIn wsX9_readOne wsX9_readNumber := goodIn_r _ [13, 2, 8, 9, 14, 15, 16, 3, 4, 5, 6, 7, 17, 18, 19, 20, 21, 22, 23, 24, 25, 26, 27, 28, 29, 30, 31, 32, 33, 34, 35, 36, 37, 38, 39, 40, 41, 42, 43, 44, 45, 46, 47, 48, 49, 50] (by decide +kernel) (by decide +kernel)
set_option maxRecDepth 20000 in
theorem gX9_readOne_X9_readNumber : GoodIn wsX9_readOne (wsV RX9 164 RX9 yX9_readNumber wsX9_readNumber) := goodIn_app (goodIn_of _ (by decide +kernel)) ggX9_readOne_X9_readNumber
theorem dX9_readOne_0 : decode cX9_readOne 0 = .ok (.aload_n 0, 1) := by decide +kernel
theorem dX9_readOne_1 : decode cX9_readOne 1 = .ok (.invokevirtual 156, 3) := by decide +kernel
theorem dX9_readOne_4 : decode cX9_readOne 4 = .ok (.istore_n 2, 1) := by decide +kernel
theorem dX9_readOne_5 : decode cX9_readOne 5 = .ok (.aload_n 0, 1) := by decide +kernel
theorem dX9_readOne_6 : decode cX9_readOne 6 = .ok (.getfield 34, 3) := by decide +kernel
theorem dX9_readOne_9 : decode cX9_readOne 9 = .ok (.iload_n 1, 1) := by decide +kernel
theorem dX9_readOne_10 : decode cX9_readOne 10 = .ok (.iload_n 2, 1) := by decide +kernel
theorem dX9_readOne_11 : decode cX9_readOne 11 = .ok (.bipush 102, 2) := by decide +kernel
theorem dX9_readOne_13 : decode cX9_readOne 13 = .ok (.if_icmp .ne 7, 3) := by decide +kernel
theorem dX9_readOne_16 : decode cX9_readOne 16 = .ok (.iconst 0, 1) := by decide +kernel
theorem dX9_readOne_17 : decode cX9_readOne 17 = .ok (.goto 34, 3) := by decide +kernel
theorem dX9_readOne_20 : decode cX9_readOne 20 = .ok (.iload_n 2, 1) := by decide +kernel
theorem dX9_readOne_21 : decode cX9_readOne 21 = .ok (.bipush 99, 2) := by decide +kernel
theorem dX9_readOne_23 : decode cX9_readOne 23 = .ok (.if_icmp .ne 7, 3) := by decide +kernel
theorem dX9_readOne_26 : decode cX9_readOne 26 = .ok (.iconst 1, 1) := by decide +kernel
theorem dX9_readOne_27 : decode cX9_readOne 27 = .ok (.goto 24, 3) := by decide +kernel
theorem dX9_readOne_30 : decode cX9_readOne 30 = .ok (.iload_n 2, 1) := by decide +kernel
theorem dX9_readOne_31 : decode cX9_readOne 31 = .ok (.bipush 116, 2) := by decide +kernel
theorem dX9_readOne_33 : decode cX9_readOne 33 = .ok (.if_icmp .ne 7, 3) := by decide +kernel
theorem dX9_readOne_36 : decode cX9_readOne 36 = .ok (.iconst 2, 1) := by decide +kernel
theorem dX9_readOne_37 : decode cX9_readOne 37 = .ok (.goto 14, 3) := by decide +kernel
theorem dX9_readOne_40 : decode cX9_readOne 40 = .ok (.iload_n 2, 1) := by decide +kernel
theorem dX9_readOne_41 : decode cX9_readOne 41 = .ok (.bipush 119, 2) := by decide +kernel
theorem dX9_readOne_43 : decode cX9_readOne 43 = .ok (.if_icmp .ne 7, 3) := by decide +kernel
theorem dX9_readOne_46 : decode cX9_readOne 46 = .ok (.iconst 3, 1) := by decide +kernel
theorem dX9_readOne_47 : decode cX9_readOne 47 = .ok (.goto 4, 3) := by decide +kernel
theorem dX9_readOne_50 : decode cX9_readOne 50 = .ok (.iconst (-1), 1) := by decide +kernel
theorem dX9_readOne_51 : decode cX9_readOne 51 = .ok (.iastore, 1) := by decide +kernel
theorem dX9_readOne_52 : decode cX9_readOne 52 = .ok (.aload_n 0, 1) := by decide +kernel
theorem dX9_readOne_53 : decode cX9_readOne 53 = .ok (.getfield 34, 3) := by decide +kernel
theorem dX9_readOne_56 : decode cX9_readOne 56 = .ok (.iload_n 1, 1) := by decide +kernel
theorem dX9_readOne_57 : decode cX9_readOne 57 = .ok (.iaload, 1) := by decide +kernel
theorem dX9_readOne_58 : decode cX9_readOne 58 = .ok (.ifCond .ge 5, 3) := by decide +kernel
theorem dX9_readOne_61 : decode cX9_readOne 61 = .ok (.iconst 0, 1) := by decide +kernel
theorem dX9_readOne_62 : decode cX9_readOne 62 = .ok (.ireturn, 1) := by decide +kernel
theorem dX9_readOne_63 : decode cX9_readOne 63 = .ok (.aload_n 0, 1) := by decide +kernel
theorem dX9_readOne_64 : decode cX9_readOne 64 = .ok (.dup, 1) := by decide +kernel
theorem dX9_readOne_65 : decode cX9_readOne 65 = .ok (.getfield 153, 3) := by decide +kernel
theorem dX9_readOne_68 : decode cX9_readOne 68 = .ok (.iconst 1, 1) := by decide +kernel
theorem dX9_readOne_69 : decode cX9_readOne 69 = .ok (.iadd, 1) := by decide +kernel
theorem dX9_readOne_70 : decode cX9_readOne 70 = .ok (.putfield 153, 3) := by decide +kernel
theorem dX9_readOne_73 : decode cX9_readOne 73 = .ok (.aload_n 0, 1) := by decide +kernel
theorem dX9_readOne_74 : decode cX9_readOne 74 = .ok (.getfield 34, 3) := by decide +kernel
theorem dX9_readOne_77 : decode cX9_readOne 77 = .ok (.iload_n 1, 1) := by decide +kernel
theorem dX9_readOne_78 : decode cX9_readOne 78 = .ok (.iconst 1, 1) := by decide +kernel
theorem dX9_readOne_79 : decode cX9_readOne 79 = .ok (.iadd, 1) := by decide +kernel
theorem dX9_readOne_80 : decode cX9_readOne 80 = .ok (.aload_n 0, 1) := by decide +kernel
theorem dX9_readOne_81 : decode cX9_readOne 81 = .ok (.sipush 9999, 3) := by decide +kernel
theorem dX9_readOne_84 : decode cX9_readOne 84 = .ok (.invokevirtual 164, 3) := by decide +kernel
theorem dX9_readOne_87 : decode cX9_readOne 87 = .ok (.iastore, 1) := by decide +kernel
theorem dX9_readOne_88 : decode cX9_readOne 88 = .ok (.aload_n 0, 1) := by decide +kernel
theorem dX9_readOne_89 : decode cX9_readOne 89 = .ok (.getfield 34, 3) := by decide +kernel
theorem dX9_readOne_92 : decode cX9_readOne 92 = .ok (.iload_n 1, 1) := by decide +kernel
theorem dX9_readOne_93 : decode cX9_readOne 93 = .ok (.iconst 1, 1) := by decide +kernel
theorem dX9_readOne_94 : decode cX9_readOne 94 = .ok (.iadd, 1) := by decide +kernel
theorem dX9_readOne_95 : decode cX9_readOne 95 = .ok (.iaload, 1) := by decide +kernel
theorem dX9_readOne_96 : decode cX9_readOne 96 = .ok (.ifCond .lt 7, 3) := by decide +kernel
theorem dX9_readOne_99 : decode cX9_readOne 99 = .ok (.iconst 1, 1) := by decide +kernel
theorem dX9_readOne_100 : decode cX9_readOne 100 = .ok (.goto 4, 3) := by decide +kernel
theorem dX9_readOne_103 : decode cX9_readOne 103 = .ok (.iconst 0, 1) := by decide +kernel
theorem dX9_readOne_104 : decode cX9_readOne 104 = .ok (.ireturn, 1) := by decide +kernel
set_option maxRecDepth 20000 in
theorem ggX9_readPeople_X9_readOne : GoodIn wsX9_readPeople wsX9_readOne := goodIn_r _ [7, 8, 1, 9, 10, 11, 6, 12, 13, 14, 15, 16, 17, 18, 19, 20, 21, 22, 23, 24, 25, 26, 27, 28, 29, 30, 31, 32, 33, 34, 35, 36, 37, 38, 39, 40, 41, 42, 43, 44, 45, 46, 47, 48, 49, 50, 51, 52, 53, 54, 55] (by decide +kernel) (by decide +kernel)
set_option maxRecDepth 20000 in
theorem gX9_readPeople_X9_readOne : GoodIn wsX9_readPeople (wsV RX9 167 RX9 yX9_readOne wsX9_readOne) := goodIn_app (goodIn_of _ (by decide +kernel)) ggX9_readPeople_X9_readOne
set_option maxRecDepth 20000 in
theorem ggX9_readPeople_X9_nextByte : GoodIn wsX9_readPeople wsX9_nextByte := goodIn_r _ [12, 1, 13, 14, 25, 26, 27, 28, 29, 30, 31, 32, 33, 34, 35, 36, 37, 38, 39, 40, 41, 42, 43, 44, 45, 46, 47, 48, 49, 50, 51, 52, 53, 54, 55] (by decide +kernel) (by decide +kernel)
set_option maxRecDepth 20000 in
theorem gX9_readPeople_X9_nextByte : GoodIn wsX9_readPeople (wsV RX9 156 RX9 yX9_nextByte wsX9_nextByte) := goodIn_app (goodIn_of _ (by decide +kernel)) ggX9_readPeople_X9_nextByte
theorem dX9_readPeople_0 : decode cX9_readPeople 0 = .ok (.aload_n 0, 1) := by decide +kernel
theorem dX9_readPeople_1 : decode cX9_readPeople 1 = .ok (.iconst 0, 1) := by decide +kernel
end
section
theorem dX9_readPeople_2 : decode cX9_readPeople 2 = .ok (.putfield 153, 3) := by decide +kernel
theorem dX9_readPeople_5 : decode cX9_readPeople 5 = .ok (.iconst 0, 1) := by decide +kernel
theorem dX9_readPeople_6 : decode cX9_readPeople 6 = .ok (.istore_n 1, 1) := by decide +kernel
theorem dX9_readPeople_7 : decode cX9_readPeople 7 = .ok (.iload_n 1, 1) := by decide +kernel
theorem dX9_readPeople_8 : decode cX9_readPeople 8 = .ok (.iconst 5, 1) := by decide +kernel
theorem dX9_readPeople_9 : decode cX9_readPeople 9 = .ok (.if_icmp .ge 62, 3) := by decide +kernel
theorem dX9_readPeople_12 : decode cX9_readPeople 12 = .ok (.aload_n 0, 1) := by decide +kernel
theorem dX9_readPeople_13 : decode cX9_readPeople 13 = .ok (.iconst 2, 1) := by decide +kernel
theorem dX9_readPeople_14 : decode cX9_readPeople 14 = .ok (.iload_n 1, 1) := by decide +kernel
theorem dX9_readPeople_15 : decode cX9_readPeople 15 = .ok (.imul, 1) := by decide +kernel
theorem dX9_readPeople_16 : decode cX9_readPeople 16 = .ok (.invokevirtual 167, 3) := by decide +kernel
theorem dX9_readPeople_19 : decode cX9_readPeople 19 = .ok (.ifCond .ne 5, 3) := by decide +kernel
theorem dX9_readPeople_22 : decode cX9_readPeople 22 = .ok (.iconst 0, 1) := by decide +kernel
theorem dX9_readPeople_23 : decode cX9_readPeople 23 = .ok (.ireturn, 1) := by decide +kernel
theorem dX9_readPeople_24 : decode cX9_readPeople 24 = .ok (.aload_n 0, 1) := by decide +kernel
theorem dX9_readPeople_25 : decode cX9_readPeople 25 = .ok (.iload_n 1, 1) := by decide +kernel
theorem dX9_readPeople_26 : decode cX9_readPeople 26 = .ok (.iconst 1, 1) := by decide +kernel
theorem dX9_readPeople_27 : decode cX9_readPeople 27 = .ok (.iadd, 1) := by decide +kernel
theorem dX9_readPeople_28 : decode cX9_readPeople 28 = .ok (.putfield 170, 3) := by decide +kernel
theorem dX9_readPeople_31 : decode cX9_readPeople 31 = .ok (.aload_n 0, 1) := by decide +kernel
theorem dX9_readPeople_32 : decode cX9_readPeople 32 = .ok (.invokevirtual 156, 3) := by decide +kernel
theorem dX9_readPeople_35 : decode cX9_readPeople 35 = .ok (.istore_n 2, 1) := by decide +kernel
theorem dX9_readPeople_36 : decode cX9_readPeople 36 = .ok (.iload_n 2, 1) := by decide +kernel
theorem dX9_readPeople_37 : decode cX9_readPeople 37 = .ok (.ifCond .ge 5, 3) := by decide +kernel
theorem dX9_readPeople_40 : decode cX9_readPeople 40 = .ok (.iconst 1, 1) := by decide +kernel
theorem dX9_readPeople_41 : decode cX9_readPeople 41 = .ok (.ireturn, 1) := by decide +kernel
theorem dX9_readPeople_42 : decode cX9_readPeople 42 = .ok (.iload_n 2, 1) := by decide +kernel
theorem dX9_readPeople_43 : decode cX9_readPeople 43 = .ok (.bipush 44, 2) := by decide +kernel
theorem dX9_readPeople_45 : decode cX9_readPeople 45 = .ok (.if_icmp .ne 8, 3) := by decide +kernel
theorem dX9_readPeople_48 : decode cX9_readPeople 48 = .ok (.iload_n 1, 1) := by decide +kernel
theorem dX9_readPeople_49 : decode cX9_readPeople 49 = .ok (.iconst 4, 1) := by decide +kernel
theorem dX9_readPeople_50 : decode cX9_readPeople 50 = .ok (.if_icmp .ne 5, 3) := by decide +kernel
theorem dX9_readPeople_53 : decode cX9_readPeople 53 = .ok (.iconst 0, 1) := by decide +kernel
theorem dX9_readPeople_54 : decode cX9_readPeople 54 = .ok (.ireturn, 1) := by decide +kernel
theorem dX9_readPeople_55 : decode cX9_readPeople 55 = .ok (.aload_n 0, 1) := by decide +kernel
theorem dX9_readPeople_56 : decode cX9_readPeople 56 = .ok (.dup, 1) := by decide +kernel
theorem dX9_readPeople_57 : decode cX9_readPeople 57 = .ok (.getfield 153, 3) := by decide +kernel
theorem dX9_readPeople_60 : decode cX9_readPeople 60 = .ok (.iconst 1, 1) := by decide +kernel
theorem dX9_readPeople_61 : decode cX9_readPeople 61 = .ok (.iadd, 1) := by decide +kernel
theorem dX9_readPeople_62 : decode cX9_readPeople 62 = .ok (.putfield 153, 3) := by decide +kernel
theorem dX9_readPeople_65 : decode cX9_readPeople 65 = .ok (.iinc 1 1, 3) := by decide +kernel
theorem dX9_readPeople_68 : decode cX9_readPeople 68 = .ok (.goto (-61), 3) := by decide +kernel
theorem dX9_readPeople_71 : decode cX9_readPeople 71 = .ok (.iconst 0, 1) := by decide +kernel
theorem dX9_readPeople_72 : decode cX9_readPeople 72 = .ok (.ireturn, 1) := by decide +kernel
set_option maxRecDepth 20000 in
theorem ggX9_people_X9_readPeople : GoodIn wsX9_people wsX9_readPeople := goodIn_r _ [11, 2, 5, 12, 13, 14, 10, 15, 6, 16, 17, 18, 19, 1, 20, 21, 22, 23, 24, 25, 26, 27, 28, 29, 30, 39, 40, 41, 42, 43, 44, 45, 46, 47, 48, 49, 50, 51, 52, 53, 54, 55, 56, 57, 58, 59, 60, 61, 62, 63, 64, 65, 66, 67, 68, 69] (by decide +kernel) (by decide +kernel)
set_option maxRecDepth 20000 in
theorem gX9_people_X9_readPeople : GoodIn wsX9_people (wsV RX9 173 RX9 yX9_readPeople wsX9_readPeople) := goodIn_app (goodIn_of _ (by decide +kernel)) ggX9_people_X9_readPeople
set_option maxRecDepth 20000 in
theorem ggX9_people_X9_nextByte : GoodIn wsX9_people wsX9_nextByte := goodIn_r _ [19, 2, 1, 20, 39, 40, 41, 42, 43, 44, 45, 46, 47, 48, 49, 50, 51, 52, 53, 54, 55, 56, 57, 58, 59, 60, 61, 62, 63, 64, 65, 66, 67, 68, 69] (by decide +kernel) (by decide +kernel)
set_option maxRecDepth 20000 in
theorem gX9_people_X9_nextByte : GoodIn wsX9_people (wsV RX9 156 RX9 yX9_nextByte wsX9_nextByte) := goodIn_app (goodIn_of _ (by decide +kernel)) ggX9_people_X9_nextByte
set_option maxRecDepth 20000 in
theorem ggX9_people_X9_add : GoodIn wsX9_people wsX9_add := goodIn_r _ [34, 35, 3, 36, 37, 38, 39, 40, 41, 42, 43, 44, 45, 46, 47, 48, 49, 50, 51, 52, 53, 54, 55, 56, 57, 58, 59, 60, 61, 62, 63, 64, 65, 66, 67, 68, 69] (by decide +kernel) (by decide +kernel)
set_option maxRecDepth 20000 in
theorem gX9_people_X9_add : GoodIn wsX9_people (wsV RX9 102 RX9 yX9_add wsX9_add) := goodIn_app (goodIn_of _ (by decide +kernel)) ggX9_people_X9_add
theorem dX9_people_0 : decode cX9_people 0 = .ok (.aload_n 0, 1) := by decide +kernel
theorem dX9_people_1 : decode cX9_people 1 = .ok (.invokevirtual 173, 3) := by decide +kernel
theorem dX9_people_4 : decode cX9_people 4 = .ok (.istore_n 1, 1) := by decide +kernel
theorem dX9_people_5 : decode cX9_people 5 = .ok (.iload_n 1, 1) := by decide +kernel
theorem dX9_people_6 : decode cX9_people 6 = .ok (.ifCond .ne 8, 3) := by decide +kernel
theorem dX9_people_9 : decode cX9_people 9 = .ok (.aload_n 0, 1) := by decide +kernel
theorem dX9_people_10 : decode cX9_people 10 = .ok (.invokevirtual 156, 3) := by decide +kernel
theorem dX9_people_13 : decode cX9_people 13 = .ok (.pop, 1) := by decide +kernel
theorem dX9_people_14 : decode cX9_people 14 = .ok (.aload_n 0, 1) := by decide +kernel
theorem dX9_people_15 : decode cX9_people 15 = .ok (.iconst 0, 1) := by decide +kernel
theorem dX9_people_16 : decode cX9_people 16 = .ok (.putfield 150, 3) := by decide +kernel
theorem dX9_people_19 : decode cX9_people 19 = .ok (.iload_n 1, 1) := by decide +kernel
theorem dX9_people_20 : decode cX9_people 20 = .ok (.ifCond .ne 11, 3) := by decide +kernel
theorem dX9_people_23 : decode cX9_people 23 = .ok (.bipush (-20), 2) := by decide +kernel
theorem dX9_people_25 : decode cX9_people 25 = .ok (.aload_n 0, 1) := by decide +kernel
theorem dX9_people_26 : decode cX9_people 26 = .ok (.getfield 153, 3) := by decide +kernel
theorem dX9_people_29 : decode cX9_people 29 = .ok (.isub, 1) := by decide +kernel
theorem dX9_people_30 : decode cX9_people 30 = .ok (.ireturn, 1) := by decide +kernel
theorem dX9_people_31 : decode cX9_people 31 = .ok (.aload_n 0, 1) := by decide +kernel
theorem dX9_people_32 : decode cX9_people 32 = .ok (.iconst 0, 1) := by decide +kernel
theorem dX9_people_33 : decode cX9_people 33 = .ok (.putfield 86, 3) := by decide +kernel
theorem dX9_people_36 : decode cX9_people 36 = .ok (.aload_n 0, 1) := by decide +kernel
theorem dX9_people_37 : decode cX9_people 37 = .ok (.iconst 0, 1) := by decide +kernel
theorem dX9_people_38 : decode cX9_people 38 = .ok (.putfield 139, 3) := by decide +kernel
theorem dX9_people_41 : decode cX9_people 41 = .ok (.iconst 0, 1) := by decide +kernel
theorem dX9_people_42 : decode cX9_people 42 = .ok (.istore_n 2, 1) := by decide +kernel
theorem dX9_people_43 : decode cX9_people 43 = .ok (.iload_n 2, 1) := by decide +kernel
theorem dX9_people_44 : decode cX9_people 44 = .ok (.aload_n 0, 1) := by decide +kernel
theorem dX9_people_45 : decode cX9_people 45 = .ok (.getfield 170, 3) := by decide +kernel
theorem dX9_people_48 : decode cX9_people 48 = .ok (.if_icmp .ge 31, 3) := by decide +kernel
theorem dX9_people_51 : decode cX9_people 51 = .ok (.aload_n 0, 1) := by decide +kernel
theorem dX9_people_52 : decode cX9_people 52 = .ok (.aload_n 0, 1) := by decide +kernel
theorem dX9_people_53 : decode cX9_people 53 = .ok (.getfield 34, 3) := by decide +kernel
theorem dX9_people_56 : decode cX9_people 56 = .ok (.iconst 2, 1) := by decide +kernel
theorem dX9_people_57 : decode cX9_people 57 = .ok (.iload_n 2, 1) := by decide +kernel
theorem dX9_people_58 : decode cX9_people 58 = .ok (.imul, 1) := by decide +kernel
theorem dX9_people_59 : decode cX9_people 59 = .ok (.iaload, 1) := by decide +kernel
theorem dX9_people_60 : decode cX9_people 60 = .ok (.aload_n 0, 1) := by decide +kernel
theorem dX9_people_61 : decode cX9_people 61 = .ok (.getfield 34, 3) := by decide +kernel
theorem dX9_people_64 : decode cX9_people 64 = .ok (.iconst 2, 1) := by decide +kernel
theorem dX9_people_65 : decode cX9_people 65 = .ok (.iload_n 2, 1) := by decide +kernel
theorem dX9_people_66 : decode cX9_people 66 = .ok (.imul, 1) := by decide +kernel
theorem dX9_people_67 : decode cX9_people 67 = .ok (.iconst 1, 1) := by decide +kernel
theorem dX9_people_68 : decode cX9_people 68 = .ok (.iadd, 1) := by decide +kernel
theorem dX9_people_69 : decode cX9_people 69 = .ok (.iaload, 1) := by decide +kernel
theorem dX9_people_70 : decode cX9_people 70 = .ok (.invokevirtual 102, 3) := by decide +kernel
theorem dX9_people_73 : decode cX9_people 73 = .ok (.iinc 2 1, 3) := by decide +kernel
theorem dX9_people_76 : decode cX9_people 76 = .ok (.goto (-33), 3) := by decide +kernel
theorem dX9_people_79 : decode cX9_people 79 = .ok (.aload_n 0, 1) := by decide +kernel
theorem dX9_people_80 : decode cX9_people 80 = .ok (.getfield 86, 3) := by decide +kernel
theorem dX9_people_83 : decode cX9_people 83 = .ok (.ireturn, 1) := by decide +kernel
set_option maxRecDepth 20000 in
theorem ggX9_readAsking_X9_nextByte : GoodIn wsX9_readAsking wsX9_nextByte := goodIn_r _ [7, 1, 8, 9, 18, 19, 20, 21, 22, 23, 24, 25, 26, 27, 28, 29, 30, 31, 32, 33, 34, 35, 36, 37, 38, 39, 40, 41, 42, 43, 44, 45, 46, 47, 48] (by decide +kernel) (by decide +kernel)
set_option maxRecDepth 20000 in
theorem gX9_readAsking_X9_nextByte : GoodIn wsX9_readAsking (wsV RX9 156 RX9 yX9_nextByte wsX9_nextByte) := goodIn_app (goodIn_of _ (by decide +kernel)) ggX9_readAsking_X9_nextByte
set_option maxRecDepth 20000 in
theorem ggX9_readAsking_X9_isOne : GoodIn wsX9_readAsking wsX9_isOne := goodIn_r _ [13, 14, 15, 16, 6, 17, 18, 19, 20, 21, 22, 23, 24, 25, 26, 27, 28, 29, 30, 31, 32, 33, 34, 35, 36, 37, 38, 39, 40, 41, 42, 43, 44, 45, 46, 47, 48] (by decide +kernel) (by decide +kernel)
set_option maxRecDepth 20000 in
theorem gX9_readAsking_X9_isOne : GoodIn wsX9_readAsking (wsV RX9 94 RX9 yX9_isOne wsX9_isOne) := goodIn_app (goodIn_of _ (by decide +kernel)) ggX9_readAsking_X9_isOne
theorem dX9_readAsking_0 : decode cX9_readAsking 0 = .ok (.aload_n 0, 1) := by decide +kernel
theorem dX9_readAsking_1 : decode cX9_readAsking 1 = .ok (.invokevirtual 156, 3) := by decide +kernel
theorem dX9_readAsking_4 : decode cX9_readAsking 4 = .ok (.bipush 48, 2) := by decide +kernel
theorem dX9_readAsking_6 : decode cX9_readAsking 6 = .ok (.isub, 1) := by decide +kernel
theorem dX9_readAsking_7 : decode cX9_readAsking 7 = .ok (.istore_n 2, 1) := by decide +kernel
theorem dX9_readAsking_8 : decode cX9_readAsking 8 = .ok (.aload_n 0, 1) := by decide +kernel
theorem dX9_readAsking_9 : decode cX9_readAsking 9 = .ok (.iload_n 2, 1) := by decide +kernel
theorem dX9_readAsking_10 : decode cX9_readAsking 10 = .ok (.invokevirtual 94, 3) := by decide +kernel
theorem dX9_readAsking_13 : decode cX9_readAsking 13 = .ok (.ifCond .ne 5, 3) := by decide +kernel
theorem dX9_readAsking_16 : decode cX9_readAsking 16 = .ok (.iconst 0, 1) := by decide +kernel
theorem dX9_readAsking_17 : decode cX9_readAsking 17 = .ok (.ireturn, 1) := by decide +kernel
theorem dX9_readAsking_18 : decode cX9_readAsking 18 = .ok (.aload_n 0, 1) := by decide +kernel
theorem dX9_readAsking_19 : decode cX9_readAsking 19 = .ok (.dup, 1) := by decide +kernel
theorem dX9_readAsking_20 : decode cX9_readAsking 20 = .ok (.getfield 153, 3) := by decide +kernel
theorem dX9_readAsking_23 : decode cX9_readAsking 23 = .ok (.iconst 1, 1) := by decide +kernel
theorem dX9_readAsking_24 : decode cX9_readAsking 24 = .ok (.iadd, 1) := by decide +kernel
theorem dX9_readAsking_25 : decode cX9_readAsking 25 = .ok (.putfield 153, 3) := by decide +kernel
theorem dX9_readAsking_28 : decode cX9_readAsking 28 = .ok (.aload_n 0, 1) := by decide +kernel
theorem dX9_readAsking_29 : decode cX9_readAsking 29 = .ok (.invokevirtual 156, 3) := by decide +kernel
theorem dX9_readAsking_32 : decode cX9_readAsking 32 = .ok (.bipush 62, 2) := by decide +kernel
theorem dX9_readAsking_34 : decode cX9_readAsking 34 = .ok (.if_icmp .eq 5, 3) := by decide +kernel
theorem dX9_readAsking_37 : decode cX9_readAsking 37 = .ok (.iconst 0, 1) := by decide +kernel
theorem dX9_readAsking_38 : decode cX9_readAsking 38 = .ok (.ireturn, 1) := by decide +kernel
theorem dX9_readAsking_39 : decode cX9_readAsking 39 = .ok (.aload_n 0, 1) := by decide +kernel
theorem dX9_readAsking_40 : decode cX9_readAsking 40 = .ok (.dup, 1) := by decide +kernel
theorem dX9_readAsking_41 : decode cX9_readAsking 41 = .ok (.getfield 153, 3) := by decide +kernel
theorem dX9_readAsking_44 : decode cX9_readAsking 44 = .ok (.iconst 1, 1) := by decide +kernel
theorem dX9_readAsking_45 : decode cX9_readAsking 45 = .ok (.iadd, 1) := by decide +kernel
theorem dX9_readAsking_46 : decode cX9_readAsking 46 = .ok (.putfield 153, 3) := by decide +kernel
theorem dX9_readAsking_49 : decode cX9_readAsking 49 = .ok (.aload_n 0, 1) := by decide +kernel
theorem dX9_readAsking_50 : decode cX9_readAsking 50 = .ok (.invokevirtual 156, 3) := by decide +kernel
theorem dX9_readAsking_53 : decode cX9_readAsking 53 = .ok (.bipush 48, 2) := by decide +kernel
theorem dX9_readAsking_55 : decode cX9_readAsking 55 = .ok (.isub, 1) := by decide +kernel
theorem dX9_readAsking_56 : decode cX9_readAsking 56 = .ok (.istore_n 3, 1) := by decide +kernel
theorem dX9_readAsking_57 : decode cX9_readAsking 57 = .ok (.aload_n 0, 1) := by decide +kernel
theorem dX9_readAsking_58 : decode cX9_readAsking 58 = .ok (.iload_n 3, 1) := by decide +kernel
theorem dX9_readAsking_59 : decode cX9_readAsking 59 = .ok (.invokevirtual 94, 3) := by decide +kernel
theorem dX9_readAsking_62 : decode cX9_readAsking 62 = .ok (.ifCond .eq 8, 3) := by decide +kernel
theorem dX9_readAsking_65 : decode cX9_readAsking 65 = .ok (.iload_n 3, 1) := by decide +kernel
theorem dX9_readAsking_66 : decode cX9_readAsking 66 = .ok (.iload_n 2, 1) := by decide +kernel
theorem dX9_readAsking_67 : decode cX9_readAsking 67 = .ok (.if_icmp .ne 5, 3) := by decide +kernel
theorem dX9_readAsking_70 : decode cX9_readAsking 70 = .ok (.iconst 0, 1) := by decide +kernel
theorem dX9_readAsking_71 : decode cX9_readAsking 71 = .ok (.ireturn, 1) := by decide +kernel
theorem dX9_readAsking_72 : decode cX9_readAsking 72 = .ok (.aload_n 0, 1) := by decide +kernel
theorem dX9_readAsking_73 : decode cX9_readAsking 73 = .ok (.dup, 1) := by decide +kernel
theorem dX9_readAsking_74 : decode cX9_readAsking 74 = .ok (.getfield 153, 3) := by decide +kernel
theorem dX9_readAsking_77 : decode cX9_readAsking 77 = .ok (.iconst 1, 1) := by decide +kernel
theorem dX9_readAsking_78 : decode cX9_readAsking 78 = .ok (.iadd, 1) := by decide +kernel
theorem dX9_readAsking_79 : decode cX9_readAsking 79 = .ok (.putfield 153, 3) := by decide +kernel
theorem dX9_readAsking_82 : decode cX9_readAsking 82 = .ok (.aload_n 0, 1) := by decide +kernel
theorem dX9_readAsking_83 : decode cX9_readAsking 83 = .ok (.getfield 34, 3) := by decide +kernel
theorem dX9_readAsking_86 : decode cX9_readAsking 86 = .ok (.iload_n 1, 1) := by decide +kernel
theorem dX9_readAsking_87 : decode cX9_readAsking 87 = .ok (.iload_n 2, 1) := by decide +kernel
theorem dX9_readAsking_88 : decode cX9_readAsking 88 = .ok (.iastore, 1) := by decide +kernel
theorem dX9_readAsking_89 : decode cX9_readAsking 89 = .ok (.aload_n 0, 1) := by decide +kernel
theorem dX9_readAsking_90 : decode cX9_readAsking 90 = .ok (.getfield 34, 3) := by decide +kernel
theorem dX9_readAsking_93 : decode cX9_readAsking 93 = .ok (.iload_n 1, 1) := by decide +kernel
theorem dX9_readAsking_94 : decode cX9_readAsking 94 = .ok (.iconst 1, 1) := by decide +kernel
theorem dX9_readAsking_95 : decode cX9_readAsking 95 = .ok (.iadd, 1) := by decide +kernel
theorem dX9_readAsking_96 : decode cX9_readAsking 96 = .ok (.iload_n 3, 1) := by decide +kernel
theorem dX9_readAsking_97 : decode cX9_readAsking 97 = .ok (.iastore, 1) := by decide +kernel
theorem dX9_readAsking_98 : decode cX9_readAsking 98 = .ok (.aload_n 0, 1) := by decide +kernel
theorem dX9_readAsking_99 : decode cX9_readAsking 99 = .ok (.getfield 34, 3) := by decide +kernel
theorem dX9_readAsking_102 : decode cX9_readAsking 102 = .ok (.iload_n 1, 1) := by decide +kernel
theorem dX9_readAsking_103 : decode cX9_readAsking 103 = .ok (.iconst 2, 1) := by decide +kernel
theorem dX9_readAsking_104 : decode cX9_readAsking 104 = .ok (.iadd, 1) := by decide +kernel
theorem dX9_readAsking_105 : decode cX9_readAsking 105 = .ok (.iconst 0, 1) := by decide +kernel
theorem dX9_readAsking_106 : decode cX9_readAsking 106 = .ok (.iastore, 1) := by decide +kernel
theorem dX9_readAsking_107 : decode cX9_readAsking 107 = .ok (.iconst 1, 1) := by decide +kernel
theorem dX9_readAsking_108 : decode cX9_readAsking 108 = .ok (.ireturn, 1) := by decide +kernel
set_option maxRecDepth 20000 in
theorem ggX9_readPlan_X9_readAsking : GoodIn wsX9_readPlan wsX9_readAsking := goodIn_r _ [8, 1, 3, 9, 10, 11, 7, 12, 13, 14, 15, 16, 17, 18, 19, 20, 21, 22, 23, 24, 25, 26, 27, 28, 29, 30, 31, 32, 33, 34, 35, 36, 37, 38, 39, 40, 41, 42, 43, 44, 45, 46, 47, 48, 49, 50, 51, 52, 53] (by decide +kernel) (by decide +kernel)
set_option maxRecDepth 20000 in
theorem gX9_readPlan_X9_readAsking : GoodIn wsX9_readPlan (wsV RX9 177 RX9 yX9_readAsking wsX9_readAsking) := goodIn_app (goodIn_of _ (by decide +kernel)) ggX9_readPlan_X9_readAsking
set_option maxRecDepth 20000 in
theorem ggX9_readPlan_X9_nextByte : GoodIn wsX9_readPlan wsX9_nextByte := goodIn_r _ [12, 1, 13, 14, 23, 24, 25, 26, 27, 28, 29, 30, 31, 32, 33, 34, 35, 36, 37, 38, 39, 40, 41, 42, 43, 44, 45, 46, 47, 48, 49, 50, 51, 52, 53] (by decide +kernel) (by decide +kernel)
set_option maxRecDepth 20000 in
theorem gX9_readPlan_X9_nextByte : GoodIn wsX9_readPlan (wsV RX9 156 RX9 yX9_nextByte wsX9_nextByte) := goodIn_app (goodIn_of _ (by decide +kernel)) ggX9_readPlan_X9_nextByte
theorem dX9_readPlan_0 : decode cX9_readPlan 0 = .ok (.aload_n 0, 1) := by decide +kernel
theorem dX9_readPlan_1 : decode cX9_readPlan 1 = .ok (.iconst 0, 1) := by decide +kernel
theorem dX9_readPlan_2 : decode cX9_readPlan 2 = .ok (.putfield 153, 3) := by decide +kernel
theorem dX9_readPlan_5 : decode cX9_readPlan 5 = .ok (.iconst 0, 1) := by decide +kernel
theorem dX9_readPlan_6 : decode cX9_readPlan 6 = .ok (.istore_n 1, 1) := by decide +kernel
theorem dX9_readPlan_7 : decode cX9_readPlan 7 = .ok (.iload_n 1, 1) := by decide +kernel
theorem dX9_readPlan_8 : decode cX9_readPlan 8 = .ok (.bipush 8, 2) := by decide +kernel
theorem dX9_readPlan_10 : decode cX9_readPlan 10 = .ok (.if_icmp .ge 102, 3) := by decide +kernel
theorem dX9_readPlan_13 : decode cX9_readPlan 13 = .ok (.aload_n 0, 1) := by decide +kernel
theorem dX9_readPlan_14 : decode cX9_readPlan 14 = .ok (.iconst 3, 1) := by decide +kernel
theorem dX9_readPlan_15 : decode cX9_readPlan 15 = .ok (.iload_n 1, 1) := by decide +kernel
theorem dX9_readPlan_16 : decode cX9_readPlan 16 = .ok (.imul, 1) := by decide +kernel
theorem dX9_readPlan_17 : decode cX9_readPlan 17 = .ok (.invokevirtual 177, 3) := by decide +kernel
theorem dX9_readPlan_20 : decode cX9_readPlan 20 = .ok (.ifCond .ne 5, 3) := by decide +kernel
theorem dX9_readPlan_23 : decode cX9_readPlan 23 = .ok (.iconst 0, 1) := by decide +kernel
theorem dX9_readPlan_24 : decode cX9_readPlan 24 = .ok (.ireturn, 1) := by decide +kernel
theorem dX9_readPlan_25 : decode cX9_readPlan 25 = .ok (.aload_n 0, 1) := by decide +kernel
theorem dX9_readPlan_26 : decode cX9_readPlan 26 = .ok (.iload_n 1, 1) := by decide +kernel
theorem dX9_readPlan_27 : decode cX9_readPlan 27 = .ok (.iconst 1, 1) := by decide +kernel
theorem dX9_readPlan_28 : decode cX9_readPlan 28 = .ok (.iadd, 1) := by decide +kernel
theorem dX9_readPlan_29 : decode cX9_readPlan 29 = .ok (.putfield 170, 3) := by decide +kernel
theorem dX9_readPlan_32 : decode cX9_readPlan 32 = .ok (.aload_n 0, 1) := by decide +kernel
theorem dX9_readPlan_33 : decode cX9_readPlan 33 = .ok (.invokevirtual 156, 3) := by decide +kernel
theorem dX9_readPlan_36 : decode cX9_readPlan 36 = .ok (.istore_n 2, 1) := by decide +kernel
theorem dX9_readPlan_37 : decode cX9_readPlan 37 = .ok (.iload_n 2, 1) := by decide +kernel
theorem dX9_readPlan_38 : decode cX9_readPlan 38 = .ok (.bipush 59, 2) := by decide +kernel
theorem dX9_readPlan_40 : decode cX9_readPlan 40 = .ok (.if_icmp .ne 33, 3) := by decide +kernel
theorem dX9_readPlan_43 : decode cX9_readPlan 43 = .ok (.aload_n 0, 1) := by decide +kernel
theorem dX9_readPlan_44 : decode cX9_readPlan 44 = .ok (.getfield 34, 3) := by decide +kernel
theorem dX9_readPlan_47 : decode cX9_readPlan 47 = .ok (.iconst 3, 1) := by decide +kernel
theorem dX9_readPlan_48 : decode cX9_readPlan 48 = .ok (.iload_n 1, 1) := by decide +kernel
theorem dX9_readPlan_49 : decode cX9_readPlan 49 = .ok (.imul, 1) := by decide +kernel
theorem dX9_readPlan_50 : decode cX9_readPlan 50 = .ok (.iconst 2, 1) := by decide +kernel
theorem dX9_readPlan_51 : decode cX9_readPlan 51 = .ok (.iadd, 1) := by decide +kernel
theorem dX9_readPlan_52 : decode cX9_readPlan 52 = .ok (.iconst 1, 1) := by decide +kernel
theorem dX9_readPlan_53 : decode cX9_readPlan 53 = .ok (.iastore, 1) := by decide +kernel
theorem dX9_readPlan_54 : decode cX9_readPlan 54 = .ok (.aload_n 0, 1) := by decide +kernel
theorem dX9_readPlan_55 : decode cX9_readPlan 55 = .ok (.dup, 1) := by decide +kernel
theorem dX9_readPlan_56 : decode cX9_readPlan 56 = .ok (.getfield 153, 3) := by decide +kernel
theorem dX9_readPlan_59 : decode cX9_readPlan 59 = .ok (.iconst 1, 1) := by decide +kernel
theorem dX9_readPlan_60 : decode cX9_readPlan 60 = .ok (.iadd, 1) := by decide +kernel
theorem dX9_readPlan_61 : decode cX9_readPlan 61 = .ok (.putfield 153, 3) := by decide +kernel
theorem dX9_readPlan_64 : decode cX9_readPlan 64 = .ok (.aload_n 0, 1) := by decide +kernel
theorem dX9_readPlan_65 : decode cX9_readPlan 65 = .ok (.invokevirtual 156, 3) := by decide +kernel
theorem dX9_readPlan_68 : decode cX9_readPlan 68 = .ok (.ifCond .ge 38, 3) := by decide +kernel
theorem dX9_readPlan_71 : decode cX9_readPlan 71 = .ok (.iconst 1, 1) := by decide +kernel
theorem dX9_readPlan_72 : decode cX9_readPlan 72 = .ok (.ireturn, 1) := by decide +kernel
theorem dX9_readPlan_73 : decode cX9_readPlan 73 = .ok (.iload_n 2, 1) := by decide +kernel
theorem dX9_readPlan_74 : decode cX9_readPlan 74 = .ok (.ifCond .ge 5, 3) := by decide +kernel
theorem dX9_readPlan_77 : decode cX9_readPlan 77 = .ok (.iconst 1, 1) := by decide +kernel
theorem dX9_readPlan_78 : decode cX9_readPlan 78 = .ok (.ireturn, 1) := by decide +kernel
theorem dX9_readPlan_79 : decode cX9_readPlan 79 = .ok (.iload_n 2, 1) := by decide +kernel
theorem dX9_readPlan_80 : decode cX9_readPlan 80 = .ok (.bipush 44, 2) := by decide +kernel
theorem dX9_readPlan_82 : decode cX9_readPlan 82 = .ok (.if_icmp .ne 22, 3) := by decide +kernel
theorem dX9_readPlan_85 : decode cX9_readPlan 85 = .ok (.iload_n 1, 1) := by decide +kernel
theorem dX9_readPlan_86 : decode cX9_readPlan 86 = .ok (.bipush 7, 2) := by decide +kernel
theorem dX9_readPlan_88 : decode cX9_readPlan 88 = .ok (.if_icmp .ge 16, 3) := by decide +kernel
theorem dX9_readPlan_91 : decode cX9_readPlan 91 = .ok (.aload_n 0, 1) := by decide +kernel
theorem dX9_readPlan_92 : decode cX9_readPlan 92 = .ok (.dup, 1) := by decide +kernel
theorem dX9_readPlan_93 : decode cX9_readPlan 93 = .ok (.getfield 153, 3) := by decide +kernel
theorem dX9_readPlan_96 : decode cX9_readPlan 96 = .ok (.iconst 1, 1) := by decide +kernel
theorem dX9_readPlan_97 : decode cX9_readPlan 97 = .ok (.iadd, 1) := by decide +kernel
theorem dX9_readPlan_98 : decode cX9_readPlan 98 = .ok (.putfield 153, 3) := by decide +kernel
theorem dX9_readPlan_101 : decode cX9_readPlan 101 = .ok (.goto 5, 3) := by decide +kernel
theorem dX9_readPlan_104 : decode cX9_readPlan 104 = .ok (.iconst 0, 1) := by decide +kernel
theorem dX9_readPlan_105 : decode cX9_readPlan 105 = .ok (.ireturn, 1) := by decide +kernel
theorem dX9_readPlan_106 : decode cX9_readPlan 106 = .ok (.iinc 1 1, 3) := by decide +kernel
theorem dX9_readPlan_109 : decode cX9_readPlan 109 = .ok (.goto (-102), 3) := by decide +kernel
theorem dX9_readPlan_112 : decode cX9_readPlan 112 = .ok (.iconst 0, 1) := by decide +kernel
theorem dX9_readPlan_113 : decode cX9_readPlan 113 = .ok (.ireturn, 1) := by decide +kernel
set_option maxRecDepth 20000 in
theorem ggX9_plan_X9_readPlan : GoodIn wsX9_plan wsX9_readPlan := goodIn_r _ [11, 2, 3, 6, 12, 13, 14, 10, 15, 16, 17, 18, 19, 1, 20, 21, 22, 23, 24, 25, 26, 27, 28, 29, 30, 31, 32, 33, 34, 35, 36, 37, 38, 39, 40, 41, 42, 43, 44, 45, 46, 47, 48, 49, 50, 51, 52, 53, 54, 55, 56, 57, 58, 59] (by decide +kernel) (by decide +kernel)
set_option maxRecDepth 20000 in
theorem gX9_plan_X9_readPlan : GoodIn wsX9_plan (wsV RX9 180 RX9 yX9_readPlan wsX9_readPlan) := goodIn_app (goodIn_of _ (by decide +kernel)) ggX9_plan_X9_readPlan
set_option maxRecDepth 20000 in
theorem ggX9_plan_X9_nextByte : GoodIn wsX9_plan wsX9_nextByte := goodIn_r _ [19, 2, 1, 20, 29, 30, 31, 32, 33, 34, 35, 36, 37, 38, 39, 40, 41, 42, 43, 44, 45, 46, 47, 48, 49, 50, 51, 52, 53, 54, 55, 56, 57, 58, 59] (by decide +kernel) (by decide +kernel)
set_option maxRecDepth 20000 in
theorem gX9_plan_X9_nextByte : GoodIn wsX9_plan (wsV RX9 156 RX9 yX9_nextByte wsX9_nextByte) := goodIn_app (goodIn_of _ (by decide +kernel)) ggX9_plan_X9_nextByte
theorem dX9_plan_0 : decode cX9_plan 0 = .ok (.aload_n 0, 1) := by decide +kernel
theorem dX9_plan_1 : decode cX9_plan 1 = .ok (.invokevirtual 180, 3) := by decide +kernel
theorem dX9_plan_4 : decode cX9_plan 4 = .ok (.istore_n 1, 1) := by decide +kernel
theorem dX9_plan_5 : decode cX9_plan 5 = .ok (.iload_n 1, 1) := by decide +kernel
theorem dX9_plan_6 : decode cX9_plan 6 = .ok (.ifCond .ne 8, 3) := by decide +kernel
theorem dX9_plan_9 : decode cX9_plan 9 = .ok (.aload_n 0, 1) := by decide +kernel
theorem dX9_plan_10 : decode cX9_plan 10 = .ok (.invokevirtual 156, 3) := by decide +kernel
theorem dX9_plan_13 : decode cX9_plan 13 = .ok (.pop, 1) := by decide +kernel
theorem dX9_plan_14 : decode cX9_plan 14 = .ok (.aload_n 0, 1) := by decide +kernel
theorem dX9_plan_15 : decode cX9_plan 15 = .ok (.iconst 0, 1) := by decide +kernel
theorem dX9_plan_16 : decode cX9_plan 16 = .ok (.putfield 150, 3) := by decide +kernel
theorem dX9_plan_19 : decode cX9_plan 19 = .ok (.iload_n 1, 1) := by decide +kernel
theorem dX9_plan_20 : decode cX9_plan 20 = .ok (.ifCond .ne 11, 3) := by decide +kernel
theorem dX9_plan_23 : decode cX9_plan 23 = .ok (.bipush (-20), 2) := by decide +kernel
theorem dX9_plan_25 : decode cX9_plan 25 = .ok (.aload_n 0, 1) := by decide +kernel
theorem dX9_plan_26 : decode cX9_plan 26 = .ok (.getfield 153, 3) := by decide +kernel
theorem dX9_plan_29 : decode cX9_plan 29 = .ok (.isub, 1) := by decide +kernel
theorem dX9_plan_30 : decode cX9_plan 30 = .ok (.ireturn, 1) := by decide +kernel
theorem dX9_plan_31 : decode cX9_plan 31 = .ok (.aload_n 0, 1) := by decide +kernel
theorem dX9_plan_32 : decode cX9_plan 32 = .ok (.aload_n 0, 1) := by decide +kernel
theorem dX9_plan_33 : decode cX9_plan 33 = .ok (.getfield 170, 3) := by decide +kernel
theorem dX9_plan_36 : decode cX9_plan 36 = .ok (.putfield 139, 3) := by decide +kernel
theorem dX9_plan_39 : decode cX9_plan 39 = .ok (.iconst 0, 1) := by decide +kernel
theorem dX9_plan_40 : decode cX9_plan 40 = .ok (.istore_n 2, 1) := by decide +kernel
theorem dX9_plan_41 : decode cX9_plan 41 = .ok (.iload_n 2, 1) := by decide +kernel
theorem dX9_plan_42 : decode cX9_plan 42 = .ok (.iconst 3, 1) := by decide +kernel
theorem dX9_plan_43 : decode cX9_plan 43 = .ok (.aload_n 0, 1) := by decide +kernel
theorem dX9_plan_44 : decode cX9_plan 44 = .ok (.getfield 170, 3) := by decide +kernel
theorem dX9_plan_47 : decode cX9_plan 47 = .ok (.imul, 1) := by decide +kernel
theorem dX9_plan_48 : decode cX9_plan 48 = .ok (.if_icmp .ge 21, 3) := by decide +kernel
theorem dX9_plan_51 : decode cX9_plan 51 = .ok (.aload_n 0, 1) := by decide +kernel
theorem dX9_plan_52 : decode cX9_plan 52 = .ok (.getfield 22, 3) := by decide +kernel
theorem dX9_plan_55 : decode cX9_plan 55 = .ok (.iload_n 2, 1) := by decide +kernel
theorem dX9_plan_56 : decode cX9_plan 56 = .ok (.aload_n 0, 1) := by decide +kernel
theorem dX9_plan_57 : decode cX9_plan 57 = .ok (.getfield 34, 3) := by decide +kernel
theorem dX9_plan_60 : decode cX9_plan 60 = .ok (.iload_n 2, 1) := by decide +kernel
theorem dX9_plan_61 : decode cX9_plan 61 = .ok (.iaload, 1) := by decide +kernel
theorem dX9_plan_62 : decode cX9_plan 62 = .ok (.iastore, 1) := by decide +kernel
theorem dX9_plan_63 : decode cX9_plan 63 = .ok (.iinc 2 1, 3) := by decide +kernel
theorem dX9_plan_66 : decode cX9_plan 66 = .ok (.goto (-25), 3) := by decide +kernel
theorem dX9_plan_69 : decode cX9_plan 69 = .ok (.aload_n 0, 1) := by decide +kernel
theorem dX9_plan_70 : decode cX9_plan 70 = .ok (.getfield 139, 3) := by decide +kernel
theorem dX9_plan_73 : decode cX9_plan 73 = .ok (.ireturn, 1) := by decide +kernel
set_option maxRecDepth 20000 in
theorem ggX9_run_X9_begin : GoodIn wsX9_run wsX9_begin := goodIn_r _ [7, 8, 9, 10, 11, 33, 34, 35, 36, 37, 38, 39, 40, 41, 42, 43, 44, 45, 46, 47, 48, 49, 50, 51, 52, 53, 54, 55, 56, 57, 58, 59, 60, 61, 62, 63] (by decide +kernel) (by decide +kernel)
set_option maxRecDepth 20000 in
theorem gX9_run_X9_begin : GoodIn wsX9_run (wsV RX9 119 RX9 yX9_begin wsX9_begin) := goodIn_app (goodIn_of _ (by decide +kernel)) ggX9_run_X9_begin
set_option maxRecDepth 20000 in
theorem ggX9_run_X9_tryAsk : GoodIn wsX9_run wsX9_tryAsk := goodIn_r _ [15, 16, 8, 10, 17, 18, 6, 19, 20, 21, 22, 23, 24, 33, 34, 35, 36, 37, 38, 39, 40, 41, 42, 43, 44, 45, 46, 47, 48, 49, 50, 51, 52, 53, 54, 55, 56, 57, 58, 59, 60, 61, 62, 63] (by decide +kernel) (by decide +kernel)
set_option maxRecDepth 20000 in
theorem gX9_run_X9_tryAsk : GoodIn wsX9_run (wsV RX9 122 RX9 yX9_tryAsk wsX9_tryAsk) := goodIn_app (goodIn_of _ (by decide +kernel)) ggX9_run_X9_tryAsk
set_option maxRecDepth 20000 in
theorem ggX9_run_X9_newWeek : GoodIn wsX9_run wsX9_newWeek := goodIn_r _ [28, 10, 33, 34, 35, 36, 37, 38, 39, 40, 41, 42, 43, 44, 45, 46, 47, 48, 49, 50, 51, 52, 53, 54, 55, 56, 57, 58, 59, 60, 61, 62, 63] (by decide +kernel) (by decide +kernel)
set_option maxRecDepth 20000 in
theorem gX9_run_X9_newWeek : GoodIn wsX9_run (wsV RX9 136 RX9 yX9_newWeek wsX9_newWeek) := goodIn_app (goodIn_of _ (by decide +kernel)) ggX9_run_X9_newWeek
set_option maxRecDepth 20000 in
theorem ggX9_run_X9_keep : GoodIn wsX9_run wsX9_keep := goodIn_r _ [32, 9, 8, 11, 10, 33, 34, 35, 36, 37, 38, 39, 40, 41, 42, 43, 44, 45, 46, 47, 48, 49, 50, 51, 52, 53, 54, 55, 56, 57, 58, 59, 60, 61, 62, 63] (by decide +kernel) (by decide +kernel)
set_option maxRecDepth 20000 in
theorem gX9_run_X9_keep : GoodIn wsX9_run (wsV RX9 125 RX9 yX9_keep wsX9_keep) := goodIn_app (goodIn_of _ (by decide +kernel)) ggX9_run_X9_keep
theorem dX9_run_0 : decode cX9_run 0 = .ok (.aload_n 0, 1) := by decide +kernel
theorem dX9_run_1 : decode cX9_run 1 = .ok (.invokevirtual 119, 3) := by decide +kernel
theorem dX9_run_4 : decode cX9_run 4 = .ok (.iconst 0, 1) := by decide +kernel
theorem dX9_run_5 : decode cX9_run 5 = .ok (.istore_n 1, 1) := by decide +kernel
theorem dX9_run_6 : decode cX9_run 6 = .ok (.iload_n 1, 1) := by decide +kernel
theorem dX9_run_7 : decode cX9_run 7 = .ok (.aload_n 0, 1) := by decide +kernel
theorem dX9_run_8 : decode cX9_run 8 = .ok (.getfield 139, 3) := by decide +kernel
theorem dX9_run_11 : decode cX9_run 11 = .ok (.if_icmp .ge 52, 3) := by decide +kernel
theorem dX9_run_14 : decode cX9_run 14 = .ok (.aload_n 0, 1) := by decide +kernel
theorem dX9_run_15 : decode cX9_run 15 = .ok (.aload_n 0, 1) := by decide +kernel
theorem dX9_run_16 : decode cX9_run 16 = .ok (.getfield 22, 3) := by decide +kernel
theorem dX9_run_19 : decode cX9_run 19 = .ok (.iconst 3, 1) := by decide +kernel
theorem dX9_run_20 : decode cX9_run 20 = .ok (.iload_n 1, 1) := by decide +kernel
theorem dX9_run_21 : decode cX9_run 21 = .ok (.imul, 1) := by decide +kernel
theorem dX9_run_22 : decode cX9_run 22 = .ok (.iaload, 1) := by decide +kernel
theorem dX9_run_23 : decode cX9_run 23 = .ok (.aload_n 0, 1) := by decide +kernel
theorem dX9_run_24 : decode cX9_run 24 = .ok (.getfield 22, 3) := by decide +kernel
theorem dX9_run_27 : decode cX9_run 27 = .ok (.iconst 3, 1) := by decide +kernel
theorem dX9_run_28 : decode cX9_run 28 = .ok (.iload_n 1, 1) := by decide +kernel
theorem dX9_run_29 : decode cX9_run 29 = .ok (.imul, 1) := by decide +kernel
theorem dX9_run_30 : decode cX9_run 30 = .ok (.iconst 1, 1) := by decide +kernel
theorem dX9_run_31 : decode cX9_run 31 = .ok (.iadd, 1) := by decide +kernel
theorem dX9_run_32 : decode cX9_run 32 = .ok (.iaload, 1) := by decide +kernel
theorem dX9_run_33 : decode cX9_run 33 = .ok (.invokevirtual 122, 3) := by decide +kernel
theorem dX9_run_36 : decode cX9_run 36 = .ok (.ifCond .lt 27, 3) := by decide +kernel
theorem dX9_run_39 : decode cX9_run 39 = .ok (.aload_n 0, 1) := by decide +kernel
theorem dX9_run_40 : decode cX9_run 40 = .ok (.getfield 22, 3) := by decide +kernel
theorem dX9_run_43 : decode cX9_run 43 = .ok (.iconst 3, 1) := by decide +kernel
theorem dX9_run_44 : decode cX9_run 44 = .ok (.iload_n 1, 1) := by decide +kernel
theorem dX9_run_45 : decode cX9_run 45 = .ok (.imul, 1) := by decide +kernel
theorem dX9_run_46 : decode cX9_run 46 = .ok (.iconst 2, 1) := by decide +kernel
theorem dX9_run_47 : decode cX9_run 47 = .ok (.iadd, 1) := by decide +kernel
theorem dX9_run_48 : decode cX9_run 48 = .ok (.iaload, 1) := by decide +kernel
theorem dX9_run_49 : decode cX9_run 49 = .ok (.iconst 1, 1) := by decide +kernel
theorem dX9_run_50 : decode cX9_run 50 = .ok (.if_icmp .ne 7, 3) := by decide +kernel
theorem dX9_run_53 : decode cX9_run 53 = .ok (.aload_n 0, 1) := by decide +kernel
theorem dX9_run_54 : decode cX9_run 54 = .ok (.invokevirtual 136, 3) := by decide +kernel
theorem dX9_run_57 : decode cX9_run 57 = .ok (.iinc 1 1, 3) := by decide +kernel
theorem dX9_run_60 : decode cX9_run 60 = .ok (.goto (-54), 3) := by decide +kernel
theorem dX9_run_63 : decode cX9_run 63 = .ok (.aload_n 0, 1) := by decide +kernel
theorem dX9_run_64 : decode cX9_run 64 = .ok (.invokevirtual 125, 3) := by decide +kernel
theorem dX9_run_67 : decode cX9_run 67 = .ok (.iload_n 1, 1) := by decide +kernel
theorem dX9_run_68 : decode cX9_run 68 = .ok (.ireturn, 1) := by decide +kernel
set_option maxRecDepth 20000 in
theorem ggX9_most_X9_isOne : GoodIn wsX9_most wsX9_isOne := goodIn_r _ [5, 6, 7, 8, 4, 9, 55, 56, 57, 58, 59, 60, 61, 62, 63, 64, 65, 66, 67, 68, 69, 70, 71, 72, 73, 74, 75, 76, 77, 78, 79, 80, 81, 82, 83, 84, 85] (by decide +kernel) (by decide +kernel)
set_option maxRecDepth 20000 in
theorem gX9_most_X9_isOne : GoodIn wsX9_most (wsV RX9 94 RX9 yX9_isOne wsX9_isOne) := goodIn_app (goodIn_of _ (by decide +kernel)) ggX9_most_X9_isOne
set_option maxRecDepth 20000 in
theorem ggX9_most_X9_findTimes : GoodIn wsX9_most wsX9_findTimes := goodIn_r _ [13, 14, 6, 15, 16, 17, 18, 4, 19, 20, 21, 22, 23, 24, 25, 26, 27, 28, 29, 30, 31, 32, 33, 34, 35, 36, 37, 38, 39, 40, 41, 42, 43, 44, 45, 46, 47, 48, 49, 50, 51, 52, 53, 54, 55, 56, 57, 58, 59, 60, 61, 62, 63, 64, 65, 66, 67, 68, 69, 70, 71, 72, 73, 74, 75, 76, 77, 78, 79, 80, 81, 82, 83, 84, 85] (by decide +kernel) (by decide +kernel)
set_option maxRecDepth 20000 in
theorem gX9_most_X9_findTimes : GoodIn wsX9_most (wsV RX9 192 RX9 yX9_findTimes wsX9_findTimes) := goodIn_app (goodIn_of _ (by decide +kernel)) ggX9_most_X9_findTimes
theorem dX9_most_0 : decode cX9_most 0 = .ok (.aload_n 0, 1) := by decide +kernel
theorem dX9_most_1 : decode cX9_most 1 = .ok (.iload_n 1, 1) := by decide +kernel
theorem dX9_most_2 : decode cX9_most 2 = .ok (.invokevirtual 94, 3) := by decide +kernel
theorem dX9_most_5 : decode cX9_most 5 = .ok (.ifCond .eq 11, 3) := by decide +kernel
theorem dX9_most_8 : decode cX9_most 8 = .ok (.aload_n 0, 1) := by decide +kernel
theorem dX9_most_9 : decode cX9_most 9 = .ok (.iload_n 1, 1) := by decide +kernel
theorem dX9_most_10 : decode cX9_most 10 = .ok (.invokevirtual 192, 3) := by decide +kernel
theorem dX9_most_13 : decode cX9_most 13 = .ok (.goto 4, 3) := by decide +kernel
theorem dX9_most_16 : decode cX9_most 16 = .ok (.iconst (-1), 1) := by decide +kernel
theorem dX9_most_17 : decode cX9_most 17 = .ok (.ireturn, 1) := by decide +kernel
set_option maxRecDepth 20000 in
theorem ggX9_when_X9_areTwo : GoodIn wsX9_when wsX9_areTwo := goodIn_r _ [6, 7, 8, 9, 5, 10, 11, 12, 13, 14, 59, 60, 61, 62, 63, 64, 65, 66, 67, 68, 69, 70, 71, 72, 73, 74, 75, 76, 77, 78, 79, 80, 81, 82, 83, 84, 85, 86, 87, 88, 89] (by decide +kernel) (by decide +kernel)
set_option maxRecDepth 20000 in
theorem gX9_when_X9_areTwo : GoodIn wsX9_when (wsV RX9 112 RX9 yX9_areTwo wsX9_areTwo) := goodIn_app (goodIn_of _ (by decide +kernel)) ggX9_when_X9_areTwo
set_option maxRecDepth 20000 in
theorem ggX9_when_X9_findTimes : GoodIn wsX9_when wsX9_findTimes := goodIn_r _ [18, 19, 11, 1, 20, 21, 22, 5, 23, 24, 25, 26, 27, 28, 29, 30, 31, 32, 33, 34, 35, 36, 37, 38, 39, 40, 41, 42, 43, 44, 45, 46, 47, 48, 49, 50, 51, 52, 53, 54, 55, 56, 57, 58, 59, 60, 61, 62, 63, 64, 65, 66, 67, 68, 69, 70, 71, 72, 73, 74, 75, 76, 77, 78, 79, 80, 81, 82, 83, 84, 85, 86, 87, 88, 89] (by decide +kernel) (by decide +kernel)
set_option maxRecDepth 20000 in
theorem gX9_when_X9_findTimes : GoodIn wsX9_when (wsV RX9 192 RX9 yX9_findTimes wsX9_findTimes) := goodIn_app (goodIn_of _ (by decide +kernel)) ggX9_when_X9_findTimes
theorem dX9_when_0 : decode cX9_when 0 = .ok (.aload_n 0, 1) := by decide +kernel
theorem dX9_when_1 : decode cX9_when 1 = .ok (.iload_n 1, 1) := by decide +kernel
theorem dX9_when_2 : decode cX9_when 2 = .ok (.iload_n 2, 1) := by decide +kernel
theorem dX9_when_3 : decode cX9_when 3 = .ok (.invokevirtual 112, 3) := by decide +kernel
theorem dX9_when_6 : decode cX9_when 6 = .ok (.ifCond .ne 5, 3) := by decide +kernel
theorem dX9_when_9 : decode cX9_when 9 = .ok (.iconst (-1), 1) := by decide +kernel
theorem dX9_when_10 : decode cX9_when 10 = .ok (.ireturn, 1) := by decide +kernel
theorem dX9_when_11 : decode cX9_when 11 = .ok (.aload_n 0, 1) := by decide +kernel
theorem dX9_when_12 : decode cX9_when 12 = .ok (.iload_n 1, 1) := by decide +kernel
theorem dX9_when_13 : decode cX9_when 13 = .ok (.invokevirtual 192, 3) := by decide +kernel
theorem dX9_when_16 : decode cX9_when 16 = .ok (.pop, 1) := by decide +kernel
theorem dX9_when_17 : decode cX9_when 17 = .ok (.aload_n 0, 1) := by decide +kernel
theorem dX9_when_18 : decode cX9_when 18 = .ok (.getfield 40, 3) := by decide +kernel
theorem dX9_when_21 : decode cX9_when 21 = .ok (.iload_n 2, 1) := by decide +kernel
theorem dX9_when_22 : decode cX9_when 22 = .ok (.iaload, 1) := by decide +kernel
theorem dX9_when_23 : decode cX9_when 23 = .ok (.ireturn, 1) := by decide +kernel
set_option maxRecDepth 20000 in
theorem ggX9_turns_X9_isOne : GoodIn wsX9_turns wsX9_isOne := goodIn_r _ [6, 7, 8, 9, 5, 10, 47, 48, 49, 50, 51, 52, 53, 54, 55, 56, 57, 58, 59, 60, 61, 62, 63, 64, 65, 66, 67, 68, 69, 70, 71, 72, 73, 74, 75, 76, 77] (by decide +kernel) (by decide +kernel)
set_option maxRecDepth 20000 in
theorem gX9_turns_X9_isOne : GoodIn wsX9_turns (wsV RX9 94 RX9 yX9_isOne wsX9_isOne) := goodIn_app (goodIn_of _ (by decide +kernel)) ggX9_turns_X9_isOne
set_option maxRecDepth 20000 in
theorem ggX9_turns_X9_findTurns : GoodIn wsX9_turns wsX9_findTurns := goodIn_r _ [14, 15, 16, 7, 17, 18, 19, 20, 5, 21, 22, 23, 24, 25, 26, 1, 27, 28, 29, 30, 31, 32, 33, 34, 35, 36, 37, 38, 39, 40, 41, 42, 43, 44, 45, 46, 47, 48, 49, 50, 51, 52, 53, 54, 55, 56, 57, 58, 59, 60, 61, 62, 63, 64, 65, 66, 67, 68, 69, 70, 71, 72, 73, 74, 75, 76, 77] (by decide +kernel) (by decide +kernel)
set_option maxRecDepth 20000 in
theorem gX9_turns_X9_findTurns : GoodIn wsX9_turns (wsV RX9 205 RX9 yX9_findTurns wsX9_findTurns) := goodIn_app (goodIn_of _ (by decide +kernel)) ggX9_turns_X9_findTurns
theorem dX9_turns_0 : decode cX9_turns 0 = .ok (.aload_n 0, 1) := by decide +kernel
theorem dX9_turns_1 : decode cX9_turns 1 = .ok (.iload_n 1, 1) := by decide +kernel
theorem dX9_turns_2 : decode cX9_turns 2 = .ok (.invokevirtual 94, 3) := by decide +kernel
theorem dX9_turns_5 : decode cX9_turns 5 = .ok (.ifCond .ne 5, 3) := by decide +kernel
theorem dX9_turns_8 : decode cX9_turns 8 = .ok (.iconst (-1), 1) := by decide +kernel
theorem dX9_turns_9 : decode cX9_turns 9 = .ok (.ireturn, 1) := by decide +kernel
theorem dX9_turns_10 : decode cX9_turns 10 = .ok (.aload_n 0, 1) := by decide +kernel
theorem dX9_turns_11 : decode cX9_turns 11 = .ok (.invokevirtual 205, 3) := by decide +kernel
theorem dX9_turns_14 : decode cX9_turns 14 = .ok (.aload_n 0, 1) := by decide +kernel
theorem dX9_turns_15 : decode cX9_turns 15 = .ok (.getfield 52, 3) := by decide +kernel
theorem dX9_turns_18 : decode cX9_turns 18 = .ok (.iload_n 1, 1) := by decide +kernel
theorem dX9_turns_19 : decode cX9_turns 19 = .ok (.iaload, 1) := by decide +kernel
theorem dX9_turns_20 : decode cX9_turns 20 = .ok (.ifCond .ne 8, 3) := by decide +kernel
theorem dX9_turns_23 : decode cX9_turns 23 = .ok (.bipush 9, 2) := by decide +kernel
theorem dX9_turns_25 : decode cX9_turns 25 = .ok (.goto 11, 3) := by decide +kernel
theorem dX9_turns_28 : decode cX9_turns 28 = .ok (.aload_n 0, 1) := by decide +kernel
theorem dX9_turns_29 : decode cX9_turns 29 = .ok (.getfield 52, 3) := by decide +kernel
theorem dX9_turns_32 : decode cX9_turns 32 = .ok (.iload_n 1, 1) := by decide +kernel
theorem dX9_turns_33 : decode cX9_turns 33 = .ok (.iaload, 1) := by decide +kernel
theorem dX9_turns_34 : decode cX9_turns 34 = .ok (.iconst 1, 1) := by decide +kernel
theorem dX9_turns_35 : decode cX9_turns 35 = .ok (.isub, 1) := by decide +kernel
theorem dX9_turns_36 : decode cX9_turns 36 = .ok (.ireturn, 1) := by decide +kernel
set_option maxRecDepth 20000 in
theorem ggX9_ends_X9_isOne : GoodIn wsX9_ends wsX9_isOne := goodIn_r _ [6, 7, 8, 9, 5, 10, 47, 48, 49, 50, 51, 52, 53, 54, 55, 56, 57, 58, 59, 60, 61, 62, 63, 64, 65, 66, 67, 68, 69, 70, 71, 72, 73, 74, 75, 76, 77] (by decide +kernel) (by decide +kernel)
set_option maxRecDepth 20000 in
theorem gX9_ends_X9_isOne : GoodIn wsX9_ends (wsV RX9 94 RX9 yX9_isOne wsX9_isOne) := goodIn_app (goodIn_of _ (by decide +kernel)) ggX9_ends_X9_isOne
set_option maxRecDepth 20000 in
theorem ggX9_ends_X9_findTurns : GoodIn wsX9_ends wsX9_findTurns := goodIn_r _ [14, 15, 16, 7, 17, 18, 19, 20, 5, 21, 1, 22, 23, 24, 25, 26, 27, 28, 29, 30, 31, 32, 33, 34, 35, 36, 37, 38, 39, 40, 41, 42, 43, 44, 45, 46, 47, 48, 49, 50, 51, 52, 53, 54, 55, 56, 57, 58, 59, 60, 61, 62, 63, 64, 65, 66, 67, 68, 69, 70, 71, 72, 73, 74, 75, 76, 77] (by decide +kernel) (by decide +kernel)
set_option maxRecDepth 20000 in
theorem gX9_ends_X9_findTurns : GoodIn wsX9_ends (wsV RX9 205 RX9 yX9_findTurns wsX9_findTurns) := goodIn_app (goodIn_of _ (by decide +kernel)) ggX9_ends_X9_findTurns
theorem dX9_ends_0 : decode cX9_ends 0 = .ok (.aload_n 0, 1) := by decide +kernel
theorem dX9_ends_1 : decode cX9_ends 1 = .ok (.iload_n 1, 1) := by decide +kernel
theorem dX9_ends_2 : decode cX9_ends 2 = .ok (.invokevirtual 94, 3) := by decide +kernel
theorem dX9_ends_5 : decode cX9_ends 5 = .ok (.ifCond .ne 5, 3) := by decide +kernel
theorem dX9_ends_8 : decode cX9_ends 8 = .ok (.iconst (-1), 1) := by decide +kernel
theorem dX9_ends_9 : decode cX9_ends 9 = .ok (.ireturn, 1) := by decide +kernel
theorem dX9_ends_10 : decode cX9_ends 10 = .ok (.aload_n 0, 1) := by decide +kernel
theorem dX9_ends_11 : decode cX9_ends 11 = .ok (.invokevirtual 205, 3) := by decide +kernel
theorem dX9_ends_14 : decode cX9_ends 14 = .ok (.aload_n 0, 1) := by decide +kernel
theorem dX9_ends_15 : decode cX9_ends 15 = .ok (.getfield 49, 3) := by decide +kernel
theorem dX9_ends_18 : decode cX9_ends 18 = .ok (.iload_n 1, 1) := by decide +kernel
theorem dX9_ends_19 : decode cX9_ends 19 = .ok (.iaload, 1) := by decide +kernel
theorem dX9_ends_20 : decode cX9_ends 20 = .ok (.ireturn, 1) := by decide +kernel
set_option maxRecDepth 20000 in
theorem ggX9_order_X9_in : GoodIn wsX9_order wsX9_in := goodIn_r _ [11] (by decide +kernel) (by decide +kernel)
set_option maxRecDepth 20000 in
theorem gX9_order_X9_in : GoodIn wsX9_order (va_wsS RX9 90 yX9_in wsX9_in) := goodIn_app (goodIn_of _ (by decide +kernel)) ggX9_order_X9_in
set_option maxRecDepth 20000 in
theorem ggX9_order_X9_firstOrder : GoodIn wsX9_order wsX9_firstOrder := goodIn_r _ [15, 7, 50, 51, 52, 53, 54, 55, 56, 57, 58, 59, 60, 61, 62, 63, 64, 65, 66, 67, 68, 69, 70, 71, 72, 73, 74, 75, 76, 77, 78, 79, 80] (by decide +kernel) (by decide +kernel)
set_option maxRecDepth 20000 in
theorem gX9_order_X9_firstOrder : GoodIn wsX9_order (wsV RX9 212 RX9 yX9_firstOrder wsX9_firstOrder) := goodIn_app (goodIn_of _ (by decide +kernel)) ggX9_order_X9_firstOrder
set_option maxRecDepth 20000 in
theorem ggX9_order_X9_goOrder : GoodIn wsX9_order wsX9_goOrder := goodIn_r _ [19, 3, 20, 7, 21, 22, 23, 10, 24, 25, 26, 27, 28, 29, 30, 31, 32, 33, 34, 35, 36, 37, 38, 39, 40, 41, 50, 51, 52, 53, 54, 55, 56, 57, 58, 59, 60, 61, 62, 63, 64, 65, 66, 67, 68, 69, 70, 71, 72, 73, 74, 75, 76, 77, 78, 79, 80] (by decide +kernel) (by decide +kernel)
set_option maxRecDepth 20000 in
theorem gX9_order_X9_goOrder : GoodIn wsX9_order (wsV RX9 216 RX9 yX9_goOrder wsX9_goOrder) := goodIn_app (goodIn_of _ (by decide +kernel)) ggX9_order_X9_goOrder
set_option maxRecDepth 20000 in
theorem ggX9_order_X9_apart : GoodIn wsX9_order wsX9_apart := goodIn_r _ [45, 25, 4, 50, 51, 52, 53, 54, 55, 56, 57, 58, 59, 60, 61, 62, 63, 64, 65, 66, 67, 68, 69, 70, 71, 72, 73, 74, 75, 76, 77, 78, 79, 80] (by decide +kernel) (by decide +kernel)
set_option maxRecDepth 20000 in
theorem gX9_order_X9_apart : GoodIn wsX9_order (wsV RX9 219 RX9 yX9_apart wsX9_apart) := goodIn_app (goodIn_of _ (by decide +kernel)) ggX9_order_X9_apart
set_option maxRecDepth 20000 in
theorem ggX9_order_X9_nextOrder : GoodIn wsX9_order wsX9_nextOrder := goodIn_r _ [49, 3, 7, 50, 51, 52, 53, 54, 55, 56, 57, 58, 59, 60, 61, 62, 63, 64, 65, 66, 67, 68, 69, 70, 71, 72, 73, 74, 75, 76, 77, 78, 79, 80] (by decide +kernel) (by decide +kernel)
set_option maxRecDepth 20000 in
theorem gX9_order_X9_nextOrder : GoodIn wsX9_order (wsV RX9 222 RX9 yX9_nextOrder wsX9_nextOrder) := goodIn_app (goodIn_of _ (by decide +kernel)) ggX9_order_X9_nextOrder
theorem dX9_order_0 : decode cX9_order 0 = .ok (.iload_n 1, 1) := by decide +kernel
theorem dX9_order_1 : decode cX9_order 1 = .ok (.i2l, 1) := by decide +kernel
theorem dX9_order_2 : decode cX9_order 2 = .ok (.ldc2_w 208, 3) := by decide +kernel
theorem dX9_order_5 : decode cX9_order 5 = .ok (.ldc2_w 210, 3) := by decide +kernel
theorem dX9_order_8 : decode cX9_order 8 = .ok (.invokestatic 90, 3) := by decide +kernel
theorem dX9_order_11 : decode cX9_order 11 = .ok (.ifCond .ne 5, 3) := by decide +kernel
theorem dX9_order_14 : decode cX9_order 14 = .ok (.iconst (-1), 1) := by decide +kernel
theorem dX9_order_15 : decode cX9_order 15 = .ok (.ireturn, 1) := by decide +kernel
theorem dX9_order_16 : decode cX9_order 16 = .ok (.aload_n 0, 1) := by decide +kernel
theorem dX9_order_17 : decode cX9_order 17 = .ok (.getfield 139, 3) := by decide +kernel
theorem dX9_order_20 : decode cX9_order 20 = .ok (.bipush 6, 2) := by decide +kernel
theorem dX9_order_22 : decode cX9_order 22 = .ok (.if_icmp .le 6, 3) := by decide +kernel
theorem dX9_order_25 : decode cX9_order 25 = .ok (.bipush (-3), 2) := by decide +kernel
theorem dX9_order_27 : decode cX9_order 27 = .ok (.ireturn, 1) := by decide +kernel
theorem dX9_order_28 : decode cX9_order 28 = .ok (.aload_n 0, 1) := by decide +kernel
theorem dX9_order_29 : decode cX9_order 29 = .ok (.getfield 86, 3) := by decide +kernel
theorem dX9_order_32 : decode cX9_order 32 = .ok (.ifCond .eq 11, 3) := by decide +kernel
theorem dX9_order_35 : decode cX9_order 35 = .ok (.iload_n 1, 1) := by decide +kernel
theorem dX9_order_36 : decode cX9_order 36 = .ok (.aload_n 0, 1) := by decide +kernel
theorem dX9_order_37 : decode cX9_order 37 = .ok (.getfield 139, 3) := by decide +kernel
theorem dX9_order_40 : decode cX9_order 40 = .ok (.if_icmp .lt 6, 3) := by decide +kernel
theorem dX9_order_43 : decode cX9_order 43 = .ok (.bipush (-4), 2) := by decide +kernel
theorem dX9_order_45 : decode cX9_order 45 = .ok (.ireturn, 1) := by decide +kernel
theorem dX9_order_46 : decode cX9_order 46 = .ok (.aload_n 0, 1) := by decide +kernel
theorem dX9_order_47 : decode cX9_order 47 = .ok (.invokevirtual 212, 3) := by decide +kernel
theorem dX9_order_50 : decode cX9_order 50 = .ok (.ldc 215, 2) := by decide +kernel
theorem dX9_order_52 : decode cX9_order 52 = .ok (.istore_n 2, 1) := by decide +kernel
theorem dX9_order_53 : decode cX9_order 53 = .ok (.iconst 1, 1) := by decide +kernel
theorem dX9_order_54 : decode cX9_order 54 = .ok (.istore_n 3, 1) := by decide +kernel
theorem dX9_order_55 : decode cX9_order 55 = .ok (.iload_n 3, 1) := by decide +kernel
theorem dX9_order_56 : decode cX9_order 56 = .ok (.ifCond .eq 72, 3) := by decide +kernel
theorem dX9_order_59 : decode cX9_order 59 = .ok (.aload_n 0, 1) := by decide +kernel
theorem dX9_order_60 : decode cX9_order 60 = .ok (.invokevirtual 216, 3) := by decide +kernel
theorem dX9_order_63 : decode cX9_order 63 = .ok (.aload_n 0, 1) := by decide +kernel
theorem dX9_order_64 : decode cX9_order 64 = .ok (.invokevirtual 219, 3) := by decide +kernel
theorem dX9_order_67 : decode cX9_order 67 = .ok (.istore 4, 2) := by decide +kernel
theorem dX9_order_69 : decode cX9_order 69 = .ok (.iconst 0, 1) := by decide +kernel
theorem dX9_order_70 : decode cX9_order 70 = .ok (.istore 5, 2) := by decide +kernel
theorem dX9_order_72 : decode cX9_order 72 = .ok (.iload 5, 2) := by decide +kernel
theorem dX9_order_74 : decode cX9_order 74 = .ok (.aload_n 0, 1) := by decide +kernel
theorem dX9_order_75 : decode cX9_order 75 = .ok (.getfield 139, 3) := by decide +kernel
theorem dX9_order_78 : decode cX9_order 78 = .ok (.if_icmp .ge 29, 3) := by decide +kernel
theorem dX9_order_81 : decode cX9_order 81 = .ok (.iload 4, 2) := by decide +kernel
theorem dX9_order_83 : decode cX9_order 83 = .ok (.iload_n 2, 1) := by decide +kernel
theorem dX9_order_84 : decode cX9_order 84 = .ok (.if_icmp .ge 23, 3) := by decide +kernel
theorem dX9_order_87 : decode cX9_order 87 = .ok (.aload_n 0, 1) := by decide +kernel
theorem dX9_order_88 : decode cX9_order 88 = .ok (.getfield 58, 3) := by decide +kernel
theorem dX9_order_91 : decode cX9_order 91 = .ok (.iload 5, 2) := by decide +kernel
theorem dX9_order_93 : decode cX9_order 93 = .ok (.aload_n 0, 1) := by decide +kernel
theorem dX9_order_94 : decode cX9_order 94 = .ok (.getfield 55, 3) := by decide +kernel
theorem dX9_order_97 : decode cX9_order 97 = .ok (.iload 5, 2) := by decide +kernel
theorem dX9_order_99 : decode cX9_order 99 = .ok (.iaload, 1) := by decide +kernel
theorem dX9_order_100 : decode cX9_order 100 = .ok (.iastore, 1) := by decide +kernel
theorem dX9_order_101 : decode cX9_order 101 = .ok (.iinc 5 1, 3) := by decide +kernel
theorem dX9_order_104 : decode cX9_order 104 = .ok (.goto (-32), 3) := by decide +kernel
theorem dX9_order_107 : decode cX9_order 107 = .ok (.iload 4, 2) := by decide +kernel
theorem dX9_order_109 : decode cX9_order 109 = .ok (.iload_n 2, 1) := by decide +kernel
theorem dX9_order_110 : decode cX9_order 110 = .ok (.if_icmp .ge 8, 3) := by decide +kernel
theorem dX9_order_113 : decode cX9_order 113 = .ok (.iload 4, 2) := by decide +kernel
theorem dX9_order_115 : decode cX9_order 115 = .ok (.goto 4, 3) := by decide +kernel
theorem dX9_order_118 : decode cX9_order 118 = .ok (.iload_n 2, 1) := by decide +kernel
theorem dX9_order_119 : decode cX9_order 119 = .ok (.istore_n 2, 1) := by decide +kernel
theorem dX9_order_120 : decode cX9_order 120 = .ok (.aload_n 0, 1) := by decide +kernel
theorem dX9_order_121 : decode cX9_order 121 = .ok (.invokevirtual 222, 3) := by decide +kernel
theorem dX9_order_124 : decode cX9_order 124 = .ok (.istore_n 3, 1) := by decide +kernel
theorem dX9_order_125 : decode cX9_order 125 = .ok (.goto (-70), 3) := by decide +kernel
theorem dX9_order_128 : decode cX9_order 128 = .ok (.iload_n 1, 1) := by decide +kernel
theorem dX9_order_129 : decode cX9_order 129 = .ok (.ifCond .ge 7, 3) := by decide +kernel
theorem dX9_order_132 : decode cX9_order 132 = .ok (.iload_n 2, 1) := by decide +kernel
theorem dX9_order_133 : decode cX9_order 133 = .ok (.goto 9, 3) := by decide +kernel
theorem dX9_order_136 : decode cX9_order 136 = .ok (.aload_n 0, 1) := by decide +kernel
theorem dX9_order_137 : decode cX9_order 137 = .ok (.getfield 58, 3) := by decide +kernel
theorem dX9_order_140 : decode cX9_order 140 = .ok (.iload_n 1, 1) := by decide +kernel
theorem dX9_order_141 : decode cX9_order 141 = .ok (.iaload, 1) := by decide +kernel
theorem dX9_order_142 : decode cX9_order 142 = .ok (.ireturn, 1) := by decide +kernel
set_option maxRecDepth 20000 in
theorem ggX9_so_X9_in : GoodIn wsX9_so wsX9_in := goodIn_r _ [8] (by decide +kernel) (by decide +kernel)
set_option maxRecDepth 20000 in
theorem gX9_so_X9_in : GoodIn wsX9_so (va_wsS RX9 90 yX9_in wsX9_in) := goodIn_app (goodIn_of _ (by decide +kernel)) ggX9_so_X9_in
set_option maxRecDepth 20000 in
theorem ggX9_so_X9_firstOrder : GoodIn wsX9_so wsX9_firstOrder := goodIn_r _ [12, 13, 43, 44, 45, 46, 47, 48, 49, 50, 51, 52, 53, 54, 55, 56, 57, 58, 59, 60, 61, 62, 63, 64, 65, 66, 67, 68, 69, 70, 71, 72, 73] (by decide +kernel) (by decide +kernel)
set_option maxRecDepth 20000 in
theorem gX9_so_X9_firstOrder : GoodIn wsX9_so (wsV RX9 212 RX9 yX9_firstOrder wsX9_firstOrder) := goodIn_app (goodIn_of _ (by decide +kernel)) ggX9_so_X9_firstOrder
set_option maxRecDepth 20000 in
theorem ggX9_so_X9_goOrder : GoodIn wsX9_so wsX9_goOrder := goodIn_r _ [17, 3, 18, 13, 19, 20, 21, 7, 22, 4, 23, 24, 25, 26, 27, 28, 29, 30, 31, 32, 33, 34, 35, 36, 37, 38, 43, 44, 45, 46, 47, 48, 49, 50, 51, 52, 53, 54, 55, 56, 57, 58, 59, 60, 61, 62, 63, 64, 65, 66, 67, 68, 69, 70, 71, 72, 73] (by decide +kernel) (by decide +kernel)
set_option maxRecDepth 20000 in
theorem gX9_so_X9_goOrder : GoodIn wsX9_so (wsV RX9 216 RX9 yX9_goOrder wsX9_goOrder) := goodIn_app (goodIn_of _ (by decide +kernel)) ggX9_so_X9_goOrder
set_option maxRecDepth 20000 in
theorem ggX9_so_X9_has : GoodIn wsX9_so wsX9_has := goodIn_r _ [33] (by decide +kernel) (by decide +kernel)
set_option maxRecDepth 20000 in
theorem gX9_so_X9_has : GoodIn wsX9_so (va_wsS RX9 116 yX9_has wsX9_has) := goodIn_app (goodIn_of _ (by decide +kernel)) ggX9_so_X9_has
set_option maxRecDepth 20000 in
theorem ggX9_so_X9_nextOrder : GoodIn wsX9_so wsX9_nextOrder := goodIn_r _ [42, 3, 13, 43, 44, 45, 46, 47, 48, 49, 50, 51, 52, 53, 54, 55, 56, 57, 58, 59, 60, 61, 62, 63, 64, 65, 66, 67, 68, 69, 70, 71, 72, 73] (by decide +kernel) (by decide +kernel)
set_option maxRecDepth 20000 in
theorem gX9_so_X9_nextOrder : GoodIn wsX9_so (wsV RX9 222 RX9 yX9_nextOrder wsX9_nextOrder) := goodIn_app (goodIn_of _ (by decide +kernel)) ggX9_so_X9_nextOrder
theorem dX9_so_0 : decode cX9_so 0 = .ok (.iload_n 1, 1) := by decide +kernel
theorem dX9_so_1 : decode cX9_so 1 = .ok (.i2l, 1) := by decide +kernel
theorem dX9_so_2 : decode cX9_so 2 = .ok (.lconst 1, 1) := by decide +kernel
theorem dX9_so_3 : decode cX9_so 3 = .ok (.iconst 1, 1) := by decide +kernel
theorem dX9_so_4 : decode cX9_so 4 = .ok (.aload_n 0, 1) := by decide +kernel
theorem dX9_so_5 : decode cX9_so 5 = .ok (.getfield 86, 3) := by decide +kernel
theorem dX9_so_8 : decode cX9_so 8 = .ok (.ishl, 1) := by decide +kernel
theorem dX9_so_9 : decode cX9_so 9 = .ok (.iconst 1, 1) := by decide +kernel
theorem dX9_so_10 : decode cX9_so 10 = .ok (.isub, 1) := by decide +kernel
theorem dX9_so_11 : decode cX9_so 11 = .ok (.i2l, 1) := by decide +kernel
theorem dX9_so_12 : decode cX9_so 12 = .ok (.invokestatic 90, 3) := by decide +kernel
theorem dX9_so_15 : decode cX9_so 15 = .ok (.ifCond .eq 15, 3) := by decide +kernel
theorem dX9_so_18 : decode cX9_so 18 = .ok (.iload_n 2, 1) := by decide +kernel
theorem dX9_so_19 : decode cX9_so 19 = .ok (.i2l, 1) := by decide +kernel
theorem dX9_so_20 : decode cX9_so 20 = .ok (.lconst 0, 1) := by decide +kernel
theorem dX9_so_21 : decode cX9_so 21 = .ok (.ldc2_w 225, 3) := by decide +kernel
theorem dX9_so_24 : decode cX9_so 24 = .ok (.invokestatic 90, 3) := by decide +kernel
theorem dX9_so_27 : decode cX9_so 27 = .ok (.ifCond .ne 5, 3) := by decide +kernel
theorem dX9_so_30 : decode cX9_so 30 = .ok (.iconst (-1), 1) := by decide +kernel
theorem dX9_so_31 : decode cX9_so 31 = .ok (.ireturn, 1) := by decide +kernel
theorem dX9_so_32 : decode cX9_so 32 = .ok (.aload_n 0, 1) := by decide +kernel
theorem dX9_so_33 : decode cX9_so 33 = .ok (.getfield 139, 3) := by decide +kernel
theorem dX9_so_36 : decode cX9_so 36 = .ok (.bipush 6, 2) := by decide +kernel
theorem dX9_so_38 : decode cX9_so 38 = .ok (.if_icmp .le 6, 3) := by decide +kernel
theorem dX9_so_41 : decode cX9_so 41 = .ok (.bipush (-3), 2) := by decide +kernel
theorem dX9_so_43 : decode cX9_so 43 = .ok (.ireturn, 1) := by decide +kernel
theorem dX9_so_44 : decode cX9_so 44 = .ok (.aload_n 0, 1) := by decide +kernel
theorem dX9_so_45 : decode cX9_so 45 = .ok (.invokevirtual 212, 3) := by decide +kernel
theorem dX9_so_48 : decode cX9_so 48 = .ok (.iconst 0, 1) := by decide +kernel
theorem dX9_so_49 : decode cX9_so 49 = .ok (.istore_n 3, 1) := by decide +kernel
theorem dX9_so_50 : decode cX9_so 50 = .ok (.iconst 1, 1) := by decide +kernel
theorem dX9_so_51 : decode cX9_so 51 = .ok (.istore 4, 2) := by decide +kernel
theorem dX9_so_53 : decode cX9_so 53 = .ok (.iload 4, 2) := by decide +kernel
theorem dX9_so_55 : decode cX9_so 55 = .ok (.ifCond .eq 82, 3) := by decide +kernel
theorem dX9_so_58 : decode cX9_so 58 = .ok (.aload_n 0, 1) := by decide +kernel
theorem dX9_so_59 : decode cX9_so 59 = .ok (.invokevirtual 216, 3) := by decide +kernel
theorem dX9_so_62 : decode cX9_so 62 = .ok (.iconst 1, 1) := by decide +kernel
theorem dX9_so_63 : decode cX9_so 63 = .ok (.istore 5, 2) := by decide +kernel
theorem dX9_so_65 : decode cX9_so 65 = .ok (.iconst 0, 1) := by decide +kernel
theorem dX9_so_66 : decode cX9_so 66 = .ok (.istore 6, 2) := by decide +kernel
theorem dX9_so_68 : decode cX9_so 68 = .ok (.iload 6, 2) := by decide +kernel
theorem dX9_so_70 : decode cX9_so 70 = .ok (.aload_n 0, 1) := by decide +kernel
theorem dX9_so_71 : decode cX9_so 71 = .ok (.getfield 86, 3) := by decide +kernel
theorem dX9_so_74 : decode cX9_so 74 = .ok (.if_icmp .ge 41, 3) := by decide +kernel
theorem dX9_so_77 : decode cX9_so 77 = .ok (.iload 5, 2) := by decide +kernel
theorem dX9_so_79 : decode cX9_so 79 = .ok (.ifCond .eq 27, 3) := by decide +kernel
theorem dX9_so_82 : decode cX9_so 82 = .ok (.iload_n 1, 1) := by decide +kernel
theorem dX9_so_83 : decode cX9_so 83 = .ok (.iload 6, 2) := by decide +kernel
theorem dX9_so_85 : decode cX9_so 85 = .ok (.invokestatic 116, 3) := by decide +kernel
theorem dX9_so_88 : decode cX9_so 88 = .ok (.ifCond .eq 14, 3) := by decide +kernel
theorem dX9_so_91 : decode cX9_so 91 = .ok (.aload_n 0, 1) := by decide +kernel
theorem dX9_so_92 : decode cX9_so 92 = .ok (.getfield 25, 3) := by decide +kernel
theorem dX9_so_95 : decode cX9_so 95 = .ok (.iload 6, 2) := by decide +kernel
theorem dX9_so_97 : decode cX9_so 97 = .ok (.iaload, 1) := by decide +kernel
theorem dX9_so_98 : decode cX9_so 98 = .ok (.iload_n 2, 1) := by decide +kernel
theorem dX9_so_99 : decode cX9_so 99 = .ok (.if_icmp .ne 7, 3) := by decide +kernel
theorem dX9_so_102 : decode cX9_so 102 = .ok (.iconst 1, 1) := by decide +kernel
theorem dX9_so_103 : decode cX9_so 103 = .ok (.goto 4, 3) := by decide +kernel
theorem dX9_so_106 : decode cX9_so 106 = .ok (.iconst 0, 1) := by decide +kernel
theorem dX9_so_107 : decode cX9_so 107 = .ok (.istore 5, 2) := by decide +kernel
theorem dX9_so_109 : decode cX9_so 109 = .ok (.iinc 6 1, 3) := by decide +kernel
theorem dX9_so_112 : decode cX9_so 112 = .ok (.goto (-44), 3) := by decide +kernel
theorem dX9_so_115 : decode cX9_so 115 = .ok (.iload_n 3, 1) := by decide +kernel
theorem dX9_so_116 : decode cX9_so 116 = .ok (.iload 5, 2) := by decide +kernel
theorem dX9_so_118 : decode cX9_so 118 = .ok (.ifCond .eq 7, 3) := by decide +kernel
theorem dX9_so_121 : decode cX9_so 121 = .ok (.iconst 1, 1) := by decide +kernel
theorem dX9_so_122 : decode cX9_so 122 = .ok (.goto 4, 3) := by decide +kernel
theorem dX9_so_125 : decode cX9_so 125 = .ok (.iconst 0, 1) := by decide +kernel
theorem dX9_so_126 : decode cX9_so 126 = .ok (.iadd, 1) := by decide +kernel
theorem dX9_so_127 : decode cX9_so 127 = .ok (.istore_n 3, 1) := by decide +kernel
theorem dX9_so_128 : decode cX9_so 128 = .ok (.aload_n 0, 1) := by decide +kernel
theorem dX9_so_129 : decode cX9_so 129 = .ok (.invokevirtual 222, 3) := by decide +kernel
theorem dX9_so_132 : decode cX9_so 132 = .ok (.istore 4, 2) := by decide +kernel
theorem dX9_so_134 : decode cX9_so 134 = .ok (.goto (-81), 3) := by decide +kernel
theorem dX9_so_137 : decode cX9_so 137 = .ok (.iload_n 3, 1) := by decide +kernel
theorem dX9_so_138 : decode cX9_so 138 = .ok (.ireturn, 1) := by decide +kernel
set_option maxRecDepth 20000 in
theorem ggX9_exact_X9_isOne : GoodIn wsX9_exact wsX9_isOne := goodIn_r _ [14, 3, 15, 16, 13, 17, 21, 22, 23, 24, 25, 26, 27, 28, 29, 30, 31, 32, 33, 34, 35, 36, 37, 38, 39, 40, 41, 42, 43, 44, 45, 46, 47, 48, 49, 50, 51] (by decide +kernel) (by decide +kernel)
set_option maxRecDepth 20000 in
theorem gX9_exact_X9_isOne : GoodIn wsX9_exact (wsV RX9 94 RX9 yX9_isOne wsX9_isOne) := goodIn_app (goodIn_of _ (by decide +kernel)) ggX9_exact_X9_isOne
set_option maxRecDepth 20000 in
theorem ggX9_exact_X9_in : GoodIn wsX9_exact wsX9_in := goodIn_r _ [17] (by decide +kernel) (by decide +kernel)
set_option maxRecDepth 20000 in
theorem gX9_exact_X9_in : GoodIn wsX9_exact (va_wsS RX9 90 yX9_in wsX9_in) := goodIn_app (goodIn_of _ (by decide +kernel)) ggX9_exact_X9_in
set_option maxRecDepth 20000 in
theorem ggX9_exact_X9_has : GoodIn wsX9_exact wsX9_has := goodIn_r _ [20] (by decide +kernel) (by decide +kernel)
set_option maxRecDepth 20000 in
theorem gX9_exact_X9_has : GoodIn wsX9_exact (va_wsS RX9 116 yX9_has wsX9_has) := goodIn_app (goodIn_of _ (by decide +kernel)) ggX9_exact_X9_has
theorem dX9_exact_0 : decode cX9_exact 0 = .ok (.aload_n 0, 1) := by decide +kernel
theorem dX9_exact_1 : decode cX9_exact 1 = .ok (.iload_n 1, 1) := by decide +kernel
theorem dX9_exact_2 : decode cX9_exact 2 = .ok (.invokevirtual 94, 3) := by decide +kernel
theorem dX9_exact_5 : decode cX9_exact 5 = .ok (.ifCond .eq 25, 3) := by decide +kernel
theorem dX9_exact_8 : decode cX9_exact 8 = .ok (.iload_n 2, 1) := by decide +kernel
theorem dX9_exact_9 : decode cX9_exact 9 = .ok (.i2l, 1) := by decide +kernel
theorem dX9_exact_10 : decode cX9_exact 10 = .ok (.lconst 1, 1) := by decide +kernel
theorem dX9_exact_11 : decode cX9_exact 11 = .ok (.ldc2_w 98, 3) := by decide +kernel
theorem dX9_exact_14 : decode cX9_exact 14 = .ok (.invokestatic 90, 3) := by decide +kernel
theorem dX9_exact_17 : decode cX9_exact 17 = .ok (.ifCond .eq 13, 3) := by decide +kernel
theorem dX9_exact_20 : decode cX9_exact 20 = .ok (.iload_n 3, 1) := by decide +kernel
theorem dX9_exact_21 : decode cX9_exact 21 = .ok (.i2l, 1) := by decide +kernel
theorem dX9_exact_22 : decode cX9_exact 22 = .ok (.lconst 0, 1) := by decide +kernel
theorem dX9_exact_23 : decode cX9_exact 23 = .ok (.lconst 1, 1) := by decide +kernel
theorem dX9_exact_24 : decode cX9_exact 24 = .ok (.invokestatic 90, 3) := by decide +kernel
theorem dX9_exact_27 : decode cX9_exact 27 = .ok (.ifCond .ne 7, 3) := by decide +kernel
theorem dX9_exact_30 : decode cX9_exact 30 = .ok (.ldc2_w 208, 3) := by decide +kernel
theorem dX9_exact_33 : decode cX9_exact 33 = .ok (.lreturn, 1) := by decide +kernel
theorem dX9_exact_34 : decode cX9_exact 34 = .ok (.iconst 0, 1) := by decide +kernel
theorem dX9_exact_35 : decode cX9_exact 35 = .ok (.istore 4, 2) := by decide +kernel
theorem dX9_exact_37 : decode cX9_exact 37 = .ok (.iload 4, 2) := by decide +kernel
theorem dX9_exact_39 : decode cX9_exact 39 = .ok (.aload_n 0, 1) := by decide +kernel
theorem dX9_exact_40 : decode cX9_exact 40 = .ok (.getfield 86, 3) := by decide +kernel
theorem dX9_exact_43 : decode cX9_exact 43 = .ok (.if_icmp .ge 24, 3) := by decide +kernel
theorem dX9_exact_46 : decode cX9_exact 46 = .ok (.aload_n 0, 1) := by decide +kernel
theorem dX9_exact_47 : decode cX9_exact 47 = .ok (.getfield 61, 3) := by decide +kernel
theorem dX9_exact_50 : decode cX9_exact 50 = .ok (.iload 4, 2) := by decide +kernel
theorem dX9_exact_52 : decode cX9_exact 52 = .ok (.aload_n 0, 1) := by decide +kernel
theorem dX9_exact_53 : decode cX9_exact 53 = .ok (.getfield 13, 3) := by decide +kernel
theorem dX9_exact_56 : decode cX9_exact 56 = .ok (.iload 4, 2) := by decide +kernel
theorem dX9_exact_58 : decode cX9_exact 58 = .ok (.iaload, 1) := by decide +kernel
theorem dX9_exact_59 : decode cX9_exact 59 = .ok (.i2l, 1) := by decide +kernel
theorem dX9_exact_60 : decode cX9_exact 60 = .ok (.lastore, 1) := by decide +kernel
theorem dX9_exact_61 : decode cX9_exact 61 = .ok (.iinc 4 1, 3) := by decide +kernel
theorem dX9_exact_64 : decode cX9_exact 64 = .ok (.goto (-27), 3) := by decide +kernel
theorem dX9_exact_67 : decode cX9_exact 67 = .ok (.lconst 1, 1) := by decide +kernel
theorem dX9_exact_68 : decode cX9_exact 68 = .ok (.lstore 4, 2) := by decide +kernel
theorem dX9_exact_70 : decode cX9_exact 70 = .ok (.iconst 0, 1) := by decide +kernel
theorem dX9_exact_71 : decode cX9_exact 71 = .ok (.istore 6, 2) := by decide +kernel
theorem dX9_exact_73 : decode cX9_exact 73 = .ok (.iload 6, 2) := by decide +kernel
theorem dX9_exact_75 : decode cX9_exact 75 = .ok (.iload_n 2, 1) := by decide +kernel
theorem dX9_exact_76 : decode cX9_exact 76 = .ok (.aload_n 0, 1) := by decide +kernel
theorem dX9_exact_77 : decode cX9_exact 77 = .ok (.getfield 139, 3) := by decide +kernel
theorem dX9_exact_80 : decode cX9_exact 80 = .ok (.imul, 1) := by decide +kernel
theorem dX9_exact_81 : decode cX9_exact 81 = .ok (.if_icmp .ge 134, 3) := by decide +kernel
theorem dX9_exact_84 : decode cX9_exact 84 = .ok (.aload_n 0, 1) := by decide +kernel
theorem dX9_exact_85 : decode cX9_exact 85 = .ok (.getfield 22, 3) := by decide +kernel
theorem dX9_exact_88 : decode cX9_exact 88 = .ok (.iconst 3, 1) := by decide +kernel
theorem dX9_exact_89 : decode cX9_exact 89 = .ok (.iload 6, 2) := by decide +kernel
theorem dX9_exact_91 : decode cX9_exact 91 = .ok (.aload_n 0, 1) := by decide +kernel
theorem dX9_exact_92 : decode cX9_exact 92 = .ok (.getfield 139, 3) := by decide +kernel
theorem dX9_exact_95 : decode cX9_exact 95 = .ok (.irem, 1) := by decide +kernel
theorem dX9_exact_96 : decode cX9_exact 96 = .ok (.imul, 1) := by decide +kernel
theorem dX9_exact_97 : decode cX9_exact 97 = .ok (.iaload, 1) := by decide +kernel
theorem dX9_exact_98 : decode cX9_exact 98 = .ok (.istore 7, 2) := by decide +kernel
theorem dX9_exact_100 : decode cX9_exact 100 = .ok (.aload_n 0, 1) := by decide +kernel
theorem dX9_exact_101 : decode cX9_exact 101 = .ok (.getfield 22, 3) := by decide +kernel
theorem dX9_exact_104 : decode cX9_exact 104 = .ok (.iconst 3, 1) := by decide +kernel
theorem dX9_exact_105 : decode cX9_exact 105 = .ok (.iload 6, 2) := by decide +kernel
theorem dX9_exact_107 : decode cX9_exact 107 = .ok (.aload_n 0, 1) := by decide +kernel
theorem dX9_exact_108 : decode cX9_exact 108 = .ok (.getfield 139, 3) := by decide +kernel
theorem dX9_exact_111 : decode cX9_exact 111 = .ok (.irem, 1) := by decide +kernel
theorem dX9_exact_112 : decode cX9_exact 112 = .ok (.imul, 1) := by decide +kernel
theorem dX9_exact_113 : decode cX9_exact 113 = .ok (.iconst 1, 1) := by decide +kernel
theorem dX9_exact_114 : decode cX9_exact 114 = .ok (.iadd, 1) := by decide +kernel
theorem dX9_exact_115 : decode cX9_exact 115 = .ok (.iaload, 1) := by decide +kernel
theorem dX9_exact_116 : decode cX9_exact 116 = .ok (.istore 8, 2) := by decide +kernel
theorem dX9_exact_118 : decode cX9_exact 118 = .ok (.aload_n 0, 1) := by decide +kernel
theorem dX9_exact_119 : decode cX9_exact 119 = .ok (.getfield 16, 3) := by decide +kernel
theorem dX9_exact_122 : decode cX9_exact 122 = .ok (.iload 7, 2) := by decide +kernel
theorem dX9_exact_124 : decode cX9_exact 124 = .ok (.iaload, 1) := by decide +kernel
theorem dX9_exact_125 : decode cX9_exact 125 = .ok (.iload 8, 2) := by decide +kernel
theorem dX9_exact_127 : decode cX9_exact 127 = .ok (.invokestatic 116, 3) := by decide +kernel
theorem dX9_exact_130 : decode cX9_exact 130 = .ok (.ifCond .eq 79, 3) := by decide +kernel
theorem dX9_exact_133 : decode cX9_exact 133 = .ok (.lload 4, 2) := by decide +kernel
theorem dX9_exact_135 : decode cX9_exact 135 = .ok (.ldc2_w 227, 3) := by decide +kernel
theorem dX9_exact_138 : decode cX9_exact 138 = .ok (.lmul, 1) := by decide +kernel
theorem dX9_exact_139 : decode cX9_exact 139 = .ok (.lstore 4, 2) := by decide +kernel
theorem dX9_exact_141 : decode cX9_exact 141 = .ok (.iconst 0, 1) := by decide +kernel
theorem dX9_exact_142 : decode cX9_exact 142 = .ok (.istore 9, 2) := by decide +kernel
theorem dX9_exact_144 : decode cX9_exact 144 = .ok (.iload 9, 2) := by decide +kernel
theorem dX9_exact_146 : decode cX9_exact 146 = .ok (.aload_n 0, 1) := by decide +kernel
theorem dX9_exact_147 : decode cX9_exact 147 = .ok (.getfield 86, 3) := by decide +kernel
theorem dX9_exact_150 : decode cX9_exact 150 = .ok (.if_icmp .ge 22, 3) := by decide +kernel
theorem dX9_exact_153 : decode cX9_exact 153 = .ok (.aload_n 0, 1) := by decide +kernel
theorem dX9_exact_154 : decode cX9_exact 154 = .ok (.getfield 61, 3) := by decide +kernel
theorem dX9_exact_157 : decode cX9_exact 157 = .ok (.iload 9, 2) := by decide +kernel
theorem dX9_exact_159 : decode cX9_exact 159 = .ok (.dup2, 1) := by decide +kernel
theorem dX9_exact_160 : decode cX9_exact 160 = .ok (.laload, 1) := by decide +kernel
theorem dX9_exact_161 : decode cX9_exact 161 = .ok (.ldc2_w 227, 3) := by decide +kernel
theorem dX9_exact_164 : decode cX9_exact 164 = .ok (.lmul, 1) := by decide +kernel
theorem dX9_exact_165 : decode cX9_exact 165 = .ok (.lastore, 1) := by decide +kernel
theorem dX9_exact_166 : decode cX9_exact 166 = .ok (.iinc 9 1, 3) := by decide +kernel
theorem dX9_exact_169 : decode cX9_exact 169 = .ok (.goto (-25), 3) := by decide +kernel
theorem dX9_exact_172 : decode cX9_exact 172 = .ok (.aload_n 0, 1) := by decide +kernel
theorem dX9_exact_173 : decode cX9_exact 173 = .ok (.getfield 61, 3) := by decide +kernel
theorem dX9_exact_176 : decode cX9_exact 176 = .ok (.iload 8, 2) := by decide +kernel
theorem dX9_exact_178 : decode cX9_exact 178 = .ok (.laload, 1) := by decide +kernel
theorem dX9_exact_179 : decode cX9_exact 179 = .ok (.ldc2_w 227, 3) := by decide +kernel
theorem dX9_exact_182 : decode cX9_exact 182 = .ok (.ldiv, 1) := by decide +kernel
theorem dX9_exact_183 : decode cX9_exact 183 = .ok (.lstore 9, 2) := by decide +kernel
theorem dX9_exact_185 : decode cX9_exact 185 = .ok (.aload_n 0, 1) := by decide +kernel
theorem dX9_exact_186 : decode cX9_exact 186 = .ok (.getfield 61, 3) := by decide +kernel
theorem dX9_exact_189 : decode cX9_exact 189 = .ok (.iload 8, 2) := by decide +kernel
theorem dX9_exact_191 : decode cX9_exact 191 = .ok (.dup2, 1) := by decide +kernel
theorem dX9_exact_192 : decode cX9_exact 192 = .ok (.laload, 1) := by decide +kernel
theorem dX9_exact_193 : decode cX9_exact 193 = .ok (.lload 9, 2) := by decide +kernel
theorem dX9_exact_195 : decode cX9_exact 195 = .ok (.lsub, 1) := by decide +kernel
theorem dX9_exact_196 : decode cX9_exact 196 = .ok (.lastore, 1) := by decide +kernel
theorem dX9_exact_197 : decode cX9_exact 197 = .ok (.aload_n 0, 1) := by decide +kernel
theorem dX9_exact_198 : decode cX9_exact 198 = .ok (.getfield 61, 3) := by decide +kernel
theorem dX9_exact_201 : decode cX9_exact 201 = .ok (.iload 7, 2) := by decide +kernel
theorem dX9_exact_203 : decode cX9_exact 203 = .ok (.dup2, 1) := by decide +kernel
theorem dX9_exact_204 : decode cX9_exact 204 = .ok (.laload, 1) := by decide +kernel
theorem dX9_exact_205 : decode cX9_exact 205 = .ok (.lload 9, 2) := by decide +kernel
theorem dX9_exact_207 : decode cX9_exact 207 = .ok (.ladd, 1) := by decide +kernel
theorem dX9_exact_208 : decode cX9_exact 208 = .ok (.lastore, 1) := by decide +kernel
theorem dX9_exact_209 : decode cX9_exact 209 = .ok (.iinc 6 1, 3) := by decide +kernel
theorem dX9_exact_212 : decode cX9_exact 212 = .ok (.goto (-139), 3) := by decide +kernel
theorem dX9_exact_215 : decode cX9_exact 215 = .ok (.aload_n 0, 1) := by decide +kernel
theorem dX9_exact_216 : decode cX9_exact 216 = .ok (.getfield 61, 3) := by decide +kernel
theorem dX9_exact_219 : decode cX9_exact 219 = .ok (.iload_n 1, 1) := by decide +kernel
theorem dX9_exact_220 : decode cX9_exact 220 = .ok (.laload, 1) := by decide +kernel
theorem dX9_exact_221 : decode cX9_exact 221 = .ok (.lstore 6, 2) := by decide +kernel
theorem dX9_exact_223 : decode cX9_exact 223 = .ok (.lload 4, 2) := by decide +kernel
theorem dX9_exact_225 : decode cX9_exact 225 = .ok (.lconst 1, 1) := by decide +kernel
theorem dX9_exact_226 : decode cX9_exact 226 = .ok (.lcmp, 1) := by decide +kernel
theorem dX9_exact_227 : decode cX9_exact 227 = .ok (.ifCond .le 33, 3) := by decide +kernel
theorem dX9_exact_230 : decode cX9_exact 230 = .ok (.lload 6, 2) := by decide +kernel
theorem dX9_exact_232 : decode cX9_exact 232 = .ok (.ldc2_w 227, 3) := by decide +kernel
theorem dX9_exact_235 : decode cX9_exact 235 = .ok (.lrem, 1) := by decide +kernel
theorem dX9_exact_236 : decode cX9_exact 236 = .ok (.lconst 0, 1) := by decide +kernel
theorem dX9_exact_237 : decode cX9_exact 237 = .ok (.lcmp, 1) := by decide +kernel
theorem dX9_exact_238 : decode cX9_exact 238 = .ok (.ifCond .ne 22, 3) := by decide +kernel
theorem dX9_exact_241 : decode cX9_exact 241 = .ok (.lload 6, 2) := by decide +kernel
theorem dX9_exact_243 : decode cX9_exact 243 = .ok (.ldc2_w 227, 3) := by decide +kernel
theorem dX9_exact_246 : decode cX9_exact 246 = .ok (.ldiv, 1) := by decide +kernel
theorem dX9_exact_247 : decode cX9_exact 247 = .ok (.lstore 6, 2) := by decide +kernel
theorem dX9_exact_249 : decode cX9_exact 249 = .ok (.lload 4, 2) := by decide +kernel
theorem dX9_exact_251 : decode cX9_exact 251 = .ok (.ldc2_w 227, 3) := by decide +kernel
theorem dX9_exact_254 : decode cX9_exact 254 = .ok (.ldiv, 1) := by decide +kernel
theorem dX9_exact_255 : decode cX9_exact 255 = .ok (.lstore 4, 2) := by decide +kernel
theorem dX9_exact_257 : decode cX9_exact 257 = .ok (.goto (-34), 3) := by decide +kernel
theorem dX9_exact_260 : decode cX9_exact 260 = .ok (.iload_n 3, 1) := by decide +kernel
theorem dX9_exact_261 : decode cX9_exact 261 = .ok (.ifCond .ne 8, 3) := by decide +kernel
theorem dX9_exact_264 : decode cX9_exact 264 = .ok (.lload 6, 2) := by decide +kernel
theorem dX9_exact_266 : decode cX9_exact 266 = .ok (.goto 5, 3) := by decide +kernel
theorem dX9_exact_269 : decode cX9_exact 269 = .ok (.lload 4, 2) := by decide +kernel
theorem dX9_exact_271 : decode cX9_exact 271 = .ok (.lreturn, 1) := by decide +kernel
set_option maxRecDepth 20000 in
theorem ggX9_shun_X9_isOne : GoodIn wsX9_shun wsX9_isOne := goodIn_r _ [6, 1, 7, 8, 5, 9, 41, 42, 43, 44, 45, 46, 47, 48, 49, 50, 51, 52, 53, 54, 55, 56, 57, 58, 59, 60, 61, 62, 63, 64, 65, 66, 67, 68, 69, 70, 71] (by decide +kernel) (by decide +kernel)
set_option maxRecDepth 20000 in
theorem gX9_shun_X9_isOne : GoodIn wsX9_shun (wsV RX9 94 RX9 yX9_isOne wsX9_isOne) := goodIn_app (goodIn_of _ (by decide +kernel)) ggX9_shun_X9_isOne
set_option maxRecDepth 20000 in
theorem ggX9_shun_X9_goWithout : GoodIn wsX9_shun wsX9_goWithout := goodIn_r _ [13, 14, 15, 16, 17, 18, 19, 5, 20, 21, 22, 23, 24, 25, 26, 27, 28, 29, 30, 31, 32, 33, 34, 35, 36, 37, 38, 39, 40, 41, 42, 43, 44, 45, 46, 47, 48, 49, 50, 51, 52, 53, 54, 55, 56, 57, 58, 59, 60, 61, 62, 63, 64, 65, 66, 67, 68, 69, 70, 71] (by decide +kernel) (by decide +kernel)
set_option maxRecDepth 20000 in
theorem gX9_shun_X9_goWithout : GoodIn wsX9_shun (wsV RX9 229 RX9 yX9_goWithout wsX9_goWithout) := goodIn_app (goodIn_of _ (by decide +kernel)) ggX9_shun_X9_goWithout
theorem dX9_shun_0 : decode cX9_shun 0 = .ok (.aload_n 0, 1) := by decide +kernel
theorem dX9_shun_1 : decode cX9_shun 1 = .ok (.iload_n 1, 1) := by decide +kernel
theorem dX9_shun_2 : decode cX9_shun 2 = .ok (.invokevirtual 94, 3) := by decide +kernel
theorem dX9_shun_5 : decode cX9_shun 5 = .ok (.ifCond .ne 5, 3) := by decide +kernel
theorem dX9_shun_8 : decode cX9_shun 8 = .ok (.iconst (-1), 1) := by decide +kernel
theorem dX9_shun_9 : decode cX9_shun 9 = .ok (.ireturn, 1) := by decide +kernel
theorem dX9_shun_10 : decode cX9_shun 10 = .ok (.aload_n 0, 1) := by decide +kernel
theorem dX9_shun_11 : decode cX9_shun 11 = .ok (.iload_n 1, 1) := by decide +kernel
theorem dX9_shun_12 : decode cX9_shun 12 = .ok (.bipush 9, 2) := by decide +kernel
theorem dX9_shun_14 : decode cX9_shun 14 = .ok (.invokevirtual 229, 3) := by decide +kernel
theorem dX9_shun_17 : decode cX9_shun 17 = .ok (.istore_n 2, 1) := by decide +kernel
theorem dX9_shun_18 : decode cX9_shun 18 = .ok (.bipush 9, 2) := by decide +kernel
theorem dX9_shun_20 : decode cX9_shun 20 = .ok (.istore_n 3, 1) := by decide +kernel
theorem dX9_shun_21 : decode cX9_shun 21 = .ok (.iconst 0, 1) := by decide +kernel
theorem dX9_shun_22 : decode cX9_shun 22 = .ok (.istore 4, 2) := by decide +kernel
theorem dX9_shun_24 : decode cX9_shun 24 = .ok (.iload 4, 2) := by decide +kernel
theorem dX9_shun_26 : decode cX9_shun 26 = .ok (.aload_n 0, 1) := by decide +kernel
theorem dX9_shun_27 : decode cX9_shun 27 = .ok (.getfield 86, 3) := by decide +kernel
theorem dX9_shun_30 : decode cX9_shun 30 = .ok (.if_icmp .ge 54, 3) := by decide +kernel
theorem dX9_shun_33 : decode cX9_shun 33 = .ok (.iload 4, 2) := by decide +kernel
theorem dX9_shun_35 : decode cX9_shun 35 = .ok (.iload_n 1, 1) := by decide +kernel
theorem dX9_shun_36 : decode cX9_shun 36 = .ok (.if_icmp .ne 7, 3) := by decide +kernel
theorem dX9_shun_39 : decode cX9_shun 39 = .ok (.iconst (-1), 1) := by decide +kernel
theorem dX9_shun_40 : decode cX9_shun 40 = .ok (.goto 10, 3) := by decide +kernel
theorem dX9_shun_43 : decode cX9_shun 43 = .ok (.aload_n 0, 1) := by decide +kernel
theorem dX9_shun_44 : decode cX9_shun 44 = .ok (.iload_n 1, 1) := by decide +kernel
theorem dX9_shun_45 : decode cX9_shun 45 = .ok (.iload 4, 2) := by decide +kernel
theorem dX9_shun_47 : decode cX9_shun 47 = .ok (.invokevirtual 229, 3) := by decide +kernel
theorem dX9_shun_50 : decode cX9_shun 50 = .ok (.istore 5, 2) := by decide +kernel
theorem dX9_shun_52 : decode cX9_shun 52 = .ok (.iload 5, 2) := by decide +kernel
theorem dX9_shun_54 : decode cX9_shun 54 = .ok (.iload_n 2, 1) := by decide +kernel
theorem dX9_shun_55 : decode cX9_shun 55 = .ok (.if_icmp .le 8, 3) := by decide +kernel
theorem dX9_shun_58 : decode cX9_shun 58 = .ok (.iload 4, 2) := by decide +kernel
theorem dX9_shun_60 : decode cX9_shun 60 = .ok (.goto 4, 3) := by decide +kernel
theorem dX9_shun_63 : decode cX9_shun 63 = .ok (.iload_n 3, 1) := by decide +kernel
theorem dX9_shun_64 : decode cX9_shun 64 = .ok (.istore_n 3, 1) := by decide +kernel
theorem dX9_shun_65 : decode cX9_shun 65 = .ok (.iload 5, 2) := by decide +kernel
theorem dX9_shun_67 : decode cX9_shun 67 = .ok (.iload_n 2, 1) := by decide +kernel
theorem dX9_shun_68 : decode cX9_shun 68 = .ok (.if_icmp .le 8, 3) := by decide +kernel
theorem dX9_shun_71 : decode cX9_shun 71 = .ok (.iload 5, 2) := by decide +kernel
theorem dX9_shun_73 : decode cX9_shun 73 = .ok (.goto 4, 3) := by decide +kernel
theorem dX9_shun_76 : decode cX9_shun 76 = .ok (.iload_n 2, 1) := by decide +kernel
theorem dX9_shun_77 : decode cX9_shun 77 = .ok (.istore_n 2, 1) := by decide +kernel
theorem dX9_shun_78 : decode cX9_shun 78 = .ok (.iinc 4 1, 3) := by decide +kernel
theorem dX9_shun_81 : decode cX9_shun 81 = .ok (.goto (-57), 3) := by decide +kernel
theorem dX9_shun_84 : decode cX9_shun 84 = .ok (.iload_n 3, 1) := by decide +kernel
theorem dX9_shun_85 : decode cX9_shun 85 = .ok (.ireturn, 1) := by decide +kernel
theorem dX9_carried_0 : decode cX9_carried 0 = .ok (.iload_n 1, 1) := by decide +kernel
theorem dX9_carried_1 : decode cX9_carried 1 = .ok (.bipush 20, 2) := by decide +kernel
theorem dX9_carried_3 : decode cX9_carried 3 = .ok (.if_icmp .ge 179, 3) := by decide +kernel
theorem dX9_carried_6 : decode cX9_carried 6 = .ok (.iload_n 1, 1) := by decide +kernel
theorem dX9_carried_7 : decode cX9_carried 7 = .ok (.iconst 5, 1) := by decide +kernel
theorem dX9_carried_8 : decode cX9_carried 8 = .ok (.irem, 1) := by decide +kernel
theorem dX9_carried_9 : decode cX9_carried 9 = .ok (.istore 4, 2) := by decide +kernel
theorem dX9_carried_11 : decode cX9_carried 11 = .ok (.iload_n 1, 1) := by decide +kernel
theorem dX9_carried_12 : decode cX9_carried 12 = .ok (.iconst 5, 1) := by decide +kernel
theorem dX9_carried_13 : decode cX9_carried 13 = .ok (.idiv, 1) := by decide +kernel
theorem dX9_carried_14 : decode cX9_carried 14 = .ok (.istore 5, 2) := by decide +kernel
theorem dX9_carried_16 : decode cX9_carried 16 = .ok (.aload_n 0, 1) := by decide +kernel
theorem dX9_carried_17 : decode cX9_carried 17 = .ok (.getfield 7, 3) := by decide +kernel
theorem dX9_carried_20 : decode cX9_carried 20 = .ok (.iload 4, 2) := by decide +kernel
theorem dX9_carried_22 : decode cX9_carried 22 = .ok (.iload_n 3, 1) := by decide +kernel
theorem dX9_carried_23 : decode cX9_carried 23 = .ok (.ifCond .eq 12, 3) := by decide +kernel
theorem dX9_carried_26 : decode cX9_carried 26 = .ok (.iload 5, 2) := by decide +kernel
theorem dX9_carried_28 : decode cX9_carried 28 = .ok (.ifCond .ne 7, 3) := by decide +kernel
theorem dX9_carried_31 : decode cX9_carried 31 = .ok (.iload_n 2, 1) := by decide +kernel
theorem dX9_carried_32 : decode cX9_carried 32 = .ok (.goto 10, 3) := by decide +kernel
theorem dX9_carried_35 : decode cX9_carried 35 = .ok (.aload_n 0, 1) := by decide +kernel
theorem dX9_carried_36 : decode cX9_carried 36 = .ok (.getfield 7, 3) := by decide +kernel
theorem dX9_carried_39 : decode cX9_carried 39 = .ok (.iload 4, 2) := by decide +kernel
theorem dX9_carried_41 : decode cX9_carried 41 = .ok (.iaload, 1) := by decide +kernel
theorem dX9_carried_42 : decode cX9_carried 42 = .ok (.iastore, 1) := by decide +kernel
theorem dX9_carried_43 : decode cX9_carried 43 = .ok (.aload_n 0, 1) := by decide +kernel
theorem dX9_carried_44 : decode cX9_carried 44 = .ok (.getfield 13, 3) := by decide +kernel
theorem dX9_carried_47 : decode cX9_carried 47 = .ok (.iload 4, 2) := by decide +kernel
theorem dX9_carried_49 : decode cX9_carried 49 = .ok (.iload_n 3, 1) := by decide +kernel
theorem dX9_carried_50 : decode cX9_carried 50 = .ok (.ifCond .eq 13, 3) := by decide +kernel
theorem dX9_carried_53 : decode cX9_carried 53 = .ok (.iload 5, 2) := by decide +kernel
theorem dX9_carried_55 : decode cX9_carried 55 = .ok (.iconst 1, 1) := by decide +kernel
theorem dX9_carried_56 : decode cX9_carried 56 = .ok (.if_icmp .ne 7, 3) := by decide +kernel
theorem dX9_carried_59 : decode cX9_carried 59 = .ok (.iload_n 2, 1) := by decide +kernel
theorem dX9_carried_60 : decode cX9_carried 60 = .ok (.goto 10, 3) := by decide +kernel
theorem dX9_carried_63 : decode cX9_carried 63 = .ok (.aload_n 0, 1) := by decide +kernel
theorem dX9_carried_64 : decode cX9_carried 64 = .ok (.getfield 13, 3) := by decide +kernel
theorem dX9_carried_67 : decode cX9_carried 67 = .ok (.iload 4, 2) := by decide +kernel
theorem dX9_carried_69 : decode cX9_carried 69 = .ok (.iaload, 1) := by decide +kernel
theorem dX9_carried_70 : decode cX9_carried 70 = .ok (.iastore, 1) := by decide +kernel
theorem dX9_carried_71 : decode cX9_carried 71 = .ok (.aload_n 0, 1) := by decide +kernel
theorem dX9_carried_72 : decode cX9_carried 72 = .ok (.getfield 16, 3) := by decide +kernel
theorem dX9_carried_75 : decode cX9_carried 75 = .ok (.iload 4, 2) := by decide +kernel
theorem dX9_carried_77 : decode cX9_carried 77 = .ok (.iload_n 3, 1) := by decide +kernel
theorem dX9_carried_78 : decode cX9_carried 78 = .ok (.ifCond .eq 13, 3) := by decide +kernel
theorem dX9_carried_81 : decode cX9_carried 81 = .ok (.iload 5, 2) := by decide +kernel
theorem dX9_carried_83 : decode cX9_carried 83 = .ok (.iconst 2, 1) := by decide +kernel
theorem dX9_carried_84 : decode cX9_carried 84 = .ok (.if_icmp .ne 7, 3) := by decide +kernel
theorem dX9_carried_87 : decode cX9_carried 87 = .ok (.iload_n 2, 1) := by decide +kernel
end
section
theorem dX9_carried_88 : decode cX9_carried 88 = .ok (.goto 10, 3) := by decide +kernel
theorem dX9_carried_91 : decode cX9_carried 91 = .ok (.aload_n 0, 1) := by decide +kernel
theorem dX9_carried_92 : decode cX9_carried 92 = .ok (.getfield 16, 3) := by decide +kernel
theorem dX9_carried_95 : decode cX9_carried 95 = .ok (.iload 4, 2) := by decide +kernel
theorem dX9_carried_97 : decode cX9_carried 97 = .ok (.iaload, 1) := by decide +kernel
theorem dX9_carried_98 : decode cX9_carried 98 = .ok (.iastore, 1) := by decide +kernel
theorem dX9_carried_99 : decode cX9_carried 99 = .ok (.aload_n 0, 1) := by decide +kernel
theorem dX9_carried_100 : decode cX9_carried 100 = .ok (.getfield 19, 3) := by decide +kernel
theorem dX9_carried_103 : decode cX9_carried 103 = .ok (.iload 4, 2) := by decide +kernel
theorem dX9_carried_105 : decode cX9_carried 105 = .ok (.iload_n 3, 1) := by decide +kernel
theorem dX9_carried_106 : decode cX9_carried 106 = .ok (.ifCond .eq 13, 3) := by decide +kernel
theorem dX9_carried_109 : decode cX9_carried 109 = .ok (.iload 5, 2) := by decide +kernel
theorem dX9_carried_111 : decode cX9_carried 111 = .ok (.iconst 3, 1) := by decide +kernel
theorem dX9_carried_112 : decode cX9_carried 112 = .ok (.if_icmp .ne 7, 3) := by decide +kernel
theorem dX9_carried_115 : decode cX9_carried 115 = .ok (.iload_n 2, 1) := by decide +kernel
theorem dX9_carried_116 : decode cX9_carried 116 = .ok (.goto 10, 3) := by decide +kernel
theorem dX9_carried_119 : decode cX9_carried 119 = .ok (.aload_n 0, 1) := by decide +kernel
theorem dX9_carried_120 : decode cX9_carried 120 = .ok (.getfield 19, 3) := by decide +kernel
theorem dX9_carried_123 : decode cX9_carried 123 = .ok (.iload 4, 2) := by decide +kernel
theorem dX9_carried_125 : decode cX9_carried 125 = .ok (.iaload, 1) := by decide +kernel
theorem dX9_carried_126 : decode cX9_carried 126 = .ok (.iastore, 1) := by decide +kernel
theorem dX9_carried_127 : decode cX9_carried 127 = .ok (.iload 5, 2) := by decide +kernel
theorem dX9_carried_129 : decode cX9_carried 129 = .ok (.ifCond .ne 13, 3) := by decide +kernel
theorem dX9_carried_132 : decode cX9_carried 132 = .ok (.aload_n 0, 1) := by decide +kernel
theorem dX9_carried_133 : decode cX9_carried 133 = .ok (.getfield 7, 3) := by decide +kernel
theorem dX9_carried_136 : decode cX9_carried 136 = .ok (.iload 4, 2) := by decide +kernel
theorem dX9_carried_138 : decode cX9_carried 138 = .ok (.iaload, 1) := by decide +kernel
theorem dX9_carried_139 : decode cX9_carried 139 = .ok (.goto 42, 3) := by decide +kernel
theorem dX9_carried_142 : decode cX9_carried 142 = .ok (.iload 5, 2) := by decide +kernel
theorem dX9_carried_144 : decode cX9_carried 144 = .ok (.iconst 1, 1) := by decide +kernel
theorem dX9_carried_145 : decode cX9_carried 145 = .ok (.if_icmp .ne 13, 3) := by decide +kernel
theorem dX9_carried_148 : decode cX9_carried 148 = .ok (.aload_n 0, 1) := by decide +kernel
theorem dX9_carried_149 : decode cX9_carried 149 = .ok (.getfield 13, 3) := by decide +kernel
theorem dX9_carried_152 : decode cX9_carried 152 = .ok (.iload 4, 2) := by decide +kernel
theorem dX9_carried_154 : decode cX9_carried 154 = .ok (.iaload, 1) := by decide +kernel
theorem dX9_carried_155 : decode cX9_carried 155 = .ok (.goto 26, 3) := by decide +kernel
theorem dX9_carried_158 : decode cX9_carried 158 = .ok (.iload 5, 2) := by decide +kernel
theorem dX9_carried_160 : decode cX9_carried 160 = .ok (.iconst 2, 1) := by decide +kernel
theorem dX9_carried_161 : decode cX9_carried 161 = .ok (.if_icmp .ne 13, 3) := by decide +kernel
theorem dX9_carried_164 : decode cX9_carried 164 = .ok (.aload_n 0, 1) := by decide +kernel
theorem dX9_carried_165 : decode cX9_carried 165 = .ok (.getfield 16, 3) := by decide +kernel
theorem dX9_carried_168 : decode cX9_carried 168 = .ok (.iload 4, 2) := by decide +kernel
theorem dX9_carried_170 : decode cX9_carried 170 = .ok (.iaload, 1) := by decide +kernel
theorem dX9_carried_171 : decode cX9_carried 171 = .ok (.goto 10, 3) := by decide +kernel
theorem dX9_carried_174 : decode cX9_carried 174 = .ok (.aload_n 0, 1) := by decide +kernel
theorem dX9_carried_175 : decode cX9_carried 175 = .ok (.getfield 19, 3) := by decide +kernel
theorem dX9_carried_178 : decode cX9_carried 178 = .ok (.iload 4, 2) := by decide +kernel
theorem dX9_carried_180 : decode cX9_carried 180 = .ok (.iaload, 1) := by decide +kernel
theorem dX9_carried_181 : decode cX9_carried 181 = .ok (.ireturn, 1) := by decide +kernel
theorem dX9_carried_182 : decode cX9_carried 182 = .ok (.iload_n 1, 1) := by decide +kernel
theorem dX9_carried_183 : decode cX9_carried 183 = .ok (.bipush 44, 2) := by decide +kernel
theorem dX9_carried_185 : decode cX9_carried 185 = .ok (.if_icmp .ge 39, 3) := by decide +kernel
theorem dX9_carried_188 : decode cX9_carried 188 = .ok (.aload_n 0, 1) := by decide +kernel
theorem dX9_carried_189 : decode cX9_carried 189 = .ok (.getfield 22, 3) := by decide +kernel
theorem dX9_carried_192 : decode cX9_carried 192 = .ok (.iload_n 1, 1) := by decide +kernel
theorem dX9_carried_193 : decode cX9_carried 193 = .ok (.bipush 20, 2) := by decide +kernel
theorem dX9_carried_195 : decode cX9_carried 195 = .ok (.isub, 1) := by decide +kernel
theorem dX9_carried_196 : decode cX9_carried 196 = .ok (.iload_n 3, 1) := by decide +kernel
theorem dX9_carried_197 : decode cX9_carried 197 = .ok (.ifCond .eq 7, 3) := by decide +kernel
theorem dX9_carried_200 : decode cX9_carried 200 = .ok (.iload_n 2, 1) := by decide +kernel
theorem dX9_carried_201 : decode cX9_carried 201 = .ok (.goto 12, 3) := by decide +kernel
theorem dX9_carried_204 : decode cX9_carried 204 = .ok (.aload_n 0, 1) := by decide +kernel
theorem dX9_carried_205 : decode cX9_carried 205 = .ok (.getfield 22, 3) := by decide +kernel
theorem dX9_carried_208 : decode cX9_carried 208 = .ok (.iload_n 1, 1) := by decide +kernel
theorem dX9_carried_209 : decode cX9_carried 209 = .ok (.bipush 20, 2) := by decide +kernel
theorem dX9_carried_211 : decode cX9_carried 211 = .ok (.isub, 1) := by decide +kernel
theorem dX9_carried_212 : decode cX9_carried 212 = .ok (.iaload, 1) := by decide +kernel
theorem dX9_carried_213 : decode cX9_carried 213 = .ok (.iastore, 1) := by decide +kernel
theorem dX9_carried_214 : decode cX9_carried 214 = .ok (.aload_n 0, 1) := by decide +kernel
theorem dX9_carried_215 : decode cX9_carried 215 = .ok (.getfield 22, 3) := by decide +kernel
theorem dX9_carried_218 : decode cX9_carried 218 = .ok (.iload_n 1, 1) := by decide +kernel
theorem dX9_carried_219 : decode cX9_carried 219 = .ok (.bipush 20, 2) := by decide +kernel
theorem dX9_carried_221 : decode cX9_carried 221 = .ok (.isub, 1) := by decide +kernel
theorem dX9_carried_222 : decode cX9_carried 222 = .ok (.iaload, 1) := by decide +kernel
theorem dX9_carried_223 : decode cX9_carried 223 = .ok (.ireturn, 1) := by decide +kernel
theorem dX9_carried_224 : decode cX9_carried 224 = .ok (.aload_n 0, 1) := by decide +kernel
theorem dX9_carried_225 : decode cX9_carried 225 = .ok (.iload_n 3, 1) := by decide +kernel
theorem dX9_carried_226 : decode cX9_carried 226 = .ok (.ifCond .eq 13, 3) := by decide +kernel
theorem dX9_carried_229 : decode cX9_carried 229 = .ok (.iload_n 1, 1) := by decide +kernel
theorem dX9_carried_230 : decode cX9_carried 230 = .ok (.bipush 44, 2) := by decide +kernel
theorem dX9_carried_232 : decode cX9_carried 232 = .ok (.if_icmp .ne 7, 3) := by decide +kernel
theorem dX9_carried_235 : decode cX9_carried 235 = .ok (.iload_n 2, 1) := by decide +kernel
theorem dX9_carried_236 : decode cX9_carried 236 = .ok (.goto 7, 3) := by decide +kernel
theorem dX9_carried_239 : decode cX9_carried 239 = .ok (.aload_n 0, 1) := by decide +kernel
theorem dX9_carried_240 : decode cX9_carried 240 = .ok (.getfield 86, 3) := by decide +kernel
theorem dX9_carried_243 : decode cX9_carried 243 = .ok (.putfield 86, 3) := by decide +kernel
theorem dX9_carried_246 : decode cX9_carried 246 = .ok (.aload_n 0, 1) := by decide +kernel
theorem dX9_carried_247 : decode cX9_carried 247 = .ok (.iload_n 3, 1) := by decide +kernel
theorem dX9_carried_248 : decode cX9_carried 248 = .ok (.ifCond .eq 13, 3) := by decide +kernel
theorem dX9_carried_251 : decode cX9_carried 251 = .ok (.iload_n 1, 1) := by decide +kernel
theorem dX9_carried_252 : decode cX9_carried 252 = .ok (.bipush 45, 2) := by decide +kernel
theorem dX9_carried_254 : decode cX9_carried 254 = .ok (.if_icmp .ne 7, 3) := by decide +kernel
theorem dX9_carried_257 : decode cX9_carried 257 = .ok (.iload_n 2, 1) := by decide +kernel
theorem dX9_carried_258 : decode cX9_carried 258 = .ok (.goto 7, 3) := by decide +kernel
theorem dX9_carried_261 : decode cX9_carried 261 = .ok (.aload_n 0, 1) := by decide +kernel
theorem dX9_carried_262 : decode cX9_carried 262 = .ok (.getfield 139, 3) := by decide +kernel
theorem dX9_carried_265 : decode cX9_carried 265 = .ok (.putfield 139, 3) := by decide +kernel
theorem dX9_carried_268 : decode cX9_carried 268 = .ok (.iload_n 1, 1) := by decide +kernel
theorem dX9_carried_269 : decode cX9_carried 269 = .ok (.bipush 44, 2) := by decide +kernel
theorem dX9_carried_271 : decode cX9_carried 271 = .ok (.if_icmp .ne 10, 3) := by decide +kernel
theorem dX9_carried_274 : decode cX9_carried 274 = .ok (.aload_n 0, 1) := by decide +kernel
theorem dX9_carried_275 : decode cX9_carried 275 = .ok (.getfield 86, 3) := by decide +kernel
theorem dX9_carried_278 : decode cX9_carried 278 = .ok (.goto 7, 3) := by decide +kernel
theorem dX9_carried_281 : decode cX9_carried 281 = .ok (.aload_n 0, 1) := by decide +kernel
theorem dX9_carried_282 : decode cX9_carried 282 = .ok (.getfield 139, 3) := by decide +kernel
theorem dX9_carried_285 : decode cX9_carried 285 = .ok (.ireturn, 1) := by decide +kernel
set_option maxRecDepth 20000 in
theorem ggX9_image_X9_carried : GoodIn wsX9_image wsX9_carried := goodIn_r _ [7, 8, 9, 10, 11, 12, 13, 14, 15, 16, 17, 18, 19, 20, 21, 22, 23, 24, 25, 26, 27, 28, 29, 30, 31, 32, 33, 34, 35, 36, 37, 38, 39, 40, 41, 42, 43, 44, 45] (by decide +kernel) (by decide +kernel)
set_option maxRecDepth 20000 in
theorem gX9_image_X9_carried : GoodIn wsX9_image (wsV RX9 232 RX9 yX9_carried wsX9_carried) := goodIn_app (goodIn_of _ (by decide +kernel)) ggX9_image_X9_carried
theorem dX9_image_0 : decode cX9_image 0 = .ok (.iconst 0, 1) := by decide +kernel
theorem dX9_image_1 : decode cX9_image 1 = .ok (.istore_n 1, 1) := by decide +kernel
theorem dX9_image_2 : decode cX9_image 2 = .ok (.iload_n 1, 1) := by decide +kernel
theorem dX9_image_3 : decode cX9_image 3 = .ok (.bipush 46, 2) := by decide +kernel
theorem dX9_image_5 : decode cX9_image 5 = .ok (.if_icmp .ge 22, 3) := by decide +kernel
theorem dX9_image_8 : decode cX9_image 8 = .ok (.aload_n 0, 1) := by decide +kernel
theorem dX9_image_9 : decode cX9_image 9 = .ok (.getfield 65, 3) := by decide +kernel
theorem dX9_image_12 : decode cX9_image 12 = .ok (.iload_n 1, 1) := by decide +kernel
theorem dX9_image_13 : decode cX9_image 13 = .ok (.aload_n 0, 1) := by decide +kernel
theorem dX9_image_14 : decode cX9_image 14 = .ok (.iload_n 1, 1) := by decide +kernel
theorem dX9_image_15 : decode cX9_image 15 = .ok (.iconst 0, 1) := by decide +kernel
theorem dX9_image_16 : decode cX9_image 16 = .ok (.iconst 0, 1) := by decide +kernel
theorem dX9_image_17 : decode cX9_image 17 = .ok (.invokevirtual 232, 3) := by decide +kernel
theorem dX9_image_20 : decode cX9_image 20 = .ok (.iastore, 1) := by decide +kernel
theorem dX9_image_21 : decode cX9_image 21 = .ok (.iinc 1 1, 3) := by decide +kernel
theorem dX9_image_24 : decode cX9_image 24 = .ok (.goto (-22), 3) := by decide +kernel
theorem dX9_image_27 : decode cX9_image 27 = .ok (.aload_n 0, 1) := by decide +kernel
theorem dX9_image_28 : decode cX9_image 28 = .ok (.iconst 1, 1) := by decide +kernel
theorem dX9_image_29 : decode cX9_image 29 = .ok (.putfield 236, 3) := by decide +kernel
theorem dX9_image_32 : decode cX9_image 32 = .ok (.iconst 1, 1) := by decide +kernel
theorem dX9_image_33 : decode cX9_image 33 = .ok (.ireturn, 1) := by decide +kernel
set_option maxRecDepth 20000 in
theorem ggX9_restore_X9_carried : GoodIn wsX9_restore wsX9_carried := goodIn_r _ [7, 8, 9, 10, 11, 12, 13, 14, 15, 16, 17, 18, 19, 20, 21, 22, 23, 24, 25, 26, 27, 28, 29, 30, 31, 32, 33, 34, 35, 36, 37, 38, 39, 40, 41, 42, 43, 44, 45] (by decide +kernel) (by decide +kernel)
set_option maxRecDepth 20000 in
theorem gX9_restore_X9_carried : GoodIn wsX9_restore (wsV RX9 232 RX9 yX9_carried wsX9_carried) := goodIn_app (goodIn_of _ (by decide +kernel)) ggX9_restore_X9_carried
theorem dX9_restore_0 : decode cX9_restore 0 = .ok (.aload_n 0, 1) := by decide +kernel
theorem dX9_restore_1 : decode cX9_restore 1 = .ok (.getfield 236, 3) := by decide +kernel
theorem dX9_restore_4 : decode cX9_restore 4 = .ok (.ifCond .ne 6, 3) := by decide +kernel
theorem dX9_restore_7 : decode cX9_restore 7 = .ok (.bipush (-4), 2) := by decide +kernel
theorem dX9_restore_9 : decode cX9_restore 9 = .ok (.ireturn, 1) := by decide +kernel
theorem dX9_restore_10 : decode cX9_restore 10 = .ok (.iconst 0, 1) := by decide +kernel
theorem dX9_restore_11 : decode cX9_restore 11 = .ok (.istore_n 1, 1) := by decide +kernel
theorem dX9_restore_12 : decode cX9_restore 12 = .ok (.iload_n 1, 1) := by decide +kernel
theorem dX9_restore_13 : decode cX9_restore 13 = .ok (.bipush 46, 2) := by decide +kernel
theorem dX9_restore_15 : decode cX9_restore 15 = .ok (.if_icmp .ge 22, 3) := by decide +kernel
theorem dX9_restore_18 : decode cX9_restore 18 = .ok (.aload_n 0, 1) := by decide +kernel
theorem dX9_restore_19 : decode cX9_restore 19 = .ok (.iload_n 1, 1) := by decide +kernel
theorem dX9_restore_20 : decode cX9_restore 20 = .ok (.aload_n 0, 1) := by decide +kernel
theorem dX9_restore_21 : decode cX9_restore 21 = .ok (.getfield 65, 3) := by decide +kernel
theorem dX9_restore_24 : decode cX9_restore 24 = .ok (.iload_n 1, 1) := by decide +kernel
theorem dX9_restore_25 : decode cX9_restore 25 = .ok (.iaload, 1) := by decide +kernel
theorem dX9_restore_26 : decode cX9_restore 26 = .ok (.iconst 1, 1) := by decide +kernel
theorem dX9_restore_27 : decode cX9_restore 27 = .ok (.invokevirtual 232, 3) := by decide +kernel
theorem dX9_restore_30 : decode cX9_restore 30 = .ok (.pop, 1) := by decide +kernel
theorem dX9_restore_31 : decode cX9_restore 31 = .ok (.iinc 1 1, 3) := by decide +kernel
theorem dX9_restore_34 : decode cX9_restore 34 = .ok (.goto (-22), 3) := by decide +kernel
theorem dX9_restore_37 : decode cX9_restore 37 = .ok (.iconst 1, 1) := by decide +kernel
theorem dX9_restore_38 : decode cX9_restore 38 = .ok (.ireturn, 1) := by decide +kernel
set_option maxRecDepth 20000 in
theorem ggX9_isSheet_X9_in : GoodIn wsX9_isSheet wsX9_in := goodIn_r _ [6] (by decide +kernel) (by decide +kernel)
set_option maxRecDepth 20000 in
theorem gX9_isSheet_X9_in : GoodIn wsX9_isSheet (va_wsS RX9 90 yX9_in wsX9_in) := goodIn_app (goodIn_of _ (by decide +kernel)) ggX9_isSheet_X9_in
theorem dX9_isSheet_0 : decode cX9_isSheet 0 = .ok (.iload_n 0, 1) := by decide +kernel
theorem dX9_isSheet_1 : decode cX9_isSheet 1 = .ok (.i2l, 1) := by decide +kernel
theorem dX9_isSheet_2 : decode cX9_isSheet 2 = .ok (.lconst 0, 1) := by decide +kernel
theorem dX9_isSheet_3 : decode cX9_isSheet 3 = .ok (.ldc2_w 98, 3) := by decide +kernel
theorem dX9_isSheet_6 : decode cX9_isSheet 6 = .ok (.invokestatic 90, 3) := by decide +kernel
theorem dX9_isSheet_9 : decode cX9_isSheet 9 = .ok (.ifCond .eq 19, 3) := by decide +kernel
theorem dX9_isSheet_12 : decode cX9_isSheet 12 = .ok (.iload_n 1, 1) := by decide +kernel
theorem dX9_isSheet_13 : decode cX9_isSheet 13 = .ok (.i2l, 1) := by decide +kernel
theorem dX9_isSheet_14 : decode cX9_isSheet 14 = .ok (.lconst 0, 1) := by decide +kernel
theorem dX9_isSheet_15 : decode cX9_isSheet 15 = .ok (.ldc2_w 227, 3) := by decide +kernel
theorem dX9_isSheet_18 : decode cX9_isSheet 18 = .ok (.invokestatic 90, 3) := by decide +kernel
theorem dX9_isSheet_21 : decode cX9_isSheet 21 = .ok (.ifCond .eq 7, 3) := by decide +kernel
theorem dX9_isSheet_24 : decode cX9_isSheet 24 = .ok (.iconst 1, 1) := by decide +kernel
theorem dX9_isSheet_25 : decode cX9_isSheet 25 = .ok (.goto 4, 3) := by decide +kernel
theorem dX9_isSheet_28 : decode cX9_isSheet 28 = .ok (.iconst 0, 1) := by decide +kernel
theorem dX9_isSheet_29 : decode cX9_isSheet 29 = .ok (.ireturn, 1) := by decide +kernel
set_option maxRecDepth 20000 in
theorem ggX9_sheet_X9_isSheet : GoodIn wsX9_sheet wsX9_isSheet := goodIn_r _ [7, 8, 9, 10, 11, 6, 12] (by decide +kernel) (by decide +kernel)
set_option maxRecDepth 20000 in
theorem gX9_sheet_X9_isSheet : GoodIn wsX9_sheet (va_wsS RX9 240 yX9_isSheet wsX9_isSheet) := goodIn_app (goodIn_of _ (by decide +kernel)) ggX9_sheet_X9_isSheet
theorem dX9_sheet_0 : decode cX9_sheet 0 = .ok (.iload_n 1, 1) := by decide +kernel
theorem dX9_sheet_1 : decode cX9_sheet 1 = .ok (.iload_n 2, 1) := by decide +kernel
theorem dX9_sheet_2 : decode cX9_sheet 2 = .ok (.invokestatic 240, 3) := by decide +kernel
theorem dX9_sheet_5 : decode cX9_sheet 5 = .ok (.ifCond .eq 9, 3) := by decide +kernel
theorem dX9_sheet_8 : decode cX9_sheet 8 = .ok (.iload_n 3, 1) := by decide +kernel
theorem dX9_sheet_9 : decode cX9_sheet 9 = .ok (.bipush 24, 2) := by decide +kernel
theorem dX9_sheet_11 : decode cX9_sheet 11 = .ok (.if_icmp .le 5, 3) := by decide +kernel
theorem dX9_sheet_14 : decode cX9_sheet 14 = .ok (.iconst (-1), 1) := by decide +kernel
theorem dX9_sheet_15 : decode cX9_sheet 15 = .ok (.ireturn, 1) := by decide +kernel
theorem dX9_sheet_16 : decode cX9_sheet 16 = .ok (.iload_n 3, 1) := by decide +kernel
theorem dX9_sheet_17 : decode cX9_sheet 17 = .ok (.ifCond .ge 6, 3) := by decide +kernel
theorem dX9_sheet_20 : decode cX9_sheet 20 = .ok (.bipush (-14), 2) := by decide +kernel
theorem dX9_sheet_22 : decode cX9_sheet 22 = .ok (.ireturn, 1) := by decide +kernel
theorem dX9_sheet_23 : decode cX9_sheet 23 = .ok (.aload_n 0, 1) := by decide +kernel
theorem dX9_sheet_24 : decode cX9_sheet 24 = .ok (.getfield 68, 3) := by decide +kernel
theorem dX9_sheet_27 : decode cX9_sheet 27 = .ok (.iload_n 1, 1) := by decide +kernel
theorem dX9_sheet_28 : decode cX9_sheet 28 = .ok (.iload_n 2, 1) := by decide +kernel
theorem dX9_sheet_29 : decode cX9_sheet 29 = .ok (.iastore, 1) := by decide +kernel
theorem dX9_sheet_30 : decode cX9_sheet 30 = .ok (.aload_n 0, 1) := by decide +kernel
theorem dX9_sheet_31 : decode cX9_sheet 31 = .ok (.getfield 71, 3) := by decide +kernel
theorem dX9_sheet_34 : decode cX9_sheet 34 = .ok (.iload_n 1, 1) := by decide +kernel
theorem dX9_sheet_35 : decode cX9_sheet 35 = .ok (.iload_n 3, 1) := by decide +kernel
theorem dX9_sheet_36 : decode cX9_sheet 36 = .ok (.iastore, 1) := by decide +kernel
theorem dX9_sheet_37 : decode cX9_sheet 37 = .ok (.iconst 0, 1) := by decide +kernel
theorem dX9_sheet_38 : decode cX9_sheet 38 = .ok (.istore 4, 2) := by decide +kernel
theorem dX9_sheet_40 : decode cX9_sheet 40 = .ok (.iload 4, 2) := by decide +kernel
theorem dX9_sheet_42 : decode cX9_sheet 42 = .ok (.bipush 24, 2) := by decide +kernel
theorem dX9_sheet_44 : decode cX9_sheet 44 = .ok (.if_icmp .ge 22, 3) := by decide +kernel
theorem dX9_sheet_47 : decode cX9_sheet 47 = .ok (.aload_n 0, 1) := by decide +kernel
theorem dX9_sheet_48 : decode cX9_sheet 48 = .ok (.getfield 74, 3) := by decide +kernel
theorem dX9_sheet_51 : decode cX9_sheet 51 = .ok (.bipush 24, 2) := by decide +kernel
theorem dX9_sheet_53 : decode cX9_sheet 53 = .ok (.iload_n 1, 1) := by decide +kernel
theorem dX9_sheet_54 : decode cX9_sheet 54 = .ok (.imul, 1) := by decide +kernel
theorem dX9_sheet_55 : decode cX9_sheet 55 = .ok (.iload 4, 2) := by decide +kernel
theorem dX9_sheet_57 : decode cX9_sheet 57 = .ok (.iadd, 1) := by decide +kernel
theorem dX9_sheet_58 : decode cX9_sheet 58 = .ok (.lconst 0, 1) := by decide +kernel
theorem dX9_sheet_59 : decode cX9_sheet 59 = .ok (.lastore, 1) := by decide +kernel
theorem dX9_sheet_60 : decode cX9_sheet 60 = .ok (.iinc 4 1, 3) := by decide +kernel
theorem dX9_sheet_63 : decode cX9_sheet 63 = .ok (.goto (-23), 3) := by decide +kernel
theorem dX9_sheet_66 : decode cX9_sheet 66 = .ok (.iload_n 3, 1) := by decide +kernel
theorem dX9_sheet_67 : decode cX9_sheet 67 = .ok (.ireturn, 1) := by decide +kernel
set_option maxRecDepth 20000 in
theorem ggX9_drop_X9_in : GoodIn wsX9_drop wsX9_in := goodIn_r _ [7] (by decide +kernel) (by decide +kernel)
set_option maxRecDepth 20000 in
theorem gX9_drop_X9_in : GoodIn wsX9_drop (va_wsS RX9 90 yX9_in wsX9_in) := goodIn_app (goodIn_of _ (by decide +kernel)) ggX9_drop_X9_in
theorem dX9_drop_0 : decode cX9_drop 0 = .ok (.iload_n 1, 1) := by decide +kernel
theorem dX9_drop_1 : decode cX9_drop 1 = .ok (.i2l, 1) := by decide +kernel
theorem dX9_drop_2 : decode cX9_drop 2 = .ok (.lconst 0, 1) := by decide +kernel
theorem dX9_drop_3 : decode cX9_drop 3 = .ok (.ldc2_w 98, 3) := by decide +kernel
theorem dX9_drop_6 : decode cX9_drop 6 = .ok (.invokestatic 90, 3) := by decide +kernel
theorem dX9_drop_9 : decode cX9_drop 9 = .ok (.ifCond .ne 5, 3) := by decide +kernel
theorem dX9_drop_12 : decode cX9_drop 12 = .ok (.iconst (-1), 1) := by decide +kernel
theorem dX9_drop_13 : decode cX9_drop 13 = .ok (.ireturn, 1) := by decide +kernel
theorem dX9_drop_14 : decode cX9_drop 14 = .ok (.aload_n 0, 1) := by decide +kernel
theorem dX9_drop_15 : decode cX9_drop 15 = .ok (.getfield 68, 3) := by decide +kernel
theorem dX9_drop_18 : decode cX9_drop 18 = .ok (.iload_n 1, 1) := by decide +kernel
theorem dX9_drop_19 : decode cX9_drop 19 = .ok (.iaload, 1) := by decide +kernel
theorem dX9_drop_20 : decode cX9_drop 20 = .ok (.ifCond .ge 6, 3) := by decide +kernel
theorem dX9_drop_23 : decode cX9_drop 23 = .ok (.bipush (-11), 2) := by decide +kernel
theorem dX9_drop_25 : decode cX9_drop 25 = .ok (.ireturn, 1) := by decide +kernel
theorem dX9_drop_26 : decode cX9_drop 26 = .ok (.aload_n 0, 1) := by decide +kernel
theorem dX9_drop_27 : decode cX9_drop 27 = .ok (.getfield 68, 3) := by decide +kernel
theorem dX9_drop_30 : decode cX9_drop 30 = .ok (.iload_n 1, 1) := by decide +kernel
theorem dX9_drop_31 : decode cX9_drop 31 = .ok (.iconst (-1), 1) := by decide +kernel
theorem dX9_drop_32 : decode cX9_drop 32 = .ok (.iastore, 1) := by decide +kernel
theorem dX9_drop_33 : decode cX9_drop 33 = .ok (.aload_n 0, 1) := by decide +kernel
theorem dX9_drop_34 : decode cX9_drop 34 = .ok (.getfield 71, 3) := by decide +kernel
theorem dX9_drop_37 : decode cX9_drop 37 = .ok (.iload_n 1, 1) := by decide +kernel
theorem dX9_drop_38 : decode cX9_drop 38 = .ok (.iaload, 1) := by decide +kernel
theorem dX9_drop_39 : decode cX9_drop 39 = .ok (.ireturn, 1) := by decide +kernel
set_option maxRecDepth 20000 in
theorem ggX9_lacksRow_X9_in : GoodIn wsX9_lacksRow wsX9_in := goodIn_r _ [6] (by decide +kernel) (by decide +kernel)
set_option maxRecDepth 20000 in
theorem gX9_lacksRow_X9_in : GoodIn wsX9_lacksRow (va_wsS RX9 90 yX9_in wsX9_in) := goodIn_app (goodIn_of _ (by decide +kernel)) ggX9_lacksRow_X9_in
theorem dX9_lacksRow_0 : decode cX9_lacksRow 0 = .ok (.aload_n 0, 1) := by decide +kernel
theorem dX9_lacksRow_1 : decode cX9_lacksRow 1 = .ok (.getfield 68, 3) := by decide +kernel
theorem dX9_lacksRow_4 : decode cX9_lacksRow 4 = .ok (.iload_n 1, 1) := by decide +kernel
theorem dX9_lacksRow_5 : decode cX9_lacksRow 5 = .ok (.iaload, 1) := by decide +kernel
theorem dX9_lacksRow_6 : decode cX9_lacksRow 6 = .ok (.iload_n 2, 1) := by decide +kernel
theorem dX9_lacksRow_7 : decode cX9_lacksRow 7 = .ok (.if_icmp .eq 20, 3) := by decide +kernel
theorem dX9_lacksRow_10 : decode cX9_lacksRow 10 = .ok (.aload_n 0, 1) := by decide +kernel
theorem dX9_lacksRow_11 : decode cX9_lacksRow 11 = .ok (.getfield 68, 3) := by decide +kernel
theorem dX9_lacksRow_14 : decode cX9_lacksRow 14 = .ok (.iload_n 1, 1) := by decide +kernel
theorem dX9_lacksRow_15 : decode cX9_lacksRow 15 = .ok (.iaload, 1) := by decide +kernel
theorem dX9_lacksRow_16 : decode cX9_lacksRow 16 = .ok (.ifCond .ge 8, 3) := by decide +kernel
theorem dX9_lacksRow_19 : decode cX9_lacksRow 19 = .ok (.bipush (-11), 2) := by decide +kernel
theorem dX9_lacksRow_21 : decode cX9_lacksRow 21 = .ok (.goto 5, 3) := by decide +kernel
theorem dX9_lacksRow_24 : decode cX9_lacksRow 24 = .ok (.bipush (-12), 2) := by decide +kernel
theorem dX9_lacksRow_26 : decode cX9_lacksRow 26 = .ok (.ireturn, 1) := by decide +kernel
theorem dX9_lacksRow_27 : decode cX9_lacksRow 27 = .ok (.iload_n 3, 1) := by decide +kernel
theorem dX9_lacksRow_28 : decode cX9_lacksRow 28 = .ok (.i2l, 1) := by decide +kernel
theorem dX9_lacksRow_29 : decode cX9_lacksRow 29 = .ok (.lconst 0, 1) := by decide +kernel
theorem dX9_lacksRow_30 : decode cX9_lacksRow 30 = .ok (.aload_n 0, 1) := by decide +kernel
theorem dX9_lacksRow_31 : decode cX9_lacksRow 31 = .ok (.getfield 71, 3) := by decide +kernel
theorem dX9_lacksRow_34 : decode cX9_lacksRow 34 = .ok (.iload_n 1, 1) := by decide +kernel
theorem dX9_lacksRow_35 : decode cX9_lacksRow 35 = .ok (.iaload, 1) := by decide +kernel
theorem dX9_lacksRow_36 : decode cX9_lacksRow 36 = .ok (.iload 4, 2) := by decide +kernel
theorem dX9_lacksRow_38 : decode cX9_lacksRow 38 = .ok (.isub, 1) := by decide +kernel
theorem dX9_lacksRow_39 : decode cX9_lacksRow 39 = .ok (.i2l, 1) := by decide +kernel
theorem dX9_lacksRow_40 : decode cX9_lacksRow 40 = .ok (.invokestatic 90, 3) := by decide +kernel
theorem dX9_lacksRow_43 : decode cX9_lacksRow 43 = .ok (.ifCond .eq 7, 3) := by decide +kernel
theorem dX9_lacksRow_46 : decode cX9_lacksRow 46 = .ok (.iconst 0, 1) := by decide +kernel
theorem dX9_lacksRow_47 : decode cX9_lacksRow 47 = .ok (.goto 5, 3) := by decide +kernel
theorem dX9_lacksRow_50 : decode cX9_lacksRow 50 = .ok (.bipush (-13), 2) := by decide +kernel
theorem dX9_lacksRow_52 : decode cX9_lacksRow 52 = .ok (.ireturn, 1) := by decide +kernel
set_option maxRecDepth 20000 in
theorem ggX9_item_X9_isSheet : GoodIn wsX9_item wsX9_isSheet := goodIn_r _ [5, 6, 7, 8, 9, 4, 10] (by decide +kernel) (by decide +kernel)
set_option maxRecDepth 20000 in
theorem gX9_item_X9_isSheet : GoodIn wsX9_item (va_wsS RX9 240 yX9_isSheet wsX9_isSheet) := goodIn_app (goodIn_of _ (by decide +kernel)) ggX9_item_X9_isSheet
set_option maxRecDepth 20000 in
theorem ggX9_item_X9_lacksRow : GoodIn wsX9_item wsX9_lacksRow := goodIn_r _ [14, 15, 16, 8, 9, 4, 10, 20, 21, 22, 23, 24, 25, 26, 27, 28, 29, 30, 31, 32, 33, 34, 35, 36, 37, 38, 39, 40, 41, 42, 43, 44, 45, 46, 47, 48, 49, 50] (by decide +kernel) (by decide +kernel)
set_option maxRecDepth 20000 in
theorem gX9_item_X9_lacksRow : GoodIn wsX9_item (wsV RX9 243 RX9 yX9_lacksRow wsX9_lacksRow) := goodIn_app (goodIn_of _ (by decide +kernel)) ggX9_item_X9_lacksRow
set_option maxRecDepth 20000 in
theorem ggX9_item_X9_asLane : GoodIn wsX9_item wsX9_asLane := goodIn_r _ [19] (by decide +kernel) (by decide +kernel)
set_option maxRecDepth 20000 in
theorem gX9_item_X9_asLane : GoodIn wsX9_item (va_wsS RX9 247 yX9_asLane wsX9_asLane) := goodIn_app (goodIn_of _ (by decide +kernel)) ggX9_item_X9_asLane
theorem dX9_item_0 : decode cX9_item 0 = .ok (.iload_n 1, 1) := by decide +kernel
theorem dX9_item_1 : decode cX9_item 1 = .ok (.iload_n 2, 1) := by decide +kernel
theorem dX9_item_2 : decode cX9_item 2 = .ok (.invokestatic 240, 3) := by decide +kernel
theorem dX9_item_5 : decode cX9_item 5 = .ok (.ifCond .ne 5, 3) := by decide +kernel
theorem dX9_item_8 : decode cX9_item 8 = .ok (.iconst (-1), 1) := by decide +kernel
theorem dX9_item_9 : decode cX9_item 9 = .ok (.ireturn, 1) := by decide +kernel
theorem dX9_item_10 : decode cX9_item 10 = .ok (.aload_n 0, 1) := by decide +kernel
theorem dX9_item_11 : decode cX9_item 11 = .ok (.iload_n 1, 1) := by decide +kernel
theorem dX9_item_12 : decode cX9_item 12 = .ok (.iload_n 2, 1) := by decide +kernel
theorem dX9_item_13 : decode cX9_item 13 = .ok (.iload_n 3, 1) := by decide +kernel
theorem dX9_item_14 : decode cX9_item 14 = .ok (.iconst 1, 1) := by decide +kernel
theorem dX9_item_15 : decode cX9_item 15 = .ok (.invokevirtual 243, 3) := by decide +kernel
theorem dX9_item_18 : decode cX9_item 18 = .ok (.istore 6, 2) := by decide +kernel
theorem dX9_item_20 : decode cX9_item 20 = .ok (.iload 6, 2) := by decide +kernel
theorem dX9_item_22 : decode cX9_item 22 = .ok (.ifCond .ge 6, 3) := by decide +kernel
theorem dX9_item_25 : decode cX9_item 25 = .ok (.iload 6, 2) := by decide +kernel
theorem dX9_item_27 : decode cX9_item 27 = .ok (.ireturn, 1) := by decide +kernel
theorem dX9_item_28 : decode cX9_item 28 = .ok (.aload_n 0, 1) := by decide +kernel
theorem dX9_item_29 : decode cX9_item 29 = .ok (.getfield 74, 3) := by decide +kernel
theorem dX9_item_32 : decode cX9_item 32 = .ok (.bipush 24, 2) := by decide +kernel
theorem dX9_item_34 : decode cX9_item 34 = .ok (.iload_n 1, 1) := by decide +kernel
theorem dX9_item_35 : decode cX9_item 35 = .ok (.imul, 1) := by decide +kernel
theorem dX9_item_36 : decode cX9_item 36 = .ok (.iload_n 3, 1) := by decide +kernel
theorem dX9_item_37 : decode cX9_item 37 = .ok (.iadd, 1) := by decide +kernel
theorem dX9_item_38 : decode cX9_item 38 = .ok (.iload_n 2, 1) := by decide +kernel
theorem dX9_item_39 : decode cX9_item 39 = .ok (.lload 4, 2) := by decide +kernel
theorem dX9_item_41 : decode cX9_item 41 = .ok (.invokestatic 247, 3) := by decide +kernel
theorem dX9_item_44 : decode cX9_item 44 = .ok (.lastore, 1) := by decide +kernel
theorem dX9_item_45 : decode cX9_item 45 = .ok (.iconst 1, 1) := by decide +kernel
theorem dX9_item_46 : decode cX9_item 46 = .ok (.ireturn, 1) := by decide +kernel
set_option maxRecDepth 20000 in
theorem ggX9_film_X9_isSheet : GoodIn wsX9_film wsX9_isSheet := goodIn_r _ [7, 8, 9, 10, 11, 6, 12] (by decide +kernel) (by decide +kernel)
set_option maxRecDepth 20000 in
theorem gX9_film_X9_isSheet : GoodIn wsX9_film (va_wsS RX9 240 yX9_isSheet wsX9_isSheet) := goodIn_app (goodIn_of _ (by decide +kernel)) ggX9_film_X9_isSheet
set_option maxRecDepth 20000 in
theorem ggX9_film_X9_lacksRow : GoodIn wsX9_film wsX9_lacksRow := goodIn_r _ [16, 17, 18, 10, 11, 6, 12, 22, 23, 24, 25, 26, 27, 28, 29, 30, 31, 32, 33, 34, 35, 36, 37, 38, 39, 40, 41, 42, 43, 44, 45, 46, 47, 48, 49, 50, 51, 52] (by decide +kernel) (by decide +kernel)
set_option maxRecDepth 20000 in
theorem gX9_film_X9_lacksRow : GoodIn wsX9_film (wsV RX9 243 RX9 yX9_lacksRow wsX9_lacksRow) := goodIn_app (goodIn_of _ (by decide +kernel)) ggX9_film_X9_lacksRow
set_option maxRecDepth 20000 in
theorem ggX9_film_X9_asLane : GoodIn wsX9_film wsX9_asLane := goodIn_r _ [21] (by decide +kernel) (by decide +kernel)
set_option maxRecDepth 20000 in
theorem gX9_film_X9_asLane : GoodIn wsX9_film (va_wsS RX9 247 yX9_asLane wsX9_asLane) := goodIn_app (goodIn_of _ (by decide +kernel)) ggX9_film_X9_asLane
theorem dX9_film_0 : decode cX9_film 0 = .ok (.iload_n 1, 1) := by decide +kernel
theorem dX9_film_1 : decode cX9_film 1 = .ok (.iload_n 2, 1) := by decide +kernel
theorem dX9_film_2 : decode cX9_film 2 = .ok (.invokestatic 240, 3) := by decide +kernel
theorem dX9_film_5 : decode cX9_film 5 = .ok (.ifCond .ne 5, 3) := by decide +kernel
theorem dX9_film_8 : decode cX9_film 8 = .ok (.iconst (-1), 1) := by decide +kernel
theorem dX9_film_9 : decode cX9_film 9 = .ok (.ireturn, 1) := by decide +kernel
theorem dX9_film_10 : decode cX9_film 10 = .ok (.aload_n 0, 1) := by decide +kernel
theorem dX9_film_11 : decode cX9_film 11 = .ok (.iload_n 1, 1) := by decide +kernel
theorem dX9_film_12 : decode cX9_film 12 = .ok (.iload_n 2, 1) := by decide +kernel
theorem dX9_film_13 : decode cX9_film 13 = .ok (.iload_n 3, 1) := by decide +kernel
theorem dX9_film_14 : decode cX9_film 14 = .ok (.aload_n 0, 1) := by decide +kernel
theorem dX9_film_15 : decode cX9_film 15 = .ok (.getfield 86, 3) := by decide +kernel
theorem dX9_film_18 : decode cX9_film 18 = .ok (.invokevirtual 243, 3) := by decide +kernel
theorem dX9_film_21 : decode cX9_film 21 = .ok (.istore 4, 2) := by decide +kernel
theorem dX9_film_23 : decode cX9_film 23 = .ok (.iload 4, 2) := by decide +kernel
theorem dX9_film_25 : decode cX9_film 25 = .ok (.ifCond .ge 6, 3) := by decide +kernel
theorem dX9_film_28 : decode cX9_film 28 = .ok (.iload 4, 2) := by decide +kernel
theorem dX9_film_30 : decode cX9_film 30 = .ok (.ireturn, 1) := by decide +kernel
theorem dX9_film_31 : decode cX9_film 31 = .ok (.iconst 0, 1) := by decide +kernel
theorem dX9_film_32 : decode cX9_film 32 = .ok (.istore 5, 2) := by decide +kernel
theorem dX9_film_34 : decode cX9_film 34 = .ok (.iload 5, 2) := by decide +kernel
theorem dX9_film_36 : decode cX9_film 36 = .ok (.aload_n 0, 1) := by decide +kernel
theorem dX9_film_37 : decode cX9_film 37 = .ok (.getfield 86, 3) := by decide +kernel
theorem dX9_film_40 : decode cX9_film 40 = .ok (.if_icmp .ge 35, 3) := by decide +kernel
theorem dX9_film_43 : decode cX9_film 43 = .ok (.aload_n 0, 1) := by decide +kernel
theorem dX9_film_44 : decode cX9_film 44 = .ok (.getfield 74, 3) := by decide +kernel
theorem dX9_film_47 : decode cX9_film 47 = .ok (.bipush 24, 2) := by decide +kernel
theorem dX9_film_49 : decode cX9_film 49 = .ok (.iload_n 1, 1) := by decide +kernel
theorem dX9_film_50 : decode cX9_film 50 = .ok (.imul, 1) := by decide +kernel
theorem dX9_film_51 : decode cX9_film 51 = .ok (.iload_n 3, 1) := by decide +kernel
theorem dX9_film_52 : decode cX9_film 52 = .ok (.iadd, 1) := by decide +kernel
theorem dX9_film_53 : decode cX9_film 53 = .ok (.iload 5, 2) := by decide +kernel
theorem dX9_film_55 : decode cX9_film 55 = .ok (.iadd, 1) := by decide +kernel
theorem dX9_film_56 : decode cX9_film 56 = .ok (.iload_n 2, 1) := by decide +kernel
theorem dX9_film_57 : decode cX9_film 57 = .ok (.aload_n 0, 1) := by decide +kernel
theorem dX9_film_58 : decode cX9_film 58 = .ok (.getfield 13, 3) := by decide +kernel
theorem dX9_film_61 : decode cX9_film 61 = .ok (.iload 5, 2) := by decide +kernel
theorem dX9_film_63 : decode cX9_film 63 = .ok (.iaload, 1) := by decide +kernel
theorem dX9_film_64 : decode cX9_film 64 = .ok (.i2l, 1) := by decide +kernel
theorem dX9_film_65 : decode cX9_film 65 = .ok (.invokestatic 247, 3) := by decide +kernel
theorem dX9_film_68 : decode cX9_film 68 = .ok (.lastore, 1) := by decide +kernel
theorem dX9_film_69 : decode cX9_film 69 = .ok (.iinc 5 1, 3) := by decide +kernel
theorem dX9_film_72 : decode cX9_film 72 = .ok (.goto (-38), 3) := by decide +kernel
theorem dX9_film_75 : decode cX9_film 75 = .ok (.aload_n 0, 1) := by decide +kernel
theorem dX9_film_76 : decode cX9_film 76 = .ok (.getfield 86, 3) := by decide +kernel
theorem dX9_film_79 : decode cX9_film 79 = .ok (.ireturn, 1) := by decide +kernel
set_option maxRecDepth 20000 in
theorem ggX9_copy_X9_in : GoodIn wsX9_copy wsX9_in := goodIn_r _ [9] (by decide +kernel) (by decide +kernel)
set_option maxRecDepth 20000 in
theorem gX9_copy_X9_in : GoodIn wsX9_copy (va_wsS RX9 90 yX9_in wsX9_in) := goodIn_app (goodIn_of _ (by decide +kernel)) ggX9_copy_X9_in
theorem dX9_copy_0 : decode cX9_copy 0 = .ok (.iload_n 1, 1) := by decide +kernel
theorem dX9_copy_1 : decode cX9_copy 1 = .ok (.i2l, 1) := by decide +kernel
theorem dX9_copy_2 : decode cX9_copy 2 = .ok (.lconst 0, 1) := by decide +kernel
theorem dX9_copy_3 : decode cX9_copy 3 = .ok (.ldc2_w 98, 3) := by decide +kernel
theorem dX9_copy_6 : decode cX9_copy 6 = .ok (.invokestatic 90, 3) := by decide +kernel
theorem dX9_copy_9 : decode cX9_copy 9 = .ok (.ifCond .eq 15, 3) := by decide +kernel
theorem dX9_copy_12 : decode cX9_copy 12 = .ok (.iload_n 3, 1) := by decide +kernel
theorem dX9_copy_13 : decode cX9_copy 13 = .ok (.i2l, 1) := by decide +kernel
theorem dX9_copy_14 : decode cX9_copy 14 = .ok (.lconst 0, 1) := by decide +kernel
theorem dX9_copy_15 : decode cX9_copy 15 = .ok (.ldc2_w 98, 3) := by decide +kernel
theorem dX9_copy_18 : decode cX9_copy 18 = .ok (.invokestatic 90, 3) := by decide +kernel
theorem dX9_copy_21 : decode cX9_copy 21 = .ok (.ifCond .ne 5, 3) := by decide +kernel
theorem dX9_copy_24 : decode cX9_copy 24 = .ok (.iconst (-1), 1) := by decide +kernel
theorem dX9_copy_25 : decode cX9_copy 25 = .ok (.ireturn, 1) := by decide +kernel
theorem dX9_copy_26 : decode cX9_copy 26 = .ok (.aload_n 0, 1) := by decide +kernel
theorem dX9_copy_27 : decode cX9_copy 27 = .ok (.getfield 68, 3) := by decide +kernel
theorem dX9_copy_30 : decode cX9_copy 30 = .ok (.iload_n 1, 1) := by decide +kernel
theorem dX9_copy_31 : decode cX9_copy 31 = .ok (.iaload, 1) := by decide +kernel
theorem dX9_copy_32 : decode cX9_copy 32 = .ok (.ifCond .lt 12, 3) := by decide +kernel
theorem dX9_copy_35 : decode cX9_copy 35 = .ok (.aload_n 0, 1) := by decide +kernel
theorem dX9_copy_36 : decode cX9_copy 36 = .ok (.getfield 68, 3) := by decide +kernel
theorem dX9_copy_39 : decode cX9_copy 39 = .ok (.iload_n 3, 1) := by decide +kernel
theorem dX9_copy_40 : decode cX9_copy 40 = .ok (.iaload, 1) := by decide +kernel
theorem dX9_copy_41 : decode cX9_copy 41 = .ok (.ifCond .ge 6, 3) := by decide +kernel
theorem dX9_copy_44 : decode cX9_copy 44 = .ok (.bipush (-11), 2) := by decide +kernel
theorem dX9_copy_46 : decode cX9_copy 46 = .ok (.ireturn, 1) := by decide +kernel
theorem dX9_copy_47 : decode cX9_copy 47 = .ok (.aload_n 0, 1) := by decide +kernel
theorem dX9_copy_48 : decode cX9_copy 48 = .ok (.getfield 68, 3) := by decide +kernel
theorem dX9_copy_51 : decode cX9_copy 51 = .ok (.iload_n 1, 1) := by decide +kernel
theorem dX9_copy_52 : decode cX9_copy 52 = .ok (.iaload, 1) := by decide +kernel
theorem dX9_copy_53 : decode cX9_copy 53 = .ok (.aload_n 0, 1) := by decide +kernel
theorem dX9_copy_54 : decode cX9_copy 54 = .ok (.getfield 68, 3) := by decide +kernel
theorem dX9_copy_57 : decode cX9_copy 57 = .ok (.iload_n 3, 1) := by decide +kernel
theorem dX9_copy_58 : decode cX9_copy 58 = .ok (.iaload, 1) := by decide +kernel
theorem dX9_copy_59 : decode cX9_copy 59 = .ok (.if_icmp .eq 6, 3) := by decide +kernel
theorem dX9_copy_62 : decode cX9_copy 62 = .ok (.bipush (-12), 2) := by decide +kernel
theorem dX9_copy_64 : decode cX9_copy 64 = .ok (.ireturn, 1) := by decide +kernel
theorem dX9_copy_65 : decode cX9_copy 65 = .ok (.iload 5, 2) := by decide +kernel
theorem dX9_copy_67 : decode cX9_copy 67 = .ok (.ifCond .lt 44, 3) := by decide +kernel
theorem dX9_copy_70 : decode cX9_copy 70 = .ok (.iload_n 2, 1) := by decide +kernel
theorem dX9_copy_71 : decode cX9_copy 71 = .ok (.i2l, 1) := by decide +kernel
theorem dX9_copy_72 : decode cX9_copy 72 = .ok (.lconst 0, 1) := by decide +kernel
theorem dX9_copy_73 : decode cX9_copy 73 = .ok (.aload_n 0, 1) := by decide +kernel
theorem dX9_copy_74 : decode cX9_copy 74 = .ok (.getfield 71, 3) := by decide +kernel
theorem dX9_copy_77 : decode cX9_copy 77 = .ok (.iload_n 1, 1) := by decide +kernel
theorem dX9_copy_78 : decode cX9_copy 78 = .ok (.iaload, 1) := by decide +kernel
theorem dX9_copy_79 : decode cX9_copy 79 = .ok (.i2l, 1) := by decide +kernel
theorem dX9_copy_80 : decode cX9_copy 80 = .ok (.iload 5, 2) := by decide +kernel
theorem dX9_copy_82 : decode cX9_copy 82 = .ok (.i2l, 1) := by decide +kernel
theorem dX9_copy_83 : decode cX9_copy 83 = .ok (.lsub, 1) := by decide +kernel
theorem dX9_copy_84 : decode cX9_copy 84 = .ok (.invokestatic 90, 3) := by decide +kernel
theorem dX9_copy_87 : decode cX9_copy 87 = .ok (.ifCond .eq 24, 3) := by decide +kernel
theorem dX9_copy_90 : decode cX9_copy 90 = .ok (.iload 4, 2) := by decide +kernel
theorem dX9_copy_92 : decode cX9_copy 92 = .ok (.i2l, 1) := by decide +kernel
theorem dX9_copy_93 : decode cX9_copy 93 = .ok (.lconst 0, 1) := by decide +kernel
theorem dX9_copy_94 : decode cX9_copy 94 = .ok (.aload_n 0, 1) := by decide +kernel
theorem dX9_copy_95 : decode cX9_copy 95 = .ok (.getfield 71, 3) := by decide +kernel
theorem dX9_copy_98 : decode cX9_copy 98 = .ok (.iload_n 3, 1) := by decide +kernel
theorem dX9_copy_99 : decode cX9_copy 99 = .ok (.iaload, 1) := by decide +kernel
theorem dX9_copy_100 : decode cX9_copy 100 = .ok (.i2l, 1) := by decide +kernel
theorem dX9_copy_101 : decode cX9_copy 101 = .ok (.iload 5, 2) := by decide +kernel
theorem dX9_copy_103 : decode cX9_copy 103 = .ok (.i2l, 1) := by decide +kernel
theorem dX9_copy_104 : decode cX9_copy 104 = .ok (.lsub, 1) := by decide +kernel
theorem dX9_copy_105 : decode cX9_copy 105 = .ok (.invokestatic 90, 3) := by decide +kernel
theorem dX9_copy_108 : decode cX9_copy 108 = .ok (.ifCond .ne 6, 3) := by decide +kernel
theorem dX9_copy_111 : decode cX9_copy 111 = .ok (.bipush (-13), 2) := by decide +kernel
theorem dX9_copy_113 : decode cX9_copy 113 = .ok (.ireturn, 1) := by decide +kernel
theorem dX9_copy_114 : decode cX9_copy 114 = .ok (.iconst 0, 1) := by decide +kernel
theorem dX9_copy_115 : decode cX9_copy 115 = .ok (.istore 6, 2) := by decide +kernel
theorem dX9_copy_117 : decode cX9_copy 117 = .ok (.iload 6, 2) := by decide +kernel
theorem dX9_copy_119 : decode cX9_copy 119 = .ok (.iload 5, 2) := by decide +kernel
theorem dX9_copy_121 : decode cX9_copy 121 = .ok (.if_icmp .ge 30, 3) := by decide +kernel
theorem dX9_copy_124 : decode cX9_copy 124 = .ok (.aload_n 0, 1) := by decide +kernel
theorem dX9_copy_125 : decode cX9_copy 125 = .ok (.getfield 77, 3) := by decide +kernel
theorem dX9_copy_128 : decode cX9_copy 128 = .ok (.iload 6, 2) := by decide +kernel
theorem dX9_copy_130 : decode cX9_copy 130 = .ok (.aload_n 0, 1) := by decide +kernel
theorem dX9_copy_131 : decode cX9_copy 131 = .ok (.getfield 74, 3) := by decide +kernel
theorem dX9_copy_134 : decode cX9_copy 134 = .ok (.bipush 24, 2) := by decide +kernel
theorem dX9_copy_136 : decode cX9_copy 136 = .ok (.iload_n 1, 1) := by decide +kernel
theorem dX9_copy_137 : decode cX9_copy 137 = .ok (.imul, 1) := by decide +kernel
theorem dX9_copy_138 : decode cX9_copy 138 = .ok (.iload_n 2, 1) := by decide +kernel
theorem dX9_copy_139 : decode cX9_copy 139 = .ok (.iadd, 1) := by decide +kernel
theorem dX9_copy_140 : decode cX9_copy 140 = .ok (.iload 6, 2) := by decide +kernel
theorem dX9_copy_142 : decode cX9_copy 142 = .ok (.iadd, 1) := by decide +kernel
theorem dX9_copy_143 : decode cX9_copy 143 = .ok (.laload, 1) := by decide +kernel
theorem dX9_copy_144 : decode cX9_copy 144 = .ok (.lastore, 1) := by decide +kernel
theorem dX9_copy_145 : decode cX9_copy 145 = .ok (.iinc 6 1, 3) := by decide +kernel
theorem dX9_copy_148 : decode cX9_copy 148 = .ok (.goto (-31), 3) := by decide +kernel
theorem dX9_copy_151 : decode cX9_copy 151 = .ok (.iconst 0, 1) := by decide +kernel
theorem dX9_copy_152 : decode cX9_copy 152 = .ok (.istore 6, 2) := by decide +kernel
theorem dX9_copy_154 : decode cX9_copy 154 = .ok (.iload 6, 2) := by decide +kernel
theorem dX9_copy_156 : decode cX9_copy 156 = .ok (.iload 5, 2) := by decide +kernel
theorem dX9_copy_158 : decode cX9_copy 158 = .ok (.if_icmp .ge 31, 3) := by decide +kernel
theorem dX9_copy_161 : decode cX9_copy 161 = .ok (.aload_n 0, 1) := by decide +kernel
theorem dX9_copy_162 : decode cX9_copy 162 = .ok (.getfield 74, 3) := by decide +kernel
theorem dX9_copy_165 : decode cX9_copy 165 = .ok (.bipush 24, 2) := by decide +kernel
theorem dX9_copy_167 : decode cX9_copy 167 = .ok (.iload_n 3, 1) := by decide +kernel
theorem dX9_copy_168 : decode cX9_copy 168 = .ok (.imul, 1) := by decide +kernel
theorem dX9_copy_169 : decode cX9_copy 169 = .ok (.iload 4, 2) := by decide +kernel
theorem dX9_copy_171 : decode cX9_copy 171 = .ok (.iadd, 1) := by decide +kernel
theorem dX9_copy_172 : decode cX9_copy 172 = .ok (.iload 6, 2) := by decide +kernel
theorem dX9_copy_174 : decode cX9_copy 174 = .ok (.iadd, 1) := by decide +kernel
theorem dX9_copy_175 : decode cX9_copy 175 = .ok (.aload_n 0, 1) := by decide +kernel
theorem dX9_copy_176 : decode cX9_copy 176 = .ok (.getfield 77, 3) := by decide +kernel
theorem dX9_copy_179 : decode cX9_copy 179 = .ok (.iload 6, 2) := by decide +kernel
theorem dX9_copy_181 : decode cX9_copy 181 = .ok (.laload, 1) := by decide +kernel
theorem dX9_copy_182 : decode cX9_copy 182 = .ok (.lastore, 1) := by decide +kernel
theorem dX9_copy_183 : decode cX9_copy 183 = .ok (.iinc 6 1, 3) := by decide +kernel
theorem dX9_copy_186 : decode cX9_copy 186 = .ok (.goto (-32), 3) := by decide +kernel
theorem dX9_copy_189 : decode cX9_copy 189 = .ok (.iload 5, 2) := by decide +kernel
theorem dX9_copy_191 : decode cX9_copy 191 = .ok (.ireturn, 1) := by decide +kernel
set_option maxRecDepth 20000 in
theorem ggX9_who_X9_isSheet : GoodIn wsX9_who wsX9_isSheet := goodIn_r _ [11, 1, 12, 13, 14, 10, 15] (by decide +kernel) (by decide +kernel)
set_option maxRecDepth 20000 in
theorem gX9_who_X9_isSheet : GoodIn wsX9_who (va_wsS RX9 240 yX9_isSheet wsX9_isSheet) := goodIn_app (goodIn_of _ (by decide +kernel)) ggX9_who_X9_isSheet
set_option maxRecDepth 20000 in
theorem ggX9_who_X9_in : GoodIn wsX9_who wsX9_in := goodIn_r _ [15] (by decide +kernel) (by decide +kernel)
set_option maxRecDepth 20000 in
theorem gX9_who_X9_in : GoodIn wsX9_who (va_wsS RX9 90 yX9_in wsX9_in) := goodIn_app (goodIn_of _ (by decide +kernel)) ggX9_who_X9_in
set_option maxRecDepth 20000 in
theorem ggX9_who_X9_lacksRow : GoodIn wsX9_who wsX9_lacksRow := goodIn_r _ [19, 20, 21, 13, 14, 10, 15, 57, 58, 59, 60, 61, 62, 63, 64, 65, 66, 67, 68, 69, 70, 71, 72, 73, 74, 75, 76, 77, 78, 79, 80, 81, 82, 83, 84, 85, 86, 87] (by decide +kernel) (by decide +kernel)
set_option maxRecDepth 20000 in
theorem gX9_who_X9_lacksRow : GoodIn wsX9_who (wsV RX9 243 RX9 yX9_lacksRow wsX9_lacksRow) := goodIn_app (goodIn_of _ (by decide +kernel)) ggX9_who_X9_lacksRow
set_option maxRecDepth 20000 in
theorem ggX9_who_X9_leads : GoodIn wsX9_who wsX9_leads := goodIn_r _ [25, 3, 26, 4, 6, 27, 28, 29, 10, 30, 31, 32, 33, 34, 35, 36, 37, 38, 39, 13, 14, 15, 40, 41, 42, 43, 44, 45, 46, 47, 48, 49, 50, 51, 52, 57, 58, 59, 60, 61, 62, 63, 64, 65, 66, 67, 68, 69, 70, 71, 72, 73, 74, 75, 76, 77, 78, 79, 80, 81, 82, 83, 84, 85, 86, 87] (by decide +kernel) (by decide +kernel)
set_option maxRecDepth 20000 in
theorem gX9_who_X9_leads : GoodIn wsX9_who (wsV RX9 251 RX9 yX9_leads wsX9_leads) := goodIn_app (goodIn_of _ (by decide +kernel)) ggX9_who_X9_leads
set_option maxRecDepth 20000 in
theorem ggX9_who_X9_nextRow : GoodIn wsX9_who wsX9_nextRow := goodIn_r _ [56, 6, 57, 58, 59, 60, 61, 62, 63, 64, 65, 66, 67, 68, 69, 70, 71, 72, 73, 74, 75, 76, 77, 78, 79, 80, 81, 82, 83, 84, 85, 86, 87] (by decide +kernel) (by decide +kernel)
set_option maxRecDepth 20000 in
theorem gX9_who_X9_nextRow : GoodIn wsX9_who (wsV RX9 254 RX9 yX9_nextRow wsX9_nextRow) := goodIn_app (goodIn_of _ (by decide +kernel)) ggX9_who_X9_nextRow
theorem dX9_who_0 : decode cX9_who 0 = .ok (.iload_n 1, 1) := by decide +kernel
theorem dX9_who_1 : decode cX9_who 1 = .ok (.iload_n 2, 1) := by decide +kernel
theorem dX9_who_2 : decode cX9_who 2 = .ok (.invokestatic 240, 3) := by decide +kernel
theorem dX9_who_5 : decode cX9_who 5 = .ok (.ifCond .eq 33, 3) := by decide +kernel
theorem dX9_who_8 : decode cX9_who 8 = .ok (.iload 4, 2) := by decide +kernel
theorem dX9_who_10 : decode cX9_who 10 = .ok (.i2l, 1) := by decide +kernel
theorem dX9_who_11 : decode cX9_who 11 = .ok (.lconst 1, 1) := by decide +kernel
theorem dX9_who_12 : decode cX9_who 12 = .ok (.ldc2_w 98, 3) := by decide +kernel
theorem dX9_who_15 : decode cX9_who 15 = .ok (.invokestatic 90, 3) := by decide +kernel
theorem dX9_who_18 : decode cX9_who 18 = .ok (.ifCond .eq 20, 3) := by decide +kernel
theorem dX9_who_21 : decode cX9_who 21 = .ok (.iload 5, 2) := by decide +kernel
theorem dX9_who_23 : decode cX9_who 23 = .ok (.i2l, 1) := by decide +kernel
theorem dX9_who_24 : decode cX9_who 24 = .ok (.ldc2_w 208, 3) := by decide +kernel
theorem dX9_who_27 : decode cX9_who 27 = .ok (.iload 4, 2) := by decide +kernel
theorem dX9_who_29 : decode cX9_who 29 = .ok (.iconst 1, 1) := by decide +kernel
theorem dX9_who_30 : decode cX9_who 30 = .ok (.isub, 1) := by decide +kernel
theorem dX9_who_31 : decode cX9_who 31 = .ok (.i2l, 1) := by decide +kernel
theorem dX9_who_32 : decode cX9_who 32 = .ok (.invokestatic 90, 3) := by decide +kernel
theorem dX9_who_35 : decode cX9_who 35 = .ok (.ifCond .ne 5, 3) := by decide +kernel
theorem dX9_who_38 : decode cX9_who 38 = .ok (.iconst (-1), 1) := by decide +kernel
theorem dX9_who_39 : decode cX9_who 39 = .ok (.ireturn, 1) := by decide +kernel
theorem dX9_who_40 : decode cX9_who 40 = .ok (.aload_n 0, 1) := by decide +kernel
theorem dX9_who_41 : decode cX9_who 41 = .ok (.iload_n 1, 1) := by decide +kernel
theorem dX9_who_42 : decode cX9_who 42 = .ok (.iload_n 2, 1) := by decide +kernel
theorem dX9_who_43 : decode cX9_who 43 = .ok (.iload_n 3, 1) := by decide +kernel
theorem dX9_who_44 : decode cX9_who 44 = .ok (.iconst 2, 1) := by decide +kernel
theorem dX9_who_45 : decode cX9_who 45 = .ok (.aload_n 0, 1) := by decide +kernel
theorem dX9_who_46 : decode cX9_who 46 = .ok (.getfield 86, 3) := by decide +kernel
theorem dX9_who_49 : decode cX9_who 49 = .ok (.imul, 1) := by decide +kernel
theorem dX9_who_50 : decode cX9_who 50 = .ok (.invokevirtual 243, 3) := by decide +kernel
theorem dX9_who_53 : decode cX9_who 53 = .ok (.istore 6, 2) := by decide +kernel
theorem dX9_who_55 : decode cX9_who 55 = .ok (.iload 6, 2) := by decide +kernel
theorem dX9_who_57 : decode cX9_who 57 = .ok (.ifCond .ge 6, 3) := by decide +kernel
theorem dX9_who_60 : decode cX9_who 60 = .ok (.iload 6, 2) := by decide +kernel
theorem dX9_who_62 : decode cX9_who 62 = .ok (.ireturn, 1) := by decide +kernel
theorem dX9_who_63 : decode cX9_who 63 = .ok (.bipush 24, 2) := by decide +kernel
theorem dX9_who_65 : decode cX9_who 65 = .ok (.iload_n 1, 1) := by decide +kernel
theorem dX9_who_66 : decode cX9_who 66 = .ok (.imul, 1) := by decide +kernel
theorem dX9_who_67 : decode cX9_who 67 = .ok (.iload_n 3, 1) := by decide +kernel
theorem dX9_who_68 : decode cX9_who 68 = .ok (.iadd, 1) := by decide +kernel
theorem dX9_who_69 : decode cX9_who 69 = .ok (.istore 7, 2) := by decide +kernel
theorem dX9_who_71 : decode cX9_who 71 = .ok (.iconst 0, 1) := by decide +kernel
theorem dX9_who_72 : decode cX9_who 72 = .ok (.istore 8, 2) := by decide +kernel
theorem dX9_who_74 : decode cX9_who 74 = .ok (.iload 8, 2) := by decide +kernel
theorem dX9_who_76 : decode cX9_who 76 = .ok (.iconst 2, 1) := by decide +kernel
theorem dX9_who_77 : decode cX9_who 77 = .ok (.aload_n 0, 1) := by decide +kernel
theorem dX9_who_78 : decode cX9_who 78 = .ok (.getfield 86, 3) := by decide +kernel
theorem dX9_who_81 : decode cX9_who 81 = .ok (.imul, 1) := by decide +kernel
theorem dX9_who_82 : decode cX9_who 82 = .ok (.if_icmp .ge 32, 3) := by decide +kernel
theorem dX9_who_85 : decode cX9_who 85 = .ok (.aload_n 0, 1) := by decide +kernel
theorem dX9_who_86 : decode cX9_who 86 = .ok (.getfield 74, 3) := by decide +kernel
theorem dX9_who_89 : decode cX9_who 89 = .ok (.iload 7, 2) := by decide +kernel
theorem dX9_who_91 : decode cX9_who 91 = .ok (.iload 8, 2) := by decide +kernel
theorem dX9_who_93 : decode cX9_who 93 = .ok (.iadd, 1) := by decide +kernel
theorem dX9_who_94 : decode cX9_who 94 = .ok (.laload, 1) := by decide +kernel
theorem dX9_who_95 : decode cX9_who 95 = .ok (.lconst 0, 1) := by decide +kernel
theorem dX9_who_96 : decode cX9_who 96 = .ok (.ldc2_w 225, 3) := by decide +kernel
theorem dX9_who_99 : decode cX9_who 99 = .ok (.invokestatic 90, 3) := by decide +kernel
theorem dX9_who_102 : decode cX9_who 102 = .ok (.ifCond .ne 6, 3) := by decide +kernel
theorem dX9_who_105 : decode cX9_who 105 = .ok (.bipush (-2), 2) := by decide +kernel
theorem dX9_who_107 : decode cX9_who 107 = .ok (.ireturn, 1) := by decide +kernel
theorem dX9_who_108 : decode cX9_who 108 = .ok (.iinc 8 1, 3) := by decide +kernel
theorem dX9_who_111 : decode cX9_who 111 = .ok (.goto (-37), 3) := by decide +kernel
theorem dX9_who_114 : decode cX9_who 114 = .ok (.iconst 0, 1) := by decide +kernel
theorem dX9_who_115 : decode cX9_who 115 = .ok (.istore 8, 2) := by decide +kernel
theorem dX9_who_117 : decode cX9_who 117 = .ok (.iload 8, 2) := by decide +kernel
theorem dX9_who_119 : decode cX9_who 119 = .ok (.iconst 3, 1) := by decide +kernel
theorem dX9_who_120 : decode cX9_who 120 = .ok (.if_icmp .ge 17, 3) := by decide +kernel
theorem dX9_who_123 : decode cX9_who 123 = .ok (.aload_n 0, 1) := by decide +kernel
theorem dX9_who_124 : decode cX9_who 124 = .ok (.getfield 80, 3) := by decide +kernel
theorem dX9_who_127 : decode cX9_who 127 = .ok (.iload 8, 2) := by decide +kernel
theorem dX9_who_129 : decode cX9_who 129 = .ok (.iconst 0, 1) := by decide +kernel
theorem dX9_who_130 : decode cX9_who 130 = .ok (.iastore, 1) := by decide +kernel
theorem dX9_who_131 : decode cX9_who 131 = .ok (.iinc 8 1, 3) := by decide +kernel
theorem dX9_who_134 : decode cX9_who 134 = .ok (.goto (-17), 3) := by decide +kernel
theorem dX9_who_137 : decode cX9_who 137 = .ok (.iconst 0, 1) := by decide +kernel
theorem dX9_who_138 : decode cX9_who 138 = .ok (.istore 8, 2) := by decide +kernel
theorem dX9_who_140 : decode cX9_who 140 = .ok (.iconst 1, 1) := by decide +kernel
theorem dX9_who_141 : decode cX9_who 141 = .ok (.istore 9, 2) := by decide +kernel
theorem dX9_who_143 : decode cX9_who 143 = .ok (.iload 9, 2) := by decide +kernel
theorem dX9_who_145 : decode cX9_who 145 = .ok (.ifCond .eq 63, 3) := by decide +kernel
theorem dX9_who_148 : decode cX9_who 148 = .ok (.aload_n 0, 1) := by decide +kernel
theorem dX9_who_149 : decode cX9_who 149 = .ok (.iload 7, 2) := by decide +kernel
theorem dX9_who_151 : decode cX9_who 151 = .ok (.iload 4, 2) := by decide +kernel
theorem dX9_who_153 : decode cX9_who 153 = .ok (.invokevirtual 251, 3) := by decide +kernel
theorem dX9_who_156 : decode cX9_who 156 = .ok (.ifCond .eq 41, 3) := by decide +kernel
theorem dX9_who_159 : decode cX9_who 159 = .ok (.iconst 0, 1) := by decide +kernel
theorem dX9_who_160 : decode cX9_who 160 = .ok (.istore 10, 2) := by decide +kernel
theorem dX9_who_162 : decode cX9_who 162 = .ok (.iload 10, 2) := by decide +kernel
theorem dX9_who_164 : decode cX9_who 164 = .ok (.iload 4, 2) := by decide +kernel
theorem dX9_who_166 : decode cX9_who 166 = .ok (.if_icmp .ge 28, 3) := by decide +kernel
theorem dX9_who_169 : decode cX9_who 169 = .ok (.iload 8, 2) := by decide +kernel
theorem dX9_who_171 : decode cX9_who 171 = .ok (.ifCond .ne 23, 3) := by decide +kernel
theorem dX9_who_174 : decode cX9_who 174 = .ok (.aload_n 0, 1) := by decide +kernel
theorem dX9_who_175 : decode cX9_who 175 = .ok (.getfield 83, 3) := by decide +kernel
theorem dX9_who_178 : decode cX9_who 178 = .ok (.iload 10, 2) := by decide +kernel
theorem dX9_who_180 : decode cX9_who 180 = .ok (.aload_n 0, 1) := by decide +kernel
theorem dX9_who_181 : decode cX9_who 181 = .ok (.getfield 80, 3) := by decide +kernel
theorem dX9_who_184 : decode cX9_who 184 = .ok (.iload 10, 2) := by decide +kernel
theorem dX9_who_186 : decode cX9_who 186 = .ok (.iaload, 1) := by decide +kernel
theorem dX9_who_187 : decode cX9_who 187 = .ok (.iastore, 1) := by decide +kernel
theorem dX9_who_188 : decode cX9_who 188 = .ok (.iinc 10 1, 3) := by decide +kernel
theorem dX9_who_191 : decode cX9_who 191 = .ok (.goto (-29), 3) := by decide +kernel
theorem dX9_who_194 : decode cX9_who 194 = .ok (.iinc 8 1, 3) := by decide +kernel
theorem dX9_who_197 : decode cX9_who 197 = .ok (.aload_n 0, 1) := by decide +kernel
theorem dX9_who_198 : decode cX9_who 198 = .ok (.iload 4, 2) := by decide +kernel
theorem dX9_who_200 : decode cX9_who 200 = .ok (.invokevirtual 254, 3) := by decide +kernel
theorem dX9_who_203 : decode cX9_who 203 = .ok (.istore 9, 2) := by decide +kernel
theorem dX9_who_205 : decode cX9_who 205 = .ok (.goto (-62), 3) := by decide +kernel
theorem dX9_who_208 : decode cX9_who 208 = .ok (.iload 8, 2) := by decide +kernel
theorem dX9_who_210 : decode cX9_who 210 = .ok (.ifCond .ne 8, 3) := by decide +kernel
theorem dX9_who_213 : decode cX9_who 213 = .ok (.bipush (-4), 2) := by decide +kernel
theorem dX9_who_215 : decode cX9_who 215 = .ok (.goto 35, 3) := by decide +kernel
theorem dX9_who_218 : decode cX9_who 218 = .ok (.iload 5, 2) := by decide +kernel
theorem dX9_who_220 : decode cX9_who 220 = .ok (.ifCond .ge 8, 3) := by decide +kernel
theorem dX9_who_223 : decode cX9_who 223 = .ok (.iload 8, 2) := by decide +kernel
theorem dX9_who_225 : decode cX9_who 225 = .ok (.goto 25, 3) := by decide +kernel
theorem dX9_who_228 : decode cX9_who 228 = .ok (.bipush 10, 2) := by decide +kernel
theorem dX9_who_230 : decode cX9_who 230 = .ok (.aload_n 0, 1) := by decide +kernel
theorem dX9_who_231 : decode cX9_who 231 = .ok (.getfield 83, 3) := by decide +kernel
theorem dX9_who_234 : decode cX9_who 234 = .ok (.iload 5, 2) := by decide +kernel
theorem dX9_who_236 : decode cX9_who 236 = .ok (.iaload, 1) := by decide +kernel
theorem dX9_who_237 : decode cX9_who 237 = .ok (.iconst 5, 1) := by decide +kernel
theorem dX9_who_238 : decode cX9_who 238 = .ok (.idiv, 1) := by decide +kernel
theorem dX9_who_239 : decode cX9_who 239 = .ok (.imul, 1) := by decide +kernel
theorem dX9_who_240 : decode cX9_who 240 = .ok (.aload_n 0, 1) := by decide +kernel
theorem dX9_who_241 : decode cX9_who 241 = .ok (.getfield 83, 3) := by decide +kernel
theorem dX9_who_244 : decode cX9_who 244 = .ok (.iload 5, 2) := by decide +kernel
theorem dX9_who_246 : decode cX9_who 246 = .ok (.iaload, 1) := by decide +kernel
theorem dX9_who_247 : decode cX9_who 247 = .ok (.iconst 5, 1) := by decide +kernel
theorem dX9_who_248 : decode cX9_who 248 = .ok (.irem, 1) := by decide +kernel
theorem dX9_who_249 : decode cX9_who 249 = .ok (.iadd, 1) := by decide +kernel
theorem dX9_who_250 : decode cX9_who 250 = .ok (.ireturn, 1) := by decide +kernel
theorem dJ6_bitCount_0f7a4_0 : decode cJ6_bitCount_0f7a4 0 = .ok (.iload_n 0, 1) := by decide +kernel
theorem dJ6_bitCount_0f7a4_1 : decode cJ6_bitCount_0f7a4 1 = .ok (.iload_n 0, 1) := by decide +kernel
theorem dJ6_bitCount_0f7a4_2 : decode cJ6_bitCount_0f7a4 2 = .ok (.iconst 1, 1) := by decide +kernel
theorem dJ6_bitCount_0f7a4_3 : decode cJ6_bitCount_0f7a4 3 = .ok (.iushr, 1) := by decide +kernel
theorem dJ6_bitCount_0f7a4_4 : decode cJ6_bitCount_0f7a4 4 = .ok (.ldc_w 265, 3) := by decide +kernel
theorem dJ6_bitCount_0f7a4_7 : decode cJ6_bitCount_0f7a4 7 = .ok (.iand, 1) := by decide +kernel
theorem dJ6_bitCount_0f7a4_8 : decode cJ6_bitCount_0f7a4 8 = .ok (.isub, 1) := by decide +kernel
theorem dJ6_bitCount_0f7a4_9 : decode cJ6_bitCount_0f7a4 9 = .ok (.istore_n 0, 1) := by decide +kernel
theorem dJ6_bitCount_0f7a4_10 : decode cJ6_bitCount_0f7a4 10 = .ok (.iload_n 0, 1) := by decide +kernel
theorem dJ6_bitCount_0f7a4_11 : decode cJ6_bitCount_0f7a4 11 = .ok (.ldc_w 266, 3) := by decide +kernel
theorem dJ6_bitCount_0f7a4_14 : decode cJ6_bitCount_0f7a4 14 = .ok (.iand, 1) := by decide +kernel
theorem dJ6_bitCount_0f7a4_15 : decode cJ6_bitCount_0f7a4 15 = .ok (.iload_n 0, 1) := by decide +kernel
theorem dJ6_bitCount_0f7a4_16 : decode cJ6_bitCount_0f7a4 16 = .ok (.iconst 2, 1) := by decide +kernel
theorem dJ6_bitCount_0f7a4_17 : decode cJ6_bitCount_0f7a4 17 = .ok (.iushr, 1) := by decide +kernel
theorem dJ6_bitCount_0f7a4_18 : decode cJ6_bitCount_0f7a4 18 = .ok (.ldc_w 266, 3) := by decide +kernel
theorem dJ6_bitCount_0f7a4_21 : decode cJ6_bitCount_0f7a4 21 = .ok (.iand, 1) := by decide +kernel
theorem dJ6_bitCount_0f7a4_22 : decode cJ6_bitCount_0f7a4 22 = .ok (.iadd, 1) := by decide +kernel
theorem dJ6_bitCount_0f7a4_23 : decode cJ6_bitCount_0f7a4 23 = .ok (.istore_n 0, 1) := by decide +kernel
theorem dJ6_bitCount_0f7a4_24 : decode cJ6_bitCount_0f7a4 24 = .ok (.iload_n 0, 1) := by decide +kernel
theorem dJ6_bitCount_0f7a4_25 : decode cJ6_bitCount_0f7a4 25 = .ok (.iload_n 0, 1) := by decide +kernel
theorem dJ6_bitCount_0f7a4_26 : decode cJ6_bitCount_0f7a4 26 = .ok (.iconst 4, 1) := by decide +kernel
theorem dJ6_bitCount_0f7a4_27 : decode cJ6_bitCount_0f7a4 27 = .ok (.iushr, 1) := by decide +kernel
theorem dJ6_bitCount_0f7a4_28 : decode cJ6_bitCount_0f7a4 28 = .ok (.iadd, 1) := by decide +kernel
theorem dJ6_bitCount_0f7a4_29 : decode cJ6_bitCount_0f7a4 29 = .ok (.ldc_w 267, 3) := by decide +kernel
theorem dJ6_bitCount_0f7a4_32 : decode cJ6_bitCount_0f7a4 32 = .ok (.iand, 1) := by decide +kernel
theorem dJ6_bitCount_0f7a4_33 : decode cJ6_bitCount_0f7a4 33 = .ok (.istore_n 0, 1) := by decide +kernel
theorem dJ6_bitCount_0f7a4_34 : decode cJ6_bitCount_0f7a4 34 = .ok (.iload_n 0, 1) := by decide +kernel
theorem dJ6_bitCount_0f7a4_35 : decode cJ6_bitCount_0f7a4 35 = .ok (.iload_n 0, 1) := by decide +kernel
theorem dJ6_bitCount_0f7a4_36 : decode cJ6_bitCount_0f7a4 36 = .ok (.bipush 8, 2) := by decide +kernel
theorem dJ6_bitCount_0f7a4_38 : decode cJ6_bitCount_0f7a4 38 = .ok (.iushr, 1) := by decide +kernel
theorem dJ6_bitCount_0f7a4_39 : decode cJ6_bitCount_0f7a4 39 = .ok (.iadd, 1) := by decide +kernel
theorem dJ6_bitCount_0f7a4_40 : decode cJ6_bitCount_0f7a4 40 = .ok (.istore_n 0, 1) := by decide +kernel
theorem dJ6_bitCount_0f7a4_41 : decode cJ6_bitCount_0f7a4 41 = .ok (.iload_n 0, 1) := by decide +kernel
theorem dJ6_bitCount_0f7a4_42 : decode cJ6_bitCount_0f7a4 42 = .ok (.iload_n 0, 1) := by decide +kernel
theorem dJ6_bitCount_0f7a4_43 : decode cJ6_bitCount_0f7a4 43 = .ok (.bipush 16, 2) := by decide +kernel
theorem dJ6_bitCount_0f7a4_45 : decode cJ6_bitCount_0f7a4 45 = .ok (.iushr, 1) := by decide +kernel
theorem dJ6_bitCount_0f7a4_46 : decode cJ6_bitCount_0f7a4 46 = .ok (.iadd, 1) := by decide +kernel
theorem dJ6_bitCount_0f7a4_47 : decode cJ6_bitCount_0f7a4 47 = .ok (.istore_n 0, 1) := by decide +kernel
theorem dJ6_bitCount_0f7a4_48 : decode cJ6_bitCount_0f7a4 48 = .ok (.iload_n 0, 1) := by decide +kernel
theorem dJ6_bitCount_0f7a4_49 : decode cJ6_bitCount_0f7a4 49 = .ok (.bipush 63, 2) := by decide +kernel
theorem dJ6_bitCount_0f7a4_51 : decode cJ6_bitCount_0f7a4 51 = .ok (.iand, 1) := by decide +kernel
theorem dJ6_bitCount_0f7a4_52 : decode cJ6_bitCount_0f7a4 52 = .ok (.ireturn, 1) := by decide +kernel
set_option maxRecDepth 20000 in
theorem ggJ0_length_8abf5_J0_coder_7d493 : GoodIn wsJ0_length_8abf5 wsJ0_coder_7d493 := goodIn_r _ [6, 7, 8] (by decide +kernel) (by decide +kernel)
set_option maxRecDepth 20000 in
theorem gJ0_length_8abf5_J0_coder_7d493 : GoodIn wsJ0_length_8abf5 (wsV RJ0 335 RJ0 yJ0_coder_7d493 wsJ0_coder_7d493) := goodIn_app (goodIn_of _ (by decide +kernel)) ggJ0_length_8abf5_J0_coder_7d493
theorem dJ0_length_8abf5_0 : decode cJ0_length_8abf5 0 = .ok (.aload_n 0, 1) := by decide +kernel
theorem dJ0_length_8abf5_1 : decode cJ0_length_8abf5 1 = .ok (.getfield 9, 3) := by decide +kernel
theorem dJ0_length_8abf5_4 : decode cJ0_length_8abf5 4 = .ok (.arraylength, 1) := by decide +kernel
theorem dJ0_length_8abf5_5 : decode cJ0_length_8abf5 5 = .ok (.aload_n 0, 1) := by decide +kernel
theorem dJ0_length_8abf5_6 : decode cJ0_length_8abf5 6 = .ok (.invokevirtual 335, 3) := by decide +kernel
theorem dJ0_length_8abf5_9 : decode cJ0_length_8abf5 9 = .ok (.ishr, 1) := by decide +kernel
theorem dJ0_length_8abf5_10 : decode cJ0_length_8abf5 10 = .ok (.ireturn, 1) := by decide +kernel
set_option maxRecDepth 20000 in
theorem ggJ0_indexOf_0f7a4_J0_indexOf_7cf53 : GoodIn wsJ0_indexOf_0f7a4 wsJ0_indexOf_7cf53 := goodIn_r _ [5, 6, 7, 8, 9, 4, 10, 11, 12, 13, 14, 15, 16, 17, 18, 19, 20, 21, 22, 23, 24, 25, 26, 27, 28, 29, 30, 31, 32, 33, 34, 35, 36, 37, 38, 39, 40, 41, 42, 43, 44, 45, 46, 47, 48, 49, 50, 51, 52, 53, 54, 55, 56, 57, 58, 59, 60, 61, 62, 63, 64, 65, 66, 67, 68, 69, 70, 71, 72, 73, 74, 75, 76, 77, 78, 79, 80, 81, 82, 83, 84, 85] (by decide +kernel) (by decide +kernel)
set_option maxRecDepth 20000 in
theorem gJ0_indexOf_0f7a4_J0_indexOf_7cf53 : GoodIn wsJ0_indexOf_0f7a4 (wsV RJ0 633 RJ0 yJ0_indexOf_7cf53 wsJ0_indexOf_7cf53) := goodIn_app (goodIn_of _ (by decide +kernel)) ggJ0_indexOf_0f7a4_J0_indexOf_7cf53
theorem dJ0_indexOf_0f7a4_0 : decode cJ0_indexOf_0f7a4 0 = .ok (.aload_n 0, 1) := by decide +kernel
theorem dJ0_indexOf_0f7a4_1 : decode cJ0_indexOf_0f7a4 1 = .ok (.iload_n 1, 1) := by decide +kernel
theorem dJ0_indexOf_0f7a4_2 : decode cJ0_indexOf_0f7a4 2 = .ok (.iconst 0, 1) := by decide +kernel
theorem dJ0_indexOf_0f7a4_3 : decode cJ0_indexOf_0f7a4 3 = .ok (.invokevirtual 633, 3) := by decide +kernel
theorem dJ0_indexOf_0f7a4_6 : decode cJ0_indexOf_0f7a4 6 = .ok (.ireturn, 1) := by decide +kernel
set_option maxRecDepth 20000 in
theorem ggJ0_indexOf_7cf53_J0_isLatin1_aae02 : GoodIn wsJ0_indexOf_7cf53 wsJ0_isLatin1_aae02 := goodIn_r _ [6, 7, 8] (by decide +kernel) (by decide +kernel)
set_option maxRecDepth 20000 in
theorem gJ0_indexOf_7cf53_J0_isLatin1_aae02 : GoodIn wsJ0_indexOf_7cf53 (wsV RJ0 492 RJ0 yJ0_isLatin1_aae02 wsJ0_isLatin1_aae02) := goodIn_app (goodIn_of _ (by decide +kernel)) ggJ0_indexOf_7cf53_J0_isLatin1_aae02
set_option maxRecDepth 20000 in
theorem ggJ0_indexOf_7cf53_J0_length_8abf5 : GoodIn wsJ0_indexOf_7cf53 wsJ0_length_8abf5 := goodIn_r _ [12, 1, 13, 14, 15, 5, 16, 7, 8] (by decide +kernel) (by decide +kernel)
set_option maxRecDepth 20000 in
theorem gJ0_indexOf_7cf53_J0_length_8abf5 : GoodIn wsJ0_indexOf_7cf53 (wsV RJ0 505 RJ0 yJ0_length_8abf5 wsJ0_length_8abf5) := goodIn_app (goodIn_of _ (by decide +kernel)) ggJ0_indexOf_7cf53_J0_length_8abf5
set_option maxRecDepth 20000 in
theorem ggJ0_indexOf_7cf53_J1_indexOf_4cfef : GoodIn wsJ0_indexOf_7cf53 wsJ1_indexOf_4cfef := goodIn_r _ [20, 21, 22, 23, 24, 25, 26, 27, 28, 29, 19, 30, 31, 32, 33] (by decide +kernel) (by decide +kernel)
set_option maxRecDepth 20000 in
theorem gJ0_indexOf_7cf53_J1_indexOf_4cfef : GoodIn wsJ0_indexOf_7cf53 (va_wsS RJ0 637 yJ1_indexOf_4cfef wsJ1_indexOf_4cfef) := goodIn_app (goodIn_of _ (by decide +kernel)) ggJ0_indexOf_7cf53_J1_indexOf_4cfef
set_option maxRecDepth 20000 in
theorem ggJ0_indexOf_7cf53_J2_indexOf_4cfef : GoodIn wsJ0_indexOf_7cf53 wsJ2_indexOf_4cfef := goodIn_r _ [37, 38, 22, 23, 24, 39, 26, 27, 40, 41, 42, 36, 43, 44, 45, 46, 47, 48, 49, 50, 51, 5, 52, 53, 54, 55, 56, 57, 58, 59, 60, 61, 62, 63, 64, 65, 66, 67, 68, 69, 70, 71, 72, 73, 74, 75, 76, 77, 78, 79, 80, 81] (by decide +kernel) (by decide +kernel)
set_option maxRecDepth 20000 in
theorem gJ0_indexOf_7cf53_J2_indexOf_4cfef : GoodIn wsJ0_indexOf_7cf53 (va_wsS RJ0 640 yJ2_indexOf_4cfef wsJ2_indexOf_4cfef) := goodIn_app (goodIn_of _ (by decide +kernel)) ggJ0_indexOf_7cf53_J2_indexOf_4cfef
theorem dJ0_indexOf_7cf53_0 : decode cJ0_indexOf_7cf53 0 = .ok (.aload_n 0, 1) := by decide +kernel
theorem dJ0_indexOf_7cf53_1 : decode cJ0_indexOf_7cf53 1 = .ok (.invokevirtual 492, 3) := by decide +kernel
theorem dJ0_indexOf_7cf53_4 : decode cJ0_indexOf_7cf53 4 = .ok (.ifCond .eq 19, 3) := by decide +kernel
theorem dJ0_indexOf_7cf53_7 : decode cJ0_indexOf_7cf53 7 = .ok (.aload_n 0, 1) := by decide +kernel
theorem dJ0_indexOf_7cf53_8 : decode cJ0_indexOf_7cf53 8 = .ok (.getfield 9, 3) := by decide +kernel
theorem dJ0_indexOf_7cf53_11 : decode cJ0_indexOf_7cf53 11 = .ok (.iload_n 1, 1) := by decide +kernel
theorem dJ0_indexOf_7cf53_12 : decode cJ0_indexOf_7cf53 12 = .ok (.iload_n 2, 1) := by decide +kernel
theorem dJ0_indexOf_7cf53_13 : decode cJ0_indexOf_7cf53 13 = .ok (.aload_n 0, 1) := by decide +kernel
theorem dJ0_indexOf_7cf53_14 : decode cJ0_indexOf_7cf53 14 = .ok (.invokevirtual 505, 3) := by decide +kernel
theorem dJ0_indexOf_7cf53_17 : decode cJ0_indexOf_7cf53 17 = .ok (.invokestatic 637, 3) := by decide +kernel
theorem dJ0_indexOf_7cf53_20 : decode cJ0_indexOf_7cf53 20 = .ok (.goto 16, 3) := by decide +kernel
theorem dJ0_indexOf_7cf53_23 : decode cJ0_indexOf_7cf53 23 = .ok (.aload_n 0, 1) := by decide +kernel
theorem dJ0_indexOf_7cf53_24 : decode cJ0_indexOf_7cf53 24 = .ok (.getfield 9, 3) := by decide +kernel
theorem dJ0_indexOf_7cf53_27 : decode cJ0_indexOf_7cf53 27 = .ok (.iload_n 1, 1) := by decide +kernel
theorem dJ0_indexOf_7cf53_28 : decode cJ0_indexOf_7cf53 28 = .ok (.iload_n 2, 1) := by decide +kernel
theorem dJ0_indexOf_7cf53_29 : decode cJ0_indexOf_7cf53 29 = .ok (.aload_n 0, 1) := by decide +kernel
theorem dJ0_indexOf_7cf53_30 : decode cJ0_indexOf_7cf53 30 = .ok (.invokevirtual 505, 3) := by decide +kernel
theorem dJ0_indexOf_7cf53_33 : decode cJ0_indexOf_7cf53 33 = .ok (.invokestatic 640, 3) := by decide +kernel
theorem dJ0_indexOf_7cf53_36 : decode cJ0_indexOf_7cf53 36 = .ok (.ireturn, 1) := by decide +kernel
theorem dJ0_coder_7d493_0 : decode cJ0_coder_7d493 0 = .ok (.getstatic 38, 3) := by decide +kernel
theorem dJ0_coder_7d493_3 : decode cJ0_coder_7d493 3 = .ok (.ifCond .eq 10, 3) := by decide +kernel
theorem dJ0_coder_7d493_6 : decode cJ0_coder_7d493 6 = .ok (.aload_n 0, 1) := by decide +kernel
theorem dJ0_coder_7d493_7 : decode cJ0_coder_7d493 7 = .ok (.getfield 15, 3) := by decide +kernel
theorem dJ0_coder_7d493_10 : decode cJ0_coder_7d493 10 = .ok (.goto 4, 3) := by decide +kernel
theorem dJ0_coder_7d493_13 : decode cJ0_coder_7d493 13 = .ok (.iconst 1, 1) := by decide +kernel
theorem dJ0_coder_7d493_14 : decode cJ0_coder_7d493 14 = .ok (.ireturn, 1) := by decide +kernel
theorem dJ0_isLatin1_aae02_0 : decode cJ0_isLatin1_aae02 0 = .ok (.getstatic 38, 3) := by decide +kernel
theorem dJ0_isLatin1_aae02_3 : decode cJ0_isLatin1_aae02 3 = .ok (.ifCond .eq 14, 3) := by decide +kernel
theorem dJ0_isLatin1_aae02_6 : decode cJ0_isLatin1_aae02 6 = .ok (.aload_n 0, 1) := by decide +kernel
theorem dJ0_isLatin1_aae02_7 : decode cJ0_isLatin1_aae02 7 = .ok (.getfield 15, 3) := by decide +kernel
theorem dJ0_isLatin1_aae02_10 : decode cJ0_isLatin1_aae02 10 = .ok (.ifCond .ne 7, 3) := by decide +kernel
theorem dJ0_isLatin1_aae02_13 : decode cJ0_isLatin1_aae02 13 = .ok (.iconst 1, 1) := by decide +kernel
theorem dJ0_isLatin1_aae02_14 : decode cJ0_isLatin1_aae02 14 = .ok (.goto 4, 3) := by decide +kernel
theorem dJ0_isLatin1_aae02_17 : decode cJ0_isLatin1_aae02 17 = .ok (.iconst 0, 1) := by decide +kernel
theorem dJ0_isLatin1_aae02_18 : decode cJ0_isLatin1_aae02 18 = .ok (.ireturn, 1) := by decide +kernel
theorem dJ1_canEncode_9a6ad_0 : decode cJ1_canEncode_9a6ad 0 = .ok (.iload_n 0, 1) := by decide +kernel
theorem dJ1_canEncode_9a6ad_1 : decode cJ1_canEncode_9a6ad 1 = .ok (.ifCond .lt 14, 3) := by decide +kernel
theorem dJ1_canEncode_9a6ad_4 : decode cJ1_canEncode_9a6ad 4 = .ok (.iload_n 0, 1) := by decide +kernel
theorem dJ1_canEncode_9a6ad_5 : decode cJ1_canEncode_9a6ad 5 = .ok (.sipush 255, 3) := by decide +kernel
theorem dJ1_canEncode_9a6ad_8 : decode cJ1_canEncode_9a6ad 8 = .ok (.if_icmp .gt 7, 3) := by decide +kernel
theorem dJ1_canEncode_9a6ad_11 : decode cJ1_canEncode_9a6ad 11 = .ok (.iconst 1, 1) := by decide +kernel
theorem dJ1_canEncode_9a6ad_12 : decode cJ1_canEncode_9a6ad 12 = .ok (.goto 4, 3) := by decide +kernel
theorem dJ1_canEncode_9a6ad_15 : decode cJ1_canEncode_9a6ad 15 = .ok (.iconst 0, 1) := by decide +kernel
theorem dJ1_canEncode_9a6ad_16 : decode cJ1_canEncode_9a6ad 16 = .ok (.ireturn, 1) := by decide +kernel
set_option maxRecDepth 20000 in
theorem ggJ1_indexOf_4cfef_J1_canEncode_9a6ad : GoodIn wsJ1_indexOf_4cfef wsJ1_canEncode_9a6ad := goodIn_r _ [11] (by decide +kernel) (by decide +kernel)
set_option maxRecDepth 20000 in
theorem gJ1_indexOf_4cfef_J1_canEncode_9a6ad : GoodIn wsJ1_indexOf_4cfef (va_wsS RJ1 88 yJ1_canEncode_9a6ad wsJ1_canEncode_9a6ad) := goodIn_app (goodIn_of _ (by decide +kernel)) ggJ1_indexOf_4cfef_J1_canEncode_9a6ad
set_option maxRecDepth 20000 in
theorem ggJ1_indexOf_4cfef_J1_indexOfChar_4cfef : GoodIn wsJ1_indexOf_4cfef wsJ1_indexOfChar_4cfef := goodIn_r _ [14] (by decide +kernel) (by decide +kernel)
set_option maxRecDepth 20000 in
theorem gJ1_indexOf_4cfef_J1_indexOfChar_4cfef : GoodIn wsJ1_indexOf_4cfef (va_wsS RJ1 95 yJ1_indexOfChar_4cfef wsJ1_indexOfChar_4cfef) := goodIn_app (goodIn_of _ (by decide +kernel)) ggJ1_indexOf_4cfef_J1_indexOfChar_4cfef
theorem dJ1_indexOf_4cfef_0 : decode cJ1_indexOf_4cfef 0 = .ok (.iload_n 1, 1) := by decide +kernel
theorem dJ1_indexOf_4cfef_1 : decode cJ1_indexOf_4cfef 1 = .ok (.invokestatic 88, 3) := by decide +kernel
theorem dJ1_indexOf_4cfef_4 : decode cJ1_indexOf_4cfef 4 = .ok (.ifCond .ne 5, 3) := by decide +kernel
theorem dJ1_indexOf_4cfef_7 : decode cJ1_indexOf_4cfef 7 = .ok (.iconst (-1), 1) := by decide +kernel
theorem dJ1_indexOf_4cfef_8 : decode cJ1_indexOf_4cfef 8 = .ok (.ireturn, 1) := by decide +kernel
theorem dJ1_indexOf_4cfef_9 : decode cJ1_indexOf_4cfef 9 = .ok (.iload_n 2, 1) := by decide +kernel
theorem dJ1_indexOf_4cfef_10 : decode cJ1_indexOf_4cfef 10 = .ok (.iconst 0, 1) := by decide +kernel
theorem dJ1_indexOf_4cfef_11 : decode cJ1_indexOf_4cfef 11 = .ok (.invokestatic 92, 3) := by decide +kernel
theorem dJ1_indexOf_4cfef_14 : decode cJ1_indexOf_4cfef 14 = .ok (.istore_n 2, 1) := by decide +kernel
theorem dJ1_indexOf_4cfef_15 : decode cJ1_indexOf_4cfef 15 = .ok (.iload_n 3, 1) := by decide +kernel
theorem dJ1_indexOf_4cfef_16 : decode cJ1_indexOf_4cfef 16 = .ok (.aload_n 0, 1) := by decide +kernel
theorem dJ1_indexOf_4cfef_17 : decode cJ1_indexOf_4cfef 17 = .ok (.arraylength, 1) := by decide +kernel
theorem dJ1_indexOf_4cfef_18 : decode cJ1_indexOf_4cfef 18 = .ok (.invokestatic 38, 3) := by decide +kernel
theorem dJ1_indexOf_4cfef_21 : decode cJ1_indexOf_4cfef 21 = .ok (.istore_n 3, 1) := by decide +kernel
theorem dJ1_indexOf_4cfef_22 : decode cJ1_indexOf_4cfef 22 = .ok (.iload_n 2, 1) := by decide +kernel
theorem dJ1_indexOf_4cfef_23 : decode cJ1_indexOf_4cfef 23 = .ok (.iload_n 3, 1) := by decide +kernel
theorem dJ1_indexOf_4cfef_24 : decode cJ1_indexOf_4cfef 24 = .ok (.if_icmp .lt 5, 3) := by decide +kernel
theorem dJ1_indexOf_4cfef_27 : decode cJ1_indexOf_4cfef 27 = .ok (.iconst (-1), 1) := by decide +kernel
theorem dJ1_indexOf_4cfef_28 : decode cJ1_indexOf_4cfef 28 = .ok (.ireturn, 1) := by decide +kernel
theorem dJ1_indexOf_4cfef_29 : decode cJ1_indexOf_4cfef 29 = .ok (.aload_n 0, 1) := by decide +kernel
theorem dJ1_indexOf_4cfef_30 : decode cJ1_indexOf_4cfef 30 = .ok (.iload_n 1, 1) := by decide +kernel
theorem dJ1_indexOf_4cfef_31 : decode cJ1_indexOf_4cfef 31 = .ok (.iload_n 2, 1) := by decide +kernel
theorem dJ1_indexOf_4cfef_32 : decode cJ1_indexOf_4cfef 32 = .ok (.iload_n 3, 1) := by decide +kernel
theorem dJ1_indexOf_4cfef_33 : decode cJ1_indexOf_4cfef 33 = .ok (.invokestatic 95, 3) := by decide +kernel
theorem dJ1_indexOf_4cfef_36 : decode cJ1_indexOf_4cfef 36 = .ok (.ireturn, 1) := by decide +kernel
theorem dJ1_indexOfChar_4cfef_0 : decode cJ1_indexOfChar_4cfef 0 = .ok (.iload_n 1, 1) := by decide +kernel
theorem dJ1_indexOfChar_4cfef_1 : decode cJ1_indexOfChar_4cfef 1 = .ok (.i2b, 1) := by decide +kernel
theorem dJ1_indexOfChar_4cfef_2 : decode cJ1_indexOfChar_4cfef 2 = .ok (.istore 4, 2) := by decide +kernel
theorem dJ1_indexOfChar_4cfef_4 : decode cJ1_indexOfChar_4cfef 4 = .ok (.iload_n 2, 1) := by decide +kernel
theorem dJ1_indexOfChar_4cfef_5 : decode cJ1_indexOfChar_4cfef 5 = .ok (.istore 5, 2) := by decide +kernel
theorem dJ1_indexOfChar_4cfef_7 : decode cJ1_indexOfChar_4cfef 7 = .ok (.iload 5, 2) := by decide +kernel
theorem dJ1_indexOfChar_4cfef_9 : decode cJ1_indexOfChar_4cfef 9 = .ok (.iload_n 3, 1) := by decide +kernel
theorem dJ1_indexOfChar_4cfef_10 : decode cJ1_indexOfChar_4cfef 10 = .ok (.if_icmp .ge 21, 3) := by decide +kernel
theorem dJ1_indexOfChar_4cfef_13 : decode cJ1_indexOfChar_4cfef 13 = .ok (.aload_n 0, 1) := by decide +kernel
theorem dJ1_indexOfChar_4cfef_14 : decode cJ1_indexOfChar_4cfef 14 = .ok (.iload 5, 2) := by decide +kernel
theorem dJ1_indexOfChar_4cfef_16 : decode cJ1_indexOfChar_4cfef 16 = .ok (.baload, 1) := by decide +kernel
theorem dJ1_indexOfChar_4cfef_17 : decode cJ1_indexOfChar_4cfef 17 = .ok (.iload 4, 2) := by decide +kernel
theorem dJ1_indexOfChar_4cfef_19 : decode cJ1_indexOfChar_4cfef 19 = .ok (.if_icmp .ne 6, 3) := by decide +kernel
theorem dJ1_indexOfChar_4cfef_22 : decode cJ1_indexOfChar_4cfef 22 = .ok (.iload 5, 2) := by decide +kernel
theorem dJ1_indexOfChar_4cfef_24 : decode cJ1_indexOfChar_4cfef 24 = .ok (.ireturn, 1) := by decide +kernel
theorem dJ1_indexOfChar_4cfef_25 : decode cJ1_indexOfChar_4cfef 25 = .ok (.iinc 5 1, 3) := by decide +kernel
theorem dJ1_indexOfChar_4cfef_28 : decode cJ1_indexOfChar_4cfef 28 = .ok (.goto (-21), 3) := by decide +kernel
theorem dJ1_indexOfChar_4cfef_31 : decode cJ1_indexOfChar_4cfef 31 = .ok (.iconst (-1), 1) := by decide +kernel
theorem dJ1_indexOfChar_4cfef_32 : decode cJ1_indexOfChar_4cfef 32 = .ok (.ireturn, 1) := by decide +kernel
end
section
/-! what is the same for every contract: the classes' numbers (Z.1), the array classes (Z.2), the nest's words (gN) -/
abbrev gZ : Type := va_G × (Nat → ClassId)
abbrev gT (Z : gZ) : List (ClassId × FieldType) := [(Z.2 0, .int), (Z.2 1, .char), (Z.2 2, .long), (Z.2 3, .object "HalfAsked$Folk"), (Z.2 4, .object "HalfAsked$Sheet"), (Z.2 5, .array .int)]
theorem z_AOA {t : FieldType} {u U : State} (hvm : u.vm.Alike U.vm) (h : va_AOA t u) : va_AOA t U := arrayOver_alikeB hvm h
def gN (_ : gZ) (U : State) : Prop := va_Nw (.methodLinkNest RX8 9 yX0_init "HalfAsked") U ∧ va_Nw (.methodLinkNest RX8 18 yX2_init "HalfAsked") U ∧ va_Nw (.methodLinkNest RX8 25 yX5_init "HalfAsked") U ∧ va_Nw (.methodLinkNest RX8 58 yX6_init "HalfAsked") U ∧ va_Nw (.methodLinkNest RX8 65 yX7_init "HalfAsked") U ∧ va_Nw (.methodLinkNest RX8 72 yX1_init "HalfAsked") U ∧ va_Nw (.methodLinkNest RX8 79 yX3_init "HalfAsked") U ∧ va_Nw (.methodLinkNest RX1 33 yX2_init "HalfAsked") U ∧ va_Nw (.methodLinkNest RX6 23 yX2_init "HalfAsked") U ∧ va_AO "HalfAsked$Folk" U ∧ va_AO "HalfAsked$Sheet" U ∧ va_AOA .int U
theorem z_N {Z : gZ} {s U : State} (hW : s.WarmedH U.vm) (h : gN Z s) : gN Z U := by
  obtain ⟨h1, h2, h3, h4, h5, h6, h7, h8, h9, h10, h11, h12⟩ := h
  exact ⟨h1.warmM hW, h2.warmM hW, h3.warmM hW, h4.warmM hW, h5.warmM hW, h6.warmM hW, h7.warmM hW, h8.warmM hW, h9.warmM hW, h10.moved hW.alike, h11.moved hW.alike, z_AOA hW.alike h12⟩
theorem z_Nc {Z : gZ} {u U : State} (e : u.vm = U.vm) (h : gN Z u) : gN Z U := by
  obtain ⟨h1, h2, h3, h4, h5, h6, h7, h8, h9, h10, h11, h12⟩ := h
  have ha : u.vm.Alike U.vm := e ▸ Vm.Alike.refl u.vm
  exact ⟨h1.same rfl e, h2.same rfl e, h3.same rfl e, h4.same rfl e, h5.same rfl e, h6.same rfl e, h7.same rfl e, h8.same rfl e, h9.same rfl e, h10.moved ha, h11.moved ha, z_AOA ha h12⟩
theorem z_nest_X8_9 {Z : gZ} {s : State} (h : gN Z s) : va_Nw (.methodLinkNest RX8 9 yX0_init "HalfAsked") s := h.1
theorem z_nest_X8_18 {Z : gZ} {s : State} (h : gN Z s) : va_Nw (.methodLinkNest RX8 18 yX2_init "HalfAsked") s := h.2.1
theorem z_nest_X8_25 {Z : gZ} {s : State} (h : gN Z s) : va_Nw (.methodLinkNest RX8 25 yX5_init "HalfAsked") s := h.2.2.1
theorem z_nest_X8_58 {Z : gZ} {s : State} (h : gN Z s) : va_Nw (.methodLinkNest RX8 58 yX6_init "HalfAsked") s := h.2.2.2.1
theorem z_nest_X8_65 {Z : gZ} {s : State} (h : gN Z s) : va_Nw (.methodLinkNest RX8 65 yX7_init "HalfAsked") s := h.2.2.2.2.1
theorem z_nest_X8_72 {Z : gZ} {s : State} (h : gN Z s) : va_Nw (.methodLinkNest RX8 72 yX1_init "HalfAsked") s := h.2.2.2.2.2.1
theorem z_nest_X8_79 {Z : gZ} {s : State} (h : gN Z s) : va_Nw (.methodLinkNest RX8 79 yX3_init "HalfAsked") s := h.2.2.2.2.2.2.1
theorem z_nest_X1_33 {Z : gZ} {s : State} (h : gN Z s) : va_Nw (.methodLinkNest RX1 33 yX2_init "HalfAsked") s := h.2.2.2.2.2.2.2.1
theorem z_nest_X6_23 {Z : gZ} {s : State} (h : gN Z s) : va_Nw (.methodLinkNest RX6 23 yX2_init "HalfAsked") s := h.2.2.2.2.2.2.2.2.1
theorem z_AOF {Z : gZ} {s : State} (h : gN Z s) : va_AO "HalfAsked$Folk" s := h.2.2.2.2.2.2.2.2.2.1
theorem z_AOS {Z : gZ} {s : State} (h : gN Z s) : va_AO "HalfAsked$Sheet" s := h.2.2.2.2.2.2.2.2.2.2.1
theorem z_AOI {Z : gZ} {s : State} (h : gN Z s) : va_AOA .int s := h.2.2.2.2.2.2.2.2.2.2.2
theorem z_in {i : Int32} {n : Nat} (h : 0 ≤ i.toInt ∧ i.toInt < n) : vp_in i n := vp_in_iff.mpr h
theorem z_out5 {x : Int32} (h0 : ¬ x = 0) (h1 : ¬ x = 1) (h2 : ¬ x = 2) (h3 : ¬ x = 3) (h4 : ¬ x = 4) : x.toInt < 0 ∨ 4 < x.toInt := by
  have a0 : ¬ x.toInt = 0 := fun e => h0 (Int32.toInt_inj.mp (e.trans (by decide)))
  have a1 : ¬ x.toInt = 1 := fun e => h1 (Int32.toInt_inj.mp (e.trans (by decide)))
  have a2 : ¬ x.toInt = 2 := fun e => h2 (Int32.toInt_inj.mp (e.trans (by decide)))
  have a3 : ¬ x.toInt = 3 := fun e => h3 (Int32.toInt_inj.mp (e.trans (by decide)))
  have a4 : ¬ x.toInt = 4 := fun e => h4 (Int32.toInt_inj.mp (e.trans (by decide)))
  omega
theorem z_P0 {D : va_G} {cl : List vw_C} {X Y : va_W} {H : Heap} (h : va_P D cl (X ++ Y) H) : va_P D cl X H := fun k q hk => h k q (by rw [List.getElem?_append_left (List.getElem?_eq_some_iff.mp hk).1]; exact hk)
theorem z_D0 {A : Nat → Prop} {X Y : va_W} (h : va_D A (X ++ Y)) : va_D A X := ⟨fun i j p q hi hj e => h.1 i j p q (by rw [List.getElem?_append_left (List.getElem?_eq_some_iff.mp hi).1]; exact hi) (by rw [List.getElem?_append_left (List.getElem?_eq_some_iff.mp hj).1]; exact hj) e, fun k q hk => h.2 k q (by rw [List.getElem?_append_left (List.getElem?_eq_some_iff.mp hk).1]; exact hk)⟩
section ZNA
variable {p : Program} {l : Launch} {e : Env} {R : Room} {s : State} {m : MethodId} {args : Array Value} {below : List Frame} {meth : Method} {c : Code} {H : Heap} {locs : List Loc} {cells slots : Nat} {Q : State → Prop}
variable {cc : ByteArray} {pc : Nat} {ls : Array Slot} {rest : List Value} {D : va_G} {cl : List vw_C} {A : Nat → Prop} {ws : va_W} {H0 : Heap} {Z : gZ}
theorem z_newint (hexec : p.tables.exec = Jvm.exec) (hb : c.code = cc) (harr : (Cond.arrayClass .int).before args s = true) (hK : va_K D cl (gT Z) s) (hP : va_P D cl ws H) (hD : va_D A ws) (hS : va_S A H0 H locs) (hA : ∀ q, H0.size ≤ q → A q)
    {n : Int32} {N' : Nat} (hn : ¬ n < 0) (hN : n.toNatClampNeg = N') (hbytes : N' * 4 ≤ 536870912) (hcells : cells + 1 ≤ R.cells) (hslots : slots + N' ≤ R.slots) (hdg : decode cc pc = .ok (.newarray .int, 2))
    (kk : ∀ (q : Nat) (H1 : Heap), va_P D cl (ws ++ [(q, .inl (Z.2 0, N', .inl (fun _ => 0)))]) H1 → va_D A (ws ++ [(q, .inl (Z.2 0, N', .inl (fun _ => 0)))]) → va_S A H0 H1 locs → W p l e R s m args below meth c H1 locs (cells + 1) (slots + N') Q (F0 m (pc + 2) ls (.ref q :: rest))) : W p l e R s m args below meth c H locs cells slots Q (F0 m pc ls (.int n :: rest)) := by
  refine va_newa (atype := .int) (ty := .int) (a0 := (N', .inl (fun _ => 0))) hexec hb harr rfl hK hP hD hS hA (fun _ => rfl) hn hN hbytes hcells hslots hdg (fun q cA H1 hK1 hP1 hD1 hS1 => ?_)
  have e1 : s.vm.findClass ("[" ++ FieldType.int.toString) = some cA := (hK1.2 6 _ rfl).2
  have e2 : s.vm.findClass ("[" ++ FieldType.int.toString) = some (Z.2 0) := (hK.2 0 _ rfl).2
  have e3 : cA = Z.2 0 := Option.some.inj (e1.symm.trans e2)
  subst e3
  exact kk q H1 hP1 hD1 hS1
theorem z_newchar (hexec : p.tables.exec = Jvm.exec) (hb : c.code = cc) (harr : (Cond.arrayClass .char).before args s = true) (hK : va_K D cl (gT Z) s) (hP : va_P D cl ws H) (hD : va_D A ws) (hS : va_S A H0 H locs) (hA : ∀ q, H0.size ≤ q → A q)
    {n : Int32} {N' : Nat} (hn : ¬ n < 0) (hN : n.toNatClampNeg = N') (hbytes : N' * 2 ≤ 536870912) (hcells : cells + 1 ≤ R.cells) (hslots : slots + N' ≤ R.slots) (hdg : decode cc pc = .ok (.newarray .char, 2))
    (kk : ∀ (q : Nat) (H1 : Heap), va_P D cl (ws ++ [(q, .inl (Z.2 1, N', .inl (fun _ => 0)))]) H1 → va_D A (ws ++ [(q, .inl (Z.2 1, N', .inl (fun _ => 0)))]) → va_S A H0 H1 locs → W p l e R s m args below meth c H1 locs (cells + 1) (slots + N') Q (F0 m (pc + 2) ls (.ref q :: rest))) : W p l e R s m args below meth c H locs cells slots Q (F0 m pc ls (.int n :: rest)) := by
  refine va_newa (atype := .char) (ty := .char) (a0 := (N', .inl (fun _ => 0))) hexec hb harr rfl hK hP hD hS hA (fun _ => rfl) hn hN hbytes hcells hslots hdg (fun q cA H1 hK1 hP1 hD1 hS1 => ?_)
  have e1 : s.vm.findClass ("[" ++ FieldType.char.toString) = some cA := (hK1.2 6 _ rfl).2
  have e2 : s.vm.findClass ("[" ++ FieldType.char.toString) = some (Z.2 1) := (hK.2 1 _ rfl).2
  have e3 : cA = Z.2 1 := Option.some.inj (e1.symm.trans e2)
  subst e3
  exact kk q H1 hP1 hD1 hS1
theorem z_newlong (hexec : p.tables.exec = Jvm.exec) (hb : c.code = cc) (harr : (Cond.arrayClass .long).before args s = true) (hK : va_K D cl (gT Z) s) (hP : va_P D cl ws H) (hD : va_D A ws) (hS : va_S A H0 H locs) (hA : ∀ q, H0.size ≤ q → A q)
    {n : Int32} {N' : Nat} (hn : ¬ n < 0) (hN : n.toNatClampNeg = N') (hbytes : N' * 8 ≤ 536870912) (hcells : cells + 1 ≤ R.cells) (hslots : slots + N' ≤ R.slots) (hdg : decode cc pc = .ok (.newarray .long, 2))
    (kk : ∀ (q : Nat) (H1 : Heap), va_P D cl (ws ++ [(q, .inl (Z.2 2, N', .inr (.inl (fun _ => 0))))]) H1 → va_D A (ws ++ [(q, .inl (Z.2 2, N', .inr (.inl (fun _ => 0))))]) → va_S A H0 H1 locs → W p l e R s m args below meth c H1 locs (cells + 1) (slots + N') Q (F0 m (pc + 2) ls (.ref q :: rest))) : W p l e R s m args below meth c H locs cells slots Q (F0 m pc ls (.int n :: rest)) := by
  refine va_newa (atype := .long) (ty := .long) (a0 := (N', .inr (.inl (fun _ => 0)))) hexec hb harr rfl hK hP hD hS hA (fun _ => rfl) hn hN hbytes hcells hslots hdg (fun q cA H1 hK1 hP1 hD1 hS1 => ?_)
  have e1 : s.vm.findClass ("[" ++ FieldType.long.toString) = some cA := (hK1.2 6 _ rfl).2
  have e2 : s.vm.findClass ("[" ++ FieldType.long.toString) = some (Z.2 2) := (hK.2 2 _ rfl).2
  have e3 : cA = Z.2 2 := Option.some.inj (e1.symm.trans e2)
  subst e3
  exact kk q H1 hP1 hD1 hS1
theorem z_newFolk (hexec : p.tables.exec = Jvm.exec) (hb : c.code = cc) {own : String} {index : Nat} (hown : s.vm.findClass own = some m.cls) (hclink : (Cond.classLink own index "HalfAsked$Folk").before args s = true) (hN0 : gN Z s) (hK : va_K D cl (gT Z) s) (hP : va_P D cl ws H) (hD : va_D A ws) (hS : va_S A H0 H locs) (hA : ∀ q, H0.size ≤ q → A q)
    {n : Int32} {N' : Nat} (hn : ¬ n < 0) (hN : n.toNatClampNeg = N') (hbytes : N' * 4 ≤ 536870912) (hcells : cells + 1 ≤ R.cells) (hslots : slots + N' ≤ R.slots) (hdg : decode cc pc = .ok (.anewarray index, 3))
    (kk : ∀ (q : Nat) (H1 : Heap), va_P D cl (ws ++ [(q, .inl (Z.2 3, N', .inr (.inr (.inr (.inr (fun _ => none))))))]) H1 → va_D A (ws ++ [(q, .inl (Z.2 3, N', .inr (.inr (.inr (.inr (fun _ => none))))))]) → va_S A H0 H1 locs → W p l e R s m args below meth c H1 locs (cells + 1) (slots + N') Q (F0 m (pc + 3) ls (.ref q :: rest))) : W p l e R s m args below meth c H locs cells slots Q (F0 m pc ls (.int n :: rest)) := by
  refine va_newq hexec hb hown hclink (z_AOF hN0) hK hP hD hS hA hn hN hbytes hcells hslots hdg (fun q cA H1 hK1 hP1 hD1 hS1 => ?_)
  obtain ⟨-, -, -, -, -, e1⟩ := (hK1.2 6 _ rfl).2
  obtain ⟨-, -, -, -, -, e2⟩ := (hK.2 3 _ rfl).2
  have e3 : cA = Z.2 3 := Option.some.inj (e1.symm.trans e2)
  subst e3
  exact kk q H1 hP1 hD1 hS1
theorem z_newSheet (hexec : p.tables.exec = Jvm.exec) (hb : c.code = cc) {own : String} {index : Nat} (hown : s.vm.findClass own = some m.cls) (hclink : (Cond.classLink own index "HalfAsked$Sheet").before args s = true) (hN0 : gN Z s) (hK : va_K D cl (gT Z) s) (hP : va_P D cl ws H) (hD : va_D A ws) (hS : va_S A H0 H locs) (hA : ∀ q, H0.size ≤ q → A q)
    {n : Int32} {N' : Nat} (hn : ¬ n < 0) (hN : n.toNatClampNeg = N') (hbytes : N' * 4 ≤ 536870912) (hcells : cells + 1 ≤ R.cells) (hslots : slots + N' ≤ R.slots) (hdg : decode cc pc = .ok (.anewarray index, 3))
    (kk : ∀ (q : Nat) (H1 : Heap), va_P D cl (ws ++ [(q, .inl (Z.2 4, N', .inr (.inr (.inr (.inr (fun _ => none))))))]) H1 → va_D A (ws ++ [(q, .inl (Z.2 4, N', .inr (.inr (.inr (.inr (fun _ => none))))))]) → va_S A H0 H1 locs → W p l e R s m args below meth c H1 locs (cells + 1) (slots + N') Q (F0 m (pc + 3) ls (.ref q :: rest))) : W p l e R s m args below meth c H locs cells slots Q (F0 m pc ls (.int n :: rest)) := by
  refine va_newq hexec hb hown hclink (z_AOS hN0) hK hP hD hS hA hn hN hbytes hcells hslots hdg (fun q cA H1 hK1 hP1 hD1 hS1 => ?_)
  obtain ⟨-, -, -, -, -, e1⟩ := (hK1.2 6 _ rfl).2
  obtain ⟨-, -, -, -, -, e2⟩ := (hK.2 4 _ rfl).2
  have e3 : cA = Z.2 4 := Option.some.inj (e1.symm.trans e2)
  subst e3
  exact kk q H1 hP1 hD1 hS1
/-- new int[n][k]: of the rows nothing is kept -/
theorem z_newII (hexec : p.tables.exec = Jvm.exec) (hb : c.code = cc) {own : String} {index : Nat} (hown : s.vm.findClass own = some m.cls) (hclink : (Cond.classLink own index ("[" ++ (FieldType.array .int).toString)).before args s = true) (hN0 : gN Z s) (harr : (Cond.arrayClass .int).before args s = true) (hK : va_K D cl (gT Z) s) (hP : va_P D cl ws H) (hD : va_D A ws) (hS : va_S A H0 H locs) (hA : ∀ q, H0.size ≤ q → A q)
    {n k : Int32} {N' K' : Nat} (hn : ¬ n < 0) (hk : ¬ k < 0) (hN : n.toNatClampNeg = N') (hM : k.toNatClampNeg = K') (hb1 : N' * 4 ≤ 536870912) (hb2 : K' * 4 ≤ 536870912) (hb3 : K' ≤ 536870912) (hcells : cells + (1 + N') ≤ R.cells) (hslots : slots + (N' + N' * K') ≤ R.slots) (hdg : decode cc pc = .ok (.multianewarray index 2, 4))
    (kk : ∀ (q : Nat) (H1 : Heap), va_P D cl ws H1 → va_D A ws → va_S A H0 H1 locs → W p l e R s m args below meth c H1 locs (cells + 1 + N') (slots + N' + N' * K') Q (F0 m (pc + 4) ls (.ref q :: rest))) : W p l e R s m args below meth c H locs cells slots Q (F0 m pc ls (.int k :: .int n :: rest)) := by
  have hcy : s.vm.findClass (FieldType.array .int).toString = some (Z.2 0) := (hK.2 0 _ rfl).2
  have hP' : va_P D cl (ws ++ va_pl [] (fun _ => .inl (Z.2 0, 0, .inl (fun _ => 0)))) H := by
    rw [show va_pl [] (fun _ => .inl (Z.2 0, 0, .inl (fun _ => 0))) = [] from rfl, List.append_nil]; exact hP
  have hD' : va_D A (ws ++ va_pl [] (fun _ => .inl (Z.2 0, 0, .inl (fun _ => 0)))) := by
    rw [show va_pl [] (fun _ => .inl (Z.2 0, 0, .inl (fun _ => 0))) = [] from rfl, List.append_nil]; exact hD
  refine va_mna (L := []) (f := fun _ => .inl (Z.2 0, 0, .inl (fun _ => 0))) (ty := .int) (z := (K', .inl (fun _ => 0))) hexec hb hown hclink (z_AOI hN0) harr hcy hK hP' hD' hS hA hn hk hN hM hb1 hb2 hb3 rfl rfl hcells hslots (fun c9 => ?_) hdg (fun q r cA H1 _ _ _ hP1 hD1 hS1 => kk q H1 (z_P0 (z_P0 hP1)) (z_D0 (z_D0 hD1)) hS1)
  rw [vp_cell_i]
  exact arrV_new ..
end ZNA
end
section
set_option maxHeartbeats 4000000 in
set_option maxRecDepth 100000 in
theorem c_X0_init (l : Launch) (Z : gZ) (sz : Nat) (h0 : Nat)  : Met l yX0_init wsX0_init ({ frames := 1, cells := 2, slots := 10, locals := 28 }) (va_Pc [.ref h0] (fun U => U.heap.size = sz ∧ va_P Z.1 vwCl [(h0, .inr (0, [.int 0, .int 0, .int 0, .null, .null]))] U.heap ∧ va_K Z.1 vwCl (gT Z) U ∧ va_D (fun _ => True) [(h0, .inr (0, [.int 0, .int 0, .int 0, .null, .null]))])) (va_Qv (fun (u : Nat × Nat) => match u with | (k, q) => True) (fun (u : Nat × Nat) (t : State) => match u with | (k, q) => va_P Z.1 vwCl [(h0, .inr (0, [.int 0, .int 16510910, .int 0, .ref k, .ref q])), (k, .inl (Z.2 0, 5, .inl (fun _ => 0))), (q, .inl (Z.2 0, 5, .inl (fun _ => 0)))] t.heap ∧ va_D (va_A [(h0, .inr (0, [.int 0, .int 0, .int 0, .null, .null]))] sz) [(h0, .inr (0, [.int 0, .int 16510910, .int 0, .ref k, .ref q])), (k, .inl (Z.2 0, 5, .inl (fun _ => 0))), (q, .inl (Z.2 0, 5, .inl (fun _ => 0)))]) (va_A [(h0, .inr (0, [.int 0, .int 0, .int 0, .null, .null]))] sz)) 2 10 (va_A [(h0, .inr (0, [.int 0, .int 0, .int 0, .null, .null]))] sz) := by
  refine Met.ofW (cc := cX0_init) (maxL := 1) (ret := none) (by decide) rfl ?_
  intro p e s m args below meth c s₁ B hml hv
  obtain ⟨rfl, hsz, hP, hK, hD0⟩ := hv
  have hx := B.exec
  have hb := B.bytes
  have hr := B.returns
  have hts := atoms_spec (ws := wsX0_init) B.pre
  have hown : s.vm.findClass RX0 = some m.cls := findClass_of_methodNamed B.named
  have hlocks := B.notSynchronized
  have hin : meth.name = "<init>" := (name_of_methodNamed B.named B.method).1
  subst hsz
  have hin0 : ∀ w ∈ wsX00, w ∈ wsX0_init := by decide +kernel
  have hD := hD0.self (sz := s.heap.size)
  generalize hAe : va_A [(h0, .inr (0, [.int 0, .int 0, .int 0, .null, .null]))] s.heap.size = A at hD ⊢
  have hA : ∀ q : Nat, s.heap.size ≤ q → A q := fun q h => by rw [← hAe]; exact Or.inr h
  have hS : va_S A s.heap s.heap [] := va_S.rf
  have hP : va_P Z.1 vwCl [(h0, .inr (0, [.int 0, .int 0, .int 0, .null, .null]))] s.heap := hP
  have hl := lv_entry ([.ref h0]) (n := 1) (Nat.le_of_ble_eq_true rfl)
  rw [lg_entry_eq]
  generalize (lg_sl ([.ref h0]) ++ List.replicate (1 - (lg_sl ([.ref h0])).length) Slot.unset).toArray = ls at hl ⊢
  have hl : lv_has ls 1 [(0, .ref h0)] := hl
  refine lv_aload_n hx hb dX0_init_0 rfl (lv_at hl 0 rfl) ?_
  refine W.objInit hx hb hown (hts (.methodLink RX0 3 objectInit) (by decide +kernel)) (hts (.instanceMethod objectInit) (by decide +kernel)) (hts (.code objectInit ⟨#[0xb1]⟩ 1 none) (by decide +kernel)) rfl (by rw [hml]; exact hl.1) rfl dX0_init_1 (Nat.le_of_ble_eq_true rfl) (Nat.le_of_ble_eq_true rfl) ?_
  refine W.eq (g2 := F0 m 4 ls []) rfl ?_
  refine lv_aload_n hx hb dX0_init_4 rfl (lv_at hl 0 rfl) ?_
  refine lv_iconst (v := 0) hx hb dX0_init_5 (by decide) ?_
  refine va_put (D := Z.1) (ci := 0) (v := .int 0) (ty := .int) (C := RX0) (T := TX0) (N := 5) hx hb hts hin0 tyX0 tyX0_ok nmX0 hown hK hP hD hS 0 rfl rfl 0 (by decide) (hts (.fieldLink RX0 9 "HalfAsked$Folk" "size" "I") (by decide +kernel)) (fun _ h9 => h9) rfl (by decide +kernel) rfl rfl (Nat.le_of_ble_eq_true rfl) dX0_init_6 (fun H locs hP hD hS => ?_)
  have hP : va_P Z.1 vwCl [(h0, .inr (0, [.int 0, .int 0, .int 0, .null, .null]))] H := hP
  have hD : va_D A [(h0, .inr (0, [.int 0, .int 0, .int 0, .null, .null]))] := hD
  refine lv_aload_n hx hb dX0_init_9 rfl (lv_at hl 0 rfl) ?_
  refine lv_ldc (v := 16510910) hx hb hown (hts (.constant RX0 15 (16510910)) (by decide +kernel)) dX0_init_10 ?_
  refine va_put (D := Z.1) (ci := 0) (v := .int 16510910) (ty := .int) (C := RX0) (T := TX0) (N := 5) hx hb hts hin0 tyX0 tyX0_ok nmX0 hown hK hP hD hS 0 rfl rfl 1 (by decide) (hts (.fieldLink RX0 16 "HalfAsked$Folk" "known" "I") (by decide +kernel)) (fun _ h9 => h9) rfl (by decide +kernel) rfl rfl (Nat.le_of_ble_eq_true rfl) dX0_init_12 (fun H locs hP hD hS => ?_)
  have hP : va_P Z.1 vwCl [(h0, .inr (0, [.int 0, .int 16510910, .int 0, .null, .null]))] H := hP
  have hD : va_D A [(h0, .inr (0, [.int 0, .int 16510910, .int 0, .null, .null]))] := hD
  refine lv_aload_n hx hb dX0_init_15 rfl (lv_at hl 0 rfl) ?_
  refine lv_iconst (v := 0) hx hb dX0_init_16 (by decide) ?_
  refine va_put (D := Z.1) (ci := 0) (v := .int 0) (ty := .int) (C := RX0) (T := TX0) (N := 5) hx hb hts hin0 tyX0 tyX0_ok nmX0 hown hK hP hD hS 0 rfl rfl 2 (by decide) (hts (.fieldLink RX0 19 "HalfAsked$Folk" "asked" "I") (by decide +kernel)) (fun _ h9 => h9) rfl (by decide +kernel) rfl rfl (Nat.le_of_ble_eq_true rfl) dX0_init_17 (fun H locs hP hD hS => ?_)
  have hP : va_P Z.1 vwCl [(h0, .inr (0, [.int 0, .int 16510910, .int 0, .null, .null]))] H := hP
  have hD : va_D A [(h0, .inr (0, [.int 0, .int 16510910, .int 0, .null, .null]))] := hD
  refine lv_aload_n hx hb dX0_init_20 rfl (lv_at hl 0 rfl) ?_
  refine lv_iconst (v := 5) hx hb dX0_init_21 (by decide) ?_
  refine z_newint (N' := 5) hx hb (hts (.arrayClass .int) (by decide +kernel)) hK hP hD hS hA (by decide) (by decide) (Nat.le_of_ble_eq_true rfl) (Nat.le_of_ble_eq_true rfl) (Nat.le_of_ble_eq_true rfl) dX0_init_22 (fun q_1 H hP hD hS => ?_)
  have hP : va_P Z.1 vwCl [(h0, .inr (0, [.int 0, .int 16510910, .int 0, .null, .null])), (q_1, .inl (Z.2 0, 5, .inl (fun _ => 0)))] H := hP
  have hD : va_D A [(h0, .inr (0, [.int 0, .int 16510910, .int 0, .null, .null])), (q_1, .inl (Z.2 0, 5, .inl (fun _ => 0)))] := hD
  refine W.widen (k := 1) (n := 5) (Nat.le_of_ble_eq_true rfl) (Nat.le_of_ble_eq_true rfl) ?_
  refine va_putF (D := Z.1) (ci := 0) (v := .ref q_1) (ty := .array .int) (C := RX0) (T := TX0) (N := 5) hx hb hts hin0 tyX0 tyX0_ok nmX0 hown hK hP hD hS 0 rfl rfl 3 (by decide) (hts (.fieldLink RX0 22 "HalfAsked$Folk" "kind" "[I") (by decide +kernel)) (fun _ h9 => h9) rfl hin rfl (by decide +kernel) rfl rfl (Nat.le_of_ble_eq_true rfl) dX0_init_24 (fun H locs hP hD hS => ?_)
  have hP : va_P Z.1 vwCl [(h0, .inr (0, [.int 0, .int 16510910, .int 0, .ref q_1, .null])), (q_1, .inl (Z.2 0, 5, .inl (fun _ => 0)))] H := hP
  have hD : va_D A [(h0, .inr (0, [.int 0, .int 16510910, .int 0, .ref q_1, .null])), (q_1, .inl (Z.2 0, 5, .inl (fun _ => 0)))] := hD
  refine lv_aload_n hx hb dX0_init_27 rfl (lv_at hl 0 rfl) ?_
  refine lv_iconst (v := 5) hx hb dX0_init_28 (by decide) ?_
  refine z_newint (N' := 5) hx hb (hts (.arrayClass .int) (by decide +kernel)) hK hP hD hS hA (by decide) (by decide) (Nat.le_of_ble_eq_true rfl) (Nat.le_of_ble_eq_true rfl) (Nat.le_of_ble_eq_true rfl) dX0_init_29 (fun q_2 H hP hD hS => ?_)
  have hP : va_P Z.1 vwCl [(h0, .inr (0, [.int 0, .int 16510910, .int 0, .ref q_1, .null])), (q_1, .inl (Z.2 0, 5, .inl (fun _ => 0))), (q_2, .inl (Z.2 0, 5, .inl (fun _ => 0)))] H := hP
  have hD : va_D A [(h0, .inr (0, [.int 0, .int 16510910, .int 0, .ref q_1, .null])), (q_1, .inl (Z.2 0, 5, .inl (fun _ => 0))), (q_2, .inl (Z.2 0, 5, .inl (fun _ => 0)))] := hD
  refine W.widen (k := 2) (n := 10) (Nat.le_of_ble_eq_true rfl) (Nat.le_of_ble_eq_true rfl) ?_
  refine va_putF (D := Z.1) (ci := 0) (v := .ref q_2) (ty := .array .int) (C := RX0) (T := TX0) (N := 5) hx hb hts hin0 tyX0 tyX0_ok nmX0 hown hK hP hD hS 0 rfl rfl 4 (by decide) (hts (.fieldLink RX0 26 "HalfAsked$Folk" "pence" "[I") (by decide +kernel)) (fun _ h9 => h9) rfl hin rfl (by decide +kernel) rfl rfl (Nat.le_of_ble_eq_true rfl) dX0_init_31 (fun H locs hP hD hS => ?_)
  have hP : va_P Z.1 vwCl [(h0, .inr (0, [.int 0, .int 16510910, .int 0, .ref q_1, .ref q_2])), (q_1, .inl (Z.2 0, 5, .inl (fun _ => 0))), (q_2, .inl (Z.2 0, 5, .inl (fun _ => 0)))] H := hP
  have hD : va_D A [(h0, .inr (0, [.int 0, .int 16510910, .int 0, .ref q_1, .ref q_2])), (q_1, .inl (Z.2 0, 5, .inl (fun _ => 0))), (q_2, .inl (Z.2 0, 5, .inl (fun _ => 0)))] := hD
  have hP9 := hP.sub (ws' := [(h0, .inr (0, [.int 0, .int 16510910, .int 0, .ref q_1, .ref q_2])), (q_1, .inl (Z.2 0, 5, .inl (fun _ => 0))), (q_2, .inl (Z.2 0, 5, .inl (fun _ => 0)))]) [0, 1, 2] rfl
  have hD9 := hD.sub (ws' := [(h0, .inr (0, [.int 0, .int 16510910, .int 0, .ref q_1, .ref q_2])), (q_1, .inl (Z.2 0, 5, .inl (fun _ => 0))), (q_2, .inl (Z.2 0, 5, .inl (fun _ => 0)))]) [0, 1, 2] (by decide) rfl
  exact W.vret hx hb hr (fun t ht hW => ⟨⟨(q_1, q_2), rfl, trivial, by rw [ht]; exact hP9, hD9⟩, hS.F ht⟩) hS.2.2 dX0_init_34
set_option maxHeartbeats 4000000 in
set_option maxRecDepth 100000 in
theorem c_X2_init (l : Launch) (Z : gZ) (sz : Nat) (h0 : Nat)  : Met l yX2_init wsX2_init ({ frames := 1, cells := 2, slots := 16, locals := 28 }) (va_Pc [.ref h0] (fun U => U.heap.size = sz ∧ va_P Z.1 vwCl [(h0, .inr (2, [.int 0, .int 0, .null, .null]))] U.heap ∧ va_K Z.1 vwCl (gT Z) U ∧ va_D (fun _ => True) [(h0, .inr (2, [.int 0, .int 0, .null, .null]))])) (va_Qv (fun (u : Nat × Nat) => match u with | (k, q) => True) (fun (u : Nat × Nat) (t : State) => match u with | (k, q) => va_P Z.1 vwCl [(h0, .inr (2, [.int 0, .int 0, .ref k, .ref q])), (k, .inl (Z.2 0, 8, .inl (fun _ => 0))), (q, .inl (Z.2 0, 8, .inl (fun _ => 0)))] t.heap ∧ va_D (va_A [(h0, .inr (2, [.int 0, .int 0, .null, .null]))] sz) [(h0, .inr (2, [.int 0, .int 0, .ref k, .ref q])), (k, .inl (Z.2 0, 8, .inl (fun _ => 0))), (q, .inl (Z.2 0, 8, .inl (fun _ => 0)))]) (va_A [(h0, .inr (2, [.int 0, .int 0, .null, .null]))] sz)) 2 16 (va_A [(h0, .inr (2, [.int 0, .int 0, .null, .null]))] sz) := by
  refine Met.ofW (cc := cX2_init) (maxL := 1) (ret := none) (by decide) rfl ?_
  intro p e s m args below meth c s₁ B hml hv
  obtain ⟨rfl, hsz, hP, hK, hD0⟩ := hv
  have hx := B.exec
  have hb := B.bytes
  have hr := B.returns
  have hts := atoms_spec (ws := wsX2_init) B.pre
  have hown : s.vm.findClass RX2 = some m.cls := findClass_of_methodNamed B.named
  have hlocks := B.notSynchronized
  have hin : meth.name = "<init>" := (name_of_methodNamed B.named B.method).1
  subst hsz
  have hin2 : ∀ w ∈ wsX20, w ∈ wsX2_init := by decide +kernel
  have hD := hD0.self (sz := s.heap.size)
  generalize hAe : va_A [(h0, .inr (2, [.int 0, .int 0, .null, .null]))] s.heap.size = A at hD ⊢
  have hA : ∀ q : Nat, s.heap.size ≤ q → A q := fun q h => by rw [← hAe]; exact Or.inr h
  have hS : va_S A s.heap s.heap [] := va_S.rf
  have hP : va_P Z.1 vwCl [(h0, .inr (2, [.int 0, .int 0, .null, .null]))] s.heap := hP
  have hl := lv_entry ([.ref h0]) (n := 1) (Nat.le_of_ble_eq_true rfl)
  rw [lg_entry_eq]
  generalize (lg_sl ([.ref h0]) ++ List.replicate (1 - (lg_sl ([.ref h0])).length) Slot.unset).toArray = ls at hl ⊢
  have hl : lv_has ls 1 [(0, .ref h0)] := hl
  refine lv_aload_n hx hb dX2_init_0 rfl (lv_at hl 0 rfl) ?_
  refine W.objInit hx hb hown (hts (.methodLink RX2 3 objectInit) (by decide +kernel)) (hts (.instanceMethod objectInit) (by decide +kernel)) (hts (.code objectInit ⟨#[0xb1]⟩ 1 none) (by decide +kernel)) rfl (by rw [hml]; exact hl.1) rfl dX2_init_1 (Nat.le_of_ble_eq_true rfl) (Nat.le_of_ble_eq_true rfl) ?_
  refine W.eq (g2 := F0 m 4 ls []) rfl ?_
  refine lv_aload_n hx hb dX2_init_4 rfl (lv_at hl 0 rfl) ?_
  refine lv_iconst (v := 0) hx hb dX2_init_5 (by decide) ?_
  refine va_put (D := Z.1) (ci := 2) (v := .int 0) (ty := .int) (C := RX2) (T := TX2) (N := 4) hx hb hts hin2 tyX2 tyX2_ok nmX2 hown hK hP hD hS 0 rfl rfl 0 (by decide) (hts (.fieldLink RX2 9 "HalfAsked$Plan" "size" "I") (by decide +kernel)) (fun _ h9 => h9) rfl (by decide +kernel) rfl rfl (Nat.le_of_ble_eq_true rfl) dX2_init_6 (fun H locs hP hD hS => ?_)
  have hP : va_P Z.1 vwCl [(h0, .inr (2, [.int 0, .int 0, .null, .null]))] H := hP
  have hD : va_D A [(h0, .inr (2, [.int 0, .int 0, .null, .null]))] := hD
  refine lv_aload_n hx hb dX2_init_9 rfl (lv_at hl 0 rfl) ?_
  refine lv_iconst (v := 0) hx hb dX2_init_10 (by decide) ?_
  refine va_put (D := Z.1) (ci := 2) (v := .int 0) (ty := .int) (C := RX2) (T := TX2) (N := 4) hx hb hts hin2 tyX2 tyX2_ok nmX2 hown hK hP hD hS 0 rfl rfl 1 (by decide) (hts (.fieldLink RX2 15 "HalfAsked$Plan" "ends" "I") (by decide +kernel)) (fun _ h9 => h9) rfl (by decide +kernel) rfl rfl (Nat.le_of_ble_eq_true rfl) dX2_init_11 (fun H locs hP hD hS => ?_)
  have hP : va_P Z.1 vwCl [(h0, .inr (2, [.int 0, .int 0, .null, .null]))] H := hP
  have hD : va_D A [(h0, .inr (2, [.int 0, .int 0, .null, .null]))] := hD
  refine lv_aload_n hx hb dX2_init_14 rfl (lv_at hl 0 rfl) ?_
  refine lv_bipush (v := 8) hx hb dX2_init_15 (by decide) ?_
  refine z_newint (N' := 8) hx hb (hts (.arrayClass .int) (by decide +kernel)) hK hP hD hS hA (by decide) (by decide) (Nat.le_of_ble_eq_true rfl) (Nat.le_of_ble_eq_true rfl) (Nat.le_of_ble_eq_true rfl) dX2_init_17 (fun q_1 H hP hD hS => ?_)
  have hP : va_P Z.1 vwCl [(h0, .inr (2, [.int 0, .int 0, .null, .null])), (q_1, .inl (Z.2 0, 8, .inl (fun _ => 0)))] H := hP
  have hD : va_D A [(h0, .inr (2, [.int 0, .int 0, .null, .null])), (q_1, .inl (Z.2 0, 8, .inl (fun _ => 0)))] := hD
  refine W.widen (k := 1) (n := 8) (Nat.le_of_ble_eq_true rfl) (Nat.le_of_ble_eq_true rfl) ?_
  refine va_putF (D := Z.1) (ci := 2) (v := .ref q_1) (ty := .array .int) (C := RX2) (T := TX2) (N := 4) hx hb hts hin2 tyX2 tyX2_ok nmX2 hown hK hP hD hS 0 rfl rfl 2 (by decide) (hts (.fieldLink RX2 18 "HalfAsked$Plan" "by" "[I") (by decide +kernel)) (fun _ h9 => h9) rfl hin rfl (by decide +kernel) rfl rfl (Nat.le_of_ble_eq_true rfl) dX2_init_19 (fun H locs hP hD hS => ?_)
  have hP : va_P Z.1 vwCl [(h0, .inr (2, [.int 0, .int 0, .ref q_1, .null])), (q_1, .inl (Z.2 0, 8, .inl (fun _ => 0)))] H := hP
  have hD : va_D A [(h0, .inr (2, [.int 0, .int 0, .ref q_1, .null])), (q_1, .inl (Z.2 0, 8, .inl (fun _ => 0)))] := hD
  refine lv_aload_n hx hb dX2_init_22 rfl (lv_at hl 0 rfl) ?_
  refine lv_bipush (v := 8) hx hb dX2_init_23 (by decide) ?_
  refine z_newint (N' := 8) hx hb (hts (.arrayClass .int) (by decide +kernel)) hK hP hD hS hA (by decide) (by decide) (Nat.le_of_ble_eq_true rfl) (Nat.le_of_ble_eq_true rfl) (Nat.le_of_ble_eq_true rfl) dX2_init_25 (fun q_2 H hP hD hS => ?_)
  have hP : va_P Z.1 vwCl [(h0, .inr (2, [.int 0, .int 0, .ref q_1, .null])), (q_1, .inl (Z.2 0, 8, .inl (fun _ => 0))), (q_2, .inl (Z.2 0, 8, .inl (fun _ => 0)))] H := hP
  have hD : va_D A [(h0, .inr (2, [.int 0, .int 0, .ref q_1, .null])), (q_1, .inl (Z.2 0, 8, .inl (fun _ => 0))), (q_2, .inl (Z.2 0, 8, .inl (fun _ => 0)))] := hD
  refine W.widen (k := 2) (n := 16) (Nat.le_of_ble_eq_true rfl) (Nat.le_of_ble_eq_true rfl) ?_
  refine va_putF (D := Z.1) (ci := 2) (v := .ref q_2) (ty := .array .int) (C := RX2) (T := TX2) (N := 4) hx hb hts hin2 tyX2 tyX2_ok nmX2 hown hK hP hD hS 0 rfl rfl 3 (by decide) (hts (.fieldLink RX2 22 "HalfAsked$Plan" "of" "[I") (by decide +kernel)) (fun _ h9 => h9) rfl hin rfl (by decide +kernel) rfl rfl (Nat.le_of_ble_eq_true rfl) dX2_init_27 (fun H locs hP hD hS => ?_)
  have hP : va_P Z.1 vwCl [(h0, .inr (2, [.int 0, .int 0, .ref q_1, .ref q_2])), (q_1, .inl (Z.2 0, 8, .inl (fun _ => 0))), (q_2, .inl (Z.2 0, 8, .inl (fun _ => 0)))] H := hP
  have hD : va_D A [(h0, .inr (2, [.int 0, .int 0, .ref q_1, .ref q_2])), (q_1, .inl (Z.2 0, 8, .inl (fun _ => 0))), (q_2, .inl (Z.2 0, 8, .inl (fun _ => 0)))] := hD
  have hP9 := hP.sub (ws' := [(h0, .inr (2, [.int 0, .int 0, .ref q_1, .ref q_2])), (q_1, .inl (Z.2 0, 8, .inl (fun _ => 0))), (q_2, .inl (Z.2 0, 8, .inl (fun _ => 0)))]) [0, 1, 2] rfl
  have hD9 := hD.sub (ws' := [(h0, .inr (2, [.int 0, .int 0, .ref q_1, .ref q_2])), (q_1, .inl (Z.2 0, 8, .inl (fun _ => 0))), (q_2, .inl (Z.2 0, 8, .inl (fun _ => 0)))]) [0, 1, 2] (by decide) rfl
  exact W.vret hx hb hr (fun t ht hW => ⟨⟨(q_1, q_2), rfl, trivial, by rw [ht]; exact hP9, hD9⟩, hS.F ht⟩) hS.2.2 dX2_init_30
set_option maxHeartbeats 4000000 in
set_option maxRecDepth 100000 in
theorem c_X5_init (l : Launch) (Z : gZ) (sz : Nat) (h0 : Nat)  : Met l yX5_init wsX5_init ({ frames := 1, cells := 1, slots := 80, locals := 28 }) (va_Pc [.ref h0] (fun U => U.heap.size = sz ∧ va_P Z.1 vwCl [(h0, .inr (5, [.int 0, .int 0, .null]))] U.heap ∧ va_K Z.1 vwCl (gT Z) U ∧ va_D (fun _ => True) [(h0, .inr (5, [.int 0, .int 0, .null]))])) (va_Qv (fun (u : Nat) => match u with | k => True) (fun (u : Nat) (t : State) => match u with | k => va_P Z.1 vwCl [(h0, .inr (5, [.int 0, .int 0, .ref k])), (k, .inl (Z.2 1, 80, .inl (fun _ => 0)))] t.heap ∧ va_D (va_A [(h0, .inr (5, [.int 0, .int 0, .null]))] sz) [(h0, .inr (5, [.int 0, .int 0, .ref k])), (k, .inl (Z.2 1, 80, .inl (fun _ => 0)))]) (va_A [(h0, .inr (5, [.int 0, .int 0, .null]))] sz)) 1 80 (va_A [(h0, .inr (5, [.int 0, .int 0, .null]))] sz) := by
  refine Met.ofW (cc := cX5_init) (maxL := 1) (ret := none) (by decide) rfl ?_
  intro p e s m args below meth c s₁ B hml hv
  obtain ⟨rfl, hsz, hP, hK, hD0⟩ := hv
  have hx := B.exec
  have hb := B.bytes
  have hr := B.returns
  have hts := atoms_spec (ws := wsX5_init) B.pre
  have hown : s.vm.findClass RX5 = some m.cls := findClass_of_methodNamed B.named
  have hlocks := B.notSynchronized
  have hin : meth.name = "<init>" := (name_of_methodNamed B.named B.method).1
  subst hsz
  have hin5 : ∀ w ∈ wsX50, w ∈ wsX5_init := by decide +kernel
  have hD := hD0.self (sz := s.heap.size)
  generalize hAe : va_A [(h0, .inr (5, [.int 0, .int 0, .null]))] s.heap.size = A at hD ⊢
  have hA : ∀ q : Nat, s.heap.size ≤ q → A q := fun q h => by rw [← hAe]; exact Or.inr h
  have hS : va_S A s.heap s.heap [] := va_S.rf
  have hP : va_P Z.1 vwCl [(h0, .inr (5, [.int 0, .int 0, .null]))] s.heap := hP
  have hl := lv_entry ([.ref h0]) (n := 1) (Nat.le_of_ble_eq_true rfl)
  rw [lg_entry_eq]
  generalize (lg_sl ([.ref h0]) ++ List.replicate (1 - (lg_sl ([.ref h0])).length) Slot.unset).toArray = ls at hl ⊢
  have hl : lv_has ls 1 [(0, .ref h0)] := hl
  refine lv_aload_n hx hb dX5_init_0 rfl (lv_at hl 0 rfl) ?_
  refine W.objInit hx hb hown (hts (.methodLink RX5 3 objectInit) (by decide +kernel)) (hts (.instanceMethod objectInit) (by decide +kernel)) (hts (.code objectInit ⟨#[0xb1]⟩ 1 none) (by decide +kernel)) rfl (by rw [hml]; exact hl.1) rfl dX5_init_1 (Nat.le_of_ble_eq_true rfl) (Nat.le_of_ble_eq_true rfl) ?_
  refine W.eq (g2 := F0 m 4 ls []) rfl ?_
  refine lv_aload_n hx hb dX5_init_4 rfl (lv_at hl 0 rfl) ?_
  refine lv_iconst (v := 0) hx hb dX5_init_5 (by decide) ?_
  refine va_put (D := Z.1) (ci := 5) (v := .int 0) (ty := .int) (C := RX5) (T := TX5) (N := 3) hx hb hts hin5 tyX5 tyX5_ok nmX5 hown hK hP hD hS 0 rfl rfl 0 (by decide) (hts (.fieldLink RX5 9 "HalfAsked$Tape" "size" "I") (by decide +kernel)) (fun _ h9 => h9) rfl (by decide +kernel) rfl rfl (Nat.le_of_ble_eq_true rfl) dX5_init_6 (fun H locs hP hD hS => ?_)
  have hP : va_P Z.1 vwCl [(h0, .inr (5, [.int 0, .int 0, .null]))] H := hP
  have hD : va_D A [(h0, .inr (5, [.int 0, .int 0, .null]))] := hD
  refine lv_aload_n hx hb dX5_init_9 rfl (lv_at hl 0 rfl) ?_
  refine lv_iconst (v := 0) hx hb dX5_init_10 (by decide) ?_
  refine va_put (D := Z.1) (ci := 5) (v := .int 0) (ty := .int) (C := RX5) (T := TX5) (N := 3) hx hb hts hin5 tyX5 tyX5_ok nmX5 hown hK hP hD hS 0 rfl rfl 1 (by decide) (hts (.fieldLink RX5 15 "HalfAsked$Tape" "at" "I") (by decide +kernel)) (fun _ h9 => h9) rfl (by decide +kernel) rfl rfl (Nat.le_of_ble_eq_true rfl) dX5_init_11 (fun H locs hP hD hS => ?_)
  have hP : va_P Z.1 vwCl [(h0, .inr (5, [.int 0, .int 0, .null]))] H := hP
  have hD : va_D A [(h0, .inr (5, [.int 0, .int 0, .null]))] := hD
  refine lv_aload_n hx hb dX5_init_14 rfl (lv_at hl 0 rfl) ?_
  refine lv_bipush (v := 80) hx hb dX5_init_15 (by decide) ?_
  refine z_newchar (N' := 80) hx hb (hts (.arrayClass .char) (by decide +kernel)) hK hP hD hS hA (by decide) (by decide) (Nat.le_of_ble_eq_true rfl) (Nat.le_of_ble_eq_true rfl) (Nat.le_of_ble_eq_true rfl) dX5_init_17 (fun q_1 H hP hD hS => ?_)
  have hP : va_P Z.1 vwCl [(h0, .inr (5, [.int 0, .int 0, .null])), (q_1, .inl (Z.2 1, 80, .inl (fun _ => 0)))] H := hP
  have hD : va_D A [(h0, .inr (5, [.int 0, .int 0, .null])), (q_1, .inl (Z.2 1, 80, .inl (fun _ => 0)))] := hD
  refine W.widen (k := 1) (n := 80) (Nat.le_of_ble_eq_true rfl) (Nat.le_of_ble_eq_true rfl) ?_
  refine va_putF (D := Z.1) (ci := 5) (v := .ref q_1) (ty := .array .char) (C := RX5) (T := TX5) (N := 3) hx hb hts hin5 tyX5 tyX5_ok nmX5 hown hK hP hD hS 0 rfl rfl 2 (by decide) (hts (.fieldLink RX5 18 "HalfAsked$Tape" "signs" "[C") (by decide +kernel)) (fun _ h9 => h9) rfl hin rfl (by decide +kernel) rfl rfl (Nat.le_of_ble_eq_true rfl) dX5_init_19 (fun H locs hP hD hS => ?_)
  have hP : va_P Z.1 vwCl [(h0, .inr (5, [.int 0, .int 0, .ref q_1])), (q_1, .inl (Z.2 1, 80, .inl (fun _ => 0)))] H := hP
  have hD : va_D A [(h0, .inr (5, [.int 0, .int 0, .ref q_1])), (q_1, .inl (Z.2 1, 80, .inl (fun _ => 0)))] := hD
  have hP9 := hP.sub (ws' := [(h0, .inr (5, [.int 0, .int 0, .ref q_1])), (q_1, .inl (Z.2 1, 80, .inl (fun _ => 0)))]) [0, 1] rfl
  have hD9 := hD.sub (ws' := [(h0, .inr (5, [.int 0, .int 0, .ref q_1])), (q_1, .inl (Z.2 1, 80, .inl (fun _ => 0)))]) [0, 1] (by decide) rfl
  exact W.vret hx hb hr (fun t ht hW => ⟨⟨q_1, rfl, trivial, by rw [ht]; exact hP9, hD9⟩, hS.F ht⟩) hS.2.2 dX5_init_22
set_option maxHeartbeats 4000000 in
set_option maxRecDepth 100000 in
theorem c_X0_has (l : Launch) (Z : gZ) (sz : Nat) (h0 : Nat) (v : Int32) (kn : Int32) (ak : Int32) (k : Nat) (q : Nat) (a : Int32)  : Met l yX0_has wsX0_has ({ frames := 0, cells := 0, slots := 0, locals := 0 }) (va_Pc [.ref h0, .int a] (fun U => U.heap.size = sz ∧ va_P Z.1 vwCl [(h0, .inr (0, [.int v, .int kn, .int ak, .ref k, .ref q]))] U.heap ∧ va_K Z.1 vwCl (gT Z) U ∧ va_D (fun _ => True) [(h0, .inr (0, [.int v, .int kn, .int ak, .ref k, .ref q]))])) (va_Qi (fun (r : Int32) (u : Unit) => r = (if a < 0 then 0 else (if v ≤ a then 0 else 1))) (fun (u : Unit) (t : State) => va_P Z.1 vwCl [(h0, .inr (0, [.int v, .int kn, .int ak, .ref k, .ref q]))] t.heap ∧ va_D (va_A [(h0, .inr (0, [.int v, .int kn, .int ak, .ref k, .ref q]))] sz) [(h0, .inr (0, [.int v, .int kn, .int ak, .ref k, .ref q]))]) (va_A [(h0, .inr (0, [.int v, .int kn, .int ak, .ref k, .ref q]))] sz)) 0 0 (va_A [(h0, .inr (0, [.int v, .int kn, .int ak, .ref k, .ref q]))] sz) := by
  refine Met.ofW (cc := cX0_has) (maxL := 2) (ret := (some .boolean)) (by decide) rfl ?_
  intro p e s m args below meth c s₁ B hml hv
  obtain ⟨rfl, hsz, hP, hK, hD0⟩ := hv
  have hx := B.exec
  have hb := B.bytes
  have hr := B.returns
  have hts := atoms_spec (ws := wsX0_has) B.pre
  have hown : s.vm.findClass RX0 = some m.cls := findClass_of_methodNamed B.named
  have hlocks := B.notSynchronized
  subst hsz
  have hin0 : ∀ w ∈ wsX00, w ∈ wsX0_has := by decide +kernel
  have hD := hD0.self (sz := s.heap.size)
  generalize hAe : va_A [(h0, .inr (0, [.int v, .int kn, .int ak, .ref k, .ref q]))] s.heap.size = A at hD ⊢
  have hA : ∀ q : Nat, s.heap.size ≤ q → A q := fun q h => by rw [← hAe]; exact Or.inr h
  have hS : va_S A s.heap s.heap [] := va_S.rf
  have hP : va_P Z.1 vwCl [(h0, .inr (0, [.int v, .int kn, .int ak, .ref k, .ref q]))] s.heap := hP
  have hl := lv_entry ([.ref h0, .int a]) (n := 2) (Nat.le_of_ble_eq_true rfl)
  rw [lg_entry_eq]
  generalize (lg_sl ([.ref h0, .int a]) ++ List.replicate (2 - (lg_sl ([.ref h0, .int a])).length) Slot.unset).toArray = ls at hl ⊢
  have hl : lv_has ls 2 [(0, .ref h0), (1, .int a)] := hl
  refine lv_iload_n hx hb dX0_has_0 rfl (lv_at hl 1 rfl) ?_
  refine lv_if_lt (tgt := 16) hx hb dX0_has_1 (by decide) (fun c_1 => ?_) (fun c_1 => ?_)
  · refine lv_iconst (v := 0) hx hb dX0_has_16 (by decide) ?_
    have hP9 := hP.sub (ws' := [(h0, .inr (0, [.int v, .int kn, .int ak, .ref k, .ref q]))]) [0] rfl
    have hD9 := hD.sub (ws' := [(h0, .inr (0, [.int v, .int kn, .int ak, .ref k, .ref q]))]) [0] (by decide) rfl
    exact W.zret (v := 0) hx hb hr rfl (fun t ht hW => ⟨⟨0, (), rfl, (by rw [if_pos c_1]), by rw [ht]; exact hP9, hD9⟩, hS.F ht⟩) hS.2.2 dX0_has_17
  · refine lv_iload_n hx hb dX0_has_4 rfl (lv_at hl 1 rfl) ?_
    refine lv_aload_n hx hb dX0_has_5 rfl (lv_at hl 0 rfl) ?_
    refine va_get (D := Z.1) (ci := 0) (v := .int v) (C := RX0) (T := TX0) (N := 5) hx hb hts hin0 hown hK hP 0 rfl rfl 0 (by decide) (hts (.fieldLink RX0 9 "HalfAsked$Folk" "size" "I") (by decide +kernel)) (fun _ h9 => h9) rfl dX0_has_6 ?_
    refine lv_icmp_ge (tgt := 16) hx hb dX0_has_9 (by decide) (fun c_2 => ?_) (fun c_2 => ?_)
    · refine lv_iconst (v := 0) hx hb dX0_has_16 (by decide) ?_
      have hP9 := hP.sub (ws' := [(h0, .inr (0, [.int v, .int kn, .int ak, .ref k, .ref q]))]) [0] rfl
      have hD9 := hD.sub (ws' := [(h0, .inr (0, [.int v, .int kn, .int ak, .ref k, .ref q]))]) [0] (by decide) rfl
      exact W.zret (v := 0) hx hb hr rfl (fun t ht hW => ⟨⟨0, (), rfl, (by rw [if_neg c_1, if_pos c_2]), by rw [ht]; exact hP9, hD9⟩, hS.F ht⟩) hS.2.2 dX0_has_17
    · refine lv_iconst (v := 1) hx hb dX0_has_12 (by decide) ?_
      refine lv_goto (tgt := 17) hx hb dX0_has_13 (by decide) ?_
      have hP9 := hP.sub (ws' := [(h0, .inr (0, [.int v, .int kn, .int ak, .ref k, .ref q]))]) [0] rfl
      have hD9 := hD.sub (ws' := [(h0, .inr (0, [.int v, .int kn, .int ak, .ref k, .ref q]))]) [0] (by decide) rfl
      exact W.zret (v := 1) hx hb hr rfl (fun t ht hW => ⟨⟨1, (), rfl, (by rw [if_neg c_1, if_neg c_2]), by rw [ht]; exact hP9, hD9⟩, hS.F ht⟩) hS.2.2 dX0_has_17
set_option maxHeartbeats 4000000 in
set_option maxRecDepth 100000 in
theorem c_X0_isPair (l : Launch) (Z : gZ) (sz : Nat) (h0 : Nat) (v : Int32) (kn : Int32) (ak : Int32) (k : Nat) (q : Nat) (a : Int32) (b : Int32)  : Met l yX0_isPair wsX0_isPair ({ frames := 1, cells := 0, slots := 0, locals := 21 }) (va_Pc [.ref h0, .int a, .int b] (fun U => U.heap.size = sz ∧ va_P Z.1 vwCl [(h0, .inr (0, [.int v, .int kn, .int ak, .ref k, .ref q]))] U.heap ∧ va_K Z.1 vwCl (gT Z) U ∧ va_D (fun _ => True) [(h0, .inr (0, [.int v, .int kn, .int ak, .ref k, .ref q]))])) (va_Qi (fun (r : Int32) (u : Unit) => r = (if (if a < 0 then 0 else (if v ≤ a then 0 else 1)) = 0 then 0 else (if (if b < 0 then 0 else (if v ≤ b then 0 else 1)) = 0 then 0 else (if a = b then 0 else 1)))) (fun (u : Unit) (t : State) => va_P Z.1 vwCl [(h0, .inr (0, [.int v, .int kn, .int ak, .ref k, .ref q]))] t.heap ∧ va_D (va_A [(h0, .inr (0, [.int v, .int kn, .int ak, .ref k, .ref q]))] sz) [(h0, .inr (0, [.int v, .int kn, .int ak, .ref k, .ref q]))]) (va_A [(h0, .inr (0, [.int v, .int kn, .int ak, .ref k, .ref q]))] sz)) 0 0 (va_A [(h0, .inr (0, [.int v, .int kn, .int ak, .ref k, .ref q]))] sz) := by
  refine Met.ofW (cc := cX0_isPair) (maxL := 3) (ret := (some .boolean)) (by decide) rfl ?_
  intro p e s m args below meth c s₁ B hml hv
  obtain ⟨rfl, hsz, hP, hK, hD0⟩ := hv
  have hx := B.exec
  have hb := B.bytes
  have hr := B.returns
  have hts := atoms_spec (ws := wsX0_isPair) B.pre
  have hown : s.vm.findClass RX0 = some m.cls := findClass_of_methodNamed B.named
  have hlocks := B.notSynchronized
  subst hsz
  have hD := hD0.self (sz := s.heap.size)
  generalize hAe : va_A [(h0, .inr (0, [.int v, .int kn, .int ak, .ref k, .ref q]))] s.heap.size = A at hD ⊢
  have hA : ∀ q : Nat, s.heap.size ≤ q → A q := fun q h => by rw [← hAe]; exact Or.inr h
  have hS : va_S A s.heap s.heap [] := va_S.rf
  have hP : va_P Z.1 vwCl [(h0, .inr (0, [.int v, .int kn, .int ak, .ref k, .ref q]))] s.heap := hP
  have hl := lv_entry ([.ref h0, .int a, .int b]) (n := 3) (Nat.le_of_ble_eq_true rfl)
  rw [lg_entry_eq]
  generalize (lg_sl ([.ref h0, .int a, .int b]) ++ List.replicate (3 - (lg_sl ([.ref h0, .int a, .int b])).length) Slot.unset).toArray = ls at hl ⊢
  have hl : lv_has ls 3 [(0, .ref h0), (1, .int a), (2, .int b)] := hl
  refine lv_aload_n hx hb dX0_isPair_0 rfl (lv_at hl 0 rfl) ?_
  refine lv_iload_n hx hb dX0_isPair_1 rfl (lv_at hl 1 rfl) ?_
  have hPc := hP.sub (ws' := [(h0, .inr (0, [.int v, .int kn, .int ak, .ref k, .ref q]))]) [0] rfl
  have hDc := hD.sub (ws' := [(h0, .inr (0, [.int v, .int kn, .int ak, .ref k, .ref q]))]) [0] (by decide) rfl
  have hFc := va_free (wc := [(h0, .inr (0, [.int v, .int kn, .int ak, .ref k, .ref q]))]) hD hS hA [0] rfl
  refine va_calli (va_runV (As := [.int a]) (rest := []) ⟨hx, hb, hml, hown, hts⟩ (c_X0_has l Z H.size h0 v kn ak k q a) (cwV 1 hts gX0_isPair_X0_has rfl rfl rfl (by decide +kernel) ⟨Nat.le_of_ble_eq_true rfl, Nat.le_of_ble_eq_true rfl⟩) ⟨fun a U g mk q => by obtain ⟨q0, q1, qP, qK, qD⟩ := q; exact ⟨q0, q1, qP, va_K.moved (u := U) (U := U.calling g mk a) (Vm.Alike.refl U.vm) qK, qD⟩, va_recv hK hPc (ci := 0) (q0 := 0) rfl rfl, fun U hU hW => ⟨rfl, by rw [hU], by rw [hU]; exact hPc, va_K.moved hW.alike hK, hDc.weaken (fun _ _ _ _ => trivial)⟩⟩ rfl rfl hl.1 rfl (lv_room (Nat.le_of_ble_eq_true rfl)) dX0_isPair_2 ⟨Nat.le_of_ble_eq_true rfl, Nat.le_of_ble_eq_true rfl⟩) hS (fun q _ h => hFc q h) hFc (fun r_1 u t H1 locs ht hvm hw hB hz1 hk1 hS => ?_)
  subst hw
  obtain ⟨hP1, hD1⟩ := hB
  rw [ht] at hP1
  obtain ⟨hP, hD⟩ := va_join (wr := []) (w1 := [(h0, .inr (0, [.int v, .int kn, .int ak, .ref k, .ref q]))]) hP hD [0] [] rfl rfl (by decide) (by decide) hk1 hFc hP1 hD1
  clear hPc hDc hP1 hD1 hk1 hz1 hFc ht hvm
  generalize H1 = H at hP hS ⊢
  have hP : va_P Z.1 vwCl [(h0, .inr (0, [.int v, .int kn, .int ak, .ref k, .ref q]))] H := hP
  have hD : va_D A [(h0, .inr (0, [.int v, .int kn, .int ak, .ref k, .ref q]))] := hD
  refine lv_if_eq (tgt := 25) hx hb dX0_isPair_5 (by decide) (fun c_2 => ?_) (fun c_2 => ?_)
  · refine lv_iconst (v := 0) hx hb dX0_isPair_25 (by decide) ?_
    have hP9 := hP.sub (ws' := [(h0, .inr (0, [.int v, .int kn, .int ak, .ref k, .ref q]))]) [0] rfl
    have hD9 := hD.sub (ws' := [(h0, .inr (0, [.int v, .int kn, .int ak, .ref k, .ref q]))]) [0] (by decide) rfl
    exact W.zret (v := 0) hx hb hr rfl (fun t ht hW => ⟨⟨0, (), rfl, (by rw [if_pos c_2]), by rw [ht]; exact hP9, hD9⟩, hS.F ht⟩) hS.2.2 dX0_isPair_26
  · refine lv_aload_n hx hb dX0_isPair_8 rfl (lv_at hl 0 rfl) ?_
    refine lv_iload_n hx hb dX0_isPair_9 rfl (lv_at hl 2 rfl) ?_
    have hPc := hP.sub (ws' := [(h0, .inr (0, [.int v, .int kn, .int ak, .ref k, .ref q]))]) [0] rfl
    have hDc := hD.sub (ws' := [(h0, .inr (0, [.int v, .int kn, .int ak, .ref k, .ref q]))]) [0] (by decide) rfl
    have hFc := va_free (wc := [(h0, .inr (0, [.int v, .int kn, .int ak, .ref k, .ref q]))]) hD hS hA [0] rfl
    refine va_calli (va_runV (As := [.int b]) (rest := []) ⟨hx, hb, hml, hown, hts⟩ (c_X0_has l Z H.size h0 v kn ak k q b) (cwV 1 hts gX0_isPair_X0_has rfl rfl rfl (by decide +kernel) ⟨Nat.le_of_ble_eq_true rfl, Nat.le_of_ble_eq_true rfl⟩) ⟨fun a U g mk q => by obtain ⟨q0, q1, qP, qK, qD⟩ := q; exact ⟨q0, q1, qP, va_K.moved (u := U) (U := U.calling g mk a) (Vm.Alike.refl U.vm) qK, qD⟩, va_recv hK hPc (ci := 0) (q0 := 0) rfl rfl, fun U hU hW => ⟨rfl, by rw [hU], by rw [hU]; exact hPc, va_K.moved hW.alike hK, hDc.weaken (fun _ _ _ _ => trivial)⟩⟩ rfl rfl hl.1 rfl (lv_room (Nat.le_of_ble_eq_true rfl)) dX0_isPair_10 ⟨Nat.le_of_ble_eq_true rfl, Nat.le_of_ble_eq_true rfl⟩) hS (fun q _ h => hFc q h) hFc (fun r_3 u t H1 locs ht hvm hw hB hz1 hk1 hS => ?_)
    subst hw
    obtain ⟨hP1, hD1⟩ := hB
    rw [ht] at hP1
    obtain ⟨hP, hD⟩ := va_join (wr := []) (w1 := [(h0, .inr (0, [.int v, .int kn, .int ak, .ref k, .ref q]))]) hP hD [0] [] rfl rfl (by decide) (by decide) hk1 hFc hP1 hD1
    clear hPc hDc hP1 hD1 hk1 hz1 hFc ht hvm
    generalize H1 = H at hP hS ⊢
    have hP : va_P Z.1 vwCl [(h0, .inr (0, [.int v, .int kn, .int ak, .ref k, .ref q]))] H := hP
    have hD : va_D A [(h0, .inr (0, [.int v, .int kn, .int ak, .ref k, .ref q]))] := hD
    refine lv_if_eq (tgt := 25) hx hb dX0_isPair_13 (by decide) (fun c_4 => ?_) (fun c_4 => ?_)
    · refine lv_iconst (v := 0) hx hb dX0_isPair_25 (by decide) ?_
      have hP9 := hP.sub (ws' := [(h0, .inr (0, [.int v, .int kn, .int ak, .ref k, .ref q]))]) [0] rfl
      have hD9 := hD.sub (ws' := [(h0, .inr (0, [.int v, .int kn, .int ak, .ref k, .ref q]))]) [0] (by decide) rfl
      exact W.zret (v := 0) hx hb hr rfl (fun t ht hW => ⟨⟨0, (), rfl, (by rw [if_neg c_2, if_pos c_4]), by rw [ht]; exact hP9, hD9⟩, hS.F ht⟩) hS.2.2 dX0_isPair_26
    · refine lv_iload_n hx hb dX0_isPair_16 rfl (lv_at hl 1 rfl) ?_
      refine lv_iload_n hx hb dX0_isPair_17 rfl (lv_at hl 2 rfl) ?_
      refine lv_icmp_eq (tgt := 25) hx hb dX0_isPair_18 (by decide) (fun c_5 => ?_) (fun c_5 => ?_)
      · refine lv_iconst (v := 0) hx hb dX0_isPair_25 (by decide) ?_
        have hP9 := hP.sub (ws' := [(h0, .inr (0, [.int v, .int kn, .int ak, .ref k, .ref q]))]) [0] rfl
        have hD9 := hD.sub (ws' := [(h0, .inr (0, [.int v, .int kn, .int ak, .ref k, .ref q]))]) [0] (by decide) rfl
        exact W.zret (v := 0) hx hb hr rfl (fun t ht hW => ⟨⟨0, (), rfl, (by rw [if_neg c_2, if_neg c_4, if_pos c_5]), by rw [ht]; exact hP9, hD9⟩, hS.F ht⟩) hS.2.2 dX0_isPair_26
      · refine lv_iconst (v := 1) hx hb dX0_isPair_21 (by decide) ?_
        refine lv_goto (tgt := 26) hx hb dX0_isPair_22 (by decide) ?_
        have hP9 := hP.sub (ws' := [(h0, .inr (0, [.int v, .int kn, .int ak, .ref k, .ref q]))]) [0] rfl
        have hD9 := hD.sub (ws' := [(h0, .inr (0, [.int v, .int kn, .int ak, .ref k, .ref q]))]) [0] (by decide) rfl
        exact W.zret (v := 1) hx hb hr rfl (fun t ht hW => ⟨⟨1, (), rfl, (by rw [if_neg c_2, if_neg c_4, if_neg c_5]), by rw [ht]; exact hP9, hD9⟩, hS.F ht⟩) hS.2.2 dX0_isPair_26
set_option maxHeartbeats 4000000 in
set_option maxRecDepth 100000 in
theorem c_X8_isSum (l : Launch) (Z : gZ) (sz : Nat) (a : Int32)  : Met l yX8_isSum wsX8_isSum ({ frames := 0, cells := 0, slots := 0, locals := 0 }) (va_Pc [.int a] (fun U => U.heap.size = sz ∧ va_P Z.1 vwCl [] U.heap ∧ va_K Z.1 vwCl (gT Z) U ∧ va_D (fun _ => True) [])) (va_Qi (fun (r : Int32) (u : Unit) => r = (if a < 0 then 0 else (if 9999 < a then 0 else 1))) (fun (u : Unit) (t : State) => True) (va_A [] sz)) 0 0 (va_A [] sz) := by
  refine Met.ofW (cc := cX8_isSum) (maxL := 1) (ret := (some .boolean)) (by decide) rfl ?_
  intro p e s m args below meth c s₁ B hml hv
  obtain ⟨rfl, hsz, hP, hK, hD0⟩ := hv
  have hx := B.exec
  have hb := B.bytes
  have hr := B.returns
  have hts := atoms_spec (ws := wsX8_isSum) B.pre
  have hown : s.vm.findClass RX8 = some m.cls := findClass_of_methodNamed B.named
  have hlocks := B.notSynchronized
  subst hsz
  have hD := hD0.self (sz := s.heap.size)
  generalize hAe : va_A [] s.heap.size = A at hD ⊢
  have hA : ∀ q : Nat, s.heap.size ≤ q → A q := fun q h => by rw [← hAe]; exact Or.inr h
  have hS : va_S A s.heap s.heap [] := va_S.rf
  have hP : va_P Z.1 vwCl [] s.heap := hP
  have hl := lv_entry ([.int a]) (n := 1) (Nat.le_of_ble_eq_true rfl)
  rw [lg_entry_eq]
  generalize (lg_sl ([.int a]) ++ List.replicate (1 - (lg_sl ([.int a])).length) Slot.unset).toArray = ls at hl ⊢
  have hl : lv_has ls 1 [(0, .int a)] := hl
  refine lv_iload_n hx hb dX8_isSum_0 rfl (lv_at hl 0 rfl) ?_
  refine lv_if_lt (tgt := 15) hx hb dX8_isSum_1 (by decide) (fun c_1 => ?_) (fun c_1 => ?_)
  · refine lv_iconst (v := 0) hx hb dX8_isSum_15 (by decide) ?_
    exact W.zret (v := 0) hx hb hr rfl (fun t ht hW => ⟨⟨0, (), rfl, (by rw [if_pos c_1]), trivial⟩, hS.F ht⟩) hS.2.2 dX8_isSum_16
  · refine lv_iload_n hx hb dX8_isSum_4 rfl (lv_at hl 0 rfl) ?_
    refine lv_sipush (v := 9999) hx hb dX8_isSum_5 (by decide) ?_
    refine lv_icmp_gt (tgt := 15) hx hb dX8_isSum_8 (by decide) (fun c_2 => ?_) (fun c_2 => ?_)
    · refine lv_iconst (v := 0) hx hb dX8_isSum_15 (by decide) ?_
      exact W.zret (v := 0) hx hb hr rfl (fun t ht hW => ⟨⟨0, (), rfl, (by rw [if_neg c_1, if_pos c_2]), trivial⟩, hS.F ht⟩) hS.2.2 dX8_isSum_16
    · refine lv_iconst (v := 1) hx hb dX8_isSum_11 (by decide) ?_
      refine lv_goto (tgt := 16) hx hb dX8_isSum_12 (by decide) ?_
      exact W.zret (v := 1) hx hb hr rfl (fun t ht hW => ⟨⟨1, (), rfl, (by rw [if_neg c_1, if_neg c_2]), trivial⟩, hS.F ht⟩) hS.2.2 dX8_isSum_16
set_option maxHeartbeats 4000000 in
set_option maxRecDepth 100000 in
theorem c_X8_isSheet (l : Launch) (Z : gZ) (sz : Nat) (a : Int32)  : Met l yX8_isSheet wsX8_isSheet ({ frames := 0, cells := 0, slots := 0, locals := 0 }) (va_Pc [.int a] (fun U => U.heap.size = sz ∧ va_P Z.1 vwCl [] U.heap ∧ va_K Z.1 vwCl (gT Z) U ∧ va_D (fun _ => True) [])) (va_Qi (fun (r : Int32) (u : Unit) => r = (if a < 0 then 0 else (if 4 ≤ a then 0 else 1))) (fun (u : Unit) (t : State) => True) (va_A [] sz)) 0 0 (va_A [] sz) := by
  refine Met.ofW (cc := cX8_isSheet) (maxL := 1) (ret := (some .boolean)) (by decide) rfl ?_
  intro p e s m args below meth c s₁ B hml hv
  obtain ⟨rfl, hsz, hP, hK, hD0⟩ := hv
  have hx := B.exec
  have hb := B.bytes
  have hr := B.returns
  have hts := atoms_spec (ws := wsX8_isSheet) B.pre
  have hown : s.vm.findClass RX8 = some m.cls := findClass_of_methodNamed B.named
  have hlocks := B.notSynchronized
  subst hsz
  have hD := hD0.self (sz := s.heap.size)
  generalize hAe : va_A [] s.heap.size = A at hD ⊢
  have hA : ∀ q : Nat, s.heap.size ≤ q → A q := fun q h => by rw [← hAe]; exact Or.inr h
  have hS : va_S A s.heap s.heap [] := va_S.rf
  have hP : va_P Z.1 vwCl [] s.heap := hP
  have hl := lv_entry ([.int a]) (n := 1) (Nat.le_of_ble_eq_true rfl)
  rw [lg_entry_eq]
  generalize (lg_sl ([.int a]) ++ List.replicate (1 - (lg_sl ([.int a])).length) Slot.unset).toArray = ls at hl ⊢
  have hl : lv_has ls 1 [(0, .int a)] := hl
  refine lv_iload_n hx hb dX8_isSheet_0 rfl (lv_at hl 0 rfl) ?_
  refine lv_if_lt (tgt := 13) hx hb dX8_isSheet_1 (by decide) (fun c_1 => ?_) (fun c_1 => ?_)
  · refine lv_iconst (v := 0) hx hb dX8_isSheet_13 (by decide) ?_
    exact W.zret (v := 0) hx hb hr rfl (fun t ht hW => ⟨⟨0, (), rfl, (by rw [if_pos c_1]), trivial⟩, hS.F ht⟩) hS.2.2 dX8_isSheet_14
  · refine lv_iload_n hx hb dX8_isSheet_4 rfl (lv_at hl 0 rfl) ?_
    refine lv_iconst (v := 4) hx hb dX8_isSheet_5 (by decide) ?_
    refine lv_icmp_ge (tgt := 13) hx hb dX8_isSheet_6 (by decide) (fun c_2 => ?_) (fun c_2 => ?_)
    · refine lv_iconst (v := 0) hx hb dX8_isSheet_13 (by decide) ?_
      exact W.zret (v := 0) hx hb hr rfl (fun t ht hW => ⟨⟨0, (), rfl, (by rw [if_neg c_1, if_pos c_2]), trivial⟩, hS.F ht⟩) hS.2.2 dX8_isSheet_14
    · refine lv_iconst (v := 1) hx hb dX8_isSheet_9 (by decide) ?_
      refine lv_goto (tgt := 14) hx hb dX8_isSheet_10 (by decide) ?_
      exact W.zret (v := 1) hx hb hr rfl (fun t ht hW => ⟨⟨1, (), rfl, (by rw [if_neg c_1, if_neg c_2]), trivial⟩, hS.F ht⟩) hS.2.2 dX8_isSheet_14
set_option maxHeartbeats 4000000 in
set_option maxRecDepth 100000 in
theorem c_X8_isLane (l : Launch) (Z : gZ) (sz : Nat) (a : Int32)  : Met l yX8_isLane wsX8_isLane ({ frames := 0, cells := 0, slots := 0, locals := 0 }) (va_Pc [.int a] (fun U => U.heap.size = sz ∧ va_P Z.1 vwCl [] U.heap ∧ va_K Z.1 vwCl (gT Z) U ∧ va_D (fun _ => True) [])) (va_Qi (fun (r : Int32) (u : Unit) => r = (if a < 0 then 0 else (if 3 ≤ a then 0 else 1))) (fun (u : Unit) (t : State) => True) (va_A [] sz)) 0 0 (va_A [] sz) := by
  refine Met.ofW (cc := cX8_isLane) (maxL := 1) (ret := (some .boolean)) (by decide) rfl ?_
  intro p e s m args below meth c s₁ B hml hv
  obtain ⟨rfl, hsz, hP, hK, hD0⟩ := hv
  have hx := B.exec
  have hb := B.bytes
  have hr := B.returns
  have hts := atoms_spec (ws := wsX8_isLane) B.pre
  have hown : s.vm.findClass RX8 = some m.cls := findClass_of_methodNamed B.named
  have hlocks := B.notSynchronized
  subst hsz
  have hD := hD0.self (sz := s.heap.size)
  generalize hAe : va_A [] s.heap.size = A at hD ⊢
  have hA : ∀ q : Nat, s.heap.size ≤ q → A q := fun q h => by rw [← hAe]; exact Or.inr h
  have hS : va_S A s.heap s.heap [] := va_S.rf
  have hP : va_P Z.1 vwCl [] s.heap := hP
  have hl := lv_entry ([.int a]) (n := 1) (Nat.le_of_ble_eq_true rfl)
  rw [lg_entry_eq]
  generalize (lg_sl ([.int a]) ++ List.replicate (1 - (lg_sl ([.int a])).length) Slot.unset).toArray = ls at hl ⊢
  have hl : lv_has ls 1 [(0, .int a)] := hl
  refine lv_iload_n hx hb dX8_isLane_0 rfl (lv_at hl 0 rfl) ?_
  refine lv_if_lt (tgt := 13) hx hb dX8_isLane_1 (by decide) (fun c_1 => ?_) (fun c_1 => ?_)
  · refine lv_iconst (v := 0) hx hb dX8_isLane_13 (by decide) ?_
    exact W.zret (v := 0) hx hb hr rfl (fun t ht hW => ⟨⟨0, (), rfl, (by rw [if_pos c_1]), trivial⟩, hS.F ht⟩) hS.2.2 dX8_isLane_14
  · refine lv_iload_n hx hb dX8_isLane_4 rfl (lv_at hl 0 rfl) ?_
    refine lv_iconst (v := 3) hx hb dX8_isLane_5 (by decide) ?_
    refine lv_icmp_ge (tgt := 13) hx hb dX8_isLane_6 (by decide) (fun c_2 => ?_) (fun c_2 => ?_)
    · refine lv_iconst (v := 0) hx hb dX8_isLane_13 (by decide) ?_
      exact W.zret (v := 0) hx hb hr rfl (fun t ht hW => ⟨⟨0, (), rfl, (by rw [if_neg c_1, if_pos c_2]), trivial⟩, hS.F ht⟩) hS.2.2 dX8_isLane_14
    · refine lv_iconst (v := 1) hx hb dX8_isLane_9 (by decide) ?_
      refine lv_goto (tgt := 14) hx hb dX8_isLane_10 (by decide) ?_
      exact W.zret (v := 1) hx hb hr rfl (fun t ht hW => ⟨⟨1, (), rfl, (by rw [if_neg c_1, if_neg c_2]), trivial⟩, hS.F ht⟩) hS.2.2 dX8_isLane_14
set_option maxHeartbeats 4000000 in
set_option maxRecDepth 100000 in
theorem c_X9_in (l : Launch) (Z : gZ) (sz : Nat) (a : Int64) (b : Int64) (d : Int64)  : Met l yX9_in wsX9_in ({ frames := 0, cells := 0, slots := 0, locals := 0 }) (va_Pc [.long a, .long b, .long d] (fun U => U.heap.size = sz ∧ va_P Z.1 vwCl [] U.heap ∧ va_K Z.1 vwCl (gT Z) U ∧ va_D (fun _ => True) [])) (va_Qi (fun (r : Int32) (u : Unit) => r = (if a < b then 0 else (if d < a then 0 else 1))) (fun (u : Unit) (t : State) => True) (va_A [] sz)) 0 0 (va_A [] sz) := by
  refine Met.ofW (cc := cX9_in) (maxL := 6) (ret := (some .boolean)) (by decide) rfl ?_
  intro p e s m args below meth c s₁ B hml hv
  obtain ⟨rfl, hsz, hP, hK, hD0⟩ := hv
  have hx := B.exec
  have hb := B.bytes
  have hr := B.returns
  have hts := atoms_spec (ws := wsX9_in) B.pre
  have hown : s.vm.findClass RX9 = some m.cls := findClass_of_methodNamed B.named
  have hlocks := B.notSynchronized
  subst hsz
  have hD := hD0.self (sz := s.heap.size)
  generalize hAe : va_A [] s.heap.size = A at hD ⊢
  have hA : ∀ q : Nat, s.heap.size ≤ q → A q := fun q h => by rw [← hAe]; exact Or.inr h
  have hS : va_S A s.heap s.heap [] := va_S.rf
  have hP : va_P Z.1 vwCl [] s.heap := hP
  have hl := lv_entry ([.long a, .long b, .long d]) (n := 6) (Nat.le_of_ble_eq_true rfl)
  rw [lg_entry_eq]
  generalize (lg_sl ([.long a, .long b, .long d]) ++ List.replicate (6 - (lg_sl ([.long a, .long b, .long d])).length) Slot.unset).toArray = ls at hl ⊢
  have hl : lv_has ls 6 [(0, .long a), (2, .long b), (4, .long d)] := hl
  refine lv_lload_n hx hb dX9_in_0 rfl (lv_at hl 0 rfl) ?_
  refine lv_lload_n hx hb dX9_in_1 rfl (lv_at hl 1 rfl) ?_
  refine W.lcmp hx hb dX9_in_2 ?_
  refine lv_if_lt (tgt := 17) hx hb dX9_in_3 (by decide) (fun c_1 => ?_) (fun c_1 => ?_)
  · rw [lg_cmp_lt] at c_1
    refine lv_iconst (v := 0) hx hb dX9_in_17 (by decide) ?_
    exact W.zret (v := 0) hx hb hr rfl (fun t ht hW => ⟨⟨0, (), rfl, (by rw [if_pos c_1]), trivial⟩, hS.F ht⟩) hS.2.2 dX9_in_18
  · rw [lg_cmp_lt] at c_1
    refine lv_lload_n hx hb dX9_in_6 rfl (lv_at hl 0 rfl) ?_
    refine lv_lload hx hb dX9_in_7 (lv_at hl 2 rfl) ?_
    refine W.lcmp hx hb dX9_in_9 ?_
    refine lv_if_gt (tgt := 17) hx hb dX9_in_10 (by decide) (fun c_2 => ?_) (fun c_2 => ?_)
    · rw [lg_cmp_gt] at c_2
      refine lv_iconst (v := 0) hx hb dX9_in_17 (by decide) ?_
      exact W.zret (v := 0) hx hb hr rfl (fun t ht hW => ⟨⟨0, (), rfl, (by rw [if_neg c_1, if_pos c_2]), trivial⟩, hS.F ht⟩) hS.2.2 dX9_in_18
    · rw [lg_cmp_gt] at c_2
      refine lv_iconst (v := 1) hx hb dX9_in_13 (by decide) ?_
      refine lv_goto (tgt := 18) hx hb dX9_in_14 (by decide) ?_
      exact W.zret (v := 1) hx hb hr rfl (fun t ht hW => ⟨⟨1, (), rfl, (by rw [if_neg c_1, if_neg c_2]), trivial⟩, hS.F ht⟩) hS.2.2 dX9_in_18
end

-- ===== PART A: goes FIRST, ahead of the names: the tables' words, and 'selects' of the private methods out of them =====
/-- a private method of a class that the tables say can be made, by its rows of tables_1 -/
def lw_okq (q : MethodName × Nat) : Prop := (q.1.cls ≠ "java/lang/invoke/MethodHandle" ∧ q.1.cls ≠ "java/lang/invoke/VarHandle") ∧ Cond.instantiable q.1.cls q.2 ∈ tables_1 ∧ Cond.privateMethod q.1 ∈ tables_1 ∧ Cond.instanceMethod q.1 ∈ tables_1
theorem lw_p0 : lw_okq (⟨"TwoThirdsOfAnEgg", "refused", "(II)I"⟩, 12) := ⟨⟨by decide +kernel, by decide +kernel⟩, List.mem_of_getElem? (i := 21) (by decide +kernel), List.mem_of_getElem? (i := 256) (by decide +kernel), List.mem_of_getElem? (i := 257) (by decide +kernel)⟩
theorem lw_p1 : lw_okq (⟨"TwoThirdsOfAnEgg", "refused", "(III)I"⟩, 12) := ⟨⟨by decide +kernel, by decide +kernel⟩, List.mem_of_getElem? (i := 21) (by decide +kernel), List.mem_of_getElem? (i := 260) (by decide +kernel), List.mem_of_getElem? (i := 261) (by decide +kernel)⟩
theorem lw_p2 : lw_okq (⟨"TwoThirdsOfAnEgg$Book", "hasForm", "()Z"⟩, 3) := ⟨⟨by decide +kernel, by decide +kernel⟩, List.mem_of_getElem? (i := 124) (by decide +kernel), List.mem_of_getElem? (i := 296) (by decide +kernel), List.mem_of_getElem? (i := 297) (by decide +kernel)⟩
theorem lw_p3 : lw_okq (⟨"TwoThirdsOfAnEgg$Book", "statementRead", "()Z"⟩, 3) := ⟨⟨by decide +kernel, by decide +kernel⟩, List.mem_of_getElem? (i := 124) (by decide +kernel), List.mem_of_getElem? (i := 301) (by decide +kernel), List.mem_of_getElem? (i := 302) (by decide +kernel)⟩
theorem lw_p4 : lw_okq (⟨"TwoThirdsOfAnEgg$Book", "signRead", "(C)Z"⟩, 3) := ⟨⟨by decide +kernel, by decide +kernel⟩, List.mem_of_getElem? (i := 124) (by decide +kernel), List.mem_of_getElem? (i := 365) (by decide +kernel), List.mem_of_getElem? (i := 366) (by decide +kernel)⟩
theorem lw_p5 : lw_okq (⟨"TwoThirdsOfAnEgg$Book", "numberRead", "(II)Z"⟩, 3) := ⟨⟨by decide +kernel, by decide +kernel⟩, List.mem_of_getElem? (i := 124) (by decide +kernel), List.mem_of_getElem? (i := 369) (by decide +kernel), List.mem_of_getElem? (i := 370) (by decide +kernel)⟩
theorem lw_p6 : lw_okq (⟨"TwoThirdsOfAnEgg$Book", "shapeRead", "()Z"⟩, 3) := ⟨⟨by decide +kernel, by decide +kernel⟩, List.mem_of_getElem? (i := 124) (by decide +kernel), List.mem_of_getElem? (i := 374) (by decide +kernel), List.mem_of_getElem? (i := 375) (by decide +kernel)⟩
theorem lw_p7 : lw_okq (⟨"TwoThirdsOfAnEgg$Book", "statementsTo", "(LTwoThirdsOfAnEgg$Kitchen;)I"⟩, 3) := ⟨⟨by decide +kernel, by decide +kernel⟩, List.mem_of_getElem? (i := 124) (by decide +kernel), List.mem_of_getElem? (i := 382) (by decide +kernel), List.mem_of_getElem? (i := 383) (by decide +kernel)⟩
theorem lw_p8 : lw_okq (⟨"TwoThirdsOfAnEgg$Book", "statementCame", "(LTwoThirdsOfAnEgg$Kitchen;I)Z"⟩, 3) := ⟨⟨by decide +kernel, by decide +kernel⟩, List.mem_of_getElem? (i := 124) (by decide +kernel), List.mem_of_getElem? (i := 386) (by decide +kernel), List.mem_of_getElem? (i := 387) (by decide +kernel)⟩
theorem lw_p9 : lw_okq (⟨"TwoThirdsOfAnEgg$Book", "forCame", "(LTwoThirdsOfAnEgg$Kitchen;)Z"⟩, 3) := ⟨⟨by decide +kernel, by decide +kernel⟩, List.mem_of_getElem? (i := 124) (by decide +kernel), List.mem_of_getElem? (i := 390) (by decide +kernel), List.mem_of_getElem? (i := 391) (by decide +kernel)⟩
theorem lw_p10 : lw_okq (⟨"TwoThirdsOfAnEgg$Book", "within", "(III)Z"⟩, 3) := ⟨⟨by decide +kernel, by decide +kernel⟩, List.mem_of_getElem? (i := 124) (by decide +kernel), List.mem_of_getElem? (i := 394) (by decide +kernel), List.mem_of_getElem? (i := 395) (by decide +kernel)⟩
theorem lw_p11 : lw_okq (⟨"TwoThirdsOfAnEgg$Book", "number", "(I)I"⟩, 3) := ⟨⟨by decide +kernel, by decide +kernel⟩, List.mem_of_getElem? (i := 124) (by decide +kernel), List.mem_of_getElem? (i := 398) (by decide +kernel), List.mem_of_getElem? (i := 399) (by decide +kernel)⟩
theorem lw_p12 : lw_okq (⟨"TwoThirdsOfAnEgg$Book", "partCame", "(LTwoThirdsOfAnEgg$Kitchen;)Z"⟩, 3) := ⟨⟨by decide +kernel, by decide +kernel⟩, List.mem_of_getElem? (i := 124) (by decide +kernel), List.mem_of_getElem? (i := 402) (by decide +kernel), List.mem_of_getElem? (i := 403) (by decide +kernel)⟩
theorem lw_p13 : lw_okq (⟨"TwoThirdsOfAnEgg$Book", "lineCame", "(LTwoThirdsOfAnEgg$Table;)Z"⟩, 3) := ⟨⟨by decide +kernel, by decide +kernel⟩, List.mem_of_getElem? (i := 124) (by decide +kernel), List.mem_of_getElem? (i := 406) (by decide +kernel), List.mem_of_getElem? (i := 407) (by decide +kernel)⟩
theorem lw_p14 : lw_okq (⟨"TwoThirdsOfAnEgg$Book", "houseCame", "(LTwoThirdsOfAnEgg$Kitchen;)Z"⟩, 3) := ⟨⟨by decide +kernel, by decide +kernel⟩, List.mem_of_getElem? (i := 124) (by decide +kernel), List.mem_of_getElem? (i := 411) (by decide +kernel), List.mem_of_getElem? (i := 412) (by decide +kernel)⟩
theorem lw_p15 : lw_okq (⟨"TwoThirdsOfAnEgg$Book", "tinCame", "(LTwoThirdsOfAnEgg$Kitchen;)Z"⟩, 3) := ⟨⟨by decide +kernel, by decide +kernel⟩, List.mem_of_getElem? (i := 124) (by decide +kernel), List.mem_of_getElem? (i := 419) (by decide +kernel), List.mem_of_getElem? (i := 420) (by decide +kernel)⟩
def lw_privs_1 : List (MethodName × Nat) := [(⟨"TwoThirdsOfAnEgg", "refused", "(II)I"⟩, 12), (⟨"TwoThirdsOfAnEgg", "refused", "(III)I"⟩, 12), (⟨"TwoThirdsOfAnEgg$Book", "hasForm", "()Z"⟩, 3), (⟨"TwoThirdsOfAnEgg$Book", "statementRead", "()Z"⟩, 3), (⟨"TwoThirdsOfAnEgg$Book", "signRead", "(C)Z"⟩, 3), (⟨"TwoThirdsOfAnEgg$Book", "numberRead", "(II)Z"⟩, 3), (⟨"TwoThirdsOfAnEgg$Book", "shapeRead", "()Z"⟩, 3), (⟨"TwoThirdsOfAnEgg$Book", "statementsTo", "(LTwoThirdsOfAnEgg$Kitchen;)I"⟩, 3), (⟨"TwoThirdsOfAnEgg$Book", "statementCame", "(LTwoThirdsOfAnEgg$Kitchen;I)Z"⟩, 3), (⟨"TwoThirdsOfAnEgg$Book", "forCame", "(LTwoThirdsOfAnEgg$Kitchen;)Z"⟩, 3), (⟨"TwoThirdsOfAnEgg$Book", "within", "(III)Z"⟩, 3), (⟨"TwoThirdsOfAnEgg$Book", "number", "(I)I"⟩, 3), (⟨"TwoThirdsOfAnEgg$Book", "partCame", "(LTwoThirdsOfAnEgg$Kitchen;)Z"⟩, 3), (⟨"TwoThirdsOfAnEgg$Book", "lineCame", "(LTwoThirdsOfAnEgg$Table;)Z"⟩, 3), (⟨"TwoThirdsOfAnEgg$Book", "houseCame", "(LTwoThirdsOfAnEgg$Kitchen;)Z"⟩, 3), (⟨"TwoThirdsOfAnEgg$Book", "tinCame", "(LTwoThirdsOfAnEgg$Kitchen;)Z"⟩, 3)]
theorem lw_r1 : ∀ q ∈ lw_privs_1, lw_okq q := List.forall_mem_cons.mpr ⟨lw_p0, List.forall_mem_cons.mpr ⟨lw_p1, List.forall_mem_cons.mpr ⟨lw_p2, List.forall_mem_cons.mpr ⟨lw_p3, List.forall_mem_cons.mpr ⟨lw_p4, List.forall_mem_cons.mpr ⟨lw_p5, List.forall_mem_cons.mpr ⟨lw_p6, List.forall_mem_cons.mpr ⟨lw_p7, List.forall_mem_cons.mpr ⟨lw_p8, List.forall_mem_cons.mpr ⟨lw_p9, List.forall_mem_cons.mpr ⟨lw_p10, List.forall_mem_cons.mpr ⟨lw_p11, List.forall_mem_cons.mpr ⟨lw_p12, List.forall_mem_cons.mpr ⟨lw_p13, List.forall_mem_cons.mpr ⟨lw_p14, List.forall_mem_cons.mpr ⟨lw_p15, fun _ h => absurd h List.not_mem_nil⟩⟩⟩⟩⟩⟩⟩⟩⟩⟩⟩⟩⟩⟩⟩⟩
theorem lw_p16 : lw_okq (⟨"TwoThirdsOfAnEgg$Book", "standInCame", "(LTwoThirdsOfAnEgg$Kitchen;)Z"⟩, 3) := ⟨⟨by decide +kernel, by decide +kernel⟩, List.mem_of_getElem? (i := 124) (by decide +kernel), List.mem_of_getElem? (i := 423) (by decide +kernel), List.mem_of_getElem? (i := 424) (by decide +kernel)⟩
theorem lw_p17 : lw_okq (⟨"TwoThirdsOfAnEgg$Book", "cupsCame", "(LTwoThirdsOfAnEgg$Kitchen;)Z"⟩, 3) := ⟨⟨by decide +kernel, by decide +kernel⟩, List.mem_of_getElem? (i := 124) (by decide +kernel), List.mem_of_getElem? (i := 430) (by decide +kernel), List.mem_of_getElem? (i := 431) (by decide +kernel)⟩
theorem lw_p18 : lw_okq (⟨"TwoThirdsOfAnEgg", "noPart", "(I)I"⟩, 12) := ⟨⟨by decide +kernel, by decide +kernel⟩, List.mem_of_getElem? (i := 21) (by decide +kernel), List.mem_of_getElem? (i := 439) (by decide +kernel), List.mem_of_getElem? (i := 440) (by decide +kernel)⟩
theorem lw_p19 : lw_okq (⟨"TwoThirdsOfAnEgg", "refused", "(I)I"⟩, 12) := ⟨⟨by decide +kernel, by decide +kernel⟩, List.mem_of_getElem? (i := 21) (by decide +kernel), List.mem_of_getElem? (i := 478) (by decide +kernel), List.mem_of_getElem? (i := 479) (by decide +kernel)⟩
theorem lw_p20 : lw_okq (⟨"TwoThirdsOfAnEgg", "partBecomes", "(III)I"⟩, 12) := ⟨⟨by decide +kernel, by decide +kernel⟩, List.mem_of_getElem? (i := 21) (by decide +kernel), List.mem_of_getElem? (i := 496) (by decide +kernel), List.mem_of_getElem? (i := 497) (by decide +kernel)⟩
theorem lw_p21 : lw_okq (⟨"TwoThirdsOfAnEgg$Stores", "letStandIn", "(LTwoThirdsOfAnEgg$Kitchen;II)V"⟩, 1) := ⟨⟨by decide +kernel, by decide +kernel⟩, List.mem_of_getElem? (i := 144) (by decide +kernel), List.mem_of_getElem? (i := 653) (by decide +kernel), List.mem_of_getElem? (i := 654) (by decide +kernel)⟩
theorem lw_p22 : lw_okq (⟨"TwoThirdsOfAnEgg$Stores", "letMake", "(III)V"⟩, 1) := ⟨⟨by decide +kernel, by decide +kernel⟩, List.mem_of_getElem? (i := 144) (by decide +kernel), List.mem_of_getElem? (i := 664) (by decide +kernel), List.mem_of_getElem? (i := 665) (by decide +kernel)⟩
theorem lw_p23 : lw_okq (⟨"TwoThirdsOfAnEgg$Pouring", "seekAll", "(LTwoThirdsOfAnEgg$Table;)V"⟩, 2) := ⟨⟨by decide +kernel, by decide +kernel⟩, List.mem_of_getElem? (i := 156) (by decide +kernel), List.mem_of_getElem? (i := 680) (by decide +kernel), List.mem_of_getElem? (i := 681) (by decide +kernel)⟩
theorem lw_p24 : lw_okq (⟨"TwoThirdsOfAnEgg$Pouring", "comes", "(III)V"⟩, 2) := ⟨⟨by decide +kernel, by decide +kernel⟩, List.mem_of_getElem? (i := 156) (by decide +kernel), List.mem_of_getElem? (i := 685) (by decide +kernel), List.mem_of_getElem? (i := 686) (by decide +kernel)⟩
theorem lw_p25 : lw_okq (⟨"TwoThirdsOfAnEgg$Pouring", "goOnFrom", "(IILTwoThirdsOfAnEgg$Table;)V"⟩, 2) := ⟨⟨by decide +kernel, by decide +kernel⟩, List.mem_of_getElem? (i := 156) (by decide +kernel), List.mem_of_getElem? (i := 693) (by decide +kernel), List.mem_of_getElem? (i := 694) (by decide +kernel)⟩
theorem lw_p26 : lw_okq (⟨"TwoThirdsOfAnEgg$Pouring", "firstWith", "(I)I"⟩, 2) := ⟨⟨by decide +kernel, by decide +kernel⟩, List.mem_of_getElem? (i := 156) (by decide +kernel), List.mem_of_getElem? (i := 705) (by decide +kernel), List.mem_of_getElem? (i := 706) (by decide +kernel)⟩
theorem lw_p27 : lw_okq (⟨"TwoThirdsOfAnEgg$Pouring", "stepsTo", "(I)I"⟩, 2) := ⟨⟨by decide +kernel, by decide +kernel⟩, List.mem_of_getElem? (i := 156) (by decide +kernel), List.mem_of_getElem? (i := 709) (by decide +kernel), List.mem_of_getElem? (i := 710) (by decide +kernel)⟩
theorem lw_p28 : lw_okq (⟨"TwoThirdsOfAnEgg", "noPartOf", "(II)I"⟩, 12) := ⟨⟨by decide +kernel, by decide +kernel⟩, List.mem_of_getElem? (i := 21) (by decide +kernel), List.mem_of_getElem? (i := 738) (by decide +kernel), List.mem_of_getElem? (i := 739) (by decide +kernel)⟩
theorem lw_p29 : lw_okq (⟨"TwoThirdsOfAnEgg", "rowNotForParts", "()I"⟩, 12) := ⟨⟨by decide +kernel, by decide +kernel⟩, List.mem_of_getElem? (i := 21) (by decide +kernel), List.mem_of_getElem? (i := 774) (by decide +kernel), List.mem_of_getElem? (i := 775) (by decide +kernel)⟩
theorem lw_p30 : lw_okq (⟨"TwoThirdsOfAnEgg$Balance", "seekAll", "(LTwoThirdsOfAnEgg$Table;)V"⟩, 1) := ⟨⟨by decide +kernel, by decide +kernel⟩, List.mem_of_getElem? (i := 171) (by decide +kernel), List.mem_of_getElem? (i := 868) (by decide +kernel), List.mem_of_getElem? (i := 869) (by decide +kernel)⟩
theorem lw_p31 : lw_okq (⟨"TwoThirdsOfAnEgg$Balance", "seen", "(LTwoThirdsOfAnEgg$Table;II)V"⟩, 1) := ⟨⟨by decide +kernel, by decide +kernel⟩, List.mem_of_getElem? (i := 171) (by decide +kernel), List.mem_of_getElem? (i := 874) (by decide +kernel), List.mem_of_getElem? (i := 875) (by decide +kernel)⟩
def lw_privs_2 : List (MethodName × Nat) := [(⟨"TwoThirdsOfAnEgg$Book", "standInCame", "(LTwoThirdsOfAnEgg$Kitchen;)Z"⟩, 3), (⟨"TwoThirdsOfAnEgg$Book", "cupsCame", "(LTwoThirdsOfAnEgg$Kitchen;)Z"⟩, 3), (⟨"TwoThirdsOfAnEgg", "noPart", "(I)I"⟩, 12), (⟨"TwoThirdsOfAnEgg", "refused", "(I)I"⟩, 12), (⟨"TwoThirdsOfAnEgg", "partBecomes", "(III)I"⟩, 12), (⟨"TwoThirdsOfAnEgg$Stores", "letStandIn", "(LTwoThirdsOfAnEgg$Kitchen;II)V"⟩, 1), (⟨"TwoThirdsOfAnEgg$Stores", "letMake", "(III)V"⟩, 1), (⟨"TwoThirdsOfAnEgg$Pouring", "seekAll", "(LTwoThirdsOfAnEgg$Table;)V"⟩, 2), (⟨"TwoThirdsOfAnEgg$Pouring", "comes", "(III)V"⟩, 2), (⟨"TwoThirdsOfAnEgg$Pouring", "goOnFrom", "(IILTwoThirdsOfAnEgg$Table;)V"⟩, 2), (⟨"TwoThirdsOfAnEgg$Pouring", "firstWith", "(I)I"⟩, 2), (⟨"TwoThirdsOfAnEgg$Pouring", "stepsTo", "(I)I"⟩, 2), (⟨"TwoThirdsOfAnEgg", "noPartOf", "(II)I"⟩, 12), (⟨"TwoThirdsOfAnEgg", "rowNotForParts", "()I"⟩, 12), (⟨"TwoThirdsOfAnEgg$Balance", "seekAll", "(LTwoThirdsOfAnEgg$Table;)V"⟩, 1), (⟨"TwoThirdsOfAnEgg$Balance", "seen", "(LTwoThirdsOfAnEgg$Table;II)V"⟩, 1)]
theorem lw_r2 : ∀ q ∈ lw_privs_2, lw_okq q := List.forall_mem_cons.mpr ⟨lw_p16, List.forall_mem_cons.mpr ⟨lw_p17, List.forall_mem_cons.mpr ⟨lw_p18, List.forall_mem_cons.mpr ⟨lw_p19, List.forall_mem_cons.mpr ⟨lw_p20, List.forall_mem_cons.mpr ⟨lw_p21, List.forall_mem_cons.mpr ⟨lw_p22, List.forall_mem_cons.mpr ⟨lw_p23, List.forall_mem_cons.mpr ⟨lw_p24, List.forall_mem_cons.mpr ⟨lw_p25, List.forall_mem_cons.mpr ⟨lw_p26, List.forall_mem_cons.mpr ⟨lw_p27, List.forall_mem_cons.mpr ⟨lw_p28, List.forall_mem_cons.mpr ⟨lw_p29, List.forall_mem_cons.mpr ⟨lw_p30, List.forall_mem_cons.mpr ⟨lw_p31, fun _ h => absurd h List.not_mem_nil⟩⟩⟩⟩⟩⟩⟩⟩⟩⟩⟩⟩⟩⟩⟩⟩
theorem lw_p32 : lw_okq (⟨"TwoThirdsOfAnEgg$Minutes", "freeFirst", "()I"⟩, 1) := ⟨⟨by decide +kernel, by decide +kernel⟩, List.mem_of_getElem? (i := 183) (by decide +kernel), List.mem_of_getElem? (i := 907) (by decide +kernel), List.mem_of_getElem? (i := 908) (by decide +kernel)⟩
theorem lw_p33 : lw_okq (⟨"TwoThirdsOfAnEgg$Minutes", "putOn", "(II)V"⟩, 1) := ⟨⟨by decide +kernel, by decide +kernel⟩, List.mem_of_getElem? (i := 183) (by decide +kernel), List.mem_of_getElem? (i := 912) (by decide +kernel), List.mem_of_getElem? (i := 913) (by decide +kernel)⟩
theorem lw_p34 : lw_okq (⟨"TwoThirdsOfAnEgg$Minutes", "allDone", "()I"⟩, 1) := ⟨⟨by decide +kernel, by decide +kernel⟩, List.mem_of_getElem? (i := 183) (by decide +kernel), List.mem_of_getElem? (i := 917) (by decide +kernel), List.mem_of_getElem? (i := 918) (by decide +kernel)⟩
theorem lw_p35 : lw_okq (⟨"TwoThirdsOfAnEgg$Minutes", "nextWay", "(LTwoThirdsOfAnEgg$Table;II)I"⟩, 1) := ⟨⟨by decide +kernel, by decide +kernel⟩, List.mem_of_getElem? (i := 183) (by decide +kernel), List.mem_of_getElem? (i := 930) (by decide +kernel), List.mem_of_getElem? (i := 931) (by decide +kernel)⟩
theorem lw_p36 : lw_okq (⟨"TwoThirdsOfAnEgg", "notTwoParts", "(II)I"⟩, 12) := ⟨⟨by decide +kernel, by decide +kernel⟩, List.mem_of_getElem? (i := 21) (by decide +kernel), List.mem_of_getElem? (i := 952) (by decide +kernel), List.mem_of_getElem? (i := 953) (by decide +kernel)⟩
theorem lw_p37 : lw_okq (⟨"TwoThirdsOfAnEggModel", "refuse", "(I)I"⟩, 50) := ⟨⟨by decide +kernel, by decide +kernel⟩, List.mem_of_getElem? (i := 1033) (by decide +kernel), List.mem_of_getElem? (i := 1195) (by decide +kernel), List.mem_of_getElem? (i := 1196) (by decide +kernel)⟩
theorem lw_p38 : lw_okq (⟨"TwoThirdsOfAnEggModel", "readStatement", "()V"⟩, 50) := ⟨⟨by decide +kernel, by decide +kernel⟩, List.mem_of_getElem? (i := 1033) (by decide +kernel), List.mem_of_getElem? (i := 1203) (by decide +kernel), List.mem_of_getElem? (i := 1204) (by decide +kernel)⟩
theorem lw_p39 : lw_okq (⟨"TwoThirdsOfAnEggModel", "here", "()I"⟩, 50) := ⟨⟨by decide +kernel, by decide +kernel⟩, List.mem_of_getElem? (i := 1033) (by decide +kernel), List.mem_of_getElem? (i := 1207) (by decide +kernel), List.mem_of_getElem? (i := 1208) (by decide +kernel)⟩
theorem lw_p40 : lw_okq (⟨"TwoThirdsOfAnEggModel", "readOneOrTwo", "()I"⟩, 50) := ⟨⟨by decide +kernel, by decide +kernel⟩, List.mem_of_getElem? (i := 1033) (by decide +kernel), List.mem_of_getElem? (i := 1211) (by decide +kernel), List.mem_of_getElem? (i := 1212) (by decide +kernel)⟩
theorem lw_p41 : lw_okq (⟨"TwoThirdsOfAnEggModel", "readDigit", "()I"⟩, 50) := ⟨⟨by decide +kernel, by decide +kernel⟩, List.mem_of_getElem? (i := 1033) (by decide +kernel), List.mem_of_getElem? (i := 1215) (by decide +kernel), List.mem_of_getElem? (i := 1216) (by decide +kernel)⟩
theorem lw_p42 : lw_okq (⟨"TwoThirdsOfAnEggModel", "readMany", "(II)V"⟩, 50) := ⟨⟨by decide +kernel, by decide +kernel⟩, List.mem_of_getElem? (i := 1033) (by decide +kernel), List.mem_of_getElem? (i := 1224) (by decide +kernel), List.mem_of_getElem? (i := 1225) (by decide +kernel)⟩
theorem lw_p43 : lw_okq (⟨"TwoThirdsOfAnEggModel", "take", "(I)V"⟩, 50) := ⟨⟨by decide +kernel, by decide +kernel⟩, List.mem_of_getElem? (i := 1033) (by decide +kernel), List.mem_of_getElem? (i := 1228) (by decide +kernel), List.mem_of_getElem? (i := 1229) (by decide +kernel)⟩
theorem lw_p44 : lw_okq (⟨"TwoThirdsOfAnEggModel", "readShape", "()I"⟩, 50) := ⟨⟨by decide +kernel, by decide +kernel⟩, List.mem_of_getElem? (i := 1033) (by decide +kernel), List.mem_of_getElem? (i := 1232) (by decide +kernel), List.mem_of_getElem? (i := 1233) (by decide +kernel)⟩
theorem lw_p45 : lw_okq (⟨"TwoThirdsOfAnEggModel", "readTwo", "()I"⟩, 50) := ⟨⟨by decide +kernel, by decide +kernel⟩, List.mem_of_getElem? (i := 1033) (by decide +kernel), List.mem_of_getElem? (i := 1236) (by decide +kernel), List.mem_of_getElem? (i := 1237) (by decide +kernel)⟩
theorem lw_p46 : lw_okq (⟨"TwoThirdsOfAnEggModel", "carryAll", "([IZ)V"⟩, 50) := ⟨⟨by decide +kernel, by decide +kernel⟩, List.mem_of_getElem? (i := 1033) (by decide +kernel), List.mem_of_getElem? (i := 1240) (by decide +kernel), List.mem_of_getElem? (i := 1241) (by decide +kernel)⟩
theorem lw_p47 : lw_okq (⟨"TwoThirdsOfAnEggModel", "carry", "(I)I"⟩, 50) := ⟨⟨by decide +kernel, by decide +kernel⟩, List.mem_of_getElem? (i := 1033) (by decide +kernel), List.mem_of_getElem? (i := 1244) (by decide +kernel), List.mem_of_getElem? (i := 1245) (by decide +kernel)⟩
def lw_privs_3 : List (MethodName × Nat) := [(⟨"TwoThirdsOfAnEgg$Minutes", "freeFirst", "()I"⟩, 1), (⟨"TwoThirdsOfAnEgg$Minutes", "putOn", "(II)V"⟩, 1), (⟨"TwoThirdsOfAnEgg$Minutes", "allDone", "()I"⟩, 1), (⟨"TwoThirdsOfAnEgg$Minutes", "nextWay", "(LTwoThirdsOfAnEgg$Table;II)I"⟩, 1), (⟨"TwoThirdsOfAnEgg", "notTwoParts", "(II)I"⟩, 12), (⟨"TwoThirdsOfAnEggModel", "refuse", "(I)I"⟩, 50), (⟨"TwoThirdsOfAnEggModel", "readStatement", "()V"⟩, 50), (⟨"TwoThirdsOfAnEggModel", "here", "()I"⟩, 50), (⟨"TwoThirdsOfAnEggModel", "readOneOrTwo", "()I"⟩, 50), (⟨"TwoThirdsOfAnEggModel", "readDigit", "()I"⟩, 50), (⟨"TwoThirdsOfAnEggModel", "readMany", "(II)V"⟩, 50), (⟨"TwoThirdsOfAnEggModel", "take", "(I)V"⟩, 50), (⟨"TwoThirdsOfAnEggModel", "readShape", "()I"⟩, 50), (⟨"TwoThirdsOfAnEggModel", "readTwo", "()I"⟩, 50), (⟨"TwoThirdsOfAnEggModel", "carryAll", "([IZ)V"⟩, 50), (⟨"TwoThirdsOfAnEggModel", "carry", "(I)I"⟩, 50)]
theorem lw_r3 : ∀ q ∈ lw_privs_3, lw_okq q := List.forall_mem_cons.mpr ⟨lw_p32, List.forall_mem_cons.mpr ⟨lw_p33, List.forall_mem_cons.mpr ⟨lw_p34, List.forall_mem_cons.mpr ⟨lw_p35, List.forall_mem_cons.mpr ⟨lw_p36, List.forall_mem_cons.mpr ⟨lw_p37, List.forall_mem_cons.mpr ⟨lw_p38, List.forall_mem_cons.mpr ⟨lw_p39, List.forall_mem_cons.mpr ⟨lw_p40, List.forall_mem_cons.mpr ⟨lw_p41, List.forall_mem_cons.mpr ⟨lw_p42, List.forall_mem_cons.mpr ⟨lw_p43, List.forall_mem_cons.mpr ⟨lw_p44, List.forall_mem_cons.mpr ⟨lw_p45, List.forall_mem_cons.mpr ⟨lw_p46, List.forall_mem_cons.mpr ⟨lw_p47, fun _ h => absurd h List.not_mem_nil⟩⟩⟩⟩⟩⟩⟩⟩⟩⟩⟩⟩⟩⟩⟩⟩
theorem lw_p48 : lw_okq (⟨"TwoThirdsOfAnEggModel", "comes", "(I)Z"⟩, 50) := ⟨⟨by decide +kernel, by decide +kernel⟩, List.mem_of_getElem? (i := 1033) (by decide +kernel), List.mem_of_getElem? (i := 1248) (by decide +kernel), List.mem_of_getElem? (i := 1249) (by decide +kernel)⟩
theorem lw_p49 : lw_okq (⟨"TwoThirdsOfAnEggModel", "partComes", "(I)Z"⟩, 50) := ⟨⟨by decide +kernel, by decide +kernel⟩, List.mem_of_getElem? (i := 1033) (by decide +kernel), List.mem_of_getElem? (i := 1253) (by decide +kernel), List.mem_of_getElem? (i := 1254) (by decide +kernel)⟩
theorem lw_p50 : lw_okq (⟨"TwoThirdsOfAnEggModel", "isPart", "(I)Z"⟩, 50) := ⟨⟨by decide +kernel, by decide +kernel⟩, List.mem_of_getElem? (i := 1033) (by decide +kernel), List.mem_of_getElem? (i := 1257) (by decide +kernel), List.mem_of_getElem? (i := 1258) (by decide +kernel)⟩
theorem lw_p51 : lw_okq (⟨"TwoThirdsOfAnEggModel", "tinComes", "(II)Z"⟩, 50) := ⟨⟨by decide +kernel, by decide +kernel⟩, List.mem_of_getElem? (i := 1033) (by decide +kernel), List.mem_of_getElem? (i := 1261) (by decide +kernel), List.mem_of_getElem? (i := 1262) (by decide +kernel)⟩
theorem lw_p52 : lw_okq (⟨"TwoThirdsOfAnEggModel", "standInComes", "(I)Z"⟩, 50) := ⟨⟨by decide +kernel, by decide +kernel⟩, List.mem_of_getElem? (i := 1033) (by decide +kernel), List.mem_of_getElem? (i := 1266) (by decide +kernel), List.mem_of_getElem? (i := 1267) (by decide +kernel)⟩
theorem lw_p53 : lw_okq (⟨"TwoThirdsOfAnEggModel", "hasStandIn", "(II)Z"⟩, 50) := ⟨⟨by decide +kernel, by decide +kernel⟩, List.mem_of_getElem? (i := 1033) (by decide +kernel), List.mem_of_getElem? (i := 1270) (by decide +kernel), List.mem_of_getElem? (i := 1271) (by decide +kernel)⟩
theorem lw_p54 : lw_okq (⟨"TwoThirdsOfAnEggModel", "cupsCome", "(III)Z"⟩, 50) := ⟨⟨by decide +kernel, by decide +kernel⟩, List.mem_of_getElem? (i := 1033) (by decide +kernel), List.mem_of_getElem? (i := 1274) (by decide +kernel), List.mem_of_getElem? (i := 1275) (by decide +kernel)⟩
theorem lw_p55 : lw_okq (⟨"TwoThirdsOfAnEggModel", "takenFor", "(II)I"⟩, 50) := ⟨⟨by decide +kernel, by decide +kernel⟩, List.mem_of_getElem? (i := 1033) (by decide +kernel), List.mem_of_getElem? (i := 1291) (by decide +kernel), List.mem_of_getElem? (i := 1292) (by decide +kernel)⟩
theorem lw_p56 : lw_okq (⟨"TwoThirdsOfAnEggModel", "takenBy", "(III)I"⟩, 50) := ⟨⟨by decide +kernel, by decide +kernel⟩, List.mem_of_getElem? (i := 1033) (by decide +kernel), List.mem_of_getElem? (i := 1295) (by decide +kernel), List.mem_of_getElem? (i := 1296) (by decide +kernel)⟩
theorem lw_p57 : lw_okq (⟨"TwoThirdsOfAnEggModel", "leftOf", "(I)I"⟩, 50) := ⟨⟨by decide +kernel, by decide +kernel⟩, List.mem_of_getElem? (i := 1033) (by decide +kernel), List.mem_of_getElem? (i := 1311) (by decide +kernel), List.mem_of_getElem? (i := 1312) (by decide +kernel)⟩
theorem lw_p58 : lw_okq (⟨"TwoThirdsOfAnEggModel", "keepGuests", "()V"⟩, 50) := ⟨⟨by decide +kernel, by decide +kernel⟩, List.mem_of_getElem? (i := 1033) (by decide +kernel), List.mem_of_getElem? (i := 1322) (by decide +kernel), List.mem_of_getElem? (i := 1323) (by decide +kernel)⟩
theorem lw_p59 : lw_okq (⟨"TwoThirdsOfAnEggModel", "offOf", "(I)I"⟩, 50) := ⟨⟨by decide +kernel, by decide +kernel⟩, List.mem_of_getElem? (i := 1033) (by decide +kernel), List.mem_of_getElem? (i := 1353) (by decide +kernel), List.mem_of_getElem? (i := 1354) (by decide +kernel)⟩
theorem lw_p60 : lw_okq (⟨"TwoThirdsOfAnEggModel", "offBy", "(III)I"⟩, 50) := ⟨⟨by decide +kernel, by decide +kernel⟩, List.mem_of_getElem? (i := 1033) (by decide +kernel), List.mem_of_getElem? (i := 1357) (by decide +kernel), List.mem_of_getElem? (i := 1358) (by decide +kernel)⟩
theorem lw_p61 : lw_okq (⟨"TwoThirdsOfAnEggModel", "isOut", "(I)Z"⟩, 50) := ⟨⟨by decide +kernel, by decide +kernel⟩, List.mem_of_getElem? (i := 1033) (by decide +kernel), List.mem_of_getElem? (i := 1369) (by decide +kernel), List.mem_of_getElem? (i := 1370) (by decide +kernel)⟩
theorem lw_p62 : lw_okq (⟨"TwoThirdsOfAnEggModel", "greatestOff", "(I)I"⟩, 50) := ⟨⟨by decide +kernel, by decide +kernel⟩, List.mem_of_getElem? (i := 1033) (by decide +kernel), List.mem_of_getElem? (i := 1378) (by decide +kernel), List.mem_of_getElem? (i := 1379) (by decide +kernel)⟩
theorem lw_p63 : lw_okq (⟨"TwoThirdsOfAnEggModel", "isTin", "(I)Z"⟩, 50) := ⟨⟨by decide +kernel, by decide +kernel⟩, List.mem_of_getElem? (i := 1033) (by decide +kernel), List.mem_of_getElem? (i := 1386) (by decide +kernel), List.mem_of_getElem? (i := 1387) (by decide +kernel)⟩
def lw_privs_4 : List (MethodName × Nat) := [(⟨"TwoThirdsOfAnEggModel", "comes", "(I)Z"⟩, 50), (⟨"TwoThirdsOfAnEggModel", "partComes", "(I)Z"⟩, 50), (⟨"TwoThirdsOfAnEggModel", "isPart", "(I)Z"⟩, 50), (⟨"TwoThirdsOfAnEggModel", "tinComes", "(II)Z"⟩, 50), (⟨"TwoThirdsOfAnEggModel", "standInComes", "(I)Z"⟩, 50), (⟨"TwoThirdsOfAnEggModel", "hasStandIn", "(II)Z"⟩, 50), (⟨"TwoThirdsOfAnEggModel", "cupsCome", "(III)Z"⟩, 50), (⟨"TwoThirdsOfAnEggModel", "takenFor", "(II)I"⟩, 50), (⟨"TwoThirdsOfAnEggModel", "takenBy", "(III)I"⟩, 50), (⟨"TwoThirdsOfAnEggModel", "leftOf", "(I)I"⟩, 50), (⟨"TwoThirdsOfAnEggModel", "keepGuests", "()V"⟩, 50), (⟨"TwoThirdsOfAnEggModel", "offOf", "(I)I"⟩, 50), (⟨"TwoThirdsOfAnEggModel", "offBy", "(III)I"⟩, 50), (⟨"TwoThirdsOfAnEggModel", "isOut", "(I)Z"⟩, 50), (⟨"TwoThirdsOfAnEggModel", "greatestOff", "(I)I"⟩, 50), (⟨"TwoThirdsOfAnEggModel", "isTin", "(I)Z"⟩, 50)]
theorem lw_r4 : ∀ q ∈ lw_privs_4, lw_okq q := List.forall_mem_cons.mpr ⟨lw_p48, List.forall_mem_cons.mpr ⟨lw_p49, List.forall_mem_cons.mpr ⟨lw_p50, List.forall_mem_cons.mpr ⟨lw_p51, List.forall_mem_cons.mpr ⟨lw_p52, List.forall_mem_cons.mpr ⟨lw_p53, List.forall_mem_cons.mpr ⟨lw_p54, List.forall_mem_cons.mpr ⟨lw_p55, List.forall_mem_cons.mpr ⟨lw_p56, List.forall_mem_cons.mpr ⟨lw_p57, List.forall_mem_cons.mpr ⟨lw_p58, List.forall_mem_cons.mpr ⟨lw_p59, List.forall_mem_cons.mpr ⟨lw_p60, List.forall_mem_cons.mpr ⟨lw_p61, List.forall_mem_cons.mpr ⟨lw_p62, List.forall_mem_cons.mpr ⟨lw_p63, fun _ h => absurd h List.not_mem_nil⟩⟩⟩⟩⟩⟩⟩⟩⟩⟩⟩⟩⟩⟩⟩⟩
theorem lw_p64 : lw_okq (⟨"TwoThirdsOfAnEggModel", "areaOf", "(I)I"⟩, 50) := ⟨⟨by decide +kernel, by decide +kernel⟩, List.mem_of_getElem? (i := 1033) (by decide +kernel), List.mem_of_getElem? (i := 1391) (by decide +kernel), List.mem_of_getElem? (i := 1392) (by decide +kernel)⟩
theorem lw_p65 : lw_okq (⟨"TwoThirdsOfAnEggModel", "longIn", "(I)I"⟩, 50) := ⟨⟨by decide +kernel, by decide +kernel⟩, List.mem_of_getElem? (i := 1033) (by decide +kernel), List.mem_of_getElem? (i := 1395) (by decide +kernel), List.mem_of_getElem? (i := 1396) (by decide +kernel)⟩
theorem lw_p66 : lw_okq (⟨"TwoThirdsOfAnEggModel", "isEnough", "(I)Z"⟩, 50) := ⟨⟨by decide +kernel, by decide +kernel⟩, List.mem_of_getElem? (i := 1033) (by decide +kernel), List.mem_of_getElem? (i := 1411) (by decide +kernel), List.mem_of_getElem? (i := 1412) (by decide +kernel)⟩
theorem lw_p67 : lw_okq (⟨"TwoThirdsOfAnEggModel", "lackOf", "(I)I"⟩, 50) := ⟨⟨by decide +kernel, by decide +kernel⟩, List.mem_of_getElem? (i := 1033) (by decide +kernel), List.mem_of_getElem? (i := 1419) (by decide +kernel), List.mem_of_getElem? (i := 1420) (by decide +kernel)⟩
theorem lw_p68 : lw_okq (⟨"TwoThirdsOfAnEggModel", "timesOf", "(I)I"⟩, 50) := ⟨⟨by decide +kernel, by decide +kernel⟩, List.mem_of_getElem? (i := 1033) (by decide +kernel), List.mem_of_getElem? (i := 1433) (by decide +kernel), List.mem_of_getElem? (i := 1434) (by decide +kernel)⟩
theorem lw_p69 : lw_okq (⟨"TwoThirdsOfAnEggModel", "useOnce", "(II)V"⟩, 50) := ⟨⟨by decide +kernel, by decide +kernel⟩, List.mem_of_getElem? (i := 1033) (by decide +kernel), List.mem_of_getElem? (i := 1437) (by decide +kernel), List.mem_of_getElem? (i := 1438) (by decide +kernel)⟩
theorem lw_p70 : lw_okq (⟨"TwoThirdsOfAnEggModel", "pourAll", "()V"⟩, 50) := ⟨⟨by decide +kernel, by decide +kernel⟩, List.mem_of_getElem? (i := 1033) (by decide +kernel), List.mem_of_getElem? (i := 1449) (by decide +kernel), List.mem_of_getElem? (i := 1450) (by decide +kernel)⟩
theorem lw_p71 : lw_okq (⟨"TwoThirdsOfAnEggModel", "reach", "(II)V"⟩, 50) := ⟨⟨by decide +kernel, by decide +kernel⟩, List.mem_of_getElem? (i := 1033) (by decide +kernel), List.mem_of_getElem? (i := 1453) (by decide +kernel), List.mem_of_getElem? (i := 1454) (by decide +kernel)⟩
theorem lw_p72 : lw_okq (⟨"TwoThirdsOfAnEggModel", "stepsFrom", "(I)V"⟩, 50) := ⟨⟨by decide +kernel, by decide +kernel⟩, List.mem_of_getElem? (i := 1033) (by decide +kernel), List.mem_of_getElem? (i := 1457) (by decide +kernel), List.mem_of_getElem? (i := 1458) (by decide +kernel)⟩
theorem lw_p73 : lw_okq (⟨"TwoThirdsOfAnEggModel", "wrongMistake", "(II)I"⟩, 50) := ⟨⟨by decide +kernel, by decide +kernel⟩, List.mem_of_getElem? (i := 1033) (by decide +kernel), List.mem_of_getElem? (i := 1475) (by decide +kernel), List.mem_of_getElem? (i := 1476) (by decide +kernel)⟩
theorem lw_p74 : lw_okq (⟨"TwoThirdsOfAnEggModel", "mistakeBy", "(II)I"⟩, 50) := ⟨⟨by decide +kernel, by decide +kernel⟩, List.mem_of_getElem? (i := 1033) (by decide +kernel), List.mem_of_getElem? (i := 1479) (by decide +kernel), List.mem_of_getElem? (i := 1480) (by decide +kernel)⟩
theorem lw_p75 : lw_okq (⟨"TwoThirdsOfAnEggModel", "buyFor", "(I)I"⟩, 50) := ⟨⟨by decide +kernel, by decide +kernel⟩, List.mem_of_getElem? (i := 1033) (by decide +kernel), List.mem_of_getElem? (i := 1507) (by decide +kernel), List.mem_of_getElem? (i := 1508) (by decide +kernel)⟩
theorem lw_p76 : lw_okq (⟨"TwoThirdsOfAnEggModel", "weighHow", "(I)I"⟩, 50) := ⟨⟨by decide +kernel, by decide +kernel⟩, List.mem_of_getElem? (i := 1033) (by decide +kernel), List.mem_of_getElem? (i := 1523) (by decide +kernel), List.mem_of_getElem? (i := 1524) (by decide +kernel)⟩
theorem lw_p77 : lw_okq (⟨"TwoThirdsOfAnEggModel", "weighedBy", "(I)I"⟩, 50) := ⟨⟨by decide +kernel, by decide +kernel⟩, List.mem_of_getElem? (i := 1033) (by decide +kernel), List.mem_of_getElem? (i := 1530) (by decide +kernel), List.mem_of_getElem? (i := 1531) (by decide +kernel)⟩
theorem lw_p78 : lw_okq (⟨"TwoThirdsOfAnEggModel", "inTurn", "(I)I"⟩, 50) := ⟨⟨by decide +kernel, by decide +kernel⟩, List.mem_of_getElem? (i := 1033) (by decide +kernel), List.mem_of_getElem? (i := 1543) (by decide +kernel), List.mem_of_getElem? (i := 1544) (by decide +kernel)⟩
theorem lw_p79 : lw_okq (⟨"TwoThirdsOfAnEggModel", "emptyShelves", "()V"⟩, 50) := ⟨⟨by decide +kernel, by decide +kernel⟩, List.mem_of_getElem? (i := 1033) (by decide +kernel), List.mem_of_getElem? (i := 1547) (by decide +kernel), List.mem_of_getElem? (i := 1548) (by decide +kernel)⟩
def lw_privs_5 : List (MethodName × Nat) := [(⟨"TwoThirdsOfAnEggModel", "areaOf", "(I)I"⟩, 50), (⟨"TwoThirdsOfAnEggModel", "longIn", "(I)I"⟩, 50), (⟨"TwoThirdsOfAnEggModel", "isEnough", "(I)Z"⟩, 50), (⟨"TwoThirdsOfAnEggModel", "lackOf", "(I)I"⟩, 50), (⟨"TwoThirdsOfAnEggModel", "timesOf", "(I)I"⟩, 50), (⟨"TwoThirdsOfAnEggModel", "useOnce", "(II)V"⟩, 50), (⟨"TwoThirdsOfAnEggModel", "pourAll", "()V"⟩, 50), (⟨"TwoThirdsOfAnEggModel", "reach", "(II)V"⟩, 50), (⟨"TwoThirdsOfAnEggModel", "stepsFrom", "(I)V"⟩, 50), (⟨"TwoThirdsOfAnEggModel", "wrongMistake", "(II)I"⟩, 50), (⟨"TwoThirdsOfAnEggModel", "mistakeBy", "(II)I"⟩, 50), (⟨"TwoThirdsOfAnEggModel", "buyFor", "(I)I"⟩, 50), (⟨"TwoThirdsOfAnEggModel", "weighHow", "(I)I"⟩, 50), (⟨"TwoThirdsOfAnEggModel", "weighedBy", "(I)I"⟩, 50), (⟨"TwoThirdsOfAnEggModel", "inTurn", "(I)I"⟩, 50), (⟨"TwoThirdsOfAnEggModel", "emptyShelves", "()V"⟩, 50)]
theorem lw_r5 : ∀ q ∈ lw_privs_5, lw_okq q := List.forall_mem_cons.mpr ⟨lw_p64, List.forall_mem_cons.mpr ⟨lw_p65, List.forall_mem_cons.mpr ⟨lw_p66, List.forall_mem_cons.mpr ⟨lw_p67, List.forall_mem_cons.mpr ⟨lw_p68, List.forall_mem_cons.mpr ⟨lw_p69, List.forall_mem_cons.mpr ⟨lw_p70, List.forall_mem_cons.mpr ⟨lw_p71, List.forall_mem_cons.mpr ⟨lw_p72, List.forall_mem_cons.mpr ⟨lw_p73, List.forall_mem_cons.mpr ⟨lw_p74, List.forall_mem_cons.mpr ⟨lw_p75, List.forall_mem_cons.mpr ⟨lw_p76, List.forall_mem_cons.mpr ⟨lw_p77, List.forall_mem_cons.mpr ⟨lw_p78, List.forall_mem_cons.mpr ⟨lw_p79, fun _ h => absurd h List.not_mem_nil⟩⟩⟩⟩⟩⟩⟩⟩⟩⟩⟩⟩⟩⟩⟩⟩
theorem lw_p80 : lw_okq (⟨"TwoThirdsOfAnEggModel", "latestShelf", "()I"⟩, 50) := ⟨⟨by decide +kernel, by decide +kernel⟩, List.mem_of_getElem? (i := 1033) (by decide +kernel), List.mem_of_getElem? (i := 1551) (by decide +kernel), List.mem_of_getElem? (i := 1552) (by decide +kernel)⟩
theorem lw_p81 : lw_okq (⟨"TwoThirdsOfAnEggModel", "soonestCode", "(I)I"⟩, 50) := ⟨⟨by decide +kernel, by decide +kernel⟩, List.mem_of_getElem? (i := 1033) (by decide +kernel), List.mem_of_getElem? (i := 1555) (by decide +kernel), List.mem_of_getElem? (i := 1556) (by decide +kernel)⟩
theorem lw_p82 : lw_okq (⟨"TwoThirdsOfAnEggModel", "doneBy", "(II)I"⟩, 50) := ⟨⟨by decide +kernel, by decide +kernel⟩, List.mem_of_getElem? (i := 1033) (by decide +kernel), List.mem_of_getElem? (i := 1559) (by decide +kernel), List.mem_of_getElem? (i := 1560) (by decide +kernel)⟩
theorem lw_p83 : lw_okq (⟨"TwoThirdsOfAnEggModel", "areBoth", "(II)Z"⟩, 50) := ⟨⟨by decide +kernel, by decide +kernel⟩, List.mem_of_getElem? (i := 1033) (by decide +kernel), List.mem_of_getElem? (i := 1567) (by decide +kernel), List.mem_of_getElem? (i := 1568) (by decide +kernel)⟩
theorem lw_p84 : lw_okq (⟨"TwoThirdsOfAnEggModel", "stepsTold", "(I)V"⟩, 50) := ⟨⟨by decide +kernel, by decide +kernel⟩, List.mem_of_getElem? (i := 1033) (by decide +kernel), List.mem_of_getElem? (i := 1587) (by decide +kernel), List.mem_of_getElem? (i := 1588) (by decide +kernel)⟩
theorem lw_p85 : lw_okq (⟨"TwoThirdsOfAnEggModel", "reachBy", "(III)V"⟩, 50) := ⟨⟨by decide +kernel, by decide +kernel⟩, List.mem_of_getElem? (i := 1033) (by decide +kernel), List.mem_of_getElem? (i := 1591) (by decide +kernel), List.mem_of_getElem? (i := 1592) (by decide +kernel)⟩
theorem lw_p86 : lw_okq (⟨"TwoThirdsOfAnEggModel", "stateWith", "(I)I"⟩, 50) := ⟨⟨by decide +kernel, by decide +kernel⟩, List.mem_of_getElem? (i := 1033) (by decide +kernel), List.mem_of_getElem? (i := 1595) (by decide +kernel), List.mem_of_getElem? (i := 1596) (by decide +kernel)⟩
theorem lw_p87 : lw_okq (⟨"TwoThirdsOfAnEggModel", "worthOf", "(I)I"⟩, 50) := ⟨⟨by decide +kernel, by decide +kernel⟩, List.mem_of_getElem? (i := 1033) (by decide +kernel), List.mem_of_getElem? (i := 1607) (by decide +kernel), List.mem_of_getElem? (i := 1608) (by decide +kernel)⟩
theorem lw_p88 : lw_okq (⟨"TwoThirdsOfAnEggModel", "isLeftFor", "(I)Z"⟩, 50) := ⟨⟨by decide +kernel, by decide +kernel⟩, List.mem_of_getElem? (i := 1033) (by decide +kernel), List.mem_of_getElem? (i := 1611) (by decide +kernel), List.mem_of_getElem? (i := 1612) (by decide +kernel)⟩
theorem lw_p89 : lw_okq (⟨"TwoThirdsOfAnEggModel", "areAllAbove", "()Z"⟩, 50) := ⟨⟨by decide +kernel, by decide +kernel⟩, List.mem_of_getElem? (i := 1033) (by decide +kernel), List.mem_of_getElem? (i := 1619) (by decide +kernel), List.mem_of_getElem? (i := 1620) (by decide +kernel)⟩
theorem lw_p90 : lw_okq (⟨"TwoThirdsOfAnEggModel", "apartBy", "(I)I"⟩, 50) := ⟨⟨by decide +kernel, by decide +kernel⟩, List.mem_of_getElem? (i := 1033) (by decide +kernel), List.mem_of_getElem? (i := 1623) (by decide +kernel), List.mem_of_getElem? (i := 1624) (by decide +kernel)⟩
theorem lw_p91 : lw_okq (⟨"TwoThirdsOfAnEggModel", "isTaken", "(II)Z"⟩, 50) := ⟨⟨by decide +kernel, by decide +kernel⟩, List.mem_of_getElem? (i := 1033) (by decide +kernel), List.mem_of_getElem? (i := 1635) (by decide +kernel), List.mem_of_getElem? (i := 1636) (by decide +kernel)⟩
theorem lw_p92 : lw_okq (⟨"TwoThirdsOfAnEggModel", "readNumbers", "()I"⟩, 50) := ⟨⟨by decide +kernel, by decide +kernel⟩, List.mem_of_getElem? (i := 1033) (by decide +kernel), List.mem_of_getElem? (i := 1639) (by decide +kernel), List.mem_of_getElem? (i := 1640) (by decide +kernel)⟩
def lw_privs_6 : List (MethodName × Nat) := [(⟨"TwoThirdsOfAnEggModel", "latestShelf", "()I"⟩, 50), (⟨"TwoThirdsOfAnEggModel", "soonestCode", "(I)I"⟩, 50), (⟨"TwoThirdsOfAnEggModel", "doneBy", "(II)I"⟩, 50), (⟨"TwoThirdsOfAnEggModel", "areBoth", "(II)Z"⟩, 50), (⟨"TwoThirdsOfAnEggModel", "stepsTold", "(I)V"⟩, 50), (⟨"TwoThirdsOfAnEggModel", "reachBy", "(III)V"⟩, 50), (⟨"TwoThirdsOfAnEggModel", "stateWith", "(I)I"⟩, 50), (⟨"TwoThirdsOfAnEggModel", "worthOf", "(I)I"⟩, 50), (⟨"TwoThirdsOfAnEggModel", "isLeftFor", "(I)Z"⟩, 50), (⟨"TwoThirdsOfAnEggModel", "areAllAbove", "()Z"⟩, 50), (⟨"TwoThirdsOfAnEggModel", "apartBy", "(I)I"⟩, 50), (⟨"TwoThirdsOfAnEggModel", "isTaken", "(II)Z"⟩, 50), (⟨"TwoThirdsOfAnEggModel", "readNumbers", "()I"⟩, 50)]
theorem lw_r6 : ∀ q ∈ lw_privs_6, lw_okq q := List.forall_mem_cons.mpr ⟨lw_p80, List.forall_mem_cons.mpr ⟨lw_p81, List.forall_mem_cons.mpr ⟨lw_p82, List.forall_mem_cons.mpr ⟨lw_p83, List.forall_mem_cons.mpr ⟨lw_p84, List.forall_mem_cons.mpr ⟨lw_p85, List.forall_mem_cons.mpr ⟨lw_p86, List.forall_mem_cons.mpr ⟨lw_p87, List.forall_mem_cons.mpr ⟨lw_p88, List.forall_mem_cons.mpr ⟨lw_p89, List.forall_mem_cons.mpr ⟨lw_p90, List.forall_mem_cons.mpr ⟨lw_p91, List.forall_mem_cons.mpr ⟨lw_p92, fun _ h => absurd h List.not_mem_nil⟩⟩⟩⟩⟩⟩⟩⟩⟩⟩⟩⟩⟩
def lw_privs : List (MethodName × Nat) := lw_privs_1 ++ (lw_privs_2 ++ (lw_privs_3 ++ (lw_privs_4 ++ (lw_privs_5 ++ (lw_privs_6)))))
def lw_tbl : List Cond := k2_sels lw_privs ++ tables_1
theorem lw_privs_ok : ∀ q ∈ lw_privs, lw_okq q := by
  show ∀ q ∈ lw_privs_1 ++ (lw_privs_2 ++ (lw_privs_3 ++ (lw_privs_4 ++ (lw_privs_5 ++ (lw_privs_6))))), lw_okq q
  exact List.forall_mem_append.mpr ⟨lw_r1, List.forall_mem_append.mpr ⟨lw_r2, List.forall_mem_append.mpr ⟨lw_r3, List.forall_mem_append.mpr ⟨lw_r4, List.forall_mem_append.mpr ⟨lw_r5, lw_r6⟩⟩⟩⟩⟩
-- ===== end of PART A; then your names; then what follows =====
def RX0 : String := "TwoThirdsOfAnEgg$Balance"
def TX0 : u_T := fun k => match k with
  | _ => ("TwoThirdsOfAnEgg$Balance", "ways", "LTwoThirdsOfAnEgg$Table;", true)
def tyX0 : Nat → FieldType := fun k => match k with
  | _ => .object "TwoThirdsOfAnEgg$Table"
abbrev wsX00 : List Cond := u_ws RX0 TX0 1
theorem nmX0 : ∀ a, a < 1 → ∀ b, b < 1 → a ≠ b → (TX0 a).2.1 ≠ (TX0 b).2.1 := by decide +kernel
theorem tyX0_ok : ∀ k, k < 1 → parseFieldDescriptor (TX0 k).2.2.1 = some (tyX0 k) := by decide +kernel
abbrev cX0_init : ByteArray := prog_2_method_1_code
def yX0_init : MethodName := ⟨RX0, "<init>", "()V"⟩
abbrev cX0_weighing : ByteArray := prog_2_method_2_code
def yX0_weighing : MethodName := ⟨RX0, "weighing", "(LTwoThirdsOfAnEgg$Table;II)I"⟩
abbrev cX0_weighable : ByteArray := prog_2_method_3_code
def yX0_weighable : MethodName := ⟨RX0, "weighable", "(LTwoThirdsOfAnEgg$Table;)I"⟩
abbrev cX0_seekAll : ByteArray := prog_2_method_4_code
def yX0_seekAll : MethodName := ⟨RX0, "seekAll", "(LTwoThirdsOfAnEgg$Table;)V"⟩
abbrev cX0_seen : ByteArray := prog_2_method_5_code
def yX0_seen : MethodName := ⟨RX0, "seen", "(LTwoThirdsOfAnEgg$Table;II)V"⟩
abbrev cX0_weightOf : ByteArray := prog_2_method_6_code
def yX0_weightOf : MethodName := ⟨RX0, "weightOf", "(LTwoThirdsOfAnEgg$Table;I)I"⟩
def RX1 : String := "TwoThirdsOfAnEgg$Book"
def TX1 : u_T := fun k => match k with
  | 0 => ("TwoThirdsOfAnEgg$Book", "letters", "LTwoThirdsOfAnEgg$Table;", true)
  | 1 => ("TwoThirdsOfAnEgg$Book", "told", "LTwoThirdsOfAnEgg$Table;", true)
  | _ => ("TwoThirdsOfAnEgg$Book", "place", "I", false)
def tyX1 : Nat → FieldType := fun k => match k with
  | 0 => .object "TwoThirdsOfAnEgg$Table"
  | 1 => .object "TwoThirdsOfAnEgg$Table"
  | _ => .int
abbrev wsX10 : List Cond := u_ws RX1 TX1 3
theorem nmX1 : ∀ a, a < 3 → ∀ b, b < 3 → a ≠ b → (TX1 a).2.1 ≠ (TX1 b).2.1 := by decide +kernel
theorem tyX1_ok : ∀ k, k < 3 → parseFieldDescriptor (TX1 k).2.2.1 = some (tyX1 k) := by decide +kernel
abbrev cX1_init : ByteArray := prog_3_method_1_code
def yX1_init : MethodName := ⟨RX1, "<init>", "()V"⟩
abbrev cX1_letters : ByteArray := prog_3_method_2_code
def yX1_letters : MethodName := ⟨RX1, "letters", "()LTwoThirdsOfAnEgg$Table;"⟩
abbrev cX1_tellTo : ByteArray := prog_3_method_3_code
def yX1_tellTo : MethodName := ⟨RX1, "tellTo", "(LTwoThirdsOfAnEgg$Kitchen;)I"⟩
abbrev cX1_hasForm : ByteArray := prog_3_method_4_code
def yX1_hasForm : MethodName := ⟨RX1, "hasForm", "()Z"⟩
abbrev cX1_statementsTo : ByteArray := prog_3_method_5_code
def yX1_statementsTo : MethodName := ⟨RX1, "statementsTo", "(LTwoThirdsOfAnEgg$Kitchen;)I"⟩
abbrev cX1_statementRead : ByteArray := prog_3_method_6_code
def yX1_statementRead : MethodName := ⟨RX1, "statementRead", "()Z"⟩
abbrev cX1_formOf : ByteArray := prog_3_method_7_code
def yX1_formOf : MethodName := ⟨RX1, "formOf", "(I)Ljava/lang/String;"⟩
abbrev cX1_signRead : ByteArray := prog_3_method_8_code
def yX1_signRead : MethodName := ⟨RX1, "signRead", "(C)Z"⟩
abbrev cX1_numberRead : ByteArray := prog_3_method_9_code
def yX1_numberRead : MethodName := ⟨RX1, "numberRead", "(II)Z"⟩
abbrev cX1_shapeRead : ByteArray := prog_3_method_10_code
def yX1_shapeRead : MethodName := ⟨RX1, "shapeRead", "()Z"⟩
abbrev cX1_statementCame : ByteArray := prog_3_method_11_code
def yX1_statementCame : MethodName := ⟨RX1, "statementCame", "(LTwoThirdsOfAnEgg$Kitchen;I)Z"⟩
abbrev cX1_number : ByteArray := prog_3_method_12_code
def yX1_number : MethodName := ⟨RX1, "number", "(I)I"⟩
abbrev cX1_within : ByteArray := prog_3_method_13_code
def yX1_within : MethodName := ⟨RX1, "within", "(III)Z"⟩
abbrev cX1_forCame : ByteArray := prog_3_method_14_code
def yX1_forCame : MethodName := ⟨RX1, "forCame", "(LTwoThirdsOfAnEgg$Kitchen;)Z"⟩
abbrev cX1_partCame : ByteArray := prog_3_method_15_code
def yX1_partCame : MethodName := ⟨RX1, "partCame", "(LTwoThirdsOfAnEgg$Kitchen;)Z"⟩
abbrev cX1_houseCame : ByteArray := prog_3_method_16_code
def yX1_houseCame : MethodName := ⟨RX1, "houseCame", "(LTwoThirdsOfAnEgg$Kitchen;)Z"⟩
abbrev cX1_tinCame : ByteArray := prog_3_method_17_code
def yX1_tinCame : MethodName := ⟨RX1, "tinCame", "(LTwoThirdsOfAnEgg$Kitchen;)Z"⟩
abbrev cX1_standInCame : ByteArray := prog_3_method_18_code
def yX1_standInCame : MethodName := ⟨RX1, "standInCame", "(LTwoThirdsOfAnEgg$Kitchen;)Z"⟩
abbrev cX1_standsInAlready : ByteArray := prog_3_method_19_code
def yX1_standsInAlready : MethodName := ⟨RX1, "standsInAlready", "(LTwoThirdsOfAnEgg$Table;II)Z"⟩
abbrev cX1_cupsCame : ByteArray := prog_3_method_20_code
def yX1_cupsCame : MethodName := ⟨RX1, "cupsCame", "(LTwoThirdsOfAnEgg$Kitchen;)Z"⟩
abbrev cX1_lineCame : ByteArray := prog_3_method_21_code
def yX1_lineCame : MethodName := ⟨RX1, "lineCame", "(LTwoThirdsOfAnEgg$Table;)Z"⟩
def RX2 : String := "TwoThirdsOfAnEgg$CakeReader"
def TX2 : u_T := fun k => match k with
  | _ => ("", "", "", false)
def tyX2 : Nat → FieldType := fun k => match k with
  | _ => .int
abbrev wsX20 : List Cond := u_ws RX2 TX2 0
theorem nmX2 : ∀ a, a < 0 → ∀ b, b < 0 → a ≠ b → (TX2 a).2.1 ≠ (TX2 b).2.1 := by decide +kernel
theorem tyX2_ok : ∀ k, k < 0 → parseFieldDescriptor (TX2 k).2.2.1 = some (tyX2 k) := by decide +kernel
abbrev cX2_numbersSo : ByteArray := prog_4_method_2_code
def yX2_numbersSo : MethodName := ⟨RX2, "numbersSo", "(LTwoThirdsOfAnEgg$Kitchen;LTwoThirdsOfAnEgg$Table;)I"⟩
abbrev cX2_allSo : ByteArray := prog_4_method_3_code
def yX2_allSo : MethodName := ⟨RX2, "allSo", "(LTwoThirdsOfAnEgg$Kitchen;LTwoThirdsOfAnEgg$Table;I)Z"⟩
abbrev cX2_isSo : ByteArray := prog_4_method_4_code
def yX2_isSo : MethodName := ⟨RX2, "isSo", "(LTwoThirdsOfAnEgg$Kitchen;LTwoThirdsOfAnEgg$Table;II)Z"⟩
abbrev cX2_isHalved : ByteArray := prog_4_method_5_code
def yX2_isHalved : MethodName := ⟨RX2, "isHalved", "(LTwoThirdsOfAnEgg$Kitchen;LTwoThirdsOfAnEgg$Table;I)Z"⟩
abbrev cX2_isAmount : ByteArray := prog_4_method_6_code
def yX2_isAmount : MethodName := ⟨RX2, "isAmount", "(LTwoThirdsOfAnEgg$Kitchen;LTwoThirdsOfAnEgg$Table;I)Z"⟩
abbrev cX2_halvedParts : ByteArray := prog_4_method_7_code
def yX2_halvedParts : MethodName := ⟨RX2, "halvedParts", "(LTwoThirdsOfAnEgg$Kitchen;LTwoThirdsOfAnEgg$Table;)I"⟩
abbrev cX2_amountParts : ByteArray := prog_4_method_8_code
def yX2_amountParts : MethodName := ⟨RX2, "amountParts", "(LTwoThirdsOfAnEgg$Kitchen;LTwoThirdsOfAnEgg$Table;)I"⟩
abbrev cX2_firstNeither : ByteArray := prog_4_method_9_code
def yX2_firstNeither : MethodName := ⟨RX2, "firstNeither", "(LTwoThirdsOfAnEgg$Kitchen;LTwoThirdsOfAnEgg$Table;)I"⟩
def RX3 : String := "TwoThirdsOfAnEgg$Kitchen"
def TX3 : u_T := fun k => match k with
  | 0 => ("TwoThirdsOfAnEgg$Kitchen", "forMany", "I", false)
  | 1 => ("TwoThirdsOfAnEgg$Kitchen", "guests", "I", false)
  | 2 => ("TwoThirdsOfAnEgg$Kitchen", "volume", "I", false)
  | 3 => ("TwoThirdsOfAnEgg$Kitchen", "minutes", "I", false)
  | 4 => ("TwoThirdsOfAnEgg$Kitchen", "parts", "LTwoThirdsOfAnEgg$Table;", true)
  | 5 => ("TwoThirdsOfAnEgg$Kitchen", "tins", "LTwoThirdsOfAnEgg$Table;", true)
  | 6 => ("TwoThirdsOfAnEgg$Kitchen", "standIns", "LTwoThirdsOfAnEgg$Table;", true)
  | 7 => ("TwoThirdsOfAnEgg$Kitchen", "cups", "LTwoThirdsOfAnEgg$Table;", true)
  | 8 => ("TwoThirdsOfAnEgg$Kitchen", "weights", "LTwoThirdsOfAnEgg$Table;", true)
  | _ => ("TwoThirdsOfAnEgg$Kitchen", "dishes", "LTwoThirdsOfAnEgg$Table;", true)
def tyX3 : Nat → FieldType := fun k => match k with
  | 0 => .int
  | 1 => .int
  | 2 => .int
  | 3 => .int
  | 4 => .object "TwoThirdsOfAnEgg$Table"
  | 5 => .object "TwoThirdsOfAnEgg$Table"
  | 6 => .object "TwoThirdsOfAnEgg$Table"
  | 7 => .object "TwoThirdsOfAnEgg$Table"
  | 8 => .object "TwoThirdsOfAnEgg$Table"
  | _ => .object "TwoThirdsOfAnEgg$Table"
abbrev wsX30 : List Cond := u_ws RX3 TX3 10
theorem nmX3 : ∀ a, a < 10 → ∀ b, b < 10 → a ≠ b → (TX3 a).2.1 ≠ (TX3 b).2.1 := by decide +kernel
theorem tyX3_ok : ∀ k, k < 10 → parseFieldDescriptor (TX3 k).2.2.1 = some (tyX3 k) := by decide +kernel
abbrev cX3_init : ByteArray := prog_5_method_1_code
def yX3_init : MethodName := ⟨RX3, "<init>", "()V"⟩
abbrev cX3_copyFrom : ByteArray := prog_5_method_2_code
def yX3_copyFrom : MethodName := ⟨RX3, "copyFrom", "(LTwoThirdsOfAnEgg$Kitchen;)V"⟩
abbrev cX3_allHouse : ByteArray := prog_5_method_3_code
def yX3_allHouse : MethodName := ⟨RX3, "allHouse", "()I"⟩
abbrev cX3_taken : ByteArray := prog_5_method_4_code
def yX3_taken : MethodName := ⟨RX3, "taken", "(III)I"⟩
abbrev cX3_takenFor : ByteArray := prog_5_method_5_code
def yX3_takenFor : MethodName := ⟨RX3, "takenFor", "(II)I"⟩
abbrev cX3_takenNow : ByteArray := prog_5_method_6_code
def yX3_takenNow : MethodName := ⟨RX3, "takenNow", "(I)I"⟩
abbrev cX3_offBy : ByteArray := prog_5_method_7_code
def yX3_offBy : MethodName := ⟨RX3, "offBy", "(III)I"⟩
abbrev cX3_offAtCost : ByteArray := prog_5_method_8_code
def yX3_offAtCost : MethodName := ⟨RX3, "offAtCost", "(III)I"⟩
abbrev cX3_allOff : ByteArray := prog_5_method_9_code
def yX3_allOff : MethodName := ⟨RX3, "allOff", "(I)I"⟩
abbrev cX3_greatestOff : ByteArray := prog_5_method_10_code
def yX3_greatestOff : MethodName := ⟨RX3, "greatestOff", "(II)I"⟩
abbrev cX3_feeds : ByteArray := prog_5_method_11_code
def yX3_feeds : MethodName := ⟨RX3, "feeds", "(I)Z"⟩
abbrev cX3_left : ByteArray := prog_5_method_12_code
def yX3_left : MethodName := ⟨RX3, "left", "(I)I"⟩
def RX4 : String := "TwoThirdsOfAnEgg$Minutes"
def TX4 : u_T := fun k => match k with
  | _ => ("TwoThirdsOfAnEgg$Minutes", "busy", "LTwoThirdsOfAnEgg$Table;", true)
def tyX4 : Nat → FieldType := fun k => match k with
  | _ => .object "TwoThirdsOfAnEgg$Table"
abbrev wsX40 : List Cond := u_ws RX4 TX4 1
theorem nmX4 : ∀ a, a < 1 → ∀ b, b < 1 → a ≠ b → (TX4 a).2.1 ≠ (TX4 b).2.1 := by decide +kernel
theorem tyX4_ok : ∀ k, k < 1 → parseFieldDescriptor (TX4 k).2.2.1 = some (tyX4 k) := by decide +kernel
abbrev cX4_init : ByteArray := prog_6_method_1_code
def yX4_init : MethodName := ⟨RX4, "<init>", "()V"⟩
abbrev cX4_oneBehindTheOther : ByteArray := prog_6_method_2_code
def yX4_oneBehindTheOther : MethodName := ⟨RX4, "oneBehindTheOther", "(LTwoThirdsOfAnEgg$Table;I)I"⟩
abbrev cX4_freeFirst : ByteArray := prog_6_method_3_code
def yX4_freeFirst : MethodName := ⟨RX4, "freeFirst", "()I"⟩
abbrev cX4_soonest : ByteArray := prog_6_method_4_code
def yX4_soonest : MethodName := ⟨RX4, "soonest", "(LTwoThirdsOfAnEgg$Table;IZ)I"⟩
abbrev cX4_waysOf : ByteArray := prog_6_method_5_code
def yX4_waysOf : MethodName := ⟨RX4, "waysOf", "(LTwoThirdsOfAnEgg$Table;I)I"⟩
abbrev cX4_nextWay : ByteArray := prog_6_method_6_code
def yX4_nextWay : MethodName := ⟨RX4, "nextWay", "(LTwoThirdsOfAnEgg$Table;II)I"⟩
abbrev cX4_putOn : ByteArray := prog_6_method_7_code
def yX4_putOn : MethodName := ⟨RX4, "putOn", "(II)V"⟩
abbrev cX4_allDone : ByteArray := prog_6_method_8_code
def yX4_allDone : MethodName := ⟨RX4, "allDone", "()I"⟩
abbrev cX4_groupOfFirst : ByteArray := prog_6_method_9_code
def yX4_groupOfFirst : MethodName := ⟨RX4, "groupOfFirst", "(LTwoThirdsOfAnEgg$Table;)I"⟩
abbrev cX4_groupsApart : ByteArray := prog_6_method_10_code
def yX4_groupsApart : MethodName := ⟨RX4, "groupsApart", "(LTwoThirdsOfAnEgg$Table;I)I"⟩
def RX5 : String := "TwoThirdsOfAnEgg$Pouring"
def TX5 : u_T := fun k => match k with
  | 0 => ("TwoThirdsOfAnEgg$Pouring", "came", "LTwoThirdsOfAnEgg$Table;", true)
  | _ => ("TwoThirdsOfAnEgg$Pouring", "ways", "LTwoThirdsOfAnEgg$Table;", true)
def tyX5 : Nat → FieldType := fun k => match k with
  | 0 => .object "TwoThirdsOfAnEgg$Table"
  | _ => .object "TwoThirdsOfAnEgg$Table"
abbrev wsX50 : List Cond := u_ws RX5 TX5 2
theorem nmX5 : ∀ a, a < 2 → ∀ b, b < 2 → a ≠ b → (TX5 a).2.1 ≠ (TX5 b).2.1 := by decide +kernel
theorem tyX5_ok : ∀ k, k < 2 → parseFieldDescriptor (TX5 k).2.2.1 = some (tyX5 k) := by decide +kernel
abbrev cX5_init : ByteArray := prog_7_method_1_code
def yX5_init : MethodName := ⟨RX5, "<init>", "()V"⟩
abbrev cX5_fewestTo : ByteArray := prog_7_method_2_code
def yX5_fewestTo : MethodName := ⟨RX5, "fewestTo", "(LTwoThirdsOfAnEgg$Table;I)I"⟩
abbrev cX5_fewestToAll : ByteArray := prog_7_method_3_code
def yX5_fewestToAll : MethodName := ⟨RX5, "fewestToAll", "(LTwoThirdsOfAnEgg$Table;III)I"⟩
abbrev cX5_stepOf : ByteArray := prog_7_method_4_code
def yX5_stepOf : MethodName := ⟨RX5, "stepOf", "(LTwoThirdsOfAnEgg$Table;II)I"⟩
abbrev cX5_seekAll : ByteArray := prog_7_method_5_code
def yX5_seekAll : MethodName := ⟨RX5, "seekAll", "(LTwoThirdsOfAnEgg$Table;)V"⟩
abbrev cX5_goOnFrom : ByteArray := prog_7_method_6_code
def yX5_goOnFrom : MethodName := ⟨RX5, "goOnFrom", "(IILTwoThirdsOfAnEgg$Table;)V"⟩
abbrev cX5_comes : ByteArray := prog_7_method_7_code
def yX5_comes : MethodName := ⟨RX5, "comes", "(III)V"⟩
abbrev cX5_firstWith : ByteArray := prog_7_method_8_code
def yX5_firstWith : MethodName := ⟨RX5, "firstWith", "(I)I"⟩
abbrev cX5_stepsTo : ByteArray := prog_7_method_9_code
def yX5_stepsTo : MethodName := ⟨RX5, "stepsTo", "(I)I"⟩
abbrev cX5_unit : ByteArray := prog_7_method_10_code
def yX5_unit : MethodName := ⟨RX5, "unit", "(I)I"⟩
abbrev cX5_levelOf : ByteArray := prog_7_method_11_code
def yX5_levelOf : MethodName := ⟨RX5, "levelOf", "(II)I"⟩
def RX6 : String := "TwoThirdsOfAnEgg$Reckoning"
def TX6 : u_T := fun k => match k with
  | _ => ("", "", "", false)
def tyX6 : Nat → FieldType := fun k => match k with
  | _ => .int
abbrev wsX60 : List Cond := u_ws RX6 TX6 0
theorem nmX6 : ∀ a, a < 0 → ∀ b, b < 0 → a ≠ b → (TX6 a).2.1 ≠ (TX6 b).2.1 := by decide +kernel
theorem tyX6_ok : ∀ k, k < 0 → parseFieldDescriptor (TX6 k).2.2.1 = some (tyX6 k) := by decide +kernel
abbrev cX6_leastOff : ByteArray := prog_8_method_2_code
def yX6_leastOff : MethodName := ⟨RX6, "leastOff", "(LTwoThirdsOfAnEgg$Kitchen;II)I"⟩
abbrev cX6_comesOut : ByteArray := prog_8_method_3_code
def yX6_comesOut : MethodName := ⟨RX6, "comesOut", "(LTwoThirdsOfAnEgg$Kitchen;I)I"⟩
abbrev cX6_noneIsOff : ByteArray := prog_8_method_4_code
def yX6_noneIsOff : MethodName := ⟨RX6, "noneIsOff", "(LTwoThirdsOfAnEgg$Kitchen;I)Z"⟩
abbrev cX6_bestScale : ByteArray := prog_8_method_5_code
def yX6_bestScale : MethodName := ⟨RX6, "bestScale", "(LTwoThirdsOfAnEgg$Kitchen;II)I"⟩
abbrev cX6_mostFed : ByteArray := prog_8_method_6_code
def yX6_mostFed : MethodName := ⟨RX6, "mostFed", "(LTwoThirdsOfAnEgg$Kitchen;)I"⟩
abbrev cX6_numberFor : ByteArray := prog_8_method_7_code
def yX6_numberFor : MethodName := ⟨RX6, "numberFor", "(LTwoThirdsOfAnEgg$Kitchen;II)I"⟩
abbrev cX6_moreOf : ByteArray := prog_8_method_8_code
def yX6_moreOf : MethodName := ⟨RX6, "moreOf", "(LTwoThirdsOfAnEgg$Kitchen;III)I"⟩
abbrev cX6_lotsFor : ByteArray := prog_8_method_9_code
def yX6_lotsFor : MethodName := ⟨RX6, "lotsFor", "(III)I"⟩
abbrev cX6_bakingsOff : ByteArray := prog_8_method_10_code
def yX6_bakingsOff : MethodName := ⟨RX6, "bakingsOff", "(LTwoThirdsOfAnEgg$Kitchen;II)I"⟩
abbrev cX6_bakingsFed : ByteArray := prog_8_method_11_code
def yX6_bakingsFed : MethodName := ⟨RX6, "bakingsFed", "(LTwoThirdsOfAnEgg$Kitchen;II)I"⟩
abbrev cX6_nextSeed : ByteArray := prog_8_method_12_code
def yX6_nextSeed : MethodName := ⟨RX6, "nextSeed", "(I)I"⟩
abbrev cX6_guestsBy : ByteArray := prog_8_method_13_code
def yX6_guestsBy : MethodName := ⟨RX6, "guestsBy", "(I)I"⟩
abbrev cX6_bothRecipes : ByteArray := prog_8_method_14_code
def yX6_bothRecipes : MethodName := ⟨RX6, "bothRecipes", "(LTwoThirdsOfAnEgg$Kitchen;)I"⟩
abbrev cX6_bothFit : ByteArray := prog_8_method_15_code
def yX6_bothFit : MethodName := ⟨RX6, "bothFit", "(LTwoThirdsOfAnEgg$Kitchen;II)Z"⟩
abbrev cX6_worstForgotten : ByteArray := prog_8_method_16_code
def yX6_worstForgotten : MethodName := ⟨RX6, "worstForgotten", "(LTwoThirdsOfAnEgg$Kitchen;)I"⟩
def RX7 : String := "TwoThirdsOfAnEgg$Stores"
def TX7 : u_T := fun k => match k with
  | _ => ("TwoThirdsOfAnEgg$Stores", "leastLoss", "LTwoThirdsOfAnEgg$Table;", true)
def tyX7 : Nat → FieldType := fun k => match k with
  | _ => .object "TwoThirdsOfAnEgg$Table"
abbrev wsX70 : List Cond := u_ws RX7 TX7 1
theorem nmX7 : ∀ a, a < 1 → ∀ b, b < 1 → a ≠ b → (TX7 a).2.1 ≠ (TX7 b).2.1 := by decide +kernel
theorem tyX7_ok : ∀ k, k < 1 → parseFieldDescriptor (TX7 k).2.2.1 = some (tyX7 k) := by decide +kernel
abbrev cX7_init : ByteArray := prog_9_method_1_code
def yX7_init : MethodName := ⟨RX7, "<init>", "()V"⟩
abbrev cX7_lackingParts : ByteArray := prog_9_method_2_code
def yX7_lackingParts : MethodName := ⟨RX7, "lackingParts", "(LTwoThirdsOfAnEgg$Kitchen;)I"⟩
abbrev cX7_wholesLacking : ByteArray := prog_9_method_3_code
def yX7_wholesLacking : MethodName := ⟨RX7, "wholesLacking", "(LTwoThirdsOfAnEgg$Kitchen;II)I"⟩
abbrev cX7_leastLoss : ByteArray := prog_9_method_4_code
def yX7_leastLoss : MethodName := ⟨RX7, "leastLoss", "(LTwoThirdsOfAnEgg$Kitchen;I)I"⟩
abbrev cX7_letStandIn : ByteArray := prog_9_method_5_code
def yX7_letStandIn : MethodName := ⟨RX7, "letStandIn", "(LTwoThirdsOfAnEgg$Kitchen;II)V"⟩
abbrev cX7_letMake : ByteArray := prog_9_method_6_code
def yX7_letMake : MethodName := ⟨RX7, "letMake", "(III)V"⟩
abbrev cX7_timesThatItLets : ByteArray := prog_9_method_7_code
def yX7_timesThatItLets : MethodName := ⟨RX7, "timesThatItLets", "(LTwoThirdsOfAnEgg$Kitchen;I)I"⟩
abbrev cX7_penceFor : ByteArray := prog_9_method_8_code
def yX7_penceFor : MethodName := ⟨RX7, "penceFor", "(LTwoThirdsOfAnEgg$Kitchen;I)I"⟩
abbrev cX7_leastPence : ByteArray := prog_9_method_9_code
def yX7_leastPence : MethodName := ⟨RX7, "leastPence", "(LTwoThirdsOfAnEgg$Kitchen;II)I"⟩
abbrev cX7_moreGuests : ByteArray := prog_9_method_10_code
def yX7_moreGuests : MethodName := ⟨RX7, "moreGuests", "(LTwoThirdsOfAnEgg$Kitchen;)I"⟩
abbrev cX7_leftFeeds : ByteArray := prog_9_method_11_code
def yX7_leftFeeds : MethodName := ⟨RX7, "leftFeeds", "(LTwoThirdsOfAnEgg$Kitchen;I)Z"⟩
abbrev cX7_worthiestSet : ByteArray := prog_9_method_12_code
def yX7_worthiestSet : MethodName := ⟨RX7, "worthiestSet", "(LTwoThirdsOfAnEgg$Kitchen;)I"⟩
abbrev cX7_worthOf : ByteArray := prog_9_method_13_code
def yX7_worthOf : MethodName := ⟨RX7, "worthOf", "(LTwoThirdsOfAnEgg$Kitchen;I)I"⟩
abbrev cX7_leftIsEnough : ByteArray := prog_9_method_14_code
def yX7_leftIsEnough : MethodName := ⟨RX7, "leftIsEnough", "(LTwoThirdsOfAnEgg$Kitchen;I)Z"⟩
abbrev cX7_twelfthsOf : ByteArray := prog_9_method_15_code
def yX7_twelfthsOf : MethodName := ⟨RX7, "twelfthsOf", "(LTwoThirdsOfAnEgg$Table;II)I"⟩
def RX8 : String := "TwoThirdsOfAnEgg$Sums"
def TX8 : u_T := fun k => match k with
  | _ => ("", "", "", false)
def tyX8 : Nat → FieldType := fun k => match k with
  | _ => .int
abbrev wsX80 : List Cond := u_ws RX8 TX8 0
theorem nmX8 : ∀ a, a < 0 → ∀ b, b < 0 → a ≠ b → (TX8 a).2.1 ≠ (TX8 b).2.1 := by decide +kernel
theorem tyX8_ok : ∀ k, k < 0 → parseFieldDescriptor (TX8 k).2.2.1 = some (tyX8 k) := by decide +kernel
abbrev cX8_cut : ByteArray := prog_10_method_2_code
def yX8_cut : MethodName := ⟨RX8, "cut", "(II)I"⟩
abbrev cX8_rest : ByteArray := prog_10_method_3_code
def yX8_rest : MethodName := ⟨RX8, "rest", "(II)I"⟩
abbrev cX8_roundedUp : ByteArray := prog_10_method_4_code
def yX8_roundedUp : MethodName := ⟨RX8, "roundedUp", "(II)I"⟩
abbrev cX8_nearest : ByteArray := prog_10_method_5_code
def yX8_nearest : MethodName := ⟨RX8, "nearest", "(II)I"⟩
abbrev cX8_inLeastTerms : ByteArray := prog_10_method_6_code
def yX8_inLeastTerms : MethodName := ⟨RX8, "inLeastTerms", "(III)I"⟩
abbrev cX8_commonDivisor : ByteArray := prog_10_method_7_code
def yX8_commonDivisor : MethodName := ⟨RX8, "commonDivisor", "(II)I"⟩
def RX9 : String := "TwoThirdsOfAnEgg$Table"
def TX9 : u_T := fun k => match k with
  | 0 => ("TwoThirdsOfAnEgg$Table", "cells", "[I", true)
  | 1 => ("TwoThirdsOfAnEgg$Table", "room", "I", true)
  | 2 => ("TwoThirdsOfAnEgg$Table", "width", "I", true)
  | _ => ("TwoThirdsOfAnEgg$Table", "size", "I", false)
def tyX9 : Nat → FieldType := fun k => match k with
  | 0 => .array .int
  | 1 => .int
  | 2 => .int
  | _ => .int
abbrev wsX90 : List Cond := u_ws RX9 TX9 4
theorem nmX9 : ∀ a, a < 4 → ∀ b, b < 4 → a ≠ b → (TX9 a).2.1 ≠ (TX9 b).2.1 := by decide +kernel
theorem tyX9_ok : ∀ k, k < 4 → parseFieldDescriptor (TX9 k).2.2.1 = some (tyX9 k) := by decide +kernel
abbrev cX9_init : ByteArray := prog_11_method_1_code
def yX9_init : MethodName := ⟨RX9, "<init>", "(II)V"⟩
abbrev cX9_size : ByteArray := prog_11_method_2_code
def yX9_size : MethodName := ⟨RX9, "size", "()I"⟩
abbrev cX9_full : ByteArray := prog_11_method_3_code
def yX9_full : MethodName := ⟨RX9, "full", "()Z"⟩
abbrev cX9_has : ByteArray := prog_11_method_4_code
def yX9_has : MethodName := ⟨RX9, "has", "(I)Z"⟩
abbrev cX9_at : ByteArray := prog_11_method_5_code
def yX9_at : MethodName := ⟨RX9, "at", "(II)I"⟩
abbrev cX9_put : ByteArray := prog_11_method_6_code
def yX9_put : MethodName := ⟨RX9, "put", "(III)V"⟩
abbrev cX9_exchange : ByteArray := prog_11_method_7_code
def yX9_exchange : MethodName := ⟨RX9, "exchange", "(III)I"⟩
abbrev cX9_holds : ByteArray := prog_11_method_8_code
def yX9_holds : MethodName := ⟨RX9, "holds", "(I)Z"⟩
abbrev cX9_add : ByteArray := prog_11_method_9_code
def yX9_add : MethodName := ⟨RX9, "add", "(I)I"⟩
abbrev cX9_dropLast : ByteArray := prog_11_method_10_code
def yX9_dropLast : MethodName := ⟨RX9, "dropLast", "()V"⟩
abbrev cX9_dropFirst : ByteArray := prog_11_method_11_code
def yX9_dropFirst : MethodName := ⟨RX9, "dropFirst", "()V"⟩
abbrev cX9_reset : ByteArray := prog_11_method_12_code
def yX9_reset : MethodName := ⟨RX9, "reset", "(II)V"⟩
abbrev cX9_copyFrom : ByteArray := prog_11_method_13_code
def yX9_copyFrom : MethodName := ⟨RX9, "copyFrom", "(LTwoThirdsOfAnEgg$Table;)V"⟩
def RX10 : String := "TwoThirdsOfAnEgg$Tins"
def TX10 : u_T := fun k => match k with
  | _ => ("", "", "", false)
def tyX10 : Nat → FieldType := fun k => match k with
  | _ => .int
abbrev wsX100 : List Cond := u_ws RX10 TX10 0
theorem nmX10 : ∀ a, a < 0 → ∀ b, b < 0 → a ≠ b → (TX10 a).2.1 ≠ (TX10 b).2.1 := by decide +kernel
theorem tyX10_ok : ∀ k, k < 0 → parseFieldDescriptor (TX10 k).2.2.1 = some (tyX10 k) := by decide +kernel
abbrev cX10_area : ByteArray := prog_12_method_2_code
def yX10_area : MethodName := ⟨RX10, "area", "(LTwoThirdsOfAnEgg$Kitchen;I)I"⟩
abbrev cX10_minutesIn : ByteArray := prog_12_method_3_code
def yX10_minutesIn : MethodName := ⟨RX10, "minutesIn", "(LTwoThirdsOfAnEgg$Kitchen;I)I"⟩
abbrev cX10_nearestTin : ByteArray := prog_12_method_4_code
def yX10_nearestTin : MethodName := ⟨RX10, "nearestTin", "(LTwoThirdsOfAnEgg$Kitchen;)I"⟩
abbrev cX10_isNearer : ByteArray := prog_12_method_5_code
def yX10_isNearer : MethodName := ⟨RX10, "isNearer", "(LTwoThirdsOfAnEgg$Kitchen;II)Z"⟩
abbrev cX10_depthApart : ByteArray := prog_12_method_6_code
def yX10_depthApart : MethodName := ⟨RX10, "depthApart", "(LTwoThirdsOfAnEgg$Kitchen;I)J"⟩
abbrev cX10_nearestPair : ByteArray := prog_12_method_7_code
def yX10_nearestPair : MethodName := ⟨RX10, "nearestPair", "(LTwoThirdsOfAnEgg$Kitchen;)I"⟩
def RX11 : String := "TwoThirdsOfAnEgg"
def TX11 : u_T := fun k => match k with
  | 0 => ("TwoThirdsOfAnEgg", "kitchen", "LTwoThirdsOfAnEgg$Kitchen;", true)
  | 1 => ("TwoThirdsOfAnEgg", "image", "LTwoThirdsOfAnEgg$Kitchen;", true)
  | 2 => ("TwoThirdsOfAnEgg", "draft", "LTwoThirdsOfAnEgg$Kitchen;", true)
  | 3 => ("TwoThirdsOfAnEgg", "imageTaken", "Z", false)
  | 4 => ("TwoThirdsOfAnEgg", "book", "LTwoThirdsOfAnEgg$Book;", true)
  | 5 => ("TwoThirdsOfAnEgg", "row", "LTwoThirdsOfAnEgg$Table;", true)
  | 6 => ("TwoThirdsOfAnEgg", "earlierGuests", "LTwoThirdsOfAnEgg$Table;", true)
  | 7 => ("TwoThirdsOfAnEgg", "refusals", "LTwoThirdsOfAnEgg$Table;", true)
  | 8 => ("TwoThirdsOfAnEgg", "stores", "LTwoThirdsOfAnEgg$Stores;", true)
  | 9 => ("TwoThirdsOfAnEgg", "pouring", "LTwoThirdsOfAnEgg$Pouring;", true)
  | 10 => ("TwoThirdsOfAnEgg", "balance", "LTwoThirdsOfAnEgg$Balance;", true)
  | _ => ("TwoThirdsOfAnEgg", "minutes", "LTwoThirdsOfAnEgg$Minutes;", true)
def tyX11 : Nat → FieldType := fun k => match k with
  | 0 => .object "TwoThirdsOfAnEgg$Kitchen"
  | 1 => .object "TwoThirdsOfAnEgg$Kitchen"
  | 2 => .object "TwoThirdsOfAnEgg$Kitchen"
  | 3 => .boolean
  | 4 => .object "TwoThirdsOfAnEgg$Book"
  | 5 => .object "TwoThirdsOfAnEgg$Table"
  | 6 => .object "TwoThirdsOfAnEgg$Table"
  | 7 => .object "TwoThirdsOfAnEgg$Table"
  | 8 => .object "TwoThirdsOfAnEgg$Stores"
  | 9 => .object "TwoThirdsOfAnEgg$Pouring"
  | 10 => .object "TwoThirdsOfAnEgg$Balance"
  | _ => .object "TwoThirdsOfAnEgg$Minutes"
abbrev wsX110 : List Cond := u_ws RX11 TX11 12
theorem nmX11 : ∀ a, a < 12 → ∀ b, b < 12 → a ≠ b → (TX11 a).2.1 ≠ (TX11 b).2.1 := by decide +kernel
theorem tyX11_ok : ∀ k, k < 12 → parseFieldDescriptor (TX11 k).2.2.1 = some (tyX11 k) := by decide +kernel
abbrev cX11_init : ByteArray := prog_1_method_1_code
def yX11_init : MethodName := ⟨RX11, "<init>", "()V"⟩
abbrev cX11_feed : ByteArray := prog_1_method_2_code
def yX11_feed : MethodName := ⟨RX11, "feed", "(I)I"⟩
abbrev cX11_book : ByteArray := prog_1_method_3_code
def yX11_book : MethodName := ⟨RX11, "book", "()I"⟩
abbrev cX11_part : ByteArray := prog_1_method_4_code
def yX11_part : MethodName := ⟨RX11, "part", "(II)I"⟩
abbrev cX11_guests : ByteArray := prog_1_method_5_code
def yX11_guests : MethodName := ⟨RX11, "guests", "(I)I"⟩
abbrev cX11_house : ByteArray := prog_1_method_6_code
def yX11_house : MethodName := ⟨RX11, "house", "(II)I"⟩
abbrev cX11_set : ByteArray := prog_1_method_7_code
def yX11_set : MethodName := ⟨RX11, "set", "(II)I"⟩
abbrev cX11_share : ByteArray := prog_1_method_8_code
def yX11_share : MethodName := ⟨RX11, "share", "(III)J"⟩
abbrev cX11_off : ByteArray := prog_1_method_9_code
def yX11_off : MethodName := ⟨RX11, "off", "(II)J"⟩
abbrev cX11_best : ByteArray := prog_1_method_10_code
def yX11_best : MethodName := ⟨RX11, "best", "(II)I"⟩
abbrev cX11_out : ByteArray := prog_1_method_11_code
def yX11_out : MethodName := ⟨RX11, "out", "(I)I"⟩
abbrev cX11_scale : ByteArray := prog_1_method_12_code
def yX11_scale : MethodName := ⟨RX11, "scale", "(III)I"⟩
abbrev cX11_tin : ByteArray := prog_1_method_13_code
def yX11_tin : MethodName := ⟨RX11, "tin", "(II)I"⟩
abbrev cX11_deep : ByteArray := prog_1_method_14_code
def yX11_deep : MethodName := ⟨RX11, "deep", "(II)J"⟩
abbrev cX11_tinFor : ByteArray := prog_1_method_15_code
def yX11_tinFor : MethodName := ⟨RX11, "tinFor", "()I"⟩
abbrev cX11_enough : ByteArray := prog_1_method_16_code
def yX11_enough : MethodName := ⟨RX11, "enough", "()I"⟩
abbrev cX11_lacks : ByteArray := prog_1_method_17_code
def yX11_lacks : MethodName := ⟨RX11, "lacks", "()I"⟩
abbrev cX11_standIn : ByteArray := prog_1_method_18_code
def yX11_standIn : MethodName := ⟨RX11, "standIn", "(II)I"⟩
abbrev cX11_stead : ByteArray := prog_1_method_19_code
def yX11_stead : MethodName := ⟨RX11, "stead", "(I)I"⟩
abbrev cX11_cup : ByteArray := prog_1_method_20_code
def yX11_cup : MethodName := ⟨RX11, "cup", "(II)I"⟩
abbrev cX11_pours : ByteArray := prog_1_method_21_code
def yX11_pours : MethodName := ⟨RX11, "pours", "(I)I"⟩
abbrev cX11_steps : ByteArray := prog_1_method_22_code
def yX11_steps : MethodName := ⟨RX11, "steps", "(III)I"⟩
abbrev cX11_mistake : ByteArray := prog_1_method_23_code
def yX11_mistake : MethodName := ⟨RX11, "mistake", "(II)I"⟩
abbrev cX11_more : ByteArray := prog_1_method_24_code
def yX11_more : MethodName := ⟨RX11, "more", "(III)I"⟩
abbrev cX11_lots : ByteArray := prog_1_method_25_code
def yX11_lots : MethodName := ⟨RX11, "lots", "(II)I"⟩
abbrev cX11_used : ByteArray := prog_1_method_26_code
def yX11_used : MethodName := ⟨RX11, "used", "()I"⟩
abbrev cX11_row : ByteArray := prog_1_method_27_code
def yX11_row : MethodName := ⟨RX11, "row", "(I)I"⟩
abbrev cX11_read : ByteArray := prog_1_method_28_code
def yX11_read : MethodName := ⟨RX11, "read", "(I)I"⟩
abbrev cX11_judge : ByteArray := prog_1_method_29_code
def yX11_judge : MethodName := ⟨RX11, "judge", "()I"⟩
abbrev cX11_clear : ByteArray := prog_1_method_30_code
def yX11_clear : MethodName := ⟨RX11, "clear", "()I"⟩
abbrev cX11_seeds : ByteArray := prog_1_method_31_code
def yX11_seeds : MethodName := ⟨RX11, "seeds", "(III)J"⟩
abbrev cX11_back : ByteArray := prog_1_method_32_code
def yX11_back : MethodName := ⟨RX11, "back", "()I"⟩
abbrev cX11_price : ByteArray := prog_1_method_33_code
def yX11_price : MethodName := ⟨RX11, "price", "(II)I"⟩
abbrev cX11_buy : ByteArray := prog_1_method_34_code
def yX11_buy : MethodName := ⟨RX11, "buy", "(I)I"⟩
abbrev cX11_cheapest : ByteArray := prog_1_method_35_code
def yX11_cheapest : MethodName := ⟨RX11, "cheapest", "(II)I"⟩
abbrev cX11_weight : ByteArray := prog_1_method_36_code
def yX11_weight : MethodName := ⟨RX11, "weight", "(I)I"⟩
abbrev cX11_weighed : ByteArray := prog_1_method_37_code
def yX11_weighed : MethodName := ⟨RX11, "weighed", "(II)I"⟩
abbrev cX11_heavy : ByteArray := prog_1_method_38_code
def yX11_heavy : MethodName := ⟨RX11, "heavy", "()I"⟩
abbrev cX11_oven : ByteArray := prog_1_method_39_code
def yX11_oven : MethodName := ⟨RX11, "oven", "(II)I"⟩
abbrev cX11_also : ByteArray := prog_1_method_40_code
def yX11_also : MethodName := ⟨RX11, "also", "(II)I"⟩
abbrev cX11_recipes : ByteArray := prog_1_method_41_code
def yX11_recipes : MethodName := ⟨RX11, "recipes", "(I)I"⟩
abbrev cX11_needed : ByteArray := prog_1_method_42_code
def yX11_needed : MethodName := ⟨RX11, "needed", "(III)I"⟩
abbrev cX11_forgotten : ByteArray := prog_1_method_43_code
def yX11_forgotten : MethodName := ⟨RX11, "forgotten", "()I"⟩
abbrev cX11_pair : ByteArray := prog_1_method_44_code
def yX11_pair : MethodName := ⟨RX11, "pair", "()I"⟩
abbrev cX11_path : ByteArray := prog_1_method_45_code
def yX11_path : MethodName := ⟨RX11, "path", "(II)I"⟩
abbrev cX11_dish : ByteArray := prog_1_method_46_code
def yX11_dish : MethodName := ⟨RX11, "dish", "(IIIII)I"⟩
abbrev cX11_usedUp : ByteArray := prog_1_method_47_code
def yX11_usedUp : MethodName := ⟨RX11, "usedUp", "(I)I"⟩
abbrev cX11_fair : ByteArray := prog_1_method_48_code
def yX11_fair : MethodName := ⟨RX11, "fair", "(I)I"⟩
abbrev cX11_image : ByteArray := prog_1_method_49_code
def yX11_image : MethodName := ⟨RX11, "image", "()I"⟩
abbrev cX11_restore : ByteArray := prog_1_method_50_code
def yX11_restore : MethodName := ⟨RX11, "restore", "()I"⟩
abbrev cX11_count : ByteArray := prog_1_method_51_code
def yX11_count : MethodName := ⟨RX11, "count", "(I)I"⟩
abbrev cX11_refused : ByteArray := prog_1_method_52_code
def yX11_refused : MethodName := ⟨RX11, "refused", "(III)I"⟩
abbrev cX11_refused_ : ByteArray := prog_1_method_53_code
def yX11_refused_ : MethodName := ⟨RX11, "refused", "(II)I"⟩
abbrev cX11_refused__ : ByteArray := prog_1_method_54_code
def yX11_refused__ : MethodName := ⟨RX11, "refused", "(I)I"⟩
abbrev cX11_either : ByteArray := prog_1_method_55_code
def yX11_either : MethodName := ⟨RX11, "either", "(IIII)I"⟩
abbrev cX11_outside : ByteArray := prog_1_method_56_code
def yX11_outside : MethodName := ⟨RX11, "outside", "(III)I"⟩
abbrev cX11_each : ByteArray := prog_1_method_57_code
def yX11_each : MethodName := ⟨RX11, "each", "(IIII)I"⟩
abbrev cX11_noChoice : ByteArray := prog_1_method_58_code
def yX11_noChoice : MethodName := ⟨RX11, "noChoice", "(II)I"⟩
abbrev cX11_noSuch : ByteArray := prog_1_method_59_code
def yX11_noSuch : MethodName := ⟨RX11, "noSuch", "(LTwoThirdsOfAnEgg$Table;I)I"⟩
abbrev cX11_noRoom : ByteArray := prog_1_method_60_code
def yX11_noRoom : MethodName := ⟨RX11, "noRoom", "(LTwoThirdsOfAnEgg$Table;)I"⟩
abbrev cX11_noPart : ByteArray := prog_1_method_61_code
def yX11_noPart : MethodName := ⟨RX11, "noPart", "(I)I"⟩
abbrev cX11_noPartOf : ByteArray := prog_1_method_62_code
def yX11_noPartOf : MethodName := ⟨RX11, "noPartOf", "(II)I"⟩
abbrev cX11_notTwoParts : ByteArray := prog_1_method_63_code
def yX11_notTwoParts : MethodName := ⟨RX11, "notTwoParts", "(II)I"⟩
abbrev cX11_rowNotForParts : ByteArray := prog_1_method_64_code
def yX11_rowNotForParts : MethodName := ⟨RX11, "rowNotForParts", "()I"⟩
abbrev cX11_partBecomes : ByteArray := prog_1_method_65_code
def yX11_partBecomes : MethodName := ⟨RX11, "partBecomes", "(III)I"⟩
def RX12 : String := "TwoThirdsOfAnEggModel"
def TX12 : u_T := fun k => match k with
  | 0 => ("TwoThirdsOfAnEggModel", "forMany", "I", false)
  | 1 => ("TwoThirdsOfAnEggModel", "guests0", "I", false)
  | 2 => ("TwoThirdsOfAnEggModel", "parts", "I", false)
  | 3 => ("TwoThirdsOfAnEggModel", "tins", "I", false)
  | 4 => ("TwoThirdsOfAnEggModel", "standIns", "I", false)
  | 5 => ("TwoThirdsOfAnEggModel", "volume", "I", false)
  | 6 => ("TwoThirdsOfAnEggModel", "time", "I", false)
  | 7 => ("TwoThirdsOfAnEggModel", "kinds", "[I", true)
  | 8 => ("TwoThirdsOfAnEggModel", "steps0", "[I", true)
  | 9 => ("TwoThirdsOfAnEggModel", "costs", "[I", true)
  | 10 => ("TwoThirdsOfAnEggModel", "amounts", "[I", true)
  | 11 => ("TwoThirdsOfAnEggModel", "houses", "[I", true)
  | 12 => ("TwoThirdsOfAnEggModel", "squares", "[I", true)
  | 13 => ("TwoThirdsOfAnEggModel", "sizes", "[I", true)
  | 14 => ("TwoThirdsOfAnEggModel", "stands", "[I", true)
  | 15 => ("TwoThirdsOfAnEggModel", "cups", "[I", true)
  | 16 => ("TwoThirdsOfAnEggModel", "thrown", "I", false)
  | 17 => ("TwoThirdsOfAnEggModel", "refusals", "[I", true)
  | 18 => ("TwoThirdsOfAnEggModel", "letters", "[I", true)
  | 19 => ("TwoThirdsOfAnEggModel", "letterMany", "I", false)
  | 20 => ("TwoThirdsOfAnEggModel", "at", "I", false)
  | 21 => ("TwoThirdsOfAnEggModel", "isBad", "Z", false)
  | 22 => ("TwoThirdsOfAnEggModel", "statements", "I", false)
  | 23 => ("TwoThirdsOfAnEggModel", "placeIn", "[I", true)
  | 24 => ("TwoThirdsOfAnEggModel", "letterOf", "[I", true)
  | 25 => ("TwoThirdsOfAnEggModel", "told", "[I", true)
  | 26 => ("TwoThirdsOfAnEggModel", "kept", "[I", true)
  | 27 => ("TwoThirdsOfAnEggModel", "imaged", "[I", true)
  | 28 => ("TwoThirdsOfAnEggModel", "hasImage", "Z", false)
  | 29 => ("TwoThirdsOfAnEggModel", "place0", "I", false)
  | 30 => ("TwoThirdsOfAnEggModel", "isTaking", "Z", false)
  | 31 => ("TwoThirdsOfAnEggModel", "keptIn", "[I", false)
  | 32 => ("TwoThirdsOfAnEggModel", "backs", "[I", true)
  | 33 => ("TwoThirdsOfAnEggModel", "turned", "I", false)
  | 34 => ("TwoThirdsOfAnEggModel", "losses", "[I", true)
  | 35 => ("TwoThirdsOfAnEggModel", "stepsTo", "[I", true)
  | 36 => ("TwoThirdsOfAnEggModel", "queue", "[I", true)
  | 37 => ("TwoThirdsOfAnEggModel", "queued", "I", false)
  | 38 => ("TwoThirdsOfAnEggModel", "prices", "[I", true)
  | 39 => ("TwoThirdsOfAnEggModel", "alsos", "[I", true)
  | 40 => ("TwoThirdsOfAnEggModel", "weights", "[I", true)
  | 41 => ("TwoThirdsOfAnEggModel", "weightMany", "I", false)
  | 42 => ("TwoThirdsOfAnEggModel", "isWeighed", "[Z", true)
  | 43 => ("TwoThirdsOfAnEggModel", "shelves", "[I", true)
  | 44 => ("TwoThirdsOfAnEggModel", "cameFrom", "[I", true)
  | 45 => ("TwoThirdsOfAnEggModel", "cameBy", "[I", true)
  | 46 => ("TwoThirdsOfAnEggModel", "dishOf", "[I", true)
  | 47 => ("TwoThirdsOfAnEggModel", "dishes", "I", false)
  | 48 => ("TwoThirdsOfAnEggModel", "row", "[I", true)
  | _ => ("TwoThirdsOfAnEggModel", "rowMany", "I", false)
def tyX12 : Nat → FieldType := fun k => match k with
  | 0 => .int
  | 1 => .int
  | 2 => .int
  | 3 => .int
  | 4 => .int
  | 5 => .int
  | 6 => .int
  | 7 => .array .int
  | 8 => .array .int
  | 9 => .array .int
  | 10 => .array .int
  | 11 => .array .int
  | 12 => .array .int
  | 13 => .array .int
  | 14 => .array .int
  | 15 => .array .int
  | 16 => .int
  | 17 => .array .int
  | 18 => .array .int
  | 19 => .int
  | 20 => .int
  | 21 => .boolean
  | 22 => .int
  | 23 => .array .int
  | 24 => .array .int
  | 25 => .array .int
  | 26 => .array .int
  | 27 => .array .int
  | 28 => .boolean
  | 29 => .int
  | 30 => .boolean
  | 31 => .array .int
  | 32 => .array .int
  | 33 => .int
  | 34 => .array .int
  | 35 => .array .int
  | 36 => .array .int
  | 37 => .int
  | 38 => .array .int
  | 39 => .array .int
  | 40 => .array .int
  | 41 => .int
  | 42 => .array .boolean
  | 43 => .array .int
  | 44 => .array .int
  | 45 => .array .int
  | 46 => .array .int
  | 47 => .int
  | 48 => .array .int
  | _ => .int
abbrev wsX120 : List Cond := u_ws RX12 TX12 50
theorem nmX12 : ∀ a, a < 50 → ∀ b, b < 50 → a ≠ b → (TX12 a).2.1 ≠ (TX12 b).2.1 := by decide +kernel
theorem tyX12_ok : ∀ k, k < 50 → parseFieldDescriptor (TX12 k).2.2.1 = some (tyX12 k) := by decide +kernel
abbrev cX12_init : ByteArray := prog_14_method_1_code
def yX12_init : MethodName := ⟨RX12, "<init>", "()V"⟩
abbrev cX12_in : ByteArray := prog_14_method_3_code
def yX12_in : MethodName := ⟨RX12, "in", "(JJJ)Z"⟩
abbrev cX12_refuse : ByteArray := prog_14_method_4_code
def yX12_refuse : MethodName := ⟨RX12, "refuse", "(I)I"⟩
abbrev cX12_isPart : ByteArray := prog_14_method_5_code
def yX12_isPart : MethodName := ⟨RX12, "isPart", "(I)Z"⟩
abbrev cX12_wrongNumber : ByteArray := prog_14_method_6_code
def yX12_wrongNumber : MethodName := ⟨RX12, "wrongNumber", "(III)I"⟩
abbrev cX12_nearest : ByteArray := prog_14_method_7_code
def yX12_nearest : MethodName := ⟨RX12, "nearest", "(II)I"⟩
abbrev cX12_up : ByteArray := prog_14_method_8_code
def yX12_up : MethodName := ⟨RX12, "up", "(II)I"⟩
abbrev cX12_plainly : ByteArray := prog_14_method_9_code
def yX12_plainly : MethodName := ⟨RX12, "plainly", "(I)I"⟩
abbrev cX12_wholeOf : ByteArray := prog_14_method_10_code
def yX12_wholeOf : MethodName := ⟨RX12, "wholeOf", "(II)I"⟩
abbrev cX12_takenBy : ByteArray := prog_14_method_11_code
def yX12_takenBy : MethodName := ⟨RX12, "takenBy", "(III)I"⟩
abbrev cX12_takenFor : ByteArray := prog_14_method_12_code
def yX12_takenFor : MethodName := ⟨RX12, "takenFor", "(II)I"⟩
abbrev cX12_offBy : ByteArray := prog_14_method_13_code
def yX12_offBy : MethodName := ⟨RX12, "offBy", "(III)I"⟩
abbrev cX12_offOf : ByteArray := prog_14_method_14_code
def yX12_offOf : MethodName := ⟨RX12, "offOf", "(I)I"⟩
abbrev cX12_divisor : ByteArray := prog_14_method_15_code
def yX12_divisor : MethodName := ⟨RX12, "divisor", "(II)I"⟩
abbrev cX12_partOf : ByteArray := prog_14_method_16_code
def yX12_partOf : MethodName := ⟨RX12, "partOf", "(III)I"⟩
abbrev cX12_leftOf : ByteArray := prog_14_method_17_code
def yX12_leftOf : MethodName := ⟨RX12, "leftOf", "(I)I"⟩
abbrev cX12_feed : ByteArray := prog_14_method_18_code
def yX12_feed : MethodName := ⟨RX12, "feed", "(I)I"⟩
abbrev cX12_here : ByteArray := prog_14_method_19_code
def yX12_here : MethodName := ⟨RX12, "here", "()I"⟩
abbrev cX12_readDigit : ByteArray := prog_14_method_20_code
def yX12_readDigit : MethodName := ⟨RX12, "readDigit", "()I"⟩
abbrev cX12_readOneOrTwo : ByteArray := prog_14_method_21_code
def yX12_readOneOrTwo : MethodName := ⟨RX12, "readOneOrTwo", "()I"⟩
abbrev cX12_readTwo : ByteArray := prog_14_method_22_code
def yX12_readTwo : MethodName := ⟨RX12, "readTwo", "()I"⟩
abbrev cX12_take : ByteArray := prog_14_method_23_code
def yX12_take : MethodName := ⟨RX12, "take", "(I)V"⟩
abbrev cX12_readShape : ByteArray := prog_14_method_24_code
def yX12_readShape : MethodName := ⟨RX12, "readShape", "()I"⟩
abbrev cX12_readMany : ByteArray := prog_14_method_25_code
def yX12_readMany : MethodName := ⟨RX12, "readMany", "(II)V"⟩
abbrev cX12_readStatement : ByteArray := prog_14_method_26_code
def yX12_readStatement : MethodName := ⟨RX12, "readStatement", "()V"⟩
abbrev cX12_partComes : ByteArray := prog_14_method_27_code
def yX12_partComes : MethodName := ⟨RX12, "partComes", "(I)Z"⟩
abbrev cX12_tinComes : ByteArray := prog_14_method_28_code
def yX12_tinComes : MethodName := ⟨RX12, "tinComes", "(II)Z"⟩
abbrev cX12_hasStandIn : ByteArray := prog_14_method_29_code
def yX12_hasStandIn : MethodName := ⟨RX12, "hasStandIn", "(II)Z"⟩
abbrev cX12_standInComes : ByteArray := prog_14_method_30_code
def yX12_standInComes : MethodName := ⟨RX12, "standInComes", "(I)Z"⟩
abbrev cX12_cupsCome : ByteArray := prog_14_method_31_code
def yX12_cupsCome : MethodName := ⟨RX12, "cupsCome", "(III)Z"⟩
abbrev cX12_comes : ByteArray := prog_14_method_32_code
def yX12_comes : MethodName := ⟨RX12, "comes", "(I)Z"⟩
abbrev cX12_book : ByteArray := prog_14_method_33_code
def yX12_book : MethodName := ⟨RX12, "book", "()I"⟩
abbrev cX12_carry : ByteArray := prog_14_method_34_code
def yX12_carry : MethodName := ⟨RX12, "carry", "(I)I"⟩
abbrev cX12_carryAll : ByteArray := prog_14_method_35_code
def yX12_carryAll : MethodName := ⟨RX12, "carryAll", "([IZ)V"⟩
abbrev cX12_image : ByteArray := prog_14_method_36_code
def yX12_image : MethodName := ⟨RX12, "image", "()I"⟩
abbrev cX12_restore : ByteArray := prog_14_method_37_code
def yX12_restore : MethodName := ⟨RX12, "restore", "()I"⟩
abbrev cX12_part : ByteArray := prog_14_method_38_code
def yX12_part : MethodName := ⟨RX12, "part", "(II)I"⟩
abbrev cX12_guests : ByteArray := prog_14_method_39_code
def yX12_guests : MethodName := ⟨RX12, "guests", "(I)I"⟩
abbrev cX12_keepGuests : ByteArray := prog_14_method_40_code
def yX12_keepGuests : MethodName := ⟨RX12, "keepGuests", "()V"⟩
abbrev cX12_back : ByteArray := prog_14_method_41_code
def yX12_back : MethodName := ⟨RX12, "back", "()I"⟩
abbrev cX12_house : ByteArray := prog_14_method_42_code
def yX12_house : MethodName := ⟨RX12, "house", "(II)I"⟩
abbrev cX12_set : ByteArray := prog_14_method_43_code
def yX12_set : MethodName := ⟨RX12, "set", "(II)I"⟩
abbrev cX12_share : ByteArray := prog_14_method_44_code
def yX12_share : MethodName := ⟨RX12, "share", "(III)J"⟩
abbrev cX12_off : ByteArray := prog_14_method_45_code
def yX12_off : MethodName := ⟨RX12, "off", "(II)J"⟩
abbrev cX12_best : ByteArray := prog_14_method_46_code
def yX12_best : MethodName := ⟨RX12, "best", "(II)I"⟩
abbrev cX12_isOut : ByteArray := prog_14_method_47_code
def yX12_isOut : MethodName := ⟨RX12, "isOut", "(I)Z"⟩
abbrev cX12_out : ByteArray := prog_14_method_48_code
def yX12_out : MethodName := ⟨RX12, "out", "(I)I"⟩
abbrev cX12_greatestOff : ByteArray := prog_14_method_49_code
def yX12_greatestOff : MethodName := ⟨RX12, "greatestOff", "(I)I"⟩
abbrev cX12_scale : ByteArray := prog_14_method_50_code
def yX12_scale : MethodName := ⟨RX12, "scale", "(III)I"⟩
abbrev cX12_isTin : ByteArray := prog_14_method_51_code
def yX12_isTin : MethodName := ⟨RX12, "isTin", "(I)Z"⟩
abbrev cX12_areaOf : ByteArray := prog_14_method_52_code
def yX12_areaOf : MethodName := ⟨RX12, "areaOf", "(I)I"⟩
abbrev cX12_longIn : ByteArray := prog_14_method_53_code
def yX12_longIn : MethodName := ⟨RX12, "longIn", "(I)I"⟩
abbrev cX12_tin : ByteArray := prog_14_method_54_code
def yX12_tin : MethodName := ⟨RX12, "tin", "(II)I"⟩
abbrev cX12_deep : ByteArray := prog_14_method_55_code
def yX12_deep : MethodName := ⟨RX12, "deep", "(II)J"⟩
abbrev cX12_tinFor : ByteArray := prog_14_method_56_code
def yX12_tinFor : MethodName := ⟨RX12, "tinFor", "()I"⟩
abbrev cX12_isEnough : ByteArray := prog_14_method_57_code
def yX12_isEnough : MethodName := ⟨RX12, "isEnough", "(I)Z"⟩
abbrev cX12_enough : ByteArray := prog_14_method_58_code
def yX12_enough : MethodName := ⟨RX12, "enough", "()I"⟩
abbrev cX12_lackOf : ByteArray := prog_14_method_59_code
def yX12_lackOf : MethodName := ⟨RX12, "lackOf", "(I)I"⟩
abbrev cX12_lacks : ByteArray := prog_14_method_60_code
def yX12_lacks : MethodName := ⟨RX12, "lacks", "()I"⟩
abbrev cX12_standIn : ByteArray := prog_14_method_61_code
def yX12_standIn : MethodName := ⟨RX12, "standIn", "(II)I"⟩
abbrev cX12_timesOf : ByteArray := prog_14_method_62_code
def yX12_timesOf : MethodName := ⟨RX12, "timesOf", "(I)I"⟩
abbrev cX12_useOnce : ByteArray := prog_14_method_63_code
def yX12_useOnce : MethodName := ⟨RX12, "useOnce", "(II)V"⟩
abbrev cX12_stead : ByteArray := prog_14_method_64_code
def yX12_stead : MethodName := ⟨RX12, "stead", "(I)I"⟩
abbrev cX12_cup : ByteArray := prog_14_method_65_code
def yX12_cup : MethodName := ⟨RX12, "cup", "(II)I"⟩
abbrev cX12_inCup : ByteArray := prog_14_method_66_code
def yX12_inCup : MethodName := ⟨RX12, "inCup", "(II)I"⟩
abbrev cX12_weightOf : ByteArray := prog_14_method_67_code
def yX12_weightOf : MethodName := ⟨RX12, "weightOf", "(I)I"⟩
abbrev cX12_reach : ByteArray := prog_14_method_68_code
def yX12_reach : MethodName := ⟨RX12, "reach", "(II)V"⟩
abbrev cX12_stepsFrom : ByteArray := prog_14_method_69_code
def yX12_stepsFrom : MethodName := ⟨RX12, "stepsFrom", "(I)V"⟩
abbrev cX12_pourAll : ByteArray := prog_14_method_70_code
def yX12_pourAll : MethodName := ⟨RX12, "pourAll", "()V"⟩
abbrev cX12_pours : ByteArray := prog_14_method_71_code
def yX12_pours : MethodName := ⟨RX12, "pours", "(I)I"⟩
abbrev cX12_steps : ByteArray := prog_14_method_72_code
def yX12_steps : MethodName := ⟨RX12, "steps", "(III)I"⟩
abbrev cX12_mistakeBy : ByteArray := prog_14_method_73_code
def yX12_mistakeBy : MethodName := ⟨RX12, "mistakeBy", "(II)I"⟩
abbrev cX12_wrongMistake : ByteArray := prog_14_method_74_code
def yX12_wrongMistake : MethodName := ⟨RX12, "wrongMistake", "(II)I"⟩
abbrev cX12_mistake : ByteArray := prog_14_method_75_code
def yX12_mistake : MethodName := ⟨RX12, "mistake", "(II)I"⟩
abbrev cX12_more : ByteArray := prog_14_method_76_code
def yX12_more : MethodName := ⟨RX12, "more", "(III)I"⟩
abbrev cX12_lots : ByteArray := prog_14_method_77_code
def yX12_lots : MethodName := ⟨RX12, "lots", "(II)I"⟩
abbrev cX12_used : ByteArray := prog_14_method_78_code
def yX12_used : MethodName := ⟨RX12, "used", "()I"⟩
abbrev cX12_price : ByteArray := prog_14_method_79_code
def yX12_price : MethodName := ⟨RX12, "price", "(II)I"⟩
abbrev cX12_also : ByteArray := prog_14_method_80_code
def yX12_also : MethodName := ⟨RX12, "also", "(II)I"⟩
abbrev cX12_buyFor : ByteArray := prog_14_method_81_code
def yX12_buyFor : MethodName := ⟨RX12, "buyFor", "(I)I"⟩
abbrev cX12_buy : ByteArray := prog_14_method_82_code
def yX12_buy : MethodName := ⟨RX12, "buy", "(I)I"⟩
abbrev cX12_cheapest : ByteArray := prog_14_method_83_code
def yX12_cheapest : MethodName := ⟨RX12, "cheapest", "(II)I"⟩
abbrev cX12_weight : ByteArray := prog_14_method_84_code
def yX12_weight : MethodName := ⟨RX12, "weight", "(I)I"⟩
abbrev cX12_onesOf : ByteArray := prog_14_method_85_code
def yX12_onesOf : MethodName := ⟨RX12, "onesOf", "(I)I"⟩
abbrev cX12_weighedBy : ByteArray := prog_14_method_86_code
def yX12_weighedBy : MethodName := ⟨RX12, "weighedBy", "(I)I"⟩
abbrev cX12_weighHow : ByteArray := prog_14_method_87_code
def yX12_weighHow : MethodName := ⟨RX12, "weighHow", "(I)I"⟩
abbrev cX12_weighed : ByteArray := prog_14_method_88_code
def yX12_weighed : MethodName := ⟨RX12, "weighed", "(II)I"⟩
abbrev cX12_heavy : ByteArray := prog_14_method_89_code
def yX12_heavy : MethodName := ⟨RX12, "heavy", "()I"⟩
abbrev cX12_latestShelf : ByteArray := prog_14_method_90_code
def yX12_latestShelf : MethodName := ⟨RX12, "latestShelf", "()I"⟩
abbrev cX12_emptyShelves : ByteArray := prog_14_method_91_code
def yX12_emptyShelves : MethodName := ⟨RX12, "emptyShelves", "()V"⟩
abbrev cX12_inTurn : ByteArray := prog_14_method_92_code
def yX12_inTurn : MethodName := ⟨RX12, "inTurn", "(I)I"⟩
abbrev cX12_doneBy : ByteArray := prog_14_method_93_code
def yX12_doneBy : MethodName := ⟨RX12, "doneBy", "(II)I"⟩
abbrev cX12_soonestCode : ByteArray := prog_14_method_94_code
def yX12_soonestCode : MethodName := ⟨RX12, "soonestCode", "(I)I"⟩
abbrev cX12_oven : ByteArray := prog_14_method_95_code
def yX12_oven : MethodName := ⟨RX12, "oven", "(II)I"⟩
abbrev cX12_areBoth : ByteArray := prog_14_method_96_code
def yX12_areBoth : MethodName := ⟨RX12, "areBoth", "(II)Z"⟩
abbrev cX12_recipes : ByteArray := prog_14_method_97_code
def yX12_recipes : MethodName := ⟨RX12, "recipes", "(I)I"⟩
abbrev cX12_needed : ByteArray := prog_14_method_98_code
def yX12_needed : MethodName := ⟨RX12, "needed", "(III)I"⟩
abbrev cX12_forgotten : ByteArray := prog_14_method_99_code
def yX12_forgotten : MethodName := ⟨RX12, "forgotten", "()I"⟩
abbrev cX12_pair : ByteArray := prog_14_method_100_code
def yX12_pair : MethodName := ⟨RX12, "pair", "()I"⟩
abbrev cX12_reachBy : ByteArray := prog_14_method_101_code
def yX12_reachBy : MethodName := ⟨RX12, "reachBy", "(III)V"⟩
abbrev cX12_stepsTold : ByteArray := prog_14_method_102_code
def yX12_stepsTold : MethodName := ⟨RX12, "stepsTold", "(I)V"⟩
abbrev cX12_stateWith : ByteArray := prog_14_method_103_code
def yX12_stateWith : MethodName := ⟨RX12, "stateWith", "(I)I"⟩
abbrev cX12_path : ByteArray := prog_14_method_104_code
def yX12_path : MethodName := ⟨RX12, "path", "(II)I"⟩
abbrev cX12_dish : ByteArray := prog_14_method_105_code
def yX12_dish : MethodName := ⟨RX12, "dish", "(IIIII)I"⟩
abbrev cX12_isLeftFor : ByteArray := prog_14_method_106_code
def yX12_isLeftFor : MethodName := ⟨RX12, "isLeftFor", "(I)Z"⟩
abbrev cX12_worthOf : ByteArray := prog_14_method_107_code
def yX12_worthOf : MethodName := ⟨RX12, "worthOf", "(I)I"⟩
abbrev cX12_usedUp : ByteArray := prog_14_method_108_code
def yX12_usedUp : MethodName := ⟨RX12, "usedUp", "(I)I"⟩
abbrev cX12_apartBy : ByteArray := prog_14_method_109_code
def yX12_apartBy : MethodName := ⟨RX12, "apartBy", "(I)I"⟩
abbrev cX12_areAllAbove : ByteArray := prog_14_method_110_code
def yX12_areAllAbove : MethodName := ⟨RX12, "areAllAbove", "()Z"⟩
abbrev cX12_fair : ByteArray := prog_14_method_111_code
def yX12_fair : MethodName := ⟨RX12, "fair", "(I)I"⟩
abbrev cX12_row : ByteArray := prog_14_method_112_code
def yX12_row : MethodName := ⟨RX12, "row", "(I)I"⟩
abbrev cX12_isTaken : ByteArray := prog_14_method_113_code
def yX12_isTaken : MethodName := ⟨RX12, "isTaken", "(II)Z"⟩
abbrev cX12_readNumbers : ByteArray := prog_14_method_114_code
def yX12_readNumbers : MethodName := ⟨RX12, "readNumbers", "()I"⟩
abbrev cX12_read : ByteArray := prog_14_method_115_code
def yX12_read : MethodName := ⟨RX12, "read", "(I)I"⟩
abbrev cX12_judge : ByteArray := prog_14_method_116_code
def yX12_judge : MethodName := ⟨RX12, "judge", "()I"⟩
abbrev cX12_clear : ByteArray := prog_14_method_117_code
def yX12_clear : MethodName := ⟨RX12, "clear", "()I"⟩
abbrev cX12_seeds : ByteArray := prog_14_method_118_code
def yX12_seeds : MethodName := ⟨RX12, "seeds", "(III)J"⟩
abbrev cX12_count : ByteArray := prog_14_method_119_code
def yX12_count : MethodName := ⟨RX12, "count", "(I)I"⟩
def RJ6 : String := "java/lang/Integer"
def TJ6 : u_T := fun k => match k with
  | _ => ("", "", "", false)
def tyJ6 : Nat → FieldType := fun k => match k with
  | _ => .int
abbrev wsJ60 : List Cond := u_ws RJ6 TJ6 0
theorem nmJ6 : ∀ a, a < 0 → ∀ b, b < 0 → a ≠ b → (TJ6 a).2.1 ≠ (TJ6 b).2.1 := by decide +kernel
theorem tyJ6_ok : ∀ k, k < 0 → parseFieldDescriptor (TJ6 k).2.2.1 = some (tyJ6 k) := by decide +kernel
abbrev cJ6_bitCount_0f7a4 : ByteArray := prog_15_method_49_code
def yJ6_bitCount_0f7a4 : MethodName := ⟨RJ6, "bitCount", "(I)I"⟩
def RJ9 : String := "java/lang/Math"
def TJ9 : u_T := fun k => match k with
  | _ => ("", "", "", false)
def tyJ9 : Nat → FieldType := fun k => match k with
  | _ => .int
abbrev wsJ90 : List Cond := u_ws RJ9 TJ9 0
theorem nmJ9 : ∀ a, a < 0 → ∀ b, b < 0 → a ≠ b → (TJ9 a).2.1 ≠ (TJ9 b).2.1 := by decide +kernel
theorem tyJ9_ok : ∀ k, k < 0 → parseFieldDescriptor (TJ9 k).2.2.1 = some (tyJ9 k) := by decide +kernel
abbrev cJ9_abs_0f7a4 : ByteArray := prog_16_method_59_code
def yJ9_abs_0f7a4 : MethodName := ⟨RJ9, "abs", "(I)I"⟩
abbrev cJ9_max_7cf53 : ByteArray := prog_16_method_65_code
def yJ9_max_7cf53 : MethodName := ⟨RJ9, "max", "(II)I"⟩
abbrev cJ9_min_7cf53 : ByteArray := prog_16_method_69_code
def yJ9_min_7cf53 : MethodName := ⟨RJ9, "min", "(II)I"⟩
def RJ0 : String := "java/lang/String"
def TJ0 : u_T := fun k => match k with
  | _ => ("", "", "", false)
def tyJ0 : Nat → FieldType := fun k => match k with
  | _ => .int
abbrev wsJ00 : List Cond := u_ws RJ0 TJ0 0
theorem nmJ0 : ∀ a, a < 0 → ∀ b, b < 0 → a ≠ b → (TJ0 a).2.1 ≠ (TJ0 b).2.1 := by decide +kernel
theorem tyJ0_ok : ∀ k, k < 0 → parseFieldDescriptor (TJ0 k).2.2.1 = some (tyJ0 k) := by decide +kernel
abbrev cJ0_length_8abf5 : ByteArray := prog_17_method_54_code
def yJ0_length_8abf5 : MethodName := ⟨RJ0, "length", "()I"⟩
abbrev cJ0_isEmpty_aae02 : ByteArray := prog_17_method_55_code
def yJ0_isEmpty_aae02 : MethodName := ⟨RJ0, "isEmpty", "()Z"⟩
abbrev cJ0_charAt_5068e : ByteArray := prog_17_method_56_code
def yJ0_charAt_5068e : MethodName := ⟨RJ0, "charAt", "(I)C"⟩
abbrev cJ0_coder_7d493 : ByteArray := prog_17_method_152_code
def yJ0_coder_7d493 : MethodName := ⟨RJ0, "coder", "()B"⟩
abbrev cJ0_isLatin1_aae02 : ByteArray := prog_17_method_154_code
def yJ0_isLatin1_aae02 : MethodName := ⟨RJ0, "isLatin1", "()Z"⟩
abbrev cJ0_checkIndex_df160 : ByteArray := prog_17_method_155_code
def yJ0_checkIndex_df160 : MethodName := ⟨RJ0, "checkIndex", "(II)V"⟩
def RJ1 : String := "java/lang/StringLatin1"
def TJ1 : u_T := fun k => match k with
  | _ => ("", "", "", false)
def tyJ1 : Nat → FieldType := fun k => match k with
  | _ => .int
abbrev wsJ10 : List Cond := u_ws RJ1 TJ1 0
theorem nmJ1 : ∀ a, a < 0 → ∀ b, b < 0 → a ≠ b → (TJ1 a).2.1 ≠ (TJ1 b).2.1 := by decide +kernel
theorem tyJ1_ok : ∀ k, k < 0 → parseFieldDescriptor (TJ1 k).2.2.1 = some (tyJ1 k) := by decide +kernel
abbrev cJ1_charAt_3b067 : ByteArray := prog_18_method_2_code
def yJ1_charAt_3b067 : MethodName := ⟨RJ1, "charAt", "([BI)C"⟩
def RJ2 : String := "java/lang/StringUTF16"
def TJ2 : u_T := fun k => match k with
  | _ => ("", "", "", false)
def tyJ2 : Nat → FieldType := fun k => match k with
  | _ => .int
abbrev wsJ20 : List Cond := u_ws RJ2 TJ2 0
theorem nmJ2 : ∀ a, a < 0 → ∀ b, b < 0 → a ≠ b → (TJ2 a).2.1 ≠ (TJ2 b).2.1 := by decide +kernel
theorem tyJ2_ok : ∀ k, k < 0 → parseFieldDescriptor (TJ2 k).2.2.1 = some (tyJ2 k) := by decide +kernel
abbrev cJ2_getChar_3b067 : ByteArray := prog_19_method_5_code
def yJ2_getChar_3b067 : MethodName := ⟨RJ2, "getChar", "([BI)C"⟩
abbrev cJ2_length_9d52b : ByteArray := prog_19_method_6_code
def yJ2_length_9d52b : MethodName := ⟨RJ2, "length", "([B)I"⟩
abbrev cJ2_charAt_3b067 : ByteArray := prog_19_method_83_code
def yJ2_charAt_3b067 : MethodName := ⟨RJ2, "charAt", "([BI)C"⟩
abbrev cJ2_checkIndex_2214a : ByteArray := prog_19_method_91_code
def yJ2_checkIndex_2214a : MethodName := ⟨RJ2, "checkIndex", "(I[B)V"⟩
def RJ3 : String := "jdk/internal/util/Preconditions"
def TJ3 : u_T := fun k => match k with
  | _ => ("", "", "", false)
def tyJ3 : Nat → FieldType := fun k => match k with
  | _ => .int
abbrev wsJ30 : List Cond := u_ws RJ3 TJ3 0
theorem nmJ3 : ∀ a, a < 0 → ∀ b, b < 0 → a ≠ b → (TJ3 a).2.1 ≠ (TJ3 b).2.1 := by decide +kernel
theorem tyJ3_ok : ∀ k, k < 0 → parseFieldDescriptor (TJ3 k).2.2.1 = some (tyJ3 k) := by decide +kernel
abbrev cJ3_checkIndex_8e157 : ByteArray := prog_20_method_11_code
def yJ3_checkIndex_8e157 : MethodName := ⟨RJ3, "checkIndex", "(IILjava/util/function/BiFunction;)I"⟩
def RL : String := "TwoThirdsOfAnEggLaw"
abbrev cL_law : ByteArray := code
def yL_law : MethodName := ⟨RL, "law", "([I)Z"⟩
abbrev vwCl : List vw_C := [(RX0, TX0, 1), (RX1, TX1, 3), (RX3, TX3, 10), (RX4, TX4, 1), (RX5, TX5, 2), (RX7, TX7, 1), (RX9, TX9, 4), (RX11, TX11, 12), (RX12, TX12, 50)]

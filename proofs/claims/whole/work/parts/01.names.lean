-- ===== PART A: goes FIRST, ahead of the names: the tables' words, and 'selects' of the private methods out of them =====
/-- a private method of a class that the tables say can be made, by its rows of tables_1 -/
def lw_okq (q : MethodName × Nat) : Prop := (q.1.cls ≠ "java/lang/invoke/MethodHandle" ∧ q.1.cls ≠ "java/lang/invoke/VarHandle") ∧ Cond.instantiable q.1.cls q.2 ∈ tables_1 ∧ Cond.privateMethod q.1 ∈ tables_1 ∧ Cond.instanceMethod q.1 ∈ tables_1
theorem lw_p0 : lw_okq (⟨"SoldWithIt", "retell", "()V"⟩, 11) := ⟨⟨by decide +kernel, by decide +kernel⟩, List.mem_of_getElem? (i := 22) (by decide +kernel), List.mem_of_getElem? (i := 347) (by decide +kernel), List.mem_of_getElem? (i := 348) (by decide +kernel)⟩
theorem lw_p1 : lw_okq (⟨"SoldWithIt$Street", "spotOf", "(I)I"⟩, 8) := ⟨⟨by decide +kernel, by decide +kernel⟩, List.mem_of_getElem? (i := 48) (by decide +kernel), List.mem_of_getElem? (i := 457) (by decide +kernel), List.mem_of_getElem? (i := 458) (by decide +kernel)⟩
theorem lw_p2 : lw_okq (⟨"SoldWithIt", "recount", "()V"⟩, 11) := ⟨⟨by decide +kernel, by decide +kernel⟩, List.mem_of_getElem? (i := 22) (by decide +kernel), List.mem_of_getElem? (i := 461) (by decide +kernel), List.mem_of_getElem? (i := 462) (by decide +kernel)⟩
theorem lw_p3 : lw_okq (⟨"SoldWithIt", "noHouse", "(I)Z"⟩, 11) := ⟨⟨by decide +kernel, by decide +kernel⟩, List.mem_of_getElem? (i := 22) (by decide +kernel), List.mem_of_getElem? (i := 501) (by decide +kernel), List.mem_of_getElem? (i := 502) (by decide +kernel)⟩
theorem lw_p4 : lw_okq (⟨"SoldWithIt", "nobody", "(I)Z"⟩, 11) := ⟨⟨by decide +kernel, by decide +kernel⟩, List.mem_of_getElem? (i := 22) (by decide +kernel), List.mem_of_getElem? (i := 509) (by decide +kernel), List.mem_of_getElem? (i := 510) (by decide +kernel)⟩
theorem lw_p5 : lw_okq (⟨"SoldWithIt", "found", "(I)I"⟩, 11) := ⟨⟨by decide +kernel, by decide +kernel⟩, List.mem_of_getElem? (i := 22) (by decide +kernel), List.mem_of_getElem? (i := 542) (by decide +kernel), List.mem_of_getElem? (i := 543) (by decide +kernel)⟩
theorem lw_p6 : lw_okq (⟨"SoldWithIt", "behind", "(I)LSoldWithIt$Stroke;"⟩, 11) := ⟨⟨by decide +kernel, by decide +kernel⟩, List.mem_of_getElem? (i := 22) (by decide +kernel), List.mem_of_getElem? (i := 555) (by decide +kernel), List.mem_of_getElem? (i := 556) (by decide +kernel)⟩
theorem lw_p7 : lw_okq (⟨"SoldWithIt$Stroke", "ownedBy", "(I)I"⟩, 7) := ⟨⟨by decide +kernel, by decide +kernel⟩, List.mem_of_getElem? (i := 126) (by decide +kernel), List.mem_of_getElem? (i := 583) (by decide +kernel), List.mem_of_getElem? (i := 584) (by decide +kernel)⟩
theorem lw_p8 : lw_okq (⟨"SoldWithIt$Stroke", "handOver", "(II)V"⟩, 7) := ⟨⟨by decide +kernel, by decide +kernel⟩, List.mem_of_getElem? (i := 126) (by decide +kernel), List.mem_of_getElem? (i := 587) (by decide +kernel), List.mem_of_getElem? (i := 588) (by decide +kernel)⟩
theorem lw_p9 : lw_okq (⟨"SoldWithIt$Stroke", "keep", "(II)V"⟩, 7) := ⟨⟨by decide +kernel, by decide +kernel⟩, List.mem_of_getElem? (i := 126) (by decide +kernel), List.mem_of_getElem? (i := 591) (by decide +kernel), List.mem_of_getElem? (i := 592) (by decide +kernel)⟩
theorem lw_p10 : lw_okq (⟨"SoldWithIt$Rows", "toFirst", "(LSoldWithIt$Street;)V"⟩, 16) := ⟨⟨by decide +kernel, by decide +kernel⟩, List.mem_of_getElem? (i := 177) (by decide +kernel), List.mem_of_getElem? (i := 641) (by decide +kernel), List.mem_of_getElem? (i := 642) (by decide +kernel)⟩
theorem lw_p11 : lw_okq (⟨"SoldWithIt$Rows", "endOf", "(LSoldWithIt$Street;)J"⟩, 16) := ⟨⟨by decide +kernel, by decide +kernel⟩, List.mem_of_getElem? (i := 177) (by decide +kernel), List.mem_of_getElem? (i := 647) (by decide +kernel), List.mem_of_getElem? (i := 648) (by decide +kernel)⟩
theorem lw_p12 : lw_okq (⟨"SoldWithIt$Rows", "toNext", "()V"⟩, 16) := ⟨⟨by decide +kernel, by decide +kernel⟩, List.mem_of_getElem? (i := 177) (by decide +kernel), List.mem_of_getElem? (i := 651) (by decide +kernel), List.mem_of_getElem? (i := 652) (by decide +kernel)⟩
theorem lw_p13 : lw_okq (⟨"SoldWithIt$Rows", "endAt", "(I)J"⟩, 16) := ⟨⟨by decide +kernel, by decide +kernel⟩, List.mem_of_getElem? (i := 177) (by decide +kernel), List.mem_of_getElem? (i := 663) (by decide +kernel), List.mem_of_getElem? (i := 664) (by decide +kernel)⟩
theorem lw_p14 : lw_okq (⟨"SoldWithIt$Rows", "allRest", "(ILSoldWithIt$Street;LSoldWithIt$Tastes;)Z"⟩, 16) := ⟨⟨by decide +kernel, by decide +kernel⟩, List.mem_of_getElem? (i := 177) (by decide +kernel), List.mem_of_getElem? (i := 685) (by decide +kernel), List.mem_of_getElem? (i := 686) (by decide +kernel)⟩
theorem lw_p15 : lw_okq (⟨"SoldWithIt$Rows", "wouldWalk", "(IILSoldWithIt$Tastes;)Z"⟩, 16) := ⟨⟨by decide +kernel, by decide +kernel⟩, List.mem_of_getElem? (i := 177) (by decide +kernel), List.mem_of_getElem? (i := 690) (by decide +kernel), List.mem_of_getElem? (i := 691) (by decide +kernel)⟩
def lw_privs_1 : List (MethodName × Nat) := [(⟨"SoldWithIt", "retell", "()V"⟩, 11), (⟨"SoldWithIt$Street", "spotOf", "(I)I"⟩, 8), (⟨"SoldWithIt", "recount", "()V"⟩, 11), (⟨"SoldWithIt", "noHouse", "(I)Z"⟩, 11), (⟨"SoldWithIt", "nobody", "(I)Z"⟩, 11), (⟨"SoldWithIt", "found", "(I)I"⟩, 11), (⟨"SoldWithIt", "behind", "(I)LSoldWithIt$Stroke;"⟩, 11), (⟨"SoldWithIt$Stroke", "ownedBy", "(I)I"⟩, 7), (⟨"SoldWithIt$Stroke", "handOver", "(II)V"⟩, 7), (⟨"SoldWithIt$Stroke", "keep", "(II)V"⟩, 7), (⟨"SoldWithIt$Rows", "toFirst", "(LSoldWithIt$Street;)V"⟩, 16), (⟨"SoldWithIt$Rows", "endOf", "(LSoldWithIt$Street;)J"⟩, 16), (⟨"SoldWithIt$Rows", "toNext", "()V"⟩, 16), (⟨"SoldWithIt$Rows", "endAt", "(I)J"⟩, 16), (⟨"SoldWithIt$Rows", "allRest", "(ILSoldWithIt$Street;LSoldWithIt$Tastes;)Z"⟩, 16), (⟨"SoldWithIt$Rows", "wouldWalk", "(IILSoldWithIt$Tastes;)Z"⟩, 16)]
theorem lw_r1 : ∀ q ∈ lw_privs_1, lw_okq q := List.forall_mem_cons.mpr ⟨lw_p0, List.forall_mem_cons.mpr ⟨lw_p1, List.forall_mem_cons.mpr ⟨lw_p2, List.forall_mem_cons.mpr ⟨lw_p3, List.forall_mem_cons.mpr ⟨lw_p4, List.forall_mem_cons.mpr ⟨lw_p5, List.forall_mem_cons.mpr ⟨lw_p6, List.forall_mem_cons.mpr ⟨lw_p7, List.forall_mem_cons.mpr ⟨lw_p8, List.forall_mem_cons.mpr ⟨lw_p9, List.forall_mem_cons.mpr ⟨lw_p10, List.forall_mem_cons.mpr ⟨lw_p11, List.forall_mem_cons.mpr ⟨lw_p12, List.forall_mem_cons.mpr ⟨lw_p13, List.forall_mem_cons.mpr ⟨lw_p14, List.forall_mem_cons.mpr ⟨lw_p15, fun _ h => absurd h List.not_mem_nil⟩⟩⟩⟩⟩⟩⟩⟩⟩⟩⟩⟩⟩⟩⟩⟩
theorem lw_p16 : lw_okq (⟨"SoldWithIt", "valueTo", "(II)I"⟩, 11) := ⟨⟨by decide +kernel, by decide +kernel⟩, List.mem_of_getElem? (i := 22) (by decide +kernel), List.mem_of_getElem? (i := 715) (by decide +kernel), List.mem_of_getElem? (i := 716) (by decide +kernel)⟩
theorem lw_p17 : lw_okq (⟨"SoldWithIt$Deeds", "reach", "(II)V"⟩, 5) := ⟨⟨by decide +kernel, by decide +kernel⟩, List.mem_of_getElem? (i := 238) (by decide +kernel), List.mem_of_getElem? (i := 743) (by decide +kernel), List.mem_of_getElem? (i := 744) (by decide +kernel)⟩
theorem lw_p18 : lw_okq (⟨"SoldWithIt$Deeds", "sellFrom", "(ILSoldWithIt$Street;I)V"⟩, 5) := ⟨⟨by decide +kernel, by decide +kernel⟩, List.mem_of_getElem? (i := 238) (by decide +kernel), List.mem_of_getElem? (i := 748) (by decide +kernel), List.mem_of_getElem? (i := 749) (by decide +kernel)⟩
theorem lw_p19 : lw_okq (⟨"SoldWithIt", "everybody", "()I"⟩, 11) := ⟨⟨by decide +kernel, by decide +kernel⟩, List.mem_of_getElem? (i := 22) (by decide +kernel), List.mem_of_getElem? (i := 766) (by decide +kernel), List.mem_of_getElem? (i := 767) (by decide +kernel)⟩
theorem lw_p20 : lw_okq (⟨"SoldWithIt", "comers", "(II)I"⟩, 11) := ⟨⟨by decide +kernel, by decide +kernel⟩, List.mem_of_getElem? (i := 22) (by decide +kernel), List.mem_of_getElem? (i := 770) (by decide +kernel), List.mem_of_getElem? (i := 771) (by decide +kernel)⟩
theorem lw_p21 : lw_okq (⟨"SoldWithIt", "likingAt", "(III)I"⟩, 11) := ⟨⟨by decide +kernel, by decide +kernel⟩, List.mem_of_getElem? (i := 22) (by decide +kernel), List.mem_of_getElem? (i := 774) (by decide +kernel), List.mem_of_getElem? (i := 775) (by decide +kernel)⟩
theorem lw_p22 : lw_okq (⟨"SoldWithIt$Rows", "allSo", "(JLSoldWithIt$Facts;)Z"⟩, 16) := ⟨⟨by decide +kernel, by decide +kernel⟩, List.mem_of_getElem? (i := 177) (by decide +kernel), List.mem_of_getElem? (i := 805) (by decide +kernel), List.mem_of_getElem? (i := 806) (by decide +kernel)⟩
theorem lw_p23 : lw_okq (⟨"SoldWithIt", "allSold", "()I"⟩, 11) := ⟨⟨by decide +kernel, by decide +kernel⟩, List.mem_of_getElem? (i := 22) (by decide +kernel), List.mem_of_getElem? (i := 868) (by decide +kernel), List.mem_of_getElem? (i := 869) (by decide +kernel)⟩
theorem lw_p24 : lw_okq (⟨"SoldWithIt", "lockedIn", "()I"⟩, 11) := ⟨⟨by decide +kernel, by decide +kernel⟩, List.mem_of_getElem? (i := 22) (by decide +kernel), List.mem_of_getElem? (i := 872) (by decide +kernel), List.mem_of_getElem? (i := 873) (by decide +kernel)⟩
theorem lw_p25 : lw_okq (⟨"SoldWithIt", "withHouse", "(JI)J"⟩, 11) := ⟨⟨by decide +kernel, by decide +kernel⟩, List.mem_of_getElem? (i := 22) (by decide +kernel), List.mem_of_getElem? (i := 884) (by decide +kernel), List.mem_of_getElem? (i := 885) (by decide +kernel)⟩
theorem lw_p26 : lw_okq (⟨"SoldWithIt", "withPerson", "(JI)J"⟩, 11) := ⟨⟨by decide +kernel, by decide +kernel⟩, List.mem_of_getElem? (i := 22) (by decide +kernel), List.mem_of_getElem? (i := 891) (by decide +kernel), List.mem_of_getElem? (i := 892) (by decide +kernel)⟩
theorem lw_p27 : lw_okq (⟨"SoldWithItModel", "faultOf", "(I)I"⟩, 33) := ⟨⟨by decide +kernel, by decide +kernel⟩, List.mem_of_getElem? (i := 903) (by decide +kernel), List.mem_of_getElem? (i := 1025) (by decide +kernel), List.mem_of_getElem? (i := 1026) (by decide +kernel)⟩
theorem lw_p28 : lw_okq (⟨"SoldWithItModel", "readsHouses", "()I"⟩, 33) := ⟨⟨by decide +kernel, by decide +kernel⟩, List.mem_of_getElem? (i := 903) (by decide +kernel), List.mem_of_getElem? (i := 1029) (by decide +kernel), List.mem_of_getElem? (i := 1030) (by decide +kernel)⟩
theorem lw_p29 : lw_okq (⟨"SoldWithItModel", "byteAt", "(II)I"⟩, 33) := ⟨⟨by decide +kernel, by decide +kernel⟩, List.mem_of_getElem? (i := 903) (by decide +kernel), List.mem_of_getElem? (i := 1033) (by decide +kernel), List.mem_of_getElem? (i := 1034) (by decide +kernel)⟩
theorem lw_p30 : lw_okq (⟨"SoldWithItModel", "readsPeople", "()I"⟩, 33) := ⟨⟨by decide +kernel, by decide +kernel⟩, List.mem_of_getElem? (i := 903) (by decide +kernel), List.mem_of_getElem? (i := 1037) (by decide +kernel), List.mem_of_getElem? (i := 1038) (by decide +kernel)⟩
theorem lw_p31 : lw_okq (⟨"SoldWithItModel", "isHouse", "(I)Z"⟩, 33) := ⟨⟨by decide +kernel, by decide +kernel⟩, List.mem_of_getElem? (i := 903) (by decide +kernel), List.mem_of_getElem? (i := 1045) (by decide +kernel), List.mem_of_getElem? (i := 1046) (by decide +kernel)⟩
def lw_privs_2 : List (MethodName × Nat) := [(⟨"SoldWithIt", "valueTo", "(II)I"⟩, 11), (⟨"SoldWithIt$Deeds", "reach", "(II)V"⟩, 5), (⟨"SoldWithIt$Deeds", "sellFrom", "(ILSoldWithIt$Street;I)V"⟩, 5), (⟨"SoldWithIt", "everybody", "()I"⟩, 11), (⟨"SoldWithIt", "comers", "(II)I"⟩, 11), (⟨"SoldWithIt", "likingAt", "(III)I"⟩, 11), (⟨"SoldWithIt$Rows", "allSo", "(JLSoldWithIt$Facts;)Z"⟩, 16), (⟨"SoldWithIt", "allSold", "()I"⟩, 11), (⟨"SoldWithIt", "lockedIn", "()I"⟩, 11), (⟨"SoldWithIt", "withHouse", "(JI)J"⟩, 11), (⟨"SoldWithIt", "withPerson", "(JI)J"⟩, 11), (⟨"SoldWithItModel", "faultOf", "(I)I"⟩, 33), (⟨"SoldWithItModel", "readsHouses", "()I"⟩, 33), (⟨"SoldWithItModel", "byteAt", "(II)I"⟩, 33), (⟨"SoldWithItModel", "readsPeople", "()I"⟩, 33), (⟨"SoldWithItModel", "isHouse", "(I)Z"⟩, 33)]
theorem lw_r2 : ∀ q ∈ lw_privs_2, lw_okq q := List.forall_mem_cons.mpr ⟨lw_p16, List.forall_mem_cons.mpr ⟨lw_p17, List.forall_mem_cons.mpr ⟨lw_p18, List.forall_mem_cons.mpr ⟨lw_p19, List.forall_mem_cons.mpr ⟨lw_p20, List.forall_mem_cons.mpr ⟨lw_p21, List.forall_mem_cons.mpr ⟨lw_p22, List.forall_mem_cons.mpr ⟨lw_p23, List.forall_mem_cons.mpr ⟨lw_p24, List.forall_mem_cons.mpr ⟨lw_p25, List.forall_mem_cons.mpr ⟨lw_p26, List.forall_mem_cons.mpr ⟨lw_p27, List.forall_mem_cons.mpr ⟨lw_p28, List.forall_mem_cons.mpr ⟨lw_p29, List.forall_mem_cons.mpr ⟨lw_p30, List.forall_mem_cons.mpr ⟨lw_p31, fun _ h => absurd h List.not_mem_nil⟩⟩⟩⟩⟩⟩⟩⟩⟩⟩⟩⟩⟩⟩⟩⟩
theorem lw_p32 : lw_okq (⟨"SoldWithItModel", "reads", "()V"⟩, 33) := ⟨⟨by decide +kernel, by decide +kernel⟩, List.mem_of_getElem? (i := 903) (by decide +kernel), List.mem_of_getElem? (i := 1049) (by decide +kernel), List.mem_of_getElem? (i := 1050) (by decide +kernel)⟩
theorem lw_p33 : lw_okq (⟨"SoldWithItModel", "houseOf", "(II)I"⟩, 33) := ⟨⟨by decide +kernel, by decide +kernel⟩, List.mem_of_getElem? (i := 903) (by decide +kernel), List.mem_of_getElem? (i := 1053) (by decide +kernel), List.mem_of_getElem? (i := 1054) (by decide +kernel)⟩
theorem lw_p34 : lw_okq (⟨"SoldWithItModel", "isPerson", "(I)Z"⟩, 33) := ⟨⟨by decide +kernel, by decide +kernel⟩, List.mem_of_getElem? (i := 903) (by decide +kernel), List.mem_of_getElem? (i := 1061) (by decide +kernel), List.mem_of_getElem? (i := 1062) (by decide +kernel)⟩
theorem lw_p35 : lw_okq (⟨"SoldWithItModel", "personOf", "(II)I"⟩, 33) := ⟨⟨by decide +kernel, by decide +kernel⟩, List.mem_of_getElem? (i := 903) (by decide +kernel), List.mem_of_getElem? (i := 1065) (by decide +kernel), List.mem_of_getElem? (i := 1066) (by decide +kernel)⟩
theorem lw_p36 : lw_okq (⟨"SoldWithItModel", "saleMore", "(II)I"⟩, 33) := ⟨⟨by decide +kernel, by decide +kernel⟩, List.mem_of_getElem? (i := 903) (by decide +kernel), List.mem_of_getElem? (i := 1077) (by decide +kernel), List.mem_of_getElem? (i := 1078) (by decide +kernel)⟩
theorem lw_p37 : lw_okq (⟨"SoldWithItModel", "meets", "(I)I"⟩, 33) := ⟨⟨by decide +kernel, by decide +kernel⟩, List.mem_of_getElem? (i := 903) (by decide +kernel), List.mem_of_getElem? (i := 1091) (by decide +kernel), List.mem_of_getElem? (i := 1092) (by decide +kernel)⟩
theorem lw_p38 : lw_okq (⟨"SoldWithItModel", "lays", "(I)V"⟩, 33) := ⟨⟨by decide +kernel, by decide +kernel⟩, List.mem_of_getElem? (i := 903) (by decide +kernel), List.mem_of_getElem? (i := 1103) (by decide +kernel), List.mem_of_getElem? (i := 1104) (by decide +kernel)⟩
theorem lw_p39 : lw_okq (⟨"SoldWithItModel", "runs", "(I)V"⟩, 33) := ⟨⟨by decide +kernel, by decide +kernel⟩, List.mem_of_getElem? (i := 903) (by decide +kernel), List.mem_of_getElem? (i := 1107) (by decide +kernel), List.mem_of_getElem? (i := 1108) (by decide +kernel)⟩
theorem lw_p40 : lw_okq (⟨"SoldWithItModel", "begins", "()V"⟩, 33) := ⟨⟨by decide +kernel, by decide +kernel⟩, List.mem_of_getElem? (i := 903) (by decide +kernel), List.mem_of_getElem? (i := 1111) (by decide +kernel), List.mem_of_getElem? (i := 1112) (by decide +kernel)⟩
theorem lw_p41 : lw_okq (⟨"SoldWithItModel", "sells", "(II)I"⟩, 33) := ⟨⟨by decide +kernel, by decide +kernel⟩, List.mem_of_getElem? (i := 903) (by decide +kernel), List.mem_of_getElem? (i := 1115) (by decide +kernel), List.mem_of_getElem? (i := 1116) (by decide +kernel)⟩
theorem lw_p42 : lw_okq (⟨"SoldWithItModel", "keeperOf", "(II)I"⟩, 33) := ⟨⟨by decide +kernel, by decide +kernel⟩, List.mem_of_getElem? (i := 903) (by decide +kernel), List.mem_of_getElem? (i := 1126) (by decide +kernel), List.mem_of_getElem? (i := 1127) (by decide +kernel)⟩
theorem lw_p43 : lw_okq (⟨"SoldWithItModel", "soldOf", "(II)I"⟩, 33) := ⟨⟨by decide +kernel, by decide +kernel⟩, List.mem_of_getElem? (i := 903) (by decide +kernel), List.mem_of_getElem? (i := 1134) (by decide +kernel), List.mem_of_getElem? (i := 1135) (by decide +kernel)⟩
theorem lw_p44 : lw_okq (⟨"SoldWithItModel", "lengthOf", "(I)I"⟩, 33) := ⟨⟨by decide +kernel, by decide +kernel⟩, List.mem_of_getElem? (i := 903) (by decide +kernel), List.mem_of_getElem? (i := 1142) (by decide +kernel), List.mem_of_getElem? (i := 1143) (by decide +kernel)⟩
theorem lw_p45 : lw_okq (⟨"SoldWithItModel", "gainOf", "(I)I"⟩, 33) := ⟨⟨by decide +kernel, by decide +kernel⟩, List.mem_of_getElem? (i := 903) (by decide +kernel), List.mem_of_getElem? (i := 1159) (by decide +kernel), List.mem_of_getElem? (i := 1160) (by decide +kernel)⟩
theorem lw_p46 : lw_okq (⟨"SoldWithItModel", "gainBy", "(I)I"⟩, 33) := ⟨⟨by decide +kernel, by decide +kernel⟩, List.mem_of_getElem? (i := 903) (by decide +kernel), List.mem_of_getElem? (i := 1163) (by decide +kernel), List.mem_of_getElem? (i := 1164) (by decide +kernel)⟩
theorem lw_p47 : lw_okq (⟨"SoldWithItModel", "bestOf", "(II)I"⟩, 33) := ⟨⟨by decide +kernel, by decide +kernel⟩, List.mem_of_getElem? (i := 903) (by decide +kernel), List.mem_of_getElem? (i := 1171) (by decide +kernel), List.mem_of_getElem? (i := 1172) (by decide +kernel)⟩
def lw_privs_3 : List (MethodName × Nat) := [(⟨"SoldWithItModel", "reads", "()V"⟩, 33), (⟨"SoldWithItModel", "houseOf", "(II)I"⟩, 33), (⟨"SoldWithItModel", "isPerson", "(I)Z"⟩, 33), (⟨"SoldWithItModel", "personOf", "(II)I"⟩, 33), (⟨"SoldWithItModel", "saleMore", "(II)I"⟩, 33), (⟨"SoldWithItModel", "meets", "(I)I"⟩, 33), (⟨"SoldWithItModel", "lays", "(I)V"⟩, 33), (⟨"SoldWithItModel", "runs", "(I)V"⟩, 33), (⟨"SoldWithItModel", "begins", "()V"⟩, 33), (⟨"SoldWithItModel", "sells", "(II)I"⟩, 33), (⟨"SoldWithItModel", "keeperOf", "(II)I"⟩, 33), (⟨"SoldWithItModel", "soldOf", "(II)I"⟩, 33), (⟨"SoldWithItModel", "lengthOf", "(I)I"⟩, 33), (⟨"SoldWithItModel", "gainOf", "(I)I"⟩, 33), (⟨"SoldWithItModel", "gainBy", "(I)I"⟩, 33), (⟨"SoldWithItModel", "bestOf", "(II)I"⟩, 33)]
theorem lw_r3 : ∀ q ∈ lw_privs_3, lw_okq q := List.forall_mem_cons.mpr ⟨lw_p32, List.forall_mem_cons.mpr ⟨lw_p33, List.forall_mem_cons.mpr ⟨lw_p34, List.forall_mem_cons.mpr ⟨lw_p35, List.forall_mem_cons.mpr ⟨lw_p36, List.forall_mem_cons.mpr ⟨lw_p37, List.forall_mem_cons.mpr ⟨lw_p38, List.forall_mem_cons.mpr ⟨lw_p39, List.forall_mem_cons.mpr ⟨lw_p40, List.forall_mem_cons.mpr ⟨lw_p41, List.forall_mem_cons.mpr ⟨lw_p42, List.forall_mem_cons.mpr ⟨lw_p43, List.forall_mem_cons.mpr ⟨lw_p44, List.forall_mem_cons.mpr ⟨lw_p45, List.forall_mem_cons.mpr ⟨lw_p46, List.forall_mem_cons.mpr ⟨lw_p47, fun _ h => absurd h List.not_mem_nil⟩⟩⟩⟩⟩⟩⟩⟩⟩⟩⟩⟩⟩⟩⟩⟩
theorem lw_p48 : lw_okq (⟨"SoldWithItModel", "rows", "()I"⟩, 33) := ⟨⟨by decide +kernel, by decide +kernel⟩, List.mem_of_getElem? (i := 903) (by decide +kernel), List.mem_of_getElem? (i := 1176) (by decide +kernel), List.mem_of_getElem? (i := 1177) (by decide +kernel)⟩
theorem lw_p49 : lw_okq (⟨"SoldWithItModel", "places", "(I)V"⟩, 33) := ⟨⟨by decide +kernel, by decide +kernel⟩, List.mem_of_getElem? (i := 903) (by decide +kernel), List.mem_of_getElem? (i := 1180) (by decide +kernel), List.mem_of_getElem? (i := 1181) (by decide +kernel)⟩
theorem lw_p50 : lw_okq (⟨"SoldWithItModel", "restNow", "(I)I"⟩, 33) := ⟨⟨by decide +kernel, by decide +kernel⟩, List.mem_of_getElem? (i := 903) (by decide +kernel), List.mem_of_getElem? (i := 1188) (by decide +kernel), List.mem_of_getElem? (i := 1189) (by decide +kernel)⟩
theorem lw_p51 : lw_okq (⟨"SoldWithItModel", "restOf", "(I)I"⟩, 33) := ⟨⟨by decide +kernel, by decide +kernel⟩, List.mem_of_getElem? (i := 903) (by decide +kernel), List.mem_of_getElem? (i := 1192) (by decide +kernel), List.mem_of_getElem? (i := 1193) (by decide +kernel)⟩
theorem lw_p52 : lw_okq (⟨"SoldWithItModel", "outOf", "(I)I"⟩, 33) := ⟨⟨by decide +kernel, by decide +kernel⟩, List.mem_of_getElem? (i := 903) (by decide +kernel), List.mem_of_getElem? (i := 1201) (by decide +kernel), List.mem_of_getElem? (i := 1202) (by decide +kernel)⟩
theorem lw_p53 : lw_okq (⟨"SoldWithItModel", "isTold", "(I)Z"⟩, 33) := ⟨⟨by decide +kernel, by decide +kernel⟩, List.mem_of_getElem? (i := 903) (by decide +kernel), List.mem_of_getElem? (i := 1205) (by decide +kernel), List.mem_of_getElem? (i := 1206) (by decide +kernel)⟩
theorem lw_p54 : lw_okq (⟨"SoldWithItModel", "valueOf", "(II)I"⟩, 33) := ⟨⟨by decide +kernel, by decide +kernel⟩, List.mem_of_getElem? (i := 903) (by decide +kernel), List.mem_of_getElem? (i := 1213) (by decide +kernel), List.mem_of_getElem? (i := 1214) (by decide +kernel)⟩
theorem lw_p55 : lw_okq (⟨"SoldWithItModel", "isChange", "(II)Z"⟩, 33) := ⟨⟨by decide +kernel, by decide +kernel⟩, List.mem_of_getElem? (i := 903) (by decide +kernel), List.mem_of_getElem? (i := 1221) (by decide +kernel), List.mem_of_getElem? (i := 1222) (by decide +kernel)⟩
theorem lw_p56 : lw_okq (⟨"SoldWithItModel", "changesNow", "()I"⟩, 33) := ⟨⟨by decide +kernel, by decide +kernel⟩, List.mem_of_getElem? (i := 903) (by decide +kernel), List.mem_of_getElem? (i := 1229) (by decide +kernel), List.mem_of_getElem? (i := 1230) (by decide +kernel)⟩
theorem lw_p57 : lw_okq (⟨"SoldWithItModel", "shouldOf", "(I)I"⟩, 33) := ⟨⟨by decide +kernel, by decide +kernel⟩, List.mem_of_getElem? (i := 903) (by decide +kernel), List.mem_of_getElem? (i := 1237) (by decide +kernel), List.mem_of_getElem? (i := 1238) (by decide +kernel)⟩
theorem lw_p58 : lw_okq (⟨"SoldWithItModel", "stateNow", "()I"⟩, 33) := ⟨⟨by decide +kernel, by decide +kernel⟩, List.mem_of_getElem? (i := 903) (by decide +kernel), List.mem_of_getElem? (i := 1241) (by decide +kernel), List.mem_of_getElem? (i := 1242) (by decide +kernel)⟩
theorem lw_p59 : lw_okq (⟨"SoldWithItModel", "ownsBy", "(I)V"⟩, 33) := ⟨⟨by decide +kernel, by decide +kernel⟩, List.mem_of_getElem? (i := 903) (by decide +kernel), List.mem_of_getElem? (i := 1245) (by decide +kernel), List.mem_of_getElem? (i := 1246) (by decide +kernel)⟩
theorem lw_p60 : lw_okq (⟨"SoldWithItModel", "comeOf", "(II)I"⟩, 33) := ⟨⟨by decide +kernel, by decide +kernel⟩, List.mem_of_getElem? (i := 903) (by decide +kernel), List.mem_of_getElem? (i := 1253) (by decide +kernel), List.mem_of_getElem? (i := 1254) (by decide +kernel)⟩
theorem lw_p61 : lw_okq (⟨"SoldWithItModel", "inviteOf", "(II)I"⟩, 33) := ⟨⟨by decide +kernel, by decide +kernel⟩, List.mem_of_getElem? (i := 903) (by decide +kernel), List.mem_of_getElem? (i := 1261) (by decide +kernel), List.mem_of_getElem? (i := 1262) (by decide +kernel)⟩
theorem lw_p62 : lw_okq (⟨"SoldWithItModel", "waysNow", "()I"⟩, 33) := ⟨⟨by decide +kernel, by decide +kernel⟩, List.mem_of_getElem? (i := 903) (by decide +kernel), List.mem_of_getElem? (i := 1280) (by decide +kernel), List.mem_of_getElem? (i := 1281) (by decide +kernel)⟩
theorem lw_p63 : lw_okq (⟨"SoldWithItModel", "lacks", "(III)I"⟩, 33) := ⟨⟨by decide +kernel, by decide +kernel⟩, List.mem_of_getElem? (i := 903) (by decide +kernel), List.mem_of_getElem? (i := 1300) (by decide +kernel), List.mem_of_getElem? (i := 1301) (by decide +kernel)⟩
def lw_privs_4 : List (MethodName × Nat) := [(⟨"SoldWithItModel", "rows", "()I"⟩, 33), (⟨"SoldWithItModel", "places", "(I)V"⟩, 33), (⟨"SoldWithItModel", "restNow", "(I)I"⟩, 33), (⟨"SoldWithItModel", "restOf", "(I)I"⟩, 33), (⟨"SoldWithItModel", "outOf", "(I)I"⟩, 33), (⟨"SoldWithItModel", "isTold", "(I)Z"⟩, 33), (⟨"SoldWithItModel", "valueOf", "(II)I"⟩, 33), (⟨"SoldWithItModel", "isChange", "(II)Z"⟩, 33), (⟨"SoldWithItModel", "changesNow", "()I"⟩, 33), (⟨"SoldWithItModel", "shouldOf", "(I)I"⟩, 33), (⟨"SoldWithItModel", "stateNow", "()I"⟩, 33), (⟨"SoldWithItModel", "ownsBy", "(I)V"⟩, 33), (⟨"SoldWithItModel", "comeOf", "(II)I"⟩, 33), (⟨"SoldWithItModel", "inviteOf", "(II)I"⟩, 33), (⟨"SoldWithItModel", "waysNow", "()I"⟩, 33), (⟨"SoldWithItModel", "lacks", "(III)I"⟩, 33)]
theorem lw_r4 : ∀ q ∈ lw_privs_4, lw_okq q := List.forall_mem_cons.mpr ⟨lw_p48, List.forall_mem_cons.mpr ⟨lw_p49, List.forall_mem_cons.mpr ⟨lw_p50, List.forall_mem_cons.mpr ⟨lw_p51, List.forall_mem_cons.mpr ⟨lw_p52, List.forall_mem_cons.mpr ⟨lw_p53, List.forall_mem_cons.mpr ⟨lw_p54, List.forall_mem_cons.mpr ⟨lw_p55, List.forall_mem_cons.mpr ⟨lw_p56, List.forall_mem_cons.mpr ⟨lw_p57, List.forall_mem_cons.mpr ⟨lw_p58, List.forall_mem_cons.mpr ⟨lw_p59, List.forall_mem_cons.mpr ⟨lw_p60, List.forall_mem_cons.mpr ⟨lw_p61, List.forall_mem_cons.mpr ⟨lw_p62, List.forall_mem_cons.mpr ⟨lw_p63, fun _ h => absurd h List.not_mem_nil⟩⟩⟩⟩⟩⟩⟩⟩⟩⟩⟩⟩⟩⟩⟩⟩
theorem lw_p64 : lw_okq (⟨"SoldWithItModel", "keep", "(III)V"⟩, 33) := ⟨⟨by decide +kernel, by decide +kernel⟩, List.mem_of_getElem? (i := 903) (by decide +kernel), List.mem_of_getElem? (i := 1304) (by decide +kernel), List.mem_of_getElem? (i := 1305) (by decide +kernel)⟩
theorem lw_p65 : lw_okq (⟨"SoldWithItModel", "sumOf", "(I)I"⟩, 33) := ⟨⟨by decide +kernel, by decide +kernel⟩, List.mem_of_getElem? (i := 903) (by decide +kernel), List.mem_of_getElem? (i := 1325) (by decide +kernel), List.mem_of_getElem? (i := 1326) (by decide +kernel)⟩
def lw_privs_5 : List (MethodName × Nat) := [(⟨"SoldWithItModel", "keep", "(III)V"⟩, 33), (⟨"SoldWithItModel", "sumOf", "(I)I"⟩, 33)]
theorem lw_r5 : ∀ q ∈ lw_privs_5, lw_okq q := List.forall_mem_cons.mpr ⟨lw_p64, List.forall_mem_cons.mpr ⟨lw_p65, fun _ h => absurd h List.not_mem_nil⟩⟩
def lw_privs : List (MethodName × Nat) := lw_privs_1 ++ (lw_privs_2 ++ (lw_privs_3 ++ (lw_privs_4 ++ (lw_privs_5))))
def lw_tbl : List Cond := k2_sels lw_privs ++ tables_1
theorem lw_privs_ok : ∀ q ∈ lw_privs, lw_okq q := by
  show ∀ q ∈ lw_privs_1 ++ (lw_privs_2 ++ (lw_privs_3 ++ (lw_privs_4 ++ (lw_privs_5)))), lw_okq q
  exact List.forall_mem_append.mpr ⟨lw_r1, List.forall_mem_append.mpr ⟨lw_r2, List.forall_mem_append.mpr ⟨lw_r3, List.forall_mem_append.mpr ⟨lw_r4, lw_r5⟩⟩⟩⟩

def gtbl : List Cond := lw_tbl.filter goodWord
theorem goodIn_pl {big ws : List Cond} (ps : List Nat) (hp : ws = ps.filterMap (fun i => big[i]?)) : ∀ w ∈ ws, w ∈ big := by
  intro w hw
  rw [hp] at hw
  obtain ⟨i, -, hi⟩ := List.mem_filterMap.mp hw
  exact List.mem_of_getElem? hi
theorem gt_at {w : Cond} (i : Nat) (h : lw_tbl[i]? = some w) (hg : goodWord w = true) : w ∈ gtbl := List.mem_filter.mpr ⟨List.mem_of_getElem? h, hg⟩
theorem gt_pl {ws : List Cond} (ps : List Nat) (hp : ws = ps.filterMap (fun i => lw_tbl[i]?)) (hg : ws.all goodWord = true) : ∀ w ∈ ws, w ∈ gtbl := fun w hw => List.mem_filter.mpr ⟨goodIn_pl ps hp w hw, List.all_eq_true.mp hg w hw⟩
def nlk : List (String × Nat × MethodName × String) := [("SoldWithIt", 20, ⟨"SoldWithIt$Street", "<init>", "()V"⟩, "SoldWithIt"), ("SoldWithIt", 27, ⟨"SoldWithIt$Sales", "<init>", "()V"⟩, "SoldWithIt"), ("SoldWithIt", 34, ⟨"SoldWithIt$Stroke", "<init>", "()V"⟩, "SoldWithIt"), ("SoldWithIt", 41, ⟨"SoldWithIt$Tastes", "<init>", "()V"⟩, "SoldWithIt"), ("SoldWithIt", 48, ⟨"SoldWithIt$Rows", "<init>", "()V"⟩, "SoldWithIt"), ("SoldWithIt$Rows", 11, ⟨"SoldWithIt$Stroke", "<init>", "()V"⟩, "SoldWithIt"), ("SoldWithIt", 55, ⟨"SoldWithIt$Deeds", "<init>", "()V"⟩, "SoldWithIt"), ("SoldWithIt$Deeds", 11, ⟨"SoldWithIt$Stroke", "<init>", "()V"⟩, "SoldWithIt"), ("SoldWithIt", 62, ⟨"SoldWithIt$Facts", "<init>", "()V"⟩, "SoldWithIt"), ("SoldWithIt", 69, ⟨"SoldWithIt$Sheet", "<init>", "()V"⟩, "SoldWithIt")]
theorem nlk_in : ∀ q ∈ nlk, Cond.methodLinkNest q.1 q.2.1 q.2.2.1 q.2.2.2 ∈ lw_tbl := by
  have h : nlk.map (fun q => Cond.methodLinkNest q.1 q.2.1 q.2.2.1 q.2.2.2) = ([115, 167, 193, 229, 244, 249, 305, 310, 329, 350] : List Nat).filterMap (fun i => lw_tbl[i]?) := by decide +kernel
  intro q hq
  exact goodIn_pl _ h _ (List.mem_map.mpr ⟨q, hq, rfl⟩)
abbrev RX0 : String := "SoldWithIt$Deeds"
def TX0 : u_T := fun k => match k with
  | 0 => ("SoldWithIt$Deeds", "stroke", "LSoldWithIt$Stroke;", true)
  | 1 => ("SoldWithIt$Deeds", "fewest", "[S", false)
  | 2 => ("SoldWithIt$Deeds", "queue", "[S", false)
  | 3 => ("SoldWithIt$Deeds", "waiting", "I", false)
  | _ => ("SoldWithIt$Deeds", "filled", "Z", false)
def tyX0 : Nat → FieldType := fun k => match k with
  | 0 => .object "SoldWithIt$Stroke"
  | 1 => .array .short
  | 2 => .array .short
  | 3 => .int
  | _ => .boolean
theorem nmX0 : ∀ a, a < 5 → ∀ b, b < 5 → a ≠ b → (TX0 a).2.1 ≠ (TX0 b).2.1 := by decide +kernel
theorem tyX0_ok : ∀ k, k < 5 → parseFieldDescriptor (TX0 k).2.2.1 = some (tyX0 k) := by decide +kernel
theorem inX0 : ∀ w ∈ u_ws RX0 TX0 5, w ∈ gtbl := gt_pl [316, 318, 320, 322, 324] (by decide +kernel) (by decide +kernel)
abbrev RX1 : String := "SoldWithIt$Facts"
def TX1 : u_T := fun k => match k with
  | 0 => ("SoldWithIt$Facts", "size", "I", false)
  | 1 => ("SoldWithIt$Facts", "person", "[I", true)
  | _ => ("SoldWithIt$Facts", "keeper", "[I", true)
def tyX1 : Nat → FieldType := fun k => match k with
  | 0 => .int
  | 1 => .array .int
  | _ => .array .int
theorem nmX1 : ∀ a, a < 3 → ∀ b, b < 3 → a ≠ b → (TX1 a).2.1 ≠ (TX1 b).2.1 := by decide +kernel
theorem tyX1_ok : ∀ k, k < 3 → parseFieldDescriptor (TX1 k).2.2.1 = some (tyX1 k) := by decide +kernel
theorem inX1 : ∀ w ∈ u_ws RX1 TX1 3, w ∈ gtbl := gt_pl [340, 342, 344] (by decide +kernel) (by decide +kernel)
abbrev RX2 : String := "SoldWithIt$Rows"
def TX2 : u_T := fun k => match k with
  | 0 => ("SoldWithIt$Rows", "stroke", "LSoldWithIt$Stroke;", true)
  | 1 => ("SoldWithIt$Rows", "inside", "[I", true)
  | 2 => ("SoldWithIt$Rows", "at", "[I", true)
  | 3 => ("SoldWithIt$Rows", "stride", "[I", true)
  | 4 => ("SoldWithIt$Rows", "bestKnown", "[I", true)
  | 5 => ("SoldWithIt$Rows", "ends", "[J", false)
  | 6 => ("SoldWithIt$Rows", "people", "I", false)
  | 7 => ("SoldWithIt$Rows", "spots", "I", false)
  | 8 => ("SoldWithIt$Rows", "size", "I", false)
  | 9 => ("SoldWithIt$Rows", "filled", "Z", false)
  | 10 => ("SoldWithIt$Rows", "restKnown", "Z", false)
  | 11 => ("SoldWithIt$Rows", "waysKnown", "Z", false)
  | 12 => ("SoldWithIt$Rows", "rests", "I", false)
  | 13 => ("SoldWithIt$Rows", "firstRest", "I", false)
  | 14 => ("SoldWithIt$Rows", "ways", "I", false)
  | _ => ("SoldWithIt$Rows", "can", "[I", true)
def tyX2 : Nat → FieldType := fun k => match k with
  | 0 => .object "SoldWithIt$Stroke"
  | 1 => .array .int
  | 2 => .array .int
  | 3 => .array .int
  | 4 => .array .int
  | 5 => .array .long
  | 6 => .int
  | 7 => .int
  | 8 => .int
  | 9 => .boolean
  | 10 => .boolean
  | 11 => .boolean
  | 12 => .int
  | 13 => .int
  | 14 => .int
  | _ => .array .int
theorem nmX2 : ∀ a, a < 16 → ∀ b, b < 16 → a ≠ b → (TX2 a).2.1 ≠ (TX2 b).2.1 := by decide +kernel
theorem tyX2_ok : ∀ k, k < 16 → parseFieldDescriptor (TX2 k).2.2.1 = some (tyX2 k) := by decide +kernel
theorem inX2 : ∀ w ∈ u_ws RX2 TX2 16, w ∈ gtbl := gt_pl [270, 272, 274, 276, 278, 280, 282, 284, 286, 288, 290, 292, 294, 296, 298, 300] (by decide +kernel) (by decide +kernel)
abbrev RX3 : String := "SoldWithIt$Sales"
def TX3 : u_T := fun k => match k with
  | 0 => ("SoldWithIt$Sales", "law", "I", false)
  | 1 => ("SoldWithIt$Sales", "size", "I", false)
  | 2 => ("SoldWithIt$Sales", "house", "[I", true)
  | _ => ("SoldWithIt$Sales", "buyer", "[I", true)
def tyX3 : Nat → FieldType := fun k => match k with
  | 0 => .int
  | 1 => .int
  | 2 => .array .int
  | _ => .array .int
theorem nmX3 : ∀ a, a < 4 → ∀ b, b < 4 → a ≠ b → (TX3 a).2.1 ≠ (TX3 b).2.1 := by decide +kernel
theorem tyX3_ok : ∀ k, k < 4 → parseFieldDescriptor (TX3 k).2.2.1 = some (tyX3 k) := by decide +kernel
theorem inX3 : ∀ w ∈ u_ws RX3 TX3 4, w ∈ gtbl := gt_pl [182, 184, 186, 188] (by decide +kernel) (by decide +kernel)
abbrev RX4 : String := "SoldWithIt$Sheet"
def TX4 : u_T := fun k => match k with
  | 0 => ("SoldWithIt$Sheet", "form", "I", false)
  | 1 => ("SoldWithIt$Sheet", "size", "I", false)
  | _ => ("SoldWithIt$Sheet", "items", "[I", true)
def tyX4 : Nat → FieldType := fun k => match k with
  | 0 => .int
  | 1 => .int
  | _ => .array .int
theorem nmX4 : ∀ a, a < 3 → ∀ b, b < 3 → a ≠ b → (TX4 a).2.1 ≠ (TX4 b).2.1 := by decide +kernel
theorem tyX4_ok : ∀ k, k < 3 → parseFieldDescriptor (TX4 k).2.2.1 = some (tyX4 k) := by decide +kernel
theorem inX4 : ∀ w ∈ u_ws RX4 TX4 3, w ∈ gtbl := gt_pl [360, 362, 364] (by decide +kernel) (by decide +kernel)
abbrev RX5 : String := "SoldWithIt$Street"
def TX5 : u_T := fun k => match k with
  | 0 => ("SoldWithIt$Street", "houses", "I", false)
  | 1 => ("SoldWithIt$Street", "people", "I", false)
  | 2 => ("SoldWithIt$Street", "owner", "[I", true)
  | 3 => ("SoldWithIt$Street", "price", "[I", true)
  | 4 => ("SoldWithIt$Street", "owned", "[I", true)
  | 5 => ("SoldWithIt$Street", "kind", "[I", true)
  | 6 => ("SoldWithIt$Street", "spot", "[I", true)
  | _ => ("SoldWithIt$Street", "inside", "[I", true)
def tyX5 : Nat → FieldType := fun k => match k with
  | 0 => .int
  | 1 => .int
  | 2 => .array .int
  | 3 => .array .int
  | 4 => .array .int
  | 5 => .array .int
  | 6 => .array .int
  | _ => .array .int
theorem nmX5 : ∀ a, a < 8 → ∀ b, b < 8 → a ≠ b → (TX5 a).2.1 ≠ (TX5 b).2.1 := by decide +kernel
theorem tyX5_ok : ∀ k, k < 8 → parseFieldDescriptor (TX5 k).2.2.1 = some (tyX5 k) := by decide +kernel
theorem inX5 : ∀ w ∈ u_ws RX5 TX5 8, w ∈ gtbl := gt_pl [148, 150, 152, 154, 156, 158, 160, 162] (by decide +kernel) (by decide +kernel)
abbrev RX6 : String := "SoldWithIt$Stroke"
def TX6 : u_T := fun k => match k with
  | 0 => ("SoldWithIt$Stroke", "owner", "[I", true)
  | 1 => ("SoldWithIt$Stroke", "owns", "[I", true)
  | 2 => ("SoldWithIt$Stroke", "keeper", "[I", true)
  | 3 => ("SoldWithIt$Stroke", "times", "[I", true)
  | 4 => ("SoldWithIt$Stroke", "soldOnce", "I", false)
  | 5 => ("SoldWithIt$Stroke", "done", "I", false)
  | _ => ("SoldWithIt$Stroke", "latestLength", "I", false)
def tyX6 : Nat → FieldType := fun k => match k with
  | 0 => .array .int
  | 1 => .array .int
  | 2 => .array .int
  | 3 => .array .int
  | 4 => .int
  | 5 => .int
  | _ => .int
theorem nmX6 : ∀ a, a < 7 → ∀ b, b < 7 → a ≠ b → (TX6 a).2.1 ≠ (TX6 b).2.1 := by decide +kernel
theorem tyX6_ok : ∀ k, k < 7 → parseFieldDescriptor (TX6 k).2.2.1 = some (tyX6 k) := by decide +kernel
theorem inX6 : ∀ w ∈ u_ws RX6 TX6 7, w ∈ gtbl := gt_pl [212, 214, 216, 218, 220, 222, 224] (by decide +kernel) (by decide +kernel)
abbrev RX7 : String := "SoldWithIt$Tastes"
def TX7 : u_T := fun k => match k with
  | 0 => ("SoldWithIt$Tastes", "worth", "[I", true)
  | _ => ("SoldWithIt$Tastes", "liking", "[I", true)
def tyX7 : Nat → FieldType := fun k => match k with
  | 0 => .array .int
  | _ => .array .int
theorem nmX7 : ∀ a, a < 2 → ∀ b, b < 2 → a ≠ b → (TX7 a).2.1 ≠ (TX7 b).2.1 := by decide +kernel
theorem tyX7_ok : ∀ k, k < 2 → parseFieldDescriptor (TX7 k).2.2.1 = some (tyX7 k) := by decide +kernel
theorem inX7 : ∀ w ∈ u_ws RX7 TX7 2, w ∈ gtbl := gt_pl [237, 239] (by decide +kernel) (by decide +kernel)
abbrev RX8 : String := "SoldWithIt$Text"
def TX8 : u_T := fun k => match k with
  | 0 => ("SoldWithIt$Text", "bytes", "[I", true)
  | _ => ("SoldWithIt$Text", "size", "I", false)
def tyX8 : Nat → FieldType := fun k => match k with
  | 0 => .array .int
  | _ => .int
theorem nmX8 : ∀ a, a < 2 → ∀ b, b < 2 → a ≠ b → (TX8 a).2.1 ≠ (TX8 b).2.1 := by decide +kernel
theorem tyX8_ok : ∀ k, k < 2 → parseFieldDescriptor (TX8 k).2.2.1 = some (tyX8 k) := by decide +kernel
theorem inX8 : ∀ w ∈ u_ws RX8 TX8 2, w ∈ gtbl := gt_pl [107, 109] (by decide +kernel) (by decide +kernel)
abbrev RX9 : String := "SoldWithIt"
def TX9 : u_T := fun k => match k with
  | 0 => ("SoldWithIt", "texts", "[LSoldWithIt$Text;", true)
  | 1 => ("SoldWithIt", "street", "LSoldWithIt$Street;", true)
  | 2 => ("SoldWithIt", "sales", "LSoldWithIt$Sales;", true)
  | 3 => ("SoldWithIt", "stroke", "LSoldWithIt$Stroke;", true)
  | 4 => ("SoldWithIt", "tastes", "LSoldWithIt$Tastes;", true)
  | 5 => ("SoldWithIt", "rows", "LSoldWithIt$Rows;", true)
  | 6 => ("SoldWithIt", "deeds", "LSoldWithIt$Deeds;", true)
  | 7 => ("SoldWithIt", "facts", "LSoldWithIt$Facts;", true)
  | 8 => ("SoldWithIt", "sheets", "[LSoldWithIt$Sheet;", true)
  | 9 => ("SoldWithIt", "strokeStands", "Z", false)
  | _ => ("SoldWithIt", "latestFinding", "I", false)
def tyX9 : Nat → FieldType := fun k => match k with
  | 0 => .array (.object "SoldWithIt$Text")
  | 1 => .object "SoldWithIt$Street"
  | 2 => .object "SoldWithIt$Sales"
  | 3 => .object "SoldWithIt$Stroke"
  | 4 => .object "SoldWithIt$Tastes"
  | 5 => .object "SoldWithIt$Rows"
  | 6 => .object "SoldWithIt$Deeds"
  | 7 => .object "SoldWithIt$Facts"
  | 8 => .array (.object "SoldWithIt$Sheet")
  | 9 => .boolean
  | _ => .int
theorem nmX9 : ∀ a, a < 11 → ∀ b, b < 11 → a ≠ b → (TX9 a).2.1 ≠ (TX9 b).2.1 := by decide +kernel
theorem tyX9_ok : ∀ k, k < 11 → parseFieldDescriptor (TX9 k).2.2.1 = some (tyX9 k) := by decide +kernel
theorem inX9 : ∀ w ∈ u_ws RX9 TX9 11, w ∈ gtbl := gt_pl [378, 380, 382, 384, 386, 388, 390, 392, 394, 396, 398] (by decide +kernel) (by decide +kernel)
abbrev RX10 : String := "SoldWithItModel"
def TX10 : u_T := fun k => match k with
  | 0 => ("SoldWithItModel", "typed", "[I", true)
  | 1 => ("SoldWithItModel", "texts", "[I", true)
  | 2 => ("SoldWithItModel", "houses", "I", false)
  | 3 => ("SoldWithItModel", "ownerOf", "[I", true)
  | 4 => ("SoldWithItModel", "priceOf", "[I", true)
  | 5 => ("SoldWithItModel", "people", "I", false)
  | 6 => ("SoldWithItModel", "kindOf", "[I", true)
  | 7 => ("SoldWithItModel", "placeOf", "[I", true)
  | 8 => ("SoldWithItModel", "laws", "[I", true)
  | 9 => ("SoldWithItModel", "sales", "I", false)
  | 10 => ("SoldWithItModel", "saleHouse", "[I", true)
  | 11 => ("SoldWithItModel", "saleBuyer", "[I", true)
  | 12 => ("SoldWithItModel", "where", "[I", true)
  | 13 => ("SoldWithItModel", "owns", "[I", true)
  | 14 => ("SoldWithItModel", "keeps", "[I", true)
  | 15 => ("SoldWithItModel", "soldTimes", "[I", true)
  | 16 => ("SoldWithItModel", "list", "[I", true)
  | 17 => ("SoldWithItModel", "lastLength", "I", false)
  | 18 => ("SoldWithItModel", "worths", "[I", true)
  | 19 => ("SoldWithItModel", "likings", "[I", true)
  | 20 => ("SoldWithItModel", "likes", "[I", true)
  | 21 => ("SoldWithItModel", "afar", "[I", true)
  | 22 => ("SoldWithItModel", "waiting", "[I", true)
  | 23 => ("SoldWithItModel", "facts", "I", false)
  | 24 => ("SoldWithItModel", "factWho", "[I", true)
  | 25 => ("SoldWithItModel", "factKeeper", "[I", true)
  | 26 => ("SoldWithItModel", "been", "[I", true)
  | 27 => ("SoldWithItModel", "isThere", "[Z", true)
  | 28 => ("SoldWithItModel", "forms", "[I", true)
  | 29 => ("SoldWithItModel", "sizes", "[I", true)
  | 30 => ("SoldWithItModel", "items", "[I", true)
  | 31 => ("SoldWithItModel", "moved", "[I", true)
  | _ => ("SoldWithItModel", "finding", "I", false)
def tyX10 : Nat → FieldType := fun k => match k with
  | 0 => .array .int
  | 1 => .array .int
  | 2 => .int
  | 3 => .array .int
  | 4 => .array .int
  | 5 => .int
  | 6 => .array .int
  | 7 => .array .int
  | 8 => .array .int
  | 9 => .int
  | 10 => .array .int
  | 11 => .array .int
  | 12 => .array .int
  | 13 => .array .int
  | 14 => .array .int
  | 15 => .array .int
  | 16 => .array .int
  | 17 => .int
  | 18 => .array .int
  | 19 => .array .int
  | 20 => .array .int
  | 21 => .array .int
  | 22 => .array .int
  | 23 => .int
  | 24 => .array .int
  | 25 => .array .int
  | 26 => .array .int
  | 27 => .array .boolean
  | 28 => .array .int
  | 29 => .array .int
  | 30 => .array .int
  | 31 => .array .int
  | _ => .int
theorem nmX10 : ∀ a, a < 33 → ∀ b, b < 33 → a ≠ b → (TX10 a).2.1 ≠ (TX10 b).2.1 := by decide +kernel
theorem tyX10_ok : ∀ k, k < 33 → parseFieldDescriptor (TX10 k).2.2.1 = some (tyX10 k) := by decide +kernel
theorem inX10 : ∀ w ∈ u_ws RX10 TX10 33, w ∈ gtbl := gt_pl [1007, 1009, 1011, 1013, 1015, 1017, 1019, 1021, 1023, 1025, 1027, 1029, 1031, 1033, 1035, 1037, 1039, 1041, 1043, 1045, 1047, 1049, 1051, 1053, 1055, 1057, 1059, 1061, 1063, 1065, 1067, 1069, 1071] (by decide +kernel) (by decide +kernel)
abbrev kls : List vw_C := [(RX0, TX0, 5), (RX1, TX1, 3), (RX2, TX2, 16), (RX3, TX3, 4), (RX4, TX4, 3), (RX5, TX5, 8), (RX6, TX6, 7), (RX7, TX7, 2), (RX8, TX8, 2), (RX9, TX9, 11), (RX10, TX10, 33)]
/-- a method: name, bytes, locals, what it returns, its room -/
abbrev MI : Type := MethodName × ByteArray × Nat × Option FieldType × Room
abbrev mX0_init : MI := (⟨"SoldWithIt$Deeds", "<init>", "()V"⟩, prog_2_method_1_code, 1, none, { frames := 2, cells := 5, slots := 39, locals := 40 })
abbrev mX0_withOwner : MI := (⟨"SoldWithIt$Deeds", "withOwner", "(III)I"⟩, prog_2_method_2_code, 4, (some .int), { frames := 0, cells := 0, slots := 0, locals := 0 })
abbrev mX0_forgetAll : MI := (⟨"SoldWithIt$Deeds", "forgetAll", "()V"⟩, prog_2_method_3_code, 1, none, { frames := 0, cells := 0, slots := 0, locals := 0 })
abbrev mX0_fewestTo : MI := (⟨"SoldWithIt$Deeds", "fewestTo", "(I)I"⟩, prog_2_method_4_code, 2, (some .int), { frames := 0, cells := 0, slots := 0, locals := 0 })
abbrev mX0_fill : MI := (⟨"SoldWithIt$Deeds", "fill", "(LSoldWithIt$Street;I)V"⟩, prog_2_method_5_code, 5, none, { frames := 3, cells := 2, slots := 8192, locals := 81 })
abbrev mX0_reach : MI := (⟨"SoldWithIt$Deeds", "reach", "(II)V"⟩, prog_2_method_6_code, 3, none, { frames := 0, cells := 0, slots := 0, locals := 0 })
abbrev mX0_sellFrom : MI := (⟨"SoldWithIt$Deeds", "sellFrom", "(ILSoldWithIt$Street;I)V"⟩, prog_2_method_7_code, 7, none, { frames := 2, cells := 0, slots := 0, locals := 55 })
abbrev mX0_handedOver : MI := (⟨"SoldWithIt$Deeds", "handedOver", "(III)I"⟩, prog_2_method_8_code, 5, (some .int), { frames := 1, cells := 0, slots := 0, locals := 23 })
abbrev mX1_init : MI := (⟨"SoldWithIt$Facts", "<init>", "()V"⟩, prog_3_method_1_code, 1, none, { frames := 1, cells := 2, slots := 16, locals := 20 })
abbrev mX1_takes : MI := (⟨"SoldWithIt$Facts", "takes", "(II)Z"⟩, prog_3_method_2_code, 3, (some .boolean), { frames := 0, cells := 0, slots := 0, locals := 0 })
abbrev mX2_init : MI := (⟨"SoldWithIt$Rows", "<init>", "()V"⟩, prog_4_method_1_code, 1, none, { frames := 2, cells := 10, slots := 64, locals := 40 })
abbrev mX2_forgetAll : MI := (⟨"SoldWithIt$Rows", "forgetAll", "()V"⟩, prog_4_method_2_code, 1, none, { frames := 2, cells := 0, slots := 0, locals := 43 })
abbrev mX2_forgetBest : MI := (⟨"SoldWithIt$Rows", "forgetBest", "()V"⟩, prog_4_method_3_code, 1, none, { frames := 1, cells := 0, slots := 0, locals := 23 })
abbrev mX2_forgetRest : MI := (⟨"SoldWithIt$Rows", "forgetRest", "()V"⟩, prog_4_method_4_code, 1, none, { frames := 0, cells := 0, slots := 0, locals := 0 })
abbrev mX2_forgetWays : MI := (⟨"SoldWithIt$Rows", "forgetWays", "()V"⟩, prog_4_method_5_code, 1, none, { frames := 0, cells := 0, slots := 0, locals := 0 })
abbrev mX2_fill : MI := (⟨"SoldWithIt$Rows", "fill", "(LSoldWithIt$Street;LSoldWithIt$Sales;)V"⟩, prog_4_method_6_code, 5, none, { frames := 3, cells := 1, slots := 6561, locals := 81 })
abbrev mX2_toFirst : MI := (⟨"SoldWithIt$Rows", "toFirst", "(LSoldWithIt$Street;)V"⟩, prog_4_method_7_code, 3, none, { frames := 1, cells := 0, slots := 0, locals := 23 })
abbrev mX2_toNext : MI := (⟨"SoldWithIt$Rows", "toNext", "()V"⟩, prog_4_method_8_code, 2, none, { frames := 0, cells := 0, slots := 0, locals := 0 })
abbrev mX2_endOf : MI := (⟨"SoldWithIt$Rows", "endOf", "(LSoldWithIt$Street;)J"⟩, prog_4_method_9_code, 5, (some .long), { frames := 0, cells := 0, slots := 0, locals := 0 })
abbrev mX2_endAt : MI := (⟨"SoldWithIt$Rows", "endAt", "(I)J"⟩, prog_4_method_10_code, 2, (some .long), { frames := 0, cells := 0, slots := 0, locals := 0 })
abbrev mX2_keeperBy : MI := (⟨"SoldWithIt$Rows", "keeperBy", "(JI)I"⟩, prog_4_method_11_code, 3, (some .int), { frames := 0, cells := 0, slots := 0, locals := 0 })
abbrev mX2_spotIn : MI := (⟨"SoldWithIt$Rows", "spotIn", "(II)I"⟩, prog_4_method_12_code, 3, (some .int), { frames := 0, cells := 0, slots := 0, locals := 0 })
abbrev mX2_spotBit : MI := (⟨"SoldWithIt$Rows", "spotBit", "(I)I"⟩, prog_4_method_13_code, 1, (some .int), { frames := 0, cells := 0, slots := 0, locals := 0 })
abbrev mX2_gainBy : MI := (⟨"SoldWithIt$Rows", "gainBy", "(IILSoldWithIt$Tastes;)I"⟩, prog_4_method_14_code, 8, (some .int), { frames := 1, cells := 0, slots := 0, locals := 22 })
abbrev mX2_bestRow : MI := (⟨"SoldWithIt$Rows", "bestRow", "(ILSoldWithIt$Tastes;)I"⟩, prog_4_method_15_code, 7, (some .int), { frames := 2, cells := 0, slots := 0, locals := 49 })
abbrev mX2_findRest : MI := (⟨"SoldWithIt$Rows", "findRest", "(LSoldWithIt$Street;LSoldWithIt$Tastes;)V"⟩, prog_4_method_16_code, 4, none, { frames := 3, cells := 0, slots := 0, locals := 75 })
abbrev mX2_allRest : MI := (⟨"SoldWithIt$Rows", "allRest", "(ILSoldWithIt$Street;LSoldWithIt$Tastes;)Z"⟩, prog_4_method_17_code, 6, (some .boolean), { frames := 2, cells := 0, slots := 0, locals := 50 })
abbrev mX2_wouldWalk : MI := (⟨"SoldWithIt$Rows", "wouldWalk", "(IILSoldWithIt$Tastes;)Z"⟩, prog_4_method_18_code, 9, (some .boolean), { frames := 1, cells := 0, slots := 0, locals := 22 })
abbrev mX2_findWays : MI := (⟨"SoldWithIt$Rows", "findWays", "(LSoldWithIt$Facts;)V"⟩, prog_4_method_19_code, 4, none, { frames := 2, cells := 0, slots := 0, locals := 47 })
abbrev mX2_allSo : MI := (⟨"SoldWithIt$Rows", "allSo", "(JLSoldWithIt$Facts;)Z"⟩, prog_4_method_20_code, 6, (some .boolean), { frames := 1, cells := 0, slots := 0, locals := 22 })
abbrev mX3_init : MI := (⟨"SoldWithIt$Sales", "<init>", "()V"⟩, prog_5_method_1_code, 1, none, { frames := 1, cells := 2, slots := 24, locals := 20 })
abbrev mX3_takes : MI := (⟨"SoldWithIt$Sales", "takes", "(II)Z"⟩, prog_5_method_2_code, 3, (some .boolean), { frames := 0, cells := 0, slots := 0, locals := 0 })
abbrev mX3_toldHouses : MI := (⟨"SoldWithIt$Sales", "toldHouses", "()I"⟩, prog_5_method_3_code, 3, (some .int), { frames := 0, cells := 0, slots := 0, locals := 0 })
abbrev mX4_init : MI := (⟨"SoldWithIt$Sheet", "<init>", "()V"⟩, prog_6_method_1_code, 1, none, { frames := 1, cells := 1, slots := 48, locals := 20 })
abbrev mX4_isLost : MI := (⟨"SoldWithIt$Sheet", "isLost", "()Z"⟩, prog_6_method_2_code, 1, (some .boolean), { frames := 0, cells := 0, slots := 0, locals := 0 })
abbrev mX4_renew : MI := (⟨"SoldWithIt$Sheet", "renew", "(II)V"⟩, prog_6_method_3_code, 3, none, { frames := 1, cells := 0, slots := 0, locals := 23 })
abbrev mX4_findingAt : MI := (⟨"SoldWithIt$Sheet", "findingAt", "(II)I"⟩, prog_6_method_4_code, 3, (some .int), { frames := 1, cells := 0, slots := 0, locals := 20 })
abbrev mX4_holds : MI := (⟨"SoldWithIt$Sheet", "holds", "(II)Z"⟩, prog_6_method_5_code, 3, (some .boolean), { frames := 0, cells := 0, slots := 0, locals := 0 })
abbrev mX4_store : MI := (⟨"SoldWithIt$Sheet", "store", "(II)V"⟩, prog_6_method_6_code, 3, none, { frames := 0, cells := 0, slots := 0, locals := 0 })
abbrev mX5_init : MI := (⟨"SoldWithIt$Street", "<init>", "()V"⟩, prog_7_method_1_code, 1, none, { frames := 1, cells := 6, slots := 49, locals := 20 })
abbrev mX5_wrongHouse : MI := (⟨"SoldWithIt$Street", "wrongHouse", "(LSoldWithIt$Text;)I"⟩, prog_7_method_2_code, 2, (some .int), { frames := 1, cells := 0, slots := 0, locals := 21 })
abbrev mX5_wrongPerson : MI := (⟨"SoldWithIt$Street", "wrongPerson", "(LSoldWithIt$Text;)I"⟩, prog_7_method_3_code, 2, (some .int), { frames := 8, cells := 0, slots := 0, locals := 180 })
abbrev mX5_fitsHouse : MI := (⟨"SoldWithIt$Street", "fitsHouse", "(II)Z"⟩, prog_7_method_4_code, 2, (some .boolean), { frames := 0, cells := 0, slots := 0, locals := 0 })
abbrev mX5_fitsPerson : MI := (⟨"SoldWithIt$Street", "fitsPerson", "(II)Z"⟩, prog_7_method_5_code, 2, (some .boolean), { frames := 7, cells := 0, slots := 0, locals := 159 })
abbrev mX5_tell : MI := (⟨"SoldWithIt$Street", "tell", "(LSoldWithIt$Text;LSoldWithIt$Text;)V"⟩, prog_7_method_6_code, 4, none, { frames := 9, cells := 0, slots := 0, locals := 201 })
abbrev mX5_spotOf : MI := (⟨"SoldWithIt$Street", "spotOf", "(I)I"⟩, prog_7_method_7_code, 3, (some .int), { frames := 0, cells := 0, slots := 0, locals := 0 })
abbrev mX6_init : MI := (⟨"SoldWithIt$Stroke", "<init>", "()V"⟩, prog_8_method_1_code, 1, none, { frames := 1, cells := 4, slots := 32, locals := 20 })
abbrev mX6_begin : MI := (⟨"SoldWithIt$Stroke", "begin", "(LSoldWithIt$Street;)V"⟩, prog_8_method_2_code, 2, none, { frames := 1, cells := 0, slots := 0, locals := 30 })
abbrev mX6_next : MI := (⟨"SoldWithIt$Stroke", "next", "(LSoldWithIt$Street;[ILSoldWithIt$Sales;)V"⟩, prog_8_method_3_code, 7, none, { frames := 2, cells := 0, slots := 0, locals := 55 })
abbrev mX6_goneWith : MI := (⟨"SoldWithIt$Stroke", "goneWith", "(II[II)I"⟩, prog_8_method_4_code, 13, (some .int), { frames := 1, cells := 0, slots := 0, locals := 23 })
abbrev mX6_ownedBy : MI := (⟨"SoldWithIt$Stroke", "ownedBy", "(I)I"⟩, prog_8_method_5_code, 4, (some .int), { frames := 0, cells := 0, slots := 0, locals := 0 })
abbrev mX6_handOver : MI := (⟨"SoldWithIt$Stroke", "handOver", "(II)V"⟩, prog_8_method_6_code, 4, none, { frames := 1, cells := 0, slots := 0, locals := 20 })
abbrev mX6_keep : MI := (⟨"SoldWithIt$Stroke", "keep", "(II)V"⟩, prog_8_method_7_code, 4, none, { frames := 0, cells := 0, slots := 0, locals := 0 })
abbrev mX7_init : MI := (⟨"SoldWithIt$Tastes", "<init>", "()V"⟩, prog_9_method_1_code, 1, none, { frames := 1, cells := 2, slots := 128, locals := 20 })
abbrev mX7_swap : MI := (⟨"SoldWithIt$Tastes", "swap", "([IIII)I"⟩, prog_9_method_2_code, 5, (some .int), { frames := 0, cells := 0, slots := 0, locals := 0 })
abbrev mX7_worthOf : MI := (⟨"SoldWithIt$Tastes", "worthOf", "(II)I"⟩, prog_9_method_3_code, 3, (some .int), { frames := 0, cells := 0, slots := 0, locals := 0 })
abbrev mX7_likingOf : MI := (⟨"SoldWithIt$Tastes", "likingOf", "(II)I"⟩, prog_9_method_4_code, 3, (some .int), { frames := 0, cells := 0, slots := 0, locals := 0 })
abbrev mX8_init : MI := (⟨"SoldWithIt$Text", "<init>", "(I)V"⟩, prog_10_method_1_code, 2, none, { frames := 1, cells := 1, slots := 30, locals := 20 })
abbrev mX8_takes : MI := (⟨"SoldWithIt$Text", "takes", "(I)Z"⟩, prog_10_method_2_code, 2, (some .boolean), { frames := 0, cells := 0, slots := 0, locals := 0 })
abbrev mX9_init : MI := (⟨"SoldWithIt", "<init>", "()V"⟩, prog_1_method_1_code, 1, none, { frames := 3, cells := 52, slots := 671, locals := 60 })
abbrev mX9_type : MI := (⟨"SoldWithIt", "type", "(II)I"⟩, prog_1_method_2_code, 3, (some .int), { frames := 11, cells := 0, slots := 0, locals := 244 })
abbrev mX9_wipe : MI := (⟨"SoldWithIt", "wipe", "(I)I"⟩, prog_1_method_3_code, 3, (some .int), { frames := 11, cells := 0, slots := 0, locals := 244 })
abbrev mX9_fault : MI := (⟨"SoldWithIt", "fault", "(I)I"⟩, prog_1_method_4_code, 2, (some .int), { frames := 9, cells := 0, slots := 0, locals := 201 })
abbrev mX9_house : MI := (⟨"SoldWithIt", "house", "(II)I"⟩, prog_1_method_5_code, 3, (some .int), { frames := 1, cells := 0, slots := 0, locals := 21 })
abbrev mX9_person : MI := (⟨"SoldWithIt", "person", "(II)I"⟩, prog_1_method_6_code, 3, (some .int), { frames := 1, cells := 0, slots := 0, locals := 21 })
abbrev mX9_law : MI := (⟨"SoldWithIt", "law", "(II)I"⟩, prog_1_method_7_code, 5, (some .int), { frames := 4, cells := 0, slots := 0, locals := 83 })
abbrev mX9_sale : MI := (⟨"SoldWithIt", "sale", "(II)I"⟩, prog_1_method_8_code, 3, (some .int), { frames := 4, cells := 0, slots := 0, locals := 83 })
abbrev mX9_read : MI := (⟨"SoldWithIt", "read", "(I)I"⟩, prog_1_method_9_code, 5, (some .int), { frames := 5, cells := 0, slots := 0, locals := 105 })
abbrev mX9_undo : MI := (⟨"SoldWithIt", "undo", "()I"⟩, prog_1_method_10_code, 1, (some .int), { frames := 4, cells := 0, slots := 0, locals := 83 })
abbrev mX9_whose : MI := (⟨"SoldWithIt", "whose", "(II)I"⟩, prog_1_method_11_code, 3, (some .int), { frames := 4, cells := 0, slots := 0, locals := 103 })
abbrev mX9_keeper : MI := (⟨"SoldWithIt", "keeper", "(II)I"⟩, prog_1_method_12_code, 3, (some .int), { frames := 4, cells := 0, slots := 0, locals := 103 })
abbrev mX9_sold : MI := (⟨"SoldWithIt", "sold", "(II)I"⟩, prog_1_method_13_code, 3, (some .int), { frames := 4, cells := 0, slots := 0, locals := 103 })
abbrev mX9_length : MI := (⟨"SoldWithIt", "length", "(I)I"⟩, prog_1_method_14_code, 2, (some .int), { frames := 4, cells := 0, slots := 0, locals := 103 })
abbrev mX9_worth : MI := (⟨"SoldWithIt", "worth", "(III)I"⟩, prog_1_method_15_code, 4, (some .int), { frames := 2, cells := 0, slots := 0, locals := 43 })
abbrev mX9_like : MI := (⟨"SoldWithIt", "like", "(III)I"⟩, prog_1_method_16_code, 4, (some .int), { frames := 2, cells := 0, slots := 0, locals := 42 })
abbrev mX9_gain : MI := (⟨"SoldWithIt", "gain", "(I)I"⟩, prog_1_method_17_code, 5, (some .int), { frames := 4, cells := 0, slots := 0, locals := 103 })
abbrev mX9_best : MI := (⟨"SoldWithIt", "best", "(II)I"⟩, prog_1_method_18_code, 4, (some .int), { frames := 4, cells := 1, slots := 6561, locals := 105 })
abbrev mX9_rest : MI := (⟨"SoldWithIt", "rest", "(I)I"⟩, prog_1_method_19_code, 2, (some .int), { frames := 4, cells := 1, slots := 6561, locals := 105 })
abbrev mX9_out : MI := (⟨"SoldWithIt", "out", "(I)I"⟩, prog_1_method_20_code, 6, (some .int), { frames := 1, cells := 0, slots := 0, locals := 22 })
abbrev mX9_value : MI := (⟨"SoldWithIt", "value", "(II)I"⟩, prog_1_method_21_code, 3, (some .int), { frames := 2, cells := 0, slots := 0, locals := 46 })
abbrev mX9_change : MI := (⟨"SoldWithIt", "change", "(II)I"⟩, prog_1_method_22_code, 6, (some .int), { frames := 2, cells := 0, slots := 0, locals := 46 })
abbrev mX9_changes : MI := (⟨"SoldWithIt", "changes", "()I"⟩, prog_1_method_23_code, 4, (some .int), { frames := 3, cells := 0, slots := 0, locals := 71 })
abbrev mX9_should : MI := (⟨"SoldWithIt", "should", "(I)I"⟩, prog_1_method_24_code, 5, (some .int), { frames := 4, cells := 2, slots := 8192, locals := 105 })
abbrev mX9_come : MI := (⟨"SoldWithIt", "come", "(II)I"⟩, prog_1_method_25_code, 3, (some .int), { frames := 3, cells := 0, slots := 0, locals := 71 })
abbrev mX9_invite : MI := (⟨"SoldWithIt", "invite", "(II)I"⟩, prog_1_method_26_code, 8, (some .int), { frames := 3, cells := 0, slots := 0, locals := 71 })
abbrev mX9_fact : MI := (⟨"SoldWithIt", "fact", "(II)I"⟩, prog_1_method_27_code, 3, (some .int), { frames := 1, cells := 0, slots := 0, locals := 22 })
abbrev mX9_forget : MI := (⟨"SoldWithIt", "forget", "()I"⟩, prog_1_method_28_code, 2, (some .int), { frames := 1, cells := 0, slots := 0, locals := 20 })
abbrev mX9_were : MI := (⟨"SoldWithIt", "were", "(I)I"⟩, prog_1_method_29_code, 2, (some .int), { frames := 4, cells := 1, slots := 6561, locals := 105 })
abbrev mX9_bed : MI := (⟨"SoldWithIt", "bed", "()I"⟩, prog_1_method_30_code, 3, (some .int), { frames := 4, cells := 1, slots := 6561, locals := 105 })
abbrev mX9_sheet : MI := (⟨"SoldWithIt", "sheet", "(III)I"⟩, prog_1_method_31_code, 4, (some .int), { frames := 2, cells := 0, slots := 0, locals := 45 })
abbrev mX9_lose : MI := (⟨"SoldWithIt", "lose", "(I)I"⟩, prog_1_method_32_code, 2, (some .int), { frames := 1, cells := 0, slots := 0, locals := 21 })
abbrev mX9_put : MI := (⟨"SoldWithIt", "put", "(IIII)I"⟩, prog_1_method_33_code, 6, (some .int), { frames := 2, cells := 0, slots := 0, locals := 42 })
abbrev mX9_get : MI := (⟨"SoldWithIt", "get", "(III)I"⟩, prog_1_method_34_code, 5, (some .int), { frames := 2, cells := 0, slots := 0, locals := 42 })
abbrev mX9_copy : MI := (⟨"SoldWithIt", "copy", "(IIIII)I"⟩, prog_1_method_35_code, 8, (some .int), { frames := 1, cells := 0, slots := 0, locals := 30 })
abbrev mX9_write : MI := (⟨"SoldWithIt", "write", "(I)I"⟩, prog_1_method_36_code, 6, (some .int), { frames := 4, cells := 0, slots := 0, locals := 103 })
abbrev mX9_count : MI := (⟨"SoldWithIt", "count", "(I)I"⟩, prog_1_method_37_code, 2, (some .int), { frames := 5, cells := 0, slots := 0, locals := 126 })
abbrev mX9_digest : MI := (⟨"SoldWithIt", "digest", "()J"⟩, prog_1_method_38_code, 4, (some .long), { frames := 10, cells := 0, slots := 0, locals := 222 })
abbrev mX9_withHouse : MI := (⟨"SoldWithIt", "withHouse", "(JI)J"⟩, prog_1_method_39_code, 7, (some .long), { frames := 5, cells := 0, slots := 0, locals := 125 })
abbrev mX9_withPerson : MI := (⟨"SoldWithIt", "withPerson", "(JI)J"⟩, prog_1_method_40_code, 7, (some .long), { frames := 5, cells := 0, slots := 0, locals := 127 })
abbrev mX9_retell : MI := (⟨"SoldWithIt", "retell", "()V"⟩, prog_1_method_41_code, 1, none, { frames := 10, cells := 0, slots := 0, locals := 224 })
abbrev mX9_recount : MI := (⟨"SoldWithIt", "recount", "()V"⟩, prog_1_method_42_code, 1, none, { frames := 3, cells := 0, slots := 0, locals := 63 })
abbrev mX9_behind : MI := (⟨"SoldWithIt", "behind", "(I)LSoldWithIt$Stroke;"⟩, prog_1_method_43_code, 3, (some (.object "SoldWithIt$Stroke")), { frames := 3, cells := 0, slots := 0, locals := 81 })
abbrev mX9_valueTo : MI := (⟨"SoldWithIt", "valueTo", "(II)I"⟩, prog_1_method_44_code, 5, (some .int), { frames := 1, cells := 0, slots := 0, locals := 22 })
abbrev mX9_comers : MI := (⟨"SoldWithIt", "comers", "(II)I"⟩, prog_1_method_45_code, 5, (some .int), { frames := 2, cells := 0, slots := 0, locals := 47 })
abbrev mX9_likingAt : MI := (⟨"SoldWithIt", "likingAt", "(III)I"⟩, prog_1_method_46_code, 6, (some .int), { frames := 1, cells := 0, slots := 0, locals := 22 })
abbrev mX9_allSold : MI := (⟨"SoldWithIt", "allSold", "()I"⟩, prog_1_method_47_code, 4, (some .int), { frames := 4, cells := 0, slots := 0, locals := 103 })
abbrev mX9_lockedIn : MI := (⟨"SoldWithIt", "lockedIn", "()I"⟩, prog_1_method_48_code, 3, (some .int), { frames := 0, cells := 0, slots := 0, locals := 0 })
abbrev mX9_found : MI := (⟨"SoldWithIt", "found", "(I)I"⟩, prog_1_method_49_code, 2, (some .int), { frames := 0, cells := 0, slots := 0, locals := 0 })
abbrev mX9_everybody : MI := (⟨"SoldWithIt", "everybody", "()I"⟩, prog_1_method_50_code, 1, (some .int), { frames := 0, cells := 0, slots := 0, locals := 0 })
abbrev mX9_noHouse : MI := (⟨"SoldWithIt", "noHouse", "(I)Z"⟩, prog_1_method_51_code, 2, (some .boolean), { frames := 0, cells := 0, slots := 0, locals := 0 })
abbrev mX9_nobody : MI := (⟨"SoldWithIt", "nobody", "(I)Z"⟩, prog_1_method_52_code, 2, (some .boolean), { frames := 0, cells := 0, slots := 0, locals := 0 })
abbrev mX9_noText : MI := (⟨"SoldWithIt", "noText", "(I)Z"⟩, prog_1_method_53_code, 1, (some .boolean), { frames := 0, cells := 0, slots := 0, locals := 0 })
abbrev mX9_noNumber : MI := (⟨"SoldWithIt", "noNumber", "(I)Z"⟩, prog_1_method_54_code, 1, (some .boolean), { frames := 0, cells := 0, slots := 0, locals := 0 })
abbrev mX9_noTaste : MI := (⟨"SoldWithIt", "noTaste", "(III)Z"⟩, prog_1_method_55_code, 3, (some .boolean), { frames := 1, cells := 0, slots := 0, locals := 20 })
abbrev mX9_noSheet : MI := (⟨"SoldWithIt", "noSheet", "(I)Z"⟩, prog_1_method_56_code, 1, (some .boolean), { frames := 0, cells := 0, slots := 0, locals := 0 })
abbrev mX9_noForm : MI := (⟨"SoldWithIt", "noForm", "(I)Z"⟩, prog_1_method_57_code, 1, (some .boolean), { frames := 0, cells := 0, slots := 0, locals := 0 })
abbrev mX9_houseAt : MI := (⟨"SoldWithIt", "houseAt", "(I)I"⟩, prog_1_method_58_code, 1, (some .int), { frames := 0, cells := 0, slots := 0, locals := 0 })
abbrev mX10_init : MI := (⟨"SoldWithItModel", "<init>", "()V"⟩, prog_12_method_1_code, 2, none, { frames := 1, cells := 27, slots := 35011, locals := 20 })
abbrev mX10_in : MI := (⟨"SoldWithItModel", "in", "(III)Z"⟩, prog_12_method_3_code, 3, (some .boolean), { frames := 0, cells := 0, slots := 0, locals := 0 })
abbrev mX10_isIn : MI := (⟨"SoldWithItModel", "isIn", "(II)Z"⟩, prog_12_method_4_code, 2, (some .boolean), { frames := 0, cells := 0, slots := 0, locals := 0 })
abbrev mX10_ones : MI := (⟨"SoldWithItModel", "ones", "(I)I"⟩, prog_12_method_5_code, 3, (some .int), { frames := 0, cells := 0, slots := 0, locals := 0 })
abbrev mX10_type : MI := (⟨"SoldWithItModel", "type", "(II)I"⟩, prog_12_method_6_code, 3, (some .int), { frames := 1, cells := 0, slots := 0, locals := 22 })
abbrev mX10_wipe : MI := (⟨"SoldWithItModel", "wipe", "(I)I"⟩, prog_12_method_7_code, 3, (some .int), { frames := 1, cells := 0, slots := 0, locals := 22 })
abbrev mX10_byteAt : MI := (⟨"SoldWithItModel", "byteAt", "(II)I"⟩, prog_12_method_8_code, 3, (some .int), { frames := 0, cells := 0, slots := 0, locals := 0 })
abbrev mX10_readsHouses : MI := (⟨"SoldWithItModel", "readsHouses", "()I"⟩, prog_12_method_9_code, 3, (some .int), { frames := 1, cells := 0, slots := 0, locals := 22 })
abbrev mX10_readsPeople : MI := (⟨"SoldWithItModel", "readsPeople", "()I"⟩, prog_12_method_10_code, 5, (some .int), { frames := 1, cells := 0, slots := 0, locals := 22 })
abbrev mX10_faultOf : MI := (⟨"SoldWithItModel", "faultOf", "(I)I"⟩, prog_12_method_11_code, 2, (some .int), { frames := 2, cells := 0, slots := 0, locals := 46 })
abbrev mX10_reads : MI := (⟨"SoldWithItModel", "reads", "()V"⟩, prog_12_method_12_code, 3, none, { frames := 2, cells := 0, slots := 0, locals := 46 })
abbrev mX10_fault : MI := (⟨"SoldWithItModel", "fault", "(I)I"⟩, prog_12_method_13_code, 2, (some .int), { frames := 3, cells := 0, slots := 0, locals := 67 })
abbrev mX10_isHouse : MI := (⟨"SoldWithItModel", "isHouse", "(I)Z"⟩, prog_12_method_14_code, 2, (some .boolean), { frames := 3, cells := 0, slots := 0, locals := 68 })
abbrev mX10_isPerson : MI := (⟨"SoldWithItModel", "isPerson", "(I)Z"⟩, prog_12_method_15_code, 2, (some .boolean), { frames := 3, cells := 0, slots := 0, locals := 68 })
abbrev mX10_isEight : MI := (⟨"SoldWithItModel", "isEight", "(I)Z"⟩, prog_12_method_16_code, 1, (some .boolean), { frames := 1, cells := 0, slots := 0, locals := 22 })
abbrev mX10_houseOf : MI := (⟨"SoldWithItModel", "houseOf", "(II)I"⟩, prog_12_method_17_code, 5, (some .int), { frames := 0, cells := 0, slots := 0, locals := 0 })
abbrev mX10_house : MI := (⟨"SoldWithItModel", "house", "(II)I"⟩, prog_12_method_18_code, 3, (some .int), { frames := 4, cells := 0, slots := 0, locals := 89 })
abbrev mX10_personOf : MI := (⟨"SoldWithItModel", "personOf", "(II)I"⟩, prog_12_method_19_code, 5, (some .int), { frames := 0, cells := 0, slots := 0, locals := 0 })
abbrev mX10_person : MI := (⟨"SoldWithItModel", "person", "(II)I"⟩, prog_12_method_20_code, 3, (some .int), { frames := 4, cells := 0, slots := 0, locals := 89 })
abbrev mX10_law : MI := (⟨"SoldWithItModel", "law", "(II)I"⟩, prog_12_method_21_code, 4, (some .int), { frames := 1, cells := 0, slots := 0, locals := 22 })
abbrev mX10_saleMore : MI := (⟨"SoldWithItModel", "saleMore", "(II)I"⟩, prog_12_method_22_code, 3, (some .int), { frames := 2, cells := 0, slots := 0, locals := 42 })
abbrev mX10_sale : MI := (⟨"SoldWithItModel", "sale", "(II)I"⟩, prog_12_method_23_code, 3, (some .int), { frames := 3, cells := 0, slots := 0, locals := 64 })
abbrev mX10_read : MI := (⟨"SoldWithItModel", "read", "(I)I"⟩, prog_12_method_24_code, 3, (some .int), { frames := 3, cells := 0, slots := 0, locals := 64 })
abbrev mX10_undo : MI := (⟨"SoldWithItModel", "undo", "()I"⟩, prog_12_method_25_code, 1, (some .int), { frames := 0, cells := 0, slots := 0, locals := 0 })
abbrev mX10_sells : MI := (⟨"SoldWithItModel", "sells", "(II)I"⟩, prog_12_method_26_code, 10, (some .int), { frames := 1, cells := 0, slots := 0, locals := 21 })
abbrev mX10_begins : MI := (⟨"SoldWithItModel", "begins", "()V"⟩, prog_12_method_27_code, 2, none, { frames := 0, cells := 0, slots := 0, locals := 0 })
abbrev mX10_runs : MI := (⟨"SoldWithItModel", "runs", "(I)V"⟩, prog_12_method_28_code, 3, none, { frames := 2, cells := 0, slots := 0, locals := 50 })
abbrev mX10_lays : MI := (⟨"SoldWithItModel", "lays", "(I)V"⟩, prog_12_method_29_code, 3, none, { frames := 3, cells := 0, slots := 0, locals := 72 })
abbrev mX10_whose : MI := (⟨"SoldWithItModel", "whose", "(II)I"⟩, prog_12_method_30_code, 3, (some .int), { frames := 4, cells := 0, slots := 0, locals := 94 })
abbrev mX10_keeperOf : MI := (⟨"SoldWithItModel", "keeperOf", "(II)I"⟩, prog_12_method_31_code, 3, (some .int), { frames := 4, cells := 0, slots := 0, locals := 94 })
abbrev mX10_keeper : MI := (⟨"SoldWithItModel", "keeper", "(II)I"⟩, prog_12_method_32_code, 3, (some .int), { frames := 5, cells := 0, slots := 0, locals := 116 })
abbrev mX10_soldOf : MI := (⟨"SoldWithItModel", "soldOf", "(II)I"⟩, prog_12_method_33_code, 3, (some .int), { frames := 4, cells := 0, slots := 0, locals := 94 })
abbrev mX10_sold : MI := (⟨"SoldWithItModel", "sold", "(II)I"⟩, prog_12_method_34_code, 3, (some .int), { frames := 5, cells := 0, slots := 0, locals := 116 })
abbrev mX10_lengthOf : MI := (⟨"SoldWithItModel", "lengthOf", "(I)I"⟩, prog_12_method_35_code, 2, (some .int), { frames := 4, cells := 0, slots := 0, locals := 94 })
abbrev mX10_length : MI := (⟨"SoldWithItModel", "length", "(I)I"⟩, prog_12_method_36_code, 2, (some .int), { frames := 5, cells := 0, slots := 0, locals := 115 })
abbrev mX10_worth : MI := (⟨"SoldWithItModel", "worth", "(III)I"⟩, prog_12_method_37_code, 5, (some .int), { frames := 2, cells := 0, slots := 0, locals := 42 })
abbrev mX10_like : MI := (⟨"SoldWithItModel", "like", "(III)I"⟩, prog_12_method_38_code, 5, (some .int), { frames := 2, cells := 0, slots := 0, locals := 42 })
abbrev mX10_gainBy : MI := (⟨"SoldWithItModel", "gainBy", "(I)I"⟩, prog_12_method_39_code, 4, (some .int), { frames := 0, cells := 0, slots := 0, locals := 0 })
abbrev mX10_gainOf : MI := (⟨"SoldWithItModel", "gainOf", "(I)I"⟩, prog_12_method_40_code, 2, (some .int), { frames := 4, cells := 0, slots := 0, locals := 94 })
abbrev mX10_gain : MI := (⟨"SoldWithItModel", "gain", "(I)I"⟩, prog_12_method_41_code, 2, (some .int), { frames := 5, cells := 0, slots := 0, locals := 115 })
abbrev mX10_rows : MI := (⟨"SoldWithItModel", "rows", "()I"⟩, prog_12_method_42_code, 3, (some .int), { frames := 0, cells := 0, slots := 0, locals := 0 })
abbrev mX10_places : MI := (⟨"SoldWithItModel", "places", "(I)V"⟩, prog_12_method_43_code, 4, none, { frames := 0, cells := 0, slots := 0, locals := 0 })
abbrev mX10_bestOf : MI := (⟨"SoldWithItModel", "bestOf", "(II)I"⟩, prog_12_method_44_code, 9, (some .int), { frames := 3, cells := 0, slots := 0, locals := 72 })
abbrev mX10_best : MI := (⟨"SoldWithItModel", "best", "(II)I"⟩, prog_12_method_45_code, 3, (some .int), { frames := 4, cells := 0, slots := 0, locals := 100 })
abbrev mX10_restOf : MI := (⟨"SoldWithItModel", "restOf", "(I)I"⟩, prog_12_method_46_code, 11, (some .int), { frames := 3, cells := 0, slots := 0, locals := 72 })
abbrev mX10_rest : MI := (⟨"SoldWithItModel", "rest", "(I)I"⟩, prog_12_method_47_code, 2, (some .int), { frames := 5, cells := 0, slots := 0, locals := 123 })
abbrev mX10_restNow : MI := (⟨"SoldWithItModel", "restNow", "(I)I"⟩, prog_12_method_48_code, 2, (some .int), { frames := 4, cells := 0, slots := 0, locals := 102 })
abbrev mX10_isTold : MI := (⟨"SoldWithItModel", "isTold", "(I)Z"⟩, prog_12_method_49_code, 4, (some .boolean), { frames := 0, cells := 0, slots := 0, locals := 0 })
abbrev mX10_outOf : MI := (⟨"SoldWithItModel", "outOf", "(I)I"⟩, prog_12_method_50_code, 6, (some .int), { frames := 1, cells := 0, slots := 0, locals := 23 })
abbrev mX10_out : MI := (⟨"SoldWithItModel", "out", "(I)I"⟩, prog_12_method_51_code, 2, (some .int), { frames := 4, cells := 0, slots := 0, locals := 89 })
abbrev mX10_valueOf : MI := (⟨"SoldWithItModel", "valueOf", "(II)I"⟩, prog_12_method_52_code, 5, (some .int), { frames := 0, cells := 0, slots := 0, locals := 0 })
abbrev mX10_value : MI := (⟨"SoldWithItModel", "value", "(II)I"⟩, prog_12_method_53_code, 3, (some .int), { frames := 4, cells := 0, slots := 0, locals := 89 })
abbrev mX10_isChange : MI := (⟨"SoldWithItModel", "isChange", "(II)Z"⟩, prog_12_method_54_code, 5, (some .boolean), { frames := 1, cells := 0, slots := 0, locals := 24 })
abbrev mX10_change : MI := (⟨"SoldWithItModel", "change", "(II)I"⟩, prog_12_method_55_code, 3, (some .int), { frames := 4, cells := 0, slots := 0, locals := 89 })
abbrev mX10_changesNow : MI := (⟨"SoldWithItModel", "changesNow", "()I"⟩, prog_12_method_56_code, 4, (some .int), { frames := 3, cells := 0, slots := 0, locals := 68 })
abbrev mX10_changes : MI := (⟨"SoldWithItModel", "changes", "()I"⟩, prog_12_method_57_code, 1, (some .int), { frames := 4, cells := 0, slots := 0, locals := 91 })
abbrev mX10_ownsBy : MI := (⟨"SoldWithItModel", "ownsBy", "(I)V"⟩, prog_12_method_58_code, 4, none, { frames := 1, cells := 0, slots := 0, locals := 21 })
abbrev mX10_stateNow : MI := (⟨"SoldWithItModel", "stateNow", "()I"⟩, prog_12_method_59_code, 3, (some .int), { frames := 0, cells := 0, slots := 0, locals := 0 })
abbrev mX10_shouldOf : MI := (⟨"SoldWithItModel", "shouldOf", "(I)I"⟩, prog_12_method_60_code, 10, (some .int), { frames := 4, cells := 0, slots := 0, locals := 94 })
abbrev mX10_should : MI := (⟨"SoldWithItModel", "should", "(I)I"⟩, prog_12_method_61_code, 2, (some .int), { frames := 5, cells := 0, slots := 0, locals := 123 })
abbrev mX10_comeOf : MI := (⟨"SoldWithItModel", "comeOf", "(II)I"⟩, prog_12_method_62_code, 7, (some .int), { frames := 1, cells := 0, slots := 0, locals := 21 })
abbrev mX10_come : MI := (⟨"SoldWithItModel", "come", "(II)I"⟩, prog_12_method_63_code, 3, (some .int), { frames := 4, cells := 0, slots := 0, locals := 89 })
abbrev mX10_inviteOf : MI := (⟨"SoldWithItModel", "inviteOf", "(II)I"⟩, prog_12_method_64_code, 6, (some .int), { frames := 2, cells := 0, slots := 0, locals := 47 })
abbrev mX10_invite : MI := (⟨"SoldWithItModel", "invite", "(II)I"⟩, prog_12_method_65_code, 3, (some .int), { frames := 4, cells := 0, slots := 0, locals := 89 })
abbrev mX10_fact : MI := (⟨"SoldWithItModel", "fact", "(II)I"⟩, prog_12_method_66_code, 3, (some .int), { frames := 2, cells := 0, slots := 0, locals := 42 })
abbrev mX10_forget : MI := (⟨"SoldWithItModel", "forget", "()I"⟩, prog_12_method_67_code, 2, (some .int), { frames := 0, cells := 0, slots := 0, locals := 0 })
abbrev mX10_waysNow : MI := (⟨"SoldWithItModel", "waysNow", "()I"⟩, prog_12_method_68_code, 6, (some .int), { frames := 3, cells := 0, slots := 0, locals := 72 })
abbrev mX10_were : MI := (⟨"SoldWithItModel", "were", "(I)I"⟩, prog_12_method_69_code, 3, (some .int), { frames := 4, cells := 0, slots := 0, locals := 97 })
abbrev mX10_bed : MI := (⟨"SoldWithItModel", "bed", "()I"⟩, prog_12_method_70_code, 3, (some .int), { frames := 4, cells := 0, slots := 0, locals := 97 })
abbrev mX10_meets : MI := (⟨"SoldWithItModel", "meets", "(I)I"⟩, prog_12_method_71_code, 2, (some .int), { frames := 0, cells := 0, slots := 0, locals := 0 })
abbrev mX10_isSheet : MI := (⟨"SoldWithItModel", "isSheet", "(I)Z"⟩, prog_12_method_72_code, 1, (some .boolean), { frames := 1, cells := 0, slots := 0, locals := 22 })
abbrev mX10_sheet : MI := (⟨"SoldWithItModel", "sheet", "(III)I"⟩, prog_12_method_73_code, 5, (some .int), { frames := 2, cells := 0, slots := 0, locals := 42 })
abbrev mX10_lose : MI := (⟨"SoldWithItModel", "lose", "(I)I"⟩, prog_12_method_74_code, 2, (some .int), { frames := 2, cells := 0, slots := 0, locals := 42 })
abbrev mX10_lacks : MI := (⟨"SoldWithItModel", "lacks", "(III)I"⟩, prog_12_method_75_code, 4, (some .int), { frames := 1, cells := 0, slots := 0, locals := 22 })
abbrev mX10_keep : MI := (⟨"SoldWithItModel", "keep", "(III)V"⟩, prog_12_method_76_code, 4, none, { frames := 0, cells := 0, slots := 0, locals := 0 })
abbrev mX10_put : MI := (⟨"SoldWithItModel", "put", "(IIII)I"⟩, prog_12_method_77_code, 6, (some .int), { frames := 2, cells := 0, slots := 0, locals := 45 })
abbrev mX10_get : MI := (⟨"SoldWithItModel", "get", "(III)I"⟩, prog_12_method_78_code, 5, (some .int), { frames := 2, cells := 0, slots := 0, locals := 45 })
abbrev mX10_copy : MI := (⟨"SoldWithItModel", "copy", "(IIIII)I"⟩, prog_12_method_79_code, 7, (some .int), { frames := 2, cells := 0, slots := 0, locals := 42 })
abbrev mX10_write : MI := (⟨"SoldWithItModel", "write", "(I)I"⟩, prog_12_method_80_code, 3, (some .int), { frames := 4, cells := 0, slots := 0, locals := 94 })
abbrev mX10_sumOf : MI := (⟨"SoldWithItModel", "sumOf", "(I)I"⟩, prog_12_method_81_code, 4, (some .int), { frames := 4, cells := 0, slots := 0, locals := 94 })
abbrev mX10_count : MI := (⟨"SoldWithItModel", "count", "(I)I"⟩, prog_12_method_82_code, 2, (some .int), { frames := 5, cells := 0, slots := 0, locals := 117 })
abbrev mX10_digest : MI := (⟨"SoldWithItModel", "digest", "()J"⟩, prog_12_method_83_code, 5, (some .long), { frames := 6, cells := 0, slots := 0, locals := 138 })
abbrev mJ11_isValidCodePoint_9a6ad : MI := (⟨"java/lang/Character", "isValidCodePoint", "(I)Z"⟩, prog_13_method_11_code, 2, (some .boolean), { frames := 0, cells := 0, slots := 0, locals := 0 })
abbrev mJ11_highSurrogate_5068e : MI := (⟨"java/lang/Character", "highSurrogate", "(I)C"⟩, prog_13_method_28_code, 1, (some .char), { frames := 0, cells := 0, slots := 0, locals := 0 })
abbrev mJ11_lowSurrogate_5068e : MI := (⟨"java/lang/Character", "lowSurrogate", "(I)C"⟩, prog_13_method_29_code, 1, (some .char), { frames := 0, cells := 0, slots := 0, locals := 0 })
abbrev mJ6_bitCount_0f7a4 : MI := (⟨"java/lang/Integer", "bitCount", "(I)I"⟩, prog_14_method_49_code, 1, (some .int), { frames := 0, cells := 0, slots := 0, locals := 0 })
abbrev mJ9_abs_0f7a4 : MI := (⟨"java/lang/Math", "abs", "(I)I"⟩, prog_15_method_59_code, 1, (some .int), { frames := 0, cells := 0, slots := 0, locals := 0 })
abbrev mJ9_max_7cf53 : MI := (⟨"java/lang/Math", "max", "(II)I"⟩, prog_15_method_65_code, 2, (some .int), { frames := 0, cells := 0, slots := 0, locals := 0 })
abbrev mJ9_min_7cf53 : MI := (⟨"java/lang/Math", "min", "(II)I"⟩, prog_15_method_69_code, 2, (some .int), { frames := 0, cells := 0, slots := 0, locals := 0 })
abbrev mJ0_length_8abf5 : MI := (⟨"java/lang/String", "length", "()I"⟩, prog_16_method_54_code, 1, (some .int), { frames := 1, cells := 0, slots := 0, locals := 20 })
abbrev mJ0_indexOf_0f7a4 : MI := (⟨"java/lang/String", "indexOf", "(I)I"⟩, prog_16_method_79_code, 2, (some .int), { frames := 6, cells := 0, slots := 0, locals := 138 })
abbrev mJ0_indexOf_7cf53 : MI := (⟨"java/lang/String", "indexOf", "(II)I"⟩, prog_16_method_80_code, 3, (some .int), { frames := 5, cells := 0, slots := 0, locals := 116 })
abbrev mJ0_coder_7d493 : MI := (⟨"java/lang/String", "coder", "()B"⟩, prog_16_method_152_code, 1, (some .byte), { frames := 0, cells := 0, slots := 0, locals := 0 })
abbrev mJ0_isLatin1_aae02 : MI := (⟨"java/lang/String", "isLatin1", "()Z"⟩, prog_16_method_154_code, 1, (some .boolean), { frames := 0, cells := 0, slots := 0, locals := 0 })
abbrev mJ0_checkBoundsBeginEnd_23922 : MI := (⟨"java/lang/String", "checkBoundsBeginEnd", "(III)V"⟩, prog_16_method_158_code, 3, none, { frames := 1, cells := 0, slots := 0, locals := 23 })
abbrev mJ1_canEncode_9a6ad : MI := (⟨"java/lang/StringLatin1", "canEncode", "(I)Z"⟩, prog_17_method_4_code, 1, (some .boolean), { frames := 0, cells := 0, slots := 0, locals := 0 })
abbrev mJ1_indexOf_4cfef : MI := (⟨"java/lang/StringLatin1", "indexOf", "([BIII)I"⟩, prog_17_method_22_code, 4, (some .int), { frames := 1, cells := 0, slots := 0, locals := 25 })
abbrev mJ1_indexOfChar_4cfef : MI := (⟨"java/lang/StringLatin1", "indexOfChar", "([BIII)I"⟩, prog_17_method_23_code, 6, (some .int), { frames := 0, cells := 0, slots := 0, locals := 0 })
abbrev mJ2_getChar_3b067 : MI := (⟨"java/lang/StringUTF16", "getChar", "([BI)C"⟩, prog_18_method_5_code, 2, (some .char), { frames := 1, cells := 0, slots := 0, locals := 20 })
abbrev mJ2_length_9d52b : MI := (⟨"java/lang/StringUTF16", "length", "([B)I"⟩, prog_18_method_6_code, 1, (some .int), { frames := 0, cells := 0, slots := 0, locals := 0 })
abbrev mJ2_indexOf_4cfef : MI := (⟨"java/lang/StringUTF16", "indexOf", "([BIII)I"⟩, prog_18_method_40_code, 4, (some .int), { frames := 4, cells := 0, slots := 0, locals := 93 })
abbrev mJ2_indexOfChar_4cfef : MI := (⟨"java/lang/StringUTF16", "indexOfChar", "([BIII)I"⟩, prog_18_method_47_code, 4, (some .int), { frames := 3, cells := 0, slots := 0, locals := 67 })
abbrev mJ2_indexOfCharUnsafe_4cfef : MI := (⟨"java/lang/StringUTF16", "indexOfCharUnsafe", "([BIII)I"⟩, prog_18_method_48_code, 5, (some .int), { frames := 2, cells := 0, slots := 0, locals := 41 })
abbrev mJ2_indexOfSupplementary_4cfef : MI := (⟨"java/lang/StringUTF16", "indexOfSupplementary", "([BIII)I"⟩, prog_18_method_49_code, 7, (some .int), { frames := 3, cells := 0, slots := 0, locals := 67 })
abbrev mJ2_checkBoundsBeginEnd_d044e : MI := (⟨"java/lang/StringUTF16", "checkBoundsBeginEnd", "(II[B)V"⟩, prog_18_method_93_code, 3, none, { frames := 2, cells := 0, slots := 0, locals := 45 })
abbrev mJ7_fill_53178 : MI := (⟨"java/util/Arrays", "fill", "([II)V"⟩, prog_20_method_103_code, 4, none, { frames := 0, cells := 0, slots := 0, locals := 0 })
abbrev mJ7_fill_fb410 : MI := (⟨"java/util/Arrays", "fill", "([SS)V"⟩, prog_20_method_105_code, 4, none, { frames := 0, cells := 0, slots := 0, locals := 0 })
abbrev mJ3_checkFromToIndex_8c36e : MI := (⟨"jdk/internal/util/Preconditions", "checkFromToIndex", "(IIILjava/util/function/BiFunction;)I"⟩, prog_21_method_12_code, 4, (some .int), { frames := 0, cells := 0, slots := 0, locals := 0 })
abbrev mL_law : MI := (x, code, 4, ret, room_1)

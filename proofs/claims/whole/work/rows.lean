section
-- ===== PART A: goes FIRST, ahead of the names: the tables' words, and 'selects' of the private methods out of them =====
/-- a private method of a class that the tables say can be made, by its rows of tables_1 -/
def lw_okq (q : MethodName × Nat) : Prop := (q.1.cls ≠ "java/lang/invoke/MethodHandle" ∧ q.1.cls ≠ "java/lang/invoke/VarHandle") ∧ Cond.instantiable q.1.cls q.2 ∈ tables_1 ∧ Cond.privateMethod q.1 ∈ tables_1 ∧ Cond.instanceMethod q.1 ∈ tables_1
theorem lw_p0 : lw_okq (⟨"SoldWithIt", "retell", "()V"⟩, 11) := ⟨⟨by decide +kernel, by decide +kernel⟩, List.mem_of_getElem? (i := 22) (by decide +kernel), List.mem_of_getElem? (i := 347) (by decide +kernel), List.mem_of_getElem? (i := 348) (by decide +kernel)⟩
theorem lw_p1 : lw_okq (⟨"SoldWithIt$Street", "spotOf", "(I)I"⟩, 8) := ⟨⟨by decide +kernel, by decide +kernel⟩, List.mem_of_getElem? (i := 48) (by decide +kernel), List.mem_of_getElem? (i := 457) (by decide +kernel), List.mem_of_getElem? (i := 458) (by decide +kernel)⟩
theorem lw_p2 : lw_okq (⟨"SoldWithIt", "recount", "()V"⟩, 11) := ⟨⟨by decide +kernel, by decide +kernel⟩, List.mem_of_getElem? (i := 22) (by decide +kernel), List.mem_of_getElem? (i := 461) (by decide +kernel), List.mem_of_getElem? (i := 462) (by decide +kernel)⟩
theorem lw_p3 : lw_okq (⟨"SoldWithIt", "noHouse", "(I)Z"⟩, 11) := ⟨⟨by decide +kernel, by decide +kernel⟩, List.mem_of_getElem? (i := 22) (by decide +kernel), List.mem_of_getElem? (i := 501) (by decide +kernel), List.mem_of_getElem? (i := 502) (by decide +kernel)⟩
theorem lw_p4 : lw_okq (⟨"SoldWithIt", "nobody", "(I)Z"⟩, 11) := ⟨⟨by decide +kernel, by decide +kernel⟩, List.mem_of_getElem? (i := 22) (by decide +kernel), List.mem_of_getElem? (i := 509) (by decide +kernel), List.mem_of_getElem? (i := 510) (by decide +kernel)⟩
theorem lw_p5 : lw_okq (⟨"SoldWithIt", "found", "(I)I"⟩, 11) := ⟨⟨by decide +kernel, by decide +kernel⟩, List.mem_of_getElem? (i := 22) (by decide +kernel), List.mem_of_getElem? (i := 542) (by decide +kernel), List.mem_of_getElem? (i := 543) (by decide +kernel)⟩
theorem lw_p6 : lw_okq (⟨"SoldWithIt", "behind", "(I)LSoldWithIt$Stroke;"⟩, 11) := ⟨⟨by decide +kernel, by decide +kernel⟩, List.mem_of_getElem? (i := 22) (by decide +kernel), List.mem_of_getElem? (i := 555) (by decide +kernel), List.mem_of_getElem? (i := 556) (by decide +kernel)⟩
theorem lw_p7 : lw_okq (⟨"SoldWithIt$Stroke", "ownedBy", "(I)I"⟩, 7) := ⟨⟨by decide +kernel, by decide +kernel⟩, List.mem_of_getElem? (i := 126) (by decide +kernel), List.mem_of_getElem? (i := 583) (by decide +kernel), List.mem_of_getElem? (i := 584) (by decide +kernel)⟩
theorem lw_p8 : lw_okq (⟨"SoldWithIt$Stroke", "handOver", "(II)V"⟩, 7) := ⟨⟨by decide +kernel, by decide +kernel⟩, List.mem_of_getElem? (i := 126) (by decide +kernel), List.mem_of_getElem? (i := 587) (by decide +kernel), List.mem_of_getElem? (i := 588) (by decide +kernel)⟩
theorem lw_p9 : lw_okq (⟨"SoldWithIt$Stroke", "keep", "(II)V"⟩, 7) := ⟨⟨by decide +kernel, by decide +kernel⟩, List.mem_of_getElem? (i := 126) (by decide +kernel), List.mem_of_getElem? (i := 591) (by decide +kernel), List.mem_of_getElem? (i := 592) (by decide +kernel)⟩
theorem lw_p10 : lw_okq (⟨"SoldWithIt$Rows", "toFirst", "(LSoldWithIt$Street;)V"⟩, 16) := ⟨⟨by decide +kernel, by decide +kernel⟩, List.mem_of_getElem? (i := 177) (by decide +kernel), List.mem_of_getElem? (i := 641) (by decide +kernel), List.mem_of_getElem? (i := 642) (by decide +kernel)⟩
theorem lw_p11 : lw_okq (⟨"SoldWithIt$Rows", "endOf", "(LSoldWithIt$Street;)J"⟩, 16) := ⟨⟨by decide +kernel, by decide +kernel⟩, List.mem_of_getElem? (i := 177) (by decide +kernel), List.mem_of_getElem? (i := 647) (by decide +kernel), List.mem_of_getElem? (i := 648) (by decide +kernel)⟩
theorem lw_p12 : lw_okq (⟨"SoldWithIt$Rows", "toNext", "()V"⟩, 16) := ⟨⟨by decide +kernel, by decide +kernel⟩, List.mem_of_getElem? (i := 177) (by decide +kernel), List.mem_of_getElem? (i := 651) (by decide +kernel), List.mem_of_getElem? (i := 652) (by decide +kernel)⟩
theorem lw_p13 : lw_okq (⟨"SoldWithIt$Rows", "endAt", "(I)J"⟩, 16) := ⟨⟨by decide +kernel, by decide +kernel⟩, List.mem_of_getElem? (i := 177) (by decide +kernel), List.mem_of_getElem? (i := 663) (by decide +kernel), List.mem_of_getElem? (i := 664) (by decide +kernel)⟩
theorem lw_p14 : lw_okq (⟨"SoldWithIt$Rows", "allRest", "(ILSoldWithIt$Street;LSoldWithIt$Tastes;)Z"⟩, 16) := ⟨⟨by decide +kernel, by decide +kernel⟩, List.mem_of_getElem? (i := 177) (by decide +kernel), List.mem_of_getElem? (i := 685) (by decide +kernel), List.mem_of_getElem? (i := 686) (by decide +kernel)⟩
theorem lw_p15 : lw_okq (⟨"SoldWithIt$Rows", "wouldWalk", "(IILSoldWithIt$Tastes;)Z"⟩, 16) := ⟨⟨by decide +kernel, by decide +kernel⟩, List.mem_of_getElem? (i := 177) (by decide +kernel), List.mem_of_getElem? (i := 690) (by decide +kernel), List.mem_of_getElem? (i := 691) (by decide +kernel)⟩
def lw_privs_1 : List (MethodName × Nat) := [(⟨"SoldWithIt", "retell", "()V"⟩, 11), (⟨"SoldWithIt$Street", "spotOf", "(I)I"⟩, 8), (⟨"SoldWithIt", "recount", "()V"⟩, 11), (⟨"SoldWithIt", "noHouse", "(I)Z"⟩, 11), (⟨"SoldWithIt", "nobody", "(I)Z"⟩, 11), (⟨"SoldWithIt", "found", "(I)I"⟩, 11), (⟨"SoldWithIt", "behind", "(I)LSoldWithIt$Stroke;"⟩, 11), (⟨"SoldWithIt$Stroke", "ownedBy", "(I)I"⟩, 7), (⟨"SoldWithIt$Stroke", "handOver", "(II)V"⟩, 7), (⟨"SoldWithIt$Stroke", "keep", "(II)V"⟩, 7), (⟨"SoldWithIt$Rows", "toFirst", "(LSoldWithIt$Street;)V"⟩, 16), (⟨"SoldWithIt$Rows", "endOf", "(LSoldWithIt$Street;)J"⟩, 16), (⟨"SoldWithIt$Rows", "toNext", "()V"⟩, 16), (⟨"SoldWithIt$Rows", "endAt", "(I)J"⟩, 16), (⟨"SoldWithIt$Rows", "allRest", "(ILSoldWithIt$Street;LSoldWithIt$Tastes;)Z"⟩, 16), (⟨"SoldWithIt$Rows", "wouldWalk", "(IILSoldWithIt$Tastes;)Z"⟩, 16)]
theorem lw_r1 : ∀ q ∈ lw_privs_1, lw_okq q := List.forall_mem_cons.mpr ⟨lw_p0, List.forall_mem_cons.mpr ⟨lw_p1, List.forall_mem_cons.mpr ⟨lw_p2, List.forall_mem_cons.mpr ⟨lw_p3, List.forall_mem_cons.mpr ⟨lw_p4, List.forall_mem_cons.mpr ⟨lw_p5, List.forall_mem_cons.mpr ⟨lw_p6, List.forall_mem_cons.mpr ⟨lw_p7, List.forall_mem_cons.mpr ⟨lw_p8, List.forall_mem_cons.mpr ⟨lw_p9, List.forall_mem_cons.mpr ⟨lw_p10, List.forall_mem_cons.mpr ⟨lw_p11, List.forall_mem_cons.mpr ⟨lw_p12, List.forall_mem_cons.mpr ⟨lw_p13, List.forall_mem_cons.mpr ⟨lw_p14, List.forall_mem_cons.mpr ⟨lw_p15, fun _ h => absurd h List.not_mem_nil⟩⟩⟩⟩⟩⟩⟩⟩⟩⟩⟩⟩⟩⟩⟩⟩
theorem lw_p16 : lw_okq (⟨"SoldWithIt", "valueTo", "(II)I"⟩, 11) := ⟨⟨by decide +kernel, by decide +kernel⟩, List.mem_of_getElem? (i := 22) (by decide +kernel), List.mem_of_getElem? (i := 715) (by decide +kernel), List.mem_of_getElem? (i := 716) (by decide +kernel)⟩
theorem lw_p17 : lw_okq (⟨"SoldWithIt$Deeds", "reach", "(II)V"⟩, 5) := ⟨⟨by decide +kernel, by decide +kernel⟩, List.mem_of_getElem? (i := 238) (by decide +kernel), List.mem_of_getElem? (i := 743) (by decide +kernel), List.mem_of_getElem? (i := 744) (by decide +kernel)⟩
theorem lw_p18 : lw_okq (⟨"SoldWithIt$Deeds", "sellFrom", "(ILSoldWithIt$Street;I)V"⟩, 5) := ⟨⟨by decide +kernel, by decide +kernel⟩, List.mem_of_getElem? (i := 238) (by decide +kernel), List.mem_of_getElem? (i := 748) (by decide +kernel), List.mem_of_getElem? (i := 749) (by decide +kernel)⟩
theorem lw_p19 : lw_okq (⟨"SoldWithIt", "everybody", "()I"⟩, 11) := ⟨⟨by decide +kernel, by decide +kernel⟩, List.mem_of_getElem? (i := 22) (by decide +kernel), List.mem_of_getElem? (i := 766) (by decide +kernel), List.mem_of_getElem? (i := 767) (by decide +kernel)⟩
theorem lw_p20 : lw_okq (⟨"SoldWithIt", "comers", "(II)I"⟩, 11) := ⟨⟨by decide +kernel, by decide +kernel⟩, List.mem_of_getElem? (i := 22) (by decide +kernel), List.mem_of_getElem? (i := 770) (by decide +kernel), List.mem_of_getElem? (i := 771) (by decide +kernel)⟩
theorem lw_p21 : lw_okq (⟨"SoldWithIt", "likingAt", "(III)I"⟩, 11) := ⟨⟨by decide +kernel, by decide +kernel⟩, List.mem_of_getElem? (i := 22) (by decide +kernel), List.mem_of_getElem? (i := 774) (by decide +kernel), List.mem_of_getElem? (i := 775) (by decide +kernel)⟩
theorem lw_p22 : lw_okq (⟨"SoldWithIt$Rows", "allSo", "(JLSoldWithIt$Facts;)Z"⟩, 16) := ⟨⟨by decide +kernel, by decide +kernel⟩, List.mem_of_getElem? (i := 177) (by decide +kernel), List.mem_of_getElem? (i := 805) (by decide +kernel), List.mem_of_getElem? (i := 806) (by decide +kernel)⟩
theorem lw_p23 : lw_okq (⟨"SoldWithIt", "allSold", "()I"⟩, 11) := ⟨⟨by decide +kernel, by decide +kernel⟩, List.mem_of_getElem? (i := 22) (by decide +kernel), List.mem_of_getElem? (i := 868) (by decide +kernel), List.mem_of_getElem? (i := 869) (by decide +kernel)⟩
theorem lw_p24 : lw_okq (⟨"SoldWithIt", "lockedIn", "()I"⟩, 11) := ⟨⟨by decide +kernel, by decide +kernel⟩, List.mem_of_getElem? (i := 22) (by decide +kernel), List.mem_of_getElem? (i := 872) (by decide +kernel), List.mem_of_getElem? (i := 873) (by decide +kernel)⟩
theorem lw_p25 : lw_okq (⟨"SoldWithIt", "withHouse", "(JI)J"⟩, 11) := ⟨⟨by decide +kernel, by decide +kernel⟩, List.mem_of_getElem? (i := 22) (by decide +kernel), List.mem_of_getElem? (i := 884) (by decide +kernel), List.mem_of_getElem? (i := 885) (by decide +kernel)⟩
theorem lw_p26 : lw_okq (⟨"SoldWithIt", "withPerson", "(JI)J"⟩, 11) := ⟨⟨by decide +kernel, by decide +kernel⟩, List.mem_of_getElem? (i := 22) (by decide +kernel), List.mem_of_getElem? (i := 891) (by decide +kernel), List.mem_of_getElem? (i := 892) (by decide +kernel)⟩
theorem lw_p27 : lw_okq (⟨"SoldWithItModel", "faultOf", "(I)I"⟩, 33) := ⟨⟨by decide +kernel, by decide +kernel⟩, List.mem_of_getElem? (i := 903) (by decide +kernel), List.mem_of_getElem? (i := 1025) (by decide +kernel), List.mem_of_getElem? (i := 1026) (by decide +kernel)⟩
theorem lw_p28 : lw_okq (⟨"SoldWithItModel", "readsHouses", "()I"⟩, 33) := ⟨⟨by decide +kernel, by decide +kernel⟩, List.mem_of_getElem? (i := 903) (by decide +kernel), List.mem_of_getElem? (i := 1029) (by decide +kernel), List.mem_of_getElem? (i := 1030) (by decide +kernel)⟩
theorem lw_p29 : lw_okq (⟨"SoldWithItModel", "byteAt", "(II)I"⟩, 33) := ⟨⟨by decide +kernel, by decide +kernel⟩, List.mem_of_getElem? (i := 903) (by decide +kernel), List.mem_of_getElem? (i := 1033) (by decide +kernel), List.mem_of_getElem? (i := 1034) (by decide +kernel)⟩
theorem lw_p30 : lw_okq (⟨"SoldWithItModel", "readsPeople", "()I"⟩, 33) := ⟨⟨by decide +kernel, by decide +kernel⟩, List.mem_of_getElem? (i := 903) (by decide +kernel), List.mem_of_getElem? (i := 1037) (by decide +kernel), List.mem_of_getElem? (i := 1038) (by decide +kernel)⟩
theorem lw_p31 : lw_okq (⟨"SoldWithItModel", "isHouse", "(I)Z"⟩, 33) := ⟨⟨by decide +kernel, by decide +kernel⟩, List.mem_of_getElem? (i := 903) (by decide +kernel), List.mem_of_getElem? (i := 1045) (by decide +kernel), List.mem_of_getElem? (i := 1046) (by decide +kernel)⟩
def lw_privs_2 : List (MethodName × Nat) := [(⟨"SoldWithIt", "valueTo", "(II)I"⟩, 11), (⟨"SoldWithIt$Deeds", "reach", "(II)V"⟩, 5), (⟨"SoldWithIt$Deeds", "sellFrom", "(ILSoldWithIt$Street;I)V"⟩, 5), (⟨"SoldWithIt", "everybody", "()I"⟩, 11), (⟨"SoldWithIt", "comers", "(II)I"⟩, 11), (⟨"SoldWithIt", "likingAt", "(III)I"⟩, 11), (⟨"SoldWithIt$Rows", "allSo", "(JLSoldWithIt$Facts;)Z"⟩, 16), (⟨"SoldWithIt", "allSold", "()I"⟩, 11), (⟨"SoldWithIt", "lockedIn", "()I"⟩, 11), (⟨"SoldWithIt", "withHouse", "(JI)J"⟩, 11), (⟨"SoldWithIt", "withPerson", "(JI)J"⟩, 11), (⟨"SoldWithItModel", "faultOf", "(I)I"⟩, 33), (⟨"SoldWithItModel", "readsHouses", "()I"⟩, 33), (⟨"SoldWithItModel", "byteAt", "(II)I"⟩, 33), (⟨"SoldWithItModel", "readsPeople", "()I"⟩, 33), (⟨"SoldWithItModel", "isHouse", "(I)Z"⟩, 33)]
theorem lw_r2 : ∀ q ∈ lw_privs_2, lw_okq q := List.forall_mem_cons.mpr ⟨lw_p16, List.forall_mem_cons.mpr ⟨lw_p17, List.forall_mem_cons.mpr ⟨lw_p18, List.forall_mem_cons.mpr ⟨lw_p19, List.forall_mem_cons.mpr ⟨lw_p20, List.forall_mem_cons.mpr ⟨lw_p21, List.forall_mem_cons.mpr ⟨lw_p22, List.forall_mem_cons.mpr ⟨lw_p23, List.forall_mem_cons.mpr ⟨lw_p24, List.forall_mem_cons.mpr ⟨lw_p25, List.forall_mem_cons.mpr ⟨lw_p26, List.forall_mem_cons.mpr ⟨lw_p27, List.forall_mem_cons.mpr ⟨lw_p28, List.forall_mem_cons.mpr ⟨lw_p29, List.forall_mem_cons.mpr ⟨lw_p30, List.forall_mem_cons.mpr ⟨lw_p31, fun _ h => absurd h List.not_mem_nil⟩⟩⟩⟩⟩⟩⟩⟩⟩⟩⟩⟩⟩⟩⟩⟩
theorem lw_p32 : lw_okq (⟨"SoldWithItModel", "reads", "()V"⟩, 33) := ⟨⟨by decide +kernel, by decide +kernel⟩, List.mem_of_getElem? (i := 903) (by decide +kernel), List.mem_of_getElem? (i := 1049) (by decide +kernel), List.mem_of_getElem? (i := 1050) (by decide +kernel)⟩
theorem lw_p33 : lw_okq (⟨"SoldWithItModel", "houseOf", "(II)I"⟩, 33) := ⟨⟨by decide +kernel, by decide +kernel⟩, List.mem_of_getElem? (i := 903) (by decide +kernel), List.mem_of_getElem? (i := 1053) (by decide +kernel), List.mem_of_getElem? (i := 1054) (by decide +kernel)⟩
theorem lw_p34 : lw_okq (⟨"SoldWithItModel", "isPerson", "(I)Z"⟩, 33) := ⟨⟨by decide +kernel, by decide +kernel⟩, List.mem_of_getElem? (i := 903) (by decide +kernel), List.mem_of_getElem? (i := 1061) (by decide +kernel), List.mem_of_getElem? (i := 1062) (by decide +kernel)⟩
theorem lw_p35 : lw_okq (⟨"SoldWithItModel", "personOf", "(II)I"⟩, 33) := ⟨⟨by decide +kernel, by decide +kernel⟩, List.mem_of_getElem? (i := 903) (by decide +kernel), List.mem_of_getElem? (i := 1065) (by decide +kernel), List.mem_of_getElem? (i := 1066) (by decide +kernel)⟩
theorem lw_p36 : lw_okq (⟨"SoldWithItModel", "saleMore", "(II)I"⟩, 33) := ⟨⟨by decide +kernel, by decide +kernel⟩, List.mem_of_getElem? (i := 903) (by decide +kernel), List.mem_of_getElem? (i := 1077) (by decide +kernel), List.mem_of_getElem? (i := 1078) (by decide +kernel)⟩
theorem lw_p37 : lw_okq (⟨"SoldWithItModel", "meets", "(I)I"⟩, 33) := ⟨⟨by decide +kernel, by decide +kernel⟩, List.mem_of_getElem? (i := 903) (by decide +kernel), List.mem_of_getElem? (i := 1091) (by decide +kernel), List.mem_of_getElem? (i := 1092) (by decide +kernel)⟩
theorem lw_p38 : lw_okq (⟨"SoldWithItModel", "lays", "(I)V"⟩, 33) := ⟨⟨by decide +kernel, by decide +kernel⟩, List.mem_of_getElem? (i := 903) (by decide +kernel), List.mem_of_getElem? (i := 1103) (by decide +kernel), List.mem_of_getElem? (i := 1104) (by decide +kernel)⟩
theorem lw_p39 : lw_okq (⟨"SoldWithItModel", "runs", "(I)V"⟩, 33) := ⟨⟨by decide +kernel, by decide +kernel⟩, List.mem_of_getElem? (i := 903) (by decide +kernel), List.mem_of_getElem? (i := 1107) (by decide +kernel), List.mem_of_getElem? (i := 1108) (by decide +kernel)⟩
theorem lw_p40 : lw_okq (⟨"SoldWithItModel", "begins", "()V"⟩, 33) := ⟨⟨by decide +kernel, by decide +kernel⟩, List.mem_of_getElem? (i := 903) (by decide +kernel), List.mem_of_getElem? (i := 1111) (by decide +kernel), List.mem_of_getElem? (i := 1112) (by decide +kernel)⟩
theorem lw_p41 : lw_okq (⟨"SoldWithItModel", "sells", "(II)I"⟩, 33) := ⟨⟨by decide +kernel, by decide +kernel⟩, List.mem_of_getElem? (i := 903) (by decide +kernel), List.mem_of_getElem? (i := 1115) (by decide +kernel), List.mem_of_getElem? (i := 1116) (by decide +kernel)⟩
theorem lw_p42 : lw_okq (⟨"SoldWithItModel", "keeperOf", "(II)I"⟩, 33) := ⟨⟨by decide +kernel, by decide +kernel⟩, List.mem_of_getElem? (i := 903) (by decide +kernel), List.mem_of_getElem? (i := 1126) (by decide +kernel), List.mem_of_getElem? (i := 1127) (by decide +kernel)⟩
theorem lw_p43 : lw_okq (⟨"SoldWithItModel", "soldOf", "(II)I"⟩, 33) := ⟨⟨by decide +kernel, by decide +kernel⟩, List.mem_of_getElem? (i := 903) (by decide +kernel), List.mem_of_getElem? (i := 1134) (by decide +kernel), List.mem_of_getElem? (i := 1135) (by decide +kernel)⟩
theorem lw_p44 : lw_okq (⟨"SoldWithItModel", "lengthOf", "(I)I"⟩, 33) := ⟨⟨by decide +kernel, by decide +kernel⟩, List.mem_of_getElem? (i := 903) (by decide +kernel), List.mem_of_getElem? (i := 1142) (by decide +kernel), List.mem_of_getElem? (i := 1143) (by decide +kernel)⟩
theorem lw_p45 : lw_okq (⟨"SoldWithItModel", "gainOf", "(I)I"⟩, 33) := ⟨⟨by decide +kernel, by decide +kernel⟩, List.mem_of_getElem? (i := 903) (by decide +kernel), List.mem_of_getElem? (i := 1159) (by decide +kernel), List.mem_of_getElem? (i := 1160) (by decide +kernel)⟩
theorem lw_p46 : lw_okq (⟨"SoldWithItModel", "gainBy", "(I)I"⟩, 33) := ⟨⟨by decide +kernel, by decide +kernel⟩, List.mem_of_getElem? (i := 903) (by decide +kernel), List.mem_of_getElem? (i := 1163) (by decide +kernel), List.mem_of_getElem? (i := 1164) (by decide +kernel)⟩
theorem lw_p47 : lw_okq (⟨"SoldWithItModel", "bestOf", "(II)I"⟩, 33) := ⟨⟨by decide +kernel, by decide +kernel⟩, List.mem_of_getElem? (i := 903) (by decide +kernel), List.mem_of_getElem? (i := 1171) (by decide +kernel), List.mem_of_getElem? (i := 1172) (by decide +kernel)⟩
def lw_privs_3 : List (MethodName × Nat) := [(⟨"SoldWithItModel", "reads", "()V"⟩, 33), (⟨"SoldWithItModel", "houseOf", "(II)I"⟩, 33), (⟨"SoldWithItModel", "isPerson", "(I)Z"⟩, 33), (⟨"SoldWithItModel", "personOf", "(II)I"⟩, 33), (⟨"SoldWithItModel", "saleMore", "(II)I"⟩, 33), (⟨"SoldWithItModel", "meets", "(I)I"⟩, 33), (⟨"SoldWithItModel", "lays", "(I)V"⟩, 33), (⟨"SoldWithItModel", "runs", "(I)V"⟩, 33), (⟨"SoldWithItModel", "begins", "()V"⟩, 33), (⟨"SoldWithItModel", "sells", "(II)I"⟩, 33), (⟨"SoldWithItModel", "keeperOf", "(II)I"⟩, 33), (⟨"SoldWithItModel", "soldOf", "(II)I"⟩, 33), (⟨"SoldWithItModel", "lengthOf", "(I)I"⟩, 33), (⟨"SoldWithItModel", "gainOf", "(I)I"⟩, 33), (⟨"SoldWithItModel", "gainBy", "(I)I"⟩, 33), (⟨"SoldWithItModel", "bestOf", "(II)I"⟩, 33)]
theorem lw_r3 : ∀ q ∈ lw_privs_3, lw_okq q := List.forall_mem_cons.mpr ⟨lw_p32, List.forall_mem_cons.mpr ⟨lw_p33, List.forall_mem_cons.mpr ⟨lw_p34, List.forall_mem_cons.mpr ⟨lw_p35, List.forall_mem_cons.mpr ⟨lw_p36, List.forall_mem_cons.mpr ⟨lw_p37, List.forall_mem_cons.mpr ⟨lw_p38, List.forall_mem_cons.mpr ⟨lw_p39, List.forall_mem_cons.mpr ⟨lw_p40, List.forall_mem_cons.mpr ⟨lw_p41, List.forall_mem_cons.mpr ⟨lw_p42, List.forall_mem_cons.mpr ⟨lw_p43, List.forall_mem_cons.mpr ⟨lw_p44, List.forall_mem_cons.mpr ⟨lw_p45, List.forall_mem_cons.mpr ⟨lw_p46, List.forall_mem_cons.mpr ⟨lw_p47, fun _ h => absurd h List.not_mem_nil⟩⟩⟩⟩⟩⟩⟩⟩⟩⟩⟩⟩⟩⟩⟩⟩
theorem lw_p48 : lw_okq (⟨"SoldWithItModel", "rows", "()I"⟩, 33) := ⟨⟨by decide +kernel, by decide +kernel⟩, List.mem_of_getElem? (i := 903) (by decide +kernel), List.mem_of_getElem? (i := 1176) (by decide +kernel), List.mem_of_getElem? (i := 1177) (by decide +kernel)⟩
theorem lw_p49 : lw_okq (⟨"SoldWithItModel", "places", "(I)V"⟩, 33) := ⟨⟨by decide +kernel, by decide +kernel⟩, List.mem_of_getElem? (i := 903) (by decide +kernel), List.mem_of_getElem? (i := 1180) (by decide +kernel), List.mem_of_getElem? (i := 1181) (by decide +kernel)⟩
theorem lw_p50 : lw_okq (⟨"SoldWithItModel", "restNow", "(I)I"⟩, 33) := ⟨⟨by decide +kernel, by decide +kernel⟩, List.mem_of_getElem? (i := 903) (by decide +kernel), List.mem_of_getElem? (i := 1188) (by decide +kernel), List.mem_of_getElem? (i := 1189) (by decide +kernel)⟩
theorem lw_p51 : lw_okq (⟨"SoldWithItModel", "restOf", "(I)I"⟩, 33) := ⟨⟨by decide +kernel, by decide +kernel⟩, List.mem_of_getElem? (i := 903) (by decide +kernel), List.mem_of_getElem? (i := 1192) (by decide +kernel), List.mem_of_getElem? (i := 1193) (by decide +kernel)⟩
theorem lw_p52 : lw_okq (⟨"SoldWithItModel", "outOf", "(I)I"⟩, 33) := ⟨⟨by decide +kernel, by decide +kernel⟩, List.mem_of_getElem? (i := 903) (by decide +kernel), List.mem_of_getElem? (i := 1201) (by decide +kernel), List.mem_of_getElem? (i := 1202) (by decide +kernel)⟩
theorem lw_p53 : lw_okq (⟨"SoldWithItModel", "isTold", "(I)Z"⟩, 33) := ⟨⟨by decide +kernel, by decide +kernel⟩, List.mem_of_getElem? (i := 903) (by decide +kernel), List.mem_of_getElem? (i := 1205) (by decide +kernel), List.mem_of_getElem? (i := 1206) (by decide +kernel)⟩
theorem lw_p54 : lw_okq (⟨"SoldWithItModel", "valueOf", "(II)I"⟩, 33) := ⟨⟨by decide +kernel, by decide +kernel⟩, List.mem_of_getElem? (i := 903) (by decide +kernel), List.mem_of_getElem? (i := 1213) (by decide +kernel), List.mem_of_getElem? (i := 1214) (by decide +kernel)⟩
theorem lw_p55 : lw_okq (⟨"SoldWithItModel", "isChange", "(II)Z"⟩, 33) := ⟨⟨by decide +kernel, by decide +kernel⟩, List.mem_of_getElem? (i := 903) (by decide +kernel), List.mem_of_getElem? (i := 1221) (by decide +kernel), List.mem_of_getElem? (i := 1222) (by decide +kernel)⟩
theorem lw_p56 : lw_okq (⟨"SoldWithItModel", "changesNow", "()I"⟩, 33) := ⟨⟨by decide +kernel, by decide +kernel⟩, List.mem_of_getElem? (i := 903) (by decide +kernel), List.mem_of_getElem? (i := 1229) (by decide +kernel), List.mem_of_getElem? (i := 1230) (by decide +kernel)⟩
theorem lw_p57 : lw_okq (⟨"SoldWithItModel", "shouldOf", "(I)I"⟩, 33) := ⟨⟨by decide +kernel, by decide +kernel⟩, List.mem_of_getElem? (i := 903) (by decide +kernel), List.mem_of_getElem? (i := 1237) (by decide +kernel), List.mem_of_getElem? (i := 1238) (by decide +kernel)⟩
theorem lw_p58 : lw_okq (⟨"SoldWithItModel", "stateNow", "()I"⟩, 33) := ⟨⟨by decide +kernel, by decide +kernel⟩, List.mem_of_getElem? (i := 903) (by decide +kernel), List.mem_of_getElem? (i := 1241) (by decide +kernel), List.mem_of_getElem? (i := 1242) (by decide +kernel)⟩
theorem lw_p59 : lw_okq (⟨"SoldWithItModel", "ownsBy", "(I)V"⟩, 33) := ⟨⟨by decide +kernel, by decide +kernel⟩, List.mem_of_getElem? (i := 903) (by decide +kernel), List.mem_of_getElem? (i := 1245) (by decide +kernel), List.mem_of_getElem? (i := 1246) (by decide +kernel)⟩
theorem lw_p60 : lw_okq (⟨"SoldWithItModel", "comeOf", "(II)I"⟩, 33) := ⟨⟨by decide +kernel, by decide +kernel⟩, List.mem_of_getElem? (i := 903) (by decide +kernel), List.mem_of_getElem? (i := 1253) (by decide +kernel), List.mem_of_getElem? (i := 1254) (by decide +kernel)⟩
theorem lw_p61 : lw_okq (⟨"SoldWithItModel", "inviteOf", "(II)I"⟩, 33) := ⟨⟨by decide +kernel, by decide +kernel⟩, List.mem_of_getElem? (i := 903) (by decide +kernel), List.mem_of_getElem? (i := 1261) (by decide +kernel), List.mem_of_getElem? (i := 1262) (by decide +kernel)⟩
theorem lw_p62 : lw_okq (⟨"SoldWithItModel", "waysNow", "()I"⟩, 33) := ⟨⟨by decide +kernel, by decide +kernel⟩, List.mem_of_getElem? (i := 903) (by decide +kernel), List.mem_of_getElem? (i := 1280) (by decide +kernel), List.mem_of_getElem? (i := 1281) (by decide +kernel)⟩
theorem lw_p63 : lw_okq (⟨"SoldWithItModel", "lacks", "(III)I"⟩, 33) := ⟨⟨by decide +kernel, by decide +kernel⟩, List.mem_of_getElem? (i := 903) (by decide +kernel), List.mem_of_getElem? (i := 1300) (by decide +kernel), List.mem_of_getElem? (i := 1301) (by decide +kernel)⟩
def lw_privs_4 : List (MethodName × Nat) := [(⟨"SoldWithItModel", "rows", "()I"⟩, 33), (⟨"SoldWithItModel", "places", "(I)V"⟩, 33), (⟨"SoldWithItModel", "restNow", "(I)I"⟩, 33), (⟨"SoldWithItModel", "restOf", "(I)I"⟩, 33), (⟨"SoldWithItModel", "outOf", "(I)I"⟩, 33), (⟨"SoldWithItModel", "isTold", "(I)Z"⟩, 33), (⟨"SoldWithItModel", "valueOf", "(II)I"⟩, 33), (⟨"SoldWithItModel", "isChange", "(II)Z"⟩, 33), (⟨"SoldWithItModel", "changesNow", "()I"⟩, 33), (⟨"SoldWithItModel", "shouldOf", "(I)I"⟩, 33), (⟨"SoldWithItModel", "stateNow", "()I"⟩, 33), (⟨"SoldWithItModel", "ownsBy", "(I)V"⟩, 33), (⟨"SoldWithItModel", "comeOf", "(II)I"⟩, 33), (⟨"SoldWithItModel", "inviteOf", "(II)I"⟩, 33), (⟨"SoldWithItModel", "waysNow", "()I"⟩, 33), (⟨"SoldWithItModel", "lacks", "(III)I"⟩, 33)]
theorem lw_r4 : ∀ q ∈ lw_privs_4, lw_okq q := List.forall_mem_cons.mpr ⟨lw_p48, List.forall_mem_cons.mpr ⟨lw_p49, List.forall_mem_cons.mpr ⟨lw_p50, List.forall_mem_cons.mpr ⟨lw_p51, List.forall_mem_cons.mpr ⟨lw_p52, List.forall_mem_cons.mpr ⟨lw_p53, List.forall_mem_cons.mpr ⟨lw_p54, List.forall_mem_cons.mpr ⟨lw_p55, List.forall_mem_cons.mpr ⟨lw_p56, List.forall_mem_cons.mpr ⟨lw_p57, List.forall_mem_cons.mpr ⟨lw_p58, List.forall_mem_cons.mpr ⟨lw_p59, List.forall_mem_cons.mpr ⟨lw_p60, List.forall_mem_cons.mpr ⟨lw_p61, List.forall_mem_cons.mpr ⟨lw_p62, List.forall_mem_cons.mpr ⟨lw_p63, fun _ h => absurd h List.not_mem_nil⟩⟩⟩⟩⟩⟩⟩⟩⟩⟩⟩⟩⟩⟩⟩⟩
theorem lw_p64 : lw_okq (⟨"SoldWithItModel", "keep", "(III)V"⟩, 33) := ⟨⟨by decide +kernel, by decide +kernel⟩, List.mem_of_getElem? (i := 903) (by decide +kernel), List.mem_of_getElem? (i := 1304) (by decide +kernel), List.mem_of_getElem? (i := 1305) (by decide +kernel)⟩
theorem lw_p65 : lw_okq (⟨"SoldWithItModel", "sumOf", "(I)I"⟩, 33) := ⟨⟨by decide +kernel, by decide +kernel⟩, List.mem_of_getElem? (i := 903) (by decide +kernel), List.mem_of_getElem? (i := 1325) (by decide +kernel), List.mem_of_getElem? (i := 1326) (by decide +kernel)⟩
def lw_privs_5 : List (MethodName × Nat) := [(⟨"SoldWithItModel", "keep", "(III)V"⟩, 33), (⟨"SoldWithItModel", "sumOf", "(I)I"⟩, 33)]
theorem lw_r5 : ∀ q ∈ lw_privs_5, lw_okq q := List.forall_mem_cons.mpr ⟨lw_p64, List.forall_mem_cons.mpr ⟨lw_p65, fun _ h => absurd h List.not_mem_nil⟩⟩
def lw_privs : List (MethodName × Nat) := lw_privs_1 ++ (lw_privs_2 ++ (lw_privs_3 ++ (lw_privs_4 ++ (lw_privs_5))))
def lw_tbl : List Cond := k2_sels lw_privs ++ tables_1
theorem lw_privs_ok : ∀ q ∈ lw_privs, lw_okq q := by
  show ∀ q ∈ lw_privs_1 ++ (lw_privs_2 ++ (lw_privs_3 ++ (lw_privs_4 ++ (lw_privs_5)))), lw_okq q
  exact List.forall_mem_append.mpr ⟨lw_r1, List.forall_mem_append.mpr ⟨lw_r2, List.forall_mem_append.mpr ⟨lw_r3, List.forall_mem_append.mpr ⟨lw_r4, lw_r5⟩⟩⟩⟩

def gtbl : List Cond := lw_tbl.filter goodWord
theorem goodIn_pl {big ws : List Cond} (ps : List Nat) (hp : ws = ps.filterMap (fun i => big[i]?)) : ∀ w ∈ ws, w ∈ big := by
  intro w hw
  rw [hp] at hw
  obtain ⟨i, -, hi⟩ := List.mem_filterMap.mp hw
  exact List.mem_of_getElem? hi
theorem gt_at {w : Cond} (i : Nat) (h : lw_tbl[i]? = some w) (hg : goodWord w = true) : w ∈ gtbl := List.mem_filter.mpr ⟨List.mem_of_getElem? h, hg⟩
theorem gt_pl {ws : List Cond} (ps : List Nat) (hp : ws = ps.filterMap (fun i => lw_tbl[i]?)) (hg : ws.all goodWord = true) : ∀ w ∈ ws, w ∈ gtbl := fun w hw => List.mem_filter.mpr ⟨goodIn_pl ps hp w hw, List.all_eq_true.mp hg w hw⟩
def nlk : List (String × Nat × MethodName × String) := [("SoldWithIt", 20, ⟨"SoldWithIt$Street", "<init>", "()V"⟩, "SoldWithIt"), ("SoldWithIt", 27, ⟨"SoldWithIt$Sales", "<init>", "()V"⟩, "SoldWithIt"), ("SoldWithIt", 34, ⟨"SoldWithIt$Stroke", "<init>", "()V"⟩, "SoldWithIt"), ("SoldWithIt", 41, ⟨"SoldWithIt$Tastes", "<init>", "()V"⟩, "SoldWithIt"), ("SoldWithIt", 48, ⟨"SoldWithIt$Rows", "<init>", "()V"⟩, "SoldWithIt"), ("SoldWithIt$Rows", 11, ⟨"SoldWithIt$Stroke", "<init>", "()V"⟩, "SoldWithIt"), ("SoldWithIt", 55, ⟨"SoldWithIt$Deeds", "<init>", "()V"⟩, "SoldWithIt"), ("SoldWithIt$Deeds", 11, ⟨"SoldWithIt$Stroke", "<init>", "()V"⟩, "SoldWithIt"), ("SoldWithIt", 62, ⟨"SoldWithIt$Facts", "<init>", "()V"⟩, "SoldWithIt"), ("SoldWithIt", 69, ⟨"SoldWithIt$Sheet", "<init>", "()V"⟩, "SoldWithIt")]
theorem nlk_in : ∀ q ∈ nlk, Cond.methodLinkNest q.1 q.2.1 q.2.2.1 q.2.2.2 ∈ lw_tbl := by
  have h : nlk.map (fun q => Cond.methodLinkNest q.1 q.2.1 q.2.2.1 q.2.2.2) = ([115, 167, 193, 229, 244, 249, 305, 310, 329, 350] : List Nat).filterMap (fun i => lw_tbl[i]?) := by decide +kernel
  intro q hq
  exact goodIn_pl _ h _ (List.mem_map.mpr ⟨q, hq, rfl⟩)
abbrev RX0 : String := "SoldWithIt$Deeds"
def TX0 : u_T := fun k => match k with
  | 0 => ("SoldWithIt$Deeds", "stroke", "LSoldWithIt$Stroke;", true)
  | 1 => ("SoldWithIt$Deeds", "fewest", "[S", false)
  | 2 => ("SoldWithIt$Deeds", "queue", "[S", false)
  | 3 => ("SoldWithIt$Deeds", "waiting", "I", false)
  | _ => ("SoldWithIt$Deeds", "filled", "Z", false)
def tyX0 : Nat → FieldType := fun k => match k with
  | 0 => .object "SoldWithIt$Stroke"
  | 1 => .array .short
  | 2 => .array .short
  | 3 => .int
  | _ => .boolean
theorem nmX0 : ∀ a, a < 5 → ∀ b, b < 5 → a ≠ b → (TX0 a).2.1 ≠ (TX0 b).2.1 := by decide +kernel
theorem tyX0_ok : ∀ k, k < 5 → parseFieldDescriptor (TX0 k).2.2.1 = some (tyX0 k) := by decide +kernel
theorem inX0 : ∀ w ∈ u_ws RX0 TX0 5, w ∈ gtbl := gt_pl [316, 318, 320, 322, 324] (by decide +kernel) (by decide +kernel)
abbrev RX1 : String := "SoldWithIt$Facts"
def TX1 : u_T := fun k => match k with
  | 0 => ("SoldWithIt$Facts", "size", "I", false)
  | 1 => ("SoldWithIt$Facts", "person", "[I", true)
  | _ => ("SoldWithIt$Facts", "keeper", "[I", true)
def tyX1 : Nat → FieldType := fun k => match k with
  | 0 => .int
  | 1 => .array .int
  | _ => .array .int
theorem nmX1 : ∀ a, a < 3 → ∀ b, b < 3 → a ≠ b → (TX1 a).2.1 ≠ (TX1 b).2.1 := by decide +kernel
theorem tyX1_ok : ∀ k, k < 3 → parseFieldDescriptor (TX1 k).2.2.1 = some (tyX1 k) := by decide +kernel
theorem inX1 : ∀ w ∈ u_ws RX1 TX1 3, w ∈ gtbl := gt_pl [340, 342, 344] (by decide +kernel) (by decide +kernel)
abbrev RX2 : String := "SoldWithIt$Rows"
def TX2 : u_T := fun k => match k with
  | 0 => ("SoldWithIt$Rows", "stroke", "LSoldWithIt$Stroke;", true)
  | 1 => ("SoldWithIt$Rows", "inside", "[I", true)
  | 2 => ("SoldWithIt$Rows", "at", "[I", true)
  | 3 => ("SoldWithIt$Rows", "stride", "[I", true)
  | 4 => ("SoldWithIt$Rows", "bestKnown", "[I", true)
  | 5 => ("SoldWithIt$Rows", "ends", "[J", false)
  | 6 => ("SoldWithIt$Rows", "people", "I", false)
  | 7 => ("SoldWithIt$Rows", "spots", "I", false)
  | 8 => ("SoldWithIt$Rows", "size", "I", false)
  | 9 => ("SoldWithIt$Rows", "filled", "Z", false)
  | 10 => ("SoldWithIt$Rows", "restKnown", "Z", false)
  | 11 => ("SoldWithIt$Rows", "waysKnown", "Z", false)
  | 12 => ("SoldWithIt$Rows", "rests", "I", false)
  | 13 => ("SoldWithIt$Rows", "firstRest", "I", false)
  | 14 => ("SoldWithIt$Rows", "ways", "I", false)
  | _ => ("SoldWithIt$Rows", "can", "[I", true)
def tyX2 : Nat → FieldType := fun k => match k with
  | 0 => .object "SoldWithIt$Stroke"
  | 1 => .array .int
  | 2 => .array .int
  | 3 => .array .int
  | 4 => .array .int
  | 5 => .array .long
  | 6 => .int
  | 7 => .int
  | 8 => .int
  | 9 => .boolean
  | 10 => .boolean
  | 11 => .boolean
  | 12 => .int
  | 13 => .int
  | 14 => .int
  | _ => .array .int
theorem nmX2 : ∀ a, a < 16 → ∀ b, b < 16 → a ≠ b → (TX2 a).2.1 ≠ (TX2 b).2.1 := by decide +kernel
theorem tyX2_ok : ∀ k, k < 16 → parseFieldDescriptor (TX2 k).2.2.1 = some (tyX2 k) := by decide +kernel
theorem inX2 : ∀ w ∈ u_ws RX2 TX2 16, w ∈ gtbl := gt_pl [270, 272, 274, 276, 278, 280, 282, 284, 286, 288, 290, 292, 294, 296, 298, 300] (by decide +kernel) (by decide +kernel)
abbrev RX3 : String := "SoldWithIt$Sales"
def TX3 : u_T := fun k => match k with
  | 0 => ("SoldWithIt$Sales", "law", "I", false)
  | 1 => ("SoldWithIt$Sales", "size", "I", false)
  | 2 => ("SoldWithIt$Sales", "house", "[I", true)
  | _ => ("SoldWithIt$Sales", "buyer", "[I", true)
def tyX3 : Nat → FieldType := fun k => match k with
  | 0 => .int
  | 1 => .int
  | 2 => .array .int
  | _ => .array .int
theorem nmX3 : ∀ a, a < 4 → ∀ b, b < 4 → a ≠ b → (TX3 a).2.1 ≠ (TX3 b).2.1 := by decide +kernel
theorem tyX3_ok : ∀ k, k < 4 → parseFieldDescriptor (TX3 k).2.2.1 = some (tyX3 k) := by decide +kernel
theorem inX3 : ∀ w ∈ u_ws RX3 TX3 4, w ∈ gtbl := gt_pl [182, 184, 186, 188] (by decide +kernel) (by decide +kernel)
abbrev RX4 : String := "SoldWithIt$Sheet"
def TX4 : u_T := fun k => match k with
  | 0 => ("SoldWithIt$Sheet", "form", "I", false)
  | 1 => ("SoldWithIt$Sheet", "size", "I", false)
  | _ => ("SoldWithIt$Sheet", "items", "[I", true)
def tyX4 : Nat → FieldType := fun k => match k with
  | 0 => .int
  | 1 => .int
  | _ => .array .int
theorem nmX4 : ∀ a, a < 3 → ∀ b, b < 3 → a ≠ b → (TX4 a).2.1 ≠ (TX4 b).2.1 := by decide +kernel
theorem tyX4_ok : ∀ k, k < 3 → parseFieldDescriptor (TX4 k).2.2.1 = some (tyX4 k) := by decide +kernel
theorem inX4 : ∀ w ∈ u_ws RX4 TX4 3, w ∈ gtbl := gt_pl [360, 362, 364] (by decide +kernel) (by decide +kernel)
abbrev RX5 : String := "SoldWithIt$Street"
def TX5 : u_T := fun k => match k with
  | 0 => ("SoldWithIt$Street", "houses", "I", false)
  | 1 => ("SoldWithIt$Street", "people", "I", false)
  | 2 => ("SoldWithIt$Street", "owner", "[I", true)
  | 3 => ("SoldWithIt$Street", "price", "[I", true)
  | 4 => ("SoldWithIt$Street", "owned", "[I", true)
  | 5 => ("SoldWithIt$Street", "kind", "[I", true)
  | 6 => ("SoldWithIt$Street", "spot", "[I", true)
  | _ => ("SoldWithIt$Street", "inside", "[I", true)
def tyX5 : Nat → FieldType := fun k => match k with
  | 0 => .int
  | 1 => .int
  | 2 => .array .int
  | 3 => .array .int
  | 4 => .array .int
  | 5 => .array .int
  | 6 => .array .int
  | _ => .array .int
theorem nmX5 : ∀ a, a < 8 → ∀ b, b < 8 → a ≠ b → (TX5 a).2.1 ≠ (TX5 b).2.1 := by decide +kernel
theorem tyX5_ok : ∀ k, k < 8 → parseFieldDescriptor (TX5 k).2.2.1 = some (tyX5 k) := by decide +kernel
theorem inX5 : ∀ w ∈ u_ws RX5 TX5 8, w ∈ gtbl := gt_pl [148, 150, 152, 154, 156, 158, 160, 162] (by decide +kernel) (by decide +kernel)
abbrev RX6 : String := "SoldWithIt$Stroke"
def TX6 : u_T := fun k => match k with
  | 0 => ("SoldWithIt$Stroke", "owner", "[I", true)
  | 1 => ("SoldWithIt$Stroke", "owns", "[I", true)
  | 2 => ("SoldWithIt$Stroke", "keeper", "[I", true)
  | 3 => ("SoldWithIt$Stroke", "times", "[I", true)
  | 4 => ("SoldWithIt$Stroke", "soldOnce", "I", false)
  | 5 => ("SoldWithIt$Stroke", "done", "I", false)
  | _ => ("SoldWithIt$Stroke", "latestLength", "I", false)
def tyX6 : Nat → FieldType := fun k => match k with
  | 0 => .array .int
  | 1 => .array .int
  | 2 => .array .int
  | 3 => .array .int
  | 4 => .int
  | 5 => .int
  | _ => .int
theorem nmX6 : ∀ a, a < 7 → ∀ b, b < 7 → a ≠ b → (TX6 a).2.1 ≠ (TX6 b).2.1 := by decide +kernel
theorem tyX6_ok : ∀ k, k < 7 → parseFieldDescriptor (TX6 k).2.2.1 = some (tyX6 k) := by decide +kernel
theorem inX6 : ∀ w ∈ u_ws RX6 TX6 7, w ∈ gtbl := gt_pl [212, 214, 216, 218, 220, 222, 224] (by decide +kernel) (by decide +kernel)
abbrev RX7 : String := "SoldWithIt$Tastes"
def TX7 : u_T := fun k => match k with
  | 0 => ("SoldWithIt$Tastes", "worth", "[I", true)
  | _ => ("SoldWithIt$Tastes", "liking", "[I", true)
def tyX7 : Nat → FieldType := fun k => match k with
  | 0 => .array .int
  | _ => .array .int
theorem nmX7 : ∀ a, a < 2 → ∀ b, b < 2 → a ≠ b → (TX7 a).2.1 ≠ (TX7 b).2.1 := by decide +kernel
theorem tyX7_ok : ∀ k, k < 2 → parseFieldDescriptor (TX7 k).2.2.1 = some (tyX7 k) := by decide +kernel
theorem inX7 : ∀ w ∈ u_ws RX7 TX7 2, w ∈ gtbl := gt_pl [237, 239] (by decide +kernel) (by decide +kernel)
abbrev RX8 : String := "SoldWithIt$Text"
def TX8 : u_T := fun k => match k with
  | 0 => ("SoldWithIt$Text", "bytes", "[I", true)
  | _ => ("SoldWithIt$Text", "size", "I", false)
def tyX8 : Nat → FieldType := fun k => match k with
  | 0 => .array .int
  | _ => .int
theorem nmX8 : ∀ a, a < 2 → ∀ b, b < 2 → a ≠ b → (TX8 a).2.1 ≠ (TX8 b).2.1 := by decide +kernel
theorem tyX8_ok : ∀ k, k < 2 → parseFieldDescriptor (TX8 k).2.2.1 = some (tyX8 k) := by decide +kernel
theorem inX8 : ∀ w ∈ u_ws RX8 TX8 2, w ∈ gtbl := gt_pl [107, 109] (by decide +kernel) (by decide +kernel)
abbrev RX9 : String := "SoldWithIt"
def TX9 : u_T := fun k => match k with
  | 0 => ("SoldWithIt", "texts", "[LSoldWithIt$Text;", true)
  | 1 => ("SoldWithIt", "street", "LSoldWithIt$Street;", true)
  | 2 => ("SoldWithIt", "sales", "LSoldWithIt$Sales;", true)
  | 3 => ("SoldWithIt", "stroke", "LSoldWithIt$Stroke;", true)
  | 4 => ("SoldWithIt", "tastes", "LSoldWithIt$Tastes;", true)
  | 5 => ("SoldWithIt", "rows", "LSoldWithIt$Rows;", true)
  | 6 => ("SoldWithIt", "deeds", "LSoldWithIt$Deeds;", true)
  | 7 => ("SoldWithIt", "facts", "LSoldWithIt$Facts;", true)
  | 8 => ("SoldWithIt", "sheets", "[LSoldWithIt$Sheet;", true)
  | 9 => ("SoldWithIt", "strokeStands", "Z", false)
  | _ => ("SoldWithIt", "latestFinding", "I", false)
def tyX9 : Nat → FieldType := fun k => match k with
  | 0 => .array (.object "SoldWithIt$Text")
  | 1 => .object "SoldWithIt$Street"
  | 2 => .object "SoldWithIt$Sales"
  | 3 => .object "SoldWithIt$Stroke"
  | 4 => .object "SoldWithIt$Tastes"
  | 5 => .object "SoldWithIt$Rows"
  | 6 => .object "SoldWithIt$Deeds"
  | 7 => .object "SoldWithIt$Facts"
  | 8 => .array (.object "SoldWithIt$Sheet")
  | 9 => .boolean
  | _ => .int
theorem nmX9 : ∀ a, a < 11 → ∀ b, b < 11 → a ≠ b → (TX9 a).2.1 ≠ (TX9 b).2.1 := by decide +kernel
theorem tyX9_ok : ∀ k, k < 11 → parseFieldDescriptor (TX9 k).2.2.1 = some (tyX9 k) := by decide +kernel
theorem inX9 : ∀ w ∈ u_ws RX9 TX9 11, w ∈ gtbl := gt_pl [378, 380, 382, 384, 386, 388, 390, 392, 394, 396, 398] (by decide +kernel) (by decide +kernel)
abbrev RX10 : String := "SoldWithItModel"
def TX10 : u_T := fun k => match k with
  | 0 => ("SoldWithItModel", "typed", "[I", true)
  | 1 => ("SoldWithItModel", "texts", "[I", true)
  | 2 => ("SoldWithItModel", "houses", "I", false)
  | 3 => ("SoldWithItModel", "ownerOf", "[I", true)
  | 4 => ("SoldWithItModel", "priceOf", "[I", true)
  | 5 => ("SoldWithItModel", "people", "I", false)
  | 6 => ("SoldWithItModel", "kindOf", "[I", true)
  | 7 => ("SoldWithItModel", "placeOf", "[I", true)
  | 8 => ("SoldWithItModel", "laws", "[I", true)
  | 9 => ("SoldWithItModel", "sales", "I", false)
  | 10 => ("SoldWithItModel", "saleHouse", "[I", true)
  | 11 => ("SoldWithItModel", "saleBuyer", "[I", true)
  | 12 => ("SoldWithItModel", "where", "[I", true)
  | 13 => ("SoldWithItModel", "owns", "[I", true)
  | 14 => ("SoldWithItModel", "keeps", "[I", true)
  | 15 => ("SoldWithItModel", "soldTimes", "[I", true)
  | 16 => ("SoldWithItModel", "list", "[I", true)
  | 17 => ("SoldWithItModel", "lastLength", "I", false)
  | 18 => ("SoldWithItModel", "worths", "[I", true)
  | 19 => ("SoldWithItModel", "likings", "[I", true)
  | 20 => ("SoldWithItModel", "likes", "[I", true)
  | 21 => ("SoldWithItModel", "afar", "[I", true)
  | 22 => ("SoldWithItModel", "waiting", "[I", true)
  | 23 => ("SoldWithItModel", "facts", "I", false)
  | 24 => ("SoldWithItModel", "factWho", "[I", true)
  | 25 => ("SoldWithItModel", "factKeeper", "[I", true)
  | 26 => ("SoldWithItModel", "been", "[I", true)
  | 27 => ("SoldWithItModel", "isThere", "[Z", true)
  | 28 => ("SoldWithItModel", "forms", "[I", true)
  | 29 => ("SoldWithItModel", "sizes", "[I", true)
  | 30 => ("SoldWithItModel", "items", "[I", true)
  | 31 => ("SoldWithItModel", "moved", "[I", true)
  | _ => ("SoldWithItModel", "finding", "I", false)
def tyX10 : Nat → FieldType := fun k => match k with
  | 0 => .array .int
  | 1 => .array .int
  | 2 => .int
  | 3 => .array .int
  | 4 => .array .int
  | 5 => .int
  | 6 => .array .int
  | 7 => .array .int
  | 8 => .array .int
  | 9 => .int
  | 10 => .array .int
  | 11 => .array .int
  | 12 => .array .int
  | 13 => .array .int
  | 14 => .array .int
  | 15 => .array .int
  | 16 => .array .int
  | 17 => .int
  | 18 => .array .int
  | 19 => .array .int
  | 20 => .array .int
  | 21 => .array .int
  | 22 => .array .int
  | 23 => .int
  | 24 => .array .int
  | 25 => .array .int
  | 26 => .array .int
  | 27 => .array .boolean
  | 28 => .array .int
  | 29 => .array .int
  | 30 => .array .int
  | 31 => .array .int
  | _ => .int
theorem nmX10 : ∀ a, a < 33 → ∀ b, b < 33 → a ≠ b → (TX10 a).2.1 ≠ (TX10 b).2.1 := by decide +kernel
theorem tyX10_ok : ∀ k, k < 33 → parseFieldDescriptor (TX10 k).2.2.1 = some (tyX10 k) := by decide +kernel
theorem inX10 : ∀ w ∈ u_ws RX10 TX10 33, w ∈ gtbl := gt_pl [1007, 1009, 1011, 1013, 1015, 1017, 1019, 1021, 1023, 1025, 1027, 1029, 1031, 1033, 1035, 1037, 1039, 1041, 1043, 1045, 1047, 1049, 1051, 1053, 1055, 1057, 1059, 1061, 1063, 1065, 1067, 1069, 1071] (by decide +kernel) (by decide +kernel)
abbrev kls : List vw_C := [(RX0, TX0, 5), (RX1, TX1, 3), (RX2, TX2, 16), (RX3, TX3, 4), (RX4, TX4, 3), (RX5, TX5, 8), (RX6, TX6, 7), (RX7, TX7, 2), (RX8, TX8, 2), (RX9, TX9, 11), (RX10, TX10, 33)]
/-- a method: name, bytes, locals, what it returns, its room -/
abbrev MI : Type := MethodName × ByteArray × Nat × Option FieldType × Room
abbrev mX0_init : MI := (⟨"SoldWithIt$Deeds", "<init>", "()V"⟩, prog_2_method_1_code, 1, none, { frames := 2, cells := 5, slots := 39, locals := 40 })
abbrev mX0_withOwner : MI := (⟨"SoldWithIt$Deeds", "withOwner", "(III)I"⟩, prog_2_method_2_code, 4, (some .int), { frames := 0, cells := 0, slots := 0, locals := 0 })
abbrev mX0_forgetAll : MI := (⟨"SoldWithIt$Deeds", "forgetAll", "()V"⟩, prog_2_method_3_code, 1, none, { frames := 0, cells := 0, slots := 0, locals := 0 })
abbrev mX0_fewestTo : MI := (⟨"SoldWithIt$Deeds", "fewestTo", "(I)I"⟩, prog_2_method_4_code, 2, (some .int), { frames := 0, cells := 0, slots := 0, locals := 0 })
abbrev mX0_fill : MI := (⟨"SoldWithIt$Deeds", "fill", "(LSoldWithIt$Street;I)V"⟩, prog_2_method_5_code, 5, none, { frames := 3, cells := 2, slots := 8192, locals := 81 })
abbrev mX0_reach : MI := (⟨"SoldWithIt$Deeds", "reach", "(II)V"⟩, prog_2_method_6_code, 3, none, { frames := 0, cells := 0, slots := 0, locals := 0 })
abbrev mX0_sellFrom : MI := (⟨"SoldWithIt$Deeds", "sellFrom", "(ILSoldWithIt$Street;I)V"⟩, prog_2_method_7_code, 7, none, { frames := 2, cells := 0, slots := 0, locals := 55 })
abbrev mX0_handedOver : MI := (⟨"SoldWithIt$Deeds", "handedOver", "(III)I"⟩, prog_2_method_8_code, 5, (some .int), { frames := 1, cells := 0, slots := 0, locals := 23 })
abbrev mX1_init : MI := (⟨"SoldWithIt$Facts", "<init>", "()V"⟩, prog_3_method_1_code, 1, none, { frames := 1, cells := 2, slots := 16, locals := 20 })
abbrev mX1_takes : MI := (⟨"SoldWithIt$Facts", "takes", "(II)Z"⟩, prog_3_method_2_code, 3, (some .boolean), { frames := 0, cells := 0, slots := 0, locals := 0 })
abbrev mX2_init : MI := (⟨"SoldWithIt$Rows", "<init>", "()V"⟩, prog_4_method_1_code, 1, none, { frames := 2, cells := 10, slots := 64, locals := 40 })
abbrev mX2_forgetAll : MI := (⟨"SoldWithIt$Rows", "forgetAll", "()V"⟩, prog_4_method_2_code, 1, none, { frames := 2, cells := 0, slots := 0, locals := 43 })
abbrev mX2_forgetBest : MI := (⟨"SoldWithIt$Rows", "forgetBest", "()V"⟩, prog_4_method_3_code, 1, none, { frames := 1, cells := 0, slots := 0, locals := 23 })
abbrev mX2_forgetRest : MI := (⟨"SoldWithIt$Rows", "forgetRest", "()V"⟩, prog_4_method_4_code, 1, none, { frames := 0, cells := 0, slots := 0, locals := 0 })
abbrev mX2_forgetWays : MI := (⟨"SoldWithIt$Rows", "forgetWays", "()V"⟩, prog_4_method_5_code, 1, none, { frames := 0, cells := 0, slots := 0, locals := 0 })
abbrev mX2_fill : MI := (⟨"SoldWithIt$Rows", "fill", "(LSoldWithIt$Street;LSoldWithIt$Sales;)V"⟩, prog_4_method_6_code, 5, none, { frames := 3, cells := 1, slots := 6561, locals := 81 })
abbrev mX2_toFirst : MI := (⟨"SoldWithIt$Rows", "toFirst", "(LSoldWithIt$Street;)V"⟩, prog_4_method_7_code, 3, none, { frames := 1, cells := 0, slots := 0, locals := 23 })
abbrev mX2_toNext : MI := (⟨"SoldWithIt$Rows", "toNext", "()V"⟩, prog_4_method_8_code, 2, none, { frames := 0, cells := 0, slots := 0, locals := 0 })
abbrev mX2_endOf : MI := (⟨"SoldWithIt$Rows", "endOf", "(LSoldWithIt$Street;)J"⟩, prog_4_method_9_code, 5, (some .long), { frames := 0, cells := 0, slots := 0, locals := 0 })
abbrev mX2_endAt : MI := (⟨"SoldWithIt$Rows", "endAt", "(I)J"⟩, prog_4_method_10_code, 2, (some .long), { frames := 0, cells := 0, slots := 0, locals := 0 })
abbrev mX2_keeperBy : MI := (⟨"SoldWithIt$Rows", "keeperBy", "(JI)I"⟩, prog_4_method_11_code, 3, (some .int), { frames := 0, cells := 0, slots := 0, locals := 0 })
abbrev mX2_spotIn : MI := (⟨"SoldWithIt$Rows", "spotIn", "(II)I"⟩, prog_4_method_12_code, 3, (some .int), { frames := 0, cells := 0, slots := 0, locals := 0 })
abbrev mX2_spotBit : MI := (⟨"SoldWithIt$Rows", "spotBit", "(I)I"⟩, prog_4_method_13_code, 1, (some .int), { frames := 0, cells := 0, slots := 0, locals := 0 })
abbrev mX2_gainBy : MI := (⟨"SoldWithIt$Rows", "gainBy", "(IILSoldWithIt$Tastes;)I"⟩, prog_4_method_14_code, 8, (some .int), { frames := 1, cells := 0, slots := 0, locals := 22 })
abbrev mX2_bestRow : MI := (⟨"SoldWithIt$Rows", "bestRow", "(ILSoldWithIt$Tastes;)I"⟩, prog_4_method_15_code, 7, (some .int), { frames := 2, cells := 0, slots := 0, locals := 49 })
abbrev mX2_findRest : MI := (⟨"SoldWithIt$Rows", "findRest", "(LSoldWithIt$Street;LSoldWithIt$Tastes;)V"⟩, prog_4_method_16_code, 4, none, { frames := 3, cells := 0, slots := 0, locals := 75 })
abbrev mX2_allRest : MI := (⟨"SoldWithIt$Rows", "allRest", "(ILSoldWithIt$Street;LSoldWithIt$Tastes;)Z"⟩, prog_4_method_17_code, 6, (some .boolean), { frames := 2, cells := 0, slots := 0, locals := 50 })
abbrev mX2_wouldWalk : MI := (⟨"SoldWithIt$Rows", "wouldWalk", "(IILSoldWithIt$Tastes;)Z"⟩, prog_4_method_18_code, 9, (some .boolean), { frames := 1, cells := 0, slots := 0, locals := 22 })
abbrev mX2_findWays : MI := (⟨"SoldWithIt$Rows", "findWays", "(LSoldWithIt$Facts;)V"⟩, prog_4_method_19_code, 4, none, { frames := 2, cells := 0, slots := 0, locals := 47 })
abbrev mX2_allSo : MI := (⟨"SoldWithIt$Rows", "allSo", "(JLSoldWithIt$Facts;)Z"⟩, prog_4_method_20_code, 6, (some .boolean), { frames := 1, cells := 0, slots := 0, locals := 22 })
abbrev mX3_init : MI := (⟨"SoldWithIt$Sales", "<init>", "()V"⟩, prog_5_method_1_code, 1, none, { frames := 1, cells := 2, slots := 24, locals := 20 })
abbrev mX3_takes : MI := (⟨"SoldWithIt$Sales", "takes", "(II)Z"⟩, prog_5_method_2_code, 3, (some .boolean), { frames := 0, cells := 0, slots := 0, locals := 0 })
abbrev mX3_toldHouses : MI := (⟨"SoldWithIt$Sales", "toldHouses", "()I"⟩, prog_5_method_3_code, 3, (some .int), { frames := 0, cells := 0, slots := 0, locals := 0 })
abbrev mX4_init : MI := (⟨"SoldWithIt$Sheet", "<init>", "()V"⟩, prog_6_method_1_code, 1, none, { frames := 1, cells := 1, slots := 48, locals := 20 })
abbrev mX4_isLost : MI := (⟨"SoldWithIt$Sheet", "isLost", "()Z"⟩, prog_6_method_2_code, 1, (some .boolean), { frames := 0, cells := 0, slots := 0, locals := 0 })
abbrev mX4_renew : MI := (⟨"SoldWithIt$Sheet", "renew", "(II)V"⟩, prog_6_method_3_code, 3, none, { frames := 1, cells := 0, slots := 0, locals := 23 })
abbrev mX4_findingAt : MI := (⟨"SoldWithIt$Sheet", "findingAt", "(II)I"⟩, prog_6_method_4_code, 3, (some .int), { frames := 1, cells := 0, slots := 0, locals := 20 })
abbrev mX4_holds : MI := (⟨"SoldWithIt$Sheet", "holds", "(II)Z"⟩, prog_6_method_5_code, 3, (some .boolean), { frames := 0, cells := 0, slots := 0, locals := 0 })
abbrev mX4_store : MI := (⟨"SoldWithIt$Sheet", "store", "(II)V"⟩, prog_6_method_6_code, 3, none, { frames := 0, cells := 0, slots := 0, locals := 0 })
abbrev mX5_init : MI := (⟨"SoldWithIt$Street", "<init>", "()V"⟩, prog_7_method_1_code, 1, none, { frames := 1, cells := 6, slots := 49, locals := 20 })
abbrev mX5_wrongHouse : MI := (⟨"SoldWithIt$Street", "wrongHouse", "(LSoldWithIt$Text;)I"⟩, prog_7_method_2_code, 2, (some .int), { frames := 1, cells := 0, slots := 0, locals := 21 })
abbrev mX5_wrongPerson : MI := (⟨"SoldWithIt$Street", "wrongPerson", "(LSoldWithIt$Text;)I"⟩, prog_7_method_3_code, 2, (some .int), { frames := 8, cells := 0, slots := 0, locals := 180 })
abbrev mX5_fitsHouse : MI := (⟨"SoldWithIt$Street", "fitsHouse", "(II)Z"⟩, prog_7_method_4_code, 2, (some .boolean), { frames := 0, cells := 0, slots := 0, locals := 0 })
abbrev mX5_fitsPerson : MI := (⟨"SoldWithIt$Street", "fitsPerson", "(II)Z"⟩, prog_7_method_5_code, 2, (some .boolean), { frames := 7, cells := 0, slots := 0, locals := 159 })
abbrev mX5_tell : MI := (⟨"SoldWithIt$Street", "tell", "(LSoldWithIt$Text;LSoldWithIt$Text;)V"⟩, prog_7_method_6_code, 4, none, { frames := 9, cells := 0, slots := 0, locals := 201 })
abbrev mX5_spotOf : MI := (⟨"SoldWithIt$Street", "spotOf", "(I)I"⟩, prog_7_method_7_code, 3, (some .int), { frames := 0, cells := 0, slots := 0, locals := 0 })
abbrev mX6_init : MI := (⟨"SoldWithIt$Stroke", "<init>", "()V"⟩, prog_8_method_1_code, 1, none, { frames := 1, cells := 4, slots := 32, locals := 20 })
abbrev mX6_begin : MI := (⟨"SoldWithIt$Stroke", "begin", "(LSoldWithIt$Street;)V"⟩, prog_8_method_2_code, 2, none, { frames := 1, cells := 0, slots := 0, locals := 30 })
abbrev mX6_next : MI := (⟨"SoldWithIt$Stroke", "next", "(LSoldWithIt$Street;[ILSoldWithIt$Sales;)V"⟩, prog_8_method_3_code, 7, none, { frames := 2, cells := 0, slots := 0, locals := 55 })
abbrev mX6_goneWith : MI := (⟨"SoldWithIt$Stroke", "goneWith", "(II[II)I"⟩, prog_8_method_4_code, 13, (some .int), { frames := 1, cells := 0, slots := 0, locals := 23 })
abbrev mX6_ownedBy : MI := (⟨"SoldWithIt$Stroke", "ownedBy", "(I)I"⟩, prog_8_method_5_code, 4, (some .int), { frames := 0, cells := 0, slots := 0, locals := 0 })
abbrev mX6_handOver : MI := (⟨"SoldWithIt$Stroke", "handOver", "(II)V"⟩, prog_8_method_6_code, 4, none, { frames := 1, cells := 0, slots := 0, locals := 20 })
abbrev mX6_keep : MI := (⟨"SoldWithIt$Stroke", "keep", "(II)V"⟩, prog_8_method_7_code, 4, none, { frames := 0, cells := 0, slots := 0, locals := 0 })
abbrev mX7_init : MI := (⟨"SoldWithIt$Tastes", "<init>", "()V"⟩, prog_9_method_1_code, 1, none, { frames := 1, cells := 2, slots := 128, locals := 20 })
abbrev mX7_swap : MI := (⟨"SoldWithIt$Tastes", "swap", "([IIII)I"⟩, prog_9_method_2_code, 5, (some .int), { frames := 0, cells := 0, slots := 0, locals := 0 })
abbrev mX7_worthOf : MI := (⟨"SoldWithIt$Tastes", "worthOf", "(II)I"⟩, prog_9_method_3_code, 3, (some .int), { frames := 0, cells := 0, slots := 0, locals := 0 })
abbrev mX7_likingOf : MI := (⟨"SoldWithIt$Tastes", "likingOf", "(II)I"⟩, prog_9_method_4_code, 3, (some .int), { frames := 0, cells := 0, slots := 0, locals := 0 })
abbrev mX8_init : MI := (⟨"SoldWithIt$Text", "<init>", "(I)V"⟩, prog_10_method_1_code, 2, none, { frames := 1, cells := 1, slots := 30, locals := 20 })
abbrev mX8_takes : MI := (⟨"SoldWithIt$Text", "takes", "(I)Z"⟩, prog_10_method_2_code, 2, (some .boolean), { frames := 0, cells := 0, slots := 0, locals := 0 })
abbrev mX9_init : MI := (⟨"SoldWithIt", "<init>", "()V"⟩, prog_1_method_1_code, 1, none, { frames := 3, cells := 52, slots := 671, locals := 60 })
abbrev mX9_type : MI := (⟨"SoldWithIt", "type", "(II)I"⟩, prog_1_method_2_code, 3, (some .int), { frames := 11, cells := 0, slots := 0, locals := 244 })
abbrev mX9_wipe : MI := (⟨"SoldWithIt", "wipe", "(I)I"⟩, prog_1_method_3_code, 3, (some .int), { frames := 11, cells := 0, slots := 0, locals := 244 })
abbrev mX9_fault : MI := (⟨"SoldWithIt", "fault", "(I)I"⟩, prog_1_method_4_code, 2, (some .int), { frames := 9, cells := 0, slots := 0, locals := 201 })
abbrev mX9_house : MI := (⟨"SoldWithIt", "house", "(II)I"⟩, prog_1_method_5_code, 3, (some .int), { frames := 1, cells := 0, slots := 0, locals := 21 })
abbrev mX9_person : MI := (⟨"SoldWithIt", "person", "(II)I"⟩, prog_1_method_6_code, 3, (some .int), { frames := 1, cells := 0, slots := 0, locals := 21 })
abbrev mX9_law : MI := (⟨"SoldWithIt", "law", "(II)I"⟩, prog_1_method_7_code, 5, (some .int), { frames := 4, cells := 0, slots := 0, locals := 83 })
abbrev mX9_sale : MI := (⟨"SoldWithIt", "sale", "(II)I"⟩, prog_1_method_8_code, 3, (some .int), { frames := 4, cells := 0, slots := 0, locals := 83 })
abbrev mX9_read : MI := (⟨"SoldWithIt", "read", "(I)I"⟩, prog_1_method_9_code, 5, (some .int), { frames := 5, cells := 0, slots := 0, locals := 105 })
abbrev mX9_undo : MI := (⟨"SoldWithIt", "undo", "()I"⟩, prog_1_method_10_code, 1, (some .int), { frames := 4, cells := 0, slots := 0, locals := 83 })
abbrev mX9_whose : MI := (⟨"SoldWithIt", "whose", "(II)I"⟩, prog_1_method_11_code, 3, (some .int), { frames := 4, cells := 0, slots := 0, locals := 103 })
abbrev mX9_keeper : MI := (⟨"SoldWithIt", "keeper", "(II)I"⟩, prog_1_method_12_code, 3, (some .int), { frames := 4, cells := 0, slots := 0, locals := 103 })
abbrev mX9_sold : MI := (⟨"SoldWithIt", "sold", "(II)I"⟩, prog_1_method_13_code, 3, (some .int), { frames := 4, cells := 0, slots := 0, locals := 103 })
abbrev mX9_length : MI := (⟨"SoldWithIt", "length", "(I)I"⟩, prog_1_method_14_code, 2, (some .int), { frames := 4, cells := 0, slots := 0, locals := 103 })
abbrev mX9_worth : MI := (⟨"SoldWithIt", "worth", "(III)I"⟩, prog_1_method_15_code, 4, (some .int), { frames := 2, cells := 0, slots := 0, locals := 43 })
abbrev mX9_like : MI := (⟨"SoldWithIt", "like", "(III)I"⟩, prog_1_method_16_code, 4, (some .int), { frames := 2, cells := 0, slots := 0, locals := 42 })
abbrev mX9_gain : MI := (⟨"SoldWithIt", "gain", "(I)I"⟩, prog_1_method_17_code, 5, (some .int), { frames := 4, cells := 0, slots := 0, locals := 103 })
abbrev mX9_best : MI := (⟨"SoldWithIt", "best", "(II)I"⟩, prog_1_method_18_code, 4, (some .int), { frames := 4, cells := 1, slots := 6561, locals := 105 })
abbrev mX9_rest : MI := (⟨"SoldWithIt", "rest", "(I)I"⟩, prog_1_method_19_code, 2, (some .int), { frames := 4, cells := 1, slots := 6561, locals := 105 })
abbrev mX9_out : MI := (⟨"SoldWithIt", "out", "(I)I"⟩, prog_1_method_20_code, 6, (some .int), { frames := 1, cells := 0, slots := 0, locals := 22 })
abbrev mX9_value : MI := (⟨"SoldWithIt", "value", "(II)I"⟩, prog_1_method_21_code, 3, (some .int), { frames := 2, cells := 0, slots := 0, locals := 46 })
abbrev mX9_change : MI := (⟨"SoldWithIt", "change", "(II)I"⟩, prog_1_method_22_code, 6, (some .int), { frames := 2, cells := 0, slots := 0, locals := 46 })
abbrev mX9_changes : MI := (⟨"SoldWithIt", "changes", "()I"⟩, prog_1_method_23_code, 4, (some .int), { frames := 3, cells := 0, slots := 0, locals := 71 })
abbrev mX9_should : MI := (⟨"SoldWithIt", "should", "(I)I"⟩, prog_1_method_24_code, 5, (some .int), { frames := 4, cells := 2, slots := 8192, locals := 105 })
abbrev mX9_come : MI := (⟨"SoldWithIt", "come", "(II)I"⟩, prog_1_method_25_code, 3, (some .int), { frames := 3, cells := 0, slots := 0, locals := 71 })
abbrev mX9_invite : MI := (⟨"SoldWithIt", "invite", "(II)I"⟩, prog_1_method_26_code, 8, (some .int), { frames := 3, cells := 0, slots := 0, locals := 71 })
abbrev mX9_fact : MI := (⟨"SoldWithIt", "fact", "(II)I"⟩, prog_1_method_27_code, 3, (some .int), { frames := 1, cells := 0, slots := 0, locals := 22 })
abbrev mX9_forget : MI := (⟨"SoldWithIt", "forget", "()I"⟩, prog_1_method_28_code, 2, (some .int), { frames := 1, cells := 0, slots := 0, locals := 20 })
abbrev mX9_were : MI := (⟨"SoldWithIt", "were", "(I)I"⟩, prog_1_method_29_code, 2, (some .int), { frames := 4, cells := 1, slots := 6561, locals := 105 })
abbrev mX9_bed : MI := (⟨"SoldWithIt", "bed", "()I"⟩, prog_1_method_30_code, 3, (some .int), { frames := 4, cells := 1, slots := 6561, locals := 105 })
abbrev mX9_sheet : MI := (⟨"SoldWithIt", "sheet", "(III)I"⟩, prog_1_method_31_code, 4, (some .int), { frames := 2, cells := 0, slots := 0, locals := 45 })
abbrev mX9_lose : MI := (⟨"SoldWithIt", "lose", "(I)I"⟩, prog_1_method_32_code, 2, (some .int), { frames := 1, cells := 0, slots := 0, locals := 21 })
abbrev mX9_put : MI := (⟨"SoldWithIt", "put", "(IIII)I"⟩, prog_1_method_33_code, 6, (some .int), { frames := 2, cells := 0, slots := 0, locals := 42 })
abbrev mX9_get : MI := (⟨"SoldWithIt", "get", "(III)I"⟩, prog_1_method_34_code, 5, (some .int), { frames := 2, cells := 0, slots := 0, locals := 42 })
abbrev mX9_copy : MI := (⟨"SoldWithIt", "copy", "(IIIII)I"⟩, prog_1_method_35_code, 8, (some .int), { frames := 1, cells := 0, slots := 0, locals := 30 })
abbrev mX9_write : MI := (⟨"SoldWithIt", "write", "(I)I"⟩, prog_1_method_36_code, 6, (some .int), { frames := 4, cells := 0, slots := 0, locals := 103 })
abbrev mX9_count : MI := (⟨"SoldWithIt", "count", "(I)I"⟩, prog_1_method_37_code, 2, (some .int), { frames := 5, cells := 0, slots := 0, locals := 126 })
abbrev mX9_digest : MI := (⟨"SoldWithIt", "digest", "()J"⟩, prog_1_method_38_code, 4, (some .long), { frames := 10, cells := 0, slots := 0, locals := 222 })
abbrev mX9_withHouse : MI := (⟨"SoldWithIt", "withHouse", "(JI)J"⟩, prog_1_method_39_code, 7, (some .long), { frames := 5, cells := 0, slots := 0, locals := 125 })
abbrev mX9_withPerson : MI := (⟨"SoldWithIt", "withPerson", "(JI)J"⟩, prog_1_method_40_code, 7, (some .long), { frames := 5, cells := 0, slots := 0, locals := 127 })
abbrev mX9_retell : MI := (⟨"SoldWithIt", "retell", "()V"⟩, prog_1_method_41_code, 1, none, { frames := 10, cells := 0, slots := 0, locals := 224 })
abbrev mX9_recount : MI := (⟨"SoldWithIt", "recount", "()V"⟩, prog_1_method_42_code, 1, none, { frames := 3, cells := 0, slots := 0, locals := 63 })
abbrev mX9_behind : MI := (⟨"SoldWithIt", "behind", "(I)LSoldWithIt$Stroke;"⟩, prog_1_method_43_code, 3, (some (.object "SoldWithIt$Stroke")), { frames := 3, cells := 0, slots := 0, locals := 81 })
abbrev mX9_valueTo : MI := (⟨"SoldWithIt", "valueTo", "(II)I"⟩, prog_1_method_44_code, 5, (some .int), { frames := 1, cells := 0, slots := 0, locals := 22 })
abbrev mX9_comers : MI := (⟨"SoldWithIt", "comers", "(II)I"⟩, prog_1_method_45_code, 5, (some .int), { frames := 2, cells := 0, slots := 0, locals := 47 })
abbrev mX9_likingAt : MI := (⟨"SoldWithIt", "likingAt", "(III)I"⟩, prog_1_method_46_code, 6, (some .int), { frames := 1, cells := 0, slots := 0, locals := 22 })
abbrev mX9_allSold : MI := (⟨"SoldWithIt", "allSold", "()I"⟩, prog_1_method_47_code, 4, (some .int), { frames := 4, cells := 0, slots := 0, locals := 103 })
abbrev mX9_lockedIn : MI := (⟨"SoldWithIt", "lockedIn", "()I"⟩, prog_1_method_48_code, 3, (some .int), { frames := 0, cells := 0, slots := 0, locals := 0 })
abbrev mX9_found : MI := (⟨"SoldWithIt", "found", "(I)I"⟩, prog_1_method_49_code, 2, (some .int), { frames := 0, cells := 0, slots := 0, locals := 0 })
abbrev mX9_everybody : MI := (⟨"SoldWithIt", "everybody", "()I"⟩, prog_1_method_50_code, 1, (some .int), { frames := 0, cells := 0, slots := 0, locals := 0 })
abbrev mX9_noHouse : MI := (⟨"SoldWithIt", "noHouse", "(I)Z"⟩, prog_1_method_51_code, 2, (some .boolean), { frames := 0, cells := 0, slots := 0, locals := 0 })
abbrev mX9_nobody : MI := (⟨"SoldWithIt", "nobody", "(I)Z"⟩, prog_1_method_52_code, 2, (some .boolean), { frames := 0, cells := 0, slots := 0, locals := 0 })
abbrev mX9_noText : MI := (⟨"SoldWithIt", "noText", "(I)Z"⟩, prog_1_method_53_code, 1, (some .boolean), { frames := 0, cells := 0, slots := 0, locals := 0 })
abbrev mX9_noNumber : MI := (⟨"SoldWithIt", "noNumber", "(I)Z"⟩, prog_1_method_54_code, 1, (some .boolean), { frames := 0, cells := 0, slots := 0, locals := 0 })
abbrev mX9_noTaste : MI := (⟨"SoldWithIt", "noTaste", "(III)Z"⟩, prog_1_method_55_code, 3, (some .boolean), { frames := 1, cells := 0, slots := 0, locals := 20 })
abbrev mX9_noSheet : MI := (⟨"SoldWithIt", "noSheet", "(I)Z"⟩, prog_1_method_56_code, 1, (some .boolean), { frames := 0, cells := 0, slots := 0, locals := 0 })
abbrev mX9_noForm : MI := (⟨"SoldWithIt", "noForm", "(I)Z"⟩, prog_1_method_57_code, 1, (some .boolean), { frames := 0, cells := 0, slots := 0, locals := 0 })
abbrev mX9_houseAt : MI := (⟨"SoldWithIt", "houseAt", "(I)I"⟩, prog_1_method_58_code, 1, (some .int), { frames := 0, cells := 0, slots := 0, locals := 0 })
abbrev mX10_init : MI := (⟨"SoldWithItModel", "<init>", "()V"⟩, prog_12_method_1_code, 2, none, { frames := 1, cells := 27, slots := 35011, locals := 20 })
abbrev mX10_in : MI := (⟨"SoldWithItModel", "in", "(III)Z"⟩, prog_12_method_3_code, 3, (some .boolean), { frames := 0, cells := 0, slots := 0, locals := 0 })
abbrev mX10_isIn : MI := (⟨"SoldWithItModel", "isIn", "(II)Z"⟩, prog_12_method_4_code, 2, (some .boolean), { frames := 0, cells := 0, slots := 0, locals := 0 })
abbrev mX10_ones : MI := (⟨"SoldWithItModel", "ones", "(I)I"⟩, prog_12_method_5_code, 3, (some .int), { frames := 0, cells := 0, slots := 0, locals := 0 })
abbrev mX10_type : MI := (⟨"SoldWithItModel", "type", "(II)I"⟩, prog_12_method_6_code, 3, (some .int), { frames := 1, cells := 0, slots := 0, locals := 22 })
abbrev mX10_wipe : MI := (⟨"SoldWithItModel", "wipe", "(I)I"⟩, prog_12_method_7_code, 3, (some .int), { frames := 1, cells := 0, slots := 0, locals := 22 })
abbrev mX10_byteAt : MI := (⟨"SoldWithItModel", "byteAt", "(II)I"⟩, prog_12_method_8_code, 3, (some .int), { frames := 0, cells := 0, slots := 0, locals := 0 })
abbrev mX10_readsHouses : MI := (⟨"SoldWithItModel", "readsHouses", "()I"⟩, prog_12_method_9_code, 3, (some .int), { frames := 1, cells := 0, slots := 0, locals := 22 })
abbrev mX10_readsPeople : MI := (⟨"SoldWithItModel", "readsPeople", "()I"⟩, prog_12_method_10_code, 5, (some .int), { frames := 1, cells := 0, slots := 0, locals := 22 })
abbrev mX10_faultOf : MI := (⟨"SoldWithItModel", "faultOf", "(I)I"⟩, prog_12_method_11_code, 2, (some .int), { frames := 2, cells := 0, slots := 0, locals := 46 })
abbrev mX10_reads : MI := (⟨"SoldWithItModel", "reads", "()V"⟩, prog_12_method_12_code, 3, none, { frames := 2, cells := 0, slots := 0, locals := 46 })
abbrev mX10_fault : MI := (⟨"SoldWithItModel", "fault", "(I)I"⟩, prog_12_method_13_code, 2, (some .int), { frames := 3, cells := 0, slots := 0, locals := 67 })
abbrev mX10_isHouse : MI := (⟨"SoldWithItModel", "isHouse", "(I)Z"⟩, prog_12_method_14_code, 2, (some .boolean), { frames := 3, cells := 0, slots := 0, locals := 68 })
abbrev mX10_isPerson : MI := (⟨"SoldWithItModel", "isPerson", "(I)Z"⟩, prog_12_method_15_code, 2, (some .boolean), { frames := 3, cells := 0, slots := 0, locals := 68 })
abbrev mX10_isEight : MI := (⟨"SoldWithItModel", "isEight", "(I)Z"⟩, prog_12_method_16_code, 1, (some .boolean), { frames := 1, cells := 0, slots := 0, locals := 22 })
abbrev mX10_houseOf : MI := (⟨"SoldWithItModel", "houseOf", "(II)I"⟩, prog_12_method_17_code, 5, (some .int), { frames := 0, cells := 0, slots := 0, locals := 0 })
abbrev mX10_house : MI := (⟨"SoldWithItModel", "house", "(II)I"⟩, prog_12_method_18_code, 3, (some .int), { frames := 4, cells := 0, slots := 0, locals := 89 })
abbrev mX10_personOf : MI := (⟨"SoldWithItModel", "personOf", "(II)I"⟩, prog_12_method_19_code, 5, (some .int), { frames := 0, cells := 0, slots := 0, locals := 0 })
abbrev mX10_person : MI := (⟨"SoldWithItModel", "person", "(II)I"⟩, prog_12_method_20_code, 3, (some .int), { frames := 4, cells := 0, slots := 0, locals := 89 })
abbrev mX10_law : MI := (⟨"SoldWithItModel", "law", "(II)I"⟩, prog_12_method_21_code, 4, (some .int), { frames := 1, cells := 0, slots := 0, locals := 22 })
abbrev mX10_saleMore : MI := (⟨"SoldWithItModel", "saleMore", "(II)I"⟩, prog_12_method_22_code, 3, (some .int), { frames := 2, cells := 0, slots := 0, locals := 42 })
abbrev mX10_sale : MI := (⟨"SoldWithItModel", "sale", "(II)I"⟩, prog_12_method_23_code, 3, (some .int), { frames := 3, cells := 0, slots := 0, locals := 64 })
abbrev mX10_read : MI := (⟨"SoldWithItModel", "read", "(I)I"⟩, prog_12_method_24_code, 3, (some .int), { frames := 3, cells := 0, slots := 0, locals := 64 })
abbrev mX10_undo : MI := (⟨"SoldWithItModel", "undo", "()I"⟩, prog_12_method_25_code, 1, (some .int), { frames := 0, cells := 0, slots := 0, locals := 0 })
abbrev mX10_sells : MI := (⟨"SoldWithItModel", "sells", "(II)I"⟩, prog_12_method_26_code, 10, (some .int), { frames := 1, cells := 0, slots := 0, locals := 21 })
abbrev mX10_begins : MI := (⟨"SoldWithItModel", "begins", "()V"⟩, prog_12_method_27_code, 2, none, { frames := 0, cells := 0, slots := 0, locals := 0 })
abbrev mX10_runs : MI := (⟨"SoldWithItModel", "runs", "(I)V"⟩, prog_12_method_28_code, 3, none, { frames := 2, cells := 0, slots := 0, locals := 50 })
abbrev mX10_lays : MI := (⟨"SoldWithItModel", "lays", "(I)V"⟩, prog_12_method_29_code, 3, none, { frames := 3, cells := 0, slots := 0, locals := 72 })
abbrev mX10_whose : MI := (⟨"SoldWithItModel", "whose", "(II)I"⟩, prog_12_method_30_code, 3, (some .int), { frames := 4, cells := 0, slots := 0, locals := 94 })
abbrev mX10_keeperOf : MI := (⟨"SoldWithItModel", "keeperOf", "(II)I"⟩, prog_12_method_31_code, 3, (some .int), { frames := 4, cells := 0, slots := 0, locals := 94 })
abbrev mX10_keeper : MI := (⟨"SoldWithItModel", "keeper", "(II)I"⟩, prog_12_method_32_code, 3, (some .int), { frames := 5, cells := 0, slots := 0, locals := 116 })
abbrev mX10_soldOf : MI := (⟨"SoldWithItModel", "soldOf", "(II)I"⟩, prog_12_method_33_code, 3, (some .int), { frames := 4, cells := 0, slots := 0, locals := 94 })
abbrev mX10_sold : MI := (⟨"SoldWithItModel", "sold", "(II)I"⟩, prog_12_method_34_code, 3, (some .int), { frames := 5, cells := 0, slots := 0, locals := 116 })
abbrev mX10_lengthOf : MI := (⟨"SoldWithItModel", "lengthOf", "(I)I"⟩, prog_12_method_35_code, 2, (some .int), { frames := 4, cells := 0, slots := 0, locals := 94 })
abbrev mX10_length : MI := (⟨"SoldWithItModel", "length", "(I)I"⟩, prog_12_method_36_code, 2, (some .int), { frames := 5, cells := 0, slots := 0, locals := 115 })
abbrev mX10_worth : MI := (⟨"SoldWithItModel", "worth", "(III)I"⟩, prog_12_method_37_code, 5, (some .int), { frames := 2, cells := 0, slots := 0, locals := 42 })
abbrev mX10_like : MI := (⟨"SoldWithItModel", "like", "(III)I"⟩, prog_12_method_38_code, 5, (some .int), { frames := 2, cells := 0, slots := 0, locals := 42 })
abbrev mX10_gainBy : MI := (⟨"SoldWithItModel", "gainBy", "(I)I"⟩, prog_12_method_39_code, 4, (some .int), { frames := 0, cells := 0, slots := 0, locals := 0 })
abbrev mX10_gainOf : MI := (⟨"SoldWithItModel", "gainOf", "(I)I"⟩, prog_12_method_40_code, 2, (some .int), { frames := 4, cells := 0, slots := 0, locals := 94 })
abbrev mX10_gain : MI := (⟨"SoldWithItModel", "gain", "(I)I"⟩, prog_12_method_41_code, 2, (some .int), { frames := 5, cells := 0, slots := 0, locals := 115 })
abbrev mX10_rows : MI := (⟨"SoldWithItModel", "rows", "()I"⟩, prog_12_method_42_code, 3, (some .int), { frames := 0, cells := 0, slots := 0, locals := 0 })
abbrev mX10_places : MI := (⟨"SoldWithItModel", "places", "(I)V"⟩, prog_12_method_43_code, 4, none, { frames := 0, cells := 0, slots := 0, locals := 0 })
abbrev mX10_bestOf : MI := (⟨"SoldWithItModel", "bestOf", "(II)I"⟩, prog_12_method_44_code, 9, (some .int), { frames := 3, cells := 0, slots := 0, locals := 72 })
abbrev mX10_best : MI := (⟨"SoldWithItModel", "best", "(II)I"⟩, prog_12_method_45_code, 3, (some .int), { frames := 4, cells := 0, slots := 0, locals := 100 })
abbrev mX10_restOf : MI := (⟨"SoldWithItModel", "restOf", "(I)I"⟩, prog_12_method_46_code, 11, (some .int), { frames := 3, cells := 0, slots := 0, locals := 72 })
abbrev mX10_rest : MI := (⟨"SoldWithItModel", "rest", "(I)I"⟩, prog_12_method_47_code, 2, (some .int), { frames := 5, cells := 0, slots := 0, locals := 123 })
abbrev mX10_restNow : MI := (⟨"SoldWithItModel", "restNow", "(I)I"⟩, prog_12_method_48_code, 2, (some .int), { frames := 4, cells := 0, slots := 0, locals := 102 })
abbrev mX10_isTold : MI := (⟨"SoldWithItModel", "isTold", "(I)Z"⟩, prog_12_method_49_code, 4, (some .boolean), { frames := 0, cells := 0, slots := 0, locals := 0 })
abbrev mX10_outOf : MI := (⟨"SoldWithItModel", "outOf", "(I)I"⟩, prog_12_method_50_code, 6, (some .int), { frames := 1, cells := 0, slots := 0, locals := 23 })
abbrev mX10_out : MI := (⟨"SoldWithItModel", "out", "(I)I"⟩, prog_12_method_51_code, 2, (some .int), { frames := 4, cells := 0, slots := 0, locals := 89 })
abbrev mX10_valueOf : MI := (⟨"SoldWithItModel", "valueOf", "(II)I"⟩, prog_12_method_52_code, 5, (some .int), { frames := 0, cells := 0, slots := 0, locals := 0 })
abbrev mX10_value : MI := (⟨"SoldWithItModel", "value", "(II)I"⟩, prog_12_method_53_code, 3, (some .int), { frames := 4, cells := 0, slots := 0, locals := 89 })
abbrev mX10_isChange : MI := (⟨"SoldWithItModel", "isChange", "(II)Z"⟩, prog_12_method_54_code, 5, (some .boolean), { frames := 1, cells := 0, slots := 0, locals := 24 })
abbrev mX10_change : MI := (⟨"SoldWithItModel", "change", "(II)I"⟩, prog_12_method_55_code, 3, (some .int), { frames := 4, cells := 0, slots := 0, locals := 89 })
abbrev mX10_changesNow : MI := (⟨"SoldWithItModel", "changesNow", "()I"⟩, prog_12_method_56_code, 4, (some .int), { frames := 3, cells := 0, slots := 0, locals := 68 })
abbrev mX10_changes : MI := (⟨"SoldWithItModel", "changes", "()I"⟩, prog_12_method_57_code, 1, (some .int), { frames := 4, cells := 0, slots := 0, locals := 91 })
abbrev mX10_ownsBy : MI := (⟨"SoldWithItModel", "ownsBy", "(I)V"⟩, prog_12_method_58_code, 4, none, { frames := 1, cells := 0, slots := 0, locals := 21 })
abbrev mX10_stateNow : MI := (⟨"SoldWithItModel", "stateNow", "()I"⟩, prog_12_method_59_code, 3, (some .int), { frames := 0, cells := 0, slots := 0, locals := 0 })
abbrev mX10_shouldOf : MI := (⟨"SoldWithItModel", "shouldOf", "(I)I"⟩, prog_12_method_60_code, 10, (some .int), { frames := 4, cells := 0, slots := 0, locals := 94 })
abbrev mX10_should : MI := (⟨"SoldWithItModel", "should", "(I)I"⟩, prog_12_method_61_code, 2, (some .int), { frames := 5, cells := 0, slots := 0, locals := 123 })
abbrev mX10_comeOf : MI := (⟨"SoldWithItModel", "comeOf", "(II)I"⟩, prog_12_method_62_code, 7, (some .int), { frames := 1, cells := 0, slots := 0, locals := 21 })
abbrev mX10_come : MI := (⟨"SoldWithItModel", "come", "(II)I"⟩, prog_12_method_63_code, 3, (some .int), { frames := 4, cells := 0, slots := 0, locals := 89 })
abbrev mX10_inviteOf : MI := (⟨"SoldWithItModel", "inviteOf", "(II)I"⟩, prog_12_method_64_code, 6, (some .int), { frames := 2, cells := 0, slots := 0, locals := 47 })
abbrev mX10_invite : MI := (⟨"SoldWithItModel", "invite", "(II)I"⟩, prog_12_method_65_code, 3, (some .int), { frames := 4, cells := 0, slots := 0, locals := 89 })
abbrev mX10_fact : MI := (⟨"SoldWithItModel", "fact", "(II)I"⟩, prog_12_method_66_code, 3, (some .int), { frames := 2, cells := 0, slots := 0, locals := 42 })
abbrev mX10_forget : MI := (⟨"SoldWithItModel", "forget", "()I"⟩, prog_12_method_67_code, 2, (some .int), { frames := 0, cells := 0, slots := 0, locals := 0 })
abbrev mX10_waysNow : MI := (⟨"SoldWithItModel", "waysNow", "()I"⟩, prog_12_method_68_code, 6, (some .int), { frames := 3, cells := 0, slots := 0, locals := 72 })
abbrev mX10_were : MI := (⟨"SoldWithItModel", "were", "(I)I"⟩, prog_12_method_69_code, 3, (some .int), { frames := 4, cells := 0, slots := 0, locals := 97 })
abbrev mX10_bed : MI := (⟨"SoldWithItModel", "bed", "()I"⟩, prog_12_method_70_code, 3, (some .int), { frames := 4, cells := 0, slots := 0, locals := 97 })
abbrev mX10_meets : MI := (⟨"SoldWithItModel", "meets", "(I)I"⟩, prog_12_method_71_code, 2, (some .int), { frames := 0, cells := 0, slots := 0, locals := 0 })
abbrev mX10_isSheet : MI := (⟨"SoldWithItModel", "isSheet", "(I)Z"⟩, prog_12_method_72_code, 1, (some .boolean), { frames := 1, cells := 0, slots := 0, locals := 22 })
abbrev mX10_sheet : MI := (⟨"SoldWithItModel", "sheet", "(III)I"⟩, prog_12_method_73_code, 5, (some .int), { frames := 2, cells := 0, slots := 0, locals := 42 })
abbrev mX10_lose : MI := (⟨"SoldWithItModel", "lose", "(I)I"⟩, prog_12_method_74_code, 2, (some .int), { frames := 2, cells := 0, slots := 0, locals := 42 })
abbrev mX10_lacks : MI := (⟨"SoldWithItModel", "lacks", "(III)I"⟩, prog_12_method_75_code, 4, (some .int), { frames := 1, cells := 0, slots := 0, locals := 22 })
abbrev mX10_keep : MI := (⟨"SoldWithItModel", "keep", "(III)V"⟩, prog_12_method_76_code, 4, none, { frames := 0, cells := 0, slots := 0, locals := 0 })
abbrev mX10_put : MI := (⟨"SoldWithItModel", "put", "(IIII)I"⟩, prog_12_method_77_code, 6, (some .int), { frames := 2, cells := 0, slots := 0, locals := 45 })
abbrev mX10_get : MI := (⟨"SoldWithItModel", "get", "(III)I"⟩, prog_12_method_78_code, 5, (some .int), { frames := 2, cells := 0, slots := 0, locals := 45 })
abbrev mX10_copy : MI := (⟨"SoldWithItModel", "copy", "(IIIII)I"⟩, prog_12_method_79_code, 7, (some .int), { frames := 2, cells := 0, slots := 0, locals := 42 })
abbrev mX10_write : MI := (⟨"SoldWithItModel", "write", "(I)I"⟩, prog_12_method_80_code, 3, (some .int), { frames := 4, cells := 0, slots := 0, locals := 94 })
abbrev mX10_sumOf : MI := (⟨"SoldWithItModel", "sumOf", "(I)I"⟩, prog_12_method_81_code, 4, (some .int), { frames := 4, cells := 0, slots := 0, locals := 94 })
abbrev mX10_count : MI := (⟨"SoldWithItModel", "count", "(I)I"⟩, prog_12_method_82_code, 2, (some .int), { frames := 5, cells := 0, slots := 0, locals := 117 })
abbrev mX10_digest : MI := (⟨"SoldWithItModel", "digest", "()J"⟩, prog_12_method_83_code, 5, (some .long), { frames := 6, cells := 0, slots := 0, locals := 138 })
abbrev mJ11_isValidCodePoint_9a6ad : MI := (⟨"java/lang/Character", "isValidCodePoint", "(I)Z"⟩, prog_13_method_11_code, 2, (some .boolean), { frames := 0, cells := 0, slots := 0, locals := 0 })
abbrev mJ11_highSurrogate_5068e : MI := (⟨"java/lang/Character", "highSurrogate", "(I)C"⟩, prog_13_method_28_code, 1, (some .char), { frames := 0, cells := 0, slots := 0, locals := 0 })
abbrev mJ11_lowSurrogate_5068e : MI := (⟨"java/lang/Character", "lowSurrogate", "(I)C"⟩, prog_13_method_29_code, 1, (some .char), { frames := 0, cells := 0, slots := 0, locals := 0 })
abbrev mJ6_bitCount_0f7a4 : MI := (⟨"java/lang/Integer", "bitCount", "(I)I"⟩, prog_14_method_49_code, 1, (some .int), { frames := 0, cells := 0, slots := 0, locals := 0 })
abbrev mJ9_abs_0f7a4 : MI := (⟨"java/lang/Math", "abs", "(I)I"⟩, prog_15_method_59_code, 1, (some .int), { frames := 0, cells := 0, slots := 0, locals := 0 })
abbrev mJ9_max_7cf53 : MI := (⟨"java/lang/Math", "max", "(II)I"⟩, prog_15_method_65_code, 2, (some .int), { frames := 0, cells := 0, slots := 0, locals := 0 })
abbrev mJ9_min_7cf53 : MI := (⟨"java/lang/Math", "min", "(II)I"⟩, prog_15_method_69_code, 2, (some .int), { frames := 0, cells := 0, slots := 0, locals := 0 })
abbrev mJ0_length_8abf5 : MI := (⟨"java/lang/String", "length", "()I"⟩, prog_16_method_54_code, 1, (some .int), { frames := 1, cells := 0, slots := 0, locals := 20 })
abbrev mJ0_indexOf_0f7a4 : MI := (⟨"java/lang/String", "indexOf", "(I)I"⟩, prog_16_method_79_code, 2, (some .int), { frames := 6, cells := 0, slots := 0, locals := 138 })
abbrev mJ0_indexOf_7cf53 : MI := (⟨"java/lang/String", "indexOf", "(II)I"⟩, prog_16_method_80_code, 3, (some .int), { frames := 5, cells := 0, slots := 0, locals := 116 })
abbrev mJ0_coder_7d493 : MI := (⟨"java/lang/String", "coder", "()B"⟩, prog_16_method_152_code, 1, (some .byte), { frames := 0, cells := 0, slots := 0, locals := 0 })
abbrev mJ0_isLatin1_aae02 : MI := (⟨"java/lang/String", "isLatin1", "()Z"⟩, prog_16_method_154_code, 1, (some .boolean), { frames := 0, cells := 0, slots := 0, locals := 0 })
abbrev mJ0_checkBoundsBeginEnd_23922 : MI := (⟨"java/lang/String", "checkBoundsBeginEnd", "(III)V"⟩, prog_16_method_158_code, 3, none, { frames := 1, cells := 0, slots := 0, locals := 23 })
abbrev mJ1_canEncode_9a6ad : MI := (⟨"java/lang/StringLatin1", "canEncode", "(I)Z"⟩, prog_17_method_4_code, 1, (some .boolean), { frames := 0, cells := 0, slots := 0, locals := 0 })
abbrev mJ1_indexOf_4cfef : MI := (⟨"java/lang/StringLatin1", "indexOf", "([BIII)I"⟩, prog_17_method_22_code, 4, (some .int), { frames := 1, cells := 0, slots := 0, locals := 25 })
abbrev mJ1_indexOfChar_4cfef : MI := (⟨"java/lang/StringLatin1", "indexOfChar", "([BIII)I"⟩, prog_17_method_23_code, 6, (some .int), { frames := 0, cells := 0, slots := 0, locals := 0 })
abbrev mJ2_getChar_3b067 : MI := (⟨"java/lang/StringUTF16", "getChar", "([BI)C"⟩, prog_18_method_5_code, 2, (some .char), { frames := 1, cells := 0, slots := 0, locals := 20 })
abbrev mJ2_length_9d52b : MI := (⟨"java/lang/StringUTF16", "length", "([B)I"⟩, prog_18_method_6_code, 1, (some .int), { frames := 0, cells := 0, slots := 0, locals := 0 })
abbrev mJ2_indexOf_4cfef : MI := (⟨"java/lang/StringUTF16", "indexOf", "([BIII)I"⟩, prog_18_method_40_code, 4, (some .int), { frames := 4, cells := 0, slots := 0, locals := 93 })
abbrev mJ2_indexOfChar_4cfef : MI := (⟨"java/lang/StringUTF16", "indexOfChar", "([BIII)I"⟩, prog_18_method_47_code, 4, (some .int), { frames := 3, cells := 0, slots := 0, locals := 67 })
abbrev mJ2_indexOfCharUnsafe_4cfef : MI := (⟨"java/lang/StringUTF16", "indexOfCharUnsafe", "([BIII)I"⟩, prog_18_method_48_code, 5, (some .int), { frames := 2, cells := 0, slots := 0, locals := 41 })
abbrev mJ2_indexOfSupplementary_4cfef : MI := (⟨"java/lang/StringUTF16", "indexOfSupplementary", "([BIII)I"⟩, prog_18_method_49_code, 7, (some .int), { frames := 3, cells := 0, slots := 0, locals := 67 })
abbrev mJ2_checkBoundsBeginEnd_d044e : MI := (⟨"java/lang/StringUTF16", "checkBoundsBeginEnd", "(II[B)V"⟩, prog_18_method_93_code, 3, none, { frames := 2, cells := 0, slots := 0, locals := 45 })
abbrev mJ7_fill_53178 : MI := (⟨"java/util/Arrays", "fill", "([II)V"⟩, prog_20_method_103_code, 4, none, { frames := 0, cells := 0, slots := 0, locals := 0 })
abbrev mJ7_fill_fb410 : MI := (⟨"java/util/Arrays", "fill", "([SS)V"⟩, prog_20_method_105_code, 4, none, { frames := 0, cells := 0, slots := 0, locals := 0 })
abbrev mJ3_checkFromToIndex_8c36e : MI := (⟨"jdk/internal/util/Preconditions", "checkFromToIndex", "(IIILjava/util/function/BiFunction;)I"⟩, prog_21_method_12_code, 4, (some .int), { frames := 0, cells := 0, slots := 0, locals := 0 })
abbrev mL_law : MI := (x, code, 4, ret, room_1)
end
section
/-! THE FRAME: an abstract heap (cells by numbers), the judgement Ex at an instruction, the judgement Rn of a method; a row an instruction. -/
abbrev HC : Type := (FieldType × vp_A) ⊕ (Nat × List Value)
abbrev Hp : Type := Nat → Option HC
/-- launch; class numbers and places of fields; the first new address; the addresses of the four old cells; the script -/
abbrev GX : Type := Launch × va_G × Nat × (Nat → Nat) × Nat × (Nat → Int32)
def gx_ad (Γ : GX) : Nat → Nat
  | 0 => Γ.2.2.2.1 0
  | 1 => Γ.2.2.2.1 1
  | 2 => Γ.2.2.2.1 2
  | 3 => Γ.2.2.2.1 3
  | k + 4 => Γ.2.2.1 + k
def gx_v (Γ : GX) (v : Value) : Value := match v with
  | .ref k => .ref (gx_ad Γ k)
  | .int x => .int x
  | .long x => .long x
  | .float x => .float x
  | .double x => .double x
  | .null => .null
  | .retAddr x => .retAddr x
def gx_a (Γ : GX) (a : vp_A) : vp_A := (a.1, match a.2 with
  | .inr (.inr (.inr (.inr f))) => .inr (.inr (.inr (.inr (fun j => (f j).map (gx_ad Γ)))))
  | .inl f => .inl f
  | .inr (.inl f) => .inr (.inl f)
  | .inr (.inr (.inl f)) => .inr (.inr (.inl f))
  | .inr (.inr (.inr (.inl f))) => .inr (.inr (.inr (.inl f))))
def gx_A (Γ : GX) : Nat → Prop := fun q => Γ.2.2.1 ≤ q
/-- cell number k of the heap H is c -/
def gx_c (Γ : GX) (U : State) (H : Heap) (k : Nat) (c : HC) : Prop := match c with
  | .inl a => ∃ cA : ClassId, ArrOfT U cA a.1 ∧ va_RA U cA a.1 ∧ H[gx_ad Γ k]? = some (vp_cell cA (gx_a Γ a.2))
  | .inr o => ∃ r : vw_C, kls[o.1]? = some r ∧ t_OB (gx_ad Γ k) (Γ.2.1.1 o.1) r.2.2 (Γ.2.1.2 o.1) H (vp_V (o.2.map (gx_v Γ)))
/-- what stands in the tables alone: the text "ogl" -/
def gx_s (Γ : GX) (U : State) : Prop := vk_R "SoldWithIt$Street" 52 "ogl" (gx_ad Γ 2) U ∧ (∀ q ∈ nlk, va_Nw (.methodLinkNest q.1 q.2.1 q.2.2.1 q.2.2.2) U) ∧ va_AO "SoldWithIt$Text" U ∧ va_AO "SoldWithIt$Sheet" U
/-- the old cells: the script, ONESELF, the text "ogl" and its bytes -/
def gx_x (Γ : GX) (U : State) (H : Heap) : Prop :=
  (va_X (gx_ad Γ 0) Γ.2.2.2.2.1 Γ.2.2.2.2.2 U H ∧ gx_ad Γ 0 < Γ.2.2.1) ∧
  va_Z "SoldWithIt$Stroke" "ONESELF" "[I" (.ref (gx_ad Γ 1)) (gx_A Γ) U H ∧ va_T .int (gx_ad Γ 1) 8 (fun j => .int (nI j)) (gx_A Γ) U H ∧
  va_Z "java/lang/String" "COMPACT_STRINGS" "Z" (.int 1) (gx_A Γ) U H ∧ va_O "java/lang/String" (gx_ad Γ 2) (gx_A Γ) U H ∧
  va_OF "java/lang/String" "coder" "B" (.int 0) (gx_ad Γ 2) (gx_A Γ) U H ∧ va_OF "java/lang/String" "value" "[B" (.ref (gx_ad Γ 3)) (gx_ad Γ 2) (gx_A Γ) U H ∧
  va_T .byte (gx_ad Γ 3) 3 (fun j => .int (if j = 0 then 111 else if j = 1 then 103 else 108)) (gx_A Γ) U H
/-- the world: sz numbers are taken -/
def gx_W (Γ : GX) (U : State) (H : Heap) (h : Hp) (sz : Nat) : Prop :=
  va_K Γ.2.1 kls [] U ∧ H.size + 4 = Γ.2.2.1 + sz ∧ Γ.2.2.1 ≤ H.size ∧ (∀ k c, h k = some c → 4 ≤ k ∧ k < sz ∧ gx_c Γ U H k c) ∧ gx_x Γ U H
theorem gx_x.moved {Γ : GX} {u U : State} {H : Heap} (hvm : u.vm.Alike U.vm) (h : gx_x Γ u H) : gx_x Γ U H := by
  obtain ⟨⟨h0, h00⟩, h1, h2, h3, h4, h5, h6, h7⟩ := h
  exact ⟨⟨h0.moved hvm, h00⟩, h1.moved hvm, h2.moved hvm, h3.moved hvm, h4.moved hvm, h5.moved hvm, h6.moved hvm, h7.moved hvm⟩
theorem gx_x.kept {Γ : GX} {U : State} {H H1 : Heap} (h : gx_x Γ U H) (hq : ∀ a : Nat, a < H.size → a < Γ.2.2.1 → H1[a]? = H[a]?) : gx_x Γ U H1 := by
  have hk : ∀ a : Nat, a < H.size → ¬ gx_A Γ a → H1[a]? = H[a]? := fun a h1 h2 => hq a h1 (Nat.not_le.mp h2)
  obtain ⟨⟨⟨scr, z1, z2⟩, h00⟩, h1, h2, h3, h4, h5, h6, h7⟩ := h
  refine ⟨⟨⟨scr, ?_, z2⟩, h00⟩, h1.kept hk, h2.kept hk, h3.kept hk, h4.kept hk, h5.kept hk, h6.kept hk, h7.kept hk⟩
  rw [hq _ (Array.getElem?_eq_some_iff.mp z1).1 h00]; exact z1
theorem gx_c.moved {Γ : GX} {u U : State} {H : Heap} {k : Nat} {c : HC} (hvm : u.vm.Alike U.vm) (h : gx_c Γ u H k c) : gx_c Γ U H k c := by
  cases c with
  | inl a =>
    obtain ⟨cA, h1, h2, h3⟩ := h
    exact ⟨cA, arrOfT_moved hvm h1, h2.moved hvm, h3⟩
  | inr o => exact h
theorem gx_c.kept {Γ : GX} {U : State} {H H1 : Heap} {k : Nat} {c : HC} (h : gx_c Γ U H k c) (hq : H1[gx_ad Γ k]? = H[gx_ad Γ k]?) : gx_c Γ U H1 k c := by
  cases c with
  | inl a =>
    obtain ⟨cA, h1, h2, h3⟩ := h
    exact ⟨cA, h1, h2, by rw [hq]; exact h3⟩
  | inr o =>
    obtain ⟨r, h1, h2⟩ := h
    exact ⟨r, h1, h2.kept hq⟩
theorem gx_W.moved {Γ : GX} {u U : State} {H : Heap} {h : Hp} {sz : Nat} (hvm : u.vm.Alike U.vm) (w : gx_W Γ u H h sz) : gx_W Γ U H h sz :=
  ⟨w.1.moved hvm, w.2.1, w.2.2.1, fun k c hc => ⟨(w.2.2.2.1 k c hc).1, (w.2.2.2.1 k c hc).2.1, (w.2.2.2.1 k c hc).2.2.moved hvm⟩, w.2.2.2.2.moved hvm⟩
theorem gx_ad4 (Γ : GX) {k : Nat} (h : 4 ≤ k) : gx_ad Γ k = Γ.2.2.1 + (k - 4) := by
  obtain ⟨j, rfl⟩ : ∃ j, k = j + 4 := ⟨k - 4, by omega⟩
  rw [show j + 4 - 4 = j by omega]; rfl
/-- a cell is written: the rest stays -/
theorem gx_W.set {Γ : GX} {U : State} {H H1 : Heap} {h : Hp} {sz k : Nat} {c c0 : HC} (w : gx_W Γ U H h sz) (h0 : h k = some c0) (hz : H1.size = H.size) (ho : ∀ q, q ≠ gx_ad Γ k → H1[q]? = H[q]?) (hc : gx_c Γ U H1 k c) : gx_W Γ U H1 (va_up h k (some c)) sz := by
  obtain ⟨w1, w2, w2', w3, w4⟩ := w
  obtain ⟨h4, hk, -⟩ := w3 k c0 h0
  refine ⟨w1, by rw [hz]; exact w2, by rw [hz]; exact w2', fun j c' hj => ?_, w4.kept fun a _ ha => ho a ?_⟩
  · by_cases e : j = k
    · subst e
      rw [show va_up h j (some c) j = some c from if_pos rfl] at hj
      cases hj
      exact ⟨h4, hk, hc⟩
    · rw [show va_up h k (some c) j = h j from if_neg e] at hj
      obtain ⟨j4, jz, jc⟩ := w3 j c' hj
      exact ⟨j4, jz, jc.kept (ho _ (by rw [gx_ad4 Γ j4, gx_ad4 Γ h4]; omega))⟩
  · rw [gx_ad4 Γ h4]; omega
/-- a cell more -/
theorem gx_W.push {Γ : GX} {U : State} {H H1 : Heap} {h : Hp} {sz : Nat} {c : HC} (w : gx_W Γ U H h sz) (hz : H1.size = H.size + 1) (ho : ∀ q, q < H.size → H1[q]? = H[q]?) (hc : gx_c Γ U H1 sz c) : gx_W Γ U H1 (va_up h sz (some c)) (sz + 1) := by
  obtain ⟨w1, w2, w2', w3, w4⟩ := w
  refine ⟨w1, by rw [hz]; omega, by omega, fun j c' hj => ?_, w4.kept fun a ha _ => ho a ha⟩
  by_cases e : j = sz
  · subst e
    rw [show va_up h j (some c) j = some c from if_pos rfl] at hj
    cases hj
    exact ⟨by omega, by omega, hc⟩
  · rw [show va_up h sz (some c) j = h j from if_neg e] at hj
    obtain ⟨j4, jz, jc⟩ := w3 j c' hj
    exact ⟨j4, by omega, jc.kept (ho _ (by rw [gx_ad4 Γ j4]; omega))⟩
theorem gx_W.next {Γ : GX} {U : State} {H : Heap} {h : Hp} {sz : Nat} (w : gx_W Γ U H h sz) : gx_ad Γ sz = H.size ∧ 4 ≤ sz := by
  have h4 : 4 ≤ sz := by have := w.2.1; have := w.2.2.1; omega
  exact ⟨by rw [gx_ad4 Γ h4]; have := w.2.1; omega, h4⟩
/-- local variables: a place that nothing is known of holds a retAddr -/
def gx_l (Γ : GX) (ls : Array Slot) (nL : Nat) (lv : List Value) : Prop := ls.size = nL ∧ lv_wf ls ∧ ∀ (i : Nat) (v : Value), lv[i]? = some v → (∀ z, v ≠ .retAddr z) → ls[i]? = some (.val (gx_v Γ v))
/-- the machine stands in the method M -/
def gx_F (Γ : GX) (M : MI) (p : Program) (s : State) (m : MethodId) (args : Array Value) (meth : Method) (c : Code) : Prop :=
  p.tables.exec = Jvm.exec ∧ c.code = M.2.1 ∧ meth.sig.returnType = M.2.2.2.1 ∧ c.maxLocals = M.2.2.1 ∧ s.vm.findClass M.1.cls = some m.cls ∧ (∀ w ∈ gtbl, w.before args s = true) ∧ meth.locks = false ∧ meth.name = M.1.name ∧ gx_s Γ s
abbrev ZT : Type := Array Value → State → List Frame → State → Prop
/-- at instruction pc of M, locals lv, operands st, heap h: the machine comes to Z; cc cells of cn slots were made since M began -/
def Ex (Γ : GX) (M : MI) (Z : ZT) (cc cn pc : Nat) (lv st : List Value) (h : Hp) (sz : Nat) : Prop :=
  ∀ (p : Program) (e : Env) (s : State) (m : MethodId) (args : Array Value) (below : List Frame) (meth : Method) (c : Code), gx_F Γ M p s m args meth c →
  ∀ (H : Heap) (locs : List Loc) (ls : Array Slot), gx_W Γ s H h sz → (∀ q ∈ locs, Γ.2.2.1 ≤ q.base) → gx_l Γ ls M.2.2.1 lv →
    W p Γ.1 e M.2.2.2.2 s m args below meth c H locs cc cn (Z args s below) (F0 m pc ls (st.map (gx_v Γ)))
abbrev QT : Type := Option Value → Hp → Nat → Prop
def gx_P (Γ : GX) (as : List Value) (h : Hp) (sz : Nat) : Array Value → State → Prop := fun v U => v = (as.map (gx_v Γ)).toArray ∧ gx_W Γ U U.heap h sz ∧ gx_s Γ U
def gx_Q (Γ : GX) (Q : QT) : Array Value → State → Outcome → State → Prop := fun _ _ o t => ∃ (r : Option Value) (h : Hp) (sz : Nat), o = .returned (r.map (gx_v Γ)) ∧ Q r h sz ∧ gx_W Γ t t.heap h sz
abbrev gx_ws (M : MI) : List Cond := Cond.code M.1 M.2.1 M.2.2.1 M.2.2.2.1 :: gtbl
def gx_Z (Γ : GX) (M : MI) (Q : QT) : ZT := fun args s below => MQ below (gx_Q Γ Q) args s M.2.2.2.2.cells M.2.2.2.2.slots (gx_A Γ)
/-- M at the arguments as in the heap h returns, with Q -/
def Rn (Γ : GX) (M : MI) (as : List Value) (h : Hp) (sz : Nat) (Q : QT) : Prop := Met Γ.1 M.1 (gx_ws M) M.2.2.2.2 (gx_P Γ as h sz) (gx_Q Γ Q) M.2.2.2.2.cells M.2.2.2.2.slots (gx_A Γ)
/-- a decoded instruction, and what follows it -/
def Dc (c : ByteArray) (pc : Nat) (i : Instr) (n pc' : Nat) : Prop := decode c pc = .ok (i, n) ∧ pc + n = pc'
def Dj (c : ByteArray) (pc : Nat) (i : Instr) (off : Int) (n pc' tgt : Nat) : Prop := decode c pc = .ok (i, n) ∧ pc + n = pc' ∧ (pc : Int) + off = (tgt : Int)
end
section
section Rows
variable {Γ : GX} {M : MI} {Z : ZT} {cc cn pc pc' tgt : Nat} {lv st : List Value} {h : Hp} {sz : Nat}
def Dk (c : ByteArray) (pc : Nat) (v : Int32) (pc' : Nat) : Prop := ∃ (n : Int) (b : Nat), ((decode c pc = .ok (.iconst n, 1) ∧ Int32.ofInt n = v ∧ b = 1) ∨ (decode c pc = .ok (.bipush n, 2) ∧ (Int8.ofInt n).toInt32 = v ∧ b = 2) ∨ (decode c pc = .ok (.sipush n, 3) ∧ (Int16.ofInt n).toInt32 = v ∧ b = 3)) ∧ pc + b = pc'
theorem x_k {v : Int32} (d : Dk M.2.1 pc v pc') (k : Ex Γ M Z cc cn pc' lv (.int v :: st) h sz) : Ex Γ M Z cc cn pc lv st h sz := by
  obtain ⟨n, b, d, rfl⟩ := d
  intro p e s m args below meth c F H locs ls hw hL hl
  rcases d with ⟨d, hv, rfl⟩ | ⟨d, hv, rfl⟩ | ⟨d, hv, rfl⟩
  · exact lv_iconst F.1 F.2.1 d hv (k p e s m args below meth c F H locs ls hw hL hl)
  · exact lv_bipush F.1 F.2.1 d hv (k p e s m args below meth c F H locs ls hw hL hl)
  · exact lv_sipush F.1 F.2.1 d hv (k p e s m args below meth c F H locs ls hw hL hl)
theorem x_lconst {n : Fin 2} {v : Int64} (d : Dc M.2.1 pc (.lconst n) 1 pc') (hv : Int64.ofNat n.val = v) (k : Ex Γ M Z cc cn pc' lv (.long v :: st) h sz) : Ex Γ M Z cc cn pc lv st h sz := by
  obtain ⟨d, rfl⟩ := d
  intro p e s m args below meth c F H locs ls hw hL hl
  exact lv_lconst F.1 F.2.1 d (by first | exact hv | simpa using hv) (k p e s m args below meth c F H locs ls hw hL hl)
theorem x_ldc {idx : Nat} {v : Int32} (hc : Cond.constant M.1.cls idx v ∈ gtbl) (d : Dc M.2.1 pc (.ldc idx) 2 pc') (k : Ex Γ M Z cc cn pc' lv (.int v :: st) h sz) : Ex Γ M Z cc cn pc lv st h sz := by
  obtain ⟨d, rfl⟩ := d
  intro p e s m args below meth c F H locs ls hw hL hl
  exact lv_ldc F.1 F.2.1 F.2.2.2.2.1 (F.2.2.2.2.2.1 _ hc) d (k p e s m args below meth c F H locs ls hw hL hl)
theorem x_ldcw {idx : Nat} {v : Int32} (hc : Cond.constant M.1.cls idx v ∈ gtbl) (d : Dc M.2.1 pc (.ldc_w idx) 3 pc') (k : Ex Γ M Z cc cn pc' lv (.int v :: st) h sz) : Ex Γ M Z cc cn pc lv st h sz := by
  obtain ⟨d, rfl⟩ := d
  intro p e s m args below meth c F H locs ls hw hL hl
  exact lv_ldcw F.1 F.2.1 F.2.2.2.2.1 (F.2.2.2.2.2.1 _ hc) d (k p e s m args below meth c F H locs ls hw hL hl)
theorem x_ldc2 {idx : Nat} {v : Int64} (hc : Cond.constantLong M.1.cls idx v ∈ gtbl) (d : Dc M.2.1 pc (.ldc2_w idx) 3 pc') (k : Ex Γ M Z cc cn pc' lv (.long v :: st) h sz) : Ex Γ M Z cc cn pc lv st h sz := by
  obtain ⟨d, rfl⟩ := d
  intro p e s m args below meth c F H locs ls hw hL hl
  exact lv_ldc2 F.1 F.2.1 F.2.2.2.2.1 (F.2.2.2.2.2.1 _ hc) d (k p e s m args below meth c F H locs ls hw hL hl)
theorem x_null (d : Dc M.2.1 pc .aconst_null 1 pc') (k : Ex Γ M Z cc cn pc' lv (.null :: st) h sz) : Ex Γ M Z cc cn pc lv st h sz := by
  obtain ⟨d, rfl⟩ := d
  intro p e s m args below meth c F H locs ls hw hL hl
  exact lv_null F.1 F.2.1 d (k p e s m args below meth c F H locs ls hw hL hl)

def lcat (lv : List Value) (i : Nat) : Bool := match i with
  | 0 => true
  | j + 1 => match lv[j]? with
    | some (.long _) => false
    | some (.double _) => false
    | _ => true
def lpr1 (Γ : GX) (j : Nat) (v : Option Value) : Option (Nat × Value) := match v with
  | none => none
  | some (.retAddr _) => none
  | some v => some (j, gx_v Γ v)
def lprs (Γ : GX) (lv : List Value) : List (Nat × Value) := (List.range lv.length).filterMap (fun j => lpr1 Γ j lv[j]?)
theorem gx_v_cat (Γ : GX) (v : Value) : (gx_v Γ v).category = v.category := by cases v <;> rfl
theorem lprs_mem {Γ : GX} {lv : List Value} {j : Nat} {v : Value} (h : lv[j]? = some v) (hr : ∀ z, v ≠ .retAddr z) : (j, gx_v Γ v) ∈ lprs Γ lv := by
  refine List.mem_filterMap.mpr ⟨j, List.mem_range.mpr (List.getElem?_eq_some_iff.mp h).1, ?_⟩
  rw [h]
  cases v <;> first | rfl | exact absurd rfl (hr _)
theorem lprs_has {Γ : GX} {ls : Array Slot} {nL : Nat} {lv : List Value} (hl : gx_l Γ ls nL lv) : lv_has ls nL (lprs Γ lv) := by
  refine ⟨hl.1, hl.2.1, fun q hq => ?_⟩
  obtain ⟨j, -, hj⟩ := List.mem_filterMap.mp hq
  cases hv : lv[j]? with
  | none => rw [hv] at hj; simp [lpr1] at hj
  | some v =>
    rw [hv] at hj
    have h3 := hl.2.2 j v hv
    cases v <;> simp [lpr1] at hj <;> subst hj <;> exact h3 (fun z e => by cases e)
theorem gx_l.st1 {Γ : GX} {ls : Array Slot} {nL : Nat} {lv : List Value} {i : Nat} {v : Value} {ls' : Array Slot} (hc : lcat lv i = true) (h' : lv_has ls' nL ((i, gx_v Γ v) :: (lprs Γ lv).filter (fun q => !(q.1 == i) && !(q.1 + 1 == i && q.2.category == 2)))) : gx_l Γ ls' nL (lv.set i v) := by
  refine ⟨h'.1, h'.2.1, fun j w hj hr => ?_⟩
  by_cases e : i = j
  · subst e
    by_cases hlen : i < lv.length
    · rw [List.getElem?_set_self hlen] at hj
      cases hj
      exact h'.2.2 (i, gx_v Γ v) List.mem_cons_self
    · rw [List.getElem?_eq_none (by rw [List.length_set]; omega)] at hj
      cases hj
  · rw [List.getElem?_set_ne e] at hj
    refine h'.2.2 (j, gx_v Γ w) (List.mem_cons_of_mem _ (List.mem_filter.mpr ⟨lprs_mem hj hr, ?_⟩))
    simp only [Bool.and_eq_true, Bool.not_eq_true', beq_eq_false_iff_ne, ne_eq, Bool.and_eq_false_iff]
    refine ⟨fun e2 => e e2.symm, ?_⟩
    by_cases e3 : j + 1 = i
    · right
      subst e3
      simp only [lcat, hj] at hc
      rw [gx_v_cat]
      cases w <;> first | (simp at hc; done) | (simp [Value.category])
    · left
      exact e3
theorem gx_l.st2 {Γ : GX} {ls : Array Slot} {nL : Nat} {lv : List Value} {i : Nat} {v : Value} {ls' : Array Slot} (hc : lcat lv i = true) (h' : lv_has ls' nL ((i, gx_v Γ v) :: (lprs Γ lv).filter (fun q => !(q.1 == i) && (!(q.1 == i + 1) && !(q.1 + 1 == i && q.2.category == 2))))) : gx_l Γ ls' nL ((lv.set i v).set (i + 1) (.retAddr 0)) := by
  refine ⟨h'.1, h'.2.1, fun j w hj hr => ?_⟩
  by_cases e1 : i + 1 = j
  · subst e1
    by_cases hlen : i + 1 < (lv.set i v).length
    · rw [List.getElem?_set_self hlen] at hj
      cases hj
      exact absurd rfl (hr 0)
    · rw [List.getElem?_eq_none (by rw [List.length_set]; omega)] at hj
      cases hj
  rw [List.getElem?_set_ne e1] at hj
  by_cases e : i = j
  · subst e
    by_cases hlen : i < lv.length
    · rw [List.getElem?_set_self hlen] at hj
      cases hj
      exact h'.2.2 (i, gx_v Γ v) List.mem_cons_self
    · rw [List.getElem?_eq_none (by rw [List.length_set]; omega)] at hj
      cases hj
  · rw [List.getElem?_set_ne e] at hj
    refine h'.2.2 (j, gx_v Γ w) (List.mem_cons_of_mem _ (List.mem_filter.mpr ⟨lprs_mem hj hr, ?_⟩))
    simp only [Bool.and_eq_true, Bool.not_eq_true', beq_eq_false_iff_ne, ne_eq, Bool.and_eq_false_iff]
    refine ⟨fun e2 => e e2.symm, fun e2 => e1 e2.symm, ?_⟩
    by_cases e3 : j + 1 = i
    · right
      subst e3
      simp only [lcat, hj] at hc
      rw [gx_v_cat]
      cases w <;> first | (simp at hc; done) | (simp [Value.category])
    · left
      exact e3

def Diload (c : ByteArray) (pc i pc' : Nat) : Prop := (∃ k : Fin 4, decode c pc = .ok (.iload_n k, 1) ∧ (k : Nat) = i ∧ pc + 1 = pc') ∨ (decode c pc = .ok (.iload i, 2) ∧ pc + 2 = pc')
theorem x_iload {i : Nat} {x : Int32} (d : Diload M.2.1 pc i pc') (hi : lv[i]? = some (.int x)) (k : Ex Γ M Z cc cn pc' lv (.int x :: st) h sz) : Ex Γ M Z cc cn pc lv st h sz := by
  intro p e s m args below meth c F H locs ls hw hL hl
  rcases d with ⟨q, d, hq, rfl⟩ | ⟨d, rfl⟩
  · exact lv_iload_n F.1 F.2.1 d hq (hl.2.2 i _ hi (fun z e => by cases e)) (k p e s m args below meth c F H locs ls hw hL hl)
  · exact lv_iload F.1 F.2.1 d (hl.2.2 i _ hi (fun z e => by cases e)) (k p e s m args below meth c F H locs ls hw hL hl)
def Dlload (c : ByteArray) (pc i pc' : Nat) : Prop := (∃ k : Fin 4, decode c pc = .ok (.lload_n k, 1) ∧ (k : Nat) = i ∧ pc + 1 = pc') ∨ (decode c pc = .ok (.lload i, 2) ∧ pc + 2 = pc')
theorem x_lload {i : Nat} {x : Int64} (d : Dlload M.2.1 pc i pc') (hi : lv[i]? = some (.long x)) (k : Ex Γ M Z cc cn pc' lv (.long x :: st) h sz) : Ex Γ M Z cc cn pc lv st h sz := by
  intro p e s m args below meth c F H locs ls hw hL hl
  rcases d with ⟨q, d, hq, rfl⟩ | ⟨d, rfl⟩
  · exact lv_lload_n F.1 F.2.1 d hq (hl.2.2 i _ hi (fun z e => by cases e)) (k p e s m args below meth c F H locs ls hw hL hl)
  · exact lv_lload F.1 F.2.1 d (hl.2.2 i _ hi (fun z e => by cases e)) (k p e s m args below meth c F H locs ls hw hL hl)
def Daload (c : ByteArray) (pc i pc' : Nat) : Prop := (∃ k : Fin 4, decode c pc = .ok (.aload_n k, 1) ∧ (k : Nat) = i ∧ pc + 1 = pc') ∨ (decode c pc = .ok (.aload i, 2) ∧ pc + 2 = pc')
theorem x_aload {i : Nat} {x : Nat} (d : Daload M.2.1 pc i pc') (hi : lv[i]? = some (.ref x)) (k : Ex Γ M Z cc cn pc' lv (.ref x :: st) h sz) : Ex Γ M Z cc cn pc lv st h sz := by
  intro p e s m args below meth c F H locs ls hw hL hl
  rcases d with ⟨q, d, hq, rfl⟩ | ⟨d, rfl⟩
  · exact lv_aload_n F.1 F.2.1 d hq (hl.2.2 i _ hi (fun z e => by cases e)) (k p e s m args below meth c F H locs ls hw hL hl)
  · exact lv_aload F.1 F.2.1 d (hl.2.2 i _ hi (fun z e => by cases e)) (k p e s m args below meth c F H locs ls hw hL hl)
def Distore (c : ByteArray) (pc i pc' : Nat) : Prop := (∃ k : Fin 4, decode c pc = .ok (.istore_n k, 1) ∧ (k : Nat) = i ∧ pc + 1 = pc') ∨ (decode c pc = .ok (.istore i, 2) ∧ pc + 2 = pc')
theorem x_istore {i : Nat} {x : Int32} (d : Distore M.2.1 pc i pc') (hn : i < M.2.2.1) (hc : lcat lv i = true) (k : Ex Γ M Z cc cn pc' (lv.set i (.int x)) st h sz) : Ex Γ M Z cc cn pc lv (.int x :: st) h sz := by
  intro p e s m args below meth c F H locs ls hw hL hl
  rcases d with ⟨q, d, hq, rfl⟩ | ⟨d, rfl⟩
  · exact lv_istore_n F.1 F.2.1 d hq (lprs_has hl) hn rfl (fun ls' h' => k p e s m args below meth c F H locs ls' hw hL (gx_l.st1 (ls := ls) (v := .int x) hc h'))
  · exact lv_istore F.1 F.2.1 d (lprs_has hl) hn rfl (fun ls' h' => k p e s m args below meth c F H locs ls' hw hL (gx_l.st1 (ls := ls) (v := .int x) hc h'))
def Dlstore (c : ByteArray) (pc i pc' : Nat) : Prop := (∃ k : Fin 4, decode c pc = .ok (.lstore_n k, 1) ∧ (k : Nat) = i ∧ pc + 1 = pc') ∨ (decode c pc = .ok (.lstore i, 2) ∧ pc + 2 = pc')
theorem x_lstore {i : Nat} {x : Int64} (d : Dlstore M.2.1 pc i pc') (hn : i + 1 < M.2.2.1) (hc : lcat lv i = true) (k : Ex Γ M Z cc cn pc' ((lv.set i (.long x)).set (i + 1) (.retAddr 0)) st h sz) : Ex Γ M Z cc cn pc lv (.long x :: st) h sz := by
  intro p e s m args below meth c F H locs ls hw hL hl
  rcases d with ⟨q, d, hq, rfl⟩ | ⟨d, rfl⟩
  · exact lv_lstore_n F.1 F.2.1 d hq (lprs_has hl) hn rfl (fun ls' h' => k p e s m args below meth c F H locs ls' hw hL (gx_l.st2 (ls := ls) (v := .long x) hc h'))
  · exact lv_lstore F.1 F.2.1 d (lprs_has hl) hn rfl (fun ls' h' => k p e s m args below meth c F H locs ls' hw hL (gx_l.st2 (ls := ls) (v := .long x) hc h'))
def Dastore (c : ByteArray) (pc i pc' : Nat) : Prop := (∃ k : Fin 4, decode c pc = .ok (.astore_n k, 1) ∧ (k : Nat) = i ∧ pc + 1 = pc') ∨ (decode c pc = .ok (.astore i, 2) ∧ pc + 2 = pc')
theorem x_astore {i : Nat} {x : Nat} (d : Dastore M.2.1 pc i pc') (hn : i < M.2.2.1) (hc : lcat lv i = true) (k : Ex Γ M Z cc cn pc' (lv.set i (.ref x)) st h sz) : Ex Γ M Z cc cn pc lv (.ref x :: st) h sz := by
  intro p e s m args below meth c F H locs ls hw hL hl
  rcases d with ⟨q, d, hq, rfl⟩ | ⟨d, rfl⟩
  · exact lv_astore_n F.1 F.2.1 d hq (lprs_has hl) hn rfl (fun ls' h' => k p e s m args below meth c F H locs ls' hw hL (gx_l.st1 (ls := ls) (v := .ref x) hc h'))
  · exact lv_astore F.1 F.2.1 d (lprs_has hl) hn rfl (fun ls' h' => k p e s m args below meth c F H locs ls' hw hL (gx_l.st1 (ls := ls) (v := .ref x) hc h'))
theorem x_iinc {i : Nat} {n : Int} {x v : Int32} (d : Dc M.2.1 pc (.iinc i n) 3 pc') (hi : lv[i]? = some (.int x)) (hv : Int32.ofInt n = v) (hn : i < M.2.2.1) (hc : lcat lv i = true) (k : Ex Γ M Z cc cn pc' (lv.set i (.int (x + v))) st h sz) : Ex Γ M Z cc cn pc lv st h sz := by
  obtain ⟨d, rfl⟩ := d
  subst hv
  intro p e s m args below meth c F H locs ls hw hL hl
  obtain ⟨q, hq⟩ := List.getElem?_of_mem (lprs_mem (Γ := Γ) hi (fun z e => by cases e))
  exact lv_iinc F.1 F.2.1 d (lprs_has hl) hq rfl hn rfl (fun ls' h' => k p e s m args below meth c F H locs ls' hw hL (gx_l.st1 (ls := ls) (v := .int (x + Int32.ofInt n)) hc h'))
theorem x_iadd {a b : Int32} (d : Dc M.2.1 pc .iadd 1 pc')  (k : Ex Γ M Z cc cn pc' lv (.int (a + b) :: st) h sz) : Ex Γ M Z cc cn pc lv (.int b :: .int a :: st) h sz := by
  obtain ⟨d, rfl⟩ := d
  intro p e s m args below meth c F H locs ls hw hL hl
  exact lv_iadd F.1 F.2.1 d  (k p e s m args below meth c F H locs ls hw hL hl)
theorem x_isub {a b : Int32} (d : Dc M.2.1 pc .isub 1 pc')  (k : Ex Γ M Z cc cn pc' lv (.int (a - b) :: st) h sz) : Ex Γ M Z cc cn pc lv (.int b :: .int a :: st) h sz := by
  obtain ⟨d, rfl⟩ := d
  intro p e s m args below meth c F H locs ls hw hL hl
  exact lv_isub F.1 F.2.1 d  (k p e s m args below meth c F H locs ls hw hL hl)
theorem x_imul {a b : Int32} (d : Dc M.2.1 pc .imul 1 pc')  (k : Ex Γ M Z cc cn pc' lv (.int (a * b) :: st) h sz) : Ex Γ M Z cc cn pc lv (.int b :: .int a :: st) h sz := by
  obtain ⟨d, rfl⟩ := d
  intro p e s m args below meth c F H locs ls hw hL hl
  exact lv_imul F.1 F.2.1 d  (k p e s m args below meth c F H locs ls hw hL hl)
theorem x_iand {a b : Int32} (d : Dc M.2.1 pc .iand 1 pc')  (k : Ex Γ M Z cc cn pc' lv (.int (a &&& b) :: st) h sz) : Ex Γ M Z cc cn pc lv (.int b :: .int a :: st) h sz := by
  obtain ⟨d, rfl⟩ := d
  intro p e s m args below meth c F H locs ls hw hL hl
  exact lv_iand F.1 F.2.1 d  (k p e s m args below meth c F H locs ls hw hL hl)
theorem x_ior {a b : Int32} (d : Dc M.2.1 pc .ior 1 pc')  (k : Ex Γ M Z cc cn pc' lv (.int (a ||| b) :: st) h sz) : Ex Γ M Z cc cn pc lv (.int b :: .int a :: st) h sz := by
  obtain ⟨d, rfl⟩ := d
  intro p e s m args below meth c F H locs ls hw hL hl
  exact lv_ior F.1 F.2.1 d  (k p e s m args below meth c F H locs ls hw hL hl)
theorem x_ixor {a b : Int32} (d : Dc M.2.1 pc .ixor 1 pc')  (k : Ex Γ M Z cc cn pc' lv (.int (a ^^^ b) :: st) h sz) : Ex Γ M Z cc cn pc lv (.int b :: .int a :: st) h sz := by
  obtain ⟨d, rfl⟩ := d
  intro p e s m args below meth c F H locs ls hw hL hl
  exact lv_ixor F.1 F.2.1 d  (k p e s m args below meth c F H locs ls hw hL hl)
theorem x_ishl {a b : Int32} (d : Dc M.2.1 pc .ishl 1 pc')  (k : Ex Γ M Z cc cn pc' lv (.int (a <<< (b &&& 31)) :: st) h sz) : Ex Γ M Z cc cn pc lv (.int b :: .int a :: st) h sz := by
  obtain ⟨d, rfl⟩ := d
  intro p e s m args below meth c F H locs ls hw hL hl
  exact lv_ishl F.1 F.2.1 d  (k p e s m args below meth c F H locs ls hw hL hl)
theorem x_ishr {a b : Int32} (d : Dc M.2.1 pc .ishr 1 pc')  (k : Ex Γ M Z cc cn pc' lv (.int (a >>> (b &&& 31)) :: st) h sz) : Ex Γ M Z cc cn pc lv (.int b :: .int a :: st) h sz := by
  obtain ⟨d, rfl⟩ := d
  intro p e s m args below meth c F H locs ls hw hL hl
  exact lv_ishr F.1 F.2.1 d  (k p e s m args below meth c F H locs ls hw hL hl)
theorem x_idiv {a b : Int32} (d : Dc M.2.1 pc .idiv 1 pc') (hne : ¬ b = 0) (k : Ex Γ M Z cc cn pc' lv (.int (a / b) :: st) h sz) : Ex Γ M Z cc cn pc lv (.int b :: .int a :: st) h sz := by
  obtain ⟨d, rfl⟩ := d
  intro p e s m args below meth c F H locs ls hw hL hl
  exact lv_idiv F.1 F.2.1 d hne (k p e s m args below meth c F H locs ls hw hL hl)
theorem x_irem {a b : Int32} (d : Dc M.2.1 pc .irem 1 pc') (hne : ¬ b = 0) (k : Ex Γ M Z cc cn pc' lv (.int (a - a / b * b) :: st) h sz) : Ex Γ M Z cc cn pc lv (.int b :: .int a :: st) h sz := by
  obtain ⟨d, rfl⟩ := d
  intro p e s m args below meth c F H locs ls hw hL hl
  exact lv_irem F.1 F.2.1 d hne (k p e s m args below meth c F H locs ls hw hL hl)
theorem x_ineg {a : Int32} (d : Dc M.2.1 pc .ineg 1 pc')  (k : Ex Γ M Z cc cn pc' lv (.int (-a) :: st) h sz) : Ex Γ M Z cc cn pc lv (.int a :: st) h sz := by
  obtain ⟨d, rfl⟩ := d
  intro p e s m args below meth c F H locs ls hw hL hl
  exact lv_ineg F.1 F.2.1 d  (k p e s m args below meth c F H locs ls hw hL hl)
theorem x_ladd {a b : Int64} (d : Dc M.2.1 pc .ladd 1 pc')  (k : Ex Γ M Z cc cn pc' lv (.long (a + b) :: st) h sz) : Ex Γ M Z cc cn pc lv (.long b :: .long a :: st) h sz := by
  obtain ⟨d, rfl⟩ := d
  intro p e s m args below meth c F H locs ls hw hL hl
  exact lv_ladd F.1 F.2.1 d  (k p e s m args below meth c F H locs ls hw hL hl)
theorem x_lmul {a b : Int64} (d : Dc M.2.1 pc .lmul 1 pc')  (k : Ex Γ M Z cc cn pc' lv (.long (a * b) :: st) h sz) : Ex Γ M Z cc cn pc lv (.long b :: .long a :: st) h sz := by
  obtain ⟨d, rfl⟩ := d
  intro p e s m args below meth c F H locs ls hw hL hl
  exact lv_lmul F.1 F.2.1 d  (k p e s m args below meth c F H locs ls hw hL hl)
theorem x_lor {a b : Int64} (d : Dc M.2.1 pc .lor 1 pc')  (k : Ex Γ M Z cc cn pc' lv (.long (a ||| b) :: st) h sz) : Ex Γ M Z cc cn pc lv (.long b :: .long a :: st) h sz := by
  obtain ⟨d, rfl⟩ := d
  intro p e s m args below meth c F H locs ls hw hL hl
  exact lv_lor F.1 F.2.1 d  (k p e s m args below meth c F H locs ls hw hL hl)
theorem x_lshl {a : Int64} {b : Int32} (d : Dc M.2.1 pc .lshl 1 pc')  (k : Ex Γ M Z cc cn pc' lv (.long (a <<< (b.toInt64 &&& 63)) :: st) h sz) : Ex Γ M Z cc cn pc lv (.int b :: .long a :: st) h sz := by
  obtain ⟨d, rfl⟩ := d
  intro p e s m args below meth c F H locs ls hw hL hl
  exact lv_lshl F.1 F.2.1 d rfl (k p e s m args below meth c F H locs ls hw hL hl)
theorem x_lshr {a : Int64} {b : Int32} (d : Dc M.2.1 pc .lshr 1 pc')  (k : Ex Γ M Z cc cn pc' lv (.long (a >>> (b.toInt64 &&& 63)) :: st) h sz) : Ex Γ M Z cc cn pc lv (.int b :: .long a :: st) h sz := by
  obtain ⟨d, rfl⟩ := d
  intro p e s m args below meth c F H locs ls hw hL hl
  exact lv_lshr F.1 F.2.1 d rfl (k p e s m args below meth c F H locs ls hw hL hl)
theorem x_i2l {a : Int32} (d : Dc M.2.1 pc .i2l 1 pc')  (k : Ex Γ M Z cc cn pc' lv (.long a.toInt64 :: st) h sz) : Ex Γ M Z cc cn pc lv (.int a :: st) h sz := by
  obtain ⟨d, rfl⟩ := d
  intro p e s m args below meth c F H locs ls hw hL hl
  exact lv_i2l F.1 F.2.1 d rfl (k p e s m args below meth c F H locs ls hw hL hl)
theorem x_l2i {a : Int64} (d : Dc M.2.1 pc .l2i 1 pc')  (k : Ex Γ M Z cc cn pc' lv (.int a.toInt32 :: st) h sz) : Ex Γ M Z cc cn pc lv (.long a :: st) h sz := by
  obtain ⟨d, rfl⟩ := d
  intro p e s m args below meth c F H locs ls hw hL hl
  exact lv_l2i F.1 F.2.1 d rfl (k p e s m args below meth c F H locs ls hw hL hl)
theorem x_i2b {a : Int32} (d : Dc M.2.1 pc .i2b 1 pc')  (k : Ex Γ M Z cc cn pc' lv (.int a.toInt8.toInt32 :: st) h sz) : Ex Γ M Z cc cn pc lv (.int a :: st) h sz := by
  obtain ⟨d, rfl⟩ := d
  intro p e s m args below meth c F H locs ls hw hL hl
  exact lv_i2b F.1 F.2.1 d rfl (k p e s m args below meth c F H locs ls hw hL hl)
theorem x_i2s {a : Int32} (d : Dc M.2.1 pc .i2s 1 pc')  (k : Ex Γ M Z cc cn pc' lv (.int a.toInt16.toInt32 :: st) h sz) : Ex Γ M Z cc cn pc lv (.int a :: st) h sz := by
  obtain ⟨d, rfl⟩ := d
  intro p e s m args below meth c F H locs ls hw hL hl
  exact lv_i2s F.1 F.2.1 d rfl (k p e s m args below meth c F H locs ls hw hL hl)
theorem x_i2c {a : Int32} (d : Dc M.2.1 pc .i2c 1 pc')  (k : Ex Γ M Z cc cn pc' lv (.int a.toUInt32.toUInt16.toUInt32.toInt32 :: st) h sz) : Ex Γ M Z cc cn pc lv (.int a :: st) h sz := by
  obtain ⟨d, rfl⟩ := d
  intro p e s m args below meth c F H locs ls hw hL hl
  exact lv_i2c F.1 F.2.1 d rfl (k p e s m args below meth c F H locs ls hw hL hl)
theorem x_lcmp {a b : Int64} (d : Dc M.2.1 pc .lcmp 1 pc')  (k : Ex Γ M Z cc cn pc' lv (.int (lg_cmp a b) :: st) h sz) : Ex Γ M Z cc cn pc lv (.long b :: .long a :: st) h sz := by
  obtain ⟨d, rfl⟩ := d
  intro p e s m args below meth c F H locs ls hw hL hl
  exact W.lcmp F.1 F.2.1 d  (k p e s m args below meth c F H locs ls hw hL hl)
theorem x_dup {v : Value} (d : Dc M.2.1 pc .dup 1 pc') (hv : v.category = 1) (k : Ex Γ M Z cc cn pc' lv (v :: v :: st) h sz) : Ex Γ M Z cc cn pc lv (v :: st) h sz := by
  obtain ⟨d, rfl⟩ := d
  intro p e s m args below meth c F H locs ls hw hL hl
  exact lv_dup F.1 F.2.1 d ((gx_v_cat Γ v).trans hv) (k p e s m args below meth c F H locs ls hw hL hl)
theorem x_pop {v : Value} (d : Dc M.2.1 pc .pop 1 pc') (hv : v.category = 1) (k : Ex Γ M Z cc cn pc' lv (st) h sz) : Ex Γ M Z cc cn pc lv (v :: st) h sz := by
  obtain ⟨d, rfl⟩ := d
  intro p e s m args below meth c F H locs ls hw hL hl
  exact lv_pop F.1 F.2.1 d ((gx_v_cat Γ v).trans hv) (k p e s m args below meth c F H locs ls hw hL hl)
theorem x_dup2 {v w : Value} (d : Dc M.2.1 pc .dup2 1 pc') (hv : v.category = 1) (hw2 : w.category = 1) (k : Ex Γ M Z cc cn pc' lv (v :: w :: v :: w :: st) h sz) : Ex Γ M Z cc cn pc lv (v :: w :: st) h sz := by
  obtain ⟨d, rfl⟩ := d
  intro p e s m args below meth c F H locs ls hw hL hl
  exact lv_dup2_11 F.1 F.2.1 d ((gx_v_cat Γ v).trans hv) ((gx_v_cat Γ w).trans hw2) (k p e s m args below meth c F H locs ls hw hL hl)
theorem x_icmp_eq {a b : Int32} {off : Int} (d : Dj M.2.1 pc (.if_icmp .eq off) off 3 pc' tgt) (kt : a = b → Ex Γ M Z cc cn tgt lv st h sz) (kf : ¬ (a = b) → Ex Γ M Z cc cn pc' lv st h sz) : Ex Γ M Z cc cn pc lv (.int b :: .int a :: st) h sz := by
  obtain ⟨d, rfl, ht⟩ := d
  intro p e s m args below meth c F H locs ls hw hL hl
  exact lv_icmp_eq F.1 F.2.1 d ht (fun q => kt (by first | exact q | exact fun z => q z | simpa using q) p e s m args below meth c F H locs ls hw hL hl) (fun q => kf (by first | exact q | simpa using q) p e s m args below meth c F H locs ls hw hL hl)
theorem x_if_eq {a : Int32} {off : Int} (d : Dj M.2.1 pc (.ifCond .eq off) off 3 pc' tgt) (kt : a = 0 → Ex Γ M Z cc cn tgt lv st h sz) (kf : ¬ (a = 0) → Ex Γ M Z cc cn pc' lv st h sz) : Ex Γ M Z cc cn pc lv (.int a :: st) h sz := by
  obtain ⟨d, rfl, ht⟩ := d
  intro p e s m args below meth c F H locs ls hw hL hl
  exact lv_if_eq F.1 F.2.1 d ht (fun q => kt (by first | exact q | exact fun z => q z | simpa using q) p e s m args below meth c F H locs ls hw hL hl) (fun q => kf (by first | exact q | simpa using q) p e s m args below meth c F H locs ls hw hL hl)
theorem x_icmp_ne {a b : Int32} {off : Int} (d : Dj M.2.1 pc (.if_icmp .ne off) off 3 pc' tgt) (kt : ¬ a = b → Ex Γ M Z cc cn tgt lv st h sz) (kf : ¬ (¬ a = b) → Ex Γ M Z cc cn pc' lv st h sz) : Ex Γ M Z cc cn pc lv (.int b :: .int a :: st) h sz := by
  obtain ⟨d, rfl, ht⟩ := d
  intro p e s m args below meth c F H locs ls hw hL hl
  exact lv_icmp_ne F.1 F.2.1 d ht (fun q => kt (by first | exact q | exact fun z => q z | simpa using q) p e s m args below meth c F H locs ls hw hL hl) (fun q => kf (by first | exact q | simpa using q) p e s m args below meth c F H locs ls hw hL hl)
theorem x_if_ne {a : Int32} {off : Int} (d : Dj M.2.1 pc (.ifCond .ne off) off 3 pc' tgt) (kt : ¬ a = 0 → Ex Γ M Z cc cn tgt lv st h sz) (kf : ¬ (¬ a = 0) → Ex Γ M Z cc cn pc' lv st h sz) : Ex Γ M Z cc cn pc lv (.int a :: st) h sz := by
  obtain ⟨d, rfl, ht⟩ := d
  intro p e s m args below meth c F H locs ls hw hL hl
  exact lv_if_ne F.1 F.2.1 d ht (fun q => kt (by first | exact q | exact fun z => q z | simpa using q) p e s m args below meth c F H locs ls hw hL hl) (fun q => kf (by first | exact q | simpa using q) p e s m args below meth c F H locs ls hw hL hl)
theorem x_icmp_lt {a b : Int32} {off : Int} (d : Dj M.2.1 pc (.if_icmp .lt off) off 3 pc' tgt) (kt : a < b → Ex Γ M Z cc cn tgt lv st h sz) (kf : ¬ (a < b) → Ex Γ M Z cc cn pc' lv st h sz) : Ex Γ M Z cc cn pc lv (.int b :: .int a :: st) h sz := by
  obtain ⟨d, rfl, ht⟩ := d
  intro p e s m args below meth c F H locs ls hw hL hl
  exact lv_icmp_lt F.1 F.2.1 d ht (fun q => kt (by first | exact q | exact fun z => q z | simpa using q) p e s m args below meth c F H locs ls hw hL hl) (fun q => kf (by first | exact q | simpa using q) p e s m args below meth c F H locs ls hw hL hl)
theorem x_if_lt {a : Int32} {off : Int} (d : Dj M.2.1 pc (.ifCond .lt off) off 3 pc' tgt) (kt : a < 0 → Ex Γ M Z cc cn tgt lv st h sz) (kf : ¬ (a < 0) → Ex Γ M Z cc cn pc' lv st h sz) : Ex Γ M Z cc cn pc lv (.int a :: st) h sz := by
  obtain ⟨d, rfl, ht⟩ := d
  intro p e s m args below meth c F H locs ls hw hL hl
  exact lv_if_lt F.1 F.2.1 d ht (fun q => kt (by first | exact q | exact fun z => q z | simpa using q) p e s m args below meth c F H locs ls hw hL hl) (fun q => kf (by first | exact q | simpa using q) p e s m args below meth c F H locs ls hw hL hl)
theorem x_icmp_ge {a b : Int32} {off : Int} (d : Dj M.2.1 pc (.if_icmp .ge off) off 3 pc' tgt) (kt : b ≤ a → Ex Γ M Z cc cn tgt lv st h sz) (kf : ¬ (b ≤ a) → Ex Γ M Z cc cn pc' lv st h sz) : Ex Γ M Z cc cn pc lv (.int b :: .int a :: st) h sz := by
  obtain ⟨d, rfl, ht⟩ := d
  intro p e s m args below meth c F H locs ls hw hL hl
  exact lv_icmp_ge F.1 F.2.1 d ht (fun q => kt (by first | exact q | exact fun z => q z | simpa using q) p e s m args below meth c F H locs ls hw hL hl) (fun q => kf (by first | exact q | simpa using q) p e s m args below meth c F H locs ls hw hL hl)
theorem x_if_ge {a : Int32} {off : Int} (d : Dj M.2.1 pc (.ifCond .ge off) off 3 pc' tgt) (kt : 0 ≤ a → Ex Γ M Z cc cn tgt lv st h sz) (kf : ¬ (0 ≤ a) → Ex Γ M Z cc cn pc' lv st h sz) : Ex Γ M Z cc cn pc lv (.int a :: st) h sz := by
  obtain ⟨d, rfl, ht⟩ := d
  intro p e s m args below meth c F H locs ls hw hL hl
  exact lv_if_ge F.1 F.2.1 d ht (fun q => kt (by first | exact q | exact fun z => q z | simpa using q) p e s m args below meth c F H locs ls hw hL hl) (fun q => kf (by first | exact q | simpa using q) p e s m args below meth c F H locs ls hw hL hl)
theorem x_icmp_gt {a b : Int32} {off : Int} (d : Dj M.2.1 pc (.if_icmp .gt off) off 3 pc' tgt) (kt : b < a → Ex Γ M Z cc cn tgt lv st h sz) (kf : ¬ (b < a) → Ex Γ M Z cc cn pc' lv st h sz) : Ex Γ M Z cc cn pc lv (.int b :: .int a :: st) h sz := by
  obtain ⟨d, rfl, ht⟩ := d
  intro p e s m args below meth c F H locs ls hw hL hl
  exact lv_icmp_gt F.1 F.2.1 d ht (fun q => kt (by first | exact q | exact fun z => q z | simpa using q) p e s m args below meth c F H locs ls hw hL hl) (fun q => kf (by first | exact q | simpa using q) p e s m args below meth c F H locs ls hw hL hl)
theorem x_if_gt {a : Int32} {off : Int} (d : Dj M.2.1 pc (.ifCond .gt off) off 3 pc' tgt) (kt : 0 < a → Ex Γ M Z cc cn tgt lv st h sz) (kf : ¬ (0 < a) → Ex Γ M Z cc cn pc' lv st h sz) : Ex Γ M Z cc cn pc lv (.int a :: st) h sz := by
  obtain ⟨d, rfl, ht⟩ := d
  intro p e s m args below meth c F H locs ls hw hL hl
  exact lv_if_gt F.1 F.2.1 d ht (fun q => kt (by first | exact q | exact fun z => q z | simpa using q) p e s m args below meth c F H locs ls hw hL hl) (fun q => kf (by first | exact q | simpa using q) p e s m args below meth c F H locs ls hw hL hl)
theorem x_icmp_le {a b : Int32} {off : Int} (d : Dj M.2.1 pc (.if_icmp .le off) off 3 pc' tgt) (kt : a ≤ b → Ex Γ M Z cc cn tgt lv st h sz) (kf : ¬ (a ≤ b) → Ex Γ M Z cc cn pc' lv st h sz) : Ex Γ M Z cc cn pc lv (.int b :: .int a :: st) h sz := by
  obtain ⟨d, rfl, ht⟩ := d
  intro p e s m args below meth c F H locs ls hw hL hl
  exact lv_icmp_le F.1 F.2.1 d ht (fun q => kt (by first | exact q | exact fun z => q z | simpa using q) p e s m args below meth c F H locs ls hw hL hl) (fun q => kf (by first | exact q | simpa using q) p e s m args below meth c F H locs ls hw hL hl)
theorem x_if_le {a : Int32} {off : Int} (d : Dj M.2.1 pc (.ifCond .le off) off 3 pc' tgt) (kt : a ≤ 0 → Ex Γ M Z cc cn tgt lv st h sz) (kf : ¬ (a ≤ 0) → Ex Γ M Z cc cn pc' lv st h sz) : Ex Γ M Z cc cn pc lv (.int a :: st) h sz := by
  obtain ⟨d, rfl, ht⟩ := d
  intro p e s m args below meth c F H locs ls hw hL hl
  exact lv_if_le F.1 F.2.1 d ht (fun q => kt (by first | exact q | exact fun z => q z | simpa using q) p e s m args below meth c F H locs ls hw hL hl) (fun q => kf (by first | exact q | simpa using q) p e s m args below meth c F H locs ls hw hL hl)
theorem x_goto {off : Int} (d : Dj M.2.1 pc (.goto off) off 3 pc' tgt) (k : Ex Γ M Z cc cn tgt lv st h sz) : Ex Γ M Z cc cn pc lv st h sz := by
  obtain ⟨d, rfl, ht⟩ := d
  intro p e s m args below meth c F H locs ls hw hL hl
  exact lv_goto F.1 F.2.1 d ht (k p e s m args below meth c F H locs ls hw hL hl)
theorem x_ifnull {off : Int} {q : Nat} (d : Dj M.2.1 pc (.ifnull off) off 3 pc' tgt) (k : Ex Γ M Z cc cn pc' lv st h sz) : Ex Γ M Z cc cn pc lv (.ref q :: st) h sz := by
  obtain ⟨d, rfl, ht⟩ := d
  intro p e s m args below meth c F H locs ls hw hL hl
  exact lv_ifnull F.1 F.2.1 d (k p e s m args below meth c F H locs ls hw hL hl)
theorem x_ifnonnull {off : Int} {q : Nat} (d : Dj M.2.1 pc (.ifnonnull off) off 3 pc' tgt) (k : Ex Γ M Z cc cn tgt lv st h sz) : Ex Γ M Z cc cn pc lv (.ref q :: st) h sz := by
  obtain ⟨d, rfl, ht⟩ := d
  intro p e s m args below meth c F H locs ls hw hL hl
  exact lv_ifnonnull F.1 F.2.1 d ht (k p e s m args below meth c F H locs ls hw hL hl)
theorem x_ifnullN {off : Int} (d : Dj M.2.1 pc (.ifnull off) off 3 pc' tgt) (k : Ex Γ M Z cc cn tgt lv st h sz) : Ex Γ M Z cc cn pc lv (.null :: st) h sz := by
  obtain ⟨d, rfl, ht⟩ := d
  intro p e s m args below meth c F H locs ls hw hL hl
  exact lv_ifnullN F.1 F.2.1 d ht (k p e s m args below meth c F H locs ls hw hL hl)
theorem x_ifnonnullN {off : Int} (d : Dj M.2.1 pc (.ifnonnull off) off 3 pc' tgt) (k : Ex Γ M Z cc cn pc' lv st h sz) : Ex Γ M Z cc cn pc lv (.null :: st) h sz := by
  obtain ⟨d, rfl, ht⟩ := d
  intro p e s m args below meth c F H locs ls hw hL hl
  exact lv_ifnonnullN F.1 F.2.1 d (k p e s m args below meth c F H locs ls hw hL hl)
theorem x_swOut {dflt lo hi : Int} {offs : Array Int} {len : Nat} {x : Int32} (d : Dj M.2.1 pc (.tableswitch dflt lo hi offs) dflt len pc' tgt) (hx : x.toInt < lo ∨ hi < x.toInt) (k : Ex Γ M Z cc cn tgt lv st h sz) : Ex Γ M Z cc cn pc lv (.int x :: st) h sz := by
  obtain ⟨d, rfl, ht⟩ := d
  intro p e s m args below meth c F H locs ls hw hL hl
  exact lv_tableOut F.1 F.2.1 d hx ht (k p e s m args below meth c F H locs ls hw hL hl)
theorem x_swIn {dflt lo hi off : Int} {offs : Array Int} {len : Nat} {x : Int32} {tgt2 : Nat} (d : Dj M.2.1 pc (.tableswitch dflt lo hi offs) dflt len pc' tgt2) (h1 : ¬ x.toInt < lo) (h2 : ¬ hi < x.toInt) (ho : offs[(x.toInt - lo).toNat]? = some off) (ht : (pc : Int) + off = (tgt : Int)) (k : Ex Γ M Z cc cn tgt lv st h sz) : Ex Γ M Z cc cn pc lv (.int x :: st) h sz := by
  obtain ⟨d, rfl, -⟩ := d
  intro p e s m args below meth c F H locs ls hw hL hl
  exact lv_tableIn F.1 F.2.1 d h1 h2 ho ht (k p e s m args below meth c F H locs ls hw hL hl)
end Rows
end
section
theorem arr_I : Cond.arrayClass (newarray.typeOf .int) ∈ gtbl := gt_at 112 (by decide +kernel) rfl
theorem arr_L : Cond.arrayClass (newarray.typeOf .long) ∈ gtbl := gt_at 741 (by decide +kernel) rfl
theorem arr_S : Cond.arrayClass (newarray.typeOf .short) ∈ gtbl := gt_at 826 (by decide +kernel) rfl
theorem arr_Z : Cond.arrayClass (newarray.typeOf .boolean) ∈ gtbl := gt_at 1074 (by decide +kernel) rfl
section Heap1
variable {Γ : GX} {M : MI} {Z : ZT} {cc cn pc pc' tgt : Nat} {lv st : List Value} {h : Hp} {sz : Nat}
/-- field k of class ci, as the class own links it by its entry idx -/
def Fl (own : String) (idx ci k : Nat) : Prop := ∃ (C : String) (T : u_T) (N : Nat), kls[ci]? = some (C, T, N) ∧ k < N ∧ (∀ w ∈ u_ws C T N, w ∈ gtbl) ∧ Cond.fieldLink own idx (T k).1 (T k).2.1 (T k).2.2.1 ∈ gtbl
theorem vp_V_map (Γ : GX) (fs : List Value) (k : Nat) : vp_V (fs.map (gx_v Γ)) k = gx_v Γ (fs.getD k .null) := by
  simp only [vp_V, List.getD_eq_getElem?_getD, List.getElem?_map]
  cases fs[k]? <;> rfl
theorem x_get {idx ci k a : Nat} {fs : List Value} (f : Fl M.1.cls idx ci k) (d : Dc M.2.1 pc (.getfield idx) 3 pc') (ha : h a = some (.inr (ci, fs))) (kk : Ex Γ M Z cc cn pc' lv (fs.getD k .null :: st) h sz) : Ex Γ M Z cc cn pc lv (.ref a :: st) h sz := by
  obtain ⟨d, rfl⟩ := d
  obtain ⟨C, T, N, hc, hk, hin, hlk⟩ := f
  intro p e s m args below meth c F H locs ls hw hL hl
  obtain ⟨-, -, r, h1, h2⟩ := hw.2.2.2.1 a _ ha
  have hr : r = (C, T, N) := Option.some.inj (h1.symm.trans hc)
  subst hr
  obtain ⟨cell, q1, q2, q3, q4⟩ := h2
  obtain ⟨hS, hfc, kC, hkC, hkind⟩ := hw.1.1 ci _ hc
  obtain ⟨cf, kf, fi, f, hi, hsl⟩ := hS k hk
  refine W.getf F.1 F.2.1 F.2.2.2.2.1 (F.2.2.2.2.2.1 _ hlk) hi (u_facts hfc hkC (u_lays F.2.2.2.2.2.1 hin hk) hi).1 q1 (by rw [q3]; exact fun h => by cases h) (v := gx_v Γ (fs.getD k .null)) ?_ rfl rfl d (kk p e s m args below meth c F H locs ls hw hL hl)
  rw [hsl, q4 k hk, vp_V_map]
/-- what may stand in field k of class ci -/
def Fw (ci k : Nat) (v : Value) : Prop := ∃ (C : String) (T : u_T) (N : Nat) (ty : FieldType), kls[ci]? = some (C, T, N) ∧ parseFieldDescriptor (T k).2.2.1 = some ty ∧ narrow ty v = v ∧ fits ty v = true
def Tt (ci : Nat) : Prop := ∃ (C : String) (T : u_T) (N : Nat) (ty0 : Nat → FieldType), kls[ci]? = some (C, T, N) ∧ (∀ k, k < N → parseFieldDescriptor (T k).2.2.1 = some (ty0 k)) ∧ (∀ a, a < N → ∀ b, b < N → a ≠ b → (T a).2.1 ≠ (T b).2.1) ∧ (∀ w ∈ u_ws C T N, w ∈ gtbl)
def Ff (ci k : Nat) (own : String) (fin : Bool) : Prop := ∃ (C : String) (T : u_T) (N : Nat), kls[ci]? = some (C, T, N) ∧ (T k).2.2.2 = fin ∧ (fin = true → (T k).1 = own)
theorem narrow_gx {Γ : GX} {ty : FieldType} {v : Value} (h1 : narrow ty v = v) (h2 : fits ty v = true) : narrow ty (gx_v Γ v) = gx_v Γ v ∧ fits ty (gx_v Γ v) = true := by
  cases v <;> first | exact ⟨h1, h2⟩ | (cases ty <;> first | exact ⟨rfl, h2⟩ | exact ⟨rfl, rfl⟩ | (simp [fits] at h2))
theorem vp_V_set (Γ : GX) (fs : List Value) {k : Nat} (hk : k < fs.length) (v : Value) (j : Nat) : updV (vp_V (fs.map (gx_v Γ))) k (gx_v Γ v) j = vp_V ((fs.set k v).map (gx_v Γ)) j := by
  rw [List.map_set]
  exact vp_updV_set (by rw [List.length_map]; exact hk) (gx_v Γ v) j
theorem locs_add {Γ : GX} {locs : List Loc} {a q : Nat} (hL : ∀ q ∈ locs, Γ.2.2.1 ≤ q.base) (h4 : 4 ≤ a) : ∀ l ∈ locs ++ [⟨gx_ad Γ a, q⟩], Γ.2.2.1 ≤ l.base := by
  intro l hl
  rcases List.mem_append.mp hl with h | h
  · exact hL l h
  · cases List.mem_singleton.mp h
    show Γ.2.2.1 ≤ gx_ad Γ a
    rw [gx_ad4 Γ h4]; omega
theorem x_put {idx ci k a : Nat} {fs : List Value} {v : Value} (f : Fl M.1.cls idx ci k) (t : Tt ci) (g : Ff ci k M.1.cls false) (d : Dc M.2.1 pc (.putfield idx) 3 pc') (ha : h a = some (.inr (ci, fs))) (hk2 : k < fs.length) (hv : Fw ci k v)
    (kk : Ex Γ M Z cc cn pc' lv st (va_up h a (some (.inr (ci, fs.set k v)))) sz) : Ex Γ M Z cc cn pc lv (v :: .ref a :: st) h sz := by
  obtain ⟨d, rfl⟩ := d
  obtain ⟨C, T, N, hc, hk, hin, hlk⟩ := f
  obtain ⟨C1, T1, N1, ty0, hc1, hty, hnm, -⟩ := t
  have e1 := hc.symm.trans hc1
  cases e1
  obtain ⟨C1, T1, N1, hc1, hfin, hdecl⟩ := g
  have e1 := hc.symm.trans hc1
  cases e1
  obtain ⟨C1, T1, N1, ty, hc1, hd, hn, hfit⟩ := hv
  have e1 := hc.symm.trans hc1
  cases e1
  obtain ⟨hn, hfit⟩ := narrow_gx (Γ := Γ) hn hfit
  intro p e s m args below meth c F H locs ls hw hL hl
  obtain ⟨h4, -, r, h1, cell, q1, q2, q3, q4⟩ := hw.2.2.2.1 a _ ha
  have hr : r = (C, T, N) := Option.some.inj (h1.symm.trans hc)
  subst hr
  have hap := va_apart (own := M.1.cls) (cl := kls) (D := Γ.2.1) F.2.2.2.2.2.1 hin ty0 hty hnm hw.1 hc
  obtain ⟨hS, hfc, kC, hkC, hkind⟩ := hw.1.1 ci _ hc
  obtain ⟨cf, kf, fi, f, hi, hsl⟩ := hS k hk
  have hlay := F.2.2.2.2.2.1 _ (hin _ (u_in_lay hk))
  unfold u_lay at hlay
  have hst := (u_facts hfc hkC (u_lays F.2.2.2.2.2.1 hin hk) hi).1
  rw [if_neg (by rw [hfin]; decide)] at hlay
  have h6 := u_store hfc hkC hkind hlay hi hd hn hfit
  refine W.putK F.1 F.2.1 (f := f) ⟨F.2.2.2.2.1, F.2.2.2.2.2.1 _ hlk, ⟨_, _, _, hi⟩, hst⟩ (by rw [q2]; exact h6) q1 q3 (by rw [hsl]; exact k2_hasslot (q4 k hk)) rfl rfl d fun H' e1 e2 e3 => ?_
  rw [hsl] at e1 ⊢
  exact kk p e s m args below meth c F H' _ ls (hw.set ha e2 e3 ⟨_, hc, t_OB.to (V := updV (vp_V (fs.map (gx_v Γ))) k (gx_v Γ v)) ⟨_, e1, q2, q3, t_set q4 hap hk (gx_v Γ v)⟩ (fun j _ => vp_V_set Γ fs hk2 v j)⟩) (locs_add hL h4) hl
theorem x_putF {idx ci k a : Nat} {fs : List Value} {v : Value} (f : Fl M.1.cls idx ci k) (t : Tt ci) (g : Ff ci k M.1.cls true) (hinit : M.1.name = "<init>") (d : Dc M.2.1 pc (.putfield idx) 3 pc') (ha : h a = some (.inr (ci, fs))) (hk2 : k < fs.length) (hv : Fw ci k v)
    (kk : Ex Γ M Z cc cn pc' lv st (va_up h a (some (.inr (ci, fs.set k v)))) sz) : Ex Γ M Z cc cn pc lv (v :: .ref a :: st) h sz := by
  obtain ⟨d, rfl⟩ := d
  obtain ⟨C, T, N, hc, hk, hin, hlk⟩ := f
  obtain ⟨C1, T1, N1, ty0, hc1, hty, hnm, -⟩ := t
  have e1 := hc.symm.trans hc1
  cases e1
  obtain ⟨C1, T1, N1, hc1, hfin, hdecl⟩ := g
  have e1 := hc.symm.trans hc1
  cases e1
  obtain ⟨C1, T1, N1, ty, hc1, hd, hn, hfit⟩ := hv
  have e1 := hc.symm.trans hc1
  cases e1
  obtain ⟨hn, hfit⟩ := narrow_gx (Γ := Γ) hn hfit
  intro p e s m args below meth c F H locs ls hw hL hl
  obtain ⟨h4, -, r, h1, cell, q1, q2, q3, q4⟩ := hw.2.2.2.1 a _ ha
  have hr : r = (C, T, N) := Option.some.inj (h1.symm.trans hc)
  subst hr
  have hap := va_apart (own := M.1.cls) (cl := kls) (D := Γ.2.1) F.2.2.2.2.2.1 hin ty0 hty hnm hw.1 hc
  obtain ⟨hS, hfc, kC, hkC, hkind⟩ := hw.1.1 ci _ hc
  obtain ⟨cf, kf, fi, f, hi, hsl⟩ := hS k hk
  have hlay := F.2.2.2.2.2.1 _ (hin _ (u_in_lay hk))
  unfold u_lay at hlay
  have hst := (u_facts hfc hkC (u_lays F.2.2.2.2.2.1 hin hk) hi).1
  rw [if_pos hfin] at hlay
  have hcf : m.cls = cf := by
    obtain ⟨_, _, c', _, _, _, -, -, hf', -, -, -, hown2, -⟩ := Cond.laysFinal_spec hlay
    have e1 : c' = cf := by have := hi.symm.trans hf'; simp at this; exact this.1.symm
    rw [hdecl rfl] at hown2
    rw [← e1]; exact Option.some.inj (F.2.2.2.2.1.symm.trans hown2)
  have h6 := u_fits hfc hkC hkind (Or.inr hlay) hi hd hn hfit
  refine W.putFinK F.1 F.2.1 F.2.2.2.2.1 (F.2.2.2.2.2.1 _ hlk) hi hst hcf (F.2.2.2.2.2.2.2.1.trans hinit) (by rw [q2]; exact h6) q1 q3 (by rw [hsl]; exact k2_hasslot (q4 k hk)) rfl rfl d fun H' e1 e2 e3 => ?_
  rw [hsl] at e1 ⊢
  exact kk p e s m args below meth c F H' _ ls (hw.set ha e2 e3 ⟨_, hc, t_OB.to (V := updV (vp_V (fs.map (gx_v Γ))) k (gx_v Γ v)) ⟨_, e1, q2, q3, t_set q4 hap hk (gx_v Γ v)⟩ (fun j _ => vp_V_set Γ fs hk2 v j)⟩) (locs_add hL h4) hl
theorem x_iald {a n : Nat} {f : Nat → Int32} {i : Int32} (d : Dc M.2.1 pc .iaload 1 pc') (ha : h a = some (.inl (.int, n, .inl f))) (hi : vp_in i n) (kk : Ex Γ M Z cc cn pc' lv (.int (f i.toNatClampNeg) :: st) h sz) : Ex Γ M Z cc cn pc lv (.int i :: .ref a :: st) h sz := by
  obtain ⟨d, rfl⟩ := d
  intro p e s m args below meth c F H locs ls hw hL hl
  obtain ⟨-, -, cA, h1, h2, h3⟩ := hw.2.2.2.1 a _ ha
  have hlt : i.toNatClampNeg < n := Nat.not_le.mp fun q => hi (Or.inr q)
  exact W.iald (v := .int (f i.toNatClampNeg)) F.1 F.2.1 h3 (h1 n (fun j => .int (f j))) (fun q => by cases q) (by show ¬ (i < 0 ∨ (arrV _ _ _).slots.size ≤ _); rw [arrV_size]; exact hi) (by show (arrV cA n _).slots[_]? = _; rw [arrV_read _ _ hlt]) rfl rfl d (kk p e s m args below meth c F H locs ls hw hL hl)
theorem x_sald {a n : Nat} {f : Nat → Int32} {i : Int32} (d : Dc M.2.1 pc .saload 1 pc') (ha : h a = some (.inl (.short, n, .inl f))) (hi : vp_in i n) (kk : Ex Γ M Z cc cn pc' lv (.int (f i.toNatClampNeg) :: st) h sz) : Ex Γ M Z cc cn pc lv (.int i :: .ref a :: st) h sz := by
  obtain ⟨d, rfl⟩ := d
  intro p e s m args below meth c F H locs ls hw hL hl
  obtain ⟨-, -, cA, h1, h2, h3⟩ := hw.2.2.2.1 a _ ha
  have hlt : i.toNatClampNeg < n := Nat.not_le.mp fun q => hi (Or.inr q)
  exact W.sald (v := .int (f i.toNatClampNeg)) F.1 F.2.1 h3 (h1 n (fun j => .int (f j))) (fun q => by cases q) (by show ¬ (i < 0 ∨ (arrV _ _ _).slots.size ≤ _); rw [arrV_size]; exact hi) (by show (arrV cA n _).slots[_]? = _; rw [arrV_read _ _ hlt]) rfl rfl d (kk p e s m args below meth c F H locs ls hw hL hl)
theorem x_zald {a n : Nat} {f : Nat → Int32} {i : Int32} (d : Dc M.2.1 pc .baload 1 pc') (ha : h a = some (.inl (.boolean, n, .inl f))) (hi : vp_in i n) (kk : Ex Γ M Z cc cn pc' lv (.int (f i.toNatClampNeg) :: st) h sz) : Ex Γ M Z cc cn pc lv (.int i :: .ref a :: st) h sz := by
  obtain ⟨d, rfl⟩ := d
  intro p e s m args below meth c F H locs ls hw hL hl
  obtain ⟨-, -, cA, h1, h2, h3⟩ := hw.2.2.2.1 a _ ha
  have hlt : i.toNatClampNeg < n := Nat.not_le.mp fun q => hi (Or.inr q)
  exact W.zald (v := .int (f i.toNatClampNeg)) F.1 F.2.1 h3 (h1 n (fun j => .int (f j))) (fun q => by cases q) (by show ¬ (i < 0 ∨ (arrV _ _ _).slots.size ≤ _); rw [arrV_size]; exact hi) (by show (arrV cA n _).slots[_]? = _; rw [arrV_read _ _ hlt]) rfl rfl d (kk p e s m args below meth c F H locs ls hw hL hl)
theorem x_bald {a n : Nat} {f : Nat → Int32} {i : Int32} (d : Dc M.2.1 pc .baload 1 pc') (ha : h a = some (.inl (.byte, n, .inl f))) (hi : vp_in i n) (kk : Ex Γ M Z cc cn pc' lv (.int (f i.toNatClampNeg) :: st) h sz) : Ex Γ M Z cc cn pc lv (.int i :: .ref a :: st) h sz := by
  obtain ⟨d, rfl⟩ := d
  intro p e s m args below meth c F H locs ls hw hL hl
  obtain ⟨-, -, cA, h1, h2, h3⟩ := hw.2.2.2.1 a _ ha
  have hlt : i.toNatClampNeg < n := Nat.not_le.mp fun q => hi (Or.inr q)
  exact W.bald (v := .int (f i.toNatClampNeg)) F.1 F.2.1 h3 (h1 n (fun j => .int (f j))) (fun q => by cases q) (by show ¬ (i < 0 ∨ (arrV _ _ _).slots.size ≤ _); rw [arrV_size]; exact hi) (by show (arrV cA n _).slots[_]? = _; rw [arrV_read _ _ hlt]) rfl rfl d (kk p e s m args below meth c F H locs ls hw hL hl)
theorem x_lald {a n : Nat} {f : Nat → Int64} {i : Int32} (d : Dc M.2.1 pc .laload 1 pc') (ha : h a = some (.inl (.long, n, .inr (.inl f)))) (hi : vp_in i n) (kk : Ex Γ M Z cc cn pc' lv (.long (f i.toNatClampNeg) :: st) h sz) : Ex Γ M Z cc cn pc lv (.int i :: .ref a :: st) h sz := by
  obtain ⟨d, rfl⟩ := d
  intro p e s m args below meth c F H locs ls hw hL hl
  obtain ⟨-, -, cA, h1, h2, h3⟩ := hw.2.2.2.1 a _ ha
  have hlt : i.toNatClampNeg < n := Nat.not_le.mp fun q => hi (Or.inr q)
  exact W.lald (v := .long (f i.toNatClampNeg)) F.1 F.2.1 h3 (h1 n (fun j => .long (f j))) (fun q => by cases q) (by show ¬ (i < 0 ∨ (arrV _ _ _).slots.size ≤ _); rw [arrV_size]; exact hi) (by show (arrV cA n _).slots[_]? = _; rw [arrV_read _ _ hlt]) rfl rfl d (kk p e s m args below meth c F H locs ls hw hL hl)
theorem x_iast {a n : Nat} {f : Nat → Int32} {i : Int32} {x : Int32} (d : Dc M.2.1 pc .iastore 1 pc') (ha : h a = some (.inl (.int, n, .inl f))) (hi : vp_in i n) (kk : Ex Γ M Z cc cn pc' lv st (va_up h a (some (.inl (.int, n, .inl (upd f i.toNatClampNeg (x)))))) sz) : Ex Γ M Z cc cn pc lv (.int x :: .int i :: .ref a :: st) h sz := by
  obtain ⟨d, rfl⟩ := d
  intro p e s m args below meth c F H locs ls hw hL hl
  obtain ⟨h4, -, cA, h1, h2, h3⟩ := hw.2.2.2.1 a _ ha
  refine W.iast F.1 F.2.1 h3 (h1 n (fun j => .int (f j))) (fun q => by cases q) (by show ¬ (i < 0 ∨ (arrV _ _ _).slots.size ≤ _); rw [arrV_size]; exact hi) rfl rfl d fun H1 e1 z oq => ?_
  refine kk p e s m args below meth c F H1 _ ls (hw.set ha z oq ⟨cA, h1, h2, ?_⟩) (locs_add hL h4) hl
  show H1[gx_ad Γ a]? = some (vp_cell _ _)
  rw [e1]
  show some ((vp_cell cA (n, .inl f)).setSlot _ _) = some (vp_cell cA (n, .inl (upd f i.toNatClampNeg (x))))
  rw [vp_cell_i, vp_cell_i, arrV_store]
  congr 2
  funext q
  by_cases hq : q = i.toNatClampNeg
  · subst hq
    simp [updV, upd, vp_updL, narrow]
  · simp [updV, upd, vp_updL, hq]
theorem x_sast {a n : Nat} {f : Nat → Int32} {i : Int32} {x : Int32} (d : Dc M.2.1 pc .sastore 1 pc') (ha : h a = some (.inl (.short, n, .inl f))) (hi : vp_in i n) (kk : Ex Γ M Z cc cn pc' lv st (va_up h a (some (.inl (.short, n, .inl (upd f i.toNatClampNeg (x.toInt16.toInt32)))))) sz) : Ex Γ M Z cc cn pc lv (.int x :: .int i :: .ref a :: st) h sz := by
  obtain ⟨d, rfl⟩ := d
  intro p e s m args below meth c F H locs ls hw hL hl
  obtain ⟨h4, -, cA, h1, h2, h3⟩ := hw.2.2.2.1 a _ ha
  refine W.sast F.1 F.2.1 h3 (h1 n (fun j => .int (f j))) (fun q => by cases q) (by show ¬ (i < 0 ∨ (arrV _ _ _).slots.size ≤ _); rw [arrV_size]; exact hi) rfl rfl d fun H1 e1 z oq => ?_
  refine kk p e s m args below meth c F H1 _ ls (hw.set ha z oq ⟨cA, h1, h2, ?_⟩) (locs_add hL h4) hl
  show H1[gx_ad Γ a]? = some (vp_cell _ _)
  rw [e1]
  show some ((vp_cell cA (n, .inl f)).setSlot _ _) = some (vp_cell cA (n, .inl (upd f i.toNatClampNeg (x.toInt16.toInt32))))
  rw [vp_cell_i, vp_cell_i, arrV_store]
  congr 2
  funext q
  by_cases hq : q = i.toNatClampNeg
  · subst hq
    simp [updV, upd, vp_updL, narrow]
  · simp [updV, upd, vp_updL, hq]
theorem x_zast {a n : Nat} {f : Nat → Int32} {i : Int32} {x : Int32} (d : Dc M.2.1 pc .bastore 1 pc') (ha : h a = some (.inl (.boolean, n, .inl f))) (hi : vp_in i n) (kk : Ex Γ M Z cc cn pc' lv st (va_up h a (some (.inl (.boolean, n, .inl (upd f i.toNatClampNeg (x &&& 1)))))) sz) : Ex Γ M Z cc cn pc lv (.int x :: .int i :: .ref a :: st) h sz := by
  obtain ⟨d, rfl⟩ := d
  intro p e s m args below meth c F H locs ls hw hL hl
  obtain ⟨h4, -, cA, h1, h2, h3⟩ := hw.2.2.2.1 a _ ha
  refine W.zast F.1 F.2.1 h3 (h1 n (fun j => .int (f j))) (fun q => by cases q) (by show ¬ (i < 0 ∨ (arrV _ _ _).slots.size ≤ _); rw [arrV_size]; exact hi) rfl rfl d fun H1 e1 z oq => ?_
  refine kk p e s m args below meth c F H1 _ ls (hw.set ha z oq ⟨cA, h1, h2, ?_⟩) (locs_add hL h4) hl
  show H1[gx_ad Γ a]? = some (vp_cell _ _)
  rw [e1]
  show some ((vp_cell cA (n, .inl f)).setSlot _ _) = some (vp_cell cA (n, .inl (upd f i.toNatClampNeg (x &&& 1))))
  rw [vp_cell_i, vp_cell_i, arrV_store]
  congr 2
  funext q
  by_cases hq : q = i.toNatClampNeg
  · subst hq
    simp [updV, upd, vp_updL, narrow]
  · simp [updV, upd, vp_updL, hq]
theorem x_last {a n : Nat} {f : Nat → Int64} {i : Int32} {x : Int64} (d : Dc M.2.1 pc .lastore 1 pc') (ha : h a = some (.inl (.long, n, .inr (.inl f)))) (hi : vp_in i n) (kk : Ex Γ M Z cc cn pc' lv st (va_up h a (some (.inl (.long, n, .inr (.inl (vp_updL f i.toNatClampNeg x)))))) sz) : Ex Γ M Z cc cn pc lv (.long x :: .int i :: .ref a :: st) h sz := by
  obtain ⟨d, rfl⟩ := d
  intro p e s m args below meth c F H locs ls hw hL hl
  obtain ⟨h4, -, cA, h1, h2, h3⟩ := hw.2.2.2.1 a _ ha
  refine W.last F.1 F.2.1 h3 (h1 n (fun j => .long (f j))) (fun q => by cases q) (by show ¬ (i < 0 ∨ (arrV _ _ _).slots.size ≤ _); rw [arrV_size]; exact hi) rfl rfl d fun H1 e1 z oq => ?_
  refine kk p e s m args below meth c F H1 _ ls (hw.set ha z oq ⟨cA, h1, h2, ?_⟩) (locs_add hL h4) hl
  show H1[gx_ad Γ a]? = some (vp_cell _ _)
  rw [e1]
  show some ((vp_cell cA (n, .inr (.inl f))).setSlot _ _) = some (vp_cell cA (n, .inr (.inl (vp_updL f i.toNatClampNeg x))))
  rw [vp_cell_l, vp_cell_l, arrV_store]
  congr 2
  funext q
  by_cases hq : q = i.toNatClampNeg
  · subst hq
    simp [updV, upd, vp_updL, narrow]
  · simp [updV, upd, vp_updL, hq]
theorem x_alen {a n : Nat} {ty : FieldType} {z : (Nat → Int32) ⊕ (Nat → Int64) ⊕ (Nat → UInt32) ⊕ (Nat → UInt64) ⊕ (Nat → Option Nat)} (d : Dc M.2.1 pc .arraylength 1 pc') (ha : h a = some (.inl (ty, n, z))) (kk : Ex Γ M Z cc cn pc' lv (.int (nI n) :: st) h sz) : Ex Γ M Z cc cn pc lv (.ref a :: st) h sz := by
  obtain ⟨d, rfl⟩ := d
  intro p e s m args below meth c F H locs ls hw hL hl
  obtain ⟨-, -, cA, h1, h2, h3⟩ := hw.2.2.2.1 a _ ha
  have k := kk p e s m args below meth c F H locs ls hw hL hl
  rcases z with f | f | f | f | f
  all_goals
    refine W.alen (n := nI n) F.1 F.2.1 h3 (h1 n _) ?_ rfl rfl d k
    show (arrV _ _ _).slots.size.toInt32 = nI n
    rw [arrV_size]; rfl
theorem x_aald {a n : Nat} {C : String} {f : Nat → Option Nat} {i : Int32} {q : Nat} (d : Dc M.2.1 pc .aaload 1 pc') (ha : h a = some (.inl (.object C, n, .inr (.inr (.inr (.inr f)))))) (hi : vp_in i n) (hq : f i.toNatClampNeg = some q) (kk : Ex Γ M Z cc cn pc' lv (.ref q :: st) h sz) : Ex Γ M Z cc cn pc lv (.int i :: .ref a :: st) h sz := by
  obtain ⟨d, rfl⟩ := d
  intro p e s m args below meth c F H locs ls hw hL hl
  obtain ⟨-, -, cA, h1, h2, h3⟩ := hw.2.2.2.1 a _ ha
  have hlt : i.toNatClampNeg < n := Nat.not_le.mp fun q => hi (Or.inr q)
  refine W.aald (v := .ref (gx_ad Γ q)) F.1 F.2.1 h3 (h1 n (fun j => va_rf ((f j).map (gx_ad Γ)))) rfl (fun q => by cases q) (by show ¬ (i < 0 ∨ (arrV _ _ _).slots.size ≤ _); rw [arrV_size]; exact hi) ?_ rfl rfl d (kk p e s m args below meth c F H locs ls hw hL hl)
  show (arrV cA n (fun j => va_rf ((f j).map (gx_ad Γ)))).slots[_]? = _
  rw [arrV_read _ _ hlt]
  show some (va_rf ((f i.toNatClampNeg).map (gx_ad Γ))) = _
  rw [hq]; rfl
theorem x_aast {a n v ci : Nat} {C : String} {T : u_T} {N : Nat} {fs : List Value} {f : Nat → Option Nat} {i : Int32} (d : Dc M.2.1 pc .aastore 1 pc') (ha : h a = some (.inl (.object C, n, .inr (.inr (.inr (.inr f)))))) (hi : vp_in i n) (hv : h v = some (.inr (ci, fs))) (hc : kls[ci]? = some (C, T, N))
    (kk : Ex Γ M Z cc cn pc' lv st (va_up h a (some (.inl (.object C, n, .inr (.inr (.inr (.inr (va_up f i.toNatClampNeg (some v))))))))) sz) : Ex Γ M Z cc cn pc lv (.ref v :: .int i :: .ref a :: st) h sz := by
  obtain ⟨d, rfl⟩ := d
  intro p e s m args below meth c F H locs ls hw hL hl
  obtain ⟨h4, -, cA, h1, h2, h3⟩ := hw.2.2.2.1 a _ ha
  obtain ⟨-, -, r, hr, cellV, g1, g2, g3, -⟩ := hw.2.2.2.1 v _ hv
  have hlt : i.toNatClampNeg < n := Nat.not_le.mp fun q => hi (Or.inr q)
  have h0 : ¬ i < 0 := fun q => hi (Or.inl q)
  have hcls := (hw.1.1 ci _ hc).2
  obtain ⟨kA, comp, k1, k2, k3, k4⟩ := h2
  have hcomp : comp = Γ.2.1.1 ci := Option.some.inj (k3.symm.trans hcls.1)
  subst hcomp
  obtain ⟨kC, hkC, -⟩ := hcls.2
  refine W.aast F.1 F.2.1 h3 (fun q h => by cases h) (fun h => by cases h) k1 k2 rfl hkC ⟨h0, by show _ < (arrV _ _ _).slots.size; rw [arrV_size]; exact hlt⟩ g1 (fun q h => by rw [g3] at h; cases h) (by rw [g2]; exact hkC) (by rw [g2]; exact va_assign hcls) rfl rfl d fun H1 e1 z oq => ?_
  refine kk p e s m args below meth c F H1 _ ls (hw.set ha z oq ⟨cA, h1, ⟨kA, _, k1, k2, k3, k4⟩, ?_⟩) (locs_add hL h4) hl
  show H1[gx_ad Γ a]? = some (vp_cell _ _)
  rw [e1]
  show some ((vp_cell cA (n, .inr (.inr (.inr (.inr (fun j => (f j).map (gx_ad Γ))))))).setSlot _ _) = some (vp_cell cA (n, .inr (.inr (.inr (.inr (fun j => (va_up f i.toNatClampNeg (some v) j).map (gx_ad Γ)))))))
  rw [vp_cell_q, vp_cell_q, arrV_store]
  congr 2
  funext q
  by_cases hq : q = i.toNatClampNeg
  · subst hq
    simp [updV, va_up, va_rf]
  · simp [updV, va_up, hq]
/-- a class that can be made -/
def Nw (own : String) (idx ci : Nat) (fs : List Value) : Prop := ∃ (C : String) (T : u_T) (N : Nat) (ty : Nat → FieldType), kls[ci]? = some (C, T, N) ∧ (∀ w ∈ u_ws C T N, w ∈ gtbl) ∧ (∀ k, k < N → parseFieldDescriptor (T k).2.2.1 = some (ty k)) ∧ Cond.classLink own idx C ∈ gtbl ∧ Cond.instantiable C N ∈ gtbl ∧ Cond.initialized C ∈ gtbl ∧ (∀ j, j < N → defaultValue (ty j) = fs.getD j .null) ∧ fs.length = N ∧ (∀ v ∈ fs, ∀ k, v ≠ .ref k)
theorem x_new {idx ci : Nat} {fs : List Value} (f : Nw M.1.cls idx ci fs) (d : Dc M.2.1 pc (.new idx) 3 pc') (h1 : cc + 1 ≤ M.2.2.2.2.cells) (h2 : cn + fs.length ≤ M.2.2.2.2.slots)
    (kk : Ex Γ M Z (cc + 1) (cn + fs.length) pc' lv (.ref sz :: st) (va_up h sz (some (.inr (ci, fs)))) (sz + 1)) : Ex Γ M Z cc cn pc lv st h sz := by
  obtain ⟨d, rfl⟩ := d
  obtain ⟨C, T, N, ty, hc, hin, hty, c1, c2, c3, hdf, hlen, hnr⟩ := f
  subst hlen
  intro p e s m args below meth c F H locs ls hw hL hl
  have hKn := hw.1.1 ci _ hc
  obtain ⟨hnx, h4⟩ := hw.next
  refine W.newcK F.1 F.2.1 F.2.2.2.2.1 (F.2.2.2.2.2.1 _ c1) (F.2.2.2.2.2.1 _ c2) (F.2.2.2.2.2.1 _ c3) rfl d h1 h2 hKn.2.1 hnx.symm fun H1 kC hkC e1 z1 o1 => ?_
  rw [hnx] at z1 o1
  refine kk p e s m args below meth c F H1 locs ls (hw.push z1 o1 ⟨_, hc, (u_born ty F.2.2.2.2.2.1 hin hKn hkC e1 hty).to fun j hj => ?_⟩) hL hl
  rw [vp_V_map, hdf j hj]
  have hm : ∀ v : Value, (∀ k, v ≠ .ref k) → gx_v Γ v = v := fun v hv => by cases v <;> first | rfl | exact absurd rfl (hv _)
  rw [hm]
  have hj2 : fs[j]? = some (fs.getD j .null) := by rw [List.getD_eq_getElem?_getD, List.getElem?_eq_getElem hj]; rfl
  exact hnr _ (List.mem_of_getElem? hj2)
theorem x_anew {idx : Nat} {C : String} {n : Int32} {N : Nat} (hC : C = "SoldWithIt$Text" ∨ C = "SoldWithIt$Sheet") (hlk : Cond.classLink M.1.cls idx C ∈ gtbl) (d : Dc M.2.1 pc (.anewarray idx) 3 pc') (hn : ¬ n < 0) (hN : n.toNatClampNeg = N) (hb : N * 4 ≤ 536870912) (h1 : cc + 1 ≤ M.2.2.2.2.cells) (h2 : cn + N ≤ M.2.2.2.2.slots)
    (kk : Ex Γ M Z (cc + 1) (cn + N) pc' lv (.ref sz :: st) (va_up h sz (some (.inl (.object C, N, .inr (.inr (.inr (.inr (fun _ => none)))))))) (sz + 1)) : Ex Γ M Z cc cn pc lv (.int n :: st) h sz := by
  obtain ⟨d, rfl⟩ := d
  subst hN
  intro p e s m args below meth c F H locs ls hw hL hl
  obtain ⟨hnx, h4⟩ := hw.next
  have hAO : va_AO C s := by
    rcases hC with rfl | rfl
    · exact F.2.2.2.2.2.2.2.2.2.2.1
    · exact F.2.2.2.2.2.2.2.2.2.2.2
  refine W.anew F.1 F.2.1 F.2.2.2.2.1 (F.2.2.2.2.2.1 _ hlk) (va_AO.use hAO) rfl d rfl hn hb h1 h2 fun cA kA comp f1 f2 f3 f4 => ?_
  generalize hH1 : H.push ({ cls := cA, slots := Array.replicate n.toNatClampNeg .null, vm := .none } : Cell) = H1
  have z1 : H1.size = H.size + 1 := by rw [← hH1, Array.size_push]
  have e1 : H1[H.size]? = some (arrV cA n.toNatClampNeg (fun _ => .null)) := by rw [← hH1, Array.getElem?_push_size, ← arrV_new]
  have o1 : ∀ q : Nat, q < H.size → H1[q]? = H[q]? := fun q hq => by rw [← hH1, Array.getElem?_push, if_neg (Nat.ne_of_lt hq)]
  have hAr : ArrOfT s cA (.object C) := fun N z => ⟨(fun k h => by cases h), kA, f2, comp, f3⟩
  have k := kk p e s m args below meth c F H1 locs ls (hw.push z1 o1 ⟨cA, hAr, ⟨kA, comp, f2, f3, f4, f1⟩, by rw [hnx]; exact e1⟩) hL hl
  rw [show (Value.ref sz :: st).map (gx_v Γ) = .ref H.size :: st.map (gx_v Γ) from by rw [← hnx]; rfl] at k
  exact k
theorem x_newaI {n : Int32} {N : Nat} (d : Dc M.2.1 pc (.newarray .int) 2 pc') (hn : ¬ n < 0) (hN : n.toNatClampNeg = N) (hb : N * 8 ≤ 536870912) (h1 : cc + 1 ≤ M.2.2.2.2.cells) (h2 : cn + N ≤ M.2.2.2.2.slots)
    (kk : Ex Γ M Z (cc + 1) (cn + N) pc' lv (.ref sz :: st) (va_up h sz (some (.inl (.int, N, .inl (fun _ => 0))))) (sz + 1)) : Ex Γ M Z cc cn pc lv (.int n :: st) h sz := by
  obtain ⟨d, rfl⟩ := d
  subst hN
  intro p e s m args below meth c F H locs ls hw hL hl
  obtain ⟨hnx, h4⟩ := hw.next
  refine va_newaK F.1 F.2.1 (atype := .int) (F.2.2.2.2.2.1 _ arr_I) rfl d rfl hn rfl (Nat.le_trans (Nat.mul_le_mul_left _ (by decide)) hb) h1 h2 hnx.symm fun H1 cA e1 z1 o1 hAr hNm => ?_
  rw [hnx] at z1 o1
  refine kk p e s m args below meth c F H1 locs ls (hw.push z1 o1 ⟨cA, hAr, hNm, ?_⟩) hL hl
  exact e1
theorem x_newaL {n : Int32} {N : Nat} (d : Dc M.2.1 pc (.newarray .long) 2 pc') (hn : ¬ n < 0) (hN : n.toNatClampNeg = N) (hb : N * 8 ≤ 536870912) (h1 : cc + 1 ≤ M.2.2.2.2.cells) (h2 : cn + N ≤ M.2.2.2.2.slots)
    (kk : Ex Γ M Z (cc + 1) (cn + N) pc' lv (.ref sz :: st) (va_up h sz (some (.inl (.long, N, .inr (.inl (fun _ => 0)))))) (sz + 1)) : Ex Γ M Z cc cn pc lv (.int n :: st) h sz := by
  obtain ⟨d, rfl⟩ := d
  subst hN
  intro p e s m args below meth c F H locs ls hw hL hl
  obtain ⟨hnx, h4⟩ := hw.next
  refine va_newaK F.1 F.2.1 (atype := .long) (F.2.2.2.2.2.1 _ arr_L) rfl d rfl hn rfl (Nat.le_trans (Nat.mul_le_mul_left _ (by decide)) hb) h1 h2 hnx.symm fun H1 cA e1 z1 o1 hAr hNm => ?_
  rw [hnx] at z1 o1
  refine kk p e s m args below meth c F H1 locs ls (hw.push z1 o1 ⟨cA, hAr, hNm, ?_⟩) hL hl
  exact e1
theorem x_newaS {n : Int32} {N : Nat} (d : Dc M.2.1 pc (.newarray .short) 2 pc') (hn : ¬ n < 0) (hN : n.toNatClampNeg = N) (hb : N * 8 ≤ 536870912) (h1 : cc + 1 ≤ M.2.2.2.2.cells) (h2 : cn + N ≤ M.2.2.2.2.slots)
    (kk : Ex Γ M Z (cc + 1) (cn + N) pc' lv (.ref sz :: st) (va_up h sz (some (.inl (.short, N, .inl (fun _ => 0))))) (sz + 1)) : Ex Γ M Z cc cn pc lv (.int n :: st) h sz := by
  obtain ⟨d, rfl⟩ := d
  subst hN
  intro p e s m args below meth c F H locs ls hw hL hl
  obtain ⟨hnx, h4⟩ := hw.next
  refine va_newaK F.1 F.2.1 (atype := .short) (F.2.2.2.2.2.1 _ arr_S) rfl d rfl hn rfl (Nat.le_trans (Nat.mul_le_mul_left _ (by decide)) hb) h1 h2 hnx.symm fun H1 cA e1 z1 o1 hAr hNm => ?_
  rw [hnx] at z1 o1
  refine kk p e s m args below meth c F H1 locs ls (hw.push z1 o1 ⟨cA, hAr, hNm, ?_⟩) hL hl
  exact e1
theorem x_newaZ {n : Int32} {N : Nat} (d : Dc M.2.1 pc (.newarray .boolean) 2 pc') (hn : ¬ n < 0) (hN : n.toNatClampNeg = N) (hb : N * 8 ≤ 536870912) (h1 : cc + 1 ≤ M.2.2.2.2.cells) (h2 : cn + N ≤ M.2.2.2.2.slots)
    (kk : Ex Γ M Z (cc + 1) (cn + N) pc' lv (.ref sz :: st) (va_up h sz (some (.inl (.boolean, N, .inl (fun _ => 0))))) (sz + 1)) : Ex Γ M Z cc cn pc lv (.int n :: st) h sz := by
  obtain ⟨d, rfl⟩ := d
  subst hN
  intro p e s m args below meth c F H locs ls hw hL hl
  obtain ⟨hnx, h4⟩ := hw.next
  refine va_newaK F.1 F.2.1 (atype := .boolean) (F.2.2.2.2.2.1 _ arr_Z) rfl d rfl hn rfl (Nat.le_trans (Nat.mul_le_mul_left _ (by decide)) hb) h1 h2 hnx.symm fun H1 cA e1 z1 o1 hAr hNm => ?_
  rw [hnx] at z1 o1
  refine kk p e s m args below meth c F H1 locs ls (hw.push z1 o1 ⟨cA, hAr, hNm, ?_⟩) hL hl
  exact e1
end Heap1
end
section
theorem obj_i : Cond.instanceMethod objectInit ∈ gtbl := gt_at 93 (by decide +kernel) rfl
theorem obj_c : Cond.code objectInit ⟨#[0xb1]⟩ 1 none ∈ gtbl := gt_at 94 (by decide +kernel) rfl
section Calls1
variable {Γ : GX} {M M' : MI} {Z : ZT} {Q : QT} {cc cn pc pc' tgt : Nat} {lv st : List Value} {h : Hp} {sz : Nat}
theorem gx_s.warm {s U : State} (hW : s.WarmedH U.vm) (h : gx_s Γ s) : gx_s Γ U := ⟨h.1.warm hW, fun q hq => (h.2.1 q hq).warmM hW, h.2.2.1.moved hW.alike, h.2.2.2.moved hW.alike⟩
theorem gx_s.same {u U : State} (hv : u.vm = U.vm) (h : gx_s Γ u) : gx_s Γ U := ⟨h.1.same hv.symm, fun q hq => va_Nw.same rfl hv (h.2.1 q hq), h.2.2.1.moved (hv ▸ Vm.Alike.refl u.vm), h.2.2.2.moved (hv ▸ Vm.Alike.refl u.vm)⟩
theorem gx_P.blind (as : List Value) : FrameBlind (gx_P Γ as h sz) := by
  intro a U g mk hp
  obtain ⟨h1, h2, h3⟩ := hp
  exact ⟨h1, gx_W.moved (u := U) (U := U.calling g mk a) (Vm.Alike.refl U.vm) h2, gx_s.same (u := U) rfl h3⟩
theorem gx_P.at {s U : State} {H : Heap} (as : List Value) (hw : gx_W Γ s H h sz) (hs : gx_s Γ s) (hU : U.heap = H) (hW : s.WarmedH U.vm) : gx_P Γ as h sz (as.map (gx_v Γ)).toArray U := ⟨rfl, by rw [hU]; exact hw.moved hW.alike, hs.warm hW⟩
/-- behind a call -/
theorem gx_back {p : Program} {l : Launch} {e : Env} {R : Room} {s : State} {m : MethodId} {args : Array Value} {below : List Frame} {meth : Method} {c : Code} {H : Heap} {locs : List Loc} {cells slots mc ms : Nat} {Q2 : State → Prop} {ls : Array Slot} {st0 rest : List Value} {a : Array Value}
    (hr : va_Run p l e R s m args below meth c H locs cells slots mc ms (F0 m pc ls st0) rest (gx_Q Γ Q a) (gx_A Γ)) (hL : ∀ q ∈ locs, Γ.2.2.1 ≤ q.base)
    (kk : ∀ (r : Option Value) (h' : Hp) (sz' : Nat) (H1 : Heap) (locs1 : List Loc), Q r h' sz' → gx_W Γ s H1 h' sz' → (∀ q ∈ locs1, Γ.2.2.1 ≤ q.base) → W p l e R s m args below meth c H1 locs1 (cells + mc) (slots + ms) Q2 (F0 m (pc + 3) ls ((r.map (gx_v Γ)).toList ++ rest))) : W p l e R s m args below meth c H locs cells slots Q2 (F0 m pc ls st0) := by
  intro T hT X
  obtain ⟨v, st₀, t, T', L, h0, X', hL', e1, e2, ⟨r, h', sz', hv, hq, hw⟩, st⟩ := hr T hT X
  cases hv
  have hA : s.vm.Alike t.vm := by rw [← e2]; exact X'.warmed.alike
  obtain ⟨t2, a1, b1⟩ := kk r h' sz' T'.heap (locs ++ L) hq (by rw [e1]; exact hw.moved hA.symm) (fun q hq => by
    rcases List.mem_append.mp hq with h | h
    · exact hL q h
    · exact hL' q h) T' rfl X'
  exact ⟨t2, st t2 a1, b1⟩
/-- a method that may be called: its code, its class, how many it takes -/
def Cl (M' : MI) (n : Nat) : Prop := Cond.code M'.1 M'.2.1 M'.2.2.1 M'.2.2.2.1 ∈ gtbl ∧ Cond.initialized M'.1.cls ∈ gtbl ∧ (M'.1.cls ≠ "java/lang/invoke/MethodHandle" ∧ M'.1.cls ≠ "java/lang/invoke/VarHandle" ∧ (parseMethodDescriptor M'.1.desc).map (fun d => d.parameters.length) = some n)
def Rm (M M' : MI) (cc cn : Nat) : Prop := (M'.2.2.2.2.frames + 1 ≤ M.2.2.2.2.frames ∧ 8 + (M'.2.2.1 + 11) + M'.2.2.2.2.locals ≤ M.2.2.2.2.locals) ∧ (cc + M'.2.2.2.2.cells ≤ M.2.2.2.2.cells ∧ cn + M'.2.2.2.2.slots ≤ M.2.2.2.2.slots)
theorem gx_good (hc : Cond.code M'.1 M'.2.1 M'.2.2.1 M'.2.2.2.1 ∈ gtbl) : GoodIn gtbl (gx_ws M') := by
  intro w hw
  have h1 : w ∈ gtbl := by
    rcases List.mem_cons.mp hw with e | e
    · rw [e]; exact hc
    · exact e
  exact ⟨h1, good_of_word (List.mem_filter.mp h1).2⟩
theorem map_rev {as : List Value} {rest : List Value} (Γ : GX) : (as.reverse ++ rest).map (gx_v Γ) = (as.map (gx_v Γ)).reverse ++ rest.map (gx_v Γ) := by
  rw [List.map_append, List.map_reverse]
theorem cat_map (Γ : GX) (rest : List Value) : ((rest.map (gx_v Γ)).map fun v => v.category) = rest.map fun v => v.category := by
  rw [List.map_map]
  exact List.map_congr_left fun v _ => gx_v_cat Γ v
def LkS (own : String) (idx : Nat) (M' : MI) (n : Nat) : Prop := Cond.methodLink own idx M'.1 ∈ gtbl ∧ Cond.static M'.1 ∈ gtbl ∧ Cl M' n
theorem x_callS {idx : Nat} {as rest : List Value} (lk : LkS M.1.cls idx M' as.length) (hR : Rm M M' cc cn) (hcat : (rest.map fun v => v.category).sum ≤ 8) (d : Dc M.2.1 pc (.invokestatic idx) 3 pc') (run : Rn Γ M' as h sz Q)
    (kk : ∀ (r : Option Value) (h' : Hp) (sz' : Nat), Q r h' sz' → Ex Γ M Z (cc + M'.2.2.2.2.cells) (cn + M'.2.2.2.2.slots) pc' lv (r.toList ++ rest) h' sz') : Ex Γ M Z cc cn pc lv (as.reverse ++ rest) h sz := by
  obtain ⟨d, rfl⟩ := d
  obtain ⟨l1, l2, l3, l4, l5⟩ := lk
  intro p e s m args below meth c F H locs ls hw hL hl
  have hts := F.2.2.2.2.2.1
  have cw : CallB M.2.2.2.2 s args M.1.cls idx M'.1 M'.2.1 M'.2.2.1 M'.2.2.2.1 (gx_ws M') M'.2.2.2.2 M'.2.2.2.2.cells M'.2.2.2.2.slots as.length := callB_of as.length hts (gx_good l3) rfl rfl rfl (hts _ l4) (hts _ l1) l5 hR.1
  have rr := va_runS (g := F0 m pc ls ((as.map (gx_v Γ)).reverse ++ rest.map (gx_v Γ))) (locs := locs) (cells := cc) (slots := cn) (below := below) (meth := meth) (e := e) (rest := rest.map (gx_v Γ)) ⟨F.1, F.2.1, F.2.2.2.1, F.2.2.2.2.1, hts⟩ run ⟨cw, hts _ l2⟩ ⟨gx_P.blind as, fun U hU hW => gx_P.at as hw F.2.2.2.2.2.2.2.2 hU hW⟩ rfl (by rw [List.length_map]) hl.1 rfl (lv_room (by rw [cat_map]; exact hcat)) d hR.2
  rw [map_rev]
  refine gx_back rr hL fun r h' sz' H1 locs1 hq hw1 hL1 => ?_
  have k := kk r h' sz' hq p e s m args below meth c F H1 locs1 ls hw1 hL1 hl
  rw [List.map_append] at k
  cases r <;> exact k
def LkV (own : String) (idx : Nat) (M' : MI) (n ci : Nat) : Prop := Cond.methodLink own idx M'.1 ∈ gtbl ∧ Cond.instanceMethod M'.1 ∈ gtbl ∧ Cond.selects M'.1.cls M'.1 M'.1 ∈ gtbl ∧ (∃ (T : u_T) (N : Nat), kls[ci]? = some (M'.1.cls, T, N)) ∧ Cl M' n
theorem x_callV {idx a ci : Nat} {fs as rest : List Value} (lk : LkV M.1.cls idx M' as.length ci) (hR : Rm M M' cc cn) (hcat : (rest.map fun v => v.category).sum ≤ 8) (d : Dc M.2.1 pc (.invokevirtual idx) 3 pc') (ha : h a = some (.inr (ci, fs))) (run : Rn Γ M' (.ref a :: as) h sz Q)
    (kk : ∀ (r : Option Value) (h' : Hp) (sz' : Nat), Q r h' sz' → Ex Γ M Z (cc + M'.2.2.2.2.cells) (cn + M'.2.2.2.2.slots) pc' lv (r.toList ++ rest) h' sz') : Ex Γ M Z cc cn pc lv (as.reverse ++ .ref a :: rest) h sz := by
  obtain ⟨d, rfl⟩ := d
  obtain ⟨l1, l2, l2', ⟨T0, N0, hc⟩, l3, l4, l5⟩ := lk
  intro p e s m args below meth c F H locs ls hw hL hl
  have hts := F.2.2.2.2.2.1
  have cw : CallB M.2.2.2.2 s args M.1.cls idx M'.1 M'.2.1 M'.2.2.1 M'.2.2.2.1 (gx_ws M') M'.2.2.2.2 M'.2.2.2.2.cells M'.2.2.2.2.slots as.length := callB_of as.length hts (gx_good l3) rfl rfl rfl (hts _ l4) (hts _ l1) l5 hR.1
  obtain ⟨-, -, r0, h1, cell, q1, q2, q3, q4⟩ := hw.2.2.2.1 a _ ha
  have rr := va_runV (C := M'.1.cls) (b := gx_ad Γ a) (As := as.map (gx_v Γ)) (g := F0 m pc ls ((as.map (gx_v Γ)).reverse ++ .ref (gx_ad Γ a) :: rest.map (gx_v Γ))) (locs := locs) (cells := cc) (slots := cn) (below := below) (meth := meth) (e := e) (rest := rest.map (gx_v Γ)) ⟨F.1, F.2.1, F.2.2.2.1, F.2.2.2.2.1, hts⟩ run ⟨cw, hts _ l2, hts _ l2'⟩ ⟨gx_P.blind _, ⟨cell, q1, by rw [q3]; rfl, by rw [q2]; exact (hw.1.1 ci _ hc).2.1⟩, fun U hU hW => gx_P.at (.ref a :: as) hw F.2.2.2.2.2.2.2.2 hU hW⟩ rfl (by rw [List.length_map]) hl.1 rfl (lv_room (by rw [cat_map]; exact hcat)) d hR.2
  rw [map_rev]
  refine gx_back rr hL fun r h' sz' H1 locs1 hq hw1 hL1 => ?_
  have k := kk r h' sz' hq p e s m args below meth c F H1 locs1 ls hw1 hL1 hl
  rw [List.map_append] at k
  cases r <;> exact k
def LkI (own : String) (idx : Nat) (M' : MI) (n : Nat) : Prop := Cond.methodLink own idx M'.1 ∈ gtbl ∧ Cond.instanceMethod M'.1 ∈ gtbl ∧ M'.1.name = "<init>" ∧ M'.2.2.2.1 = none ∧ Cl M' n
theorem x_callI {idx a : Nat} {as rest : List Value} (lk : LkI M.1.cls idx M' as.length) (hR : Rm M M' cc cn) (hcat : (rest.map fun v => v.category).sum ≤ 8) (d : Dc M.2.1 pc (.invokespecial idx) 3 pc') (run : Rn Γ M' (.ref a :: as) h sz Q)
    (kk : ∀ (r : Option Value) (h' : Hp) (sz' : Nat), Q r h' sz' → Ex Γ M Z (cc + M'.2.2.2.2.cells) (cn + M'.2.2.2.2.slots) pc' lv (r.toList ++ rest) h' sz') : Ex Γ M Z cc cn pc lv (as.reverse ++ .ref a :: rest) h sz := by
  obtain ⟨d, rfl⟩ := d
  obtain ⟨l1, l2, l2', l6, l3, l4, l5⟩ := lk
  intro p e s m args below meth c F H locs ls hw hL hl
  have hts := F.2.2.2.2.2.1
  have cw : CallB M.2.2.2.2 s args M.1.cls idx M'.1 M'.2.1 M'.2.2.1 none (gx_ws M') M'.2.2.2.2 M'.2.2.2.2.cells M'.2.2.2.2.slots as.length := l6 ▸ callB_of as.length hts (gx_good l3) rfl rfl rfl (hts _ l4) (hts _ l1) l5 hR.1
  have rr := va_runI (b := gx_ad Γ a) (As := as.map (gx_v Γ)) (g := F0 m pc ls ((as.map (gx_v Γ)).reverse ++ .ref (gx_ad Γ a) :: rest.map (gx_v Γ))) (locs := locs) (cells := cc) (slots := cn) (below := below) (meth := meth) (e := e) (rest := rest.map (gx_v Γ)) ⟨F.1, F.2.1, F.2.2.2.1, F.2.2.2.2.1, hts⟩ run ⟨cw, l2', hts _ l2⟩ ⟨gx_P.blind _, fun U hU hW => gx_P.at (.ref a :: as) hw F.2.2.2.2.2.2.2.2 hU hW⟩ rfl (by rw [List.length_map]) hl.1 rfl (lv_room (by rw [cat_map]; exact hcat)) d hR.2
  rw [map_rev]
  refine gx_back rr hL fun r h' sz' H1 locs1 hq hw1 hL1 => ?_
  have k := kk r h' sz' hq p e s m args below meth c F H1 locs1 ls hw1 hL1 hl
  rw [List.map_append] at k
  cases r <;> exact k
def LkN (own : String) (idx : Nat) (M' : MI) (n : Nat) : Prop := (own, idx, M'.1, "SoldWithIt") ∈ nlk ∧ Cond.instanceMethod M'.1 ∈ gtbl ∧ M'.1.name = "<init>" ∧ M'.2.2.2.1 = none ∧ Cl M' n
theorem x_callN {idx a : Nat} {as rest : List Value} (lk : LkN M.1.cls idx M' as.length) (hR : Rm M M' cc cn) (hcat : (rest.map fun v => v.category).sum ≤ 8) (d : Dc M.2.1 pc (.invokespecial idx) 3 pc') (run : Rn Γ M' (.ref a :: as) h sz Q)
    (kk : ∀ (r : Option Value) (h' : Hp) (sz' : Nat), Q r h' sz' → Ex Γ M Z (cc + M'.2.2.2.2.cells) (cn + M'.2.2.2.2.slots) pc' lv (r.toList ++ rest) h' sz') : Ex Γ M Z cc cn pc lv (as.reverse ++ .ref a :: rest) h sz := by
  obtain ⟨d, rfl⟩ := d
  obtain ⟨l1, l2, l2', l6, l3, l4, l5⟩ := lk
  intro p e s m args below meth c F H locs ls hw hL hl
  have hts := F.2.2.2.2.2.1
  have cw : va_CN M.2.2.2.2 s args M.1.cls idx M'.1 "SoldWithIt" M'.2.1 M'.2.2.1 none (gx_ws M') M'.2.2.2.2 M'.2.2.2.2.cells M'.2.2.2.2.slots as.length := l6 ▸ va_cnB as.length hts (gx_good l3) rfl rfl rfl (F.2.2.2.2.2.2.2.2.2.1 _ l1) (hts _ l4) l5 hR.1
  have rr := va_runIN (b := gx_ad Γ a) (As := as.map (gx_v Γ)) (g := F0 m pc ls ((as.map (gx_v Γ)).reverse ++ .ref (gx_ad Γ a) :: rest.map (gx_v Γ))) (locs := locs) (cells := cc) (slots := cn) (below := below) (meth := meth) (e := e) (rest := rest.map (gx_v Γ)) ⟨F.1, F.2.1, F.2.2.2.1, F.2.2.2.2.1, hts⟩ run ⟨cw, l2', hts _ l2⟩ ⟨gx_P.blind _, fun U hU hW => gx_P.at (.ref a :: as) hw F.2.2.2.2.2.2.2.2 hU hW⟩ rfl (by rw [List.length_map]) hl.1 rfl (lv_room (by rw [cat_map]; exact hcat)) d hR.2
  rw [map_rev]
  refine gx_back rr hL fun r h' sz' H1 locs1 hq hw1 hL1 => ?_
  have k := kk r h' sz' hq p e s m args below meth c F H1 locs1 ls hw1 hL1 hl
  rw [List.map_append] at k
  cases r <;> exact k
theorem x_objInit {idx a : Nat} (lk : Cond.methodLink M.1.cls idx objectInit ∈ gtbl) (d : Dc M.2.1 pc (.invokespecial idx) 3 pc') (hcat : (st.map fun v => v.category).sum ≤ 8) (hR : 1 ≤ M.2.2.2.2.frames ∧ 20 ≤ M.2.2.2.2.locals) (kk : Ex Γ M Z cc cn pc' lv st h sz) : Ex Γ M Z cc cn pc lv (.ref a :: st) h sz := by
  obtain ⟨d, rfl⟩ := d
  intro p e s m args below meth c F H locs ls hw hL hl
  have hts := F.2.2.2.2.2.1
  refine W.objInit F.1 F.2.1 F.2.2.2.2.1 (hts _ lk) (hts _ obj_i) (hts _ obj_c) rfl (by rw [F.2.2.2.1]; exact hl.1) rfl d hR.1 ?_ (kk p e s m args below meth c F H locs ls hw hL hl)
  have := lv_room (m := m) (pc := pc) (ls := ls) (rest := []) (st := st.map (gx_v Γ)) (by rw [cat_map]; exact hcat)
  show 2 * 0 + _ + 12 ≤ _
  have h2 : 2 * 0 + ((st.map (gx_v Γ)).map fun v => v.category).sum ≤ 8 := this
  omega
end Calls1
section Ends1
variable {Γ : GX} {M : MI} {Q : QT} {cc cn pc pc' : Nat} {lv : List Value} {h : Hp} {sz : Nat}
theorem x_iret {v : Int32} {ty : FieldType} (d : Dc M.2.1 pc .ireturn 1 pc') (hr : M.2.2.2.1 = some ty) (hn : narrow ty (.int v) = .int v) (h1 : cc ≤ M.2.2.2.2.cells) (h2 : cn ≤ M.2.2.2.2.slots) (hq : Q (some (.int v)) h sz) : Ex Γ M (gx_Z Γ M Q) cc cn pc lv [.int v] h sz := by
  obtain ⟨d, rfl⟩ := d
  intro p e s m args below meth c F H locs ls hw hL hl
  have hlocks := F.2.2.2.2.2.2.1
  refine W.widen h1 h2 (W.zret F.1 F.2.1 (F.2.2.1.trans hr) hn (fun t ht hW => ⟨some (.int v), h, sz, rfl, hq, by rw [ht]; exact hw.moved hW.alike⟩) hL d)
theorem x_lret {v : Int64} (d : Dc M.2.1 pc .lreturn 1 pc') (hr : M.2.2.2.1 = some .long) (h1 : cc ≤ M.2.2.2.2.cells) (h2 : cn ≤ M.2.2.2.2.slots) (hq : Q (some (.long v)) h sz) : Ex Γ M (gx_Z Γ M Q) cc cn pc lv [.long v] h sz := by
  obtain ⟨d, rfl⟩ := d
  intro p e s m args below meth c F H locs ls hw hL hl
  have hlocks := F.2.2.2.2.2.2.1
  refine W.widen h1 h2 (W.lret F.1 F.2.1 (F.2.2.1.trans hr) (fun t ht hW => ⟨some (.long v), h, sz, rfl, hq, by rw [ht]; exact hw.moved hW.alike⟩) hL d)
theorem x_aret {a : Nat} {C : String} (d : Dc M.2.1 pc .areturn 1 pc') (hr : M.2.2.2.1 = some (.object C)) (h1 : cc ≤ M.2.2.2.2.cells) (h2 : cn ≤ M.2.2.2.2.slots) (hq : Q (some (.ref a)) h sz) : Ex Γ M (gx_Z Γ M Q) cc cn pc lv [.ref a] h sz := by
  obtain ⟨d, rfl⟩ := d
  intro p e s m args below meth c F H locs ls hw hL hl
  have hlocks := F.2.2.2.2.2.2.1
  refine W.widen h1 h2 (W.aret F.1 F.2.1 (F.2.2.1.trans hr) (Or.inl ⟨C, rfl⟩) (Or.inr ⟨_, rfl⟩) (fun t ht hW => ⟨some (.ref a), h, sz, rfl, hq, by rw [ht]; exact hw.moved hW.alike⟩) hL d)
theorem x_vret (d : Dc M.2.1 pc .return_ 1 pc') (hr : M.2.2.2.1 = none) (h1 : cc ≤ M.2.2.2.2.cells) (h2 : cn ≤ M.2.2.2.2.slots) (hq : Q none h sz) : Ex Γ M (gx_Z Γ M Q) cc cn pc lv [] h sz := by
  obtain ⟨d, rfl⟩ := d
  intro p e s m args below meth c F H locs ls hw hL hl
  have hlocks := F.2.2.2.2.2.2.1
  refine W.widen h1 h2 (W.vret F.1 F.2.1 (F.2.2.1.trans hr) (fun t ht hW => ⟨none, h, sz, rfl, hq, by rw [ht]; exact hw.moved hW.alike⟩) hL d)
/-- the locals at a method's entry -/
def lent : List Value → List Value
  | [] => []
  | v :: vs => if v.category = 2 then v :: .retAddr 0 :: lent vs else v :: lent vs
theorem lent_in (Γ : GX) : ∀ (as : List Value) (b i : Nat) (v : Value), (lent as)[i]? = some v → (∀ z, v ≠ .retAddr z) → (b + i, gx_v Γ v) ∈ lv_args b (as.map (gx_v Γ))
  | [], b, i, v, h, hr => by simp [lent] at h
  | a :: as, b, i, v, h, hr => by
    rw [List.map_cons, lv_args, gx_v_cat]
    by_cases hc : a.category = 2
    · rw [lent, if_pos hc] at h
      rw [if_pos hc]
      match i with
      | 0 => simp at h; subst h; exact List.mem_cons_self
      | 1 => simp at h; subst h; exact absurd rfl (hr 0)
      | i + 2 =>
        have := lent_in Γ as (b + 2) i v (by simpa using h) hr
        rw [show b + (i + 2) = b + 2 + i by omega]
        exact List.mem_cons_of_mem _ this
    · rw [lent, if_neg hc] at h
      rw [if_neg hc]
      match i with
      | 0 => simp at h; subst h; exact List.mem_cons_self
      | i + 1 =>
        have := lent_in Γ as (b + 1) i v (by simpa using h) hr
        rw [show b + (i + 1) = b + 1 + i by omega]
        exact List.mem_cons_of_mem _ this
theorem lg_sl_len (Γ : GX) : ∀ as : List Value, (lg_sl (as.map (gx_v Γ))).length = (lent as).length
  | [] => rfl
  | a :: as => by
    have ih := lg_sl_len Γ as
    simp only [lg_sl] at ih
    simp only [lg_sl, lent, List.map_cons, List.flatMap_cons, List.length_append, gx_v_cat]
    split <;> simp_all <;> omega
/-- from the entry's instruction to the method's contract; pad: as many unknown places as there are locals beyond the arguments -/
theorem x_enter {as : List Value} (pad : Nat) (hy : plainName M.1.cls = true) (hlen : (lent as).length + pad = M.2.2.1) (hex : Ex Γ M (gx_Z Γ M Q) 0 0 0 (lent as ++ List.replicate pad (.retAddr 0)) [] h sz) : Rn Γ M as h sz Q := by
  refine Met.ofW (cc := M.2.1) (maxL := M.2.2.1) (ret := M.2.2.2.1) hy rfl ?_
  intro p e s m args below meth c s₁ B hml hv
  obtain ⟨rfl, hw, hs⟩ := hv
  have hts := atoms_spec (ws := gx_ws M) B.pre
  have hl := lv_entry (as.map (gx_v Γ)) (n := M.2.2.1) (by rw [lg_sl_len]; omega)
  rw [lg_entry_eq]
  refine hex p e s m _ below meth c ⟨B.exec, B.bytes, B.returns, hml, findClass_of_methodNamed B.named, fun w hw => hts w (List.mem_cons_of_mem _ hw), B.notSynchronized, (name_of_methodNamed B.named B.method).1, hs⟩ s.heap [] _ hw (fun q hq => by cases hq) ⟨hl.1, hl.2.1, fun i v hi hr => ?_⟩
  by_cases hlt : i < (lent as).length
  · rw [List.getElem?_append_left hlt] at hi
    have := lent_in Γ as 0 i v hi hr
    rw [Nat.zero_add] at this
    exact hl.2.2 _ this
  · rw [List.getElem?_append_right (by omega)] at hi
    rw [List.getElem?_replicate] at hi
    split at hi
    · cases hi; exact absurd rfl (hr 0)
    · cases hi
theorem Rn.mono {as : List Value} {Q' : QT} (h0 : Rn Γ M as h sz Q) (hq : ∀ r h' sz', Q r h' sz' → Q' r h' sz') : Rn Γ M as h sz Q' := by
  intro p e h1 h2 h3 s m args below hf hS hP hK
  obtain ⟨n, o, a, b, c, ⟨r, h', sz', e1, e2, e3⟩, d⟩ := h0 p e h1 h2 h3 s m args below hf hS hP hK
  exact ⟨n, o, a, b, c, ⟨r, h', sz', e1, hq _ _ _ e2, e3⟩, d⟩
theorem Rm.of {M M' : MI} {cc cn : Nat} (h : (Nat.ble (M'.2.2.2.2.frames + 1) M.2.2.2.2.frames && (Nat.ble (8 + (M'.2.2.1 + 11) + M'.2.2.2.2.locals) M.2.2.2.2.locals && (Nat.ble (cc + M'.2.2.2.2.cells) M.2.2.2.2.cells && Nat.ble (cn + M'.2.2.2.2.slots) M.2.2.2.2.slots))) = true) : Rm M M' cc cn := by
  simp only [Bool.and_eq_true] at h
  exact ⟨⟨Nat.le_of_ble_eq_true h.1, Nat.le_of_ble_eq_true h.2.1⟩, Nat.le_of_ble_eq_true h.2.2.1, Nat.le_of_ble_eq_true h.2.2.2⟩
end Ends1
end
section
theorem gs0 {w : Cond} (i : Nat) (h : (k2_sels lw_privs)[i]? = some w) (hg : goodWord w = true) : w ∈ gtbl := List.mem_filter.mpr ⟨List.mem_append_left _ (List.mem_of_getElem? h), hg⟩
theorem gs1 {w : Cond} (i : Nat) (h : tables_1_1[i]? = some w) (hg : goodWord w = true) : w ∈ gtbl := List.mem_filter.mpr ⟨List.mem_append_right _ (List.mem_append_left _ (List.mem_of_getElem? h)), hg⟩
theorem gs2 {w : Cond} (i : Nat) (h : tables_1_2[i]? = some w) (hg : goodWord w = true) : w ∈ gtbl := List.mem_filter.mpr ⟨List.mem_append_right _ (List.mem_append_right _ (List.mem_append_left _ (List.mem_of_getElem? h))), hg⟩
theorem gs3 {w : Cond} (i : Nat) (h : tables_1_3[i]? = some w) (hg : goodWord w = true) : w ∈ gtbl := List.mem_filter.mpr ⟨List.mem_append_right _ (List.mem_append_right _ (List.mem_append_right _ (List.mem_append_left _ (List.mem_of_getElem? h)))), hg⟩
theorem gs4 {w : Cond} (i : Nat) (h : tables_1_4[i]? = some w) (hg : goodWord w = true) : w ∈ gtbl := List.mem_filter.mpr ⟨List.mem_append_right _ (List.mem_append_right _ (List.mem_append_right _ (List.mem_append_right _ (List.mem_append_left _ (List.mem_of_getElem? h))))), hg⟩
theorem gs5 {w : Cond} (i : Nat) (h : tables_1_5[i]? = some w) (hg : goodWord w = true) : w ∈ gtbl := List.mem_filter.mpr ⟨List.mem_append_right _ (List.mem_append_right _ (List.mem_append_right _ (List.mem_append_right _ (List.mem_append_right _ (List.mem_append_left _ (List.mem_of_getElem? h)))))), hg⟩
theorem gs6 {w : Cond} (i : Nat) (h : tables_1_6[i]? = some w) (hg : goodWord w = true) : w ∈ gtbl := List.mem_filter.mpr ⟨List.mem_append_right _ (List.mem_append_right _ (List.mem_append_right _ (List.mem_append_right _ (List.mem_append_right _ (List.mem_append_right _ (List.mem_of_getElem? h)))))), hg⟩
def isRf (v : Value) : Bool := match v with
  | .ref _ => true
  | _ => false
theorem nref {fs : List Value} (h : (fs.all fun v => !isRf v) = true) : ∀ v ∈ fs, ∀ k, v ≠ .ref k := by
  intro v hv k e
  have := List.all_eq_true.mp h v hv
  rw [e] at this
  cases this
theorem tt0 : Tt 0 := ⟨_, _, _, tyX0, rfl, tyX0_ok, nmX0, inX0⟩
theorem tt1 : Tt 1 := ⟨_, _, _, tyX1, rfl, tyX1_ok, nmX1, inX1⟩
theorem tt2 : Tt 2 := ⟨_, _, _, tyX2, rfl, tyX2_ok, nmX2, inX2⟩
theorem tt3 : Tt 3 := ⟨_, _, _, tyX3, rfl, tyX3_ok, nmX3, inX3⟩
theorem tt4 : Tt 4 := ⟨_, _, _, tyX4, rfl, tyX4_ok, nmX4, inX4⟩
theorem tt5 : Tt 5 := ⟨_, _, _, tyX5, rfl, tyX5_ok, nmX5, inX5⟩
theorem tt6 : Tt 6 := ⟨_, _, _, tyX6, rfl, tyX6_ok, nmX6, inX6⟩
theorem tt7 : Tt 7 := ⟨_, _, _, tyX7, rfl, tyX7_ok, nmX7, inX7⟩
theorem tt8 : Tt 8 := ⟨_, _, _, tyX8, rfl, tyX8_ok, nmX8, inX8⟩
theorem tt9 : Tt 9 := ⟨_, _, _, tyX9, rfl, tyX9_ok, nmX9, inX9⟩
theorem tt10 : Tt 10 := ⟨_, _, _, tyX10, rfl, tyX10_ok, nmX10, inX10⟩
theorem fX9_12 : Fl "SoldWithIt" 12 9 0 := ⟨_, _, _, rfl, by decide, inX9, gs2 61 rfl rfl⟩
theorem gX9_12 : Ff 9 0 "SoldWithIt" true := ⟨_, _, _, rfl, rfl, fun _ => by first | rfl | contradiction⟩
theorem fX9_21 : Fl "SoldWithIt" 21 9 1 := ⟨_, _, _, rfl, by decide, inX9, gs2 62 rfl rfl⟩
theorem gX9_21 : Ff 9 1 "SoldWithIt" true := ⟨_, _, _, rfl, rfl, fun _ => by first | rfl | contradiction⟩
theorem fX9_28 : Fl "SoldWithIt" 28 9 2 := ⟨_, _, _, rfl, by decide, inX9, gs2 63 rfl rfl⟩
theorem gX9_28 : Ff 9 2 "SoldWithIt" true := ⟨_, _, _, rfl, rfl, fun _ => by first | rfl | contradiction⟩
theorem fX9_35 : Fl "SoldWithIt" 35 9 3 := ⟨_, _, _, rfl, by decide, inX9, gs2 64 rfl rfl⟩
theorem gX9_35 : Ff 9 3 "SoldWithIt" true := ⟨_, _, _, rfl, rfl, fun _ => by first | rfl | contradiction⟩
theorem fX9_42 : Fl "SoldWithIt" 42 9 4 := ⟨_, _, _, rfl, by decide, inX9, gs2 65 rfl rfl⟩
theorem gX9_42 : Ff 9 4 "SoldWithIt" true := ⟨_, _, _, rfl, rfl, fun _ => by first | rfl | contradiction⟩
theorem fX9_49 : Fl "SoldWithIt" 49 9 5 := ⟨_, _, _, rfl, by decide, inX9, gs2 66 rfl rfl⟩
theorem gX9_49 : Ff 9 5 "SoldWithIt" true := ⟨_, _, _, rfl, rfl, fun _ => by first | rfl | contradiction⟩
theorem fX9_56 : Fl "SoldWithIt" 56 9 6 := ⟨_, _, _, rfl, by decide, inX9, gs2 67 rfl rfl⟩
theorem gX9_56 : Ff 9 6 "SoldWithIt" true := ⟨_, _, _, rfl, rfl, fun _ => by first | rfl | contradiction⟩
theorem fX9_63 : Fl "SoldWithIt" 63 9 7 := ⟨_, _, _, rfl, by decide, inX9, gs2 68 rfl rfl⟩
theorem gX9_63 : Ff 9 7 "SoldWithIt" true := ⟨_, _, _, rfl, rfl, fun _ => by first | rfl | contradiction⟩
theorem fX9_70 : Fl "SoldWithIt" 70 9 8 := ⟨_, _, _, rfl, by decide, inX9, gs2 69 rfl rfl⟩
theorem gX9_70 : Ff 9 8 "SoldWithIt" true := ⟨_, _, _, rfl, rfl, fun _ => by first | rfl | contradiction⟩
theorem fX9_74 : Fl "SoldWithIt" 74 9 9 := ⟨_, _, _, rfl, by decide, inX9, gs2 70 rfl rfl⟩
theorem gX9_74 : Ff 9 9 "SoldWithIt" false := ⟨_, _, _, rfl, rfl, fun h => by cases h⟩
theorem fX9_78 : Fl "SoldWithIt" 78 9 10 := ⟨_, _, _, rfl, by decide, inX9, gs2 71 rfl rfl⟩
theorem gX9_78 : Ff 9 10 "SoldWithIt" false := ⟨_, _, _, rfl, rfl, fun h => by cases h⟩
theorem fX9_92 : Fl "SoldWithIt" 92 8 1 := ⟨_, _, _, rfl, by decide, inX8, gs1 40 rfl rfl⟩
theorem gX9_92 : Ff 8 1 "SoldWithIt" false := ⟨_, _, _, rfl, rfl, fun h => by cases h⟩
theorem fX9_105 : Fl "SoldWithIt" 105 5 2 := ⟨_, _, _, rfl, by decide, inX5, gs1 65 rfl rfl⟩
theorem fX9_109 : Fl "SoldWithIt" 109 5 3 := ⟨_, _, _, rfl, by decide, inX5, gs1 68 rfl rfl⟩
theorem fX9_112 : Fl "SoldWithIt" 112 5 7 := ⟨_, _, _, rfl, by decide, inX5, gs1 80 rfl rfl⟩
theorem fX9_118 : Fl "SoldWithIt" 118 5 5 := ⟨_, _, _, rfl, by decide, inX5, gs1 74 rfl rfl⟩
theorem fX9_121 : Fl "SoldWithIt" 121 5 6 := ⟨_, _, _, rfl, by decide, inX5, gs1 77 rfl rfl⟩
theorem fX9_128 : Fl "SoldWithIt" 128 5 4 := ⟨_, _, _, rfl, by decide, inX5, gs1 72 rfl rfl⟩
theorem fX9_131 : Fl "SoldWithIt" 131 3 0 := ⟨_, _, _, rfl, by decide, inX3, gs1 107 rfl rfl⟩
theorem gX9_131 : Ff 3 0 "SoldWithIt" false := ⟨_, _, _, rfl, rfl, fun h => by cases h⟩
theorem fX9_143 : Fl "SoldWithIt" 143 3 1 := ⟨_, _, _, rfl, by decide, inX3, gs1 111 rfl rfl⟩
theorem gX9_143 : Ff 3 1 "SoldWithIt" false := ⟨_, _, _, rfl, rfl, fun h => by cases h⟩
theorem fX9_154 : Fl "SoldWithIt" 154 4 1 := ⟨_, _, _, rfl, by decide, inX4, gs2 51 rfl rfl⟩
theorem fX9_155 : Fl "SoldWithIt" 155 4 2 := ⟨_, _, _, rfl, by decide, inX4, gs2 53 rfl rfl⟩
theorem fX9_166 : Fl "SoldWithIt" 166 6 0 := ⟨_, _, _, rfl, by decide, inX6, gs1 133 rfl rfl⟩
theorem fX9_167 : Fl "SoldWithIt" 167 6 2 := ⟨_, _, _, rfl, by decide, inX6, gs1 138 rfl rfl⟩
theorem fX9_170 : Fl "SoldWithIt" 170 6 3 := ⟨_, _, _, rfl, by decide, inX6, gs1 140 rfl rfl⟩
theorem fX9_173 : Fl "SoldWithIt" 173 6 6 := ⟨_, _, _, rfl, by decide, inX6, gs1 145 rfl rfl⟩
theorem fX9_184 : Fl "SoldWithIt" 184 7 0 := ⟨_, _, _, rfl, by decide, inX7, gs1 168 rfl rfl⟩
theorem fX9_194 : Fl "SoldWithIt" 194 7 1 := ⟨_, _, _, rfl, by decide, inX7, gs1 170 rfl rfl⟩
theorem fX9_197 : Fl "SoldWithIt" 197 5 0 := ⟨_, _, _, rfl, by decide, inX5, gs1 57 rfl rfl⟩
theorem fX9_200 : Fl "SoldWithIt" 200 5 1 := ⟨_, _, _, rfl, by decide, inX5, gs1 62 rfl rfl⟩
theorem fX9_226 : Fl "SoldWithIt" 226 2 12 := ⟨_, _, _, rfl, by decide, inX2, gs1 197 rfl rfl⟩
theorem fX9_229 : Fl "SoldWithIt" 229 2 13 := ⟨_, _, _, rfl, by decide, inX2, gs1 199 rfl rfl⟩
theorem fX9_276 : Fl "SoldWithIt" 276 1 0 := ⟨_, _, _, rfl, by decide, inX1, gs2 29 rfl rfl⟩
theorem gX9_276 : Ff 1 0 "SoldWithIt" false := ⟨_, _, _, rfl, rfl, fun h => by cases h⟩
theorem fX9_281 : Fl "SoldWithIt" 281 2 14 := ⟨_, _, _, rfl, by decide, inX2, gs1 201 rfl rfl⟩
theorem fX9_284 : Fl "SoldWithIt" 284 2 15 := ⟨_, _, _, rfl, by decide, inX2, gs1 203 rfl rfl⟩
theorem fX9_297 : Fl "SoldWithIt" 297 4 0 := ⟨_, _, _, rfl, by decide, inX4, gs2 49 rfl rfl⟩
theorem gX9_297 : Ff 4 0 "SoldWithIt" false := ⟨_, _, _, rfl, rfl, fun h => by cases h⟩
theorem fX9_379 : Fl "SoldWithIt" 379 6 5 := ⟨_, _, _, rfl, by decide, inX6, gs1 143 rfl rfl⟩
theorem fX0_12 : Fl "SoldWithIt$Deeds" 12 0 0 := ⟨_, _, _, rfl, by decide, inX0, gs2 5 rfl rfl⟩
theorem gX0_12 : Ff 0 0 "SoldWithIt$Deeds" true := ⟨_, _, _, rfl, rfl, fun _ => by first | rfl | contradiction⟩
theorem fX0_18 : Fl "SoldWithIt$Deeds" 18 0 1 := ⟨_, _, _, rfl, by decide, inX0, gs2 6 rfl rfl⟩
theorem gX0_18 : Ff 0 1 "SoldWithIt$Deeds" false := ⟨_, _, _, rfl, rfl, fun h => by cases h⟩
theorem fX0_22 : Fl "SoldWithIt$Deeds" 22 0 2 := ⟨_, _, _, rfl, by decide, inX0, gs2 7 rfl rfl⟩
theorem gX0_22 : Ff 0 2 "SoldWithIt$Deeds" false := ⟨_, _, _, rfl, rfl, fun h => by cases h⟩
theorem fX0_25 : Fl "SoldWithIt$Deeds" 25 0 3 := ⟨_, _, _, rfl, by decide, inX0, gs2 8 rfl rfl⟩
theorem gX0_25 : Ff 0 3 "SoldWithIt$Deeds" false := ⟨_, _, _, rfl, rfl, fun h => by cases h⟩
theorem fX0_29 : Fl "SoldWithIt$Deeds" 29 0 4 := ⟨_, _, _, rfl, by decide, inX0, gs2 9 rfl rfl⟩
theorem gX0_29 : Ff 0 4 "SoldWithIt$Deeds" false := ⟨_, _, _, rfl, rfl, fun h => by cases h⟩
theorem fX0_33 : Fl "SoldWithIt$Deeds" 33 5 0 := ⟨_, _, _, rfl, by decide, inX5, gs1 55 rfl rfl⟩
theorem fX0_44 : Fl "SoldWithIt$Deeds" 44 5 2 := ⟨_, _, _, rfl, by decide, inX5, gs1 66 rfl rfl⟩
theorem fX0_64 : Fl "SoldWithIt$Deeds" 64 6 1 := ⟨_, _, _, rfl, by decide, inX6, gs1 135 rfl rfl⟩
theorem fX0_70 : Fl "SoldWithIt$Deeds" 70 5 1 := ⟨_, _, _, rfl, by decide, inX5, gs1 61 rfl rfl⟩
theorem fX0_73 : Fl "SoldWithIt$Deeds" 73 5 7 := ⟨_, _, _, rfl, by decide, inX5, gs1 81 rfl rfl⟩
theorem fX1_9 : Fl "SoldWithIt$Facts" 9 1 0 := ⟨_, _, _, rfl, by decide, inX1, gs2 27 rfl rfl⟩
theorem gX1_9 : Ff 1 0 "SoldWithIt$Facts" false := ⟨_, _, _, rfl, rfl, fun h => by cases h⟩
theorem fX1_15 : Fl "SoldWithIt$Facts" 15 1 1 := ⟨_, _, _, rfl, by decide, inX1, gs2 30 rfl rfl⟩
theorem gX1_15 : Ff 1 1 "SoldWithIt$Facts" true := ⟨_, _, _, rfl, rfl, fun _ => by first | rfl | contradiction⟩
theorem fX1_19 : Fl "SoldWithIt$Facts" 19 1 2 := ⟨_, _, _, rfl, by decide, inX1, gs2 32 rfl rfl⟩
theorem gX1_19 : Ff 1 2 "SoldWithIt$Facts" true := ⟨_, _, _, rfl, rfl, fun _ => by first | rfl | contradiction⟩
theorem fX2_12 : Fl "SoldWithIt$Rows" 12 2 0 := ⟨_, _, _, rfl, by decide, inX2, gs1 184 rfl rfl⟩
theorem gX2_12 : Ff 2 0 "SoldWithIt$Rows" true := ⟨_, _, _, rfl, rfl, fun _ => by first | rfl | contradiction⟩
theorem fX2_18 : Fl "SoldWithIt$Rows" 18 2 1 := ⟨_, _, _, rfl, by decide, inX2, gs1 185 rfl rfl⟩
theorem gX2_18 : Ff 2 1 "SoldWithIt$Rows" true := ⟨_, _, _, rfl, rfl, fun _ => by first | rfl | contradiction⟩
theorem fX2_22 : Fl "SoldWithIt$Rows" 22 2 2 := ⟨_, _, _, rfl, by decide, inX2, gs1 186 rfl rfl⟩
theorem gX2_22 : Ff 2 2 "SoldWithIt$Rows" true := ⟨_, _, _, rfl, rfl, fun _ => by first | rfl | contradiction⟩
theorem fX2_25 : Fl "SoldWithIt$Rows" 25 2 3 := ⟨_, _, _, rfl, by decide, inX2, gs1 187 rfl rfl⟩
theorem gX2_25 : Ff 2 3 "SoldWithIt$Rows" true := ⟨_, _, _, rfl, rfl, fun _ => by first | rfl | contradiction⟩
theorem fX2_28 : Fl "SoldWithIt$Rows" 28 2 4 := ⟨_, _, _, rfl, by decide, inX2, gs1 188 rfl rfl⟩
theorem gX2_28 : Ff 2 4 "SoldWithIt$Rows" true := ⟨_, _, _, rfl, rfl, fun _ => by first | rfl | contradiction⟩
theorem fX2_31 : Fl "SoldWithIt$Rows" 31 2 5 := ⟨_, _, _, rfl, by decide, inX2, gs1 189 rfl rfl⟩
theorem gX2_31 : Ff 2 5 "SoldWithIt$Rows" false := ⟨_, _, _, rfl, rfl, fun h => by cases h⟩
theorem fX2_35 : Fl "SoldWithIt$Rows" 35 2 6 := ⟨_, _, _, rfl, by decide, inX2, gs1 190 rfl rfl⟩
theorem gX2_35 : Ff 2 6 "SoldWithIt$Rows" false := ⟨_, _, _, rfl, rfl, fun h => by cases h⟩
theorem fX2_39 : Fl "SoldWithIt$Rows" 39 2 7 := ⟨_, _, _, rfl, by decide, inX2, gs1 191 rfl rfl⟩
theorem gX2_39 : Ff 2 7 "SoldWithIt$Rows" false := ⟨_, _, _, rfl, rfl, fun h => by cases h⟩
theorem fX2_42 : Fl "SoldWithIt$Rows" 42 2 8 := ⟨_, _, _, rfl, by decide, inX2, gs1 192 rfl rfl⟩
theorem gX2_42 : Ff 2 8 "SoldWithIt$Rows" false := ⟨_, _, _, rfl, rfl, fun h => by cases h⟩
theorem fX2_45 : Fl "SoldWithIt$Rows" 45 2 9 := ⟨_, _, _, rfl, by decide, inX2, gs1 193 rfl rfl⟩
theorem gX2_45 : Ff 2 9 "SoldWithIt$Rows" false := ⟨_, _, _, rfl, rfl, fun h => by cases h⟩
theorem fX2_49 : Fl "SoldWithIt$Rows" 49 2 10 := ⟨_, _, _, rfl, by decide, inX2, gs1 194 rfl rfl⟩
theorem gX2_49 : Ff 2 10 "SoldWithIt$Rows" false := ⟨_, _, _, rfl, rfl, fun h => by cases h⟩
theorem fX2_52 : Fl "SoldWithIt$Rows" 52 2 11 := ⟨_, _, _, rfl, by decide, inX2, gs1 195 rfl rfl⟩
theorem gX2_52 : Ff 2 11 "SoldWithIt$Rows" false := ⟨_, _, _, rfl, rfl, fun h => by cases h⟩
theorem fX2_55 : Fl "SoldWithIt$Rows" 55 2 12 := ⟨_, _, _, rfl, by decide, inX2, gs1 196 rfl rfl⟩
theorem gX2_55 : Ff 2 12 "SoldWithIt$Rows" false := ⟨_, _, _, rfl, rfl, fun h => by cases h⟩
theorem fX2_58 : Fl "SoldWithIt$Rows" 58 2 13 := ⟨_, _, _, rfl, by decide, inX2, gs1 198 rfl rfl⟩
theorem gX2_58 : Ff 2 13 "SoldWithIt$Rows" false := ⟨_, _, _, rfl, rfl, fun h => by cases h⟩
theorem fX2_61 : Fl "SoldWithIt$Rows" 61 2 14 := ⟨_, _, _, rfl, by decide, inX2, gs1 200 rfl rfl⟩
theorem gX2_61 : Ff 2 14 "SoldWithIt$Rows" false := ⟨_, _, _, rfl, rfl, fun h => by cases h⟩
theorem fX2_64 : Fl "SoldWithIt$Rows" 64 2 15 := ⟨_, _, _, rfl, by decide, inX2, gs1 202 rfl rfl⟩
theorem gX2_64 : Ff 2 15 "SoldWithIt$Rows" true := ⟨_, _, _, rfl, rfl, fun _ => by first | rfl | contradiction⟩
theorem fX2_82 : Fl "SoldWithIt$Rows" 82 5 1 := ⟨_, _, _, rfl, by decide, inX5, gs1 60 rfl rfl⟩
theorem fX2_92 : Fl "SoldWithIt$Rows" 92 3 1 := ⟨_, _, _, rfl, by decide, inX3, gs1 110 rfl rfl⟩
theorem fX2_106 : Fl "SoldWithIt$Rows" 106 5 0 := ⟨_, _, _, rfl, by decide, inX5, gs1 56 rfl rfl⟩
theorem fX2_109 : Fl "SoldWithIt$Rows" 109 6 2 := ⟨_, _, _, rfl, by decide, inX6, gs1 137 rfl rfl⟩
theorem fX2_112 : Fl "SoldWithIt$Rows" 112 6 0 := ⟨_, _, _, rfl, by decide, inX6, gs1 132 rfl rfl⟩
theorem fX2_115 : Fl "SoldWithIt$Rows" 115 5 3 := ⟨_, _, _, rfl, by decide, inX5, gs1 69 rfl rfl⟩
theorem fX2_140 : Fl "SoldWithIt$Rows" 140 5 5 := ⟨_, _, _, rfl, by decide, inX5, gs1 75 rfl rfl⟩
theorem fX2_146 : Fl "SoldWithIt$Rows" 146 5 6 := ⟨_, _, _, rfl, by decide, inX5, gs1 78 rfl rfl⟩
theorem fX2_164 : Fl "SoldWithIt$Rows" 164 1 0 := ⟨_, _, _, rfl, by decide, inX1, gs2 28 rfl rfl⟩
theorem fX2_167 : Fl "SoldWithIt$Rows" 167 1 1 := ⟨_, _, _, rfl, by decide, inX1, gs2 31 rfl rfl⟩
theorem fX2_170 : Fl "SoldWithIt$Rows" 170 1 2 := ⟨_, _, _, rfl, by decide, inX1, gs2 33 rfl rfl⟩
theorem fX3_9 : Fl "SoldWithIt$Sales" 9 3 0 := ⟨_, _, _, rfl, by decide, inX3, gs1 105 rfl rfl⟩
theorem gX3_9 : Ff 3 0 "SoldWithIt$Sales" false := ⟨_, _, _, rfl, rfl, fun h => by cases h⟩
theorem fX3_15 : Fl "SoldWithIt$Sales" 15 3 1 := ⟨_, _, _, rfl, by decide, inX3, gs1 108 rfl rfl⟩
theorem gX3_15 : Ff 3 1 "SoldWithIt$Sales" false := ⟨_, _, _, rfl, rfl, fun h => by cases h⟩
theorem fX3_18 : Fl "SoldWithIt$Sales" 18 3 2 := ⟨_, _, _, rfl, by decide, inX3, gs1 112 rfl rfl⟩
theorem gX3_18 : Ff 3 2 "SoldWithIt$Sales" true := ⟨_, _, _, rfl, rfl, fun _ => by first | rfl | contradiction⟩
theorem fX3_22 : Fl "SoldWithIt$Sales" 22 3 3 := ⟨_, _, _, rfl, by decide, inX3, gs1 114 rfl rfl⟩
theorem gX3_22 : Ff 3 3 "SoldWithIt$Sales" true := ⟨_, _, _, rfl, rfl, fun _ => by first | rfl | contradiction⟩
theorem fX4_9 : Fl "SoldWithIt$Sheet" 9 4 0 := ⟨_, _, _, rfl, by decide, inX4, gs2 48 rfl rfl⟩
theorem gX4_9 : Ff 4 0 "SoldWithIt$Sheet" false := ⟨_, _, _, rfl, rfl, fun h => by cases h⟩
theorem fX4_15 : Fl "SoldWithIt$Sheet" 15 4 1 := ⟨_, _, _, rfl, by decide, inX4, gs2 50 rfl rfl⟩
theorem gX4_15 : Ff 4 1 "SoldWithIt$Sheet" false := ⟨_, _, _, rfl, rfl, fun h => by cases h⟩
theorem fX4_18 : Fl "SoldWithIt$Sheet" 18 4 2 := ⟨_, _, _, rfl, by decide, inX4, gs2 52 rfl rfl⟩
theorem gX4_18 : Ff 4 2 "SoldWithIt$Sheet" true := ⟨_, _, _, rfl, rfl, fun _ => by first | rfl | contradiction⟩
theorem fX5_9 : Fl "SoldWithIt$Street" 9 5 0 := ⟨_, _, _, rfl, by decide, inX5, gs1 53 rfl rfl⟩
theorem gX5_9 : Ff 5 0 "SoldWithIt$Street" false := ⟨_, _, _, rfl, rfl, fun h => by cases h⟩
theorem fX5_15 : Fl "SoldWithIt$Street" 15 5 1 := ⟨_, _, _, rfl, by decide, inX5, gs1 58 rfl rfl⟩
theorem gX5_15 : Ff 5 1 "SoldWithIt$Street" false := ⟨_, _, _, rfl, rfl, fun h => by cases h⟩
theorem fX5_18 : Fl "SoldWithIt$Street" 18 5 2 := ⟨_, _, _, rfl, by decide, inX5, gs1 63 rfl rfl⟩
theorem gX5_18 : Ff 5 2 "SoldWithIt$Street" true := ⟨_, _, _, rfl, rfl, fun _ => by first | rfl | contradiction⟩
theorem fX5_22 : Fl "SoldWithIt$Street" 22 5 3 := ⟨_, _, _, rfl, by decide, inX5, gs1 67 rfl rfl⟩
theorem gX5_22 : Ff 5 3 "SoldWithIt$Street" true := ⟨_, _, _, rfl, rfl, fun _ => by first | rfl | contradiction⟩
theorem fX5_25 : Fl "SoldWithIt$Street" 25 5 4 := ⟨_, _, _, rfl, by decide, inX5, gs1 70 rfl rfl⟩
theorem gX5_25 : Ff 5 4 "SoldWithIt$Street" true := ⟨_, _, _, rfl, rfl, fun _ => by first | rfl | contradiction⟩
theorem fX5_28 : Fl "SoldWithIt$Street" 28 5 5 := ⟨_, _, _, rfl, by decide, inX5, gs1 73 rfl rfl⟩
theorem gX5_28 : Ff 5 5 "SoldWithIt$Street" true := ⟨_, _, _, rfl, rfl, fun _ => by first | rfl | contradiction⟩
theorem fX5_31 : Fl "SoldWithIt$Street" 31 5 6 := ⟨_, _, _, rfl, by decide, inX5, gs1 76 rfl rfl⟩
theorem gX5_31 : Ff 5 6 "SoldWithIt$Street" true := ⟨_, _, _, rfl, rfl, fun _ => by first | rfl | contradiction⟩
theorem fX5_34 : Fl "SoldWithIt$Street" 34 5 7 := ⟨_, _, _, rfl, by decide, inX5, gs1 79 rfl rfl⟩
theorem gX5_34 : Ff 5 7 "SoldWithIt$Street" true := ⟨_, _, _, rfl, rfl, fun _ => by first | rfl | contradiction⟩
theorem fX5_37 : Fl "SoldWithIt$Street" 37 8 1 := ⟨_, _, _, rfl, by decide, inX8, gs1 39 rfl rfl⟩
theorem fX5_42 : Fl "SoldWithIt$Street" 42 8 0 := ⟨_, _, _, rfl, by decide, inX8, gs1 37 rfl rfl⟩
theorem fX6_9 : Fl "SoldWithIt$Stroke" 9 6 0 := ⟨_, _, _, rfl, by decide, inX6, gs1 131 rfl rfl⟩
theorem gX6_9 : Ff 6 0 "SoldWithIt$Stroke" true := ⟨_, _, _, rfl, rfl, fun _ => by first | rfl | contradiction⟩
theorem fX6_15 : Fl "SoldWithIt$Stroke" 15 6 1 := ⟨_, _, _, rfl, by decide, inX6, gs1 134 rfl rfl⟩
theorem gX6_15 : Ff 6 1 "SoldWithIt$Stroke" true := ⟨_, _, _, rfl, rfl, fun _ => by first | rfl | contradiction⟩
theorem fX6_18 : Fl "SoldWithIt$Stroke" 18 6 2 := ⟨_, _, _, rfl, by decide, inX6, gs1 136 rfl rfl⟩
theorem gX6_18 : Ff 6 2 "SoldWithIt$Stroke" true := ⟨_, _, _, rfl, rfl, fun _ => by first | rfl | contradiction⟩
theorem fX6_21 : Fl "SoldWithIt$Stroke" 21 6 3 := ⟨_, _, _, rfl, by decide, inX6, gs1 139 rfl rfl⟩
theorem gX6_21 : Ff 6 3 "SoldWithIt$Stroke" true := ⟨_, _, _, rfl, rfl, fun _ => by first | rfl | contradiction⟩
theorem fX6_24 : Fl "SoldWithIt$Stroke" 24 6 4 := ⟨_, _, _, rfl, by decide, inX6, gs1 141 rfl rfl⟩
theorem gX6_24 : Ff 6 4 "SoldWithIt$Stroke" false := ⟨_, _, _, rfl, rfl, fun h => by cases h⟩
theorem fX6_28 : Fl "SoldWithIt$Stroke" 28 6 5 := ⟨_, _, _, rfl, by decide, inX6, gs1 142 rfl rfl⟩
theorem gX6_28 : Ff 6 5 "SoldWithIt$Stroke" false := ⟨_, _, _, rfl, rfl, fun h => by cases h⟩
theorem fX6_31 : Fl "SoldWithIt$Stroke" 31 6 6 := ⟨_, _, _, rfl, by decide, inX6, gs1 144 rfl rfl⟩
theorem gX6_31 : Ff 6 6 "SoldWithIt$Stroke" false := ⟨_, _, _, rfl, rfl, fun h => by cases h⟩
theorem fX6_34 : Fl "SoldWithIt$Stroke" 34 5 2 := ⟨_, _, _, rfl, by decide, inX5, gs1 64 rfl rfl⟩
theorem fX6_43 : Fl "SoldWithIt$Stroke" 43 5 4 := ⟨_, _, _, rfl, by decide, inX5, gs1 71 rfl rfl⟩
theorem fX6_55 : Fl "SoldWithIt$Stroke" 55 3 1 := ⟨_, _, _, rfl, by decide, inX3, gs1 109 rfl rfl⟩
theorem fX6_60 : Fl "SoldWithIt$Stroke" 60 3 2 := ⟨_, _, _, rfl, by decide, inX3, gs1 113 rfl rfl⟩
theorem fX6_63 : Fl "SoldWithIt$Stroke" 63 3 3 := ⟨_, _, _, rfl, by decide, inX3, gs1 115 rfl rfl⟩
theorem fX6_66 : Fl "SoldWithIt$Stroke" 66 5 0 := ⟨_, _, _, rfl, by decide, inX5, gs1 54 rfl rfl⟩
theorem fX6_69 : Fl "SoldWithIt$Stroke" 69 5 1 := ⟨_, _, _, rfl, by decide, inX5, gs1 59 rfl rfl⟩
theorem fX6_72 : Fl "SoldWithIt$Stroke" 72 3 0 := ⟨_, _, _, rfl, by decide, inX3, gs1 106 rfl rfl⟩
theorem fX7_9 : Fl "SoldWithIt$Tastes" 9 7 0 := ⟨_, _, _, rfl, by decide, inX7, gs1 167 rfl rfl⟩
theorem gX7_9 : Ff 7 0 "SoldWithIt$Tastes" true := ⟨_, _, _, rfl, rfl, fun _ => by first | rfl | contradiction⟩
theorem fX7_15 : Fl "SoldWithIt$Tastes" 15 7 1 := ⟨_, _, _, rfl, by decide, inX7, gs1 169 rfl rfl⟩
theorem gX7_15 : Ff 7 1 "SoldWithIt$Tastes" true := ⟨_, _, _, rfl, rfl, fun _ => by first | rfl | contradiction⟩
theorem fX8_7 : Fl "SoldWithIt$Text" 7 8 1 := ⟨_, _, _, rfl, by decide, inX8, gs1 38 rfl rfl⟩
theorem gX8_7 : Ff 8 1 "SoldWithIt$Text" false := ⟨_, _, _, rfl, rfl, fun h => by cases h⟩
theorem fX8_13 : Fl "SoldWithIt$Text" 13 8 0 := ⟨_, _, _, rfl, by decide, inX8, gs1 36 rfl rfl⟩
theorem gX8_13 : Ff 8 0 "SoldWithIt$Text" true := ⟨_, _, _, rfl, rfl, fun _ => by first | rfl | contradiction⟩
theorem fX10_7 : Fl "SoldWithItModel" 7 10 0 := ⟨_, _, _, rfl, by decide, inX10, gs4 188 rfl rfl⟩
theorem gX10_7 : Ff 10 0 "SoldWithItModel" true := ⟨_, _, _, rfl, rfl, fun _ => by first | rfl | contradiction⟩
theorem fX10_13 : Fl "SoldWithItModel" 13 10 1 := ⟨_, _, _, rfl, by decide, inX10, gs4 189 rfl rfl⟩
theorem gX10_13 : Ff 10 1 "SoldWithItModel" true := ⟨_, _, _, rfl, rfl, fun _ => by first | rfl | contradiction⟩
theorem fX10_16 : Fl "SoldWithItModel" 16 10 3 := ⟨_, _, _, rfl, by decide, inX10, gs4 191 rfl rfl⟩
theorem gX10_16 : Ff 10 3 "SoldWithItModel" true := ⟨_, _, _, rfl, rfl, fun _ => by first | rfl | contradiction⟩
theorem fX10_19 : Fl "SoldWithItModel" 19 10 4 := ⟨_, _, _, rfl, by decide, inX10, gs4 192 rfl rfl⟩
theorem gX10_19 : Ff 10 4 "SoldWithItModel" true := ⟨_, _, _, rfl, rfl, fun _ => by first | rfl | contradiction⟩
theorem fX10_22 : Fl "SoldWithItModel" 22 10 6 := ⟨_, _, _, rfl, by decide, inX10, gs4 194 rfl rfl⟩
theorem gX10_22 : Ff 10 6 "SoldWithItModel" true := ⟨_, _, _, rfl, rfl, fun _ => by first | rfl | contradiction⟩
theorem fX10_25 : Fl "SoldWithItModel" 25 10 7 := ⟨_, _, _, rfl, by decide, inX10, gs4 195 rfl rfl⟩
theorem gX10_25 : Ff 10 7 "SoldWithItModel" true := ⟨_, _, _, rfl, rfl, fun _ => by first | rfl | contradiction⟩
theorem fX10_28 : Fl "SoldWithItModel" 28 10 8 := ⟨_, _, _, rfl, by decide, inX10, gs4 196 rfl rfl⟩
theorem gX10_28 : Ff 10 8 "SoldWithItModel" true := ⟨_, _, _, rfl, rfl, fun _ => by first | rfl | contradiction⟩
theorem fX10_31 : Fl "SoldWithItModel" 31 10 10 := ⟨_, _, _, rfl, by decide, inX10, gs4 198 rfl rfl⟩
theorem gX10_31 : Ff 10 10 "SoldWithItModel" true := ⟨_, _, _, rfl, rfl, fun _ => by first | rfl | contradiction⟩
theorem fX10_34 : Fl "SoldWithItModel" 34 10 11 := ⟨_, _, _, rfl, by decide, inX10, gs4 199 rfl rfl⟩
theorem gX10_34 : Ff 10 11 "SoldWithItModel" true := ⟨_, _, _, rfl, rfl, fun _ => by first | rfl | contradiction⟩
theorem fX10_37 : Fl "SoldWithItModel" 37 10 12 := ⟨_, _, _, rfl, by decide, inX10, gs4 200 rfl rfl⟩
theorem gX10_37 : Ff 10 12 "SoldWithItModel" true := ⟨_, _, _, rfl, rfl, fun _ => by first | rfl | contradiction⟩
theorem fX10_40 : Fl "SoldWithItModel" 40 10 13 := ⟨_, _, _, rfl, by decide, inX10, gs4 201 rfl rfl⟩
theorem gX10_40 : Ff 10 13 "SoldWithItModel" true := ⟨_, _, _, rfl, rfl, fun _ => by first | rfl | contradiction⟩
theorem fX10_43 : Fl "SoldWithItModel" 43 10 14 := ⟨_, _, _, rfl, by decide, inX10, gs4 202 rfl rfl⟩
theorem gX10_43 : Ff 10 14 "SoldWithItModel" true := ⟨_, _, _, rfl, rfl, fun _ => by first | rfl | contradiction⟩
theorem fX10_46 : Fl "SoldWithItModel" 46 10 15 := ⟨_, _, _, rfl, by decide, inX10, gs4 203 rfl rfl⟩
theorem gX10_46 : Ff 10 15 "SoldWithItModel" true := ⟨_, _, _, rfl, rfl, fun _ => by first | rfl | contradiction⟩
theorem fX10_49 : Fl "SoldWithItModel" 49 10 16 := ⟨_, _, _, rfl, by decide, inX10, gs4 204 rfl rfl⟩
theorem gX10_49 : Ff 10 16 "SoldWithItModel" true := ⟨_, _, _, rfl, rfl, fun _ => by first | rfl | contradiction⟩
theorem fX10_52 : Fl "SoldWithItModel" 52 10 18 := ⟨_, _, _, rfl, by decide, inX10, gs4 206 rfl rfl⟩
theorem gX10_52 : Ff 10 18 "SoldWithItModel" true := ⟨_, _, _, rfl, rfl, fun _ => by first | rfl | contradiction⟩
theorem fX10_55 : Fl "SoldWithItModel" 55 10 19 := ⟨_, _, _, rfl, by decide, inX10, gs4 207 rfl rfl⟩
theorem gX10_55 : Ff 10 19 "SoldWithItModel" true := ⟨_, _, _, rfl, rfl, fun _ => by first | rfl | contradiction⟩
theorem fX10_58 : Fl "SoldWithItModel" 58 10 20 := ⟨_, _, _, rfl, by decide, inX10, gs4 208 rfl rfl⟩
theorem gX10_58 : Ff 10 20 "SoldWithItModel" true := ⟨_, _, _, rfl, rfl, fun _ => by first | rfl | contradiction⟩
theorem fX10_61 : Fl "SoldWithItModel" 61 10 21 := ⟨_, _, _, rfl, by decide, inX10, gs4 209 rfl rfl⟩
theorem gX10_61 : Ff 10 21 "SoldWithItModel" true := ⟨_, _, _, rfl, rfl, fun _ => by first | rfl | contradiction⟩
theorem fX10_64 : Fl "SoldWithItModel" 64 10 22 := ⟨_, _, _, rfl, by decide, inX10, gs4 210 rfl rfl⟩
theorem gX10_64 : Ff 10 22 "SoldWithItModel" true := ⟨_, _, _, rfl, rfl, fun _ => by first | rfl | contradiction⟩
theorem fX10_67 : Fl "SoldWithItModel" 67 10 24 := ⟨_, _, _, rfl, by decide, inX10, gs4 212 rfl rfl⟩
theorem gX10_67 : Ff 10 24 "SoldWithItModel" true := ⟨_, _, _, rfl, rfl, fun _ => by first | rfl | contradiction⟩
theorem fX10_70 : Fl "SoldWithItModel" 70 10 25 := ⟨_, _, _, rfl, by decide, inX10, gs4 213 rfl rfl⟩
theorem gX10_70 : Ff 10 25 "SoldWithItModel" true := ⟨_, _, _, rfl, rfl, fun _ => by first | rfl | contradiction⟩
theorem fX10_73 : Fl "SoldWithItModel" 73 10 26 := ⟨_, _, _, rfl, by decide, inX10, gs4 214 rfl rfl⟩
theorem gX10_73 : Ff 10 26 "SoldWithItModel" true := ⟨_, _, _, rfl, rfl, fun _ => by first | rfl | contradiction⟩
theorem fX10_76 : Fl "SoldWithItModel" 76 10 27 := ⟨_, _, _, rfl, by decide, inX10, gs4 215 rfl rfl⟩
theorem gX10_76 : Ff 10 27 "SoldWithItModel" true := ⟨_, _, _, rfl, rfl, fun _ => by first | rfl | contradiction⟩
theorem fX10_80 : Fl "SoldWithItModel" 80 10 28 := ⟨_, _, _, rfl, by decide, inX10, gs4 216 rfl rfl⟩
theorem gX10_80 : Ff 10 28 "SoldWithItModel" true := ⟨_, _, _, rfl, rfl, fun _ => by first | rfl | contradiction⟩
theorem fX10_83 : Fl "SoldWithItModel" 83 10 29 := ⟨_, _, _, rfl, by decide, inX10, gs4 217 rfl rfl⟩
theorem gX10_83 : Ff 10 29 "SoldWithItModel" true := ⟨_, _, _, rfl, rfl, fun _ => by first | rfl | contradiction⟩
theorem fX10_86 : Fl "SoldWithItModel" 86 10 30 := ⟨_, _, _, rfl, by decide, inX10, gs4 218 rfl rfl⟩
theorem gX10_86 : Ff 10 30 "SoldWithItModel" true := ⟨_, _, _, rfl, rfl, fun _ => by first | rfl | contradiction⟩
theorem fX10_89 : Fl "SoldWithItModel" 89 10 31 := ⟨_, _, _, rfl, by decide, inX10, gs4 219 rfl rfl⟩
theorem gX10_89 : Ff 10 31 "SoldWithItModel" true := ⟨_, _, _, rfl, rfl, fun _ => by first | rfl | contradiction⟩
theorem fX10_96 : Fl "SoldWithItModel" 96 10 2 := ⟨_, _, _, rfl, by decide, inX10, gs4 190 rfl rfl⟩
theorem gX10_96 : Ff 10 2 "SoldWithItModel" false := ⟨_, _, _, rfl, rfl, fun h => by cases h⟩
theorem fX10_104 : Fl "SoldWithItModel" 104 10 5 := ⟨_, _, _, rfl, by decide, inX10, gs4 193 rfl rfl⟩
theorem gX10_104 : Ff 10 5 "SoldWithItModel" false := ⟨_, _, _, rfl, rfl, fun h => by cases h⟩
theorem fX10_137 : Fl "SoldWithItModel" 137 10 9 := ⟨_, _, _, rfl, by decide, inX10, gs4 197 rfl rfl⟩
theorem gX10_137 : Ff 10 9 "SoldWithItModel" false := ⟨_, _, _, rfl, rfl, fun h => by cases h⟩
theorem fX10_159 : Fl "SoldWithItModel" 159 10 17 := ⟨_, _, _, rfl, by decide, inX10, gs4 205 rfl rfl⟩
theorem gX10_159 : Ff 10 17 "SoldWithItModel" false := ⟨_, _, _, rfl, rfl, fun h => by cases h⟩
theorem fX10_235 : Fl "SoldWithItModel" 235 10 23 := ⟨_, _, _, rfl, by decide, inX10, gs4 211 rfl rfl⟩
theorem gX10_235 : Ff 10 23 "SoldWithItModel" false := ⟨_, _, _, rfl, rfl, fun h => by cases h⟩
theorem fX10_241 : Fl "SoldWithItModel" 241 10 32 := ⟨_, _, _, rfl, by decide, inX10, gs4 220 rfl rfl⟩
theorem gX10_241 : Ff 10 32 "SoldWithItModel" false := ⟨_, _, _, rfl, rfl, fun h => by cases h⟩
theorem lX9_1 : Cond.methodLink "SoldWithIt" 1 objectInit ∈ gtbl := gs1 26 rfl rfl
theorem cX8_init : Cl mX8_init 1 := ⟨gs1 34 rfl rfl, gs1 2 rfl rfl, by decide +kernel⟩
theorem lX9_9 : LkI "SoldWithIt" 9 mX8_init 1 := ⟨gs1 32 rfl rfl, gs1 33 rfl rfl, rfl, rfl, cX8_init⟩
theorem cX5_init : Cl mX5_init 0 := ⟨gs1 51 rfl rfl, gs1 3 rfl rfl, by decide +kernel⟩
theorem lX9_20 : LkN "SoldWithIt" 20 mX5_init 0 := ⟨by decide +kernel, gs1 50 rfl rfl, rfl, rfl, cX5_init⟩
theorem cX3_init : Cl mX3_init 0 := ⟨gs1 103 rfl rfl, gs1 4 rfl rfl, by decide +kernel⟩
theorem lX9_27 : LkN "SoldWithIt" 27 mX3_init 0 := ⟨by decide +kernel, gs1 102 rfl rfl, rfl, rfl, cX3_init⟩
theorem cX6_init : Cl mX6_init 0 := ⟨gs1 129 rfl rfl, gs1 5 rfl rfl, by decide +kernel⟩
theorem lX9_34 : LkN "SoldWithIt" 34 mX6_init 0 := ⟨by decide +kernel, gs1 128 rfl rfl, rfl, rfl, cX6_init⟩
theorem cX7_init : Cl mX7_init 0 := ⟨gs1 165 rfl rfl, gs1 6 rfl rfl, by decide +kernel⟩
theorem lX9_41 : LkN "SoldWithIt" 41 mX7_init 0 := ⟨by decide +kernel, gs1 164 rfl rfl, rfl, rfl, cX7_init⟩
theorem cX2_init : Cl mX2_init 0 := ⟨gs1 180 rfl rfl, gs1 7 rfl rfl, by decide +kernel⟩
theorem lX9_48 : LkN "SoldWithIt" 48 mX2_init 0 := ⟨by decide +kernel, gs1 179 rfl rfl, rfl, rfl, cX2_init⟩
theorem cX0_init : Cl mX0_init 0 := ⟨gs2 1 rfl rfl, gs1 8 rfl rfl, by decide +kernel⟩
theorem lX9_55 : LkN "SoldWithIt" 55 mX0_init 0 := ⟨by decide +kernel, gs2 0 rfl rfl, rfl, rfl, cX0_init⟩
theorem cX1_init : Cl mX1_init 0 := ⟨gs2 25 rfl rfl, gs1 9 rfl rfl, by decide +kernel⟩
theorem lX9_62 : LkN "SoldWithIt" 62 mX1_init 0 := ⟨by decide +kernel, gs2 24 rfl rfl, rfl, rfl, cX1_init⟩
theorem cX4_init : Cl mX4_init 0 := ⟨gs2 46 rfl rfl, gs1 10 rfl rfl, by decide +kernel⟩
theorem lX9_69 : LkN "SoldWithIt" 69 mX4_init 0 := ⟨by decide +kernel, gs2 45 rfl rfl, rfl, rfl, cX4_init⟩
theorem cX9_noText : Cl mX9_noText 1 := ⟨gs2 101 rfl rfl, gs1 1 rfl rfl, by decide +kernel⟩
theorem lX9_82 : LkS "SoldWithIt" 82 mX9_noText 1 := ⟨gs2 99 rfl rfl, gs2 100 rfl rfl, cX9_noText⟩
theorem cX8_takes : Cl mX8_takes 1 := ⟨gs2 105 rfl rfl, gs1 2 rfl rfl, by decide +kernel⟩
theorem lX9_86 : LkV "SoldWithIt" 86 mX8_takes 1 8 := ⟨gs2 102 rfl rfl, gs2 103 rfl rfl, gs2 104 rfl rfl, ⟨_, _, rfl⟩, cX8_takes⟩
theorem cX9_retell : Cl mX9_retell 0 := ⟨gs2 109 rfl rfl, gs1 1 rfl rfl, by decide +kernel⟩
theorem lX9_89 : LkV "SoldWithIt" 89 mX9_retell 0 9 := ⟨gs2 106 rfl rfl, gs2 108 rfl rfl, gs0 0 rfl rfl, ⟨_, _, rfl⟩, cX9_retell⟩
theorem cX5_wrongHouse : Cl mX5_wrongHouse 1 := ⟨gs2 116 rfl rfl, gs1 3 rfl rfl, by decide +kernel⟩
theorem lX9_95 : LkS "SoldWithIt" 95 mX5_wrongHouse 1 := ⟨gs3 14 rfl rfl, gs2 115 rfl rfl, cX5_wrongHouse⟩
theorem cX5_wrongPerson : Cl mX5_wrongPerson 1 := ⟨gs2 122 rfl rfl, gs1 3 rfl rfl, by decide +kernel⟩
theorem lX9_99 : LkS "SoldWithIt" 99 mX5_wrongPerson 1 := ⟨gs3 15 rfl rfl, gs2 121 rfl rfl, cX5_wrongPerson⟩
theorem cX9_noHouse : Cl mX9_noHouse 1 := ⟨gs3 23 rfl rfl, gs1 1 rfl rfl, by decide +kernel⟩
theorem lX9_102 : LkV "SoldWithIt" 102 mX9_noHouse 1 9 := ⟨gs3 20 rfl rfl, gs3 22 rfl rfl, gs0 3 rfl rfl, ⟨_, _, rfl⟩, cX9_noHouse⟩
theorem cX9_nobody : Cl mX9_nobody 1 := ⟨gs3 31 rfl rfl, gs1 1 rfl rfl, by decide +kernel⟩
theorem lX9_115 : LkV "SoldWithIt" 115 mX9_nobody 1 9 := ⟨gs3 28 rfl rfl, gs3 30 rfl rfl, gs0 4 rfl rfl, ⟨_, _, rfl⟩, cX9_nobody⟩
theorem cX9_houseAt : Cl mX9_houseAt 1 := ⟨gs3 34 rfl rfl, gs1 1 rfl rfl, by decide +kernel⟩
theorem lX9_124 : LkS "SoldWithIt" 124 mX9_houseAt 1 := ⟨gs3 32 rfl rfl, gs3 33 rfl rfl, cX9_houseAt⟩
theorem cX9_recount : Cl mX9_recount 0 := ⟨gs2 223 rfl rfl, gs1 1 rfl rfl, by decide +kernel⟩
theorem lX9_134 : LkV "SoldWithIt" 134 mX9_recount 0 9 := ⟨gs2 220 rfl rfl, gs2 222 rfl rfl, gs0 2 rfl rfl, ⟨_, _, rfl⟩, cX9_recount⟩
theorem cX9_noNumber : Cl mX9_noNumber 1 := ⟨gs3 45 rfl rfl, gs1 1 rfl rfl, by decide +kernel⟩
theorem lX9_137 : LkS "SoldWithIt" 137 mX9_noNumber 1 := ⟨gs3 43 rfl rfl, gs3 44 rfl rfl, cX9_noNumber⟩
theorem cX3_takes : Cl mX3_takes 2 := ⟨gs3 49 rfl rfl, gs1 4 rfl rfl, by decide +kernel⟩
theorem lX9_140 : LkV "SoldWithIt" 140 mX3_takes 2 3 := ⟨gs3 46 rfl rfl, gs3 47 rfl rfl, gs3 48 rfl rfl, ⟨_, _, rfl⟩, cX3_takes⟩
theorem cX9_noSheet : Cl mX9_noSheet 1 := ⟨gs3 56 rfl rfl, gs1 1 rfl rfl, by decide +kernel⟩
theorem lX9_144 : LkS "SoldWithIt" 144 mX9_noSheet 1 := ⟨gs3 54 rfl rfl, gs3 55 rfl rfl, cX9_noSheet⟩
theorem cX4_isLost : Cl mX4_isLost 0 := ⟨gs3 60 rfl rfl, gs1 10 rfl rfl, by decide +kernel⟩
theorem lX9_147 : LkV "SoldWithIt" 147 mX4_isLost 0 4 := ⟨gs3 57 rfl rfl, gs3 58 rfl rfl, gs3 59 rfl rfl, ⟨_, _, rfl⟩, cX4_isLost⟩
theorem cX9_found : Cl mX9_found 1 := ⟨gs3 64 rfl rfl, gs1 1 rfl rfl, by decide +kernel⟩
theorem lX9_151 : LkV "SoldWithIt" 151 mX9_found 1 9 := ⟨gs3 61 rfl rfl, gs3 63 rfl rfl, gs0 5 rfl rfl, ⟨_, _, rfl⟩, cX9_found⟩
theorem cX9_sale : Cl mX9_sale 2 := ⟨gs3 42 rfl rfl, gs1 1 rfl rfl, by decide +kernel⟩
theorem lX9_158 : LkV "SoldWithIt" 158 mX9_sale 2 9 := ⟨gs3 65 rfl rfl, gs3 40 rfl rfl, gs3 41 rfl rfl, ⟨_, _, rfl⟩, cX9_sale⟩
theorem cX9_behind : Cl mX9_behind 1 := ⟨gs3 77 rfl rfl, gs1 1 rfl rfl, by decide +kernel⟩
theorem lX9_162 : LkV "SoldWithIt" 162 mX9_behind 1 9 := ⟨gs3 74 rfl rfl, gs3 76 rfl rfl, gs0 6 rfl rfl, ⟨_, _, rfl⟩, cX9_behind⟩
theorem cX9_noTaste : Cl mX9_noTaste 3 := ⟨gs3 132 rfl rfl, gs1 1 rfl rfl, by decide +kernel⟩
theorem lX9_176 : LkS "SoldWithIt" 176 mX9_noTaste 3 := ⟨gs3 130 rfl rfl, gs3 131 rfl rfl, cX9_noTaste⟩
theorem cX2_forgetBest : Cl mX2_forgetBest 0 := ⟨gs2 231 rfl rfl, gs1 7 rfl rfl, by decide +kernel⟩
theorem lX9_181 : LkV "SoldWithIt" 181 mX2_forgetBest 0 2 := ⟨gs3 134 rfl rfl, gs2 229 rfl rfl, gs2 230 rfl rfl, ⟨_, _, rfl⟩, cX2_forgetBest⟩
theorem cX7_swap : Cl mX7_swap 4 := ⟨gs3 137 rfl rfl, gs1 6 rfl rfl, by decide +kernel⟩
theorem lX9_187 : LkS "SoldWithIt" 187 mX7_swap 4 := ⟨gs3 135 rfl rfl, gs3 136 rfl rfl, cX7_swap⟩
theorem cX2_forgetRest : Cl mX2_forgetRest 0 := ⟨gs2 236 rfl rfl, gs1 7 rfl rfl, by decide +kernel⟩
theorem lX9_191 : LkV "SoldWithIt" 191 mX2_forgetRest 0 2 := ⟨gs3 142 rfl rfl, gs2 234 rfl rfl, gs2 235 rfl rfl, ⟨_, _, rfl⟩, cX2_forgetRest⟩
theorem cX7_worthOf : Cl mX7_worthOf 2 := ⟨gs3 150 rfl rfl, gs1 6 rfl rfl, by decide +kernel⟩
theorem lX9_203 : LkV "SoldWithIt" 203 mX7_worthOf 2 7 := ⟨gs3 147 rfl rfl, gs3 148 rfl rfl, gs3 149 rfl rfl, ⟨_, _, rfl⟩, cX7_worthOf⟩
theorem cX2_fill : Cl mX2_fill 2 := ⟨gs3 159 rfl rfl, gs1 7 rfl rfl, by decide +kernel⟩
theorem lX9_207 : LkV "SoldWithIt" 207 mX2_fill 2 2 := ⟨gs3 156 rfl rfl, gs3 157 rfl rfl, gs3 158 rfl rfl, ⟨_, _, rfl⟩, cX2_fill⟩
theorem cX2_bestRow : Cl mX2_bestRow 2 := ⟨gs3 177 rfl rfl, gs1 7 rfl rfl, by decide +kernel⟩
theorem lX9_211 : LkV "SoldWithIt" 211 mX2_bestRow 2 2 := ⟨gs3 174 rfl rfl, gs3 175 rfl rfl, gs3 176 rfl rfl, ⟨_, _, rfl⟩, cX2_bestRow⟩
theorem cX2_gainBy : Cl mX2_gainBy 3 := ⟨gs3 181 rfl rfl, gs1 7 rfl rfl, by decide +kernel⟩
theorem lX9_215 : LkV "SoldWithIt" 215 mX2_gainBy 3 2 := ⟨gs3 190 rfl rfl, gs3 179 rfl rfl, gs3 180 rfl rfl, ⟨_, _, rfl⟩, cX2_gainBy⟩
theorem cX2_spotIn : Cl mX2_spotIn 2 := ⟨gs3 194 rfl rfl, gs1 7 rfl rfl, by decide +kernel⟩
theorem lX9_219 : LkV "SoldWithIt" 219 mX2_spotIn 2 2 := ⟨gs3 191 rfl rfl, gs3 192 rfl rfl, gs3 193 rfl rfl, ⟨_, _, rfl⟩, cX2_spotIn⟩
theorem cX2_findRest : Cl mX2_findRest 2 := ⟨gs3 203 rfl rfl, gs1 7 rfl rfl, by decide +kernel⟩
theorem lX9_222 : LkV "SoldWithIt" 222 mX2_findRest 2 2 := ⟨gs3 200 rfl rfl, gs3 201 rfl rfl, gs3 202 rfl rfl, ⟨_, _, rfl⟩, cX2_findRest⟩
theorem cX3_toldHouses : Cl mX3_toldHouses 0 := ⟨gs3 225 rfl rfl, gs1 4 rfl rfl, by decide +kernel⟩
theorem lX9_233 : LkV "SoldWithIt" 233 mX3_toldHouses 0 3 := ⟨gs3 222 rfl rfl, gs3 223 rfl rfl, gs3 224 rfl rfl, ⟨_, _, rfl⟩, cX3_toldHouses⟩
theorem cJ9_min_7cf53 : Cl mJ9_min_7cf53 2 := ⟨gs2 160 rfl rfl, gs1 14 rfl rfl, by decide +kernel⟩
theorem lX9_237 : LkS "SoldWithIt" 237 mJ9_min_7cf53 2 := ⟨gs3 226 rfl rfl, gs2 159 rfl rfl, cJ9_min_7cf53⟩
theorem cJ9_abs_0f7a4 : Cl mJ9_abs_0f7a4 1 := ⟨gs3 229 rfl rfl, gs1 14 rfl rfl, by decide +kernel⟩
theorem lX9_242 : LkS "SoldWithIt" 242 mJ9_abs_0f7a4 1 := ⟨gs3 227 rfl rfl, gs3 228 rfl rfl, cJ9_abs_0f7a4⟩
theorem cX9_valueTo : Cl mX9_valueTo 2 := ⟨gs3 237 rfl rfl, gs1 1 rfl rfl, by decide +kernel⟩
theorem lX9_245 : LkV "SoldWithIt" 245 mX9_valueTo 2 9 := ⟨gs3 234 rfl rfl, gs3 236 rfl rfl, gs0 16 rfl rfl, ⟨_, _, rfl⟩, cX9_valueTo⟩
theorem cX9_change : Cl mX9_change 2 := ⟨gs4 1 rfl rfl, gs1 1 rfl rfl, by decide +kernel⟩
theorem lX9_248 : LkV "SoldWithIt" 248 mX9_change 2 9 := ⟨gs4 6 rfl rfl, gs3 239 rfl rfl, gs4 0 rfl rfl, ⟨_, _, rfl⟩, cX9_change⟩
theorem cX0_withOwner : Cl mX0_withOwner 3 := ⟨gs4 13 rfl rfl, gs1 8 rfl rfl, by decide +kernel⟩
theorem lX9_251 : LkS "SoldWithIt" 251 mX0_withOwner 3 := ⟨gs4 11 rfl rfl, gs4 12 rfl rfl, cX0_withOwner⟩
theorem cX0_fill : Cl mX0_fill 2 := ⟨gs4 17 rfl rfl, gs1 8 rfl rfl, by decide +kernel⟩
theorem lX9_255 : LkV "SoldWithIt" 255 mX0_fill 2 0 := ⟨gs4 14 rfl rfl, gs4 15 rfl rfl, gs4 16 rfl rfl, ⟨_, _, rfl⟩, cX0_fill⟩
theorem cX0_fewestTo : Cl mX0_fewestTo 1 := ⟨gs4 39 rfl rfl, gs1 8 rfl rfl, by decide +kernel⟩
theorem lX9_258 : LkV "SoldWithIt" 258 mX0_fewestTo 1 0 := ⟨gs4 36 rfl rfl, gs4 37 rfl rfl, gs4 38 rfl rfl, ⟨_, _, rfl⟩, cX0_fewestTo⟩
theorem cX9_everybody : Cl mX9_everybody 0 := ⟨gs4 48 rfl rfl, gs1 1 rfl rfl, by decide +kernel⟩
theorem lX9_261 : LkV "SoldWithIt" 261 mX9_everybody 0 9 := ⟨gs4 45 rfl rfl, gs4 47 rfl rfl, gs0 19 rfl rfl, ⟨_, _, rfl⟩, cX9_everybody⟩
theorem cX9_comers : Cl mX9_comers 2 := ⟨gs4 52 rfl rfl, gs1 1 rfl rfl, by decide +kernel⟩
theorem lX9_264 : LkV "SoldWithIt" 264 mX9_comers 2 9 := ⟨gs4 49 rfl rfl, gs4 51 rfl rfl, gs0 20 rfl rfl, ⟨_, _, rfl⟩, cX9_comers⟩
theorem cJ6_bitCount_0f7a4 : Cl mJ6_bitCount_0f7a4 1 := ⟨gs3 98 rfl rfl, gs1 20 rfl rfl, by decide +kernel⟩
theorem lX9_267 : LkS "SoldWithIt" 267 mJ6_bitCount_0f7a4 1 := ⟨gs4 62 rfl rfl, gs3 97 rfl rfl, cJ6_bitCount_0f7a4⟩
theorem cX1_takes : Cl mX1_takes 2 := ⟨gs4 70 rfl rfl, gs1 9 rfl rfl, by decide +kernel⟩
theorem lX9_272 : LkV "SoldWithIt" 272 mX1_takes 2 1 := ⟨gs4 67 rfl rfl, gs4 68 rfl rfl, gs4 69 rfl rfl, ⟨_, _, rfl⟩, cX1_takes⟩
theorem cX2_forgetWays : Cl mX2_forgetWays 0 := ⟨gs3 0 rfl rfl, gs1 7 rfl rfl, by decide +kernel⟩
theorem lX9_273 : LkV "SoldWithIt" 273 mX2_forgetWays 0 2 := ⟨gs4 71 rfl rfl, gs2 238 rfl rfl, gs2 239 rfl rfl, ⟨_, _, rfl⟩, cX2_forgetWays⟩
theorem cX2_findWays : Cl mX2_findWays 1 := ⟨gs4 83 rfl rfl, gs1 7 rfl rfl, by decide +kernel⟩
theorem lX9_277 : LkV "SoldWithIt" 277 mX2_findWays 1 2 := ⟨gs4 80 rfl rfl, gs4 81 rfl rfl, gs4 82 rfl rfl, ⟨_, _, rfl⟩, cX2_findWays⟩
theorem cX2_spotBit : Cl mX2_spotBit 1 := ⟨gs4 90 rfl rfl, gs1 7 rfl rfl, by decide +kernel⟩
theorem lX9_287 : LkS "SoldWithIt" 287 mX2_spotBit 1 := ⟨gs4 95 rfl rfl, gs4 89 rfl rfl, cX2_spotBit⟩
theorem cX9_noForm : Cl mX9_noForm 1 := ⟨gs4 102 rfl rfl, gs1 1 rfl rfl, by decide +kernel⟩
theorem lX9_290 : LkS "SoldWithIt" 290 mX9_noForm 1 := ⟨gs4 100 rfl rfl, gs4 101 rfl rfl, cX9_noForm⟩
theorem cX4_renew : Cl mX4_renew 2 := ⟨gs4 106 rfl rfl, gs1 10 rfl rfl, by decide +kernel⟩
theorem lX9_293 : LkV "SoldWithIt" 293 mX4_renew 2 4 := ⟨gs4 103 rfl rfl, gs4 104 rfl rfl, gs4 105 rfl rfl, ⟨_, _, rfl⟩, cX4_renew⟩
theorem cX4_findingAt : Cl mX4_findingAt 2 := ⟨gs4 119 rfl rfl, gs1 10 rfl rfl, by decide +kernel⟩
theorem lX9_300 : LkV "SoldWithIt" 300 mX4_findingAt 2 4 := ⟨gs4 116 rfl rfl, gs4 117 rfl rfl, gs4 118 rfl rfl, ⟨_, _, rfl⟩, cX4_findingAt⟩
theorem cX4_store : Cl mX4_store 2 := ⟨gs4 124 rfl rfl, gs1 10 rfl rfl, by decide +kernel⟩
theorem lX9_303 : LkV "SoldWithIt" 303 mX4_store 2 4 := ⟨gs4 121 rfl rfl, gs4 122 rfl rfl, gs4 123 rfl rfl, ⟨_, _, rfl⟩, cX4_store⟩
theorem cX4_holds : Cl mX4_holds 2 := ⟨gs4 137 rfl rfl, gs1 10 rfl rfl, by decide +kernel⟩
theorem lX9_307 : LkV "SoldWithIt" 307 mX4_holds 2 4 := ⟨gs4 134 rfl rfl, gs4 135 rfl rfl, gs4 136 rfl rfl, ⟨_, _, rfl⟩, cX4_holds⟩
theorem lX9_310 : Cond.methodLink "SoldWithIt" 310 arraycopyName ∈ gtbl := gs4 138 rfl rfl
theorem cX9_allSold : Cl mX9_allSold 0 := ⟨gs4 150 rfl rfl, gs1 1 rfl rfl, by decide +kernel⟩
theorem lX9_316 : LkV "SoldWithIt" 316 mX9_allSold 0 9 := ⟨gs4 147 rfl rfl, gs4 149 rfl rfl, gs0 23 rfl rfl, ⟨_, _, rfl⟩, cX9_allSold⟩
theorem cX9_lockedIn : Cl mX9_lockedIn 0 := ⟨gs4 154 rfl rfl, gs1 1 rfl rfl, by decide +kernel⟩
theorem lX9_319 : LkV "SoldWithIt" 319 mX9_lockedIn 0 9 := ⟨gs4 151 rfl rfl, gs4 153 rfl rfl, gs0 24 rfl rfl, ⟨_, _, rfl⟩, cX9_lockedIn⟩
theorem cX9_count : Cl mX9_count 1 := ⟨gs4 146 rfl rfl, gs1 1 rfl rfl, by decide +kernel⟩
theorem lX9_326 : LkV "SoldWithIt" 326 mX9_count 1 9 := ⟨gs4 161 rfl rfl, gs4 144 rfl rfl, gs4 145 rfl rfl, ⟨_, _, rfl⟩, cX9_count⟩
theorem cX9_fault : Cl mX9_fault 1 := ⟨gs3 13 rfl rfl, gs1 1 rfl rfl, by decide +kernel⟩
theorem lX9_329 : LkV "SoldWithIt" 329 mX9_fault 1 9 := ⟨gs4 162 rfl rfl, gs3 11 rfl rfl, gs3 12 rfl rfl, ⟨_, _, rfl⟩, cX9_fault⟩
theorem cX9_withHouse : Cl mX9_withHouse 2 := ⟨gs4 166 rfl rfl, gs1 1 rfl rfl, by decide +kernel⟩
theorem lX9_332 : LkV "SoldWithIt" 332 mX9_withHouse 2 9 := ⟨gs4 163 rfl rfl, gs4 165 rfl rfl, gs0 25 rfl rfl, ⟨_, _, rfl⟩, cX9_withHouse⟩
theorem cX9_withPerson : Cl mX9_withPerson 2 := ⟨gs4 173 rfl rfl, gs1 1 rfl rfl, by decide +kernel⟩
theorem lX9_336 : LkV "SoldWithIt" 336 mX9_withPerson 2 9 := ⟨gs4 170 rfl rfl, gs4 172 rfl rfl, gs0 26 rfl rfl, ⟨_, _, rfl⟩, cX9_withPerson⟩
theorem cX9_length : Cl mX9_length 1 := ⟨gs3 125 rfl rfl, gs1 1 rfl rfl, by decide +kernel⟩
theorem lX9_339 : LkV "SoldWithIt" 339 mX9_length 1 9 := ⟨gs4 180 rfl rfl, gs3 123 rfl rfl, gs3 124 rfl rfl, ⟨_, _, rfl⟩, cX9_length⟩
theorem cX9_changes : Cl mX9_changes 0 := ⟨gs4 5 rfl rfl, gs1 1 rfl rfl, by decide +kernel⟩
theorem lX9_342 : LkV "SoldWithIt" 342 mX9_changes 0 9 := ⟨gs4 181 rfl rfl, gs4 3 rfl rfl, gs4 4 rfl rfl, ⟨_, _, rfl⟩, cX9_changes⟩
theorem cX9_house : Cl mX9_house 2 := ⟨gs3 19 rfl rfl, gs1 1 rfl rfl, by decide +kernel⟩
theorem lX9_345 : LkV "SoldWithIt" 345 mX9_house 2 9 := ⟨gs4 167 rfl rfl, gs3 17 rfl rfl, gs3 18 rfl rfl, ⟨_, _, rfl⟩, cX9_house⟩
theorem cX9_whose : Cl mX9_whose 2 := ⟨gs3 73 rfl rfl, gs1 1 rfl rfl, by decide +kernel⟩
theorem lX9_348 : LkV "SoldWithIt" 348 mX9_whose 2 9 := ⟨gs4 168 rfl rfl, gs3 71 rfl rfl, gs3 72 rfl rfl, ⟨_, _, rfl⟩, cX9_whose⟩
theorem cX9_value : Cl mX9_value 2 := ⟨gs3 233 rfl rfl, gs1 1 rfl rfl, by decide +kernel⟩
theorem lX9_351 : LkV "SoldWithIt" 351 mX9_value 2 9 := ⟨gs4 169 rfl rfl, gs3 231 rfl rfl, gs3 232 rfl rfl, ⟨_, _, rfl⟩, cX9_value⟩
theorem cX9_person : Cl mX9_person 2 := ⟨gs3 27 rfl rfl, gs1 1 rfl rfl, by decide +kernel⟩
theorem lX9_354 : LkV "SoldWithIt" 354 mX9_person 2 9 := ⟨gs4 174 rfl rfl, gs3 25 rfl rfl, gs3 26 rfl rfl, ⟨_, _, rfl⟩, cX9_person⟩
theorem cX9_keeper : Cl mX9_keeper 2 := ⟨gs3 117 rfl rfl, gs1 1 rfl rfl, by decide +kernel⟩
theorem lX9_357 : LkV "SoldWithIt" 357 mX9_keeper 2 9 := ⟨gs4 175 rfl rfl, gs3 115 rfl rfl, gs3 116 rfl rfl, ⟨_, _, rfl⟩, cX9_keeper⟩
theorem cX9_sold : Cl mX9_sold 2 := ⟨gs3 121 rfl rfl, gs1 1 rfl rfl, by decide +kernel⟩
theorem lX9_359 : LkV "SoldWithIt" 359 mX9_sold 2 9 := ⟨gs4 176 rfl rfl, gs3 119 rfl rfl, gs3 120 rfl rfl, ⟨_, _, rfl⟩, cX9_sold⟩
theorem cX9_gain : Cl mX9_gain 1 := ⟨gs3 146 rfl rfl, gs1 1 rfl rfl, by decide +kernel⟩
theorem lX9_362 : LkV "SoldWithIt" 362 mX9_gain 1 9 := ⟨gs4 177 rfl rfl, gs3 144 rfl rfl, gs3 145 rfl rfl, ⟨_, _, rfl⟩, cX9_gain⟩
theorem cX9_out : Cl mX9_out 1 := ⟨gs3 221 rfl rfl, gs1 1 rfl rfl, by decide +kernel⟩
theorem lX9_365 : LkV "SoldWithIt" 365 mX9_out 1 9 := ⟨gs4 178 rfl rfl, gs3 219 rfl rfl, gs3 220 rfl rfl, ⟨_, _, rfl⟩, cX9_out⟩
theorem cX9_come : Cl mX9_come 2 := ⟨gs4 44 rfl rfl, gs1 1 rfl rfl, by decide +kernel⟩
theorem lX9_368 : LkV "SoldWithIt" 368 mX9_come 2 9 := ⟨gs4 179 rfl rfl, gs4 42 rfl rfl, gs4 43 rfl rfl, ⟨_, _, rfl⟩, cX9_come⟩
theorem cX5_tell : Cl mX5_tell 2 := ⟨gs2 113 rfl rfl, gs1 3 rfl rfl, by decide +kernel⟩
theorem lX9_371 : LkV "SoldWithIt" 371 mX5_tell 2 5 := ⟨gs2 110 rfl rfl, gs2 111 rfl rfl, gs2 112 rfl rfl, ⟨_, _, rfl⟩, cX5_tell⟩
theorem cX2_forgetAll : Cl mX2_forgetAll 0 := ⟨gs2 227 rfl rfl, gs1 7 rfl rfl, by decide +kernel⟩
theorem lX9_375 : LkV "SoldWithIt" 375 mX2_forgetAll 0 2 := ⟨gs2 224 rfl rfl, gs2 225 rfl rfl, gs2 226 rfl rfl, ⟨_, _, rfl⟩, cX2_forgetAll⟩
theorem cX0_forgetAll : Cl mX0_forgetAll 0 := ⟨gs3 4 rfl rfl, gs1 8 rfl rfl, by decide +kernel⟩
theorem lX9_378 : LkV "SoldWithIt" 378 mX0_forgetAll 0 0 := ⟨gs3 1 rfl rfl, gs3 2 rfl rfl, gs3 3 rfl rfl, ⟨_, _, rfl⟩, cX0_forgetAll⟩
theorem cX6_begin : Cl mX6_begin 1 := ⟨gs3 81 rfl rfl, gs1 5 rfl rfl, by decide +kernel⟩
theorem lX9_382 : LkV "SoldWithIt" 382 mX6_begin 1 6 := ⟨gs3 78 rfl rfl, gs3 79 rfl rfl, gs3 80 rfl rfl, ⟨_, _, rfl⟩, cX6_begin⟩
theorem cX6_next : Cl mX6_next 3 := ⟨gs3 91 rfl rfl, gs1 5 rfl rfl, by decide +kernel⟩
theorem lX9_386 : LkV "SoldWithIt" 386 mX6_next 3 6 := ⟨gs3 88 rfl rfl, gs3 89 rfl rfl, gs3 90 rfl rfl, ⟨_, _, rfl⟩, cX6_next⟩
theorem cX9_likingAt : Cl mX9_likingAt 3 := ⟨gs4 56 rfl rfl, gs1 1 rfl rfl, by decide +kernel⟩
theorem lX9_390 : LkV "SoldWithIt" 390 mX9_likingAt 3 9 := ⟨gs4 53 rfl rfl, gs4 55 rfl rfl, gs0 21 rfl rfl, ⟨_, _, rfl⟩, cX9_likingAt⟩
theorem cX7_likingOf : Cl mX7_likingOf 2 := ⟨gs3 216 rfl rfl, gs1 6 rfl rfl, by decide +kernel⟩
theorem lX9_393 : LkV "SoldWithIt" 393 mX7_likingOf 2 7 := ⟨gs4 57 rfl rfl, gs3 214 rfl rfl, gs3 215 rfl rfl, ⟨_, _, rfl⟩, cX7_likingOf⟩
theorem lX0_3 : Cond.methodLink "SoldWithIt$Deeds" 3 objectInit ∈ gtbl := gs2 2 rfl rfl
theorem lX0_11 : LkN "SoldWithIt$Deeds" 11 mX6_init 0 := ⟨by decide +kernel, gs1 128 rfl rfl, rfl, rfl, cX6_init⟩
theorem cJ7_fill_fb410 : Cl mJ7_fill_fb410 2 := ⟨gs4 20 rfl rfl, gs1 18 rfl rfl, by decide +kernel⟩
theorem lX0_38 : LkS "SoldWithIt$Deeds" 38 mJ7_fill_fb410 2 := ⟨gs4 18 rfl rfl, gs4 19 rfl rfl, cJ7_fill_fb410⟩
theorem lX0_48 : LkS "SoldWithIt$Deeds" 48 mX0_withOwner 3 := ⟨gs4 21 rfl rfl, gs4 12 rfl rfl, cX0_withOwner⟩
theorem cX0_reach : Cl mX0_reach 2 := ⟨gs4 25 rfl rfl, gs1 8 rfl rfl, by decide +kernel⟩
theorem lX0_52 : LkV "SoldWithIt$Deeds" 52 mX0_reach 2 0 := ⟨gs4 22 rfl rfl, gs4 24 rfl rfl, gs0 17 rfl rfl, ⟨_, _, rfl⟩, cX0_reach⟩
theorem lX0_56 : LkV "SoldWithIt$Deeds" 56 mX6_begin 1 6 := ⟨gs4 26 rfl rfl, gs3 79 rfl rfl, gs3 80 rfl rfl, ⟨_, _, rfl⟩, cX6_begin⟩
theorem cX0_sellFrom : Cl mX0_sellFrom 3 := ⟨gs4 30 rfl rfl, gs1 8 rfl rfl, by decide +kernel⟩
theorem lX0_60 : LkV "SoldWithIt$Deeds" 60 mX0_sellFrom 3 0 := ⟨gs4 27 rfl rfl, gs4 29 rfl rfl, gs0 18 rfl rfl, ⟨_, _, rfl⟩, cX0_sellFrom⟩
theorem cJ7_fill_53178 : Cl mJ7_fill_53178 2 := ⟨gs2 215 rfl rfl, gs1 18 rfl rfl, by decide +kernel⟩
theorem lX0_67 : LkS "SoldWithIt$Deeds" 67 mJ7_fill_53178 2 := ⟨gs4 31 rfl rfl, gs2 214 rfl rfl, cJ7_fill_53178⟩
theorem cX6_goneWith : Cl mX6_goneWith 4 := ⟨gs3 95 rfl rfl, gs1 5 rfl rfl, by decide +kernel⟩
theorem lX0_76 : LkV "SoldWithIt$Deeds" 76 mX6_goneWith 4 6 := ⟨gs4 32 rfl rfl, gs3 93 rfl rfl, gs3 94 rfl rfl, ⟨_, _, rfl⟩, cX6_goneWith⟩
theorem cX0_handedOver : Cl mX0_handedOver 3 := ⟨gs4 35 rfl rfl, gs1 8 rfl rfl, by decide +kernel⟩
theorem lX0_80 : LkS "SoldWithIt$Deeds" 80 mX0_handedOver 3 := ⟨gs4 33 rfl rfl, gs4 34 rfl rfl, cX0_handedOver⟩
theorem lX1_3 : Cond.methodLink "SoldWithIt$Facts" 3 objectInit ∈ gtbl := gs2 26 rfl rfl
theorem lX2_3 : Cond.methodLink "SoldWithIt$Rows" 3 objectInit ∈ gtbl := gs1 181 rfl rfl
theorem lX2_11 : LkN "SoldWithIt$Rows" 11 mX6_init 0 := ⟨by decide +kernel, gs1 128 rfl rfl, rfl, rfl, cX6_init⟩
theorem lX2_67 : LkV "SoldWithIt$Rows" 67 mX2_forgetBest 0 2 := ⟨gs2 228 rfl rfl, gs2 229 rfl rfl, gs2 230 rfl rfl, ⟨_, _, rfl⟩, cX2_forgetBest⟩
theorem lX2_70 : LkV "SoldWithIt$Rows" 70 mX2_forgetRest 0 2 := ⟨gs2 233 rfl rfl, gs2 234 rfl rfl, gs2 235 rfl rfl, ⟨_, _, rfl⟩, cX2_forgetRest⟩
theorem lX2_73 : LkV "SoldWithIt$Rows" 73 mX2_forgetWays 0 2 := ⟨gs2 237 rfl rfl, gs2 238 rfl rfl, gs2 239 rfl rfl, ⟨_, _, rfl⟩, cX2_forgetWays⟩
theorem lX2_76 : LkS "SoldWithIt$Rows" 76 mJ7_fill_53178 2 := ⟨gs2 232 rfl rfl, gs2 214 rfl rfl, cJ7_fill_53178⟩
theorem cX2_toFirst : Cl mX2_toFirst 1 := ⟨gs3 163 rfl rfl, gs1 7 rfl rfl, by decide +kernel⟩
theorem lX2_85 : LkV "SoldWithIt$Rows" 85 mX2_toFirst 1 2 := ⟨gs3 160 rfl rfl, gs3 162 rfl rfl, gs0 10 rfl rfl, ⟨_, _, rfl⟩, cX2_toFirst⟩
theorem lX2_89 : LkV "SoldWithIt$Rows" 89 mX6_begin 1 6 := ⟨gs3 164 rfl rfl, gs3 79 rfl rfl, gs3 80 rfl rfl, ⟨_, _, rfl⟩, cX6_begin⟩
theorem lX2_95 : LkV "SoldWithIt$Rows" 95 mX6_next 3 6 := ⟨gs3 165 rfl rfl, gs3 89 rfl rfl, gs3 90 rfl rfl, ⟨_, _, rfl⟩, cX6_next⟩
theorem cX2_endOf : Cl mX2_endOf 1 := ⟨gs3 169 rfl rfl, gs1 7 rfl rfl, by decide +kernel⟩
theorem lX2_99 : LkV "SoldWithIt$Rows" 99 mX2_endOf 1 2 := ⟨gs3 166 rfl rfl, gs3 168 rfl rfl, gs0 11 rfl rfl, ⟨_, _, rfl⟩, cX2_endOf⟩
theorem cX2_toNext : Cl mX2_toNext 0 := ⟨gs3 173 rfl rfl, gs1 7 rfl rfl, by decide +kernel⟩
theorem lX2_103 : LkV "SoldWithIt$Rows" 103 mX2_toNext 0 2 := ⟨gs3 170 rfl rfl, gs3 172 rfl rfl, gs0 12 rfl rfl, ⟨_, _, rfl⟩, cX2_toNext⟩
theorem cX2_endAt : Cl mX2_endAt 1 := ⟨gs3 185 rfl rfl, gs1 7 rfl rfl, by decide +kernel⟩
theorem lX2_118 : LkV "SoldWithIt$Rows" 118 mX2_endAt 1 2 := ⟨gs3 182 rfl rfl, gs3 184 rfl rfl, gs0 13 rfl rfl, ⟨_, _, rfl⟩, cX2_endAt⟩
theorem cX2_keeperBy : Cl mX2_keeperBy 2 := ⟨gs3 188 rfl rfl, gs1 7 rfl rfl, by decide +kernel⟩
theorem lX2_122 : LkS "SoldWithIt$Rows" 122 mX2_keeperBy 2 := ⟨gs3 186 rfl rfl, gs3 187 rfl rfl, cX2_keeperBy⟩
theorem lX2_126 : LkV "SoldWithIt$Rows" 126 mX7_worthOf 2 7 := ⟨gs3 189 rfl rfl, gs3 148 rfl rfl, gs3 149 rfl rfl, ⟨_, _, rfl⟩, cX7_worthOf⟩
theorem lX2_132 : LkV "SoldWithIt$Rows" 132 mX2_gainBy 3 2 := ⟨gs3 178 rfl rfl, gs3 179 rfl rfl, gs3 180 rfl rfl, ⟨_, _, rfl⟩, cX2_gainBy⟩
theorem cX2_allRest : Cl mX2_allRest 3 := ⟨gs3 207 rfl rfl, gs1 7 rfl rfl, by decide +kernel⟩
theorem lX2_136 : LkV "SoldWithIt$Rows" 136 mX2_allRest 3 2 := ⟨gs3 204 rfl rfl, gs3 206 rfl rfl, gs0 14 rfl rfl, ⟨_, _, rfl⟩, cX2_allRest⟩
theorem lX2_143 : LkV "SoldWithIt$Rows" 143 mX2_spotIn 2 2 := ⟨gs3 208 rfl rfl, gs3 192 rfl rfl, gs3 193 rfl rfl, ⟨_, _, rfl⟩, cX2_spotIn⟩
theorem cX2_wouldWalk : Cl mX2_wouldWalk 3 := ⟨gs3 212 rfl rfl, gs1 7 rfl rfl, by decide +kernel⟩
theorem lX2_149 : LkV "SoldWithIt$Rows" 149 mX2_wouldWalk 3 2 := ⟨gs3 209 rfl rfl, gs3 211 rfl rfl, gs0 15 rfl rfl, ⟨_, _, rfl⟩, cX2_wouldWalk⟩
theorem lX2_153 : LkV "SoldWithIt$Rows" 153 mX7_likingOf 2 7 := ⟨gs3 213 rfl rfl, gs3 214 rfl rfl, gs3 215 rfl rfl, ⟨_, _, rfl⟩, cX7_likingOf⟩
theorem cX2_allSo : Cl mX2_allSo 2 := ⟨gs4 87 rfl rfl, gs1 7 rfl rfl, by decide +kernel⟩
theorem lX2_156 : LkV "SoldWithIt$Rows" 156 mX2_allSo 2 2 := ⟨gs4 84 rfl rfl, gs4 86 rfl rfl, gs0 22 rfl rfl, ⟨_, _, rfl⟩, cX2_allSo⟩
theorem lX2_160 : LkS "SoldWithIt$Rows" 160 mX2_spotBit 1 := ⟨gs4 88 rfl rfl, gs4 89 rfl rfl, cX2_spotBit⟩
theorem lX3_3 : Cond.methodLink "SoldWithIt$Sales" 3 objectInit ∈ gtbl := gs1 104 rfl rfl
theorem lX4_3 : Cond.methodLink "SoldWithIt$Sheet" 3 objectInit ∈ gtbl := gs2 47 rfl rfl
theorem lX4_22 : LkS "SoldWithIt$Sheet" 22 mJ7_fill_53178 2 := ⟨gs4 107 rfl rfl, gs2 214 rfl rfl, cJ7_fill_53178⟩
theorem lX4_28 : LkV "SoldWithIt$Sheet" 28 mX4_isLost 0 4 := ⟨gs4 120 rfl rfl, gs3 58 rfl rfl, gs3 59 rfl rfl, ⟨_, _, rfl⟩, cX4_isLost⟩
theorem lX5_3 : Cond.methodLink "SoldWithIt$Street" 3 objectInit ∈ gtbl := gs1 52 rfl rfl
theorem cX5_fitsHouse : Cl mX5_fitsHouse 2 := ⟨gs2 119 rfl rfl, gs1 3 rfl rfl, by decide +kernel⟩
theorem lX5_45 : LkS "SoldWithIt$Street" 45 mX5_fitsHouse 2 := ⟨gs2 117 rfl rfl, gs2 118 rfl rfl, cX5_fitsHouse⟩
theorem cX5_fitsPerson : Cl mX5_fitsPerson 2 := ⟨gs2 125 rfl rfl, gs1 3 rfl rfl, by decide +kernel⟩
theorem lX5_49 : LkS "SoldWithIt$Street" 49 mX5_fitsPerson 2 := ⟨gs2 123 rfl rfl, gs2 124 rfl rfl, cX5_fitsPerson⟩
theorem cJ0_indexOf_0f7a4 : Cl mJ0_indexOf_0f7a4 1 := ⟨gs2 130 rfl rfl, gs1 12 rfl rfl, by decide +kernel⟩
theorem lX5_60 : LkS "SoldWithIt$Street" 60 mX5_wrongHouse 1 := ⟨gs2 114 rfl rfl, gs2 115 rfl rfl, cX5_wrongHouse⟩
theorem lX5_64 : LkS "SoldWithIt$Street" 64 mX5_wrongPerson 1 := ⟨gs2 120 rfl rfl, gs2 121 rfl rfl, cX5_wrongPerson⟩
theorem lX5_67 : LkS "SoldWithIt$Street" 67 mJ7_fill_53178 2 := ⟨gs2 213 rfl rfl, gs2 214 rfl rfl, cJ7_fill_53178⟩
theorem cX5_spotOf : Cl mX5_spotOf 1 := ⟨gs2 219 rfl rfl, gs1 3 rfl rfl, by decide +kernel⟩
theorem lX5_73 : LkV "SoldWithIt$Street" 73 mX5_spotOf 1 5 := ⟨gs2 216 rfl rfl, gs2 218 rfl rfl, gs0 1 rfl rfl, ⟨_, _, rfl⟩, cX5_spotOf⟩
theorem lX6_3 : Cond.methodLink "SoldWithIt$Stroke" 3 objectInit ∈ gtbl := gs1 130 rfl rfl
theorem lX6_37 : Cond.methodLink "SoldWithIt$Stroke" 37 arraycopyName ∈ gtbl := gs3 82 rfl rfl
theorem lX6_49 : LkS "SoldWithIt$Stroke" 49 mJ7_fill_53178 2 := ⟨gs3 87 rfl rfl, gs2 214 rfl rfl, cJ7_fill_53178⟩
theorem lX6_75 : LkV "SoldWithIt$Stroke" 75 mX6_goneWith 4 6 := ⟨gs3 92 rfl rfl, gs3 93 rfl rfl, gs3 94 rfl rfl, ⟨_, _, rfl⟩, cX6_goneWith⟩
theorem cX6_handOver : Cl mX6_handOver 2 := ⟨gs3 109 rfl rfl, gs1 5 rfl rfl, by decide +kernel⟩
theorem lX6_79 : LkV "SoldWithIt$Stroke" 79 mX6_handOver 2 6 := ⟨gs3 106 rfl rfl, gs3 108 rfl rfl, gs0 8 rfl rfl, ⟨_, _, rfl⟩, cX6_handOver⟩
theorem cX6_keep : Cl mX6_keep 2 := ⟨gs3 113 rfl rfl, gs1 5 rfl rfl, by decide +kernel⟩
theorem lX6_83 : LkV "SoldWithIt$Stroke" 83 mX6_keep 2 6 := ⟨gs3 110 rfl rfl, gs3 112 rfl rfl, gs0 9 rfl rfl, ⟨_, _, rfl⟩, cX6_keep⟩
theorem lX6_86 : LkS "SoldWithIt$Stroke" 86 mJ6_bitCount_0f7a4 1 := ⟨gs3 96 rfl rfl, gs3 97 rfl rfl, cJ6_bitCount_0f7a4⟩
theorem cX6_ownedBy : Cl mX6_ownedBy 1 := ⟨gs3 105 rfl rfl, gs1 5 rfl rfl, by decide +kernel⟩
theorem lX6_92 : LkV "SoldWithIt$Stroke" 92 mX6_ownedBy 1 6 := ⟨gs3 102 rfl rfl, gs3 104 rfl rfl, gs0 7 rfl rfl, ⟨_, _, rfl⟩, cX6_ownedBy⟩
theorem lX7_3 : Cond.methodLink "SoldWithIt$Tastes" 3 objectInit ∈ gtbl := gs1 166 rfl rfl
theorem lX8_1 : Cond.methodLink "SoldWithIt$Text" 1 objectInit ∈ gtbl := gs1 35 rfl rfl
theorem cX9_init : Cl mX9_init 0 := ⟨gs1 25 rfl rfl, gs1 1 rfl rfl, by decide +kernel⟩
theorem lL_9 : LkI "SoldWithItLaw" 9 mX9_init 0 := ⟨gs1 23 rfl rfl, gs1 24 rfl rfl, rfl, rfl, cX9_init⟩
theorem cX10_init : Cl mX10_init 0 := ⟨gs4 186 rfl rfl, gs1 11 rfl rfl, by decide +kernel⟩
theorem lL_12 : LkI "SoldWithItLaw" 12 mX10_init 0 := ⟨gs4 184 rfl rfl, gs4 185 rfl rfl, rfl, rfl, cX10_init⟩
theorem cX9_type : Cl mX9_type 2 := ⟨gs2 98 rfl rfl, gs1 1 rfl rfl, by decide +kernel⟩
theorem lL_13 : LkV "SoldWithItLaw" 13 mX9_type 2 9 := ⟨gs2 95 rfl rfl, gs2 96 rfl rfl, gs2 97 rfl rfl, ⟨_, _, rfl⟩, cX9_type⟩
theorem cX10_type : Cl mX10_type 2 := ⟨gs5 52 rfl rfl, gs1 11 rfl rfl, by decide +kernel⟩
theorem lL_17 : LkV "SoldWithItLaw" 17 mX10_type 2 10 := ⟨gs5 49 rfl rfl, gs5 50 rfl rfl, gs5 51 rfl rfl, ⟨_, _, rfl⟩, cX10_type⟩
theorem cX9_wipe : Cl mX9_wipe 1 := ⟨gs3 9 rfl rfl, gs1 1 rfl rfl, by decide +kernel⟩
theorem lL_18 : LkV "SoldWithItLaw" 18 mX9_wipe 1 9 := ⟨gs3 6 rfl rfl, gs3 7 rfl rfl, gs3 8 rfl rfl, ⟨_, _, rfl⟩, cX9_wipe⟩
theorem cX10_wipe : Cl mX10_wipe 1 := ⟨gs5 59 rfl rfl, gs1 11 rfl rfl, by decide +kernel⟩
theorem lL_22 : LkV "SoldWithItLaw" 22 mX10_wipe 1 10 := ⟨gs5 56 rfl rfl, gs5 57 rfl rfl, gs5 58 rfl rfl, ⟨_, _, rfl⟩, cX10_wipe⟩
theorem lL_23 : LkV "SoldWithItLaw" 23 mX9_fault 1 9 := ⟨gs3 10 rfl rfl, gs3 11 rfl rfl, gs3 12 rfl rfl, ⟨_, _, rfl⟩, cX9_fault⟩
theorem cX10_fault : Cl mX10_fault 1 := ⟨gs5 63 rfl rfl, gs1 11 rfl rfl, by decide +kernel⟩
theorem lL_26 : LkV "SoldWithItLaw" 26 mX10_fault 1 10 := ⟨gs5 60 rfl rfl, gs5 61 rfl rfl, gs5 62 rfl rfl, ⟨_, _, rfl⟩, cX10_fault⟩
theorem lL_27 : LkV "SoldWithItLaw" 27 mX9_house 2 9 := ⟨gs3 16 rfl rfl, gs3 17 rfl rfl, gs3 18 rfl rfl, ⟨_, _, rfl⟩, cX9_house⟩
theorem cX10_house : Cl mX10_house 2 := ⟨gs5 83 rfl rfl, gs1 11 rfl rfl, by decide +kernel⟩
theorem lL_30 : LkV "SoldWithItLaw" 30 mX10_house 2 10 := ⟨gs5 80 rfl rfl, gs5 81 rfl rfl, gs5 82 rfl rfl, ⟨_, _, rfl⟩, cX10_house⟩
theorem lL_31 : LkV "SoldWithItLaw" 31 mX9_person 2 9 := ⟨gs3 24 rfl rfl, gs3 25 rfl rfl, gs3 26 rfl rfl, ⟨_, _, rfl⟩, cX9_person⟩
theorem cX10_person : Cl mX10_person 2 := ⟨gs5 99 rfl rfl, gs1 11 rfl rfl, by decide +kernel⟩
theorem lL_34 : LkV "SoldWithItLaw" 34 mX10_person 2 10 := ⟨gs5 96 rfl rfl, gs5 97 rfl rfl, gs5 98 rfl rfl, ⟨_, _, rfl⟩, cX10_person⟩
theorem cX9_law : Cl mX9_law 2 := ⟨gs3 38 rfl rfl, gs1 1 rfl rfl, by decide +kernel⟩
theorem lL_35 : LkV "SoldWithItLaw" 35 mX9_law 2 9 := ⟨gs3 35 rfl rfl, gs3 36 rfl rfl, gs3 37 rfl rfl, ⟨_, _, rfl⟩, cX9_law⟩
theorem cX10_law : Cl mX10_law 2 := ⟨gs5 111 rfl rfl, gs1 11 rfl rfl, by decide +kernel⟩
theorem lL_38 : LkV "SoldWithItLaw" 38 mX10_law 2 10 := ⟨gs5 108 rfl rfl, gs5 109 rfl rfl, gs5 110 rfl rfl, ⟨_, _, rfl⟩, cX10_law⟩
theorem lL_39 : LkV "SoldWithItLaw" 39 mX9_sale 2 9 := ⟨gs3 39 rfl rfl, gs3 40 rfl rfl, gs3 41 rfl rfl, ⟨_, _, rfl⟩, cX9_sale⟩
theorem cX10_sale : Cl mX10_sale 2 := ⟨gs5 115 rfl rfl, gs1 11 rfl rfl, by decide +kernel⟩
theorem lL_42 : LkV "SoldWithItLaw" 42 mX10_sale 2 10 := ⟨gs5 112 rfl rfl, gs5 113 rfl rfl, gs5 114 rfl rfl, ⟨_, _, rfl⟩, cX10_sale⟩
theorem cX9_read : Cl mX9_read 1 := ⟨gs3 53 rfl rfl, gs1 1 rfl rfl, by decide +kernel⟩
theorem lL_43 : LkV "SoldWithItLaw" 43 mX9_read 1 9 := ⟨gs3 50 rfl rfl, gs3 51 rfl rfl, gs3 52 rfl rfl, ⟨_, _, rfl⟩, cX9_read⟩
theorem cX10_read : Cl mX10_read 1 := ⟨gs5 126 rfl rfl, gs1 11 rfl rfl, by decide +kernel⟩
theorem lL_46 : LkV "SoldWithItLaw" 46 mX10_read 1 10 := ⟨gs5 123 rfl rfl, gs5 124 rfl rfl, gs5 125 rfl rfl, ⟨_, _, rfl⟩, cX10_read⟩
theorem cX9_undo : Cl mX9_undo 0 := ⟨gs3 69 rfl rfl, gs1 1 rfl rfl, by decide +kernel⟩
theorem lL_47 : LkV "SoldWithItLaw" 47 mX9_undo 0 9 := ⟨gs3 66 rfl rfl, gs3 67 rfl rfl, gs3 68 rfl rfl, ⟨_, _, rfl⟩, cX9_undo⟩
theorem cX10_undo : Cl mX10_undo 0 := ⟨gs5 137 rfl rfl, gs1 11 rfl rfl, by decide +kernel⟩
theorem lL_51 : LkV "SoldWithItLaw" 51 mX10_undo 0 10 := ⟨gs5 134 rfl rfl, gs5 135 rfl rfl, gs5 136 rfl rfl, ⟨_, _, rfl⟩, cX10_undo⟩
theorem lL_52 : LkV "SoldWithItLaw" 52 mX9_whose 2 9 := ⟨gs3 70 rfl rfl, gs3 71 rfl rfl, gs3 72 rfl rfl, ⟨_, _, rfl⟩, cX9_whose⟩
theorem cX10_whose : Cl mX10_whose 2 := ⟨gs5 141 rfl rfl, gs1 11 rfl rfl, by decide +kernel⟩
theorem lL_55 : LkV "SoldWithItLaw" 55 mX10_whose 2 10 := ⟨gs5 138 rfl rfl, gs5 139 rfl rfl, gs5 140 rfl rfl, ⟨_, _, rfl⟩, cX10_whose⟩
theorem lL_56 : LkV "SoldWithItLaw" 56 mX9_keeper 2 9 := ⟨gs3 114 rfl rfl, gs3 115 rfl rfl, gs3 116 rfl rfl, ⟨_, _, rfl⟩, cX9_keeper⟩
theorem cX10_keeper : Cl mX10_keeper 2 := ⟨gs5 164 rfl rfl, gs1 11 rfl rfl, by decide +kernel⟩
theorem lL_59 : LkV "SoldWithItLaw" 59 mX10_keeper 2 10 := ⟨gs5 161 rfl rfl, gs5 162 rfl rfl, gs5 163 rfl rfl, ⟨_, _, rfl⟩, cX10_keeper⟩
theorem lL_60 : LkV "SoldWithItLaw" 60 mX9_sold 2 9 := ⟨gs3 118 rfl rfl, gs3 119 rfl rfl, gs3 120 rfl rfl, ⟨_, _, rfl⟩, cX9_sold⟩
theorem cX10_sold : Cl mX10_sold 2 := ⟨gs5 172 rfl rfl, gs1 11 rfl rfl, by decide +kernel⟩
theorem lL_63 : LkV "SoldWithItLaw" 63 mX10_sold 2 10 := ⟨gs5 169 rfl rfl, gs5 170 rfl rfl, gs5 171 rfl rfl, ⟨_, _, rfl⟩, cX10_sold⟩
theorem lL_64 : LkV "SoldWithItLaw" 64 mX9_length 1 9 := ⟨gs3 122 rfl rfl, gs3 123 rfl rfl, gs3 124 rfl rfl, ⟨_, _, rfl⟩, cX9_length⟩
theorem cX10_length : Cl mX10_length 1 := ⟨gs5 180 rfl rfl, gs1 11 rfl rfl, by decide +kernel⟩
theorem lL_67 : LkV "SoldWithItLaw" 67 mX10_length 1 10 := ⟨gs5 177 rfl rfl, gs5 178 rfl rfl, gs5 179 rfl rfl, ⟨_, _, rfl⟩, cX10_length⟩
theorem cX9_worth : Cl mX9_worth 3 := ⟨gs3 129 rfl rfl, gs1 1 rfl rfl, by decide +kernel⟩
theorem lL_68 : LkV "SoldWithItLaw" 68 mX9_worth 3 9 := ⟨gs3 126 rfl rfl, gs3 127 rfl rfl, gs3 128 rfl rfl, ⟨_, _, rfl⟩, cX9_worth⟩
theorem cX10_worth : Cl mX10_worth 3 := ⟨gs5 188 rfl rfl, gs1 11 rfl rfl, by decide +kernel⟩
theorem lL_72 : LkV "SoldWithItLaw" 72 mX10_worth 3 10 := ⟨gs5 185 rfl rfl, gs5 186 rfl rfl, gs5 187 rfl rfl, ⟨_, _, rfl⟩, cX10_worth⟩
theorem cX9_like : Cl mX9_like 3 := ⟨gs3 141 rfl rfl, gs1 1 rfl rfl, by decide +kernel⟩
theorem lL_73 : LkV "SoldWithItLaw" 73 mX9_like 3 9 := ⟨gs3 138 rfl rfl, gs3 139 rfl rfl, gs3 140 rfl rfl, ⟨_, _, rfl⟩, cX9_like⟩
theorem cX10_like : Cl mX10_like 3 := ⟨gs5 193 rfl rfl, gs1 11 rfl rfl, by decide +kernel⟩
theorem lL_76 : LkV "SoldWithItLaw" 76 mX10_like 3 10 := ⟨gs5 190 rfl rfl, gs5 191 rfl rfl, gs5 192 rfl rfl, ⟨_, _, rfl⟩, cX10_like⟩
theorem lL_77 : LkV "SoldWithItLaw" 77 mX9_gain 1 9 := ⟨gs3 143 rfl rfl, gs3 144 rfl rfl, gs3 145 rfl rfl, ⟨_, _, rfl⟩, cX9_gain⟩
theorem cX10_gain : Cl mX10_gain 1 := ⟨gs5 197 rfl rfl, gs1 11 rfl rfl, by decide +kernel⟩
theorem lL_80 : LkV "SoldWithItLaw" 80 mX10_gain 1 10 := ⟨gs5 194 rfl rfl, gs5 195 rfl rfl, gs5 196 rfl rfl, ⟨_, _, rfl⟩, cX10_gain⟩
theorem cX9_best : Cl mX9_best 2 := ⟨gs3 154 rfl rfl, gs1 1 rfl rfl, by decide +kernel⟩
theorem lL_81 : LkV "SoldWithItLaw" 81 mX9_best 2 9 := ⟨gs3 151 rfl rfl, gs3 152 rfl rfl, gs3 153 rfl rfl, ⟨_, _, rfl⟩, cX9_best⟩
theorem cX10_best : Cl mX10_best 2 := ⟨gs5 209 rfl rfl, gs1 11 rfl rfl, by decide +kernel⟩
theorem lL_84 : LkV "SoldWithItLaw" 84 mX10_best 2 10 := ⟨gs5 206 rfl rfl, gs5 207 rfl rfl, gs5 208 rfl rfl, ⟨_, _, rfl⟩, cX10_best⟩
theorem cX9_rest : Cl mX9_rest 1 := ⟨gs3 199 rfl rfl, gs1 1 rfl rfl, by decide +kernel⟩
theorem lL_85 : LkV "SoldWithItLaw" 85 mX9_rest 1 9 := ⟨gs3 196 rfl rfl, gs3 197 rfl rfl, gs3 198 rfl rfl, ⟨_, _, rfl⟩, cX9_rest⟩
theorem cX10_rest : Cl mX10_rest 1 := ⟨gs5 226 rfl rfl, gs1 11 rfl rfl, by decide +kernel⟩
theorem lL_88 : LkV "SoldWithItLaw" 88 mX10_rest 1 10 := ⟨gs5 223 rfl rfl, gs5 224 rfl rfl, gs5 225 rfl rfl, ⟨_, _, rfl⟩, cX10_rest⟩
theorem lL_89 : LkV "SoldWithItLaw" 89 mX9_out 1 9 := ⟨gs3 218 rfl rfl, gs3 219 rfl rfl, gs3 220 rfl rfl, ⟨_, _, rfl⟩, cX9_out⟩
theorem cX10_out : Cl mX10_out 1 := ⟨gs5 239 rfl rfl, gs1 11 rfl rfl, by decide +kernel⟩
theorem lL_92 : LkV "SoldWithItLaw" 92 mX10_out 1 10 := ⟨gs5 236 rfl rfl, gs5 237 rfl rfl, gs5 238 rfl rfl, ⟨_, _, rfl⟩, cX10_out⟩
theorem lL_93 : LkV "SoldWithItLaw" 93 mX9_value 2 9 := ⟨gs3 230 rfl rfl, gs3 231 rfl rfl, gs3 232 rfl rfl, ⟨_, _, rfl⟩, cX9_value⟩
theorem cX10_value : Cl mX10_value 2 := ⟨gs6 11 rfl rfl, gs1 11 rfl rfl, by decide +kernel⟩
theorem lL_96 : LkV "SoldWithItLaw" 96 mX10_value 2 10 := ⟨gs6 8 rfl rfl, gs6 9 rfl rfl, gs6 10 rfl rfl, ⟨_, _, rfl⟩, cX10_value⟩
theorem lL_97 : LkV "SoldWithItLaw" 97 mX9_change 2 9 := ⟨gs3 238 rfl rfl, gs3 239 rfl rfl, gs4 0 rfl rfl, ⟨_, _, rfl⟩, cX9_change⟩
theorem cX10_change : Cl mX10_change 2 := ⟨gs6 19 rfl rfl, gs1 11 rfl rfl, by decide +kernel⟩
theorem lL_100 : LkV "SoldWithItLaw" 100 mX10_change 2 10 := ⟨gs6 16 rfl rfl, gs6 17 rfl rfl, gs6 18 rfl rfl, ⟨_, _, rfl⟩, cX10_change⟩
theorem lL_101 : LkV "SoldWithItLaw" 101 mX9_changes 0 9 := ⟨gs4 2 rfl rfl, gs4 3 rfl rfl, gs4 4 rfl rfl, ⟨_, _, rfl⟩, cX9_changes⟩
theorem cX10_changes : Cl mX10_changes 0 := ⟨gs6 27 rfl rfl, gs1 11 rfl rfl, by decide +kernel⟩
theorem lL_104 : LkV "SoldWithItLaw" 104 mX10_changes 0 10 := ⟨gs6 24 rfl rfl, gs6 25 rfl rfl, gs6 26 rfl rfl, ⟨_, _, rfl⟩, cX10_changes⟩
theorem cX9_should : Cl mX9_should 1 := ⟨gs4 10 rfl rfl, gs1 1 rfl rfl, by decide +kernel⟩
theorem lL_105 : LkV "SoldWithItLaw" 105 mX9_should 1 9 := ⟨gs4 7 rfl rfl, gs4 8 rfl rfl, gs4 9 rfl rfl, ⟨_, _, rfl⟩, cX9_should⟩
theorem cX10_should : Cl mX10_should 1 := ⟨gs6 35 rfl rfl, gs1 11 rfl rfl, by decide +kernel⟩
theorem lL_108 : LkV "SoldWithItLaw" 108 mX10_should 1 10 := ⟨gs6 32 rfl rfl, gs6 33 rfl rfl, gs6 34 rfl rfl, ⟨_, _, rfl⟩, cX10_should⟩
theorem lL_109 : LkV "SoldWithItLaw" 109 mX9_come 2 9 := ⟨gs4 41 rfl rfl, gs4 42 rfl rfl, gs4 43 rfl rfl, ⟨_, _, rfl⟩, cX9_come⟩
theorem cX10_come : Cl mX10_come 2 := ⟨gs6 51 rfl rfl, gs1 11 rfl rfl, by decide +kernel⟩
theorem lL_112 : LkV "SoldWithItLaw" 112 mX10_come 2 10 := ⟨gs6 48 rfl rfl, gs6 49 rfl rfl, gs6 50 rfl rfl, ⟨_, _, rfl⟩, cX10_come⟩
theorem cX9_invite : Cl mX9_invite 2 := ⟨gs4 61 rfl rfl, gs1 1 rfl rfl, by decide +kernel⟩
theorem lL_113 : LkV "SoldWithItLaw" 113 mX9_invite 2 9 := ⟨gs4 58 rfl rfl, gs4 59 rfl rfl, gs4 60 rfl rfl, ⟨_, _, rfl⟩, cX9_invite⟩
theorem cX10_invite : Cl mX10_invite 2 := ⟨gs6 59 rfl rfl, gs1 11 rfl rfl, by decide +kernel⟩
theorem lL_116 : LkV "SoldWithItLaw" 116 mX10_invite 2 10 := ⟨gs6 56 rfl rfl, gs6 57 rfl rfl, gs6 58 rfl rfl, ⟨_, _, rfl⟩, cX10_invite⟩
theorem cX9_fact : Cl mX9_fact 2 := ⟨gs4 66 rfl rfl, gs1 1 rfl rfl, by decide +kernel⟩
theorem lL_117 : LkV "SoldWithItLaw" 117 mX9_fact 2 9 := ⟨gs4 63 rfl rfl, gs4 64 rfl rfl, gs4 65 rfl rfl, ⟨_, _, rfl⟩, cX9_fact⟩
theorem cX10_fact : Cl mX10_fact 2 := ⟨gs6 70 rfl rfl, gs1 11 rfl rfl, by decide +kernel⟩
theorem lL_120 : LkV "SoldWithItLaw" 120 mX10_fact 2 10 := ⟨gs6 67 rfl rfl, gs6 68 rfl rfl, gs6 69 rfl rfl, ⟨_, _, rfl⟩, cX10_fact⟩
theorem cX9_forget : Cl mX9_forget 0 := ⟨gs4 75 rfl rfl, gs1 1 rfl rfl, by decide +kernel⟩
theorem lL_121 : LkV "SoldWithItLaw" 121 mX9_forget 0 9 := ⟨gs4 72 rfl rfl, gs4 73 rfl rfl, gs4 74 rfl rfl, ⟨_, _, rfl⟩, cX9_forget⟩
theorem cX10_forget : Cl mX10_forget 0 := ⟨gs6 74 rfl rfl, gs1 11 rfl rfl, by decide +kernel⟩
theorem lL_124 : LkV "SoldWithItLaw" 124 mX10_forget 0 10 := ⟨gs6 71 rfl rfl, gs6 72 rfl rfl, gs6 73 rfl rfl, ⟨_, _, rfl⟩, cX10_forget⟩
theorem cX9_were : Cl mX9_were 1 := ⟨gs4 79 rfl rfl, gs1 1 rfl rfl, by decide +kernel⟩
theorem lL_125 : LkV "SoldWithItLaw" 125 mX9_were 1 9 := ⟨gs4 76 rfl rfl, gs4 77 rfl rfl, gs4 78 rfl rfl, ⟨_, _, rfl⟩, cX9_were⟩
theorem cX10_were : Cl mX10_were 1 := ⟨gs6 78 rfl rfl, gs1 11 rfl rfl, by decide +kernel⟩
theorem lL_128 : LkV "SoldWithItLaw" 128 mX10_were 1 10 := ⟨gs6 75 rfl rfl, gs6 76 rfl rfl, gs6 77 rfl rfl, ⟨_, _, rfl⟩, cX10_were⟩
theorem cX9_bed : Cl mX9_bed 0 := ⟨gs4 94 rfl rfl, gs1 1 rfl rfl, by decide +kernel⟩
theorem lL_129 : LkV "SoldWithItLaw" 129 mX9_bed 0 9 := ⟨gs4 91 rfl rfl, gs4 92 rfl rfl, gs4 93 rfl rfl, ⟨_, _, rfl⟩, cX9_bed⟩
theorem cX10_bed : Cl mX10_bed 0 := ⟨gs6 86 rfl rfl, gs1 11 rfl rfl, by decide +kernel⟩
theorem lL_132 : LkV "SoldWithItLaw" 132 mX10_bed 0 10 := ⟨gs6 83 rfl rfl, gs6 84 rfl rfl, gs6 85 rfl rfl, ⟨_, _, rfl⟩, cX10_bed⟩
theorem cX9_sheet : Cl mX9_sheet 3 := ⟨gs4 99 rfl rfl, gs1 1 rfl rfl, by decide +kernel⟩
theorem lL_133 : LkV "SoldWithItLaw" 133 mX9_sheet 3 9 := ⟨gs4 96 rfl rfl, gs4 97 rfl rfl, gs4 98 rfl rfl, ⟨_, _, rfl⟩, cX9_sheet⟩
theorem cX10_sheet : Cl mX10_sheet 3 := ⟨gs6 90 rfl rfl, gs1 11 rfl rfl, by decide +kernel⟩
theorem lL_136 : LkV "SoldWithItLaw" 136 mX10_sheet 3 10 := ⟨gs6 87 rfl rfl, gs6 88 rfl rfl, gs6 89 rfl rfl, ⟨_, _, rfl⟩, cX10_sheet⟩
theorem cX9_lose : Cl mX9_lose 1 := ⟨gs4 111 rfl rfl, gs1 1 rfl rfl, by decide +kernel⟩
theorem lL_137 : LkV "SoldWithItLaw" 137 mX9_lose 1 9 := ⟨gs4 108 rfl rfl, gs4 109 rfl rfl, gs4 110 rfl rfl, ⟨_, _, rfl⟩, cX9_lose⟩
theorem cX10_lose : Cl mX10_lose 1 := ⟨gs6 94 rfl rfl, gs1 11 rfl rfl, by decide +kernel⟩
theorem lL_140 : LkV "SoldWithItLaw" 140 mX10_lose 1 10 := ⟨gs6 91 rfl rfl, gs6 92 rfl rfl, gs6 93 rfl rfl, ⟨_, _, rfl⟩, cX10_lose⟩
theorem cX9_put : Cl mX9_put 4 := ⟨gs4 115 rfl rfl, gs1 1 rfl rfl, by decide +kernel⟩
theorem lL_141 : LkV "SoldWithItLaw" 141 mX9_put 4 9 := ⟨gs4 112 rfl rfl, gs4 113 rfl rfl, gs4 114 rfl rfl, ⟨_, _, rfl⟩, cX9_put⟩
theorem cX10_put : Cl mX10_put 4 := ⟨gs6 98 rfl rfl, gs1 11 rfl rfl, by decide +kernel⟩
theorem lL_145 : LkV "SoldWithItLaw" 145 mX10_put 4 10 := ⟨gs6 95 rfl rfl, gs6 96 rfl rfl, gs6 97 rfl rfl, ⟨_, _, rfl⟩, cX10_put⟩
theorem cX9_get : Cl mX9_get 3 := ⟨gs4 128 rfl rfl, gs1 1 rfl rfl, by decide +kernel⟩
theorem lL_146 : LkV "SoldWithItLaw" 146 mX9_get 3 9 := ⟨gs4 125 rfl rfl, gs4 126 rfl rfl, gs4 127 rfl rfl, ⟨_, _, rfl⟩, cX9_get⟩
theorem cX10_get : Cl mX10_get 3 := ⟨gs6 110 rfl rfl, gs1 11 rfl rfl, by decide +kernel⟩
theorem lL_149 : LkV "SoldWithItLaw" 149 mX10_get 3 10 := ⟨gs6 107 rfl rfl, gs6 108 rfl rfl, gs6 109 rfl rfl, ⟨_, _, rfl⟩, cX10_get⟩
theorem cX9_copy : Cl mX9_copy 5 := ⟨gs4 133 rfl rfl, gs1 1 rfl rfl, by decide +kernel⟩
theorem lL_150 : LkV "SoldWithItLaw" 150 mX9_copy 5 9 := ⟨gs4 130 rfl rfl, gs4 131 rfl rfl, gs4 132 rfl rfl, ⟨_, _, rfl⟩, cX9_copy⟩
theorem cX10_copy : Cl mX10_copy 5 := ⟨gs6 115 rfl rfl, gs1 11 rfl rfl, by decide +kernel⟩
theorem lL_154 : LkV "SoldWithItLaw" 154 mX10_copy 5 10 := ⟨gs6 112 rfl rfl, gs6 113 rfl rfl, gs6 114 rfl rfl, ⟨_, _, rfl⟩, cX10_copy⟩
theorem cX9_write : Cl mX9_write 1 := ⟨gs4 142 rfl rfl, gs1 1 rfl rfl, by decide +kernel⟩
theorem lL_155 : LkV "SoldWithItLaw" 155 mX9_write 1 9 := ⟨gs4 139 rfl rfl, gs4 140 rfl rfl, gs4 141 rfl rfl, ⟨_, _, rfl⟩, cX9_write⟩
theorem cX10_write : Cl mX10_write 1 := ⟨gs6 119 rfl rfl, gs1 11 rfl rfl, by decide +kernel⟩
theorem lL_158 : LkV "SoldWithItLaw" 158 mX10_write 1 10 := ⟨gs6 116 rfl rfl, gs6 117 rfl rfl, gs6 118 rfl rfl, ⟨_, _, rfl⟩, cX10_write⟩
theorem lL_159 : LkV "SoldWithItLaw" 159 mX9_count 1 9 := ⟨gs4 143 rfl rfl, gs4 144 rfl rfl, gs4 145 rfl rfl, ⟨_, _, rfl⟩, cX9_count⟩
theorem cX10_count : Cl mX10_count 1 := ⟨gs6 123 rfl rfl, gs1 11 rfl rfl, by decide +kernel⟩
theorem lL_162 : LkV "SoldWithItLaw" 162 mX10_count 1 10 := ⟨gs6 120 rfl rfl, gs6 121 rfl rfl, gs6 122 rfl rfl, ⟨_, _, rfl⟩, cX10_count⟩
theorem cX9_digest : Cl mX9_digest 0 := ⟨gs4 158 rfl rfl, gs1 1 rfl rfl, by decide +kernel⟩
theorem lL_163 : LkV "SoldWithItLaw" 163 mX9_digest 0 9 := ⟨gs4 155 rfl rfl, gs4 156 rfl rfl, gs4 157 rfl rfl, ⟨_, _, rfl⟩, cX9_digest⟩
theorem cX10_digest : Cl mX10_digest 0 := ⟨gs6 131 rfl rfl, gs1 11 rfl rfl, by decide +kernel⟩
theorem lL_167 : LkV "SoldWithItLaw" 167 mX10_digest 0 10 := ⟨gs6 128 rfl rfl, gs6 129 rfl rfl, gs6 130 rfl rfl, ⟨_, _, rfl⟩, cX10_digest⟩
theorem lX10_1 : Cond.methodLink "SoldWithItModel" 1 objectInit ∈ gtbl := gs4 187 rfl rfl
theorem cX10_in : Cl mX10_in 3 := ⟨gs5 55 rfl rfl, gs1 11 rfl rfl, by decide +kernel⟩
theorem lX10_92 : LkS "SoldWithItModel" 92 mX10_in 3 := ⟨gs5 53 rfl rfl, gs5 54 rfl rfl, cX10_in⟩
theorem cX10_byteAt : Cl mX10_byteAt 2 := ⟨gs5 75 rfl rfl, gs1 11 rfl rfl, by decide +kernel⟩
theorem lX10_100 : LkV "SoldWithItModel" 100 mX10_byteAt 2 10 := ⟨gs5 72 rfl rfl, gs5 74 rfl rfl, gs0 29 rfl rfl, ⟨_, _, rfl⟩, cX10_byteAt⟩
theorem cX10_readsHouses : Cl mX10_readsHouses 0 := ⟨gs5 71 rfl rfl, gs1 11 rfl rfl, by decide +kernel⟩
theorem lX10_107 : LkV "SoldWithItModel" 107 mX10_readsHouses 0 10 := ⟨gs5 68 rfl rfl, gs5 70 rfl rfl, gs0 28 rfl rfl, ⟨_, _, rfl⟩, cX10_readsHouses⟩
theorem cX10_readsPeople : Cl mX10_readsPeople 0 := ⟨gs5 79 rfl rfl, gs1 11 rfl rfl, by decide +kernel⟩
theorem lX10_111 : LkV "SoldWithItModel" 111 mX10_readsPeople 0 10 := ⟨gs5 76 rfl rfl, gs5 78 rfl rfl, gs0 30 rfl rfl, ⟨_, _, rfl⟩, cX10_readsPeople⟩
theorem cX10_faultOf : Cl mX10_faultOf 1 := ⟨gs5 67 rfl rfl, gs1 11 rfl rfl, by decide +kernel⟩
theorem lX10_114 : LkV "SoldWithItModel" 114 mX10_faultOf 1 10 := ⟨gs5 64 rfl rfl, gs5 66 rfl rfl, gs0 27 rfl rfl, ⟨_, _, rfl⟩, cX10_faultOf⟩
theorem cX10_reads : Cl mX10_reads 0 := ⟨gs5 91 rfl rfl, gs1 11 rfl rfl, by decide +kernel⟩
theorem lX10_118 : LkV "SoldWithItModel" 118 mX10_reads 0 10 := ⟨gs5 88 rfl rfl, gs5 90 rfl rfl, gs0 32 rfl rfl, ⟨_, _, rfl⟩, cX10_reads⟩
theorem cX10_isHouse : Cl mX10_isHouse 1 := ⟨gs5 87 rfl rfl, gs1 11 rfl rfl, by decide +kernel⟩
theorem lX10_121 : LkV "SoldWithItModel" 121 mX10_isHouse 1 10 := ⟨gs5 84 rfl rfl, gs5 86 rfl rfl, gs0 31 rfl rfl, ⟨_, _, rfl⟩, cX10_isHouse⟩
theorem cX10_houseOf : Cl mX10_houseOf 2 := ⟨gs5 95 rfl rfl, gs1 11 rfl rfl, by decide +kernel⟩
theorem lX10_125 : LkV "SoldWithItModel" 125 mX10_houseOf 2 10 := ⟨gs5 92 rfl rfl, gs5 94 rfl rfl, gs0 33 rfl rfl, ⟨_, _, rfl⟩, cX10_houseOf⟩
theorem cX10_isPerson : Cl mX10_isPerson 1 := ⟨gs5 103 rfl rfl, gs1 11 rfl rfl, by decide +kernel⟩
theorem lX10_128 : LkV "SoldWithItModel" 128 mX10_isPerson 1 10 := ⟨gs5 100 rfl rfl, gs5 102 rfl rfl, gs0 34 rfl rfl, ⟨_, _, rfl⟩, cX10_isPerson⟩
theorem cX10_personOf : Cl mX10_personOf 2 := ⟨gs5 107 rfl rfl, gs1 11 rfl rfl, by decide +kernel⟩
theorem lX10_131 : LkV "SoldWithItModel" 131 mX10_personOf 2 10 := ⟨gs5 104 rfl rfl, gs5 106 rfl rfl, gs0 35 rfl rfl, ⟨_, _, rfl⟩, cX10_personOf⟩
theorem cX10_isEight : Cl mX10_isEight 1 := ⟨gs5 122 rfl rfl, gs1 11 rfl rfl, by decide +kernel⟩
theorem lX10_134 : LkS "SoldWithItModel" 134 mX10_isEight 1 := ⟨gs5 120 rfl rfl, gs5 121 rfl rfl, cX10_isEight⟩
theorem cX10_saleMore : Cl mX10_saleMore 2 := ⟨gs5 119 rfl rfl, gs1 11 rfl rfl, by decide +kernel⟩
theorem lX10_140 : LkV "SoldWithItModel" 140 mX10_saleMore 2 10 := ⟨gs5 116 rfl rfl, gs5 118 rfl rfl, gs0 36 rfl rfl, ⟨_, _, rfl⟩, cX10_saleMore⟩
theorem cX10_isSheet : Cl mX10_isSheet 1 := ⟨gs5 129 rfl rfl, gs1 11 rfl rfl, by decide +kernel⟩
theorem lX10_143 : LkS "SoldWithItModel" 143 mX10_isSheet 1 := ⟨gs5 127 rfl rfl, gs5 128 rfl rfl, cX10_isSheet⟩
theorem cX10_meets : Cl mX10_meets 1 := ⟨gs5 133 rfl rfl, gs1 11 rfl rfl, by decide +kernel⟩
theorem lX10_146 : LkV "SoldWithItModel" 146 mX10_meets 1 10 := ⟨gs5 130 rfl rfl, gs5 132 rfl rfl, gs0 37 rfl rfl, ⟨_, _, rfl⟩, cX10_meets⟩
theorem cX10_isIn : Cl mX10_isIn 2 := ⟨gs5 160 rfl rfl, gs1 11 rfl rfl, by decide +kernel⟩
theorem lX10_149 : LkS "SoldWithItModel" 149 mX10_isIn 2 := ⟨gs5 158 rfl rfl, gs5 159 rfl rfl, cX10_isIn⟩
theorem cX10_begins : Cl mX10_begins 0 := ⟨gs5 153 rfl rfl, gs1 11 rfl rfl, by decide +kernel⟩
theorem lX10_153 : LkV "SoldWithItModel" 153 mX10_begins 0 10 := ⟨gs5 150 rfl rfl, gs5 152 rfl rfl, gs0 40 rfl rfl, ⟨_, _, rfl⟩, cX10_begins⟩
theorem cX10_sells : Cl mX10_sells 2 := ⟨gs5 157 rfl rfl, gs1 11 rfl rfl, by decide +kernel⟩
theorem lX10_156 : LkV "SoldWithItModel" 156 mX10_sells 2 10 := ⟨gs5 154 rfl rfl, gs5 156 rfl rfl, gs0 41 rfl rfl, ⟨_, _, rfl⟩, cX10_sells⟩
theorem cX10_runs : Cl mX10_runs 1 := ⟨gs5 149 rfl rfl, gs1 11 rfl rfl, by decide +kernel⟩
theorem lX10_162 : LkV "SoldWithItModel" 162 mX10_runs 1 10 := ⟨gs5 146 rfl rfl, gs5 148 rfl rfl, gs0 39 rfl rfl, ⟨_, _, rfl⟩, cX10_runs⟩
theorem cX10_lays : Cl mX10_lays 1 := ⟨gs5 145 rfl rfl, gs1 11 rfl rfl, by decide +kernel⟩
theorem lX10_166 : LkV "SoldWithItModel" 166 mX10_lays 1 10 := ⟨gs5 142 rfl rfl, gs5 144 rfl rfl, gs0 38 rfl rfl, ⟨_, _, rfl⟩, cX10_lays⟩
theorem cX10_keeperOf : Cl mX10_keeperOf 2 := ⟨gs5 168 rfl rfl, gs1 11 rfl rfl, by decide +kernel⟩
theorem lX10_169 : LkV "SoldWithItModel" 169 mX10_keeperOf 2 10 := ⟨gs5 165 rfl rfl, gs5 167 rfl rfl, gs0 42 rfl rfl, ⟨_, _, rfl⟩, cX10_keeperOf⟩
theorem cX10_soldOf : Cl mX10_soldOf 2 := ⟨gs5 176 rfl rfl, gs1 11 rfl rfl, by decide +kernel⟩
theorem lX10_172 : LkV "SoldWithItModel" 172 mX10_soldOf 2 10 := ⟨gs5 173 rfl rfl, gs5 175 rfl rfl, gs0 43 rfl rfl, ⟨_, _, rfl⟩, cX10_soldOf⟩
theorem cX10_lengthOf : Cl mX10_lengthOf 1 := ⟨gs5 184 rfl rfl, gs1 11 rfl rfl, by decide +kernel⟩
theorem lX10_175 : LkV "SoldWithItModel" 175 mX10_lengthOf 1 10 := ⟨gs5 181 rfl rfl, gs5 183 rfl rfl, gs0 44 rfl rfl, ⟨_, _, rfl⟩, cX10_lengthOf⟩
theorem cX10_gainBy : Cl mX10_gainBy 1 := ⟨gs5 205 rfl rfl, gs1 11 rfl rfl, by decide +kernel⟩
theorem lX10_179 : LkV "SoldWithItModel" 179 mX10_gainBy 1 10 := ⟨gs5 202 rfl rfl, gs5 204 rfl rfl, gs0 46 rfl rfl, ⟨_, _, rfl⟩, cX10_gainBy⟩
theorem cX10_gainOf : Cl mX10_gainOf 1 := ⟨gs5 201 rfl rfl, gs1 11 rfl rfl, by decide +kernel⟩
theorem lX10_182 : LkV "SoldWithItModel" 182 mX10_gainOf 1 10 := ⟨gs5 198 rfl rfl, gs5 200 rfl rfl, gs0 45 rfl rfl, ⟨_, _, rfl⟩, cX10_gainOf⟩
theorem cX10_rows : Cl mX10_rows 0 := ⟨gs5 218 rfl rfl, gs1 11 rfl rfl, by decide +kernel⟩
theorem lX10_186 : LkV "SoldWithItModel" 186 mX10_rows 0 10 := ⟨gs5 215 rfl rfl, gs5 217 rfl rfl, gs0 48 rfl rfl, ⟨_, _, rfl⟩, cX10_rows⟩
theorem cX10_places : Cl mX10_places 1 := ⟨gs5 222 rfl rfl, gs1 11 rfl rfl, by decide +kernel⟩
theorem lX10_189 : LkV "SoldWithItModel" 189 mX10_places 1 10 := ⟨gs5 219 rfl rfl, gs5 221 rfl rfl, gs0 49 rfl rfl, ⟨_, _, rfl⟩, cX10_places⟩
theorem cX10_bestOf : Cl mX10_bestOf 2 := ⟨gs5 213 rfl rfl, gs1 11 rfl rfl, by decide +kernel⟩
theorem lX10_192 : LkV "SoldWithItModel" 192 mX10_bestOf 2 10 := ⟨gs5 210 rfl rfl, gs5 212 rfl rfl, gs0 47 rfl rfl, ⟨_, _, rfl⟩, cX10_bestOf⟩
theorem cX10_restNow : Cl mX10_restNow 1 := ⟨gs5 230 rfl rfl, gs1 11 rfl rfl, by decide +kernel⟩
theorem lX10_196 : LkV "SoldWithItModel" 196 mX10_restNow 1 10 := ⟨gs5 227 rfl rfl, gs5 229 rfl rfl, gs0 50 rfl rfl, ⟨_, _, rfl⟩, cX10_restNow⟩
theorem cX10_restOf : Cl mX10_restOf 1 := ⟨gs5 234 rfl rfl, gs1 11 rfl rfl, by decide +kernel⟩
theorem lX10_199 : LkV "SoldWithItModel" 199 mX10_restOf 1 10 := ⟨gs5 231 rfl rfl, gs5 233 rfl rfl, gs0 51 rfl rfl, ⟨_, _, rfl⟩, cX10_restOf⟩
theorem cX10_isTold : Cl mX10_isTold 1 := ⟨gs6 7 rfl rfl, gs1 11 rfl rfl, by decide +kernel⟩
theorem lX10_202 : LkV "SoldWithItModel" 202 mX10_isTold 1 10 := ⟨gs6 4 rfl rfl, gs6 6 rfl rfl, gs0 53 rfl rfl, ⟨_, _, rfl⟩, cX10_isTold⟩
theorem cX10_outOf : Cl mX10_outOf 1 := ⟨gs6 3 rfl rfl, gs1 11 rfl rfl, by decide +kernel⟩
theorem lX10_205 : LkV "SoldWithItModel" 205 mX10_outOf 1 10 := ⟨gs6 0 rfl rfl, gs6 2 rfl rfl, gs0 52 rfl rfl, ⟨_, _, rfl⟩, cX10_outOf⟩
theorem cX10_valueOf : Cl mX10_valueOf 2 := ⟨gs6 15 rfl rfl, gs1 11 rfl rfl, by decide +kernel⟩
theorem lX10_208 : LkV "SoldWithItModel" 208 mX10_valueOf 2 10 := ⟨gs6 12 rfl rfl, gs6 14 rfl rfl, gs0 54 rfl rfl, ⟨_, _, rfl⟩, cX10_valueOf⟩
theorem cX10_isChange : Cl mX10_isChange 2 := ⟨gs6 23 rfl rfl, gs1 11 rfl rfl, by decide +kernel⟩
theorem lX10_211 : LkV "SoldWithItModel" 211 mX10_isChange 2 10 := ⟨gs6 20 rfl rfl, gs6 22 rfl rfl, gs0 55 rfl rfl, ⟨_, _, rfl⟩, cX10_isChange⟩
theorem cX10_changesNow : Cl mX10_changesNow 0 := ⟨gs6 31 rfl rfl, gs1 11 rfl rfl, by decide +kernel⟩
theorem lX10_214 : LkV "SoldWithItModel" 214 mX10_changesNow 0 10 := ⟨gs6 28 rfl rfl, gs6 30 rfl rfl, gs0 56 rfl rfl, ⟨_, _, rfl⟩, cX10_changesNow⟩
theorem cX10_stateNow : Cl mX10_stateNow 0 := ⟨gs6 43 rfl rfl, gs1 11 rfl rfl, by decide +kernel⟩
theorem lX10_217 : LkV "SoldWithItModel" 217 mX10_stateNow 0 10 := ⟨gs6 40 rfl rfl, gs6 42 rfl rfl, gs0 58 rfl rfl, ⟨_, _, rfl⟩, cX10_stateNow⟩
theorem cX10_ownsBy : Cl mX10_ownsBy 1 := ⟨gs6 47 rfl rfl, gs1 11 rfl rfl, by decide +kernel⟩
theorem lX10_220 : LkV "SoldWithItModel" 220 mX10_ownsBy 1 10 := ⟨gs6 44 rfl rfl, gs6 46 rfl rfl, gs0 59 rfl rfl, ⟨_, _, rfl⟩, cX10_ownsBy⟩
theorem cX10_shouldOf : Cl mX10_shouldOf 1 := ⟨gs6 39 rfl rfl, gs1 11 rfl rfl, by decide +kernel⟩
theorem lX10_223 : LkV "SoldWithItModel" 223 mX10_shouldOf 1 10 := ⟨gs6 36 rfl rfl, gs6 38 rfl rfl, gs0 57 rfl rfl, ⟨_, _, rfl⟩, cX10_shouldOf⟩
theorem cX10_comeOf : Cl mX10_comeOf 2 := ⟨gs6 55 rfl rfl, gs1 11 rfl rfl, by decide +kernel⟩
theorem lX10_226 : LkV "SoldWithItModel" 226 mX10_comeOf 2 10 := ⟨gs6 52 rfl rfl, gs6 54 rfl rfl, gs0 60 rfl rfl, ⟨_, _, rfl⟩, cX10_comeOf⟩
theorem cX10_ones : Cl mX10_ones 1 := ⟨gs6 66 rfl rfl, gs1 11 rfl rfl, by decide +kernel⟩
theorem lX10_229 : LkS "SoldWithItModel" 229 mX10_ones 1 := ⟨gs6 64 rfl rfl, gs6 65 rfl rfl, cX10_ones⟩
theorem cX10_inviteOf : Cl mX10_inviteOf 2 := ⟨gs6 63 rfl rfl, gs1 11 rfl rfl, by decide +kernel⟩
theorem lX10_232 : LkV "SoldWithItModel" 232 mX10_inviteOf 2 10 := ⟨gs6 60 rfl rfl, gs6 62 rfl rfl, gs0 61 rfl rfl, ⟨_, _, rfl⟩, cX10_inviteOf⟩
theorem cX10_waysNow : Cl mX10_waysNow 0 := ⟨gs6 82 rfl rfl, gs1 11 rfl rfl, by decide +kernel⟩
theorem lX10_238 : LkV "SoldWithItModel" 238 mX10_waysNow 0 10 := ⟨gs6 79 rfl rfl, gs6 81 rfl rfl, gs0 62 rfl rfl, ⟨_, _, rfl⟩, cX10_waysNow⟩
theorem cX10_lacks : Cl mX10_lacks 3 := ⟨gs6 102 rfl rfl, gs1 11 rfl rfl, by decide +kernel⟩
theorem lX10_244 : LkV "SoldWithItModel" 244 mX10_lacks 3 10 := ⟨gs6 99 rfl rfl, gs6 101 rfl rfl, gs0 63 rfl rfl, ⟨_, _, rfl⟩, cX10_lacks⟩
theorem cX10_keep : Cl mX10_keep 3 := ⟨gs6 106 rfl rfl, gs1 11 rfl rfl, by decide +kernel⟩
theorem lX10_248 : LkV "SoldWithItModel" 248 mX10_keep 3 10 := ⟨gs6 103 rfl rfl, gs6 105 rfl rfl, gs0 64 rfl rfl, ⟨_, _, rfl⟩, cX10_keep⟩
theorem cX10_sumOf : Cl mX10_sumOf 1 := ⟨gs6 127 rfl rfl, gs1 11 rfl rfl, by decide +kernel⟩
theorem lX10_253 : LkV "SoldWithItModel" 253 mX10_sumOf 1 10 := ⟨gs6 124 rfl rfl, gs6 126 rfl rfl, gs0 65 rfl rfl, ⟨_, _, rfl⟩, cX10_sumOf⟩
theorem lX10_260 : LkV "SoldWithItModel" 260 mX10_count 1 10 := ⟨gs6 134 rfl rfl, gs6 121 rfl rfl, gs6 122 rfl rfl, ⟨_, _, rfl⟩, cX10_count⟩
theorem cJ0_coder_7d493 : Cl mJ0_coder_7d493 0 := ⟨gs2 148 rfl rfl, gs1 12 rfl rfl, by decide +kernel⟩
theorem cJ0_isLatin1_aae02 : Cl mJ0_isLatin1_aae02 0 := ⟨gs2 138 rfl rfl, gs1 12 rfl rfl, by decide +kernel⟩
theorem cJ0_length_8abf5 : Cl mJ0_length_8abf5 0 := ⟨gs2 144 rfl rfl, gs1 12 rfl rfl, by decide +kernel⟩
theorem cJ0_indexOf_7cf53 : Cl mJ0_indexOf_7cf53 2 := ⟨gs2 134 rfl rfl, gs1 12 rfl rfl, by decide +kernel⟩
theorem cJ1_indexOf_4cfef : Cl mJ1_indexOf_4cfef 4 := ⟨gs2 151 rfl rfl, gs1 13 rfl rfl, by decide +kernel⟩
theorem lJ0_637 : LkS "java/lang/String" 637 mJ1_indexOf_4cfef 4 := ⟨gs2 149 rfl rfl, gs2 150 rfl rfl, cJ1_indexOf_4cfef⟩
theorem cJ2_indexOf_4cfef : Cl mJ2_indexOf_4cfef 4 := ⟨gs2 166 rfl rfl, gs1 15 rfl rfl, by decide +kernel⟩
theorem lJ0_640 : LkS "java/lang/String" 640 mJ2_indexOf_4cfef 4 := ⟨gs2 164 rfl rfl, gs2 165 rfl rfl, cJ2_indexOf_4cfef⟩
theorem cJ3_checkFromToIndex_8c36e : Cl mJ3_checkFromToIndex_8c36e 4 := ⟨gs2 186 rfl rfl, gs1 16 rfl rfl, by decide +kernel⟩
theorem lJ0_1062 : LkS "java/lang/String" 1062 mJ3_checkFromToIndex_8c36e 4 := ⟨gs2 184 rfl rfl, gs2 185 rfl rfl, cJ3_checkFromToIndex_8c36e⟩
theorem lJ1_38 : LkS "java/lang/StringLatin1" 38 mJ9_min_7cf53 2 := ⟨gs2 158 rfl rfl, gs2 159 rfl rfl, cJ9_min_7cf53⟩
theorem cJ1_canEncode_9a6ad : Cl mJ1_canEncode_9a6ad 1 := ⟨gs2 154 rfl rfl, gs1 13 rfl rfl, by decide +kernel⟩
theorem lJ1_88 : LkS "java/lang/StringLatin1" 88 mJ1_canEncode_9a6ad 1 := ⟨gs2 152 rfl rfl, gs2 153 rfl rfl, cJ1_canEncode_9a6ad⟩
theorem cJ9_max_7cf53 : Cl mJ9_max_7cf53 2 := ⟨gs2 157 rfl rfl, gs1 14 rfl rfl, by decide +kernel⟩
theorem lJ1_92 : LkS "java/lang/StringLatin1" 92 mJ9_max_7cf53 2 := ⟨gs2 155 rfl rfl, gs2 156 rfl rfl, cJ9_max_7cf53⟩
theorem cJ1_indexOfChar_4cfef : Cl mJ1_indexOfChar_4cfef 4 := ⟨gs2 163 rfl rfl, gs1 13 rfl rfl, by decide +kernel⟩
theorem lJ1_95 : LkS "java/lang/StringLatin1" 95 mJ1_indexOfChar_4cfef 4 := ⟨gs2 161 rfl rfl, gs2 162 rfl rfl, cJ1_indexOfChar_4cfef⟩
theorem cJ2_length_9d52b : Cl mJ2_length_9d52b 1 := ⟨gs2 178 rfl rfl, gs1 15 rfl rfl, by decide +kernel⟩
theorem lJ2_48 : LkS "java/lang/StringUTF16" 48 mJ2_length_9d52b 1 := ⟨gs2 176 rfl rfl, gs2 177 rfl rfl, cJ2_length_9d52b⟩
theorem cJ2_getChar_3b067 : Cl mJ2_getChar_3b067 2 := ⟨gs2 192 rfl rfl, gs1 15 rfl rfl, by decide +kernel⟩
theorem lJ2_71 : LkS "java/lang/StringUTF16" 71 mJ2_getChar_3b067 2 := ⟨gs2 190 rfl rfl, gs2 191 rfl rfl, cJ2_getChar_3b067⟩
theorem cJ2_checkBoundsBeginEnd_d044e : Cl mJ2_checkBoundsBeginEnd_d044e 3 := ⟨gs2 175 rfl rfl, gs1 15 rfl rfl, by decide +kernel⟩
theorem lJ2_96 : LkS "java/lang/StringUTF16" 96 mJ2_checkBoundsBeginEnd_d044e 3 := ⟨gs2 173 rfl rfl, gs2 174 rfl rfl, cJ2_checkBoundsBeginEnd_d044e⟩
theorem cJ11_highSurrogate_5068e : Cl mJ11_highSurrogate_5068e 1 := ⟨gs2 207 rfl rfl, gs1 17 rfl rfl, by decide +kernel⟩
theorem lJ2_157 : LkS "java/lang/StringUTF16" 157 mJ11_highSurrogate_5068e 1 := ⟨gs2 205 rfl rfl, gs2 206 rfl rfl, cJ11_highSurrogate_5068e⟩
theorem cJ11_lowSurrogate_5068e : Cl mJ11_lowSurrogate_5068e 1 := ⟨gs2 211 rfl rfl, gs1 17 rfl rfl, by decide +kernel⟩
theorem lJ2_161 : LkS "java/lang/StringUTF16" 161 mJ11_lowSurrogate_5068e 1 := ⟨gs2 209 rfl rfl, gs2 210 rfl rfl, cJ11_lowSurrogate_5068e⟩
theorem cJ11_isValidCodePoint_9a6ad : Cl mJ11_isValidCodePoint_9a6ad 1 := ⟨gs2 204 rfl rfl, gs1 17 rfl rfl, by decide +kernel⟩
theorem lJ2_164 : LkS "java/lang/StringUTF16" 164 mJ11_isValidCodePoint_9a6ad 1 := ⟨gs2 202 rfl rfl, gs2 203 rfl rfl, cJ11_isValidCodePoint_9a6ad⟩
theorem lJ2_183 : LkS "java/lang/StringUTF16" 183 mJ9_min_7cf53 2 := ⟨gs2 168 rfl rfl, gs2 159 rfl rfl, cJ9_min_7cf53⟩
theorem lJ2_224 : LkS "java/lang/StringUTF16" 224 mJ9_max_7cf53 2 := ⟨gs2 167 rfl rfl, gs2 156 rfl rfl, cJ9_max_7cf53⟩
theorem cJ2_indexOfChar_4cfef : Cl mJ2_indexOfChar_4cfef 4 := ⟨gs2 172 rfl rfl, gs1 15 rfl rfl, by decide +kernel⟩
theorem lJ2_228 : LkS "java/lang/StringUTF16" 228 mJ2_indexOfChar_4cfef 4 := ⟨gs2 170 rfl rfl, gs2 171 rfl rfl, cJ2_indexOfChar_4cfef⟩
theorem cJ2_indexOfSupplementary_4cfef : Cl mJ2_indexOfSupplementary_4cfef 4 := ⟨gs2 201 rfl rfl, gs1 15 rfl rfl, by decide +kernel⟩
theorem lJ2_232 : LkS "java/lang/StringUTF16" 232 mJ2_indexOfSupplementary_4cfef 4 := ⟨gs2 199 rfl rfl, gs2 200 rfl rfl, cJ2_indexOfSupplementary_4cfef⟩
theorem cJ0_checkBoundsBeginEnd_23922 : Cl mJ0_checkBoundsBeginEnd_23922 3 := ⟨gs2 181 rfl rfl, gs1 12 rfl rfl, by decide +kernel⟩
theorem lJ2_241 : LkS "java/lang/StringUTF16" 241 mJ0_checkBoundsBeginEnd_23922 3 := ⟨gs2 179 rfl rfl, gs2 180 rfl rfl, cJ0_checkBoundsBeginEnd_23922⟩
theorem cJ2_indexOfCharUnsafe_4cfef : Cl mJ2_indexOfCharUnsafe_4cfef 4 := ⟨gs2 189 rfl rfl, gs1 15 rfl rfl, by decide +kernel⟩
theorem lJ2_244 : LkS "java/lang/StringUTF16" 244 mJ2_indexOfCharUnsafe_4cfef 4 := ⟨gs2 187 rfl rfl, gs2 188 rfl rfl, cJ2_indexOfCharUnsafe_4cfef⟩
theorem naX9_7 : Cond.classLink "SoldWithIt" 7 "SoldWithIt$Text" ∈ gtbl := gs1 29 rfl rfl
theorem nX9_7 : Nw "SoldWithIt" 7 8 [.null, .int 0] := ⟨_, _, _, tyX8, rfl, inX8, tyX8_ok, gs1 29 rfl rfl, gs1 31 rfl rfl, gs1 2 rfl rfl, by decide +kernel, rfl, nref rfl⟩
theorem nX9_18 : Nw "SoldWithIt" 18 5 [.int 0, .int 0, .null, .null, .null, .null, .null, .null] := ⟨_, _, _, tyX5, rfl, inX5, tyX5_ok, gs1 47 rfl rfl, gs1 48 rfl rfl, gs1 3 rfl rfl, by decide +kernel, rfl, nref rfl⟩
theorem nX9_25 : Nw "SoldWithIt" 25 3 [.int 0, .int 0, .null, .null] := ⟨_, _, _, tyX3, rfl, inX3, tyX3_ok, gs1 99 rfl rfl, gs1 100 rfl rfl, gs1 4 rfl rfl, by decide +kernel, rfl, nref rfl⟩
theorem nX9_32 : Nw "SoldWithIt" 32 6 [.null, .null, .null, .null, .int 0, .int 0, .int 0] := ⟨_, _, _, tyX6, rfl, inX6, tyX6_ok, gs1 125 rfl rfl, gs1 126 rfl rfl, gs1 5 rfl rfl, by decide +kernel, rfl, nref rfl⟩
theorem nX9_39 : Nw "SoldWithIt" 39 7 [.null, .null] := ⟨_, _, _, tyX7, rfl, inX7, tyX7_ok, gs1 161 rfl rfl, gs1 162 rfl rfl, gs1 6 rfl rfl, by decide +kernel, rfl, nref rfl⟩
theorem nX9_46 : Nw "SoldWithIt" 46 2 [.null, .null, .null, .null, .null, .null, .int 0, .int 0, .int 0, .int 0, .int 0, .int 0, .int 0, .int 0, .int 0, .null] := ⟨_, _, _, tyX2, rfl, inX2, tyX2_ok, gs1 176 rfl rfl, gs1 177 rfl rfl, gs1 7 rfl rfl, by decide +kernel, rfl, nref rfl⟩
theorem nX9_53 : Nw "SoldWithIt" 53 0 [.null, .null, .null, .int 0, .int 0] := ⟨_, _, _, tyX0, rfl, inX0, tyX0_ok, gs1 237 rfl rfl, gs1 238 rfl rfl, gs1 8 rfl rfl, by decide +kernel, rfl, nref rfl⟩
theorem nX9_60 : Nw "SoldWithIt" 60 1 [.int 0, .null, .null] := ⟨_, _, _, tyX1, rfl, inX1, tyX1_ok, gs2 21 rfl rfl, gs2 22 rfl rfl, gs1 9 rfl rfl, by decide +kernel, rfl, nref rfl⟩
theorem naX9_67 : Cond.classLink "SoldWithIt" 67 "SoldWithIt$Sheet" ∈ gtbl := gs2 41 rfl rfl
theorem nX9_67 : Nw "SoldWithIt" 67 4 [.int 0, .int 0, .null] := ⟨_, _, _, tyX4, rfl, inX4, tyX4_ok, gs2 41 rfl rfl, gs2 43 rfl rfl, gs1 10 rfl rfl, by decide +kernel, rfl, nref rfl⟩
theorem nX0_9 : Nw "SoldWithIt$Deeds" 9 6 [.null, .null, .null, .null, .int 0, .int 0, .int 0] := ⟨_, _, _, tyX6, rfl, inX6, tyX6_ok, gs2 3 rfl rfl, gs1 126 rfl rfl, gs1 5 rfl rfl, by decide +kernel, rfl, nref rfl⟩
theorem nX2_9 : Nw "SoldWithIt$Rows" 9 6 [.null, .null, .null, .null, .int 0, .int 0, .int 0] := ⟨_, _, _, tyX6, rfl, inX6, tyX6_ok, gs1 182 rfl rfl, gs1 126 rfl rfl, gs1 5 rfl rfl, by decide +kernel, rfl, nref rfl⟩
theorem nL_7 : Nw "SoldWithItLaw" 7 9 [.null, .null, .null, .null, .null, .null, .null, .null, .null, .int 0, .int 0] := ⟨_, _, _, tyX9, rfl, inX9, tyX9_ok, gs1 21 rfl rfl, gs1 22 rfl rfl, gs1 1 rfl rfl, by decide +kernel, rfl, nref rfl⟩
theorem nL_10 : Nw "SoldWithItLaw" 10 10 [.null, .null, .int 0, .null, .null, .int 0, .null, .null, .null, .int 0, .null, .null, .null, .null, .null, .null, .null, .int 0, .null, .null, .null, .null, .null, .int 0, .null, .null, .null, .null, .null, .null, .null, .null, .int 0] := ⟨_, _, _, tyX10, rfl, inX10, tyX10_ok, gs4 182 rfl rfl, gs4 183 rfl rfl, gs1 11 rfl rfl, by decide +kernel, rfl, nref rfl⟩
theorem kJ2_227 : Cond.constant "java/lang/StringUTF16" 227 (65536) ∈ gtbl := gs2 169 rfl rfl
theorem kJ11_110 : Cond.constant "java/lang/Character" 110 (55232) ∈ gtbl := gs2 208 rfl rfl
theorem kJ11_76 : Cond.constant "java/lang/Character" 76 (56320) ∈ gtbl := gs2 212 rfl rfl
theorem kJ6_265 : Cond.constant "java/lang/Integer" 265 (1431655765) ∈ gtbl := gs3 99 rfl rfl
theorem kJ6_266 : Cond.constant "java/lang/Integer" 266 (858993459) ∈ gtbl := gs3 100 rfl rfl
theorem kJ6_267 : Cond.constant "java/lang/Integer" 267 (252645135) ∈ gtbl := gs3 101 rfl rfl
theorem kX9_180 : Cond.constant "SoldWithIt" 180 (-100002) ∈ gtbl := gs3 133 rfl rfl
theorem kX9_206 : Cond.constant "SoldWithIt" 206 (-100004) ∈ gtbl := gs3 155 rfl rfl
theorem kX9_232 : Cond.constant "SoldWithIt" 232 (-100003) ∈ gtbl := gs3 217 rfl rfl
theorem kX9_306 : Cond.constant "SoldWithIt" 306 (-2147483648) ∈ gtbl := gs4 129 rfl rfl
theorem kX9_322 : Cond.constantLong "SoldWithIt" 322 (17) ∈ gtbl := gs4 159 rfl rfl
theorem kX9_324 : Cond.constantLong "SoldWithIt" 324 (31) ∈ gtbl := gs4 160 rfl rfl
theorem kX10_178 : Cond.constant "SoldWithItModel" 178 (-100002) ∈ gtbl := gs5 189 rfl rfl
theorem kX10_185 : Cond.constant "SoldWithItModel" 185 (-100004) ∈ gtbl := gs5 214 rfl rfl
theorem kX10_195 : Cond.constant "SoldWithItModel" 195 (-100003) ∈ gtbl := gs5 235 rfl rfl
theorem kX10_252 : Cond.constant "SoldWithItModel" 252 (-2147483648) ∈ gtbl := gs6 111 rfl rfl
theorem kX10_256 : Cond.constantLong "SoldWithItModel" 256 (17) ∈ gtbl := gs6 132 rfl rfl
theorem kX10_258 : Cond.constantLong "SoldWithItModel" 258 (31) ∈ gtbl := gs6 133 rfl rfl
end

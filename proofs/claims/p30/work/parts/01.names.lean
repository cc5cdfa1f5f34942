-- ===== PART A: goes FIRST, ahead of the names: the tables' words, and 'selects' of the private methods out of them =====
/-- a private method of a class that the tables say can be made, by its rows of tables_1 -/
def lw_okq (q : MethodName × Nat) : Prop := (q.1.cls ≠ "java/lang/invoke/MethodHandle" ∧ q.1.cls ≠ "java/lang/invoke/VarHandle") ∧ Cond.instantiable q.1.cls q.2 ∈ tables_1 ∧ Cond.privateMethod q.1 ∈ tables_1 ∧ Cond.instanceMethod q.1 ∈ tables_1
theorem lw_p0 : lw_okq (⟨"FewPlaces", "refusalOfOrbit", "(I)I"⟩, 15) := ⟨⟨by decide +kernel, by decide +kernel⟩, List.mem_of_getElem? (i := 12) (by decide +kernel), List.mem_of_getElem? (i := 318) (by decide +kernel), List.mem_of_getElem? (i := 319) (by decide +kernel)⟩
theorem lw_p1 : lw_okq (⟨"FewPlaces", "failed", "(I)I"⟩, 15) := ⟨⟨by decide +kernel, by decide +kernel⟩, List.mem_of_getElem? (i := 12) (by decide +kernel), List.mem_of_getElem? (i := 337) (by decide +kernel), List.mem_of_getElem? (i := 338) (by decide +kernel)⟩
theorem lw_p2 : lw_okq (⟨"FewPlaces", "addFrom", "(LFewPlaces$Sheet;II)I"⟩, 15) := ⟨⟨by decide +kernel, by decide +kernel⟩, List.mem_of_getElem? (i := 12) (by decide +kernel), List.mem_of_getElem? (i := 350) (by decide +kernel), List.mem_of_getElem? (i := 351) (by decide +kernel)⟩
theorem lw_p3 : lw_okq (⟨"FewPlaces", "sizeOfOrbit", "(I)I"⟩, 15) := ⟨⟨by decide +kernel, by decide +kernel⟩, List.mem_of_getElem? (i := 12) (by decide +kernel), List.mem_of_getElem? (i := 378) (by decide +kernel), List.mem_of_getElem? (i := 379) (by decide +kernel)⟩
theorem lw_p4 : lw_okq (⟨"FewPlaces", "findSum", "(II)V"⟩, 15) := ⟨⟨by decide +kernel, by decide +kernel⟩, List.mem_of_getElem? (i := 12) (by decide +kernel), List.mem_of_getElem? (i := 396) (by decide +kernel), List.mem_of_getElem? (i := 397) (by decide +kernel)⟩
theorem lw_p5 : lw_okq (⟨"FewPlaces", "findError", "(II)V"⟩, 15) := ⟨⟨by decide +kernel, by decide +kernel⟩, List.mem_of_getElem? (i := 12) (by decide +kernel), List.mem_of_getElem? (i := 413) (by decide +kernel), List.mem_of_getElem? (i := 414) (by decide +kernel)⟩
theorem lw_p6 : lw_okq (⟨"FewPlaces", "firstWrongTerm", "()I"⟩, 15) := ⟨⟨by decide +kernel, by decide +kernel⟩, List.mem_of_getElem? (i := 12) (by decide +kernel), List.mem_of_getElem? (i := 426) (by decide +kernel), List.mem_of_getElem? (i := 427) (by decide +kernel)⟩
theorem lw_p7 : lw_okq (⟨"FewPlaces", "areAllWithin", "()Z"⟩, 15) := ⟨⟨by decide +kernel, by decide +kernel⟩, List.mem_of_getElem? (i := 12) (by decide +kernel), List.mem_of_getElem? (i := 442) (by decide +kernel), List.mem_of_getElem? (i := 443) (by decide +kernel)⟩
theorem lw_p8 : lw_okq (⟨"FewPlaces", "areAllAbove", "()Z"⟩, 15) := ⟨⟨by decide +kernel, by decide +kernel⟩, List.mem_of_getElem? (i := 12) (by decide +kernel), List.mem_of_getElem? (i := 446) (by decide +kernel), List.mem_of_getElem? (i := 447) (by decide +kernel)⟩
theorem lw_p9 : lw_okq (⟨"FewPlaces", "isEven", "()Z"⟩, 15) := ⟨⟨by decide +kernel, by decide +kernel⟩, List.mem_of_getElem? (i := 12) (by decide +kernel), List.mem_of_getElem? (i := 450) (by decide +kernel), List.mem_of_getElem? (i := 451) (by decide +kernel)⟩
theorem lw_p10 : lw_okq (⟨"FewPlaces", "isOrbitOfWeight", "(I)Z"⟩, 15) := ⟨⟨by decide +kernel, by decide +kernel⟩, List.mem_of_getElem? (i := 12) (by decide +kernel), List.mem_of_getElem? (i := 454) (by decide +kernel), List.mem_of_getElem? (i := 455) (by decide +kernel)⟩
theorem lw_p11 : lw_okq (⟨"FewPlaces", "becomePair", "(II)V"⟩, 15) := ⟨⟨by decide +kernel, by decide +kernel⟩, List.mem_of_getElem? (i := 12) (by decide +kernel), List.mem_of_getElem? (i := 521) (by decide +kernel), List.mem_of_getElem? (i := 522) (by decide +kernel)⟩
theorem lw_p12 : lw_okq (⟨"FewPlaces", "findSumOfCut", "(I)V"⟩, 15) := ⟨⟨by decide +kernel, by decide +kernel⟩, List.mem_of_getElem? (i := 12) (by decide +kernel), List.mem_of_getElem? (i := 538) (by decide +kernel), List.mem_of_getElem? (i := 539) (by decide +kernel)⟩
theorem lw_p13 : lw_okq (⟨"FewPlaces", "sumMoved", "(II)J"⟩, 15) := ⟨⟨by decide +kernel, by decide +kernel⟩, List.mem_of_getElem? (i := 12) (by decide +kernel), List.mem_of_getElem? (i := 543) (by decide +kernel), List.mem_of_getElem? (i := 544) (by decide +kernel)⟩
theorem lw_p14 : lw_okq (⟨"FewPlaces", "valueAt", "(II)J"⟩, 15) := ⟨⟨by decide +kernel, by decide +kernel⟩, List.mem_of_getElem? (i := 12) (by decide +kernel), List.mem_of_getElem? (i := 547) (by decide +kernel), List.mem_of_getElem? (i := 548) (by decide +kernel)⟩
theorem lw_p15 : lw_okq (⟨"FewPlaces", "kindOf", "(I)I"⟩, 15) := ⟨⟨by decide +kernel, by decide +kernel⟩, List.mem_of_getElem? (i := 12) (by decide +kernel), List.mem_of_getElem? (i := 589) (by decide +kernel), List.mem_of_getElem? (i := 590) (by decide +kernel)⟩
def lw_privs_1 : List (MethodName × Nat) := [(⟨"FewPlaces", "refusalOfOrbit", "(I)I"⟩, 15), (⟨"FewPlaces", "failed", "(I)I"⟩, 15), (⟨"FewPlaces", "addFrom", "(LFewPlaces$Sheet;II)I"⟩, 15), (⟨"FewPlaces", "sizeOfOrbit", "(I)I"⟩, 15), (⟨"FewPlaces", "findSum", "(II)V"⟩, 15), (⟨"FewPlaces", "findError", "(II)V"⟩, 15), (⟨"FewPlaces", "firstWrongTerm", "()I"⟩, 15), (⟨"FewPlaces", "areAllWithin", "()Z"⟩, 15), (⟨"FewPlaces", "areAllAbove", "()Z"⟩, 15), (⟨"FewPlaces", "isEven", "()Z"⟩, 15), (⟨"FewPlaces", "isOrbitOfWeight", "(I)Z"⟩, 15), (⟨"FewPlaces", "becomePair", "(II)V"⟩, 15), (⟨"FewPlaces", "findSumOfCut", "(I)V"⟩, 15), (⟨"FewPlaces", "sumMoved", "(II)J"⟩, 15), (⟨"FewPlaces", "valueAt", "(II)J"⟩, 15), (⟨"FewPlaces", "kindOf", "(I)I"⟩, 15)]
theorem lw_r1 : ∀ q ∈ lw_privs_1, lw_okq q := List.forall_mem_cons.mpr ⟨lw_p0, List.forall_mem_cons.mpr ⟨lw_p1, List.forall_mem_cons.mpr ⟨lw_p2, List.forall_mem_cons.mpr ⟨lw_p3, List.forall_mem_cons.mpr ⟨lw_p4, List.forall_mem_cons.mpr ⟨lw_p5, List.forall_mem_cons.mpr ⟨lw_p6, List.forall_mem_cons.mpr ⟨lw_p7, List.forall_mem_cons.mpr ⟨lw_p8, List.forall_mem_cons.mpr ⟨lw_p9, List.forall_mem_cons.mpr ⟨lw_p10, List.forall_mem_cons.mpr ⟨lw_p11, List.forall_mem_cons.mpr ⟨lw_p12, List.forall_mem_cons.mpr ⟨lw_p13, List.forall_mem_cons.mpr ⟨lw_p14, List.forall_mem_cons.mpr ⟨lw_p15, fun _ h => absurd h List.not_mem_nil⟩⟩⟩⟩⟩⟩⟩⟩⟩⟩⟩⟩⟩⟩⟩⟩
theorem lw_p16 : lw_okq (⟨"FewPlaces", "tellAlone", "(I)I"⟩, 15) := ⟨⟨by decide +kernel, by decide +kernel⟩, List.mem_of_getElem? (i := 12) (by decide +kernel), List.mem_of_getElem? (i := 593) (by decide +kernel), List.mem_of_getElem? (i := 594) (by decide +kernel)⟩
theorem lw_p17 : lw_okq (⟨"FewPlaces", "leaveTrace", "(I)V"⟩, 15) := ⟨⟨by decide +kernel, by decide +kernel⟩, List.mem_of_getElem? (i := 12) (by decide +kernel), List.mem_of_getElem? (i := 597) (by decide +kernel), List.mem_of_getElem? (i := 598) (by decide +kernel)⟩
theorem lw_p18 : lw_okq (⟨"FewPlaces", "tellOfMany", "(I)I"⟩, 15) := ⟨⟨by decide +kernel, by decide +kernel⟩, List.mem_of_getElem? (i := 12) (by decide +kernel), List.mem_of_getElem? (i := 601) (by decide +kernel), List.mem_of_getElem? (i := 602) (by decide +kernel)⟩
theorem lw_p19 : lw_okq (⟨"FewPlaces", "tellAstray", "(I)I"⟩, 15) := ⟨⟨by decide +kernel, by decide +kernel⟩, List.mem_of_getElem? (i := 12) (by decide +kernel), List.mem_of_getElem? (i := 605) (by decide +kernel), List.mem_of_getElem? (i := 606) (by decide +kernel)⟩
theorem lw_p20 : lw_okq (⟨"FewPlaces", "countLent", "(I)I"⟩, 15) := ⟨⟨by decide +kernel, by decide +kernel⟩, List.mem_of_getElem? (i := 12) (by decide +kernel), List.mem_of_getElem? (i := 613) (by decide +kernel), List.mem_of_getElem? (i := 614) (by decide +kernel)⟩
theorem lw_p21 : lw_okq (⟨"FewPlaces", "countAstray", "()I"⟩, 15) := ⟨⟨by decide +kernel, by decide +kernel⟩, List.mem_of_getElem? (i := 12) (by decide +kernel), List.mem_of_getElem? (i := 617) (by decide +kernel), List.mem_of_getElem? (i := 618) (by decide +kernel)⟩
theorem lw_p22 : lw_okq (⟨"FewPlaces", "howManyKept", "()I"⟩, 15) := ⟨⟨by decide +kernel, by decide +kernel⟩, List.mem_of_getElem? (i := 12) (by decide +kernel), List.mem_of_getElem? (i := 637) (by decide +kernel), List.mem_of_getElem? (i := 638) (by decide +kernel)⟩
theorem lw_p23 : lw_okq (⟨"FewPlacesModel", "momentOf", "(II)V"⟩, 40) := ⟨⟨by decide +kernel, by decide +kernel⟩, List.mem_of_getElem? (i := 641) (by decide +kernel), List.mem_of_getElem? (i := 789) (by decide +kernel), List.mem_of_getElem? (i := 790) (by decide +kernel)⟩
theorem lw_p24 : lw_okq (⟨"FewPlacesModel", "fraction", "(JJ)V"⟩, 40) := ⟨⟨by decide +kernel, by decide +kernel⟩, List.mem_of_getElem? (i := 641) (by decide +kernel), List.mem_of_getElem? (i := 793) (by decide +kernel), List.mem_of_getElem? (i := 794) (by decide +kernel)⟩
theorem lw_p25 : lw_okq (⟨"FewPlacesModel", "part", "(I)J"⟩, 40) := ⟨⟨by decide +kernel, by decide +kernel⟩, List.mem_of_getElem? (i := 641) (by decide +kernel), List.mem_of_getElem? (i := 807) (by decide +kernel), List.mem_of_getElem? (i := 808) (by decide +kernel)⟩
theorem lw_p26 : lw_okq (⟨"FewPlacesModel", "sumOf", "(II)V"⟩, 40) := ⟨⟨by decide +kernel, by decide +kernel⟩, List.mem_of_getElem? (i := 641) (by decide +kernel), List.mem_of_getElem? (i := 815) (by decide +kernel), List.mem_of_getElem? (i := 816) (by decide +kernel)⟩
theorem lw_p27 : lw_okq (⟨"FewPlacesModel", "errorOf", "(II)V"⟩, 40) := ⟨⟨by decide +kernel, by decide +kernel⟩, List.mem_of_getElem? (i := 641) (by decide +kernel), List.mem_of_getElem? (i := 826) (by decide +kernel), List.mem_of_getElem? (i := 827) (by decide +kernel)⟩
theorem lw_p28 : lw_okq (⟨"FewPlacesModel", "add", "(JJ)V"⟩, 40) := ⟨⟨by decide +kernel, by decide +kernel⟩, List.mem_of_getElem? (i := 641) (by decide +kernel), List.mem_of_getElem? (i := 830) (by decide +kernel), List.mem_of_getElem? (i := 831) (by decide +kernel)⟩
theorem lw_p29 : lw_okq (⟨"FewPlacesModel", "against", "(III)I"⟩, 40) := ⟨⟨by decide +kernel, by decide +kernel⟩, List.mem_of_getElem? (i := 641) (by decide +kernel), List.mem_of_getElem? (i := 838) (by decide +kernel), List.mem_of_getElem? (i := 839) (by decide +kernel)⟩
theorem lw_p30 : lw_okq (⟨"FewPlacesModel", "placeAt", "(II)I"⟩, 40) := ⟨⟨by decide +kernel, by decide +kernel⟩, List.mem_of_getElem? (i := 641) (by decide +kernel), List.mem_of_getElem? (i := 851) (by decide +kernel), List.mem_of_getElem? (i := 852) (by decide +kernel)⟩
theorem lw_p31 : lw_okq (⟨"FewPlacesModel", "lay", "(III)I"⟩, 40) := ⟨⟨by decide +kernel, by decide +kernel⟩, List.mem_of_getElem? (i := 641) (by decide +kernel), List.mem_of_getElem? (i := 855) (by decide +kernel), List.mem_of_getElem? (i := 856) (by decide +kernel)⟩
def lw_privs_2 : List (MethodName × Nat) := [(⟨"FewPlaces", "tellAlone", "(I)I"⟩, 15), (⟨"FewPlaces", "leaveTrace", "(I)V"⟩, 15), (⟨"FewPlaces", "tellOfMany", "(I)I"⟩, 15), (⟨"FewPlaces", "tellAstray", "(I)I"⟩, 15), (⟨"FewPlaces", "countLent", "(I)I"⟩, 15), (⟨"FewPlaces", "countAstray", "()I"⟩, 15), (⟨"FewPlaces", "howManyKept", "()I"⟩, 15), (⟨"FewPlacesModel", "momentOf", "(II)V"⟩, 40), (⟨"FewPlacesModel", "fraction", "(JJ)V"⟩, 40), (⟨"FewPlacesModel", "part", "(I)J"⟩, 40), (⟨"FewPlacesModel", "sumOf", "(II)V"⟩, 40), (⟨"FewPlacesModel", "errorOf", "(II)V"⟩, 40), (⟨"FewPlacesModel", "add", "(JJ)V"⟩, 40), (⟨"FewPlacesModel", "against", "(III)I"⟩, 40), (⟨"FewPlacesModel", "placeAt", "(II)I"⟩, 40), (⟨"FewPlacesModel", "lay", "(III)I"⟩, 40)]
theorem lw_r2 : ∀ q ∈ lw_privs_2, lw_okq q := List.forall_mem_cons.mpr ⟨lw_p16, List.forall_mem_cons.mpr ⟨lw_p17, List.forall_mem_cons.mpr ⟨lw_p18, List.forall_mem_cons.mpr ⟨lw_p19, List.forall_mem_cons.mpr ⟨lw_p20, List.forall_mem_cons.mpr ⟨lw_p21, List.forall_mem_cons.mpr ⟨lw_p22, List.forall_mem_cons.mpr ⟨lw_p23, List.forall_mem_cons.mpr ⟨lw_p24, List.forall_mem_cons.mpr ⟨lw_p25, List.forall_mem_cons.mpr ⟨lw_p26, List.forall_mem_cons.mpr ⟨lw_p27, List.forall_mem_cons.mpr ⟨lw_p28, List.forall_mem_cons.mpr ⟨lw_p29, List.forall_mem_cons.mpr ⟨lw_p30, List.forall_mem_cons.mpr ⟨lw_p31, fun _ h => absurd h List.not_mem_nil⟩⟩⟩⟩⟩⟩⟩⟩⟩⟩⟩⟩⟩⟩⟩⟩
theorem lw_p32 : lw_okq (⟨"FewPlacesModel", "findOrbit", "(III)V"⟩, 40) := ⟨⟨by decide +kernel, by decide +kernel⟩, List.mem_of_getElem? (i := 641) (by decide +kernel), List.mem_of_getElem? (i := 863) (by decide +kernel), List.mem_of_getElem? (i := 864) (by decide +kernel)⟩
theorem lw_p33 : lw_okq (⟨"FewPlacesModel", "take", "(II)V"⟩, 40) := ⟨⟨by decide +kernel, by decide +kernel⟩, List.mem_of_getElem? (i := 641) (by decide +kernel), List.mem_of_getElem? (i := 867) (by decide +kernel), List.mem_of_getElem? (i := 868) (by decide +kernel)⟩
theorem lw_p34 : lw_okq (⟨"FewPlacesModel", "fails", "(I)I"⟩, 40) := ⟨⟨by decide +kernel, by decide +kernel⟩, List.mem_of_getElem? (i := 641) (by decide +kernel), List.mem_of_getElem? (i := 876) (by decide +kernel), List.mem_of_getElem? (i := 877) (by decide +kernel)⟩
theorem lw_p35 : lw_okq (⟨"FewPlacesModel", "isPlace", "(I)Z"⟩, 40) := ⟨⟨by decide +kernel, by decide +kernel⟩, List.mem_of_getElem? (i := 641) (by decide +kernel), List.mem_of_getElem? (i := 884) (by decide +kernel), List.mem_of_getElem? (i := 885) (by decide +kernel)⟩
theorem lw_p36 : lw_okq (⟨"FewPlacesModel", "orbitSize", "(I)I"⟩, 40) := ⟨⟨by decide +kernel, by decide +kernel⟩, List.mem_of_getElem? (i := 641) (by decide +kernel), List.mem_of_getElem? (i := 892) (by decide +kernel), List.mem_of_getElem? (i := 893) (by decide +kernel)⟩
theorem lw_p37 : lw_okq (⟨"FewPlacesModel", "isInside", "(I)Z"⟩, 40) := ⟨⟨by decide +kernel, by decide +kernel⟩, List.mem_of_getElem? (i := 641) (by decide +kernel), List.mem_of_getElem? (i := 896) (by decide +kernel), List.mem_of_getElem? (i := 897) (by decide +kernel)⟩
theorem lw_p38 : lw_okq (⟨"FewPlacesModel", "isIn", "(III)Z"⟩, 40) := ⟨⟨by decide +kernel, by decide +kernel⟩, List.mem_of_getElem? (i := 641) (by decide +kernel), List.mem_of_getElem? (i := 900) (by decide +kernel), List.mem_of_getElem? (i := 901) (by decide +kernel)⟩
theorem lw_p39 : lw_okq (⟨"FewPlacesModel", "isRight", "(I)Z"⟩, 40) := ⟨⟨by decide +kernel, by decide +kernel⟩, List.mem_of_getElem? (i := 641) (by decide +kernel), List.mem_of_getElem? (i := 908) (by decide +kernel), List.mem_of_getElem? (i := 909) (by decide +kernel)⟩
theorem lw_p40 : lw_okq (⟨"FewPlacesModel", "isEven", "(I)Z"⟩, 40) := ⟨⟨by decide +kernel, by decide +kernel⟩, List.mem_of_getElem? (i := 641) (by decide +kernel), List.mem_of_getElem? (i := 920) (by decide +kernel), List.mem_of_getElem? (i := 921) (by decide +kernel)⟩
theorem lw_p41 : lw_okq (⟨"FewPlacesModel", "putAside", "()V"⟩, 40) := ⟨⟨by decide +kernel, by decide +kernel⟩, List.mem_of_getElem? (i := 641) (by decide +kernel), List.mem_of_getElem? (i := 942) (by decide +kernel), List.mem_of_getElem? (i := 943) (by decide +kernel)⟩
theorem lw_p42 : lw_okq (⟨"FewPlacesModel", "findReps", "(I)V"⟩, 40) := ⟨⟨by decide +kernel, by decide +kernel⟩, List.mem_of_getElem? (i := 641) (by decide +kernel), List.mem_of_getElem? (i := 946) (by decide +kernel), List.mem_of_getElem? (i := 947) (by decide +kernel)⟩
theorem lw_p43 : lw_okq (⟨"FewPlacesModel", "farOf", "(III)I"⟩, 40) := ⟨⟨by decide +kernel, by decide +kernel⟩, List.mem_of_getElem? (i := 641) (by decide +kernel), List.mem_of_getElem? (i := 950) (by decide +kernel), List.mem_of_getElem? (i := 951) (by decide +kernel)⟩
theorem lw_p44 : lw_okq (⟨"FewPlacesModel", "haveWeights", "(III)Z"⟩, 40) := ⟨⟨by decide +kernel, by decide +kernel⟩, List.mem_of_getElem? (i := 641) (by decide +kernel), List.mem_of_getElem? (i := 954) (by decide +kernel), List.mem_of_getElem? (i := 955) (by decide +kernel)⟩
theorem lw_p45 : lw_okq (⟨"FewPlacesModel", "layPair", "(III)V"⟩, 40) := ⟨⟨by decide +kernel, by decide +kernel⟩, List.mem_of_getElem? (i := 641) (by decide +kernel), List.mem_of_getElem? (i := 959) (by decide +kernel), List.mem_of_getElem? (i := 960) (by decide +kernel)⟩
theorem lw_p46 : lw_okq (⟨"FewPlacesModel", "takeBack", "()V"⟩, 40) := ⟨⟨by decide +kernel, by decide +kernel⟩, List.mem_of_getElem? (i := 641) (by decide +kernel), List.mem_of_getElem? (i := 963) (by decide +kernel), List.mem_of_getElem? (i := 964) (by decide +kernel)⟩
theorem lw_p47 : lw_okq (⟨"FewPlacesModel", "valueAt", "(JJJ)J"⟩, 40) := ⟨⟨by decide +kernel, by decide +kernel⟩, List.mem_of_getElem? (i := 641) (by decide +kernel), List.mem_of_getElem? (i := 985) (by decide +kernel), List.mem_of_getElem? (i := 986) (by decide +kernel)⟩
def lw_privs_3 : List (MethodName × Nat) := [(⟨"FewPlacesModel", "findOrbit", "(III)V"⟩, 40), (⟨"FewPlacesModel", "take", "(II)V"⟩, 40), (⟨"FewPlacesModel", "fails", "(I)I"⟩, 40), (⟨"FewPlacesModel", "isPlace", "(I)Z"⟩, 40), (⟨"FewPlacesModel", "orbitSize", "(I)I"⟩, 40), (⟨"FewPlacesModel", "isInside", "(I)Z"⟩, 40), (⟨"FewPlacesModel", "isIn", "(III)Z"⟩, 40), (⟨"FewPlacesModel", "isRight", "(I)Z"⟩, 40), (⟨"FewPlacesModel", "isEven", "(I)Z"⟩, 40), (⟨"FewPlacesModel", "putAside", "()V"⟩, 40), (⟨"FewPlacesModel", "findReps", "(I)V"⟩, 40), (⟨"FewPlacesModel", "farOf", "(III)I"⟩, 40), (⟨"FewPlacesModel", "haveWeights", "(III)Z"⟩, 40), (⟨"FewPlacesModel", "layPair", "(III)V"⟩, 40), (⟨"FewPlacesModel", "takeBack", "()V"⟩, 40), (⟨"FewPlacesModel", "valueAt", "(JJJ)J"⟩, 40)]
theorem lw_r3 : ∀ q ∈ lw_privs_3, lw_okq q := List.forall_mem_cons.mpr ⟨lw_p32, List.forall_mem_cons.mpr ⟨lw_p33, List.forall_mem_cons.mpr ⟨lw_p34, List.forall_mem_cons.mpr ⟨lw_p35, List.forall_mem_cons.mpr ⟨lw_p36, List.forall_mem_cons.mpr ⟨lw_p37, List.forall_mem_cons.mpr ⟨lw_p38, List.forall_mem_cons.mpr ⟨lw_p39, List.forall_mem_cons.mpr ⟨lw_p40, List.forall_mem_cons.mpr ⟨lw_p41, List.forall_mem_cons.mpr ⟨lw_p42, List.forall_mem_cons.mpr ⟨lw_p43, List.forall_mem_cons.mpr ⟨lw_p44, List.forall_mem_cons.mpr ⟨lw_p45, List.forall_mem_cons.mpr ⟨lw_p46, List.forall_mem_cons.mpr ⟨lw_p47, fun _ h => absurd h List.not_mem_nil⟩⟩⟩⟩⟩⟩⟩⟩⟩⟩⟩⟩⟩⟩⟩⟩
theorem lw_p48 : lw_okq (⟨"FewPlacesModel", "lost", "(I)J"⟩, 40) := ⟨⟨by decide +kernel, by decide +kernel⟩, List.mem_of_getElem? (i := 641) (by decide +kernel), List.mem_of_getElem? (i := 1005) (by decide +kernel), List.mem_of_getElem? (i := 1006) (by decide +kernel)⟩
theorem lw_p49 : lw_okq (⟨"FewPlacesModel", "begins", "(I)V"⟩, 40) := ⟨⟨by decide +kernel, by decide +kernel⟩, List.mem_of_getElem? (i := 641) (by decide +kernel), List.mem_of_getElem? (i := 1013) (by decide +kernel), List.mem_of_getElem? (i := 1014) (by decide +kernel)⟩
def lw_privs_4 : List (MethodName × Nat) := [(⟨"FewPlacesModel", "lost", "(I)J"⟩, 40), (⟨"FewPlacesModel", "begins", "(I)V"⟩, 40)]
theorem lw_r4 : ∀ q ∈ lw_privs_4, lw_okq q := List.forall_mem_cons.mpr ⟨lw_p48, List.forall_mem_cons.mpr ⟨lw_p49, fun _ h => absurd h List.not_mem_nil⟩⟩
def lw_privs : List (MethodName × Nat) := lw_privs_1 ++ (lw_privs_2 ++ (lw_privs_3 ++ (lw_privs_4)))
def lw_tbl : List Cond := k2_sels lw_privs ++ tables_1
theorem lw_privs_ok : ∀ q ∈ lw_privs, lw_okq q := by
  show ∀ q ∈ lw_privs_1 ++ (lw_privs_2 ++ (lw_privs_3 ++ (lw_privs_4))), lw_okq q
  exact List.forall_mem_append.mpr ⟨lw_r1, List.forall_mem_append.mpr ⟨lw_r2, List.forall_mem_append.mpr ⟨lw_r3, lw_r4⟩⟩⟩
/-! ===== BEGIN printed: names, fields, word lists, decode rows ===== -/
def RX0 : String := "FewPlaces$Fraction"
def TX0 : u_T := fun k => match k with
  | 0 => ("FewPlaces$Fraction", "upper", "J", false)
  | _ => ("FewPlaces$Fraction", "lower", "J", false)
def tyX0 : Nat → FieldType := fun k => match k with
  | 0 => .long
  | _ => .long
abbrev wsX00 : List Cond := u_ws RX0 TX0 2
theorem nmX0 : ∀ a, a < 2 → ∀ b, b < 2 → a ≠ b → (TX0 a).2.1 ≠ (TX0 b).2.1 := by decide +kernel
theorem tyX0_ok : ∀ k, k < 2 → parseFieldDescriptor (TX0 k).2.2.1 = some (tyX0 k) := by decide +kernel
abbrev cX0_init : ByteArray := prog_2_method_1_code
def yX0_init : MethodName := ⟨RX0, "<init>", "()V"⟩
abbrev cX0_become : ByteArray := prog_2_method_2_code
def yX0_become : MethodName := ⟨RX0, "become", "(JJ)V"⟩
abbrev cX0_addTimes : ByteArray := prog_2_method_3_code
def yX0_addTimes : MethodName := ⟨RX0, "addTimes", "(JLFewPlaces$Fraction;)V"⟩
abbrev cX0_becomeMoment : ByteArray := prog_2_method_4_code
def yX0_becomeMoment : MethodName := ⟨RX0, "becomeMoment", "(III)V"⟩
abbrev cX0_showing : ByteArray := prog_2_method_5_code
def yX0_showing : MethodName := ⟨RX0, "showing", "(I)J"⟩
def RX1 : String := "FewPlaces$Grid"
def TX1 : u_T := fun k => match k with
  | 0 => ("FewPlaces$Grid", "domain", "I", false)
  | 1 => ("FewPlaces$Grid", "q", "I", false)
  | 2 => ("FewPlaces$Grid", "size", "I", false)
  | 3 => ("FewPlaces$Grid", "xs", "[I", true)
  | 4 => ("FewPlaces$Grid", "ys", "[I", true)
  | 5 => ("FewPlaces$Grid", "counts", "[I", true)
  | 6 => ("FewPlaces$Grid", "radii", "[I", true)
  | 7 => ("FewPlaces$Grid", "powerSums", "[[J", true)
  | 8 => ("FewPlaces$Grid", "dueUpper", "[J", true)
  | 9 => ("FewPlaces$Grid", "dueLower", "[J", true)
  | 10 => ("FewPlaces$Grid", "powersOfX", "[J", true)
  | 11 => ("FewPlaces$Grid", "powersOfY", "[J", true)
  | 12 => ("FewPlaces$Grid", "one", "LFewPlaces$Fraction;", true)
  | 13 => ("FewPlaces$Grid", "other", "LFewPlaces$Fraction;", true)
  | 14 => ("FewPlaces$Grid", "firstWeight", "J", false)
  | 15 => ("FewPlaces$Grid", "secondWeight", "J", false)
  | 16 => ("FewPlaces$Grid", "lower", "J", false)
  | 17 => ("FewPlaces$Grid", "bestFirst", "I", false)
  | _ => ("FewPlaces$Grid", "bestSecond", "I", false)
def tyX1 : Nat → FieldType := fun k => match k with
  | 0 => .int
  | 1 => .int
  | 2 => .int
  | 3 => .array .int
  | 4 => .array .int
  | 5 => .array .int
  | 6 => .array .int
  | 7 => .array (.array .long)
  | 8 => .array .long
  | 9 => .array .long
  | 10 => .array .long
  | 11 => .array .long
  | 12 => .object "FewPlaces$Fraction"
  | 13 => .object "FewPlaces$Fraction"
  | 14 => .long
  | 15 => .long
  | 16 => .long
  | 17 => .int
  | _ => .int
abbrev wsX10 : List Cond := u_ws RX1 TX1 19
theorem nmX1 : ∀ a, a < 19 → ∀ b, b < 19 → a ≠ b → (TX1 a).2.1 ≠ (TX1 b).2.1 := by decide +kernel
theorem tyX1_ok : ∀ k, k < 19 → parseFieldDescriptor (TX1 k).2.2.1 = some (tyX1 k) := by decide +kernel
abbrev cX1_init : ByteArray := prog_3_method_1_code
def yX1_init : MethodName := ⟨RX1, "<init>", "()V"⟩
abbrev cX1_gather : ByteArray := prog_3_method_2_code
def yX1_gather : MethodName := ⟨RX1, "gather", "(IILFewPlaces$Orbit;)V"⟩
abbrev cX1_isLeastOfOrbit : ByteArray := prog_3_method_3_code
def yX1_isLeastOfOrbit : MethodName := ⟨RX1, "isLeastOfOrbit", "(II)Z"⟩
abbrev cX1_append : ByteArray := prog_3_method_4_code
def yX1_append : MethodName := ⟨RX1, "append", "(IILFewPlaces$Orbit;)V"⟩
abbrev cX1_addPowers : ByteArray := prog_3_method_5_code
def yX1_addPowers : MethodName := ⟨RX1, "addPowers", "([JII)V"⟩
abbrev cX1_findFewest : ByteArray := prog_3_method_6_code
def yX1_findFewest : MethodName := ⟨RX1, "findFewest", "(I)Z"⟩
abbrev cX1_weigh : ByteArray := prog_3_method_7_code
def yX1_weigh : MethodName := ⟨RX1, "weigh", "(II)Z"⟩
abbrev cX1_bringToOneLower : ByteArray := prog_3_method_8_code
def yX1_bringToOneLower : MethodName := ⟨RX1, "bringToOneLower", "()Z"⟩
abbrev cX1_isRightUpTo : ByteArray := prog_3_method_9_code
def yX1_isRightUpTo : MethodName := ⟨RX1, "isRightUpTo", "(III)Z"⟩
def RX2 : String := "FewPlaces$Orbit"
def TX2 : u_T := fun k => match k with
  | 0 => ("FewPlaces$Orbit", "xs", "[I", true)
  | 1 => ("FewPlaces$Orbit", "ys", "[I", true)
  | _ => ("FewPlaces$Orbit", "size", "I", false)
def tyX2 : Nat → FieldType := fun k => match k with
  | 0 => .array .int
  | 1 => .array .int
  | _ => .int
abbrev wsX20 : List Cond := u_ws RX2 TX2 3
theorem nmX2 : ∀ a, a < 3 → ∀ b, b < 3 → a ≠ b → (TX2 a).2.1 ≠ (TX2 b).2.1 := by decide +kernel
theorem tyX2_ok : ∀ k, k < 3 → parseFieldDescriptor (TX2 k).2.2.1 = some (tyX2 k) := by decide +kernel
abbrev cX2_init : ByteArray := prog_4_method_1_code
def yX2_init : MethodName := ⟨RX2, "<init>", "()V"⟩
abbrev cX2_gather : ByteArray := prog_4_method_2_code
def yX2_gather : MethodName := ⟨RX2, "gather", "(IIII)V"⟩
abbrev cX2_insertBothWays : ByteArray := prog_4_method_3_code
def yX2_insertBothWays : MethodName := ⟨RX2, "insertBothWays", "(II)V"⟩
abbrev cX2_insert : ByteArray := prog_4_method_4_code
def yX2_insert : MethodName := ⟨RX2, "insert", "(II)V"⟩
abbrev cX2_isAhead : ByteArray := prog_4_method_5_code
def yX2_isAhead : MethodName := ⟨RX2, "isAhead", "(III)Z"⟩
def RX3 : String := "FewPlaces$Rule"
def TX3 : u_T := fun k => match k with
  | 0 => ("FewPlaces$Rule", "domain", "I", false)
  | 1 => ("FewPlaces$Rule", "q", "I", false)
  | 2 => ("FewPlaces$Rule", "w", "I", false)
  | 3 => ("FewPlaces$Rule", "size", "I", false)
  | 4 => ("FewPlaces$Rule", "xs", "[I", true)
  | 5 => ("FewPlaces$Rule", "ys", "[I", true)
  | _ => ("FewPlaces$Rule", "weights", "[I", true)
def tyX3 : Nat → FieldType := fun k => match k with
  | 0 => .int
  | 1 => .int
  | 2 => .int
  | 3 => .int
  | 4 => .array .int
  | 5 => .array .int
  | _ => .array .int
abbrev wsX30 : List Cond := u_ws RX3 TX3 7
theorem nmX3 : ∀ a, a < 7 → ∀ b, b < 7 → a ≠ b → (TX3 a).2.1 ≠ (TX3 b).2.1 := by decide +kernel
theorem tyX3_ok : ∀ k, k < 7 → parseFieldDescriptor (TX3 k).2.2.1 = some (tyX3 k) := by decide +kernel
abbrev cX3_init : ByteArray := prog_5_method_1_code
def yX3_init : MethodName := ⟨RX3, "<init>", "()V"⟩
abbrev cX3_startAnew : ByteArray := prog_5_method_2_code
def yX3_startAnew : MethodName := ⟨RX3, "startAnew", "(III)V"⟩
abbrev cX3_copyFrom : ByteArray := prog_5_method_3_code
def yX3_copyFrom : MethodName := ⟨RX3, "copyFrom", "(LFewPlaces$Rule;)V"⟩
abbrev cX3_has : ByteArray := prog_5_method_4_code
def yX3_has : MethodName := ⟨RX3, "has", "(I)Z"⟩
abbrev cX3_isWithin : ByteArray := prog_5_method_5_code
def yX3_isWithin : MethodName := ⟨RX3, "isWithin", "(I)Z"⟩
abbrev cX3_numberOf : ByteArray := prog_5_method_6_code
def yX3_numberOf : MethodName := ⟨RX3, "numberOf", "(II)I"⟩
abbrev cX3_refusalOutside : ByteArray := prog_5_method_7_code
def yX3_refusalOutside : MethodName := ⟨RX3, "refusalOutside", "(III)I"⟩
abbrev cX3_add : ByteArray := prog_5_method_8_code
def yX3_add : MethodName := ⟨RX3, "add", "(III)I"⟩
abbrev cX3_addAll : ByteArray := prog_5_method_9_code
def yX3_addAll : MethodName := ⟨RX3, "addAll", "(LFewPlaces$Orbit;I)V"⟩
abbrev cX3_takeOut : ByteArray := prog_5_method_10_code
def yX3_takeOut : MethodName := ⟨RX3, "takeOut", "(I)V"⟩
abbrev cX3_weighedPowers : ByteArray := prog_5_method_11_code
def yX3_weighedPowers : MethodName := ⟨RX3, "weighedPowers", "(II)J"⟩
def RX4 : String := "FewPlaces$Sheet"
def TX4 : u_T := fun k => match k with
  | 0 => ("FewPlaces$Sheet", "lane", "I", false)
  | 1 => ("FewPlaces$Sheet", "length", "I", false)
  | _ => ("FewPlaces$Sheet", "cells", "[I", true)
def tyX4 : Nat → FieldType := fun k => match k with
  | 0 => .int
  | 1 => .int
  | _ => .array .int
abbrev wsX40 : List Cond := u_ws RX4 TX4 3
theorem nmX4 : ∀ a, a < 3 → ∀ b, b < 3 → a ≠ b → (TX4 a).2.1 ≠ (TX4 b).2.1 := by decide +kernel
theorem tyX4_ok : ∀ k, k < 3 → parseFieldDescriptor (TX4 k).2.2.1 = some (tyX4 k) := by decide +kernel
abbrev cX4_init : ByteArray := prog_6_method_1_code
def yX4_init : MethodName := ⟨RX4, "<init>", "()V"⟩
abbrev cX4_renew : ByteArray := prog_6_method_2_code
def yX4_renew : MethodName := ⟨RX4, "renew", "(II)V"⟩
abbrev cX4_empty : ByteArray := prog_6_method_3_code
def yX4_empty : MethodName := ⟨RX4, "empty", "()V"⟩
abbrev cX4_hasNothing : ByteArray := prog_6_method_4_code
def yX4_hasNothing : MethodName := ⟨RX4, "hasNothing", "()Z"⟩
abbrev cX4_isOfOtherLane : ByteArray := prog_6_method_5_code
def yX4_isOfOtherLane : MethodName := ⟨RX4, "isOfOtherLane", "(I)Z"⟩
abbrev cX4_hasCells : ByteArray := prog_6_method_6_code
def yX4_hasCells : MethodName := ⟨RX4, "hasCells", "(IJ)Z"⟩
abbrev cX4_write : ByteArray := prog_6_method_7_code
def yX4_write : MethodName := ⟨RX4, "write", "(II)V"⟩
def RX5 : String := "FewPlaces"
def TX5 : u_T := fun k => match k with
  | 0 => ("FewPlaces", "rule", "LFewPlaces$Rule;", true)
  | 1 => ("FewPlaces", "trial", "LFewPlaces$Rule;", true)
  | 2 => ("FewPlaces", "turned", "LFewPlaces$Orbit;", true)
  | 3 => ("FewPlaces", "grid", "LFewPlaces$Grid;", true)
  | 4 => ("FewPlaces", "answer", "LFewPlaces$Fraction;", true)
  | 5 => ("FewPlaces", "part", "LFewPlaces$Fraction;", true)
  | 6 => ("FewPlaces", "keptRules", "[LFewPlaces$Rule;", true)
  | 7 => ("FewPlaces", "isKept", "[Z", true)
  | 8 => ("FewPlaces", "coefficients", "[I", true)
  | 9 => ("FewPlaces", "powersOfX", "[J", true)
  | 10 => ("FewPlaces", "powersOfY", "[J", true)
  | 11 => ("FewPlaces", "powersOfLower", "[J", true)
  | 12 => ("FewPlaces", "sheets", "[LFewPlaces$Sheet;", true)
  | 13 => ("FewPlaces", "traced", "I", false)
  | _ => ("FewPlaces", "latestFault", "I", false)
def tyX5 : Nat → FieldType := fun k => match k with
  | 0 => .object "FewPlaces$Rule"
  | 1 => .object "FewPlaces$Rule"
  | 2 => .object "FewPlaces$Orbit"
  | 3 => .object "FewPlaces$Grid"
  | 4 => .object "FewPlaces$Fraction"
  | 5 => .object "FewPlaces$Fraction"
  | 6 => .array (.object "FewPlaces$Rule")
  | 7 => .array .boolean
  | 8 => .array .int
  | 9 => .array .long
  | 10 => .array .long
  | 11 => .array .long
  | 12 => .array (.object "FewPlaces$Sheet")
  | 13 => .int
  | _ => .int
abbrev wsX50 : List Cond := u_ws RX5 TX5 15
theorem nmX5 : ∀ a, a < 15 → ∀ b, b < 15 → a ≠ b → (TX5 a).2.1 ≠ (TX5 b).2.1 := by decide +kernel
theorem tyX5_ok : ∀ k, k < 15 → parseFieldDescriptor (TX5 k).2.2.1 = some (tyX5 k) := by decide +kernel
abbrev cX5_init : ByteArray := prog_1_method_1_code
def yX5_init : MethodName := ⟨RX5, "<init>", "()V"⟩
abbrev cX5_begin : ByteArray := prog_1_method_2_code
def yX5_begin : MethodName := ⟨RX5, "begin", "(III)I"⟩
abbrev cX5_moment : ByteArray := prog_1_method_3_code
def yX5_moment : MethodName := ⟨RX5, "moment", "(III)J"⟩
abbrev cX5_place : ByteArray := prog_1_method_4_code
def yX5_place : MethodName := ⟨RX5, "place", "(III)I"⟩
abbrev cX5_orbit : ByteArray := prog_1_method_5_code
def yX5_orbit : MethodName := ⟨RX5, "orbit", "(III)I"⟩
abbrev cX5_places : ByteArray := prog_1_method_6_code
def yX5_places : MethodName := ⟨RX5, "places", "(IIII)I"⟩
abbrev cX5_drop : ByteArray := prog_1_method_7_code
def yX5_drop : MethodName := ⟨RX5, "drop", "(I)I"⟩
abbrev cX5_about : ByteArray := prog_1_method_8_code
def yX5_about : MethodName := ⟨RX5, "about", "(II)I"⟩
abbrev cX5_sum : ByteArray := prog_1_method_9_code
def yX5_sum : MethodName := ⟨RX5, "sum", "(III)J"⟩
abbrev cX5_error : ByteArray := prog_1_method_10_code
def yX5_error : MethodName := ⟨RX5, "error", "(III)J"⟩
abbrev cX5_degree : ByteArray := prog_1_method_11_code
def yX5_degree : MethodName := ⟨RX5, "degree", "()I"⟩
abbrev cX5_first : ByteArray := prog_1_method_12_code
def yX5_first : MethodName := ⟨RX5, "first", "(I)I"⟩
abbrev cX5_is : ByteArray := prog_1_method_13_code
def yX5_is : MethodName := ⟨RX5, "is", "(I)I"⟩
abbrev cX5_least : ByteArray := prog_1_method_14_code
def yX5_least : MethodName := ⟨RX5, "least", "(I)I"⟩
abbrev cX5_keep : ByteArray := prog_1_method_15_code
def yX5_keep : MethodName := ⟨RX5, "keep", "(I)I"⟩
abbrev cX5_load : ByteArray := prog_1_method_16_code
def yX5_load : MethodName := ⟨RX5, "load", "(I)I"⟩
abbrev cX5_pair : ByteArray := prog_1_method_17_code
def yX5_pair : MethodName := ⟨RX5, "pair", "(II)I"⟩
abbrev cX5_term : ByteArray := prog_1_method_18_code
def yX5_term : MethodName := ⟨RX5, "term", "(II)J"⟩
abbrev cX5_whole : ByteArray := prog_1_method_19_code
def yX5_whole : MethodName := ⟨RX5, "whole", "(I)J"⟩
abbrev cX5_byRule : ByteArray := prog_1_method_20_code
def yX5_byRule : MethodName := ⟨RX5, "byRule", "(II)J"⟩
abbrev cX5_sheet : ByteArray := prog_1_method_21_code
def yX5_sheet : MethodName := ⟨RX5, "sheet", "(III)I"⟩
abbrev cX5_lose : ByteArray := prog_1_method_22_code
def yX5_lose : MethodName := ⟨RX5, "lose", "(I)I"⟩
abbrev cX5_put : ByteArray := prog_1_method_23_code
def yX5_put : MethodName := ⟨RX5, "put", "(III)I"⟩
abbrev cX5_at : ByteArray := prog_1_method_24_code
def yX5_at : MethodName := ⟨RX5, "at", "(III)J"⟩
abbrev cX5_tell : ByteArray := prog_1_method_25_code
def yX5_tell : MethodName := ⟨RX5, "tell", "(I)I"⟩
abbrev cX5_count : ByteArray := prog_1_method_26_code
def yX5_count : MethodName := ⟨RX5, "count", "(I)I"⟩
abbrev cX5_as : ByteArray := prog_1_method_27_code
def yX5_as : MethodName := ⟨RX5, "as", "(II)I"⟩
abbrev cX5_trace : ByteArray := prog_1_method_28_code
def yX5_trace : MethodName := ⟨RX5, "trace", "()I"⟩
abbrev cX5_fault : ByteArray := prog_1_method_29_code
def yX5_fault : MethodName := ⟨RX5, "fault", "()I"⟩
abbrev cX5_told : ByteArray := prog_1_method_30_code
def yX5_told : MethodName := ⟨RX5, "told", "(I)I"⟩
abbrev cX5_isFrom : ByteArray := prog_1_method_31_code
def yX5_isFrom : MethodName := ⟨RX5, "isFrom", "(III)Z"⟩
abbrev cX5_arePowers : ByteArray := prog_1_method_32_code
def yX5_arePowers : MethodName := ⟨RX5, "arePowers", "(II)Z"⟩
abbrev cX5_power : ByteArray := prog_1_method_33_code
def yX5_power : MethodName := ⟨RX5, "power", "(JI)J"⟩
abbrev cX5_fillPowers : ByteArray := prog_1_method_34_code
def yX5_fillPowers : MethodName := ⟨RX5, "fillPowers", "(J[J)V"⟩
abbrev cX5_commonDivisor : ByteArray := prog_1_method_35_code
def yX5_commonDivisor : MethodName := ⟨RX5, "commonDivisor", "(JJ)J"⟩
abbrev cX5_liesIn : ByteArray := prog_1_method_36_code
def yX5_liesIn : MethodName := ⟨RX5, "liesIn", "(IIII)Z"⟩
abbrev cX5_failed : ByteArray := prog_1_method_37_code
def yX5_failed : MethodName := ⟨RX5, "failed", "(I)I"⟩
abbrev cX5_refusalOfOrbit : ByteArray := prog_1_method_38_code
def yX5_refusalOfOrbit : MethodName := ⟨RX5, "refusalOfOrbit", "(I)I"⟩
abbrev cX5_addFrom : ByteArray := prog_1_method_39_code
def yX5_addFrom : MethodName := ⟨RX5, "addFrom", "(LFewPlaces$Sheet;II)I"⟩
abbrev cX5_sizeOfOrbit : ByteArray := prog_1_method_40_code
def yX5_sizeOfOrbit : MethodName := ⟨RX5, "sizeOfOrbit", "(I)I"⟩
abbrev cX5_findSum : ByteArray := prog_1_method_41_code
def yX5_findSum : MethodName := ⟨RX5, "findSum", "(II)V"⟩
abbrev cX5_findError : ByteArray := prog_1_method_42_code
def yX5_findError : MethodName := ⟨RX5, "findError", "(II)V"⟩
abbrev cX5_firstWrongTerm : ByteArray := prog_1_method_43_code
def yX5_firstWrongTerm : MethodName := ⟨RX5, "firstWrongTerm", "()I"⟩
abbrev cX5_areAllWithin : ByteArray := prog_1_method_44_code
def yX5_areAllWithin : MethodName := ⟨RX5, "areAllWithin", "()Z"⟩
abbrev cX5_areAllAbove : ByteArray := prog_1_method_45_code
def yX5_areAllAbove : MethodName := ⟨RX5, "areAllAbove", "()Z"⟩
abbrev cX5_isEven : ByteArray := prog_1_method_46_code
def yX5_isEven : MethodName := ⟨RX5, "isEven", "()Z"⟩
abbrev cX5_isOrbitOfWeight : ByteArray := prog_1_method_47_code
def yX5_isOrbitOfWeight : MethodName := ⟨RX5, "isOrbitOfWeight", "(I)Z"⟩
abbrev cX5_becomePair : ByteArray := prog_1_method_48_code
def yX5_becomePair : MethodName := ⟨RX5, "becomePair", "(II)V"⟩
abbrev cX5_findSumOfCut : ByteArray := prog_1_method_49_code
def yX5_findSumOfCut : MethodName := ⟨RX5, "findSumOfCut", "(I)V"⟩
abbrev cX5_sumMoved : ByteArray := prog_1_method_50_code
def yX5_sumMoved : MethodName := ⟨RX5, "sumMoved", "(II)J"⟩
abbrev cX5_valueAt : ByteArray := prog_1_method_51_code
def yX5_valueAt : MethodName := ⟨RX5, "valueAt", "(II)J"⟩
abbrev cX5_faultOfReading : ByteArray := prog_1_method_52_code
def yX5_faultOfReading : MethodName := ⟨RX5, "faultOfReading", "(LFewPlaces$Sheet;II)I"⟩
abbrev cX5_kindOf : ByteArray := prog_1_method_53_code
def yX5_kindOf : MethodName := ⟨RX5, "kindOf", "(I)I"⟩
abbrev cX5_leaveTrace : ByteArray := prog_1_method_54_code
def yX5_leaveTrace : MethodName := ⟨RX5, "leaveTrace", "(I)V"⟩
abbrev cX5_tellAlone : ByteArray := prog_1_method_55_code
def yX5_tellAlone : MethodName := ⟨RX5, "tellAlone", "(I)I"⟩
abbrev cX5_tellOfMany : ByteArray := prog_1_method_56_code
def yX5_tellOfMany : MethodName := ⟨RX5, "tellOfMany", "(I)I"⟩
abbrev cX5_tellAstray : ByteArray := prog_1_method_57_code
def yX5_tellAstray : MethodName := ⟨RX5, "tellAstray", "(I)I"⟩
abbrev cX5_countLent : ByteArray := prog_1_method_58_code
def yX5_countLent : MethodName := ⟨RX5, "countLent", "(I)I"⟩
abbrev cX5_countAstray : ByteArray := prog_1_method_59_code
def yX5_countAstray : MethodName := ⟨RX5, "countAstray", "()I"⟩
abbrev cX5_howManyKept : ByteArray := prog_1_method_60_code
def yX5_howManyKept : MethodName := ⟨RX5, "howManyKept", "()I"⟩
def RX6 : String := "FewPlacesModel"
def TX6 : u_T := fun k => match k with
  | 0 => ("FewPlacesModel", "fault", "I", false)
  | 1 => ("FewPlacesModel", "trace", "I", false)
  | 2 => ("FewPlacesModel", "up", "J", false)
  | 3 => ("FewPlacesModel", "down", "J", false)
  | 4 => ("FewPlacesModel", "domain", "I", false)
  | 5 => ("FewPlacesModel", "lowerQ", "I", false)
  | 6 => ("FewPlacesModel", "lowerW", "I", false)
  | 7 => ("FewPlacesModel", "places", "I", false)
  | 8 => ("FewPlacesModel", "placeX", "[I", true)
  | 9 => ("FewPlacesModel", "placeY", "[I", true)
  | 10 => ("FewPlacesModel", "weight", "[I", true)
  | 11 => ("FewPlacesModel", "orbitX", "[I", true)
  | 12 => ("FewPlacesModel", "orbitY", "[I", true)
  | 13 => ("FewPlacesModel", "orbitMany", "I", false)
  | 14 => ("FewPlacesModel", "lanes", "[I", true)
  | 15 => ("FewPlacesModel", "sheetLong", "[I", true)
  | 16 => ("FewPlacesModel", "cells", "[I", true)
  | 17 => ("FewPlacesModel", "keptWeight", "[I", true)
  | 18 => ("FewPlacesModel", "keptMany", "[I", true)
  | 19 => ("FewPlacesModel", "keptDomain", "[I", true)
  | 20 => ("FewPlacesModel", "keptQ", "[I", true)
  | 21 => ("FewPlacesModel", "keptW", "[I", true)
  | 22 => ("FewPlacesModel", "keptX", "[I", true)
  | 23 => ("FewPlacesModel", "keptY", "[I", true)
  | 24 => ("FewPlacesModel", "keptWeights", "[I", true)
  | 25 => ("FewPlacesModel", "repX", "[I", true)
  | 26 => ("FewPlacesModel", "repY", "[I", true)
  | 27 => ("FewPlacesModel", "repMany", "[I", true)
  | 28 => ("FewPlacesModel", "repFar", "[I", true)
  | 29 => ("FewPlacesModel", "reps", "I", false)
  | 30 => ("FewPlacesModel", "pairW", "J", false)
  | 31 => ("FewPlacesModel", "pairFirst", "J", false)
  | 32 => ("FewPlacesModel", "pairSecond", "J", false)
  | 33 => ("FewPlacesModel", "hadMany", "I", false)
  | 34 => ("FewPlacesModel", "hadQ", "I", false)
  | 35 => ("FewPlacesModel", "hadW", "I", false)
  | 36 => ("FewPlacesModel", "hadX", "[I", true)
  | 37 => ("FewPlacesModel", "hadY", "[I", true)
  | 38 => ("FewPlacesModel", "hadWeight", "[I", true)
  | _ => ("FewPlacesModel", "coefficient", "[I", true)
def tyX6 : Nat → FieldType := fun k => match k with
  | 0 => .int
  | 1 => .int
  | 2 => .long
  | 3 => .long
  | 4 => .int
  | 5 => .int
  | 6 => .int
  | 7 => .int
  | 8 => .array .int
  | 9 => .array .int
  | 10 => .array .int
  | 11 => .array .int
  | 12 => .array .int
  | 13 => .int
  | 14 => .array .int
  | 15 => .array .int
  | 16 => .array .int
  | 17 => .array .int
  | 18 => .array .int
  | 19 => .array .int
  | 20 => .array .int
  | 21 => .array .int
  | 22 => .array .int
  | 23 => .array .int
  | 24 => .array .int
  | 25 => .array .int
  | 26 => .array .int
  | 27 => .array .int
  | 28 => .array .int
  | 29 => .int
  | 30 => .long
  | 31 => .long
  | 32 => .long
  | 33 => .int
  | 34 => .int
  | 35 => .int
  | 36 => .array .int
  | 37 => .array .int
  | 38 => .array .int
  | _ => .array .int
abbrev wsX60 : List Cond := u_ws RX6 TX6 40
theorem nmX6 : ∀ a, a < 40 → ∀ b, b < 40 → a ≠ b → (TX6 a).2.1 ≠ (TX6 b).2.1 := by decide +kernel
theorem tyX6_ok : ∀ k, k < 40 → parseFieldDescriptor (TX6 k).2.2.1 = some (tyX6 k) := by decide +kernel
abbrev cX6_init : ByteArray := prog_8_method_1_code
def yX6_init : MethodName := ⟨RX6, "<init>", "()V"⟩
abbrev cX6_fails : ByteArray := prog_8_method_3_code
def yX6_fails : MethodName := ⟨RX6, "fails", "(I)I"⟩
abbrev cX6_lost : ByteArray := prog_8_method_4_code
def yX6_lost : MethodName := ⟨RX6, "lost", "(I)J"⟩
abbrev cX6_within : ByteArray := prog_8_method_5_code
def yX6_within : MethodName := ⟨RX6, "within", "(JJJ)Z"⟩
abbrev cX6_size : ByteArray := prog_8_method_6_code
def yX6_size : MethodName := ⟨RX6, "size", "(J)J"⟩
abbrev cX6_common : ByteArray := prog_8_method_7_code
def yX6_common : MethodName := ⟨RX6, "common", "(JJ)J"⟩
abbrev cX6_fraction : ByteArray := prog_8_method_8_code
def yX6_fraction : MethodName := ⟨RX6, "fraction", "(JJ)V"⟩
abbrev cX6_add : ByteArray := prog_8_method_9_code
def yX6_add : MethodName := ⟨RX6, "add", "(JJ)V"⟩
abbrev cX6_part : ByteArray := prog_8_method_10_code
def yX6_part : MethodName := ⟨RX6, "part", "(I)J"⟩
abbrev cX6_power : ByteArray := prog_8_method_11_code
def yX6_power : MethodName := ⟨RX6, "power", "(JI)J"⟩
abbrev cX6_factorial : ByteArray := prog_8_method_12_code
def yX6_factorial : MethodName := ⟨RX6, "factorial", "(I)J"⟩
abbrev cX6_isPlace : ByteArray := prog_8_method_13_code
def yX6_isPlace : MethodName := ⟨RX6, "isPlace", "(I)Z"⟩
abbrev cX6_isPower : ByteArray := prog_8_method_14_code
def yX6_isPower : MethodName := ⟨RX6, "isPower", "(II)Z"⟩
abbrev cX6_begin : ByteArray := prog_8_method_15_code
def yX6_begin : MethodName := ⟨RX6, "begin", "(III)I"⟩
abbrev cX6_momentOf : ByteArray := prog_8_method_16_code
def yX6_momentOf : MethodName := ⟨RX6, "momentOf", "(II)V"⟩
abbrev cX6_sumOf : ByteArray := prog_8_method_17_code
def yX6_sumOf : MethodName := ⟨RX6, "sumOf", "(II)V"⟩
abbrev cX6_errorOf : ByteArray := prog_8_method_18_code
def yX6_errorOf : MethodName := ⟨RX6, "errorOf", "(II)V"⟩
abbrev cX6_isWhich : ByteArray := prog_8_method_19_code
def yX6_isWhich : MethodName := ⟨RX6, "isWhich", "(I)Z"⟩
abbrev cX6_moment : ByteArray := prog_8_method_20_code
def yX6_moment : MethodName := ⟨RX6, "moment", "(III)J"⟩
abbrev cX6_sum : ByteArray := prog_8_method_21_code
def yX6_sum : MethodName := ⟨RX6, "sum", "(III)J"⟩
abbrev cX6_error : ByteArray := prog_8_method_22_code
def yX6_error : MethodName := ⟨RX6, "error", "(III)J"⟩
abbrev cX6_take : ByteArray := prog_8_method_23_code
def yX6_take : MethodName := ⟨RX6, "take", "(II)V"⟩
abbrev cX6_findOrbit : ByteArray := prog_8_method_24_code
def yX6_findOrbit : MethodName := ⟨RX6, "findOrbit", "(III)V"⟩
abbrev cX6_isIn : ByteArray := prog_8_method_25_code
def yX6_isIn : MethodName := ⟨RX6, "isIn", "(III)Z"⟩
abbrev cX6_placeAt : ByteArray := prog_8_method_26_code
def yX6_placeAt : MethodName := ⟨RX6, "placeAt", "(II)I"⟩
abbrev cX6_isGrid : ByteArray := prog_8_method_27_code
def yX6_isGrid : MethodName := ⟨RX6, "isGrid", "(II)Z"⟩
abbrev cX6_isWeight : ByteArray := prog_8_method_28_code
def yX6_isWeight : MethodName := ⟨RX6, "isWeight", "(J)Z"⟩
abbrev cX6_against : ByteArray := prog_8_method_29_code
def yX6_against : MethodName := ⟨RX6, "against", "(III)I"⟩
abbrev cX6_lay : ByteArray := prog_8_method_30_code
def yX6_lay : MethodName := ⟨RX6, "lay", "(III)I"⟩
abbrev cX6_place : ByteArray := prog_8_method_31_code
def yX6_place : MethodName := ⟨RX6, "place", "(III)I"⟩
abbrev cX6_orbit : ByteArray := prog_8_method_32_code
def yX6_orbit : MethodName := ⟨RX6, "orbit", "(III)I"⟩
abbrev cX6_places : ByteArray := prog_8_method_33_code
def yX6_places : MethodName := ⟨RX6, "places", "(IIII)I"⟩
abbrev cX6_drop : ByteArray := prog_8_method_34_code
def yX6_drop : MethodName := ⟨RX6, "drop", "(I)I"⟩
abbrev cX6_orbitSize : ByteArray := prog_8_method_35_code
def yX6_orbitSize : MethodName := ⟨RX6, "orbitSize", "(I)I"⟩
abbrev cX6_isInside : ByteArray := prog_8_method_36_code
def yX6_isInside : MethodName := ⟨RX6, "isInside", "(I)Z"⟩
abbrev cX6_about : ByteArray := prog_8_method_37_code
def yX6_about : MethodName := ⟨RX6, "about", "(II)I"⟩
abbrev cX6_isRight : ByteArray := prog_8_method_38_code
def yX6_isRight : MethodName := ⟨RX6, "isRight", "(I)Z"⟩
abbrev cX6_degree : ByteArray := prog_8_method_39_code
def yX6_degree : MethodName := ⟨RX6, "degree", "()I"⟩
abbrev cX6_first : ByteArray := prog_8_method_40_code
def yX6_first : MethodName := ⟨RX6, "first", "(I)I"⟩
abbrev cX6_isEven : ByteArray := prog_8_method_41_code
def yX6_isEven : MethodName := ⟨RX6, "isEven", "(I)Z"⟩
abbrev cX6_is : ByteArray := prog_8_method_42_code
def yX6_is : MethodName := ⟨RX6, "is", "(I)I"⟩
abbrev cX6_least : ByteArray := prog_8_method_43_code
def yX6_least : MethodName := ⟨RX6, "least", "(I)I"⟩
abbrev cX6_keep : ByteArray := prog_8_method_44_code
def yX6_keep : MethodName := ⟨RX6, "keep", "(I)I"⟩
abbrev cX6_load : ByteArray := prog_8_method_45_code
def yX6_load : MethodName := ⟨RX6, "load", "(I)I"⟩
abbrev cX6_farOf : ByteArray := prog_8_method_46_code
def yX6_farOf : MethodName := ⟨RX6, "farOf", "(III)I"⟩
abbrev cX6_findReps : ByteArray := prog_8_method_47_code
def yX6_findReps : MethodName := ⟨RX6, "findReps", "(I)V"⟩
abbrev cX6_haveWeights : ByteArray := prog_8_method_48_code
def yX6_haveWeights : MethodName := ⟨RX6, "haveWeights", "(III)Z"⟩
abbrev cX6_layPair : ByteArray := prog_8_method_49_code
def yX6_layPair : MethodName := ⟨RX6, "layPair", "(III)V"⟩
abbrev cX6_putAside : ByteArray := prog_8_method_50_code
def yX6_putAside : MethodName := ⟨RX6, "putAside", "()V"⟩
abbrev cX6_takeBack : ByteArray := prog_8_method_51_code
def yX6_takeBack : MethodName := ⟨RX6, "takeBack", "()V"⟩
abbrev cX6_pair : ByteArray := prog_8_method_52_code
def yX6_pair : MethodName := ⟨RX6, "pair", "(II)I"⟩
abbrev cX6_term : ByteArray := prog_8_method_53_code
def yX6_term : MethodName := ⟨RX6, "term", "(II)J"⟩
abbrev cX6_termOf : ByteArray := prog_8_method_54_code
def yX6_termOf : MethodName := ⟨RX6, "termOf", "(II)I"⟩
abbrev cX6_whole : ByteArray := prog_8_method_55_code
def yX6_whole : MethodName := ⟨RX6, "whole", "(I)J"⟩
abbrev cX6_valueAt : ByteArray := prog_8_method_56_code
def yX6_valueAt : MethodName := ⟨RX6, "valueAt", "(JJJ)J"⟩
abbrev cX6_byRule : ByteArray := prog_8_method_57_code
def yX6_byRule : MethodName := ⟨RX6, "byRule", "(II)J"⟩
abbrev cX6_sheet : ByteArray := prog_8_method_58_code
def yX6_sheet : MethodName := ⟨RX6, "sheet", "(III)I"⟩
abbrev cX6_lose : ByteArray := prog_8_method_59_code
def yX6_lose : MethodName := ⟨RX6, "lose", "(I)I"⟩
abbrev cX6_put : ByteArray := prog_8_method_60_code
def yX6_put : MethodName := ⟨RX6, "put", "(III)I"⟩
abbrev cX6_at : ByteArray := prog_8_method_61_code
def yX6_at : MethodName := ⟨RX6, "at", "(III)J"⟩
abbrev cX6_begins : ByteArray := prog_8_method_62_code
def yX6_begins : MethodName := ⟨RX6, "begins", "(I)V"⟩
abbrev cX6_tell : ByteArray := prog_8_method_63_code
def yX6_tell : MethodName := ⟨RX6, "tell", "(I)I"⟩
abbrev cX6_count : ByteArray := prog_8_method_64_code
def yX6_count : MethodName := ⟨RX6, "count", "(I)I"⟩
abbrev cX6_as : ByteArray := prog_8_method_65_code
def yX6_as : MethodName := ⟨RX6, "as", "(II)I"⟩
abbrev cX6_trace : ByteArray := prog_8_method_66_code
def yX6_trace : MethodName := ⟨RX6, "trace", "()I"⟩
abbrev cX6_fault : ByteArray := prog_8_method_67_code
def yX6_fault : MethodName := ⟨RX6, "fault", "()I"⟩
abbrev cX6_told : ByteArray := prog_8_method_68_code
def yX6_told : MethodName := ⟨RX6, "told", "(I)I"⟩
def RJ9 : String := "java/lang/Math"
def TJ9 : u_T := fun k => match k with
  | _ => ("", "", "", false)
def tyJ9 : Nat → FieldType := fun k => match k with
  | _ => .int
abbrev wsJ90 : List Cond := u_ws RJ9 TJ9 0
theorem nmJ9 : ∀ a, a < 0 → ∀ b, b < 0 → a ≠ b → (TJ9 a).2.1 ≠ (TJ9 b).2.1 := by decide +kernel
theorem tyJ9_ok : ∀ k, k < 0 → parseFieldDescriptor (TJ9 k).2.2.1 = some (tyJ9 k) := by decide +kernel
abbrev cJ9_abs_0f7a4 : ByteArray := prog_9_method_59_code
def yJ9_abs_0f7a4 : MethodName := ⟨RJ9, "abs", "(I)I"⟩
abbrev cJ9_abs_067f4 : ByteArray := prog_9_method_61_code
def yJ9_abs_067f4 : MethodName := ⟨RJ9, "abs", "(J)J"⟩
def RJ10 : String := "java/lang/System"
def TJ10 : u_T := fun k => match k with
  | _ => ("", "", "", false)
def tyJ10 : Nat → FieldType := fun k => match k with
  | _ => .int
abbrev wsJ100 : List Cond := u_ws RJ10 TJ10 0
theorem nmJ10 : ∀ a, a < 0 → ∀ b, b < 0 → a ≠ b → (TJ10 a).2.1 ≠ (TJ10 b).2.1 := by decide +kernel
theorem tyJ10_ok : ∀ k, k < 0 → parseFieldDescriptor (TJ10 k).2.2.1 = some (tyJ10 k) := by decide +kernel
def RJ7 : String := "java/util/Arrays"
def TJ7 : u_T := fun k => match k with
  | _ => ("", "", "", false)
def tyJ7 : Nat → FieldType := fun k => match k with
  | _ => .int
abbrev wsJ70 : List Cond := u_ws RJ7 TJ7 0
theorem nmJ7 : ∀ a, a < 0 → ∀ b, b < 0 → a ≠ b → (TJ7 a).2.1 ≠ (TJ7 b).2.1 := by decide +kernel
theorem tyJ7_ok : ∀ k, k < 0 → parseFieldDescriptor (TJ7 k).2.2.1 = some (tyJ7 k) := by decide +kernel
abbrev cJ7_fill_d0a16 : ByteArray := prog_11_method_101_code
def yJ7_fill_d0a16 : MethodName := ⟨RJ7, "fill", "([JJ)V"⟩
abbrev cJ7_fill_53178 : ByteArray := prog_11_method_103_code
def yJ7_fill_53178 : MethodName := ⟨RJ7, "fill", "([II)V"⟩
def RL : String := "FewPlacesLaw"
abbrev cL_law : ByteArray := code
def yL_law : MethodName := ⟨RL, "law", "([I)Z"⟩
abbrev vwCl : List vw_C := [(RX0, TX0, 2), (RX1, TX1, 19), (RX2, TX2, 3), (RX3, TX3, 7), (RX4, TX4, 3), (RX5, TX5, 15), (RX6, TX6, 40)]
